def fX4_readsEvent_c39 (v : Mem) (p0 : Int32) (p1 : Int32)  (w39 : Mem) (z0 : Int32) : Int32 × Mem :=
  (if 0 ≤ z0 then (1, (mset (mset w39 5 (w39 0 8).toNatClampNeg z0) 0 8 (((mset w39 5 (w39 0 8).toNatClampNeg z0) 0 8) + 1))) else (0, w39))
def fX4_readsEvent (v : Mem) (p0 : Int32) (p1 : Int32) : Int32 × Mem :=
  (if (v 0 8) = 5 then (0, v) else (if (fX4_codeAt v p0 p1) = 47 then (fX4_readsEvent_c39 v p0 p1 ((fX4_figure (mset v 0 7 ((v 0 7) + 1)) p0 p1 9).2) ((fX4_figure (mset v 0 7 ((v 0 7) + 1)) p0 p1 9).1)) else (0, v)))
set_option maxRecDepth 100000 in
set_option maxHeartbeats 4000000 in
theorem kX4_readsEvent (l : Launch) (D : va_G) (cz : ClassId) (bd : Nat → Nat) (hI : MI bd) (v : Mem) (p0 : Int32) (p1 : Int32) (hca : CaOk v p0 p1) (hre : ∃ e : Nat, e ≤ 5 ∧ v 0 8 = nI e) : Met l yX4_readsEvent wsX4_readsEvent ({ frames := 2, cells := 0, slots := 0, locals := 50 } : Room) (va_Pc [.ref (bd 0), .int p0, .int p1] (MB D cz bd v)) (qW (MB D cz bd (fX4_readsEvent v p0 p1).2) (AM bd) (some (.int (fX4_readsEvent v p0 p1).1))) 0 0 (AM bd) := by
  refine m_start (cc := cX4_readsEvent) (maxL := 4) (ret := (some .boolean)) (by decide) rfl (Nat.le_of_ble_eq_true rfl) (fun p e s m below meth c hx hb hr hts hown hml hlk _ hB ls hl => ?_)
  obtain ⟨hP, hK⟩ := hB
  have hown : s.vm.findClass RX4 = some m.cls := hown
  have hl : lv_has ls 4 [(0, .ref (bd 0)), (1, .int p0), (2, .int p1)] := hl
  have hin_X4 : ∀ w ∈ wsX40, w ∈ wsX4_readsEvent := fun _ h => List.mem_cons_of_mem _ (List.mem_append_right _ (h))
  obtain ⟨H, hH⟩ : ∃ H, H = s.heap := ⟨_, rfl⟩
  obtain ⟨locs, hlo⟩ : ∃ z : List Loc, z = [] := ⟨_, rfl⟩
  have hS : va_S (AM bd) s.heap H locs := by rw [hH, hlo]; exact va_S.rf
  have hP : va_P D vwCl (wM cz bd v) H := by rw [hH]; exact hP
  suffices hgoal : W p l e ({ frames := 2, cells := 0, slots := 0, locals := 50 } : Room) s m ([.ref (bd 0), .int p0, .int p1] : List Value).toArray below meth c H locs 0 0 (MQ below (qW (MB D cz bd (fX4_readsEvent v p0 p1).2) (AM bd) (some (.int (fX4_readsEvent v p0 p1).1))) ([.ref (bd 0), .int p0, .int p1] : List Value).toArray s 0 0 (AM bd)) (F0 m 0 ls []) by rw [hH, hlo] at hgoal; exact hgoal
  clear hH hlo
  have sg39 : ∀ (w39 : Mem) (z0 : Int32), (fX4_readsEvent v p0 p1) = (fX4_readsEvent_c39 v p0 p1 w39 z0) → (w39 0 8 = v 0 8) → (¬ v 0 8 = 5) → ∀ (H : Heap) (locs : List Loc), va_P D vwCl (wM cz bd w39) H → va_S (AM bd) s.heap H locs → ∀ ls : Array Slot, lv_has ls 4 [(0, .ref (bd 0))] → W p l e ({ frames := 2, cells := 0, slots := 0, locals := 50 } : Room) s m ([.ref (bd 0), .int p0, .int p1] : List Value).toArray below meth c H locs 0 0 (MQ below (qW (MB D cz bd (fX4_readsEvent v p0 p1).2) (AM bd) (some (.int (fX4_readsEvent v p0 p1).1))) ([.ref (bd 0), .int p0, .int p1] : List Value).toArray s 0 0 (AM bd)) (F0 m 39 ls [.int z0]) := by
    intro w39 z0 hr39 h39 h5 H locs hP hS ls hl
    refine lv_istore_n (lv' := [(3, .int z0), (0, .ref (bd 0))]) hx hb dX4_readsEvent_39 rfl hl (by decide) rfl (fun ls hl => ?_)
    refine lv_iload_n hx hb dX4_readsEvent_40 rfl (lv_at hl 0 rfl) ?_
    refine lv_if_ge (tgt := 46) hx hb dX4_readsEvent_41 (by decide) (fun c1 => ?_) (fun c1 => ?_)
    · have hv8 : vp_in (w39 0 8) 5 := ne_in5 hre h39 h5
      refine lv_aload_n hx hb dX4_readsEvent_46 rfl (lv_at hl 1 rfl) ?_
      refine zg_X4_readChance hx hb hts hin_X4 hown hK hP (hts (Cond.fieldLink RX4 22 "ProphetCoverModel" "readChance" "[I") (List.mem_of_getElem? (i := 3) rfl)) dX4_readsEvent_47 ?_
      refine lv_aload_n hx hb dX4_readsEvent_50 rfl (lv_at hl 1 rfl) ?_
      refine zg_X4_readEvents hx hb hts hin_X4 hown hK hP (hts (Cond.fieldLink RX4 86 "ProphetCoverModel" "readEvents" "I") (List.mem_of_getElem? (i := 1) rfl)) dX4_readsEvent_51 ?_
      refine lv_iload_n hx hb dX4_readsEvent_54 rfl (lv_at hl 0 rfl) ?_
      refine zs_M (by decide) (by decide) rfl hx hb hK hP hI hS (by assumption) dX4_readsEvent_55 (fun H locs hP hS => ?_)
      refine lv_aload_n hx hb dX4_readsEvent_56 rfl (lv_at hl 1 rfl) ?_
      refine lv_dup hx hb dX4_readsEvent_57 rfl ?_
      refine zg_X4_readEvents hx hb hts hin_X4 hown hK hP (hts (Cond.fieldLink RX4 86 "ProphetCoverModel" "readEvents" "I") (List.mem_of_getElem? (i := 1) rfl)) dX4_readsEvent_58 ?_
      refine lv_iconst (v := 1) hx hb dX4_readsEvent_61 (by decide) ?_
      refine lv_iadd hx hb dX4_readsEvent_62 ?_
      refine zp_X4_readEvents hx hb hts hin_X4 hown hK hP hI hS (hts (Cond.fieldLink RX4 86 "ProphetCoverModel" "readEvents" "I") (List.mem_of_getElem? (i := 1) rfl)) dX4_readsEvent_63 (fun H locs hP hS => ?_)
      refine lv_iconst (v := 1) hx hb dX4_readsEvent_66 (by decide) ?_
      exact rMZ hx hb hr hlk hK hP hS (by rfl) dX4_readsEvent_67 (by rw [hr39, fX4_readsEvent_c39, if_pos c1])
    · refine lv_iconst (v := 0) hx hb dX4_readsEvent_44 (by decide) ?_
      exact rMZ hx hb hr hlk hK hP hS (by rfl) dX4_readsEvent_45 (by rw [hr39, fX4_readsEvent_c39, if_neg c1])
  refine lv_aload_n hx hb dX4_readsEvent_0 rfl (lv_at hl 0 rfl) ?_
  refine zg_X4_readEvents hx hb hts hin_X4 hown hK hP (hts (Cond.fieldLink RX4 86 "ProphetCoverModel" "readEvents" "I") (List.mem_of_getElem? (i := 1) rfl)) dX4_readsEvent_1 ?_
  refine lv_iconst (v := 5) hx hb dX4_readsEvent_4 (by decide) ?_
  refine lv_icmp_eq (tgt := 19) hx hb dX4_readsEvent_5 (by decide) (fun c2 => ?_) (fun c2 => ?_)
  · refine lv_iconst (v := 0) hx hb dX4_readsEvent_19 (by decide) ?_
    exact rMZ hx hb hr hlk hK hP hS (by rfl) dX4_readsEvent_20 (by rw [fX4_readsEvent, if_pos c2])
  · refine lv_aload_n hx hb dX4_readsEvent_8 rfl (lv_at hl 0 rfl) ?_
    refine lv_iload_n hx hb dX4_readsEvent_9 rfl (lv_at hl 1 rfl) ?_
    refine lv_iload_n hx hb dX4_readsEvent_10 rfl (lv_at hl 2 rfl) ?_
    refine kV (n := 2) (As := [.int p0, .int p1]) (rest := []) ⟨hx, hb, hml, hown, hts⟩ (kX4_codeAt l D cz bd v p0 p1 (by assumption)) gX4_readsEvent_X4_codeAt rfl rfl rfl (by decide +kernel) ⟨Nat.le_of_ble_eq_true rfl, Nat.le_of_ble_eq_true rfl⟩ (recvM hP hK) (MB_of hP hK) MB_bl rfl hl.1 rfl (Nat.le_of_ble_eq_true rfl) dX4_readsEvent_11 ⟨Nat.le_refl _, Nat.le_refl _⟩ ?_
    refine lv_bipush (v := 47) hx hb dX4_readsEvent_14 (by decide) ?_
    refine lv_icmp_eq (tgt := 21) hx hb dX4_readsEvent_16 (by decide) (fun c3 => ?_) (fun c3 => ?_)
    · refine lv_aload_n hx hb dX4_readsEvent_21 rfl (lv_at hl 0 rfl) ?_
      refine lv_dup hx hb dX4_readsEvent_22 rfl ?_
      refine zg_X4_readAt hx hb hts hin_X4 hown hK hP (hts (Cond.fieldLink RX4 79 "ProphetCoverModel" "readAt" "I") (List.mem_of_getElem? (i := 2) rfl)) dX4_readsEvent_23 ?_
      refine lv_iconst (v := 1) hx hb dX4_readsEvent_26 (by decide) ?_
      refine lv_iadd hx hb dX4_readsEvent_27 ?_
      refine zp_X4_readAt hx hb hts hin_X4 hown hK hP hI hS (hts (Cond.fieldLink RX4 79 "ProphetCoverModel" "readAt" "I") (List.mem_of_getElem? (i := 2) rfl)) dX4_readsEvent_28 (fun H locs hP hS => ?_)
      have hca2 : CaOk (mset v 0 7 ((v 0 7) + 1)) p0 p1 := CaOk_inc hca (by assumption) (by decide)
      refine lv_aload_n hx hb dX4_readsEvent_31 rfl (lv_at hl 0 rfl) ?_
      refine lv_iload_n hx hb dX4_readsEvent_32 rfl (lv_at hl 1 rfl) ?_
      refine lv_iload_n hx hb dX4_readsEvent_33 rfl (lv_at hl 2 rfl) ?_
      refine lv_bipush (v := 9) hx hb dX4_readsEvent_34 (by decide) ?_
      refine kWM (n := 3) (As := [.int p0, .int p1, .int 9]) (rest := []) ⟨hx, hb, hml, hown, hts⟩ (kX4_figure l D cz bd hI (mset v 0 7 ((v 0 7) + 1)) p0 p1 9 (by assumption)) gX4_readsEvent_X4_figure rfl rfl rfl (by decide +kernel) ⟨Nat.le_of_ble_eq_true rfl, Nat.le_of_ble_eq_true rfl⟩ (recvM hP hK) hP hK hS rfl hl.1 rfl (Nat.le_of_ble_eq_true rfl) dX4_readsEvent_36 ⟨Nat.le_refl _, Nat.le_refl _⟩ (fun H locs hP hS => ?_)
      exact sg39 ((fX4_figure (mset v 0 7 ((v 0 7) + 1)) p0 p1 9).2) ((fX4_figure (mset v 0 7 ((v 0 7) + 1)) p0 p1 9).1)  (by rw [fX4_readsEvent, if_neg c2, if_pos c3]) (fig_keep (by decide)) (by assumption) H locs hP hS ls (lv_sub hl [0] rfl)
    · refine lv_iconst (v := 0) hx hb dX4_readsEvent_19 (by decide) ?_
      exact rMZ hx hb hr hlk hK hP hS (by rfl) dX4_readsEvent_20 (by rw [fX4_readsEvent, if_neg c2, if_neg c3])
theorem re_cases (v : Mem) (f n : Int32) : ((fX4_readsEvent v f n).1 = 0 ∧ (v 0 8 = 5 ∨ ¬ fX4_codeAt v f n = 47) ∧ (fX4_readsEvent v f n).2 = v) ∨ (¬ v 0 8 = 5 ∧ fX4_codeAt v f n = 47 ∧ (((fX4_readsEvent v f n).1 = 0 ∧ ¬ 0 ≤ (fX4_figure (mset v 0 7 (v 0 7 + 1)) f n 9).1 ∧ (fX4_readsEvent v f n).2 = (fX4_figure (mset v 0 7 (v 0 7 + 1)) f n 9).2) ∨ ((fX4_readsEvent v f n).1 = 1 ∧ 0 ≤ (fX4_figure (mset v 0 7 (v 0 7 + 1)) f n 9).1 ∧ (fX4_readsEvent v f n).2 = mset (mset (fX4_figure (mset v 0 7 (v 0 7 + 1)) f n 9).2 5 (v 0 8).toNatClampNeg (fX4_figure (mset v 0 7 (v 0 7 + 1)) f n 9).1) 0 8 (v 0 8 + 1)))) := by
  rw [fX4_readsEvent]
  by_cases c1 : v 0 8 = 5
  · rw [if_pos c1]
    exact Or.inl ⟨rfl, Or.inl c1, rfl⟩
  rw [if_neg c1]
  by_cases c2 : fX4_codeAt v f n = 47
  · rw [if_pos c2, fX4_readsEvent_c39]
    refine Or.inr ⟨c1, c2, ?_⟩
    by_cases c3 : 0 ≤ (fX4_figure (mset v 0 7 (v 0 7 + 1)) f n 9).1
    · rw [if_pos c3]
      refine Or.inr ⟨rfl, c3, ?_⟩
      rw [mset_ne (show (0 : Nat) ≠ 5 by decide), fig_keep (show (8 : Nat) ≠ 7 by decide), mset_nei (show (8 : Nat) ≠ 7 by decide)]
    · rw [if_neg c3]
      exact Or.inl ⟨rfl, c3, rfl⟩
  · rw [if_neg c2]
    exact Or.inl ⟨rfl, Or.inr c2, rfl⟩
theorem re_step {w : Mem} {f n x : Int32} {k m : Nat} (g : CaOk w f n) (e : w 0 8 = nI k) (hk : k ≤ 5) (hm : 7 ≤ k + (m + 1) ∨ (x = 0 ∧ 1 ≤ m + 1)) (hx : ¬ x = 0) : ∃ kq : Nat, kq ≤ 5 ∧ (fX4_readsEvent w f n).2 0 8 = nI kq ∧ CaOk (fX4_readsEvent w f n).2 f n ∧ ((fX4_readsEvent w f n).1 = 0 ∨ (fX4_readsEvent w f n).1 = 1) ∧ (fX4_readsEvent w f n).2 0 9 = w 0 9 ∧ (7 ≤ kq + m ∨ ((fX4_readsEvent w f n).1 = 0 ∧ 1 ≤ m)) := by
  have hm7 : 7 ≤ k + (m + 1) := hm.elim (fun q => q) (fun q => absurd q.1 hx)
  rcases re_cases w f n with ⟨r0, -, e2⟩ | ⟨c1, c2, ⟨r0, -, e2⟩ | ⟨r1, -, e2⟩⟩
  · rw [e2]
    exact ⟨k, hk, e, g, Or.inl r0, rfl, Or.inr ⟨r0, by omega⟩⟩
  · rw [e2]
    exact ⟨k, hk, by rw [fig_keep (by decide), mset_nei (by decide), e], CaOk_fig (CaOk_inc g c2 (by decide)), Or.inl r0, by rw [fig_keep (by decide), mset_nei (by decide)], Or.inr ⟨r0, by omega⟩⟩
  · have hk5 : k < 5 := by
      rcases Nat.lt_or_ge k 5 with q | q
      · exact q
      · exact absurd (by rw [e, show k = 5 by omega]; rfl) c1
    obtain ⟨r, a, b, g1, g2⟩ := CaOk_fig (m := 9) (CaOk_inc g c2 (by decide))
    rw [e2]
    refine ⟨k + 1, by omega, by rw [mset_at, e]; exact nI_1 k, ⟨r, a, b, by rw [mset_nei (by decide), mset_ne (by decide)]; exact g1, g2⟩, Or.inr r1, ?_, Or.inl (by omega)⟩
    rw [mset_nei (by decide), mset_ne (by decide), fig_keep (by decide), mset_nei (by decide)]
theorem re_spec {w : Mem} {a b r e : Nat} (h : PosOk w a b r) (he : w 0 8 = nI e) (h5 : e < 5) :
    (¬ (r < b ∧ w 14 (a + r) = 47) ∧ fX4_readsEvent w (nI a) (nI b) = (0, w)) ∨
    ((r < b ∧ w 14 (a + r) = 47) ∧ ¬ (r + 1 < b ∧ fX3_isDigit (w 14 (a + (r + 1))) 9 = 1) ∧ fX4_readsEvent w (nI a) (nI b) = (0, mset w 0 7 (nI (r + 1)))) ∨
    ((r < b ∧ w 14 (a + r) = 47) ∧ (r + 1 < b ∧ fX3_isDigit (w 14 (a + (r + 1))) 9 = 1) ∧ ∃ W, fX4_readsEvent w (nI a) (nI b) = (1, W) ∧ W 0 7 = nI (r + 2) ∧ W 0 8 = nI (e + 1) ∧ W 5 e = w 14 (a + (r + 1)) - 48 ∧ ∀ x y, ¬ (x = 0 ∧ (y = 7 ∨ y = 8)) → ¬ (x = 5 ∧ y = e) → W x y = w x y) := by
  have hc := code_at h
  have h0 := h
  obtain ⟨h1, h2, h3, h4⟩ := h
  rw [fX4_readsEvent, he, if_neg (show ¬ nI e = 5 from fun z => by have := (nI_eq (a := e) (b := 5) (by omega) (by omega)).mp z; omega), hc, h1, nI_1]
  by_cases q : b ≤ r
  · rw [if_pos q, if_neg (by decide)]
    exact Or.inl ⟨fun z => by omega, rfl⟩
  rw [if_neg q]
  by_cases q2 : w 14 (a + r) = 47
  · rw [if_pos q2]
    have hP : PosOk (mset w 0 7 (nI (r + 1))) a b (r + 1) := ⟨mset_at, by omega, h3, h4⟩
    have e14 : (mset w 0 7 (nI (r + 1))) 14 (a + (r + 1)) = w 14 (a + (r + 1)) := by rw [mset_ne (by decide)]
    rcases fig_step (m := 9) (M := 9) hP (by decide) (by omega) with ⟨f1, f2, f3⟩ | ⟨f1, f2⟩
    · rw [e14] at f2 f3
      obtain ⟨d, hd, ed, ed2⟩ := dig_ex (m := 9) (by decide) (by omega) f2
      rw [f3, fX4_readsEvent_c39]
      dsimp only
      rw [ed2, if_pos (nI_pos' (by omega))]
      have g8 : mset (mset w 0 7 (nI (r + 1))) 0 7 (nI (r + 1 + 1)) 0 8 = nI e := by
        rw [mset_nei (by decide), mset_nei (by decide), he]
      rw [g8, nI_clamp (by omega), mset_ne (show (0 : Nat) ≠ 5 by decide), g8, nI_1]
      refine Or.inr (Or.inr ⟨⟨by omega, q2⟩, ⟨f1, f2⟩, _, rfl, ?_, mset_at, ?_, ?_⟩)
      · rw [mset_nei (by decide), mset_ne (show (0 : Nat) ≠ 5 by decide), mset_at]
      · rw [mset_ne (show (5 : Nat) ≠ 0 by decide), mset_at]
      · intro x y z1 z2
        rw [mset_oo (by omega), mset_oo z2, mset_oo (by omega), mset_oo (by omega)]
    · rw [e14] at f1
      rw [f2, fX4_readsEvent_c39]
      dsimp only
      rw [if_neg (by decide)]
      exact Or.inr (Or.inl ⟨⟨by omega, q2⟩, f1, rfl⟩)
  · rw [if_neg q2]
    exact Or.inl ⟨fun z => q2 z.2, rfl⟩
theorem re_full {w : Mem} {f n : Int32} (he : w 0 8 = 5) : fX4_readsEvent w f n = (0, w) := by
  rw [fX4_readsEvent, if_pos he]
theorem re_any {w : Mem} {f n : Int32} {e : Nat} (g : CaOk w f n) (he : w 0 8 = nI e) (h5 : e ≤ 5) :
    ∃ eq : Nat, eq ≤ 5 ∧ (fX4_readsEvent w f n).2 0 8 = nI eq ∧ CaOk (fX4_readsEvent w f n).2 f n ∧ (fX4_readsEvent w f n).2 0 9 = w 0 9 := by
  rcases Nat.lt_or_ge e 5 with h | h
  · obtain ⟨r, a, b, e1, ef, en, h1, h2, h3⟩ := g
    subst ef
    subst en
    rcases re_spec (w := w) (a := a) (b := b) (r := r) (e := e) ⟨e1, h1, h2, h3⟩ he h with ⟨-, q⟩ | ⟨z, -, q⟩ | ⟨z, y, W, q, w1, w2, w3, w4⟩
    · rw [q]
      exact ⟨e, h5, he, ⟨r, a, b, e1, rfl, rfl, h1, h2, h3⟩, rfl⟩
    · rw [q]
      dsimp only
      exact ⟨e, h5, (mset_nei (by decide)).trans he, ⟨r + 1, a, b, mset_at, rfl, rfl, by omega, h2, h3⟩, mset_nei (by decide)⟩
    · rw [q]
      exact ⟨e + 1, h, w2, ⟨r + 2, a, b, w1, rfl, rfl, by omega, h2, h3⟩, w4 0 9 (by omega) (by omega)⟩
  · have : e = 5 := by omega
    subst this
    rw [re_full he]
    exact ⟨5, h5, he, g, rfl⟩
def fX4_readsProphet_c125 (v : Mem) (p0 : Int32) (p1 : Int32)  (w125 : Mem) (x3 : Int32) (x4 : Int32) (x5 : Int32) (z0 : Int32) : Int32 × Mem :=
  (if 0 ≤ z0 then (if x3 = 109 then (1, (mset (mset (mset (mset w125 6 (w125 0 9).toNatClampNeg 0) 7 ((mset w125 6 (w125 0 9).toNatClampNeg 0) 0 9).toNatClampNeg x4) 8 ((mset (mset w125 6 (w125 0 9).toNatClampNeg 0) 7 ((mset w125 6 (w125 0 9).toNatClampNeg 0) 0 9).toNatClampNeg x4) 0 9).toNatClampNeg ((10 * x5) + z0)) 0 9 (((mset (mset (mset w125 6 (w125 0 9).toNatClampNeg 0) 7 ((mset w125 6 (w125 0 9).toNatClampNeg 0) 0 9).toNatClampNeg x4) 8 ((mset (mset w125 6 (w125 0 9).toNatClampNeg 0) 7 ((mset w125 6 (w125 0 9).toNatClampNeg 0) 0 9).toNatClampNeg x4) 0 9).toNatClampNeg ((10 * x5) + z0)) 0 9) + 1))) else (if x3 = 115 then (1, (mset (mset (mset (mset w125 6 (w125 0 9).toNatClampNeg 1) 7 ((mset w125 6 (w125 0 9).toNatClampNeg 1) 0 9).toNatClampNeg x4) 8 ((mset (mset w125 6 (w125 0 9).toNatClampNeg 1) 7 ((mset w125 6 (w125 0 9).toNatClampNeg 1) 0 9).toNatClampNeg x4) 0 9).toNatClampNeg ((10 * x5) + z0)) 0 9 (((mset (mset (mset w125 6 (w125 0 9).toNatClampNeg 1) 7 ((mset w125 6 (w125 0 9).toNatClampNeg 1) 0 9).toNatClampNeg x4) 8 ((mset (mset w125 6 (w125 0 9).toNatClampNeg 1) 7 ((mset w125 6 (w125 0 9).toNatClampNeg 1) 0 9).toNatClampNeg x4) 0 9).toNatClampNeg ((10 * x5) + z0)) 0 9) + 1))) else (1, (mset (mset (mset (mset w125 6 (w125 0 9).toNatClampNeg 2) 7 ((mset w125 6 (w125 0 9).toNatClampNeg 2) 0 9).toNatClampNeg x4) 8 ((mset (mset w125 6 (w125 0 9).toNatClampNeg 2) 7 ((mset w125 6 (w125 0 9).toNatClampNeg 2) 0 9).toNatClampNeg x4) 0 9).toNatClampNeg ((10 * x5) + z0)) 0 9 (((mset (mset (mset w125 6 (w125 0 9).toNatClampNeg 2) 7 ((mset w125 6 (w125 0 9).toNatClampNeg 2) 0 9).toNatClampNeg x4) 8 ((mset (mset w125 6 (w125 0 9).toNatClampNeg 2) 7 ((mset w125 6 (w125 0 9).toNatClampNeg 2) 0 9).toNatClampNeg x4) 0 9).toNatClampNeg ((10 * x5) + z0)) 0 9) + 1))))) else (0, w125))
def fX4_readsProphet_c95 (v : Mem) (p0 : Int32) (p1 : Int32)  (w95 : Mem) (x3 : Int32) (x4 : Int32) (z0 : Int32) : Int32 × Mem :=
  (if 0 ≤ z0 then (if z0 = 3 then (fX4_readsProphet_c125 v p0 p1 ((fX4_figure w95 p0 p1 1).2) x3 x4 z0 ((fX4_figure w95 p0 p1 1).1)) else (fX4_readsProphet_c125 v p0 p1 ((fX4_figure w95 p0 p1 9).2) x3 x4 z0 ((fX4_figure w95 p0 p1 9).1))) else (fX4_readsProphet_c125 v p0 p1 w95 x3 x4 z0 (-9)))
def fX4_readsProphet_c76 (v : Mem) (p0 : Int32) (p1 : Int32)  (w76 : Mem) (x3 : Int32) (z0 : Int32) : Int32 × Mem :=
  (if 0 ≤ z0 then (fX4_readsProphet_c95 v p0 p1 ((fX4_figure w76 p0 p1 3).2) x3 z0 ((fX4_figure w76 p0 p1 3).1)) else (fX4_readsProphet_c95 v p0 p1 w76 x3 z0 (-9)))
def fX4_readsProphet (v : Mem) (p0 : Int32) (p1 : Int32) : Int32 × Mem :=
  (if (v 0 9) = 4 then (0, v) else (if (fX4_codeAt v p0 p1) = 59 then (if (fX4_codeAt (mset v 0 7 ((v 0 7) + 1)) p0 p1) = 109 then (fX4_readsProphet_c76 v p0 p1 ((fX4_figure (mset (mset v 0 7 ((v 0 7) + 1)) 0 7 (((mset v 0 7 ((v 0 7) + 1)) 0 7) + 1)) p0 p1 9).2) (fX4_codeAt (mset v 0 7 ((v 0 7) + 1)) p0 p1) ((fX4_figure (mset (mset v 0 7 ((v 0 7) + 1)) 0 7 (((mset v 0 7 ((v 0 7) + 1)) 0 7) + 1)) p0 p1 9).1)) else (if (fX4_codeAt (mset v 0 7 ((v 0 7) + 1)) p0 p1) = 115 then (fX4_readsProphet_c76 v p0 p1 ((fX4_figure (mset (mset v 0 7 ((v 0 7) + 1)) 0 7 (((mset v 0 7 ((v 0 7) + 1)) 0 7) + 1)) p0 p1 9).2) (fX4_codeAt (mset v 0 7 ((v 0 7) + 1)) p0 p1) ((fX4_figure (mset (mset v 0 7 ((v 0 7) + 1)) 0 7 (((mset v 0 7 ((v 0 7) + 1)) 0 7) + 1)) p0 p1 9).1)) else (if (fX4_codeAt (mset v 0 7 ((v 0 7) + 1)) p0 p1) = 108 then (fX4_readsProphet_c76 v p0 p1 ((fX4_figure (mset (mset v 0 7 ((v 0 7) + 1)) 0 7 (((mset v 0 7 ((v 0 7) + 1)) 0 7) + 1)) p0 p1 9).2) (fX4_codeAt (mset v 0 7 ((v 0 7) + 1)) p0 p1) ((fX4_figure (mset (mset v 0 7 ((v 0 7) + 1)) 0 7 (((mset v 0 7 ((v 0 7) + 1)) 0 7) + 1)) p0 p1 9).1)) else (0, (mset v 0 7 ((v 0 7) + 1)))))) else (0, v)))
set_option maxRecDepth 100000 in
set_option maxHeartbeats 4000000 in
theorem kX4_readsProphet (l : Launch) (D : va_G) (cz : ClassId) (bd : Nat → Nat) (hI : MI bd) (v : Mem) (p0 : Int32) (p1 : Int32) (hca : CaOk v p0 p1) (hrp4 : ∃ e : Nat, e ≤ 4 ∧ v 0 9 = nI e) : Met l yX4_readsProphet wsX4_readsProphet ({ frames := 2, cells := 0, slots := 0, locals := 50 } : Room) (va_Pc [.ref (bd 0), .int p0, .int p1] (MB D cz bd v)) (qW (MB D cz bd (fX4_readsProphet v p0 p1).2) (AM bd) (some (.int (fX4_readsProphet v p0 p1).1))) 0 0 (AM bd) := by
  refine m_start (cc := cX4_readsProphet) (maxL := 7) (ret := (some .boolean)) (by decide) rfl (Nat.le_of_ble_eq_true rfl) (fun p e s m below meth c hx hb hr hts hown hml hlk _ hB ls hl => ?_)
  obtain ⟨hP, hK⟩ := hB
  have hown : s.vm.findClass RX4 = some m.cls := hown
  have hl : lv_has ls 7 [(0, .ref (bd 0)), (1, .int p0), (2, .int p1)] := hl
  have hin_X4 : ∀ w ∈ wsX40, w ∈ wsX4_readsProphet := fun _ h => List.mem_cons_of_mem _ (List.mem_append_right _ (h))
  obtain ⟨H, hH⟩ : ∃ H, H = s.heap := ⟨_, rfl⟩
  obtain ⟨locs, hlo⟩ : ∃ z : List Loc, z = [] := ⟨_, rfl⟩
  have hS : va_S (AM bd) s.heap H locs := by rw [hH, hlo]; exact va_S.rf
  have hP : va_P D vwCl (wM cz bd v) H := by rw [hH]; exact hP
  suffices hgoal : W p l e ({ frames := 2, cells := 0, slots := 0, locals := 50 } : Room) s m ([.ref (bd 0), .int p0, .int p1] : List Value).toArray below meth c H locs 0 0 (MQ below (qW (MB D cz bd (fX4_readsProphet v p0 p1).2) (AM bd) (some (.int (fX4_readsProphet v p0 p1).1))) ([.ref (bd 0), .int p0, .int p1] : List Value).toArray s 0 0 (AM bd)) (F0 m 0 ls []) by rw [hH, hlo] at hgoal; exact hgoal
  clear hH hlo
  have sg125 : ∀ (w125 : Mem) (x3 : Int32) (x4 : Int32) (x5 : Int32) (z0 : Int32), (fX4_readsProphet v p0 p1) = (fX4_readsProphet_c125 v p0 p1 w125 x3 x4 x5 z0) → (w125 0 9 = v 0 9) → (¬ v 0 9 = 4) → ∀ (H : Heap) (locs : List Loc), va_P D vwCl (wM cz bd w125) H → va_S (AM bd) s.heap H locs → ∀ ls : Array Slot, lv_has ls 7 [(0, .ref (bd 0)), (3, .int x3), (4, .int x4), (5, .int x5)] → W p l e ({ frames := 2, cells := 0, slots := 0, locals := 50 } : Room) s m ([.ref (bd 0), .int p0, .int p1] : List Value).toArray below meth c H locs 0 0 (MQ below (qW (MB D cz bd (fX4_readsProphet v p0 p1).2) (AM bd) (some (.int (fX4_readsProphet v p0 p1).1))) ([.ref (bd 0), .int p0, .int p1] : List Value).toArray s 0 0 (AM bd)) (F0 m 125 ls [.int z0]) := by
    intro w125 x3 x4 x5 z0 hr125 h125 i125 H locs hP hS ls hl
    refine lv_istore (lv' := [(6, .int z0), (0, .ref (bd 0)), (3, .int x3), (4, .int x4), (5, .int x5)]) hx hb dX4_readsProphet_125 hl (by decide) rfl (fun ls hl => ?_)
    refine lv_iload hx hb dX4_readsProphet_127 (lv_at hl 0 rfl) ?_
    refine lv_if_ge (tgt := 134) hx hb dX4_readsProphet_129 (by decide) (fun c1 => ?_) (fun c1 => ?_)
    · have hv9 : vp_in (w125 0 9) 4 := ne_in4 hrp4 h125 i125
      refine lv_aload_n hx hb dX4_readsProphet_134 rfl (lv_at hl 1 rfl) ?_
      refine zg_X4_readKind hx hb hts hin_X4 hown hK hP (hts (Cond.fieldLink RX4 25 "ProphetCoverModel" "readKind" "[I") (List.mem_of_getElem? (i := 3) rfl)) dX4_readsProphet_135 ?_
      refine lv_aload_n hx hb dX4_readsProphet_138 rfl (lv_at hl 1 rfl) ?_
      refine zg_X4_readProphets hx hb hts hin_X4 hown hK hP (hts (Cond.fieldLink RX4 93 "ProphetCoverModel" "readProphets" "I") (List.mem_of_getElem? (i := 1) rfl)) dX4_readsProphet_139 ?_
      refine lv_iload_n hx hb dX4_readsProphet_142 rfl (lv_at hl 2 rfl) ?_
      refine lv_bipush (v := 109) hx hb dX4_readsProphet_143 (by decide) ?_
      refine lv_icmp_ne (tgt := 152) hx hb dX4_readsProphet_145 (by decide) (fun c2 => ?_) (fun c2 => ?_)
      · refine lv_iload_n hx hb dX4_readsProphet_152 rfl (lv_at hl 2 rfl) ?_
        refine lv_bipush (v := 115) hx hb dX4_readsProphet_153 (by decide) ?_
        refine lv_icmp_ne (tgt := 162) hx hb dX4_readsProphet_155 (by decide) (fun c3 => ?_) (fun c3 => ?_)
        · refine lv_iconst (v := 2) hx hb dX4_readsProphet_162 (by decide) ?_
          refine zs_M (by decide) (by decide) rfl hx hb hK hP hI hS (by assumption) dX4_readsProphet_163 (fun H locs hP hS => ?_)
          refine lv_aload_n hx hb dX4_readsProphet_164 rfl (lv_at hl 1 rfl) ?_
          refine zg_X4_readCover hx hb hts hin_X4 hown hK hP (hts (Cond.fieldLink RX4 28 "ProphetCoverModel" "readCover" "[I") (List.mem_of_getElem? (i := 4) rfl)) dX4_readsProphet_165 ?_
          refine lv_aload_n hx hb dX4_readsProphet_168 rfl (lv_at hl 1 rfl) ?_
          refine zg_X4_readProphets hx hb hts hin_X4 hown hK hP (hts (Cond.fieldLink RX4 93 "ProphetCoverModel" "readProphets" "I") (List.mem_of_getElem? (i := 1) rfl)) dX4_readsProphet_169 ?_
          refine lv_iload hx hb dX4_readsProphet_172 (lv_at hl 3 rfl) ?_
          refine zs_M (by decide) (by decide) rfl hx hb hK hP hI hS (by assumption) dX4_readsProphet_174 (fun H locs hP hS => ?_)
          refine lv_aload_n hx hb dX4_readsProphet_175 rfl (lv_at hl 1 rfl) ?_
          refine zg_X4_readSaid hx hb hts hin_X4 hown hK hP (hts (Cond.fieldLink RX4 31 "ProphetCoverModel" "readSaid" "[I") (List.mem_of_getElem? (i := 5) rfl)) dX4_readsProphet_176 ?_
          refine lv_aload_n hx hb dX4_readsProphet_179 rfl (lv_at hl 1 rfl) ?_
          refine zg_X4_readProphets hx hb hts hin_X4 hown hK hP (hts (Cond.fieldLink RX4 93 "ProphetCoverModel" "readProphets" "I") (List.mem_of_getElem? (i := 1) rfl)) dX4_readsProphet_180 ?_
          refine lv_bipush (v := 10) hx hb dX4_readsProphet_183 (by decide) ?_
          refine lv_iload hx hb dX4_readsProphet_185 (lv_at hl 4 rfl) ?_
          refine lv_imul hx hb dX4_readsProphet_187 ?_
          refine lv_iload hx hb dX4_readsProphet_188 (lv_at hl 0 rfl) ?_
          refine lv_iadd hx hb dX4_readsProphet_190 ?_
          refine zs_M (by decide) (by decide) rfl hx hb hK hP hI hS (by assumption) dX4_readsProphet_191 (fun H locs hP hS => ?_)
          refine lv_aload_n hx hb dX4_readsProphet_192 rfl (lv_at hl 1 rfl) ?_
          refine lv_dup hx hb dX4_readsProphet_193 rfl ?_
          refine zg_X4_readProphets hx hb hts hin_X4 hown hK hP (hts (Cond.fieldLink RX4 93 "ProphetCoverModel" "readProphets" "I") (List.mem_of_getElem? (i := 1) rfl)) dX4_readsProphet_194 ?_
          refine lv_iconst (v := 1) hx hb dX4_readsProphet_197 (by decide) ?_
          refine lv_iadd hx hb dX4_readsProphet_198 ?_
          refine zp_X4_readProphets hx hb hts hin_X4 hown hK hP hI hS (hts (Cond.fieldLink RX4 93 "ProphetCoverModel" "readProphets" "I") (List.mem_of_getElem? (i := 1) rfl)) dX4_readsProphet_199 (fun H locs hP hS => ?_)
          refine lv_iconst (v := 1) hx hb dX4_readsProphet_202 (by decide) ?_
          exact rMZ hx hb hr hlk hK hP hS (by rfl) dX4_readsProphet_203 (by rw [hr125, fX4_readsProphet_c125, if_pos c1, if_neg c2, if_neg c3])
        · refine lv_iconst (v := 1) hx hb dX4_readsProphet_158 (by decide) ?_
          refine lv_goto (tgt := 163) hx hb dX4_readsProphet_159 (by decide) ?_
          refine zs_M (by decide) (by decide) rfl hx hb hK hP hI hS (by assumption) dX4_readsProphet_163 (fun H locs hP hS => ?_)
          refine lv_aload_n hx hb dX4_readsProphet_164 rfl (lv_at hl 1 rfl) ?_
          refine zg_X4_readCover hx hb hts hin_X4 hown hK hP (hts (Cond.fieldLink RX4 28 "ProphetCoverModel" "readCover" "[I") (List.mem_of_getElem? (i := 4) rfl)) dX4_readsProphet_165 ?_
          refine lv_aload_n hx hb dX4_readsProphet_168 rfl (lv_at hl 1 rfl) ?_
          refine zg_X4_readProphets hx hb hts hin_X4 hown hK hP (hts (Cond.fieldLink RX4 93 "ProphetCoverModel" "readProphets" "I") (List.mem_of_getElem? (i := 1) rfl)) dX4_readsProphet_169 ?_
          refine lv_iload hx hb dX4_readsProphet_172 (lv_at hl 3 rfl) ?_
          refine zs_M (by decide) (by decide) rfl hx hb hK hP hI hS (by assumption) dX4_readsProphet_174 (fun H locs hP hS => ?_)
          refine lv_aload_n hx hb dX4_readsProphet_175 rfl (lv_at hl 1 rfl) ?_
          refine zg_X4_readSaid hx hb hts hin_X4 hown hK hP (hts (Cond.fieldLink RX4 31 "ProphetCoverModel" "readSaid" "[I") (List.mem_of_getElem? (i := 5) rfl)) dX4_readsProphet_176 ?_
          refine lv_aload_n hx hb dX4_readsProphet_179 rfl (lv_at hl 1 rfl) ?_
          refine zg_X4_readProphets hx hb hts hin_X4 hown hK hP (hts (Cond.fieldLink RX4 93 "ProphetCoverModel" "readProphets" "I") (List.mem_of_getElem? (i := 1) rfl)) dX4_readsProphet_180 ?_
          refine lv_bipush (v := 10) hx hb dX4_readsProphet_183 (by decide) ?_
          refine lv_iload hx hb dX4_readsProphet_185 (lv_at hl 4 rfl) ?_
          refine lv_imul hx hb dX4_readsProphet_187 ?_
          refine lv_iload hx hb dX4_readsProphet_188 (lv_at hl 0 rfl) ?_
          refine lv_iadd hx hb dX4_readsProphet_190 ?_
          refine zs_M (by decide) (by decide) rfl hx hb hK hP hI hS (by assumption) dX4_readsProphet_191 (fun H locs hP hS => ?_)
          refine lv_aload_n hx hb dX4_readsProphet_192 rfl (lv_at hl 1 rfl) ?_
          refine lv_dup hx hb dX4_readsProphet_193 rfl ?_
          refine zg_X4_readProphets hx hb hts hin_X4 hown hK hP (hts (Cond.fieldLink RX4 93 "ProphetCoverModel" "readProphets" "I") (List.mem_of_getElem? (i := 1) rfl)) dX4_readsProphet_194 ?_
          refine lv_iconst (v := 1) hx hb dX4_readsProphet_197 (by decide) ?_
          refine lv_iadd hx hb dX4_readsProphet_198 ?_
          refine zp_X4_readProphets hx hb hts hin_X4 hown hK hP hI hS (hts (Cond.fieldLink RX4 93 "ProphetCoverModel" "readProphets" "I") (List.mem_of_getElem? (i := 1) rfl)) dX4_readsProphet_199 (fun H locs hP hS => ?_)
          refine lv_iconst (v := 1) hx hb dX4_readsProphet_202 (by decide) ?_
          exact rMZ hx hb hr hlk hK hP hS (by rfl) dX4_readsProphet_203 (by rw [hr125, fX4_readsProphet_c125, if_pos c1, if_neg c2, if_pos c3])
      · refine lv_iconst (v := 0) hx hb dX4_readsProphet_148 (by decide) ?_
        refine lv_goto (tgt := 163) hx hb dX4_readsProphet_149 (by decide) ?_
        refine zs_M (by decide) (by decide) rfl hx hb hK hP hI hS (by assumption) dX4_readsProphet_163 (fun H locs hP hS => ?_)
        refine lv_aload_n hx hb dX4_readsProphet_164 rfl (lv_at hl 1 rfl) ?_
        refine zg_X4_readCover hx hb hts hin_X4 hown hK hP (hts (Cond.fieldLink RX4 28 "ProphetCoverModel" "readCover" "[I") (List.mem_of_getElem? (i := 4) rfl)) dX4_readsProphet_165 ?_
        refine lv_aload_n hx hb dX4_readsProphet_168 rfl (lv_at hl 1 rfl) ?_
        refine zg_X4_readProphets hx hb hts hin_X4 hown hK hP (hts (Cond.fieldLink RX4 93 "ProphetCoverModel" "readProphets" "I") (List.mem_of_getElem? (i := 1) rfl)) dX4_readsProphet_169 ?_
        refine lv_iload hx hb dX4_readsProphet_172 (lv_at hl 3 rfl) ?_
        refine zs_M (by decide) (by decide) rfl hx hb hK hP hI hS (by assumption) dX4_readsProphet_174 (fun H locs hP hS => ?_)
        refine lv_aload_n hx hb dX4_readsProphet_175 rfl (lv_at hl 1 rfl) ?_
        refine zg_X4_readSaid hx hb hts hin_X4 hown hK hP (hts (Cond.fieldLink RX4 31 "ProphetCoverModel" "readSaid" "[I") (List.mem_of_getElem? (i := 5) rfl)) dX4_readsProphet_176 ?_
        refine lv_aload_n hx hb dX4_readsProphet_179 rfl (lv_at hl 1 rfl) ?_
        refine zg_X4_readProphets hx hb hts hin_X4 hown hK hP (hts (Cond.fieldLink RX4 93 "ProphetCoverModel" "readProphets" "I") (List.mem_of_getElem? (i := 1) rfl)) dX4_readsProphet_180 ?_
        refine lv_bipush (v := 10) hx hb dX4_readsProphet_183 (by decide) ?_
        refine lv_iload hx hb dX4_readsProphet_185 (lv_at hl 4 rfl) ?_
        refine lv_imul hx hb dX4_readsProphet_187 ?_
        refine lv_iload hx hb dX4_readsProphet_188 (lv_at hl 0 rfl) ?_
        refine lv_iadd hx hb dX4_readsProphet_190 ?_
        refine zs_M (by decide) (by decide) rfl hx hb hK hP hI hS (by assumption) dX4_readsProphet_191 (fun H locs hP hS => ?_)
        refine lv_aload_n hx hb dX4_readsProphet_192 rfl (lv_at hl 1 rfl) ?_
        refine lv_dup hx hb dX4_readsProphet_193 rfl ?_
        refine zg_X4_readProphets hx hb hts hin_X4 hown hK hP (hts (Cond.fieldLink RX4 93 "ProphetCoverModel" "readProphets" "I") (List.mem_of_getElem? (i := 1) rfl)) dX4_readsProphet_194 ?_
        refine lv_iconst (v := 1) hx hb dX4_readsProphet_197 (by decide) ?_
        refine lv_iadd hx hb dX4_readsProphet_198 ?_
        refine zp_X4_readProphets hx hb hts hin_X4 hown hK hP hI hS (hts (Cond.fieldLink RX4 93 "ProphetCoverModel" "readProphets" "I") (List.mem_of_getElem? (i := 1) rfl)) dX4_readsProphet_199 (fun H locs hP hS => ?_)
        refine lv_iconst (v := 1) hx hb dX4_readsProphet_202 (by decide) ?_
        exact rMZ hx hb hr hlk hK hP hS (by rfl) dX4_readsProphet_203 (by rw [hr125, fX4_readsProphet_c125, if_pos c1, if_pos c2])
    · refine lv_iconst (v := 0) hx hb dX4_readsProphet_132 (by decide) ?_
      exact rMZ hx hb hr hlk hK hP hS (by rfl) dX4_readsProphet_133 (by rw [hr125, fX4_readsProphet_c125, if_neg c1])
  have sg95 : ∀ (w95 : Mem) (x3 : Int32) (x4 : Int32) (z0 : Int32), (fX4_readsProphet v p0 p1) = (fX4_readsProphet_c95 v p0 p1 w95 x3 x4 z0) → (w95 0 9 = v 0 9) → (CaOk w95 p0 p1) → (¬ v 0 9 = 4) → ∀ (H : Heap) (locs : List Loc), va_P D vwCl (wM cz bd w95) H → va_S (AM bd) s.heap H locs → ∀ ls : Array Slot, lv_has ls 7 [(0, .ref (bd 0)), (1, .int p0), (2, .int p1), (3, .int x3), (4, .int x4)] → W p l e ({ frames := 2, cells := 0, slots := 0, locals := 50 } : Room) s m ([.ref (bd 0), .int p0, .int p1] : List Value).toArray below meth c H locs 0 0 (MQ below (qW (MB D cz bd (fX4_readsProphet v p0 p1).2) (AM bd) (some (.int (fX4_readsProphet v p0 p1).1))) ([.ref (bd 0), .int p0, .int p1] : List Value).toArray s 0 0 (AM bd)) (F0 m 95 ls [.int z0]) := by
    intro w95 x3 x4 z0 hr95 h95 g95 i95 H locs hP hS ls hl
    refine lv_istore (lv' := [(5, .int z0), (0, .ref (bd 0)), (1, .int p0), (2, .int p1), (3, .int x3), (4, .int x4)]) hx hb dX4_readsProphet_95 hl (by decide) rfl (fun ls hl => ?_)
    refine lv_iload hx hb dX4_readsProphet_97 (lv_at hl 0 rfl) ?_
    refine lv_if_ge (tgt := 107) hx hb dX4_readsProphet_99 (by decide) (fun c4 => ?_) (fun c4 => ?_)
    · refine lv_aload_n hx hb dX4_readsProphet_107 rfl (lv_at hl 1 rfl) ?_
      refine lv_iload_n hx hb dX4_readsProphet_108 rfl (lv_at hl 2 rfl) ?_
      refine lv_iload_n hx hb dX4_readsProphet_109 rfl (lv_at hl 3 rfl) ?_
      refine lv_iload hx hb dX4_readsProphet_110 (lv_at hl 0 rfl) ?_
      refine lv_iconst (v := 3) hx hb dX4_readsProphet_112 (by decide) ?_
      refine lv_icmp_ne (tgt := 120) hx hb dX4_readsProphet_113 (by decide) (fun c5 => ?_) (fun c5 => ?_)
      · refine lv_bipush (v := 9) hx hb dX4_readsProphet_120 (by decide) ?_
        refine kWM (n := 3) (As := [.int p0, .int p1, .int 9]) (rest := []) ⟨hx, hb, hml, hown, hts⟩ (kX4_figure l D cz bd hI w95 p0 p1 9 (by assumption)) gX4_readsProphet_X4_figure rfl rfl rfl (by decide +kernel) ⟨Nat.le_of_ble_eq_true rfl, Nat.le_of_ble_eq_true rfl⟩ (recvM hP hK) hP hK hS rfl hl.1 rfl (Nat.le_of_ble_eq_true rfl) dX4_readsProphet_122 ⟨Nat.le_refl _, Nat.le_refl _⟩ (fun H locs hP hS => ?_)
        exact sg125 ((fX4_figure w95 p0 p1 9).2) x3 x4 z0 ((fX4_figure w95 p0 p1 9).1)  (by rw [hr95, fX4_readsProphet_c95, if_pos c4, if_neg c5]) (by first | with_reducible exact h95 | exact (fig_keep (by decide)).trans h95) (by assumption) H locs hP hS ls (lv_sub hl [1, 4, 5, 0] rfl)
      · refine lv_iconst (v := 1) hx hb dX4_readsProphet_116 (by decide) ?_
        refine lv_goto (tgt := 122) hx hb dX4_readsProphet_117 (by decide) ?_
        refine kWM (n := 3) (As := [.int p0, .int p1, .int 1]) (rest := []) ⟨hx, hb, hml, hown, hts⟩ (kX4_figure l D cz bd hI w95 p0 p1 1 (by assumption)) gX4_readsProphet_X4_figure rfl rfl rfl (by decide +kernel) ⟨Nat.le_of_ble_eq_true rfl, Nat.le_of_ble_eq_true rfl⟩ (recvM hP hK) hP hK hS rfl hl.1 rfl (Nat.le_of_ble_eq_true rfl) dX4_readsProphet_122 ⟨Nat.le_refl _, Nat.le_refl _⟩ (fun H locs hP hS => ?_)
        exact sg125 ((fX4_figure w95 p0 p1 1).2) x3 x4 z0 ((fX4_figure w95 p0 p1 1).1)  (by rw [hr95, fX4_readsProphet_c95, if_pos c4, if_pos c5]) (by first | with_reducible exact h95 | exact (fig_keep (by decide)).trans h95) (by assumption) H locs hP hS ls (lv_sub hl [1, 4, 5, 0] rfl)
    · refine lv_bipush (v := (-9)) hx hb dX4_readsProphet_102 (by decide) ?_
      refine lv_goto (tgt := 125) hx hb dX4_readsProphet_104 (by decide) ?_
      exact sg125 w95 x3 x4 z0 (-9)  (by rw [hr95, fX4_readsProphet_c95, if_neg c4]) (by first | with_reducible exact h95 | exact (fig_keep (by decide)).trans h95) (by assumption) H locs hP hS ls (lv_sub hl [1, 4, 5, 0] rfl)
  have sg76 : ∀ (w76 : Mem) (x3 : Int32) (z0 : Int32), (fX4_readsProphet v p0 p1) = (fX4_readsProphet_c76 v p0 p1 w76 x3 z0) → (w76 0 9 = v 0 9) → (CaOk w76 p0 p1) → (¬ v 0 9 = 4) → ∀ (H : Heap) (locs : List Loc), va_P D vwCl (wM cz bd w76) H → va_S (AM bd) s.heap H locs → ∀ ls : Array Slot, lv_has ls 7 [(0, .ref (bd 0)), (1, .int p0), (2, .int p1), (3, .int x3)] → W p l e ({ frames := 2, cells := 0, slots := 0, locals := 50 } : Room) s m ([.ref (bd 0), .int p0, .int p1] : List Value).toArray below meth c H locs 0 0 (MQ below (qW (MB D cz bd (fX4_readsProphet v p0 p1).2) (AM bd) (some (.int (fX4_readsProphet v p0 p1).1))) ([.ref (bd 0), .int p0, .int p1] : List Value).toArray s 0 0 (AM bd)) (F0 m 76 ls [.int z0]) := by
    intro w76 x3 z0 hr76 h76 g76 i76 H locs hP hS ls hl
    refine lv_istore (lv' := [(4, .int z0), (0, .ref (bd 0)), (1, .int p0), (2, .int p1), (3, .int x3)]) hx hb dX4_readsProphet_76 hl (by decide) rfl (fun ls hl => ?_)
    refine lv_iload hx hb dX4_readsProphet_78 (lv_at hl 0 rfl) ?_
    refine lv_if_ge (tgt := 88) hx hb dX4_readsProphet_80 (by decide) (fun c6 => ?_) (fun c6 => ?_)
    · refine lv_aload_n hx hb dX4_readsProphet_88 rfl (lv_at hl 1 rfl) ?_
      refine lv_iload_n hx hb dX4_readsProphet_89 rfl (lv_at hl 2 rfl) ?_
      refine lv_iload_n hx hb dX4_readsProphet_90 rfl (lv_at hl 3 rfl) ?_
      refine lv_iconst (v := 3) hx hb dX4_readsProphet_91 (by decide) ?_
      refine kWM (n := 3) (As := [.int p0, .int p1, .int 3]) (rest := []) ⟨hx, hb, hml, hown, hts⟩ (kX4_figure l D cz bd hI w76 p0 p1 3 (by assumption)) gX4_readsProphet_X4_figure rfl rfl rfl (by decide +kernel) ⟨Nat.le_of_ble_eq_true rfl, Nat.le_of_ble_eq_true rfl⟩ (recvM hP hK) hP hK hS rfl hl.1 rfl (Nat.le_of_ble_eq_true rfl) dX4_readsProphet_92 ⟨Nat.le_refl _, Nat.le_refl _⟩ (fun H locs hP hS => ?_)
      exact sg95 ((fX4_figure w76 p0 p1 3).2) x3 z0 ((fX4_figure w76 p0 p1 3).1)  (by rw [hr76, fX4_readsProphet_c76, if_pos c6]) (by first | with_reducible exact h76 | exact (fig_keep (by decide)).trans h76) (by first | with_reducible exact g76 | exact CaOk_fig g76) (by assumption) H locs hP hS ls (lv_sub hl [1, 2, 3, 4, 0] rfl)
    · refine lv_bipush (v := (-9)) hx hb dX4_readsProphet_83 (by decide) ?_
      refine lv_goto (tgt := 95) hx hb dX4_readsProphet_85 (by decide) ?_
      exact sg95 w76 x3 z0 (-9)  (by rw [hr76, fX4_readsProphet_c76, if_neg c6]) (by first | with_reducible exact h76 | exact (fig_keep (by decide)).trans h76) (by first | with_reducible exact g76 | exact CaOk_fig g76) (by assumption) H locs hP hS ls (lv_sub hl [1, 2, 3, 4, 0] rfl)
  refine lv_aload_n hx hb dX4_readsProphet_0 rfl (lv_at hl 0 rfl) ?_
  refine zg_X4_readProphets hx hb hts hin_X4 hown hK hP (hts (Cond.fieldLink RX4 93 "ProphetCoverModel" "readProphets" "I") (List.mem_of_getElem? (i := 1) rfl)) dX4_readsProphet_1 ?_
  refine lv_iconst (v := 4) hx hb dX4_readsProphet_4 (by decide) ?_
  refine lv_icmp_eq (tgt := 19) hx hb dX4_readsProphet_5 (by decide) (fun c7 => ?_) (fun c7 => ?_)
  · refine lv_iconst (v := 0) hx hb dX4_readsProphet_19 (by decide) ?_
    exact rMZ hx hb hr hlk hK hP hS (by rfl) dX4_readsProphet_20 (by rw [fX4_readsProphet, if_pos c7])
  · refine lv_aload_n hx hb dX4_readsProphet_8 rfl (lv_at hl 0 rfl) ?_
    refine lv_iload_n hx hb dX4_readsProphet_9 rfl (lv_at hl 1 rfl) ?_
    refine lv_iload_n hx hb dX4_readsProphet_10 rfl (lv_at hl 2 rfl) ?_
    refine kV (n := 2) (As := [.int p0, .int p1]) (rest := []) ⟨hx, hb, hml, hown, hts⟩ (kX4_codeAt l D cz bd v p0 p1 (by assumption)) gX4_readsProphet_X4_codeAt rfl rfl rfl (by decide +kernel) ⟨Nat.le_of_ble_eq_true rfl, Nat.le_of_ble_eq_true rfl⟩ (recvM hP hK) (MB_of hP hK) MB_bl rfl hl.1 rfl (Nat.le_of_ble_eq_true rfl) dX4_readsProphet_11 ⟨Nat.le_refl _, Nat.le_refl _⟩ ?_
    refine lv_bipush (v := 59) hx hb dX4_readsProphet_14 (by decide) ?_
    refine lv_icmp_eq (tgt := 21) hx hb dX4_readsProphet_16 (by decide) (fun c8 => ?_) (fun c8 => ?_)
    · refine lv_aload_n hx hb dX4_readsProphet_21 rfl (lv_at hl 0 rfl) ?_
      refine lv_dup hx hb dX4_readsProphet_22 rfl ?_
      refine zg_X4_readAt hx hb hts hin_X4 hown hK hP (hts (Cond.fieldLink RX4 79 "ProphetCoverModel" "readAt" "I") (List.mem_of_getElem? (i := 2) rfl)) dX4_readsProphet_23 ?_
      refine lv_iconst (v := 1) hx hb dX4_readsProphet_26 (by decide) ?_
      refine lv_iadd hx hb dX4_readsProphet_27 ?_
      refine zp_X4_readAt hx hb hts hin_X4 hown hK hP hI hS (hts (Cond.fieldLink RX4 79 "ProphetCoverModel" "readAt" "I") (List.mem_of_getElem? (i := 2) rfl)) dX4_readsProphet_28 (fun H locs hP hS => ?_)
      have hca2 : CaOk (mset v 0 7 ((v 0 7) + 1)) p0 p1 := CaOk_inc hca (by assumption) (by decide)
      refine lv_aload_n hx hb dX4_readsProphet_31 rfl (lv_at hl 0 rfl) ?_
      refine lv_iload_n hx hb dX4_readsProphet_32 rfl (lv_at hl 1 rfl) ?_
      refine lv_iload_n hx hb dX4_readsProphet_33 rfl (lv_at hl 2 rfl) ?_
      refine kV (n := 2) (As := [.int p0, .int p1]) (rest := []) ⟨hx, hb, hml, hown, hts⟩ (kX4_codeAt l D cz bd (mset v 0 7 ((v 0 7) + 1)) p0 p1 (by assumption)) gX4_readsProphet_X4_codeAt rfl rfl rfl (by decide +kernel) ⟨Nat.le_of_ble_eq_true rfl, Nat.le_of_ble_eq_true rfl⟩ (recvM hP hK) (MB_of hP hK) MB_bl rfl hl.1 rfl (Nat.le_of_ble_eq_true rfl) dX4_readsProphet_34 ⟨Nat.le_refl _, Nat.le_refl _⟩ ?_
      refine lv_istore_n (lv' := [(3, .int (fX4_codeAt (mset v 0 7 ((v 0 7) + 1)) p0 p1)), (0, .ref (bd 0)), (1, .int p0), (2, .int p1)]) hx hb dX4_readsProphet_37 rfl hl (by decide) rfl (fun ls hl => ?_)
      refine lv_iload_n hx hb dX4_readsProphet_38 rfl (lv_at hl 0 rfl) ?_
      refine lv_bipush (v := 109) hx hb dX4_readsProphet_39 (by decide) ?_
      refine lv_icmp_eq (tgt := 58) hx hb dX4_readsProphet_41 (by decide) (fun c9 => ?_) (fun c9 => ?_)
      · refine lv_aload_n hx hb dX4_readsProphet_58 rfl (lv_at hl 1 rfl) ?_
        refine lv_dup hx hb dX4_readsProphet_59 rfl ?_
        refine zg_X4_readAt hx hb hts hin_X4 hown hK hP (hts (Cond.fieldLink RX4 79 "ProphetCoverModel" "readAt" "I") (List.mem_of_getElem? (i := 2) rfl)) dX4_readsProphet_60 ?_
        refine lv_iconst (v := 1) hx hb dX4_readsProphet_63 (by decide) ?_
        refine lv_iadd hx hb dX4_readsProphet_64 ?_
        refine zp_X4_readAt hx hb hts hin_X4 hown hK hP hI hS (hts (Cond.fieldLink RX4 79 "ProphetCoverModel" "readAt" "I") (List.mem_of_getElem? (i := 2) rfl)) dX4_readsProphet_65 (fun H locs hP hS => ?_)
        have hca3 : CaOk (mset (mset v 0 7 ((v 0 7) + 1)) 0 7 (((mset v 0 7 ((v 0 7) + 1)) 0 7) + 1)) p0 p1 := by first | exact CaOk_inc hca2 (ch := 109) (by assumption) (by decide) | exact CaOk_inc hca2 (ch := 115) (by assumption) (by decide) | exact CaOk_inc hca2 (ch := 108) (by assumption) (by decide)
        refine lv_aload_n hx hb dX4_readsProphet_68 rfl (lv_at hl 1 rfl) ?_
        refine lv_iload_n hx hb dX4_readsProphet_69 rfl (lv_at hl 2 rfl) ?_
        refine lv_iload_n hx hb dX4_readsProphet_70 rfl (lv_at hl 3 rfl) ?_
        refine lv_bipush (v := 9) hx hb dX4_readsProphet_71 (by decide) ?_
        refine kWM (n := 3) (As := [.int p0, .int p1, .int 9]) (rest := []) ⟨hx, hb, hml, hown, hts⟩ (kX4_figure l D cz bd hI (mset (mset v 0 7 ((v 0 7) + 1)) 0 7 (((mset v 0 7 ((v 0 7) + 1)) 0 7) + 1)) p0 p1 9 (by assumption)) gX4_readsProphet_X4_figure rfl rfl rfl (by decide +kernel) ⟨Nat.le_of_ble_eq_true rfl, Nat.le_of_ble_eq_true rfl⟩ (recvM hP hK) hP hK hS rfl hl.1 rfl (Nat.le_of_ble_eq_true rfl) dX4_readsProphet_73 ⟨Nat.le_refl _, Nat.le_refl _⟩ (fun H locs hP hS => ?_)
        exact sg76 ((fX4_figure (mset (mset v 0 7 ((v 0 7) + 1)) 0 7 (((mset v 0 7 ((v 0 7) + 1)) 0 7) + 1)) p0 p1 9).2) (fX4_codeAt (mset v 0 7 ((v 0 7) + 1)) p0 p1) ((fX4_figure (mset (mset v 0 7 ((v 0 7) + 1)) 0 7 (((mset v 0 7 ((v 0 7) + 1)) 0 7) + 1)) p0 p1 9).1)  (by rw [fX4_readsProphet, if_neg c7, if_pos c8, if_pos c9]) (fig_keep (by decide)) (CaOk_fig hca3) (by assumption) H locs hP hS ls (lv_sub hl [1, 2, 3, 0] rfl)
      · refine lv_iload_n hx hb dX4_readsProphet_44 rfl (lv_at hl 0 rfl) ?_
        refine lv_bipush (v := 115) hx hb dX4_readsProphet_45 (by decide) ?_
        refine lv_icmp_eq (tgt := 58) hx hb dX4_readsProphet_47 (by decide) (fun c10 => ?_) (fun c10 => ?_)
        · refine lv_aload_n hx hb dX4_readsProphet_58 rfl (lv_at hl 1 rfl) ?_
          refine lv_dup hx hb dX4_readsProphet_59 rfl ?_
          refine zg_X4_readAt hx hb hts hin_X4 hown hK hP (hts (Cond.fieldLink RX4 79 "ProphetCoverModel" "readAt" "I") (List.mem_of_getElem? (i := 2) rfl)) dX4_readsProphet_60 ?_
          refine lv_iconst (v := 1) hx hb dX4_readsProphet_63 (by decide) ?_
          refine lv_iadd hx hb dX4_readsProphet_64 ?_
          refine zp_X4_readAt hx hb hts hin_X4 hown hK hP hI hS (hts (Cond.fieldLink RX4 79 "ProphetCoverModel" "readAt" "I") (List.mem_of_getElem? (i := 2) rfl)) dX4_readsProphet_65 (fun H locs hP hS => ?_)
          have hca3 : CaOk (mset (mset v 0 7 ((v 0 7) + 1)) 0 7 (((mset v 0 7 ((v 0 7) + 1)) 0 7) + 1)) p0 p1 := by first | exact CaOk_inc hca2 (ch := 109) (by assumption) (by decide) | exact CaOk_inc hca2 (ch := 115) (by assumption) (by decide) | exact CaOk_inc hca2 (ch := 108) (by assumption) (by decide)
          refine lv_aload_n hx hb dX4_readsProphet_68 rfl (lv_at hl 1 rfl) ?_
          refine lv_iload_n hx hb dX4_readsProphet_69 rfl (lv_at hl 2 rfl) ?_
          refine lv_iload_n hx hb dX4_readsProphet_70 rfl (lv_at hl 3 rfl) ?_
          refine lv_bipush (v := 9) hx hb dX4_readsProphet_71 (by decide) ?_
          refine kWM (n := 3) (As := [.int p0, .int p1, .int 9]) (rest := []) ⟨hx, hb, hml, hown, hts⟩ (kX4_figure l D cz bd hI (mset (mset v 0 7 ((v 0 7) + 1)) 0 7 (((mset v 0 7 ((v 0 7) + 1)) 0 7) + 1)) p0 p1 9 (by assumption)) gX4_readsProphet_X4_figure rfl rfl rfl (by decide +kernel) ⟨Nat.le_of_ble_eq_true rfl, Nat.le_of_ble_eq_true rfl⟩ (recvM hP hK) hP hK hS rfl hl.1 rfl (Nat.le_of_ble_eq_true rfl) dX4_readsProphet_73 ⟨Nat.le_refl _, Nat.le_refl _⟩ (fun H locs hP hS => ?_)
          exact sg76 ((fX4_figure (mset (mset v 0 7 ((v 0 7) + 1)) 0 7 (((mset v 0 7 ((v 0 7) + 1)) 0 7) + 1)) p0 p1 9).2) (fX4_codeAt (mset v 0 7 ((v 0 7) + 1)) p0 p1) ((fX4_figure (mset (mset v 0 7 ((v 0 7) + 1)) 0 7 (((mset v 0 7 ((v 0 7) + 1)) 0 7) + 1)) p0 p1 9).1)  (by rw [fX4_readsProphet, if_neg c7, if_pos c8, if_neg c9, if_pos c10]) (fig_keep (by decide)) (CaOk_fig hca3) (by assumption) H locs hP hS ls (lv_sub hl [1, 2, 3, 0] rfl)
        · refine lv_iload_n hx hb dX4_readsProphet_50 rfl (lv_at hl 0 rfl) ?_
          refine lv_bipush (v := 108) hx hb dX4_readsProphet_51 (by decide) ?_
          refine lv_icmp_eq (tgt := 58) hx hb dX4_readsProphet_53 (by decide) (fun c11 => ?_) (fun c11 => ?_)
          · refine lv_aload_n hx hb dX4_readsProphet_58 rfl (lv_at hl 1 rfl) ?_
            refine lv_dup hx hb dX4_readsProphet_59 rfl ?_
            refine zg_X4_readAt hx hb hts hin_X4 hown hK hP (hts (Cond.fieldLink RX4 79 "ProphetCoverModel" "readAt" "I") (List.mem_of_getElem? (i := 2) rfl)) dX4_readsProphet_60 ?_
            refine lv_iconst (v := 1) hx hb dX4_readsProphet_63 (by decide) ?_
            refine lv_iadd hx hb dX4_readsProphet_64 ?_
            refine zp_X4_readAt hx hb hts hin_X4 hown hK hP hI hS (hts (Cond.fieldLink RX4 79 "ProphetCoverModel" "readAt" "I") (List.mem_of_getElem? (i := 2) rfl)) dX4_readsProphet_65 (fun H locs hP hS => ?_)
            have hca3 : CaOk (mset (mset v 0 7 ((v 0 7) + 1)) 0 7 (((mset v 0 7 ((v 0 7) + 1)) 0 7) + 1)) p0 p1 := by first | exact CaOk_inc hca2 (ch := 109) (by assumption) (by decide) | exact CaOk_inc hca2 (ch := 115) (by assumption) (by decide) | exact CaOk_inc hca2 (ch := 108) (by assumption) (by decide)
            refine lv_aload_n hx hb dX4_readsProphet_68 rfl (lv_at hl 1 rfl) ?_
            refine lv_iload_n hx hb dX4_readsProphet_69 rfl (lv_at hl 2 rfl) ?_
            refine lv_iload_n hx hb dX4_readsProphet_70 rfl (lv_at hl 3 rfl) ?_
            refine lv_bipush (v := 9) hx hb dX4_readsProphet_71 (by decide) ?_
            refine kWM (n := 3) (As := [.int p0, .int p1, .int 9]) (rest := []) ⟨hx, hb, hml, hown, hts⟩ (kX4_figure l D cz bd hI (mset (mset v 0 7 ((v 0 7) + 1)) 0 7 (((mset v 0 7 ((v 0 7) + 1)) 0 7) + 1)) p0 p1 9 (by assumption)) gX4_readsProphet_X4_figure rfl rfl rfl (by decide +kernel) ⟨Nat.le_of_ble_eq_true rfl, Nat.le_of_ble_eq_true rfl⟩ (recvM hP hK) hP hK hS rfl hl.1 rfl (Nat.le_of_ble_eq_true rfl) dX4_readsProphet_73 ⟨Nat.le_refl _, Nat.le_refl _⟩ (fun H locs hP hS => ?_)
            exact sg76 ((fX4_figure (mset (mset v 0 7 ((v 0 7) + 1)) 0 7 (((mset v 0 7 ((v 0 7) + 1)) 0 7) + 1)) p0 p1 9).2) (fX4_codeAt (mset v 0 7 ((v 0 7) + 1)) p0 p1) ((fX4_figure (mset (mset v 0 7 ((v 0 7) + 1)) 0 7 (((mset v 0 7 ((v 0 7) + 1)) 0 7) + 1)) p0 p1 9).1)  (by rw [fX4_readsProphet, if_neg c7, if_pos c8, if_neg c9, if_neg c10, if_pos c11]) (fig_keep (by decide)) (CaOk_fig hca3) (by assumption) H locs hP hS ls (lv_sub hl [1, 2, 3, 0] rfl)
          · refine lv_iconst (v := 0) hx hb dX4_readsProphet_56 (by decide) ?_
            exact rMZ hx hb hr hlk hK hP hS (by rfl) dX4_readsProphet_57 (by rw [fX4_readsProphet, if_neg c7, if_pos c8, if_neg c9, if_neg c10, if_neg c11])
    · refine lv_iconst (v := 0) hx hb dX4_readsProphet_19 (by decide) ?_
      exact rMZ hx hb hr hlk hK hP hS (by rfl) dX4_readsProphet_20 (by rw [fX4_readsProphet, if_neg c7, if_neg c8])
def isTone (c : Int32) : Prop := c = 109 ∨ c = 115 ∨ c = 108
/-- the j-th cell of a prophet that begins at r fits -/
def FitM (w : Mem) (a b r j : Nat) : Prop := r + j < b ∧ (if j = 0 then w 14 (a + (r + 0)) = 59 else if j = 1 then isTone (w 14 (a + (r + 1))) else if j = 2 then fX3_isDigit (w 14 (a + (r + 2))) 9 = 1 else if j = 3 then fX3_isDigit (w 14 (a + (r + 3))) 3 = 1 else if w 14 (a + (r + 3)) = 51 then fX3_isDigit (w 14 (a + (r + 4))) 1 = 1 else fX3_isDigit (w 14 (a + (r + 4))) 9 = 1)
def toneM (c : Int32) : Int32 := if c = 109 then 0 else if c = 115 then 1 else 2
theorem rp_125 {v w : Mem} {f n c x4 x5 : Int32} {k d : Nat} (hk : w 0 9 = nI k) (h4 : k < 4) (hd : d < 10) : ∃ W, fX4_readsProphet_c125 v f n w c x4 x5 (nI d) = (1, W) ∧ W 0 7 = w 0 7 ∧ W 0 9 = nI (k + 1) ∧ W 6 k = toneM c ∧ W 7 k = x4 ∧ W 8 k = 10 * x5 + nI d ∧ ∀ x y, ¬ (x = 0 ∧ (y = 7 ∨ y = 9)) → ¬ (6 ≤ x ∧ x ≤ 8 ∧ y = k) → W x y = w x y := by
  have key : ∀ t : Int32, ∃ W, ((1 : Int32), (mset (mset (mset (mset w 6 (w 0 9).toNatClampNeg t) 7 ((mset w 6 (w 0 9).toNatClampNeg t) 0 9).toNatClampNeg x4) 8 ((mset (mset w 6 (w 0 9).toNatClampNeg t) 7 ((mset w 6 (w 0 9).toNatClampNeg t) 0 9).toNatClampNeg x4) 0 9).toNatClampNeg ((10 * x5) + nI d)) 0 9 (((mset (mset (mset w 6 (w 0 9).toNatClampNeg t) 7 ((mset w 6 (w 0 9).toNatClampNeg t) 0 9).toNatClampNeg x4) 8 ((mset (mset w 6 (w 0 9).toNatClampNeg t) 7 ((mset w 6 (w 0 9).toNatClampNeg t) 0 9).toNatClampNeg x4) 0 9).toNatClampNeg ((10 * x5) + nI d)) 0 9) + 1))) = (1, W) ∧ W 0 7 = w 0 7 ∧ W 0 9 = nI (k + 1) ∧ W 6 k = t ∧ W 7 k = x4 ∧ W 8 k = 10 * x5 + nI d ∧ ∀ x y, ¬ (x = 0 ∧ (y = 7 ∨ y = 9)) → ¬ (6 ≤ x ∧ x ≤ 8 ∧ y = k) → W x y = w x y := by
    intro t
    simp only [mset_ne (show (0 : Nat) ≠ 6 by decide), mset_ne (show (0 : Nat) ≠ 7 by decide), mset_ne (show (0 : Nat) ≠ 8 by decide), hk, nI_clamp (show k < 2 ^ 31 by omega), nI_1]
    refine ⟨_, rfl, ?_, mset_at, ?_, ?_, ?_, fun x y z1 z2 => ?_⟩
    · rw [mset_nei (by decide), mset_ne (by decide), mset_ne (by decide), mset_ne (by decide)]
    · rw [mset_ne (by decide), mset_ne (by decide), mset_ne (by decide), mset_at]
    · rw [mset_ne (by decide), mset_ne (by decide), mset_at]
    · rw [mset_ne (by decide), mset_at]
    · rw [mset_oo (by omega), mset_oo (by omega), mset_oo (by omega), mset_oo (by omega)]
  rw [fX4_readsProphet_c125, if_pos (nI_pos' (by omega)), toneM]
  by_cases c1 : c = 109
  · rw [if_pos c1, if_pos c1]
    exact key 0
  · rw [if_neg c1, if_neg c1]
    by_cases c2 : c = 115
    · rw [if_pos c2, if_pos c2]
      exact key 1
    · rw [if_neg c2, if_neg c2]
      exact key 2
theorem rp_spec {w : Mem} {a b r k : Nat} (h : PosOk w a b r) (hk : w 0 9 = nI k) (h4 : k < 4) :
    (∃ j, j < 5 ∧ (∀ i, i < j → FitM w a b r i) ∧ ¬ FitM w a b r j ∧ ∃ W, fX4_readsProphet w (nI a) (nI b) = (0, W) ∧ W 0 7 = nI (r + j) ∧ ∀ x y, ¬ (x = 0 ∧ y = 7) → W x y = w x y) ∨
    ((∀ i, i < 5 → FitM w a b r i) ∧ ∃ W, fX4_readsProphet w (nI a) (nI b) = (1, W) ∧ W 0 7 = nI (r + 5) ∧ W 0 9 = nI (k + 1) ∧ W 6 k = toneM (w 14 (a + (r + 1))) ∧ W 7 k = w 14 (a + (r + 2)) - 48 ∧ W 8 k = 10 * (w 14 (a + (r + 3)) - 48) + (w 14 (a + (r + 4)) - 48) ∧ ∀ x y, ¬ (x = 0 ∧ (y = 7 ∨ y = 9)) → ¬ (6 ≤ x ∧ x ≤ 8 ∧ y = k) → W x y = w x y) := by
  have hc := code_at h
  obtain ⟨h1, h2, h3, h4'⟩ := h
  rw [fX4_readsProphet, hk, if_neg (show ¬ nI k = 4 from fun z => by have := (nI_eq (a := k) (b := 4) (by omega) (by omega)).mp z; omega), hc, h1, nI_1]
  by_cases q0 : r < b ∧ w 14 (a + r) = 59
  · rw [if_neg (show ¬ b ≤ r by omega), if_pos q0.2]
    have f0 : FitM w a b r 0 := by
      unfold FitM
      rw [if_pos rfl]
      exact ⟨q0.1, q0.2⟩
    have hP1 : PosOk (mset w 0 7 (nI (r + 1))) a b (r + 1) := ⟨mset_at, by omega, h3, h4'⟩
    rw [code_at hP1, mset_at, nI_1, mset_ne (show (14 : Nat) ≠ 0 by decide)]
    by_cases q1 : r + 1 < b ∧ isTone (w 14 (a + (r + 1)))
    · rw [if_neg (show ¬ b ≤ r + 1 by omega)]
      have f1 : FitM w a b r 1 := by
        unfold FitM
        rw [if_neg (by decide), if_pos rfl]
        exact q1
      -- to the figures
      have hgo : ∀ X : Int32 × Mem, fX4_readsProphet_c76 w (nI a) (nI b) ((fX4_figure (mset (mset w 0 7 (nI (r + 1))) 0 7 (nI (r + 1 + 1))) (nI a) (nI b) 9).2) (w 14 (a + (r + 1))) ((fX4_figure (mset (mset w 0 7 (nI (r + 1))) 0 7 (nI (r + 1 + 1))) (nI a) (nI b) 9).1) = X → (if w 14 (a + (r + 1)) = 109 then fX4_readsProphet_c76 w (nI a) (nI b) ((fX4_figure (mset (mset w 0 7 (nI (r + 1))) 0 7 (nI (r + 1 + 1))) (nI a) (nI b) 9).2) (w 14 (a + (r + 1))) ((fX4_figure (mset (mset w 0 7 (nI (r + 1))) 0 7 (nI (r + 1 + 1))) (nI a) (nI b) 9).1) else if w 14 (a + (r + 1)) = 115 then fX4_readsProphet_c76 w (nI a) (nI b) ((fX4_figure (mset (mset w 0 7 (nI (r + 1))) 0 7 (nI (r + 1 + 1))) (nI a) (nI b) 9).2) (w 14 (a + (r + 1))) ((fX4_figure (mset (mset w 0 7 (nI (r + 1))) 0 7 (nI (r + 1 + 1))) (nI a) (nI b) 9).1) else if w 14 (a + (r + 1)) = 108 then fX4_readsProphet_c76 w (nI a) (nI b) ((fX4_figure (mset (mset w 0 7 (nI (r + 1))) 0 7 (nI (r + 1 + 1))) (nI a) (nI b) 9).2) (w 14 (a + (r + 1))) ((fX4_figure (mset (mset w 0 7 (nI (r + 1))) 0 7 (nI (r + 1 + 1))) (nI a) (nI b) 9).1) else (0, mset w 0 7 (nI (r + 1)))) = X := by
        intro X hX
        rcases q1.2 with z | z | z
        · rw [if_pos z]; exact hX
        · rw [if_neg (by rw [z]; decide), if_pos z]; exact hX
        · rw [if_neg (by rw [z]; decide), if_neg (by rw [z]; decide), if_pos z]; exact hX
      rw [hgo _ rfl]
      have ew : ∀ x y, ¬ (x = 0 ∧ y = 7) → mset (mset w 0 7 (nI (r + 1))) 0 7 (nI (r + 1 + 1)) x y = w x y := fun x y z => by rw [mset_oo z, mset_oo z]
      have hP2 : PosOk (mset (mset w 0 7 (nI (r + 1))) 0 7 (nI (r + 1 + 1))) a b (r + 2) := ⟨mset_at, by omega, h3, h4'⟩
      generalize mset (mset w 0 7 (nI (r + 1))) 0 7 (nI (r + 1 + 1)) = w2 at ew hP2 ⊢
      rw [fX4_readsProphet_c76]
      rcases fig_step (m := 9) (M := 9) hP2 (by decide) (by omega) with ⟨g1, g2, g3⟩ | ⟨g1, g2⟩
      · rw [ew 14 _ (by omega)] at g2 g3
        have f2 : FitM w a b r 2 := by
          unfold FitM
          rw [if_neg (by decide), if_neg (by decide), if_pos rfl]
          exact ⟨g1, g2⟩
        obtain ⟨d2, hd2, -, ed2⟩ := dig_ex (m := 9) (by decide) (by omega) g2
        rw [g3]
        dsimp only
        rw [ed2, if_pos (nI_pos' (by omega))]
        have ew3 : ∀ x y, ¬ (x = 0 ∧ y = 7) → mset w2 0 7 (nI (r + 2 + 1)) x y = w x y := fun x y z => by rw [mset_oo z]; exact ew x y z
        have hP3 : PosOk (mset w2 0 7 (nI (r + 2 + 1))) a b (r + 3) := ⟨mset_at, by omega, h3, h4'⟩
        generalize mset w2 0 7 (nI (r + 2 + 1)) = w3 at ew3 hP3 ⊢
        rw [fX4_readsProphet_c95]
        rcases fig_step (m := 3) (M := 3) hP3 (by decide) (by omega) with ⟨g4, g5, g6⟩ | ⟨g4, g5⟩
        · rw [ew3 14 _ (by omega)] at g5 g6
          have f3 : FitM w a b r 3 := by
            unfold FitM
            rw [if_neg (by decide), if_neg (by decide), if_neg (by decide), if_pos rfl]
            exact ⟨g4, g5⟩
          obtain ⟨d3, hd3, ec3, ed3⟩ := dig_ex (m := 3) (by decide) (by omega) g5
          rw [g6]
          dsimp only
          rw [ed3, if_pos (nI_pos' (by omega))]
          have ew4 : ∀ x y, ¬ (x = 0 ∧ y = 7) → mset w3 0 7 (nI (r + 3 + 1)) x y = w x y := fun x y z => by rw [mset_oo z]; exact ew3 x y z
          have hP4 : PosOk (mset w3 0 7 (nI (r + 3 + 1))) a b (r + 4) := ⟨mset_at, by omega, h3, h4'⟩
          generalize mset w3 0 7 (nI (r + 3 + 1)) = w4 at ew4 hP4 ⊢
          have h51 : nI d3 = 3 ↔ w 14 (a + (r + 3)) = 51 := by
            rw [ec3]
            refine ⟨fun z => ?_, fun z => ?_⟩
            · have : d3 = 3 := (nI_eq (b := 3) (by omega) (by omega)).mp z
              subst this; rfl
            · have : 48 + d3 = 51 := (nI_eq (b := 51) (by omega) (by omega)).mp z
              have : d3 = 3 := by omega
              subst this; rfl
          -- the last figure
          have hlast : ∀ (M : Int32) (m : Nat), M.toInt = (m : Int) → m ≤ 9 → (FitM w a b r 4 ↔ (r + 4 < b ∧ fX3_isDigit (w 14 (a + (r + 4))) M = 1)) →
              (∃ j, j < 5 ∧ (∀ i, i < j → FitM w a b r i) ∧ ¬ FitM w a b r j ∧ ∃ W, fX4_readsProphet_c125 w (nI a) (nI b) ((fX4_figure w4 (nI a) (nI b) M).2) (w 14 (a + (r + 1))) (nI d2) (nI d3) ((fX4_figure w4 (nI a) (nI b) M).1) = (0, W) ∧ W 0 7 = nI (r + j) ∧ ∀ x y, ¬ (x = 0 ∧ y = 7) → W x y = w x y) ∨
              ((∀ i, i < 5 → FitM w a b r i) ∧ ∃ W, fX4_readsProphet_c125 w (nI a) (nI b) ((fX4_figure w4 (nI a) (nI b) M).2) (w 14 (a + (r + 1))) (nI d2) (nI d3) ((fX4_figure w4 (nI a) (nI b) M).1) = (1, W) ∧ W 0 7 = nI (r + 5) ∧ W 0 9 = nI (k + 1) ∧ W 6 k = toneM (w 14 (a + (r + 1))) ∧ W 7 k = nI d2 ∧ W 8 k = 10 * nI d3 + (w 14 (a + (r + 4)) - 48) ∧ ∀ x y, ¬ (x = 0 ∧ (y = 7 ∨ y = 9)) → ¬ (6 ≤ x ∧ x ≤ 8 ∧ y = k) → W x y = w x y) := by
            intro M m hM hm hf
            rcases fig_step hP4 hM hm with ⟨g7, g8, g9⟩ | ⟨g7, g8⟩
            · rw [ew4 14 _ (by omega)] at g8 g9
              obtain ⟨d4, hd4, -, ed4⟩ := dig_ex hM hm g8
              have f4 := hf.mpr ⟨g7, g8⟩
              rw [g9]
              dsimp only
              obtain ⟨W, W1, W2, W3, W4, W5, W6, W7⟩ := rp_125 (v := w) (w := mset w4 0 7 (nI (r + 4 + 1))) (f := nI a) (n := nI b) (c := w 14 (a + (r + 1))) (x4 := nI d2) (x5 := nI d3) (d := d4) (k := k) (by rw [mset_nei (by decide), ew4 0 9 (by omega), hk]) h4 (by omega)
              rw [ed4, W1]
              refine Or.inr ⟨fun i hi => ?_, W, rfl, by rw [W2, mset_at], W3, W4, W5, W6, fun x y z1 z2 => by rw [W7 x y z1 z2, mset_oo (by omega), ew4 x y (by omega)]⟩
              rcases (show i = 0 ∨ i = 1 ∨ i = 2 ∨ i = 3 ∨ i = 4 by omega) with rfl | rfl | rfl | rfl | rfl
              · exact f0
              · exact f1
              · exact f2
              · exact f3
              · exact f4
            · rw [ew4 14 _ (by omega)] at g7
              rw [g8, fX4_readsProphet_c125]
              dsimp only
              rw [if_neg (by decide)]
              refine Or.inl ⟨4, by omega, fun i hi => ?_, fun z => g7 (hf.mp z), w4, rfl, hP4.1, ew4⟩
              rcases (show i = 0 ∨ i = 1 ∨ i = 2 ∨ i = 3 by omega) with rfl | rfl | rfl | rfl
              · exact f0
              · exact f1
              · exact f2
              · exact f3
          by_cases z : nI d3 = 3
          · rw [if_pos z]
            refine hlast 1 1 (by decide) (by omega) ?_
            unfold FitM
            rw [if_neg (by decide), if_neg (by decide), if_neg (by decide), if_neg (by decide), if_pos (h51.mp z)]
          · rw [if_neg z]
            refine hlast 9 9 (by decide) (by omega) ?_
            unfold FitM
            rw [if_neg (by decide), if_neg (by decide), if_neg (by decide), if_neg (by decide), if_neg (fun y => z (h51.mpr y))]
        · rw [ew3 14 _ (by omega)] at g4
          rw [g5]
          dsimp only
          rw [if_neg (by decide), fX4_readsProphet_c125, if_neg (by decide)]
          refine Or.inl ⟨3, by omega, fun i hi => ?_, fun z => ?_, w3, rfl, hP3.1, ew3⟩
          · rcases (show i = 0 ∨ i = 1 ∨ i = 2 by omega) with rfl | rfl | rfl
            · exact f0
            · exact f1
            · exact f2
          · unfold FitM at z
            rw [if_neg (by decide), if_neg (by decide), if_neg (by decide), if_pos rfl] at z
            exact g4 z
      · rw [ew 14 _ (by omega)] at g1
        rw [g2]
        dsimp only
        rw [if_neg (by decide), fX4_readsProphet_c95, if_neg (by decide), fX4_readsProphet_c125, if_neg (by decide)]
        refine Or.inl ⟨2, by omega, fun i hi => ?_, fun z => ?_, w2, rfl, hP2.1, ew⟩
        · rcases (show i = 0 ∨ i = 1 by omega) with rfl | rfl
          · exact f0
          · exact f1
        · unfold FitM at z
          rw [if_neg (by decide), if_neg (by decide), if_pos rfl] at z
          exact g1 z
    · have hW : (if (if b ≤ r + 1 then (-9 : Int32) else w 14 (a + (r + 1))) = 109 then fX4_readsProphet_c76 w (nI a) (nI b) ((fX4_figure (mset (mset w 0 7 (nI (r + 1))) 0 7 (nI (r + 1 + 1))) (nI a) (nI b) 9).2) (if b ≤ r + 1 then (-9 : Int32) else w 14 (a + (r + 1))) ((fX4_figure (mset (mset w 0 7 (nI (r + 1))) 0 7 (nI (r + 1 + 1))) (nI a) (nI b) 9).1) else if (if b ≤ r + 1 then (-9 : Int32) else w 14 (a + (r + 1))) = 115 then fX4_readsProphet_c76 w (nI a) (nI b) ((fX4_figure (mset (mset w 0 7 (nI (r + 1))) 0 7 (nI (r + 1 + 1))) (nI a) (nI b) 9).2) (if b ≤ r + 1 then (-9 : Int32) else w 14 (a + (r + 1))) ((fX4_figure (mset (mset w 0 7 (nI (r + 1))) 0 7 (nI (r + 1 + 1))) (nI a) (nI b) 9).1) else if (if b ≤ r + 1 then (-9 : Int32) else w 14 (a + (r + 1))) = 108 then fX4_readsProphet_c76 w (nI a) (nI b) ((fX4_figure (mset (mset w 0 7 (nI (r + 1))) 0 7 (nI (r + 1 + 1))) (nI a) (nI b) 9).2) (if b ≤ r + 1 then (-9 : Int32) else w 14 (a + (r + 1))) ((fX4_figure (mset (mset w 0 7 (nI (r + 1))) 0 7 (nI (r + 1 + 1))) (nI a) (nI b) 9).1) else (0, mset w 0 7 (nI (r + 1)))) = (0, mset w 0 7 (nI (r + 1))) := by
        by_cases y : b ≤ r + 1
        · rw [if_pos y, if_neg (by decide), if_neg (by decide), if_neg (by decide)]
        · rw [if_neg y]
          have hn : ¬ isTone (w 14 (a + (r + 1))) := fun z => q1 ⟨by omega, z⟩
          rw [if_neg (fun z => hn (Or.inl z)), if_neg (fun z => hn (Or.inr (Or.inl z))), if_neg (fun z => hn (Or.inr (Or.inr z)))]
      rw [hW]
      refine Or.inl ⟨1, by omega, fun i hi => ?_, fun z => ?_, _, rfl, mset_at, fun x y z => mset_oo z⟩
      · have : i = 0 := by omega
        subst this
        exact f0
      · unfold FitM at z
        rw [if_neg (by decide), if_pos rfl] at z
        exact q1 z
  · have hW : ¬ (if b ≤ r then (-9 : Int32) else w 14 (a + r)) = 59 := by
      by_cases y : b ≤ r
      · rw [if_pos y]; decide
      · rw [if_neg y]; exact fun z => q0 ⟨by omega, z⟩
    rw [if_neg hW]
    refine Or.inl ⟨0, by omega, fun i hi => by omega, fun z => ?_, w, rfl, h1, fun x y z => rfl⟩
    unfold FitM at z
    rw [if_pos rfl] at z
    exact q0 z
theorem rp_full {w : Mem} {f n : Int32} (he : w 0 9 = 4) : fX4_readsProphet w f n = (0, w) := by
  rw [fX4_readsProphet, if_pos he]
theorem fit_lt {w : Mem} {a b r j : Nat} (hr : r ≤ b) (h : ∀ i, i < j → FitM w a b r i) : r + j ≤ b := by
  rcases Nat.eq_zero_or_pos j with z | z
  · omega
  · have := (h (j - 1) (by omega)).1
    omega
theorem rp_any {w : Mem} {f n : Int32} {k : Nat} (g : CaOk w f n) (e : w 0 9 = nI k) (hk : k ≤ 4) :
    ∃ kq : Nat, kq ≤ 4 ∧ (fX4_readsProphet w f n).2 0 9 = nI kq ∧ CaOk (fX4_readsProphet w f n).2 f n ∧ (fX4_readsProphet w f n).2 0 8 = w 0 8 ∧ (((fX4_readsProphet w f n).1 = 0 ∧ kq = k) ∨ ((fX4_readsProphet w f n).1 = 1 ∧ kq = k + 1)) := by
  rcases Nat.lt_or_ge k 4 with h4 | h4
  · obtain ⟨r, a, b, e1, ef, en, h1, h2, h3⟩ := g
    subst ef
    subst en
    rcases rp_spec (w := w) (a := a) (b := b) (r := r) (k := k) ⟨e1, h1, h2, h3⟩ e h4 with ⟨j, j1, j2, j3, W, w1, w2, w3⟩ | ⟨j1, W, w1, w2, w3, w4, w5, w6, w7⟩
    · rw [w1]
      exact ⟨k, hk, (w3 0 9 (by omega)).trans e, ⟨r + j, a, b, w2, rfl, rfl, fit_lt h1 j2, h2, h3⟩, w3 0 8 (by omega), Or.inl ⟨rfl, rfl⟩⟩
    · rw [w1]
      exact ⟨k + 1, h4, w3, ⟨r + 5, a, b, w2, rfl, rfl, fit_lt h1 j1, h2, h3⟩, w7 0 8 (by omega) (by omega), Or.inr ⟨rfl, rfl⟩⟩
  · have : k = 4 := by omega
    subst this
    rw [rp_full e]
    exact ⟨4, hk, e, g, rfl, Or.inl ⟨rfl, rfl⟩⟩
theorem rp_step {w : Mem} {f n x : Int32} {k m : Nat} (g : CaOk w f n) (e : w 0 9 = nI k) (hk : k ≤ 4) (hm : 6 ≤ k + (m + 1) ∨ (x = 0 ∧ 1 ≤ m + 1)) (hx : ¬ x = 0) : ∃ kq : Nat, kq ≤ 4 ∧ (fX4_readsProphet w f n).2 0 9 = nI kq ∧ CaOk (fX4_readsProphet w f n).2 f n ∧ ((fX4_readsProphet w f n).1 = 0 ∨ (fX4_readsProphet w f n).1 = 1) ∧ (6 ≤ kq + m ∨ ((fX4_readsProphet w f n).1 = 0 ∧ 1 ≤ m)) := by
  have hm' : 6 ≤ k + (m + 1) := hm.elim id (fun z => absurd z.1 hx)
  obtain ⟨kq, h1, h2, h3, -, h5⟩ := rp_any g e hk
  refine ⟨kq, h1, h2, h3, ?_, ?_⟩
  · rcases h5 with ⟨q, -⟩ | ⟨q, -⟩
    · exact Or.inl q
    · exact Or.inr q
  · rcases h5 with ⟨q, z⟩ | ⟨q, z⟩
    · exact Or.inr ⟨q, by omega⟩
    · exact Or.inl (by omega)
def fX4_readsOffice_c82 (v : Mem) (p0 : Int32) (p1 : Int32)  : Nat → Mem → Int32 → Int32 × Mem
  | 0, w82, x3 => (0, w82)
  | n82 + 1, w82, x3 => (if x3 = 0 then (x3, w82) else (if (w82 0 9) = 0 then (fX4_readsOffice_c82 v p0 p1 n82 ((fX4_readsProphet w82 p0 p1).2) ((fX4_readsProphet w82 p0 p1).1)) else (if p1 ≤ (w82 0 7) then (x3, w82) else (fX4_readsOffice_c82 v p0 p1 n82 ((fX4_readsProphet w82 p0 p1).2) ((fX4_readsProphet w82 p0 p1).1)))))
def fX4_readsOffice_c50 (v : Mem) (p0 : Int32) (p1 : Int32)  : Nat → Mem → Int32 → Int32 × Mem
  | 0, w50, x3 => (0, w50)
  | n50 + 1, w50, x3 => (if x3 = 0 then (fX4_readsOffice_c82 v p0 p1 (7) w50 x3) else (if (w50 0 8) = 0 then (fX4_readsOffice_c50 v p0 p1 n50 ((fX4_readsEvent w50 p0 p1).2) ((fX4_readsEvent w50 p0 p1).1)) else (if (fX4_codeAt w50 p0 p1) = 47 then (fX4_readsOffice_c50 v p0 p1 n50 ((fX4_readsEvent w50 p0 p1).2) ((fX4_readsEvent w50 p0 p1).1)) else (fX4_readsOffice_c82 v p0 p1 (7) w50 x3))))
def fX4_readsOffice_c46 (v : Mem) (p0 : Int32) (p1 : Int32)  (w46 : Mem) (x3 : Int32) (z0 : Int32) (z1 : Int32) : Int32 × Mem :=
  (fX4_readsOffice_c50 v p0 p1 (8) (mset w46 0 7 (z1 + z0)) x3)
def fX4_readsOffice (v : Mem) (p0 : Int32) (p1 : Int32) : Int32 × Mem :=
  (if (fX4_codeAt (mset (mset (mset v 0 7 0) 0 8 0) 0 9 0) p0 p1) = 119 then (fX4_readsOffice_c46 v p0 p1 (mset (mset (mset v 0 7 0) 0 8 0) 0 9 0) 1 1 ((mset (mset (mset v 0 7 0) 0 8 0) 0 9 0) 0 7)) else (fX4_readsOffice_c46 v p0 p1 (mset (mset (mset v 0 7 0) 0 8 0) 0 9 0) 0 0 ((mset (mset (mset v 0 7 0) 0 8 0) 0 9 0) 0 7)))
set_option maxRecDepth 100000 in
set_option maxHeartbeats 4000000 in
theorem kX4_readsOffice (l : Launch) (D : va_G) (cz : ClassId) (bd : Nat → Nat) (hI : MI bd) (v : Mem) (p0 : Int32) (p1 : Int32) (hgr : GrOk p0 p1) : Met l yX4_readsOffice wsX4_readsOffice ({ frames := 3, cells := 0, slots := 0, locals := 76 } : Room) (va_Pc [.ref (bd 0), .int p0, .int p1] (MB D cz bd v)) (qW (MB D cz bd (fX4_readsOffice v p0 p1).2) (AM bd) (some (.int (fX4_readsOffice v p0 p1).1))) 0 0 (AM bd) := by
  refine m_start (cc := cX4_readsOffice) (maxL := 4) (ret := (some .boolean)) (by decide) rfl (Nat.le_of_ble_eq_true rfl) (fun p e s m below meth c hx hb hr hts hown hml hlk _ hB ls hl => ?_)
  obtain ⟨hP, hK⟩ := hB
  have hown : s.vm.findClass RX4 = some m.cls := hown
  have hl : lv_has ls 4 [(0, .ref (bd 0)), (1, .int p0), (2, .int p1)] := hl
  have hin_X4 : ∀ w ∈ wsX40, w ∈ wsX4_readsOffice := fun _ h => List.mem_cons_of_mem _ (List.mem_append_right _ (h))
  obtain ⟨H, hH⟩ : ∃ H, H = s.heap := ⟨_, rfl⟩
  obtain ⟨locs, hlo⟩ : ∃ z : List Loc, z = [] := ⟨_, rfl⟩
  have hS : va_S (AM bd) s.heap H locs := by rw [hH, hlo]; exact va_S.rf
  have hP : va_P D vwCl (wM cz bd v) H := by rw [hH]; exact hP
  suffices hgoal : W p l e ({ frames := 3, cells := 0, slots := 0, locals := 76 } : Room) s m ([.ref (bd 0), .int p0, .int p1] : List Value).toArray below meth c H locs 0 0 (MQ below (qW (MB D cz bd (fX4_readsOffice v p0 p1).2) (AM bd) (some (.int (fX4_readsOffice v p0 p1).1))) ([.ref (bd 0), .int p0, .int p1] : List Value).toArray s 0 0 (AM bd)) (F0 m 0 ls []) by rw [hH, hlo] at hgoal; exact hgoal
  clear hH hlo
  have lp82 : ∀ (n82 : Nat) (w82 : Mem) (x3 : Int32) (k82 : Nat), (fX4_readsOffice v p0 p1) = (fX4_readsOffice_c82 v p0 p1 n82 w82 x3) → (w82 0 9 = nI k82) → (k82 ≤ 4) → (CaOk w82 p0 p1) → (x3 = 0 ∨ x3 = 1) → (6 ≤ k82 + n82 ∨ (x3 = 0 ∧ 1 ≤ n82)) → ∀ (H : Heap) (locs : List Loc), va_P D vwCl (wM cz bd w82) H → va_S (AM bd) s.heap H locs → ∀ ls : Array Slot, lv_has ls 4 [(0, .ref (bd 0)), (1, .int p0), (2, .int p1), (3, .int x3)] → W p l e ({ frames := 3, cells := 0, slots := 0, locals := 76 } : Room) s m ([.ref (bd 0), .int p0, .int p1] : List Value).toArray below meth c H locs 0 0 (MQ below (qW (MB D cz bd (fX4_readsOffice v p0 p1).2) (AM bd) (some (.int (fX4_readsOffice v p0 p1).1))) ([.ref (bd 0), .int p0, .int p1] : List Value).toArray s 0 0 (AM bd)) (F0 m 82 ls []) := by
    intro n82
    induction n82 with
    | zero =>
      intro w82 x3 k82 _ e82 hk82 g82 b82 hm82 H locs hP hS ls hl
      rcases hm82 with q | ⟨_, q⟩ <;> omega
    | succ n82 ih82 =>
      intro w82 x3 k82 hr82 e82 hk82 g82 b82 hm82 H locs hP hS ls hl
      refine lv_iload_n hx hb dX4_readsOffice_82 rfl (lv_at hl 3 rfl) ?_
      refine lv_if_eq (tgt := 111) hx hb dX4_readsOffice_83 (by decide) (fun c1 => ?_) (fun c1 => ?_)
      · refine lv_iload_n hx hb dX4_readsOffice_111 rfl (lv_at hl 3 rfl) ?_
        exact rMZ hx hb hr hlk hK hP hS (by first | assumption | exact nb_isDigit _ _ | exact nb_isWithin _ _ | exact nb01 (by assumption)) dX4_readsOffice_112 (by rw [hr82, fX4_readsOffice_c82, if_pos c1])
      · refine lv_aload_n hx hb dX4_readsOffice_86 rfl (lv_at hl 0 rfl) ?_
        refine zg_X4_readProphets hx hb hts hin_X4 hown hK hP (hts (Cond.fieldLink RX4 93 "ProphetCoverModel" "readProphets" "I") (List.mem_of_getElem? (i := 3) rfl)) dX4_readsOffice_87 ?_
        refine lv_if_eq (tgt := 101) hx hb dX4_readsOffice_90 (by decide) (fun c2 => ?_) (fun c2 => ?_)
        · refine lv_aload_n hx hb dX4_readsOffice_101 rfl (lv_at hl 0 rfl) ?_
          refine lv_iload_n hx hb dX4_readsOffice_102 rfl (lv_at hl 1 rfl) ?_
          have hrp4 : ∃ e : Nat, e ≤ 4 ∧ w82 0 9 = nI e := ⟨k82, hk82, e82⟩
          refine lv_iload_n hx hb dX4_readsOffice_103 rfl (lv_at hl 2 rfl) ?_
          refine kWM (n := 2) (As := [.int p0, .int p1]) (rest := []) ⟨hx, hb, hml, hown, hts⟩ (kX4_readsProphet l D cz bd hI w82 p0 p1 (by assumption) (by assumption)) gX4_readsOffice_X4_readsProphet rfl rfl rfl (by decide +kernel) ⟨Nat.le_of_ble_eq_true rfl, Nat.le_of_ble_eq_true rfl⟩ (recvM hP hK) hP hK hS rfl hl.1 rfl (Nat.le_of_ble_eq_true rfl) dX4_readsOffice_104 ⟨Nat.le_refl _, Nat.le_refl _⟩ (fun H locs hP hS => ?_)
          obtain ⟨kq, hkq, eq, gq, bq, hmq⟩ := rp_step (n := p1) g82 e82 hk82 hm82 (by assumption)
          refine lv_istore_n (lv' := [(3, .int (fX4_readsProphet w82 p0 p1).1), (0, .ref (bd 0)), (1, .int p0), (2, .int p1)]) hx hb dX4_readsOffice_107 rfl hl (by decide) rfl (fun ls hl => ?_)
          refine lv_goto (tgt := 82) hx hb dX4_readsOffice_108 (by decide) ?_
          exact ih82 ((fX4_readsProphet w82 p0 p1).2) ((fX4_readsProphet w82 p0 p1).1) (kq) (by rw [hr82, fX4_readsOffice_c82, if_neg c1, if_pos c2]) eq hkq gq bq hmq H locs hP hS ls (lv_sub hl [1, 2, 3, 0] rfl)
        · refine lv_aload_n hx hb dX4_readsOffice_93 rfl (lv_at hl 0 rfl) ?_
          refine zg_X4_readAt hx hb hts hin_X4 hown hK hP (hts (Cond.fieldLink RX4 79 "ProphetCoverModel" "readAt" "I") (List.mem_of_getElem? (i := 1) rfl)) dX4_readsOffice_94 ?_
          refine lv_iload_n hx hb dX4_readsOffice_97 rfl (lv_at hl 2 rfl) ?_
          refine lv_icmp_ge (tgt := 111) hx hb dX4_readsOffice_98 (by decide) (fun c3 => ?_) (fun c3 => ?_)
          · refine lv_iload_n hx hb dX4_readsOffice_111 rfl (lv_at hl 3 rfl) ?_
            exact rMZ hx hb hr hlk hK hP hS (by first | assumption | exact nb_isDigit _ _ | exact nb_isWithin _ _ | exact nb01 (by assumption)) dX4_readsOffice_112 (by rw [hr82, fX4_readsOffice_c82, if_neg c1, if_neg c2, if_pos c3])
          · refine lv_aload_n hx hb dX4_readsOffice_101 rfl (lv_at hl 0 rfl) ?_
            refine lv_iload_n hx hb dX4_readsOffice_102 rfl (lv_at hl 1 rfl) ?_
            have hrp4 : ∃ e : Nat, e ≤ 4 ∧ w82 0 9 = nI e := ⟨k82, hk82, e82⟩
            refine lv_iload_n hx hb dX4_readsOffice_103 rfl (lv_at hl 2 rfl) ?_
            refine kWM (n := 2) (As := [.int p0, .int p1]) (rest := []) ⟨hx, hb, hml, hown, hts⟩ (kX4_readsProphet l D cz bd hI w82 p0 p1 (by assumption) (by assumption)) gX4_readsOffice_X4_readsProphet rfl rfl rfl (by decide +kernel) ⟨Nat.le_of_ble_eq_true rfl, Nat.le_of_ble_eq_true rfl⟩ (recvM hP hK) hP hK hS rfl hl.1 rfl (Nat.le_of_ble_eq_true rfl) dX4_readsOffice_104 ⟨Nat.le_refl _, Nat.le_refl _⟩ (fun H locs hP hS => ?_)
            obtain ⟨kq, hkq, eq, gq, bq, hmq⟩ := rp_step (n := p1) g82 e82 hk82 hm82 (by assumption)
            refine lv_istore_n (lv' := [(3, .int (fX4_readsProphet w82 p0 p1).1), (0, .ref (bd 0)), (1, .int p0), (2, .int p1)]) hx hb dX4_readsOffice_107 rfl hl (by decide) rfl (fun ls hl => ?_)
            refine lv_goto (tgt := 82) hx hb dX4_readsOffice_108 (by decide) ?_
            exact ih82 ((fX4_readsProphet w82 p0 p1).2) ((fX4_readsProphet w82 p0 p1).1) (kq) (by rw [hr82, fX4_readsOffice_c82, if_neg c1, if_neg c2, if_neg c3]) eq hkq gq bq hmq H locs hP hS ls (lv_sub hl [1, 2, 3, 0] rfl)
  have sg46 : ∀ (w46 : Mem) (x3 : Int32) (z0 : Int32) (z1 : Int32), (fX4_readsOffice v p0 p1) = (fX4_readsOffice_c46 v p0 p1 w46 x3 z0 z1) → (w46 0 8 = nI 0) → (w46 0 9 = nI 0) → (x3 = 0 ∨ x3 = 1) → (CaOk (mset w46 0 7 (z1 + z0)) p0 p1) → ∀ (H : Heap) (locs : List Loc), va_P D vwCl (wM cz bd w46) H → va_S (AM bd) s.heap H locs → ∀ ls : Array Slot, lv_has ls 4 [(0, .ref (bd 0)), (1, .int p0), (2, .int p1), (3, .int x3)] → W p l e ({ frames := 3, cells := 0, slots := 0, locals := 76 } : Room) s m ([.ref (bd 0), .int p0, .int p1] : List Value).toArray below meth c H locs 0 0 (MQ below (qW (MB D cz bd (fX4_readsOffice v p0 p1).2) (AM bd) (some (.int (fX4_readsOffice v p0 p1).1))) ([.ref (bd 0), .int p0, .int p1] : List Value).toArray s 0 0 (AM bd)) (F0 m 46 ls [.int z0, .int z1, .ref (bd 0)]) := by
    intro w46 x3 z0 z1 hr46 e46 q46 b46 g46 H locs hP hS ls hl
    refine lv_iadd hx hb dX4_readsOffice_46 ?_
    refine zp_X4_readAt hx hb hts hin_X4 hown hK hP hI hS (hts (Cond.fieldLink RX4 79 "ProphetCoverModel" "readAt" "I") (List.mem_of_getElem? (i := 1) rfl)) dX4_readsOffice_47 (fun H locs hP hS => ?_)
    have g46b : CaOk (mset w46 0 7 (z1 + z0)) p0 p1 := by first | assumption | exact g50
    have lp50 : ∀ (n50 : Nat) (w50 : Mem) (x3 : Int32) (k50 : Nat), (fX4_readsOffice v p0 p1) = (fX4_readsOffice_c50 v p0 p1 n50 w50 x3) → (w50 0 8 = nI k50) → (k50 ≤ 5) → (CaOk w50 p0 p1) → (x3 = 0 ∨ x3 = 1) → (w50 0 9 = nI 0) → (7 ≤ k50 + n50 ∨ (x3 = 0 ∧ 1 ≤ n50)) → ∀ (H : Heap) (locs : List Loc), va_P D vwCl (wM cz bd w50) H → va_S (AM bd) s.heap H locs → ∀ ls : Array Slot, lv_has ls 4 [(0, .ref (bd 0)), (1, .int p0), (2, .int p1), (3, .int x3)] → W p l e ({ frames := 3, cells := 0, slots := 0, locals := 76 } : Room) s m ([.ref (bd 0), .int p0, .int p1] : List Value).toArray below meth c H locs 0 0 (MQ below (qW (MB D cz bd (fX4_readsOffice v p0 p1).2) (AM bd) (some (.int (fX4_readsOffice v p0 p1).1))) ([.ref (bd 0), .int p0, .int p1] : List Value).toArray s 0 0 (AM bd)) (F0 m 50 ls []) := by
      intro n50
      induction n50 with
      | zero =>
        intro w50 x3 k50 _ e50 hk50 g50 b50 q50 hm50 H locs hP hS ls hl
        rcases hm50 with q | ⟨_, q⟩ <;> omega
      | succ n50 ih50 =>
        intro w50 x3 k50 hr50 e50 hk50 g50 b50 q50 hm50 H locs hP hS ls hl
        refine lv_iload_n hx hb dX4_readsOffice_50 rfl (lv_at hl 3 rfl) ?_
        refine lv_if_eq (tgt := 82) hx hb dX4_readsOffice_51 (by decide) (fun c4 => ?_) (fun c4 => ?_)
        · exact lp82 (7) w50 x3 (0) (by rw [hr50, fX4_readsOffice_c50, if_pos c4]) q50 (by omega) g50 b50 (Or.inl (by omega)) H locs hP hS ls (lv_sub hl [0, 1, 2, 3] rfl)
        · refine lv_aload_n hx hb dX4_readsOffice_54 rfl (lv_at hl 0 rfl) ?_
          refine zg_X4_readEvents hx hb hts hin_X4 hown hK hP (hts (Cond.fieldLink RX4 86 "ProphetCoverModel" "readEvents" "I") (List.mem_of_getElem? (i := 2) rfl)) dX4_readsOffice_55 ?_
          refine lv_if_eq (tgt := 72) hx hb dX4_readsOffice_58 (by decide) (fun c5 => ?_) (fun c5 => ?_)
          · refine lv_aload_n hx hb dX4_readsOffice_72 rfl (lv_at hl 0 rfl) ?_
            refine lv_iload_n hx hb dX4_readsOffice_73 rfl (lv_at hl 1 rfl) ?_
            have hre : ∃ e : Nat, e ≤ 5 ∧ w50 0 8 = nI e := ⟨k50, hk50, e50⟩
            refine lv_iload_n hx hb dX4_readsOffice_74 rfl (lv_at hl 2 rfl) ?_
            refine kWM (n := 2) (As := [.int p0, .int p1]) (rest := []) ⟨hx, hb, hml, hown, hts⟩ (kX4_readsEvent l D cz bd hI w50 p0 p1 (by assumption) (by assumption)) gX4_readsOffice_X4_readsEvent rfl rfl rfl (by decide +kernel) ⟨Nat.le_of_ble_eq_true rfl, Nat.le_of_ble_eq_true rfl⟩ (recvM hP hK) hP hK hS rfl hl.1 rfl (Nat.le_of_ble_eq_true rfl) dX4_readsOffice_75 ⟨Nat.le_refl _, Nat.le_refl _⟩ (fun H locs hP hS => ?_)
            obtain ⟨kq, hkq, eq, gq, bq, keq, hmq⟩ := re_step (n := p1) g50 e50 hk50 hm50 (by assumption)
            refine lv_istore_n (lv' := [(3, .int (fX4_readsEvent w50 p0 p1).1), (0, .ref (bd 0)), (1, .int p0), (2, .int p1)]) hx hb dX4_readsOffice_78 rfl hl (by decide) rfl (fun ls hl => ?_)
            refine lv_goto (tgt := 50) hx hb dX4_readsOffice_79 (by decide) ?_
            have g46b : CaOk (fX4_readsEvent w50 p0 p1).2 p0 p1 := by first | assumption | exact g50
            exact ih50 ((fX4_readsEvent w50 p0 p1).2) ((fX4_readsEvent w50 p0 p1).1) (kq) (by rw [hr50, fX4_readsOffice_c50, if_neg c4, if_pos c5]) eq hkq gq bq (keq.trans q50) hmq H locs hP hS ls (lv_sub hl [1, 2, 3, 0] rfl)
          · refine lv_aload_n hx hb dX4_readsOffice_61 rfl (lv_at hl 0 rfl) ?_
            refine lv_iload_n hx hb dX4_readsOffice_62 rfl (lv_at hl 1 rfl) ?_
            refine lv_iload_n hx hb dX4_readsOffice_63 rfl (lv_at hl 2 rfl) ?_
            refine kV (n := 2) (As := [.int p0, .int p1]) (rest := []) ⟨hx, hb, hml, hown, hts⟩ (kX4_codeAt l D cz bd w50 p0 p1 (by assumption)) gX4_readsOffice_X4_codeAt rfl rfl rfl (by decide +kernel) ⟨Nat.le_of_ble_eq_true rfl, Nat.le_of_ble_eq_true rfl⟩ (recvM hP hK) (MB_of hP hK) MB_bl rfl hl.1 rfl (Nat.le_of_ble_eq_true rfl) dX4_readsOffice_64 ⟨Nat.le_refl _, Nat.le_refl _⟩ ?_
            refine lv_bipush (v := 47) hx hb dX4_readsOffice_67 (by decide) ?_
            refine lv_icmp_ne (tgt := 82) hx hb dX4_readsOffice_69 (by decide) (fun c6 => ?_) (fun c6 => ?_)
            · exact lp82 (7) w50 x3 (0) (by rw [hr50, fX4_readsOffice_c50, if_neg c4, if_neg c5, if_neg c6]) q50 (by omega) g50 b50 (Or.inl (by omega)) H locs hP hS ls (lv_sub hl [0, 1, 2, 3] rfl)
            · refine lv_aload_n hx hb dX4_readsOffice_72 rfl (lv_at hl 0 rfl) ?_
              refine lv_iload_n hx hb dX4_readsOffice_73 rfl (lv_at hl 1 rfl) ?_
              have hre : ∃ e : Nat, e ≤ 5 ∧ w50 0 8 = nI e := ⟨k50, hk50, e50⟩
              refine lv_iload_n hx hb dX4_readsOffice_74 rfl (lv_at hl 2 rfl) ?_
              refine kWM (n := 2) (As := [.int p0, .int p1]) (rest := []) ⟨hx, hb, hml, hown, hts⟩ (kX4_readsEvent l D cz bd hI w50 p0 p1 (by assumption) (by assumption)) gX4_readsOffice_X4_readsEvent rfl rfl rfl (by decide +kernel) ⟨Nat.le_of_ble_eq_true rfl, Nat.le_of_ble_eq_true rfl⟩ (recvM hP hK) hP hK hS rfl hl.1 rfl (Nat.le_of_ble_eq_true rfl) dX4_readsOffice_75 ⟨Nat.le_refl _, Nat.le_refl _⟩ (fun H locs hP hS => ?_)
              obtain ⟨kq, hkq, eq, gq, bq, keq, hmq⟩ := re_step (n := p1) g50 e50 hk50 hm50 (by assumption)
              refine lv_istore_n (lv' := [(3, .int (fX4_readsEvent w50 p0 p1).1), (0, .ref (bd 0)), (1, .int p0), (2, .int p1)]) hx hb dX4_readsOffice_78 rfl hl (by decide) rfl (fun ls hl => ?_)
              refine lv_goto (tgt := 50) hx hb dX4_readsOffice_79 (by decide) ?_
              have g46b : CaOk (fX4_readsEvent w50 p0 p1).2 p0 p1 := by first | assumption | exact g50
              exact ih50 ((fX4_readsEvent w50 p0 p1).2) ((fX4_readsEvent w50 p0 p1).1) (kq) (by rw [hr50, fX4_readsOffice_c50, if_neg c4, if_neg c5, if_pos c6]) eq hkq gq bq (keq.trans q50) hmq H locs hP hS ls (lv_sub hl [1, 2, 3, 0] rfl)
    exact lp50 (8) (mset w46 0 7 (z1 + z0)) x3 (0) (by rw [hr46, fX4_readsOffice_c46]) e46 (by omega) g46b b46 q46 (Or.inl (by omega)) H locs hP hS ls (lv_sub hl [0, 1, 2, 3] rfl)
  refine lv_aload_n hx hb dX4_readsOffice_0 rfl (lv_at hl 0 rfl) ?_
  refine lv_iconst (v := 0) hx hb dX4_readsOffice_1 (by decide) ?_
  refine zp_X4_readAt hx hb hts hin_X4 hown hK hP hI hS (hts (Cond.fieldLink RX4 79 "ProphetCoverModel" "readAt" "I") (List.mem_of_getElem? (i := 1) rfl)) dX4_readsOffice_2 (fun H locs hP hS => ?_)
  refine lv_aload_n hx hb dX4_readsOffice_5 rfl (lv_at hl 0 rfl) ?_
  refine lv_iconst (v := 0) hx hb dX4_readsOffice_6 (by decide) ?_
  refine zp_X4_readEvents hx hb hts hin_X4 hown hK hP hI hS (hts (Cond.fieldLink RX4 86 "ProphetCoverModel" "readEvents" "I") (List.mem_of_getElem? (i := 2) rfl)) dX4_readsOffice_7 (fun H locs hP hS => ?_)
  refine lv_aload_n hx hb dX4_readsOffice_10 rfl (lv_at hl 0 rfl) ?_
  refine lv_iconst (v := 0) hx hb dX4_readsOffice_11 (by decide) ?_
  refine zp_X4_readProphets hx hb hts hin_X4 hown hK hP hI hS (hts (Cond.fieldLink RX4 93 "ProphetCoverModel" "readProphets" "I") (List.mem_of_getElem? (i := 3) rfl)) dX4_readsOffice_12 (fun H locs hP hS => ?_)
  have hca0 : CaOk (mset (mset (mset v 0 7 0) 0 8 0) 0 9 0) p0 p1 := ro_ca hgr
  refine lv_aload_n hx hb dX4_readsOffice_15 rfl (lv_at hl 0 rfl) ?_
  refine lv_iload_n hx hb dX4_readsOffice_16 rfl (lv_at hl 1 rfl) ?_
  refine lv_iload_n hx hb dX4_readsOffice_17 rfl (lv_at hl 2 rfl) ?_
  refine kV (n := 2) (As := [.int p0, .int p1]) (rest := []) ⟨hx, hb, hml, hown, hts⟩ (kX4_codeAt l D cz bd (mset (mset (mset v 0 7 0) 0 8 0) 0 9 0) p0 p1 (by assumption)) gX4_readsOffice_X4_codeAt rfl rfl rfl (by decide +kernel) ⟨Nat.le_of_ble_eq_true rfl, Nat.le_of_ble_eq_true rfl⟩ (recvM hP hK) (MB_of hP hK) MB_bl rfl hl.1 rfl (Nat.le_of_ble_eq_true rfl) dX4_readsOffice_18 ⟨Nat.le_refl _, Nat.le_refl _⟩ ?_
  refine lv_bipush (v := 119) hx hb dX4_readsOffice_21 (by decide) ?_
  refine lv_icmp_ne (tgt := 30) hx hb dX4_readsOffice_23 (by decide) (fun c7 => ?_) (fun c7 => ?_)
  · refine lv_iconst (v := 0) hx hb dX4_readsOffice_30 (by decide) ?_
    refine lv_istore_n (lv' := [(3, .int 0), (0, .ref (bd 0)), (1, .int p0), (2, .int p1)]) hx hb dX4_readsOffice_31 rfl hl (by decide) rfl (fun ls hl => ?_)
    refine lv_aload_n hx hb dX4_readsOffice_32 rfl (lv_at hl 1 rfl) ?_
    refine lv_dup hx hb dX4_readsOffice_33 rfl ?_
    refine zg_X4_readAt hx hb hts hin_X4 hown hK hP (hts (Cond.fieldLink RX4 79 "ProphetCoverModel" "readAt" "I") (List.mem_of_getElem? (i := 1) rfl)) dX4_readsOffice_34 ?_
    refine lv_iload_n hx hb dX4_readsOffice_37 rfl (lv_at hl 0 rfl) ?_
    refine lv_if_eq (tgt := 45) hx hb dX4_readsOffice_38 (by decide) (fun _ => ?_) (fun c => absurd (by decide) c)
    refine lv_iconst (v := 0) hx hb dX4_readsOffice_45 (by decide) ?_
    exact sg46 (mset (mset (mset v 0 7 0) 0 8 0) 0 9 0) 0 0 ((mset (mset (mset v 0 7 0) 0 8 0) 0 9 0) 0 7)  (by rw [fX4_readsOffice, if_neg c7]) rfl rfl (by first | exact Or.inl rfl | exact Or.inr rfl) (by first | exact ro_ca1 hgr (by assumption) | exact ro_ca0 hgr) H locs hP hS ls (lv_sub hl [1, 2, 3, 0] rfl)
  · refine lv_iconst (v := 1) hx hb dX4_readsOffice_26 (by decide) ?_
    refine lv_goto (tgt := 31) hx hb dX4_readsOffice_27 (by decide) ?_
    refine lv_istore_n (lv' := [(3, .int 1), (0, .ref (bd 0)), (1, .int p0), (2, .int p1)]) hx hb dX4_readsOffice_31 rfl hl (by decide) rfl (fun ls hl => ?_)
    refine lv_aload_n hx hb dX4_readsOffice_32 rfl (lv_at hl 1 rfl) ?_
    refine lv_dup hx hb dX4_readsOffice_33 rfl ?_
    refine zg_X4_readAt hx hb hts hin_X4 hown hK hP (hts (Cond.fieldLink RX4 79 "ProphetCoverModel" "readAt" "I") (List.mem_of_getElem? (i := 1) rfl)) dX4_readsOffice_34 ?_
    refine lv_iload_n hx hb dX4_readsOffice_37 rfl (lv_at hl 0 rfl) ?_
    refine lv_if_eq (tgt := 45) hx hb dX4_readsOffice_38 (by decide) (fun c => absurd c (by decide)) (fun _ => ?_)
    refine lv_iconst (v := 1) hx hb dX4_readsOffice_41 (by decide) ?_
    refine lv_goto (tgt := 46) hx hb dX4_readsOffice_42 (by decide) ?_
    exact sg46 (mset (mset (mset v 0 7 0) 0 8 0) 0 9 0) 1 1 ((mset (mset (mset v 0 7 0) 0 8 0) 0 9 0) 0 7)  (by rw [fX4_readsOffice, if_pos c7]) rfl rfl (by first | exact Or.inl rfl | exact Or.inr rfl) (by first | exact ro_ca1 hgr (by assumption) | exact ro_ca0 hgr) H locs hP hS ls (lv_sub hl [1, 2, 3, 0] rfl)
theorem ro_82 {v : Mem} {f n : Int32} {e : Nat} : ∀ (m : Nat) (w : Mem) (x : Int32) (k : Nat), CaOk w f n → w 0 8 = nI e → w 0 9 = nI k → k ≤ 4 → (fX4_readsOffice_c82 v f n m w x).2 0 8 = nI e ∧ ∃ po : Nat, po ≤ 4 ∧ (fX4_readsOffice_c82 v f n m w x).2 0 9 = nI po := by
  intro m
  induction m with
  | zero => intro w x k g he hk h4; exact ⟨he, k, h4, hk⟩
  | succ m ih =>
    intro w x k g he hk h4
    obtain ⟨kq, h1, h2, h3, h5, -⟩ := rp_any g hk h4
    have hi := ih (fX4_readsProphet w f n).2 (fX4_readsProphet w f n).1 kq h3 (h5.trans he) h2 h1
    rw [fX4_readsOffice_c82]
    split
    · exact ⟨he, k, h4, hk⟩
    · split
      · exact hi
      · split
        · exact ⟨he, k, h4, hk⟩
        · exact hi
theorem ro_50 {v : Mem} {f n : Int32} : ∀ (m : Nat) (w : Mem) (x : Int32) (e : Nat), CaOk w f n → w 0 8 = nI e → w 0 9 = nI 0 → e ≤ 5 → ∃ eo : Nat, eo ≤ 5 ∧ (fX4_readsOffice_c50 v f n m w x).2 0 8 = nI eo ∧ ∃ po : Nat, po ≤ 4 ∧ (fX4_readsOffice_c50 v f n m w x).2 0 9 = nI po := by
  intro m
  induction m with
  | zero => intro w x e g he hk h5; exact ⟨e, h5, he, 0, by omega, hk⟩
  | succ m ih =>
    intro w x e g he hk h5
    obtain ⟨eq, h1, h2, h3, h4⟩ := re_any g he h5
    have hi := ih (fX4_readsEvent w f n).2 (fX4_readsEvent w f n).1 eq h3 h2 (h4.trans hk) h1
    have h8 := ro_82 (v := v) (e := e) 7 w x 0 g he hk (by omega)
    rw [fX4_readsOffice_c50]
    split
    · exact ⟨e, h5, h8⟩
    · split
      · exact hi
      · split
        · exact hi
        · exact ⟨e, h5, h8⟩
theorem ro_ok {v : Mem} {f n : Int32} (h : GrOk f n) : ∃ eo : Nat, eo ≤ 5 ∧ (fX4_readsOffice v f n).2 0 8 = nI eo ∧ ∃ po : Nat, po ≤ 4 ∧ (fX4_readsOffice v f n).2 0 9 = nI po := by
  obtain ⟨a, b, ef, en, h1, h2⟩ := h
  subst ef
  subst en
  have g7 : (mset (mset (mset v 0 7 0) 0 8 0) 0 9 0) 0 7 = nI 0 := by rw [mset_nei (by decide), mset_nei (by decide), mset_at, nI_0]
  have hP : PosOk (mset (mset (mset v 0 7 0) 0 8 0) 0 9 0) a b 0 := ⟨g7, by omega, h1, h2⟩
  rw [fX4_readsOffice, code_at hP, g7]
  by_cases q : b ≤ 0
  · rw [if_pos q, if_neg (by decide), fX4_readsOffice_c46]
    refine ro_50 8 _ _ 0 ⟨0, a, b, mset_at, rfl, rfl, by omega, h1, h2⟩ ?_ ?_ (by omega)
    · rw [mset_nei (by decide), mset_nei (by decide), mset_at, nI_0]
    · rw [mset_nei (by decide), mset_at, nI_0]
  · rw [if_neg q, fX4_readsOffice_c46, fX4_readsOffice_c46]
    split
    · refine ro_50 8 _ _ 0 ⟨1, a, b, by rw [mset_at, nI_1], rfl, rfl, by omega, h1, h2⟩ ?_ ?_ (by omega)
      · rw [mset_nei (by decide), mset_nei (by decide), mset_at, nI_0]
      · rw [mset_nei (by decide), mset_at, nI_0]
    · refine ro_50 8 _ _ 0 ⟨0, a, b, mset_at, rfl, rfl, by omega, h1, h2⟩ ?_ ?_ (by omega)
      · rw [mset_nei (by decide), mset_nei (by decide), mset_at, nI_0]
      · rw [mset_nei (by decide), mset_at, nI_0]
