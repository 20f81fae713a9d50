theorem flaw_ok {u : Mem} {j : Nat} {lane i n : Int32} (hz : u 9 j = -1 ∨ ∃ q : Nat, q ≤ 60 ∧ u 9 j = nI q) (h : fX2_flaw u j lane i n = 0) : ∃ q a b : Nat, q ≤ 60 ∧ u 9 j = nI q ∧ i = nI a ∧ n = nI b ∧ a + b ≤ q := by
  rw [fX2_flaw, fX2_isEmpty] at h
  rcases hz with e | ⟨q, hq, e⟩
  · rw [e, if_pos rfl, if_neg one_ne] at h
    exact absurd h (by decide)
  · rw [e, if_neg (show ¬ nI q = -1 from fun z => nI_pos (n := q) (by omega) (by rw [z]; decide)), if_pos rfl] at h
    by_cases c1 : lane = u 8 j
    · rw [if_pos c1] at h
      by_cases c2 : 0 ≤ n
      · rw [if_pos c2] at h
        have h3 := reach_iff (a := i) (n := n) hq e
        by_cases c3 : fX2_reaches u j i n = 0
        · rw [if_pos c3] at h
          exact absurd h (by decide)
        · obtain ⟨r1, r2, r3⟩ := h3.mp c3
          obtain ⟨a, ha, ha1, -⟩ := int_ex r1
          obtain ⟨b, hb, hb1, -⟩ := int_ex r2
          exact ⟨q, a, b, hq, e, ha, hb, by omega⟩
      · rw [if_neg c2] at h
        exact absurd h (by decide)
    · rw [if_neg c1] at h
      exact absurd h (by decide)
theorem in_minus (p : Int32) : fX4_in p.toInt64 10 13 = fX3_isWithin (p - 10) 3 := by
  rw [in_eval, within_eval, Int32.toInt_toInt64]
  have h1 := Int32.toInt_lt p
  have h2 := Int32.le_toInt p
  have e : (p - 10).toInt = (p.toInt - 10).bmod (2 ^ 32) := Int32.toInt_sub p 10
  have e10 : (10 : Int64).toInt = 10 := by decide
  have e13 : (13 : Int64).toInt = 13 := by decide
  have e3 : (3 : Int32).toInt = 3 := by decide
  rw [e, e10, e13, e3]
  have hb : (p.toInt - 10).bmod (2 ^ 32) = p.toInt - 10 ∨ ((p.toInt - 10).bmod (2 ^ 32) = p.toInt - 10 + 2 ^ 32 ∧ p.toInt < 0) := by
    unfold Int.bmod
    dsimp only
    split <;> omega
  rcases hb with hb | ⟨hb, hn⟩
  · rw [hb]
    by_cases c : 10 ≤ p.toInt ∧ p.toInt ≤ 13
    · rw [if_pos c, if_pos (by omega)]
    · rw [if_neg c, if_neg (by omega)]
  · rw [hb, if_neg (by omega), if_neg (by omega)]
theorem prem_eq {U w : Mem} {ne np : Nat} {sd : Nat → Nat} (hne : ne ≤ 5) (hnp : np ≤ 4) (ue : U 0 4 = nI ne) (up : U 0 5 = nI np) (we : w 0 1 = nI ne) (wp : w 0 3 = nI np) (hU : ∀ p, p < np → sd p < 32 ∧ U 4 p = nI (sd p)) (hw : ∀ p, p < np → w 4 p = nI (sd p)) (a : Int32) : fX3_premiumsOfYear U a = fX4_premiumsOf w a := by
  have h32 := pow5 hne
  have key : ∀ (n i : Nat) (x : Int32), i ≤ np → fX3_premiumsOfYear_c4 U a n (nI i) x = fX4_premiumsOf_c4 w a n (nI i) x := by
    intro n
    induction n with
    | zero => intro i x h; rfl
    | succ n ih =>
      intro i x h
      rw [fX3_premiumsOfYear_c4, fX4_premiumsOf_c4, up, wp]
      rcases Nat.lt_or_ge i np with q | q
      · obtain ⟨c1, c2⟩ := hU i q
        rw [if_neg (nI_ge q (by omega)), if_neg (nI_ge q (by omega)), nI_clamp (by omega), c2, hw i q, allX hne ue, allM hne we, and_N (sd i) c1 (2 ^ ne - 1) (by omega), bc_N _ (and_lt c1), bits_N _ (and_lt c1), nI_1]
        exact ih (i + 1) _ q
      · rw [if_pos (nI_le q (by omega)), if_pos (nI_le q (by omega))]
  exact key 5 0 0 (by omega)
/-- the two states as far as the years read them -/
def YR (U v : Mem) (ne np : Nat) (kd cv sd : Nat → Nat) : Prop := ne ≤ 5 ∧ np ≤ 4 ∧ U 0 4 = nI ne ∧ U 0 5 = nI np ∧ v 0 1 = nI ne ∧ v 0 3 = nI np ∧ ∀ p, p < np → (kd p ≤ 2 ∧ cv p ≤ 9 ∧ sd p ≤ 31) ∧ (U 2 p = nI (kd p) ∧ U 3 p = nI (cv p) ∧ U 4 p = nI (sd p)) ∧ v 2 p = nI (kd p) ∧ v 3 p = nI (cv p) ∧ v 4 p = nI (sd p)
theorem YR.hne {U v : Mem} {ne np : Nat} {kd cv sd : Nat → Nat} (h : YR U v ne np kd cv sd) : ne ≤ 5 := h.1
theorem YR.hnp {U v : Mem} {ne np : Nat} {kd cv sd : Nat → Nat} (h : YR U v ne np kd cv sd) : np ≤ 4 := h.2.1
theorem YR.ue {U v : Mem} {ne np : Nat} {kd cv sd : Nat → Nat} (h : YR U v ne np kd cv sd) : U 0 4 = nI ne := h.2.2.1
theorem YR.up {U v : Mem} {ne np : Nat} {kd cv sd : Nat → Nat} (h : YR U v ne np kd cv sd) : U 0 5 = nI np := h.2.2.2.1
theorem YR.ve {U v : Mem} {ne np : Nat} {kd cv sd : Nat → Nat} (h : YR U v ne np kd cv sd) : v 0 1 = nI ne := h.2.2.2.2.1
theorem YR.vp {U v : Mem} {ne np : Nat} {kd cv sd : Nat → Nat} (h : YR U v ne np kd cv sd) : v 0 3 = nI np := h.2.2.2.2.2.1
theorem YR.hpr {U v : Mem} {ne np : Nat} {kd cv sd : Nat → Nat} (h : YR U v ne np kd cv sd) : ∀ p, p < np → (kd p ≤ 2 ∧ cv p ≤ 9 ∧ sd p ≤ 31) ∧ (U 2 p = nI (kd p) ∧ U 3 p = nI (cv p) ∧ U 4 p = nI (sd p)) ∧ v 2 p = nI (kd p) ∧ v 3 p = nI (cv p) ∧ v 4 p = nI (sd p) := h.2.2.2.2.2.2
theorem YR_o {U v w : Mem} {ne np : Nat} {kd cv sd : Nat → Nat} (h : YR U v ne np kd cv sd) (hw : ∀ a b, ¬ (a = 0 ∧ 14 ≤ b ∧ b ≤ 17) → w a b = v a b) : YR U w ne np kd cv sd := by
  refine ⟨h.hne, h.hnp, h.ue, h.up, by rw [hw 0 1 (by omega)]; exact h.ve, by rw [hw 0 3 (by omega)]; exact h.vp, fun p hp => ?_⟩
  rw [hw 2 p (by omega), hw 3 p (by omega), hw 4 p (by omega)]
  exact h.hpr p hp
theorem off_eq {U v : Mem} {ne np : Nat} {kd cv sd : Nat → Nat} (h : YR U v ne np kd cv sd) {j s L : Nat} {a q : Int32} (hj : j < 4) (hL : s + L ≤ 60) (hc : ∀ i, i < L → v 14 (60 * j + (s + i)) = U (10 + j) (s + i) ∧ ∃ t, t < 2 ^ ne ∧ U (10 + j) (s + i) = nI t) :
    ∀ (n i : Nat) (w : Mem), i ≤ L → L < i + n → (∀ a b, ¬ (a = 0 ∧ 14 ≤ b ∧ b ≤ 17) → w a b = v a b) → (w 0 15 = -9 ∨ 0 ≤ w 0 15) →
      fX3_officeOverYears_c23 U a j (nI s) (nI (s + L)) q n (nI (s + i)) (w 0 17) (w 0 16) (w 0 15) (w 0 14) (fX3_premiumsOfYear U a) = (if q = 0 then (fX4_goYears_c24 v a (nI (60 * j + s)) (nI L) n w (nI i)) 0 14 else if q = 1 then (fX4_goYears_c24 v a (nI (60 * j + s)) (nI L) n w (nI i)) 0 15 else if q = 2 then (fX4_goYears_c24 v a (nI (60 * j + s)) (nI L) n w (nI i)) 0 16 else (fX4_goYears_c24 v a (nI (60 * j + s)) (nI L) n w (nI i)) 0 17) := by
  intro n
  have h32 := pow5 h.hne
  induction n with
  | zero => intro i w h1 h2; omega
  | succ n ih =>
    intro i w h1 h2 hw hb
    have hY := YR_o h hw
    rw [fX3_officeOverYears_c23, gy_step]
    rcases Nat.lt_or_ge i L with z | z
    · obtain ⟨c1, t, c2, c3⟩ := hc i z
      rw [if_neg (nI_ge (show s + i < s + L by omega) (by omega)), if_neg (nI_ge z (by omega)), nI_clamp (show s + i < 2 ^ 31 by omega), c3, tot_X h.hne h.hnp h.ue h.up (prX' h.hpr) (by omega), nI_1, nI_1]
      have eT : gyT w (nI (60 * j + s)) (nI i) = nI (totN ne np kd cv sd t) := by
        rw [gyT, nI_add, nI_clamp (by omega), show 60 * j + s + i = 60 * j + (s + i) by omega, hw 14 _ (by omega), c1, c3]
        exact tot_M h.hne h.hnp hY.ve hY.vp (prM hY.hpr) c2
      have eB : gyB w a (nI (60 * j + s)) (nI i) = w 0 14 + (fX3_premiumsOfYear U a - nI (totN ne np kd cv sd t)) := by
        rw [gyB, eT, prem_eq (w := w) h.hne h.hnp h.ue h.up hY.ve hY.vp (fun p hp => ⟨by have := (h.hpr p hp).1.2.2; omega, (h.hpr p hp).2.1.2.2⟩) (fun p hp => (hY.hpr p hp).2.2.2.2)]
      have eM : gyM w (nI (60 * j + s)) (nI i) = (if w 0 17 < nI (totN ne np kd cv sd t) then nI (totN ne np kd cv sd t) else w 0 17) := by
        rw [gyM, eT]
        by_cases k : nI (totN ne np kd cv sd t) ≤ w 0 17
        · rw [if_pos k, if_neg (Int32.not_lt.mpr k)]
        · rw [if_neg k, if_pos (Int32.not_le.mp k)]
      have ei : nI (s + i) - nI s = nI i := by rw [pk_sub (by omega)]; congr 1; omega
      have hi := ih (i + 1) (gyW w a (nI (60 * j + s)) (nI i)) z (by omega) (fun a b hh => by rw [gyW_o hh]; exact hw a b hh) (by
        rw [gyW_15, gyR]
        split
        · exact hb
        · split
          · exact hb
          · exact Or.inr (nI_pos' (by omega)))
      rw [← hi, gyW_14, gyW_15, gyW_16, gyW_17, eM, eT, gyR, eB, ei, show s + (i + 1) = s + i + 1 by omega]
      by_cases d1 : 0 ≤ w 0 14 + (fX3_premiumsOfYear U a - nI (totN ne np kd cv sd t))
      · rw [if_pos d1, if_pos d1, ite_self]
      · rw [if_neg d1, if_neg d1]
        rcases hb with hb | hb
        · rw [if_pos hb, if_neg (show ¬ 0 ≤ w 0 15 by rw [hb]; decide)]
        · rw [if_neg (show ¬ w 0 15 = -9 from fun e => by rw [e] at hb; exact absurd hb (by decide)), if_pos hb]
    · have : i = L := by omega
      subst this
      rw [if_pos (nI_le (Nat.le_refl _) (by omega)), if_pos (nI_le (Nat.le_refl _) (by omega))]
theorem paidYears_eq {U w : Mem} {ne np : Nat} {kd cv sd : Nat → Nat} (h : YR U w ne np kd cv sd) {j s L p : Nat} (hj : j < 4) (hL : s + L ≤ 60) (hp : p < np) (hc : ∀ i, i < L → w 14 (60 * j + (s + i)) = U (10 + j) (s + i) ∧ ∃ t, t < 2 ^ ne ∧ U (10 + j) (s + i) = nI t) :
    ∀ (n i : Nat) (x : Int32), i ≤ L → fX3_paidOverYears_c17 U (nI p) j (nI s) (nI (s + L)) n (nI (s + i)) x = fX4_paidBy_c6 w (nI p) (nI (60 * j + s)) (nI L) n (nI i) x := by
  intro n
  have h32 := pow5 h.hne
  have h4 := h.hnp
  induction n with
  | zero => intro i x h1; rfl
  | succ n ih =>
    intro i x h1
    rw [fX3_paidOverYears_c17, fX4_paidBy_c6]
    rcases Nat.lt_or_ge i L with z | z
    · obtain ⟨c1, t, c2, c3⟩ := hc i z
      obtain ⟨⟨g1, g2, g3⟩, ⟨g4, g5, g6⟩, g7, g8, g9⟩ := h.hpr p hp
      rw [if_neg (nI_ge (show s + i < s + L by omega) (by omega)), if_neg (nI_ge z (by omega)), nI_clamp (show s + i < 2 ^ 31 by omega), nI_add, nI_clamp (by omega), show 60 * j + s + i = 60 * j + (s + i) by omega, c1, c3, paidTo_X h.hne h.ue (by omega) g1 (by omega) (by omega) g4 g5 g6, pay_M h.hne h.ve (by omega) g1 (by omega) c2 g7 g8 g9, nI_1, nI_1]
      exact ih (i + 1) _ z
    · rw [if_pos (nI_le (by omega) (by omega)), if_pos (nI_le z (by omega))]
theorem sets_eq {U v : Mem} {ne np : Nat} {kd cv sd : Nat → Nat} (h : YR U v ne np kd cv sd) {j s L : Nat} {p0 p2 p5 : Int32} (hj : j < 4) (hL : s + L ≤ 60) (hc : ∀ i, i < L → v 14 (60 * j + (s + i)) = U (10 + j) (s + i)) :
    ∀ (n i : Nat), i ≤ L → L < i + n →
      ((∀ k, i ≤ k → k < L → ∃ t, t < 2 ^ ne ∧ U (10 + j) (s + k) = nI t) ∧ fX3_areEventSets_c3 U j (nI s) (nI (s + L)) n (nI (s + i)) = 1 ∧ fX4_years_c135 v p0 (nI j) p2 (nI s) (nI L) p5 n (nI i) = fX4_years_c135 v p0 (nI j) p2 (nI s) (nI L) p5 1 (nI L)) ∨
      (fX3_areEventSets_c3 U j (nI s) (nI (s + L)) n (nI (s + i)) = 0 ∧ fX4_years_c135 v p0 (nI j) p2 (nI s) (nI L) p5 n (nI i) = (-2, mset v 0 0 0)) := by
  intro n
  have h32 := pow5 h.hne
  induction n with
  | zero => intro i h1 h2; omega
  | succ n ih =>
    intro i h1 h2
    rcases Nat.lt_or_ge i L with z | z
    · have e1 : fX3_areEventSets_c3 U j (nI s) (nI (s + L)) (n + 1) (nI (s + i)) = if fX3_isEventSet U (U (10 + j) (s + i)) = 0 then 0 else fX3_areEventSets_c3 U j (nI s) (nI (s + L)) n (nI (s + (i + 1))) := by
        rw [fX3_areEventSets_c3, if_neg (nI_ge (show s + i < s + L by omega) (by omega)), nI_clamp (by omega), nI_1]
        rfl
      have ix : (60 * nI j + nI s + nI i).toNatClampNeg = 60 * j + (s + i) := by
        rw [show (60 : Int32) = nI 60 from rfl, pk_mul, nI_add, nI_add, nI_clamp (by omega)]
        omega
      have e2 : fX4_years_c135 v p0 (nI j) p2 (nI s) (nI L) p5 (n + 1) (nI i) = if fX4_noSet v (U (10 + j) (s + i)) = 0 then fX4_years_c135 v p0 (nI j) p2 (nI s) (nI L) p5 n (nI (i + 1)) else (-2, mset v 0 0 0) := by
        rw [fX4_years_c135, if_neg (nI_ge z (by omega)), ix, hc i z, nI_1]
        rfl
      rw [e1, e2]
      rcases set_cases h.hne h.ue h.ve (U (10 + j) (s + i)) with ⟨t, ht, et, s1, s2⟩ | ⟨s1, s2⟩
      · rw [s1, s2, if_neg one_ne, if_pos rfl]
        rcases ih (i + 1) z (by omega) with ⟨k1, k2, k3⟩ | ⟨k2, k3⟩
        · refine Or.inl ⟨fun k y1 y2 => ?_, k2, k3⟩
          rcases Nat.eq_or_lt_of_le y1 with y | y
          · subst y; exact ⟨t, ht, et⟩
          · exact k1 k y y2
        · exact Or.inr ⟨k2, k3⟩
      · rw [s1, s2, if_pos rfl, if_neg one_ne]
        exact Or.inr ⟨rfl, rfl⟩
    · have : i = L := by omega
      subst this
      refine Or.inl ⟨fun k y1 y2 => by omega, ?_, ?_⟩
      · rw [fX3_areEventSets_c3, if_pos (nI_le (Nat.le_refl _) (by omega))]
      · rw [fX4_years_c135, fX4_years_c135, if_pos (nI_le (Nat.le_refl _) (by omega)), if_pos (nI_le (Nat.le_refl _) (by omega))]
theorem lane01' (x : Int32) : fX3_isLane x = 0 ∨ ¬ fX3_isLane x = 0 := Classical.em _
theorem eq_years {u v : Mem} (hR : Rel u v) (a1 a2 a3 a4 a5 a6 : Int32) : (fX3_years u a1 a2 a3 a4 a5 a6).1 = (fX4_years v a1 a2 a3 a4 a5 a6).1 ∧ Rel (fX3_years u a1 a2 a3 a4 a5 a6).2 (fX4_years v a1 a2 a3 a4 a5 a6).2 := by
  have hR0 := hR
  obtain ⟨ne, np, nr, ch, kd, cv, sd, rp, rs, ⟨hne, hnp, hnr⟩, ⟨ue, up, ur⟩, ⟨ve, vp, vr⟩, htr, hfl, hch, hpr, hrd, hru, hrv, hsh⟩ := hR
  have hz := Rel_fault hR0 0
  have h32 := pow5 hne
  rcases sheet_cases a2 with ⟨j, hj, rfl, e1, e2⟩ | ⟨e1, e2⟩
  · have eM : fX4_years v a1 (nI j) a3 a4 a5 a6 = fX4_years_c46 v a1 (nI j) a3 a4 a5 a6 (fX3_isYearsQuestion a6) := by
      rw [fX4_years, e2, if_pos rfl, in_within (m := 3) rfl, in_minus, fX3_isYearsQuestion]
      rcases within01 a6 3 with w | w
      · rw [w, if_pos rfl, if_pos rfl]
        rcases within01 (a6 - 10) 3 with w2 | w2
        · rw [w2, if_pos rfl, if_pos rfl]
        · rw [w2, if_neg one_ne, if_neg one_ne]
      · rw [w, if_neg one_ne, if_neg one_ne]
    rw [eM, fX3_years, fX4_years_c46, e1, if_neg one_ne, in_within (m := 9) (M := 9) rfl, in_within (m := 40) (M := 40) rfl, in_lane]
    by_cases c1 : fX3_isWithin a1 9 = 0
    · rw [if_pos c1, if_pos c1]
      exact ⟨rfl, hz⟩
    rw [if_neg c1, if_neg c1]
    by_cases c2 : fX3_isLane a3 = 0
    · rw [if_pos c2, if_pos c2]
      exact ⟨rfl, hz⟩
    rw [if_neg c2, if_neg c2]
    by_cases c3 : fX3_isWithin a5 40 = 0
    · rw [if_pos c3, if_pos c3]
      exact ⟨rfl, hz⟩
    rw [if_neg c3, if_neg c3]
    by_cases c4 : fX3_isYearsQuestion a6 = 0
    · rw [if_pos c4, if_pos c4]
      exact ⟨rfl, hz⟩
    rw [if_neg c4, if_neg c4]
    have hUo : ∀ a b, ¬ (a = 0 ∧ b = 8) → mset u 0 8 0 a b = u a b := fun a b h => mset_o h
    generalize hU : mset u 0 8 0 = U at hz hUo ⊢
    have hY : YR U v ne np kd cv sd := by
      refine ⟨hne, hnp, (hUo 0 4 (by omega)).trans ue, (hUo 0 5 (by omega)).trans up, ve, vp, fun p hp => ?_⟩
      rw [hUo 2 p (by omega), hUo 3 p (by omega), hUo 4 p (by omega)]
      exact hpr p hp
    have hRW : ∀ W : Mem, (∀ a b, ¬ (a = 0 ∧ 14 ≤ b ∧ b ≤ 17) → W a b = v a b) → Rel U (mset W 0 0 0) := by
      intro W hW
      refine Rel_same hR0 (fun a b q => hUo a b (by omega)) (fun a b q => ?_) ?_ ?_
      · rw [mset_o (by unfold KpM at q; omega), hW a b (by unfold KpM at q; omega)]
      · rw [mset_o (by omega), hW 0 26 (by omega), hUo 0 7 (by omega)]
        exact rel_tr hR0
      · rw [mset_at, ← hU, mset_at]
    rcases office_cases hnp hY.up vp with ⟨_, o1, o2⟩ | ⟨_, o1, o2⟩
    · rw [o1, if_neg one_ne, if_neg o2, nI_clamp (show j < 2 ^ 31 by omega)]
      obtain ⟨h1, h2, h3⟩ := hsh j hj
      have h3' := szx (v := v) h3
      rw [← hUo 9 j (by omega)] at h1 h3'
      rw [← hUo 8 j (by omega)] at h2
      rcases cb_flaw (lane := a3) (i := a4) (n := a5) hj h1 h2 h3' with ⟨q1, q2⟩ | ⟨x, hx, q1, q2⟩
      · rw [q1, q2, if_pos rfl, if_pos (show (0 : Int32) ≤ (0, v).1 from (by decide : (0 : Int32) ≤ 0))]
        obtain ⟨q, s, L, hq, e9, rfl, rfl, hsL⟩ := flaw_ok h3' q1
        have hcell : ∀ i, i < L → v 14 (60 * j + (s + i)) = U (10 + j) (s + i) := by
          intro i hi
          rw [hUo 9 j (by omega)] at e9
          rcases h3 with h | ⟨n, hn, e, hcc⟩
          · rw [h] at e9
            exact absurd e9.symm (fun z => nI_pos (n := q) (by omega) (by rw [z]; decide))
          · have : n = q := (nI_eq (by omega) (by omega)).mp (e.symm.trans e9)
            subst this
            rw [hUo (10 + j) _ (by omega)]
            exact hcc (s + i) (by omega)
        rw [nI_add, fX3_areEventSets]
        have hse := sets_eq (p0 := a1) (p2 := a3) (p5 := a6) hY hj (show s + L ≤ 60 by omega) hcell 61 0 (by omega) (by omega)
        rw [Nat.add_zero, nI_0] at hse
        rcases hse with ⟨k1, k2, k3⟩ | ⟨k2, k3⟩
        · rw [k2, if_neg one_ne, k3]
          have hc2 : ∀ i, i < L → v 14 (60 * j + (s + i)) = U (10 + j) (s + i) ∧ ∃ t, t < 2 ^ ne ∧ U (10 + j) (s + i) = nI t := fun i hi => ⟨hcell i hi, k1 i (Nat.zero_le _) hi⟩
          have e60 : 60 * nI j + nI s = nI (60 * j + s) := by rw [show (60 : Int32) = nI 60 from rfl, pk_mul, nI_add]
          have hgo : ∀ a b, ¬ (a = 0 ∧ 14 ≤ b ∧ b ≤ 17) → fX4_goYears v a1 (nI (60 * j + s)) (nI L) a b = v a b := fun a b h => gy_o h
          rw [fX4_years_c135, if_pos (nI_le (Nat.le_refl L) (by omega)), e60]
          have hoff : ∀ q, fX3_officeOverYears U a1 j (nI s) (nI (s + L)) q = (if q = 0 then (fX4_goYears v a1 (nI (60 * j + s)) (nI L)) 0 14 else if q = 1 then (fX4_goYears v a1 (nI (60 * j + s)) (nI L)) 0 15 else if q = 2 then (fX4_goYears v a1 (nI (60 * j + s)) (nI L)) 0 16 else (fX4_goYears v a1 (nI (60 * j + s)) (nI L)) 0 17) := by
            intro q
            have hw0 : ∀ a b, ¬ (a = 0 ∧ 14 ≤ b ∧ b ≤ 17) → (mset (mset (mset (mset v 0 14 0) 0 15 (-9)) 0 16 0) 0 17 0) a b = v a b := fun a b h => by
              rw [mset_o (by omega), mset_o (by omega), mset_o (by omega), mset_o (by omega)]
            have w14 : (mset (mset (mset (mset v 0 14 0) 0 15 (-9)) 0 16 0) 0 17 0) 0 14 = 0 := by
              rw [mset_o (by omega), mset_o (by omega), mset_o (by omega), mset_at]
            have w15 : (mset (mset (mset (mset v 0 14 0) 0 15 (-9)) 0 16 0) 0 17 0) 0 15 = -9 := by
              rw [mset_o (by omega), mset_o (by omega), mset_at]
            have w16 : (mset (mset (mset (mset v 0 14 0) 0 15 (-9)) 0 16 0) 0 17 0) 0 16 = 0 := by
              rw [mset_o (by omega), mset_at]
            have w17 : (mset (mset (mset (mset v 0 14 0) 0 15 (-9)) 0 16 0) 0 17 0) 0 17 = 0 := mset_at
            have ho := off_eq (a := a1) (q := q) hY hj (show s + L ≤ 60 by omega) hc2 61 0 _ (by omega) (by omega) hw0 (Or.inl w15)
            rw [w14, w15, w16, w17, Nat.add_zero, nI_0] at ho
            exact ho
          have hW : ∃ k : Nat, (k ≤ 3 ∨ (10 ≤ k ∧ k ≤ 13)) ∧ a6 = nI k := by
            rw [fX3_isYearsQuestion] at c4
            rcases within01 a6 3 with w | w
            · rw [w, if_pos rfl] at c4
              rcases within01 (a6 - 10) 3 with w2 | w2
              · rw [w2, if_pos rfl] at c4
                exact absurd rfl c4
              · obtain ⟨k, hk, ek⟩ := within_ex (n := 3) rfl w2
                refine ⟨k + 10, Or.inr ⟨by omega, by omega⟩, ?_⟩
                rw [← nI_add, ← ek, show nI 10 = (10 : Int32) from rfl, Int32.sub_add_cancel]
            · obtain ⟨k, hk, ek⟩ := within_ex (n := 3) rfl w
              exact ⟨k, Or.inl hk, ek⟩
          obtain ⟨k, hk, rfl⟩ := hW
          rcases hk with hk | ⟨hk, hk'⟩
          · rw [if_pos (show nI k < 10 from nI_lt (b := 10) (by omega) (by omega)), if_pos (show nI k ≤ 9 from nI_le (b := 9) (by omega) (by omega)), hoff]
            by_cases d0 : nI k = 0
            · rw [if_pos d0, if_pos d0]
              exact ⟨rfl, hRW _ hgo⟩
            rw [if_neg d0, if_neg d0]
            by_cases d1 : nI k = 1
            · rw [if_pos d1, if_pos d1]
              exact ⟨rfl, hRW _ hgo⟩
            rw [if_neg d1, if_neg d1]
            by_cases d2 : nI k = 2
            · rw [if_pos d2, if_pos d2]
              exact ⟨rfl, hRW _ hgo⟩
            rw [if_neg d2, if_neg d2]
            exact ⟨rfl, hRW _ hgo⟩
          · rw [if_neg (show ¬ nI k < 10 from nI_nlt (b := 10) (by omega) (by omega)), if_neg (show ¬ nI k ≤ 9 from nI_ge (a := 9) (by omega) (by omega)), show nI k - 10 = nI (k - 10) from pk_sub (b := 10) hk, fX3_paidOverYears]
            have hYW := YR_o hY hgo
            rcases prophet_cases hnp hY.up hYW.vp (nI (k - 10)) with ⟨p, hp, ep, z1, z2⟩ | ⟨z1, z2⟩
            · rw [z1, z2, if_neg one_ne, if_pos rfl, ep]
              have hp2 := paidYears_eq hYW hj (show s + L ≤ 60 by omega) hp (fun i hi => by rw [hgo 14 _ (by omega)]; exact hc2 i hi) 61 0 0 (by omega)
              rw [Nat.add_zero, nI_0] at hp2
              exact ⟨hp2, hRW _ hgo⟩
            · rw [z1, z2, if_pos rfl, if_neg one_ne]
              exact ⟨rfl, hRW _ hgo⟩
        · rw [k2, if_pos rfl, k3]
          exact ⟨rfl, hz⟩
      · rw [q1, q2, if_neg (show ¬ x = 0 by rcases hx with rfl | rfl | rfl | rfl <;> decide), if_neg (show ¬ (0 : Int32) ≤ (-10 - x, mset v 0 0 x).1 from (by rcases hx with rfl | rfl | rfl | rfl <;> decide : ¬ (0 : Int32) ≤ -10 - x))]
        refine ⟨rfl, ?_⟩
        rw [← hU]
        exact Rel_fault2 hR0 x
    · rw [o1, if_pos rfl, if_pos o2]
      exact ⟨rfl, hz⟩
  · rw [fX3_years, fX4_years, e1, e2, if_pos rfl, if_neg one_ne]
    exact ⟨rfl, hz⟩
