theorem within_ex {x m : Int32} {n : Nat} (hm : m.toInt = (n : Int)) (h : fX3_isWithin x m = 1) : ∃ j : Nat, j ≤ n ∧ x = nI j := by
  rw [within_eval] at h
  by_cases c : 0 ≤ x.toInt ∧ x.toInt ≤ m.toInt
  · obtain ⟨j, e1, e2, -⟩ := int_ex c.1
    exact ⟨j, by omega, e1⟩
  · rw [if_neg c] at h
    exact absurd h (by decide)
theorem eq_trace {u v : Mem} (hR : Rel u v) : (fX3_trace u) = (fX4_trace v) := (rel_tr hR).symm
theorem eq_fault {u v : Mem} (hR : Rel u v) : (fX3_fault u) = (fX4_fault v) := (rel_fl hR).symm
theorem eq_chance {u v : Mem} (hR : Rel u v) (a1 : Int32) : (fX3_chance u a1) = (fX4_chance v a1) := by
  obtain ⟨ne, np, nr, ch, kd, cv, sd, rp, rs, ⟨hne, hnp, hnr⟩, ⟨ue, up, ur⟩, ⟨ve, vp, vr⟩, htr, hfl, hch, hpr, hrd, hru, hrv, hsh⟩ := hR
  rcases event_cases hne ue ve a1 with ⟨j, hj, rfl, e1, e2⟩ | ⟨e1, e2⟩
  · rw [fX3_chance, fX4_chance, e1, e2, if_neg one_ne, if_pos rfl, nI_clamp (by omega), (hch j hj).2.1, (hch j hj).2.2]
  · rw [fX3_chance, fX4_chance, e1, e2, if_pos rfl, if_neg one_ne]
theorem eq_fate {u v : Mem} (hR : Rel u v) (a1 a2 : Int32) : (fX3_fate u a1 a2).1 = (fX4_fate v a1 a2).1 ∧ Rel (fX3_fate u a1 a2).2 (fX4_fate v a1 a2).2 := by
  have hR0 := hR
  obtain ⟨ne, np, nr, ch, kd, cv, sd, rp, rs, ⟨hne, hnp, hnr⟩, ⟨ue, up, ur⟩, ⟨ve, vp, vr⟩, htr, hfl, hch, hpr, hrd, hru, hrv, hsh⟩ := hR
  rcases event_cases hne ue ve a1 with ⟨j, hj, rfl, e1, e2⟩ | ⟨e1, e2⟩
  · rw [fX3_fate, fX4_fate, e1, e2, if_neg one_ne, if_pos rfl, in_within (m := 9) rfl, nI_clamp (by omega)]
    rcases within01 a2 9 with w | w
    · rw [w, if_pos rfl, if_pos rfl]
      exact ⟨rfl, hR0⟩
    · rw [w, if_neg one_ne, if_neg one_ne]
      obtain ⟨c, hc, rfl⟩ := within_ex (n := 9) rfl w
      refine ⟨by rw [(hch j hj).2.1, (hch j hj).2.2], ne, np, nr, fun e => if e = j then c else ch e, kd, cv, sd, rp, rs, ⟨hne, hnp, hnr⟩, ⟨ue, up, ur⟩, ⟨ve, vp, vr⟩, htr, hfl, ?_, hpr, hrd, hru, hrv, ?_⟩
      · intro e he
        try dsimp only
        by_cases q : e = j
        · subst q
          rw [if_pos rfl]
          exact ⟨hc, mset_at, mset_at⟩
        · rw [if_neg q, mset_nei q, mset_nei q]
          exact hch e he
      · intro k hk
        try dsimp only
        rw [mset_ne (show 10 + k ≠ 1 by omega)]
        exact hsh k hk
  · rw [fX3_fate, fX4_fate, e1, e2, if_pos rfl, if_neg one_ne]
    exact ⟨rfl, hR0⟩
theorem eq_ofProphet {u v : Mem} (hR : Rel u v) (a1 a2 : Int32) : (fX3_ofProphet u a1 a2) = (fX4_ofProphet v a1 a2) := by
  obtain ⟨ne, np, nr, ch, kd, cv, sd, rp, rs, ⟨hne, hnp, hnr⟩, ⟨ue, up, ur⟩, ⟨ve, vp, vr⟩, htr, hfl, hch, hpr, hrd, hru, hrv, hsh⟩ := hR
  rcases prophet_cases hnp up vp a1 with ⟨j, hj, rfl, e1, e2⟩ | ⟨e1, e2⟩
  · obtain ⟨⟨g1, g2, g3⟩, ⟨g4, g5, g6⟩, g7, g8, g9⟩ := hpr j hj
    rw [fX3_ofProphet, fX4_ofProphet, e1, e2, if_neg one_ne, if_pos rfl, paysOf_M (by omega) g1 g7 g8, fraud_M hne ve (by omega) (by omega) g9, nI_clamp (by omega), g4, g5, g6, g7, g8, g9, pays_X g1, fraud_X hne ue (by omega)]
  · rw [fX3_ofProphet, fX4_ofProphet, e1, e2, if_pos rfl, if_neg one_ne]
theorem eq_say {u v : Mem} (hR : Rel u v) (a1 a2 : Int32) : (fX3_say u a1 a2).1 = (fX4_say v a1 a2).1 ∧ Rel (fX3_say u a1 a2).2 (fX4_say v a1 a2).2 := by
  have hR0 := hR
  obtain ⟨ne, np, nr, ch, kd, cv, sd, rp, rs, ⟨hne, hnp, hnr⟩, ⟨ue, up, ur⟩, ⟨ve, vp, vr⟩, htr, hfl, hch, hpr, hrd, hru, hrv, hsh⟩ := hR
  rcases prophet_cases hnp up vp a1 with ⟨j, hj, rfl, e1, e2⟩ | ⟨e1, e2⟩
  · rw [fX3_say, fX4_say, e1, e2, if_neg one_ne, if_pos rfl, in_within (m := 31) rfl, nI_clamp (by omega)]
    rcases within01 a2 31 with w | w
    · rw [w, if_pos rfl, if_pos rfl]
      exact ⟨rfl, hR0⟩
    · rw [w, if_neg one_ne, if_neg one_ne]
      obtain ⟨c, hc, rfl⟩ := within_ex (n := 31) rfl w
      refine ⟨by rw [(hpr j hj).2.1.2.2, (hpr j hj).2.2.2.2], ne, np, nr, ch, kd, cv, fun e => if e = j then c else sd e, rp, rs, ⟨hne, hnp, hnr⟩, ⟨ue, up, ur⟩, ⟨ve, vp, vr⟩, htr, hfl, hch, ?_, hrd, hru, hrv, ?_⟩
      · intro e he
        try dsimp only
        obtain ⟨⟨g1, g2, g3⟩, ⟨g4, g5, g6⟩, g7, g8, g9⟩ := hpr e he
        by_cases q : e = j
        · subst q
          rw [if_pos rfl]
          exact ⟨⟨g1, g2, hc⟩, ⟨g4, g5, mset_at⟩, g7, g8, mset_at⟩
        · rw [if_neg q]
          exact ⟨⟨g1, g2, g3⟩, ⟨g4, g5, (mset_nei q).trans g6⟩, g7, g8, (mset_nei q).trans g9⟩
      · intro k hk
        try dsimp only
        rw [mset_ne (show 10 + k ≠ 4 by omega)]
        exact hsh k hk
  · rw [fX3_say, fX4_say, e1, e2, if_pos rfl, if_neg one_ne]
    exact ⟨rfl, hR0⟩
theorem eq_paid {u v : Mem} (hR : Rel u v) (a1 a2 : Int32) : (fX3_paid u a1 a2) = (fX4_paid v a1 a2) := by
  obtain ⟨ne, np, nr, ch, kd, cv, sd, rp, rs, ⟨hne, hnp, hnr⟩, ⟨ue, up, ur⟩, ⟨ve, vp, vr⟩, htr, hfl, hch, hpr, hrd, hru, hrv, hsh⟩ := hR
  have h32 := pow5 hne
  rcases prophet_cases hnp up vp a1 with ⟨j, hj, rfl, e1, e2⟩ | ⟨e1, e2⟩
  · rw [fX3_paid, fX4_paid, e1, e2, if_neg one_ne, if_pos rfl]
    obtain ⟨⟨g1, g2, g3⟩, ⟨g4, g5, g6⟩, g7, g8, g9⟩ := hpr j hj
    rcases set_cases hne ue ve a2 with ⟨t, ht, rfl, s1, s2⟩ | ⟨s1, s2⟩
    · rw [s1, s2, if_neg one_ne, if_pos rfl, paidTo_X hne ue (by omega) g1 (by omega) (by omega) g4 g5 g6, pay_M hne ve (by omega) g1 (by omega) ht g7 g8 g9]
    · rw [s1, s2, if_pos rfl, if_neg one_ne]
  · rw [fX3_paid, fX4_paid, e1, e2, if_pos rfl, if_neg one_ne]
theorem eq_safe {u v : Mem} (hR : Rel u v) (a1 : Int32) : (fX3_safe u a1) = (fX4_safe v a1) := by
  obtain ⟨ne, np, nr, ch, kd, cv, sd, rp, rs, ⟨hne, hnp, hnr⟩, ⟨ue, up, ur⟩, ⟨ve, vp, vr⟩, htr, hfl, hch, hpr, hrd, hru, hrv, hsh⟩ := hR
  have h32 := pow5 hne
  rcases prophet_cases hnp up vp a1 with ⟨j, hj, rfl, e1, e2⟩ | ⟨e1, e2⟩
  · obtain ⟨⟨g1, g2, g3⟩, ⟨g4, g5, g6⟩, g7, g8, g9⟩ := hpr j hj
    rw [fX3_safe, fX4_safe, e1, e2, if_neg one_ne, if_pos rfl, allX hne ue, allM hne ve, paidTo_X hne ue (by omega) g1 (by omega) (by omega) g4 g5 g6, pay_M hne ve (by omega) g1 (by omega) (by omega) g7 g8 g9]
  · rw [fX3_safe, fX4_safe, e1, e2, if_pos rfl, if_neg one_ne]
theorem prX {P : Nat → Prop} {np : Nat} {kd cv sd : Nat → Nat} {u v : Mem} (hpr : ∀ p, p < np → (kd p ≤ 2 ∧ cv p ≤ 9 ∧ sd p ≤ 31) ∧ (u 2 p = nI (kd p) ∧ u 3 p = nI (cv p) ∧ u 4 p = nI (sd p)) ∧ v 2 p = nI (kd p) ∧ v 3 p = nI (cv p) ∧ v 4 p = nI (sd p)) : ∀ p, p < np → (kd p ≤ 2 ∧ cv p ≤ 9 ∧ sd p ≤ 31) ∧ u 2 p = nI (kd p) ∧ u 3 p = nI (cv p) ∧ u 4 p = nI (sd p) := fun p hp => ⟨(hpr p hp).1, (hpr p hp).2.1⟩
theorem prX' {np : Nat} {kd cv sd : Nat → Nat} {u v : Mem} (hpr : ∀ p, p < np → (kd p ≤ 2 ∧ cv p ≤ 9 ∧ sd p ≤ 31) ∧ (u 2 p = nI (kd p) ∧ u 3 p = nI (cv p) ∧ u 4 p = nI (sd p)) ∧ v 2 p = nI (kd p) ∧ v 3 p = nI (cv p) ∧ v 4 p = nI (sd p)) : ∀ p, p < np → (kd p ≤ 2 ∧ cv p ≤ 9 ∧ sd p ≤ 31) ∧ u 2 p = nI (kd p) ∧ u 3 p = nI (cv p) ∧ u 4 p = nI (sd p) := fun p hp => ⟨(hpr p hp).1, (hpr p hp).2.1⟩
theorem prM {np : Nat} {kd cv sd : Nat → Nat} {u v : Mem} (hpr : ∀ p, p < np → (kd p ≤ 2 ∧ cv p ≤ 9 ∧ sd p ≤ 31) ∧ (u 2 p = nI (kd p) ∧ u 3 p = nI (cv p) ∧ u 4 p = nI (sd p)) ∧ v 2 p = nI (kd p) ∧ v 3 p = nI (cv p) ∧ v 4 p = nI (sd p)) : ∀ p, p < np → (kd p ≤ 2 ∧ cv p ≤ 9 ∧ sd p ≤ 31) ∧ v 2 p = nI (kd p) ∧ v 3 p = nI (cv p) ∧ v 4 p = nI (sd p) := fun p hp => ⟨(hpr p hp).1, (hpr p hp).2.2⟩
theorem eq_total {u v : Mem} (hR : Rel u v) (a1 : Int32) : (fX3_total u a1) = (fX4_total v a1) := by
  obtain ⟨ne, np, nr, ch, kd, cv, sd, rp, rs, ⟨hne, hnp, hnr⟩, ⟨ue, up, ur⟩, ⟨ve, vp, vr⟩, htr, hfl, hch, hpr, hrd, hru, hrv, hsh⟩ := hR
  have h32 := pow5 hne
  rcases office_cases hnp up vp with ⟨_, o1, o2⟩ | ⟨_, o1, o2⟩
  · rw [fX3_total, fX4_total, o1, if_neg one_ne, if_neg o2]
    rcases set_cases hne ue ve a1 with ⟨t, ht, rfl, s1, s2⟩ | ⟨s1, s2⟩
    · rw [s1, s2, if_neg one_ne, if_pos rfl, tot_X hne hnp ue up (prX' hpr) (by omega), tot_M hne hnp ve vp (prM hpr) ht]
    · rw [s1, s2, if_pos rfl, if_neg one_ne]
  · rw [fX3_total, fX4_total, o1, if_pos rfl, if_pos o2]
theorem eq_lose {u v : Mem} (hR : Rel u v) (a1 : Int32) : (fX3_lose u a1).1 = (fX4_lose v a1).1 ∧ Rel (fX3_lose u a1).2 (fX4_lose v a1).2 := by
  have hR0 := hR
  obtain ⟨ne, np, nr, ch, kd, cv, sd, rp, rs, ⟨hne, hnp, hnr⟩, ⟨ue, up, ur⟩, ⟨ve, vp, vr⟩, htr, hfl, hch, hpr, hrd, hru, hrv, hsh⟩ := hR
  rcases sheet_cases a1 with ⟨j, hj, rfl, e1, e2⟩ | ⟨e1, e2⟩
  · have hrel : Rel (mset u 9 j (-1)) (mset v 12 j (-1)) := by
      refine ⟨ne, np, nr, ch, kd, cv, sd, rp, rs, ⟨hne, hnp, hnr⟩, ⟨ue, up, ur⟩, ⟨ve, vp, vr⟩, htr, hfl, hch, hpr, hrd, hru, hrv, ?_⟩
      intro k hk
      try dsimp only
      rw [mset_ne (show 10 + k ≠ 9 by omega)]
      by_cases q : k = j
      · subst q
        exact ⟨by rw [mset_at, mset_at], (hsh k hk).2.1, Or.inl mset_at⟩
      · rw [mset_nei q, mset_nei q]
        exact hsh k hk
    rw [fX3_lose, fX4_lose, e1, e2, if_neg one_ne, if_pos rfl, nI_clamp (by omega), fX2_isEmpty, (hsh j hj).1]
    rcases (hsh j hj).2.2 with q | ⟨n, hn, q, -⟩
    · rw [q, if_pos rfl, if_neg one_ne, if_neg (by decide)]
      exact ⟨rfl, hrel⟩
    · rw [q, if_neg (show ¬ nI n = -1 from fun z => nI_pos (n := n) (by omega) (by rw [z]; decide)), if_pos rfl, if_pos (nI_pos' (by omega))]
      exact ⟨rfl, hrel⟩
  · rw [fX3_lose, fX4_lose, e1, e2, if_pos rfl, if_neg one_ne]
    exact ⟨rfl, hR0⟩
theorem eq_back {u v : Mem} (hR : Rel u v) (a1 : Int32) : (fX3_back u a1).1 = (fX4_back v a1).1 ∧ Rel (fX3_back u a1).2 (fX4_back v a1).2 := by
  have hR0 := hR
  obtain ⟨ne, np, nr, ch, kd, cv, sd, rp, rs, ⟨hne, hnp, hnr⟩, ⟨ue, up, ur⟩, ⟨ve, vp, vr⟩, htr, hfl, hch, hpr, hrd, hru, hrv, hsh⟩ := hR
  rw [fX3_back, fX4_back, in_within (m := v 0 18) (i64_32 _), ur, vr]
  rcases within01 a1 (nI nr) with w | w
  · rw [w, if_pos rfl, if_pos rfl]
    exact ⟨rfl, hR0⟩
  · rw [w, if_neg one_ne, if_neg one_ne]
    obtain ⟨j, hj, rfl⟩ := within_ex (n := nr) (nI_int (by omega)) w
    have e : nI nr - nI j = nI (nr - j) := pk_sub hj
    refine ⟨by rw [mset_at, mset_at], ne, np, nr - j, ch, kd, cv, sd, rp, rs, ⟨hne, hnp, by omega⟩, ⟨ue, up, by rw [mset_at]; exact e⟩, ⟨ve, vp, by rw [mset_at]; exact e⟩, htr, hfl, hch, hpr, fun r hr => hrd r (by omega), hru, hrv, ?_⟩
    intro k hk
    try dsimp only
    rw [mset_ne (show 10 + k ≠ 0 by omega)]
    exact hsh k hk
theorem eq_reading {u v : Mem} (hR : Rel u v) (a1 a2 a3 : Int32) : (fX3_reading u a1 a2 a3).1 = (fX4_reading v a1 a2 a3).1 ∧ Rel (fX3_reading u a1 a2 a3).2 (fX4_reading v a1 a2 a3).2 := by
  have hR0 := hR
  obtain ⟨ne, np, nr, ch, kd, cv, sd, rp, rs, ⟨hne, hnp, hnr⟩, ⟨ue, up, ur⟩, ⟨ve, vp, vr⟩, htr, hfl, hch, hpr, hrd, hru, hrv, hsh⟩ := hR
  have h32 := pow5 hne
  rw [fX3_reading, fX4_reading, in_within (m := 999) rfl]
  rcases prophet_cases hnp up vp a1 with ⟨j, hj, rfl, e1, e2⟩ | ⟨e1, e2⟩
  · rw [e1, e2, if_neg one_ne, if_pos rfl]
    rcases set_cases hne ue ve a2 with ⟨t, ht, rfl, s1, s2⟩ | ⟨s1, s2⟩
    · rw [s1, s2, if_neg one_ne, if_pos rfl]
      rcases within01 a3 999 with w | w
      · rw [w, if_pos rfl, if_pos rfl]
        exact ⟨rfl, hR0⟩
      · rw [w, if_neg one_ne, if_neg one_ne]
        rcases Nat.lt_or_ge nr 8 with q | q
        · rw [if_pos (show u 0 6 < 8 by rw [ur]; exact nI_lt (b := 8) q (by omega)), if_neg (show ¬ v 0 18 = 8 by rw [vr]; exact lit_ne (b := 8) (by omega) (by omega) (by omega))]
          simp only [mset_ne (show (0 : Nat) ≠ 5 by decide), mset_ne (show (0 : Nat) ≠ 6 by decide), mset_ne (show (0 : Nat) ≠ 7 by decide), mset_ne (show (0 : Nat) ≠ 9 by decide), mset_ne (show (0 : Nat) ≠ 10 by decide), mset_ne (show (0 : Nat) ≠ 11 by decide), mset_at, ur, vr, nI_clamp (show nr < 2 ^ 31 by omega), nI_1]
          refine ⟨trivial, ne, np, nr + 1, ch, kd, cv, sd, fun r => if r = nr then j else rp r, fun r => if r = nr then t else rs r, ⟨hne, hnp, by omega⟩, ⟨ue, up, mset_at⟩, ⟨ve, vp, mset_at⟩, htr, hfl, hch, hpr, ?_, ?_, ?_, ?_⟩
          · intro r hr
            try dsimp only
            by_cases z : r = nr
            · subst z
              rw [if_pos rfl, if_pos rfl]
              refine ⟨⟨hj, ht⟩, ⟨?_, ?_⟩, ?_, ?_, ?_⟩
              · rw [mset_o (by omega), mset_o (by omega), mset_o (by omega), mset_at]
              · rw [mset_o (by omega), mset_o (by omega), mset_at]
              · rw [mset_o (by omega), mset_o (by omega), mset_o (by omega), mset_at]
              · rw [mset_o (by omega), mset_o (by omega), mset_at]
              · rw [mset_o (by omega), mset_at, mset_o (by omega), mset_at]
            · rw [if_neg z, if_neg z]
              have hz : r < nr := by omega
              rw [mset_o (by omega), mset_o (by omega), mset_o (by omega), mset_o (by omega), mset_o (by omega), mset_o (by omega), mset_o (by omega), mset_o (by omega), mset_o (by omega), mset_o (by omega), mset_o (by omega), mset_o (by omega), mset_o (by omega), mset_o (by omega), mset_o (by omega), mset_o (by omega), mset_o (by omega), mset_o (by omega), mset_o (by omega), mset_o (by omega), mset_o (by omega), mset_o (by omega), mset_o (by omega), mset_o (by omega)]
              exact hrd r hz
          · intro r hr
            try dsimp only
            rw [mset_o (by omega), mset_o (by omega), mset_o (by omega)]
            by_cases z : r = nr
            · subst z
              rw [mset_at]
              exact vp_in_nI (by omega) (by decide)
            · rw [mset_nei z]
              exact hru r hr
          · intro r hr
            try dsimp only
            rw [mset_o (by omega), mset_o (by omega), mset_o (by omega)]
            by_cases z : r = nr
            · subst z
              rw [mset_at]
              exact vp_in_nI (by omega) (by decide)
            · rw [mset_nei z]
              exact hrv r hr
          · intro k hk
            try dsimp only
            rw [mset_ne (show 10 + k ≠ 0 by omega), mset_ne (show 10 + k ≠ 7 by omega), mset_ne (show 10 + k ≠ 6 by omega), mset_ne (show 10 + k ≠ 5 by omega)]
            exact hsh k hk
        · have : nr = 8 := by omega
          subst this
          rw [if_neg (show ¬ u 0 6 < 8 by rw [ur]; decide), if_pos (show v 0 18 = 8 by rw [vr]; rfl)]
          exact ⟨rfl, hR0⟩
    · rw [s1, s2, if_pos rfl, if_neg one_ne]
      exact ⟨rfl, hR0⟩
  · rw [e1, e2, if_pos rfl, if_neg one_ne]
    exact ⟨rfl, hR0⟩
