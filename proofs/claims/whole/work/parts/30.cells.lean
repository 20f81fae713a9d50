/-! which cells there are: the two sides agree -/
theorem reach_iff {u : Mem} {k q : Nat} {a n : Int32} (hq : q ≤ 60) (e : u 9 k = nI q) : (¬ fX2_reaches u k a n = 0) ↔ (0 ≤ a.toInt ∧ 0 ≤ n.toInt ∧ a.toInt + n.toInt ≤ q) := by
  unfold fX2_reaches
  by_cases c1 : n < 0
  · have := neg_int c1
    rw [if_pos c1]
    exact ⟨fun z => absurd rfl z, fun z => by omega⟩
  rw [if_neg c1]
  by_cases c2 : a < 0
  · have := neg_int c2
    rw [if_pos c2]
    exact ⟨fun z => absurd rfl z, fun z => by omega⟩
  rw [if_neg c2, e]
  have hn := ge_of c1
  have ha := ge_of c2
  have hnr : n.toInt < 2147483648 := Int32.toInt_lt n
  have es : (nI q - n).toInt = (q : Int) - n.toInt := by
    rw [Int32.toInt_sub, nI_int (by omega)]
    exact Int.bmod_eq_of_le (by omega) (by omega)
  by_cases c3 : nI q - n < a
  · have h3 := Int32.lt_iff_toInt_lt.mp c3
    rw [es] at h3
    rw [if_pos c3]
    exact ⟨fun z => absurd rfl z, fun z => by omega⟩
  · have h3 : ¬ (nI q - n).toInt < a.toInt := fun z => c3 (Int32.lt_iff_toInt_lt.mpr z)
    rw [es] at h3
    rw [if_neg c3]
    exact ⟨fun _ => ⟨ha, hn, by omega⟩, fun _ => one_ne⟩
theorem bey_iff {i n : Int32} {q : Nat} (hq : q ≤ 60) : fX4_isBeyond i n.toInt64 (nI q) = 0 ↔ (0 ≤ i.toInt ∧ 0 ≤ n.toInt ∧ i.toInt + n.toInt ≤ q) := by
  refine ⟨fun c => ?_, fun ⟨h1, h2, h3⟩ => ?_⟩
  · have h := ib_spec c
    rw [nI_int (by omega)] at h
    exact h
  · have hi := Int32.toInt_lt i
    have hn := Int32.toInt_lt n
    unfold fX4_isBeyond
    rw [if_neg (not_neg h1), if_neg (fun z => by have z2 := lg_lt.mp z; rw [i64_32, show (0 : Int64).toInt = 0 from rfl] at z2; omega), if_pos]
    apply lg_le.mpr
    rw [Int64.toInt_add, i64_32, i64_32, i64_32, nI_int (by omega), Int.bmod_eq_of_le (by omega) (by omega)]
    exact h3
/-- a SHEET's flaw, told by the other side's numbers -/
theorem cb_flaw {u v : Mem} {j : Nat} {lane i n : Int32} (hj : j < 4) (hs : v 12 j = u 9 j) (hl : v 13 j = u 8 j) (hz : u 9 j = -1 ∨ ∃ q : Nat, q ≤ 60 ∧ u 9 j = nI q) : (fX2_flaw u j lane i n = 0 ∧ fX4_cellsBarred v (nI j) lane i n.toInt64 = (0, v)) ∨ (∃ x : Int32, (x = 1 ∨ x = 2 ∨ x = 3 ∨ x = 4) ∧ fX2_flaw u j lane i n = x ∧ fX4_cellsBarred v (nI j) lane i n.toInt64 = (-10 - x, mset v 0 0 x)) := by
  rw [fX2_flaw, fX4_cellsBarred, nI_clamp (by omega), hs, hl, fX2_isEmpty]
  rcases hz with e | ⟨q, hq, e⟩
  · rw [e, if_pos rfl, if_neg one_ne, if_pos (show (-1 : Int32) < 0 by decide), if_neg (show ¬ (0 : Int32) ≤ -1 by decide)]
    exact Or.inr ⟨1, Or.inl rfl, rfl, rfl⟩
  · rw [e, if_neg (show ¬ nI q = -1 from fun z => nI_pos (n := q) (by omega) (by rw [z]; decide)), if_pos rfl, if_neg (nI_pos (by omega)), if_pos (nI_pos' (by omega))]
    by_cases c1 : lane = u 8 j
    · rw [if_pos c1, if_pos c1.symm]
      by_cases c2 : 0 ≤ n
      · have h2 : 0 ≤ n.toInt := Int32.le_iff_toInt_le.mp c2
        rw [if_pos c2, if_pos (show 0 ≤ lg_cmp n.toInt64 0 from lg_ge.mpr (by rw [i64_32]; exact h2))]
        have h3 := reach_iff (a := i) (n := n) hq e
        have h4 := bey_iff (i := i) (n := n) hq
        by_cases c3 : fX2_reaches u j i n = 0
        · rw [if_pos c3, if_neg (fun z => h3.mpr (h4.mp z) c3)]
          exact Or.inr ⟨3, Or.inr (Or.inr (Or.inl rfl)), rfl, rfl⟩
        · rw [if_neg c3, if_pos (h4.mpr (h3.mp c3))]
          exact Or.inl ⟨rfl, rfl⟩
      · have h2 : ¬ 0 ≤ n.toInt := fun z => c2 (Int32.le_iff_toInt_le.mpr z)
        rw [if_neg c2, if_neg (show ¬ 0 ≤ lg_cmp n.toInt64 0 from fun z => h2 (by have := lg_ge.mp z; rw [i64_32] at this; exact this))]
        exact Or.inr ⟨4, Or.inr (Or.inr (Or.inr rfl)), rfl, rfl⟩
    · rw [if_neg c1, if_neg (fun z => c1 z.symm)]
      exact Or.inr ⟨2, Or.inr (Or.inl rfl), rfl, rfl⟩
theorem cell_flaw {u v : Mem} {j : Nat} {i : Int32} (hj : j < 4) (hs : v 12 j = u 9 j) (hz : u 9 j = -1 ∨ ∃ q : Nat, q ≤ 60 ∧ u 9 j = nI q) : (fX2_flaw u j (u 8 j) i 1 = 0 ∧ fX4_noCell v (nI j) i = 0 ∧ ∃ q a : Nat, q ≤ 60 ∧ u 9 j = nI q ∧ i = nI a ∧ a < q) ∨ (∃ x : Int32, (x = 1 ∨ x = 3) ∧ fX2_flaw u j (u 8 j) i 1 = x ∧ fX4_noCell v (nI j) i = x ∧ (x = 1 ↔ u 9 j = -1)) := by
  rw [fX2_flaw, fX4_noCell, nI_clamp (by omega), hs, fX2_isEmpty]
  rcases hz with e | ⟨q, hq, e⟩
  · rw [e, if_pos rfl, if_neg one_ne, if_neg (show ¬ (0 : Int32) ≤ -1 by decide)]
    exact Or.inr ⟨1, Or.inl rfl, rfl, rfl, by simp⟩
  · rw [e, if_neg (show ¬ nI q = -1 from fun z => nI_pos (n := q) (by omega) (by rw [z]; decide)), if_pos rfl, if_pos rfl, if_pos (show (0 : Int32) ≤ 1 by decide), if_pos (nI_pos' (by omega)), in_sub (by omega)]
    have h3 := reach_iff (a := i) (n := 1) hq e
    rw [show (1 : Int32).toInt = 1 from rfl] at h3
    by_cases c3 : fX2_reaches u j i 1 = 0
    · have h5 : ¬ (0 ≤ i.toInt ∧ i.toInt ≤ (q : Int) - 1) := fun z => h3.mpr ⟨z.1, by omega, by omega⟩ c3
      rw [if_pos c3, if_neg h5, if_pos rfl]
      exact Or.inr ⟨3, Or.inr rfl, rfl, rfl, ⟨fun z => absurd z (by decide), fun z => absurd (show nI q = -1 from z) (fun z => nI_pos (n := q) (by omega) (by rw [z]; decide))⟩⟩
    · obtain ⟨z1, -, z3⟩ := h3.mp c3
      obtain ⟨a, e1, e2, -⟩ := int_ex z1
      rw [if_neg c3, if_pos (show 0 ≤ i.toInt ∧ i.toInt ≤ (q : Int) - 1 by omega), if_neg one_ne]
      exact Or.inl ⟨rfl, rfl, q, a, hq, rfl, e1, by omega⟩
theorem szx {u : Mem} {v : Mem} {j : Nat} (h : u 9 j = -1 ∨ ∃ n : Nat, n ≤ 60 ∧ u 9 j = nI n ∧ ∀ i, i < n → v 14 (60 * j + i) = u (10 + j) i) : u 9 j = -1 ∨ ∃ q : Nat, q ≤ 60 ∧ u 9 j = nI q := h.elim Or.inl (fun ⟨n, hn, e, _⟩ => Or.inr ⟨n, hn, e⟩)
theorem Rel_trace {u v : Mem} (h : Rel u v) (n : Int32) : Rel (fX3_leaveInTrace u n) (fX4_traced v n) := by
  refine Rel_same h (fun a b q => mset_o (by omega)) (fun a b q => mset_o (by unfold KpM at q; omega)) ?_ ?_
  · show mset v 0 26 _ 0 26 = mset u 0 7 _ 0 7
    rw [mset_at, mset_at, rel_tr h]
  · show mset v 0 26 _ 0 0 = mset u 0 7 _ 0 8
    rw [mset_o (by omega), mset_o (by omega), rel_fl h]
theorem tr_row {v : Mem} {n : Int32} {a : Nat} (h : a ≠ 0) : fX4_traced v n a = v a := mset_ne h
theorem eq_tell {u v : Mem} (hR : Rel u v) (a1 : Int32) : (fX3_tell u a1).1 = (fX4_tell v a1).1 ∧ Rel (fX3_tell u a1).2 (fX4_tell v a1).2 := by
  have hR0 := hR
  obtain ⟨ne, np, nr, ch, kd, cv, sd, rp, rs, ⟨hne, hnp, hnr⟩, ⟨ue, up, ur⟩, ⟨ve, vp, vr⟩, htr, hfl, hch, hpr, hrd, hru, hrv, hsh⟩ := hR
  rcases prophet_cases hnp up vp a1 with ⟨j, hj, rfl, e1, e2⟩ | ⟨e1, e2⟩
  · obtain ⟨⟨g1, g2, g3⟩, ⟨g4, g5, g6⟩, g7, g8, g9⟩ := hpr j hj
    rw [fX3_tell, fX4_tell, e1, e2, if_neg one_ne, if_pos rfl, nI_clamp (by omega)]
    simp only [tr_row (show (3 : Nat) ≠ 0 by decide), g4, g5, g7, g8]
    rcases (show kd j = 0 ∨ kd j = 1 ∨ kd j = 2 by omega) with q | q | q <;> rw [q]
    · simp only [eq_false (show ¬ nI 0 = 2 by decide), eq_true (show nI 0 = 0 by decide), eq_true (show nI 0 ≤ 0 by decide), if_true, if_false]
      exact ⟨rfl, Rel_trace hR0 1⟩
    · simp only [eq_false (show ¬ nI 1 = 2 by decide), eq_false (show ¬ nI 1 = 0 by decide), eq_true (show nI 1 = 1 by decide), eq_false (show ¬ nI 1 ≤ 0 by decide), if_true, if_false]
      exact ⟨rfl, Rel_trace (Rel_trace hR0 2) 1⟩
    · simp only [eq_true (show nI 2 = 2 by decide), eq_false (show ¬ nI 2 = 0 by decide), eq_false (show ¬ nI 2 = 1 by decide), eq_false (show ¬ nI 2 ≤ 0 by decide), if_true, if_false]
      refine ⟨?_, Rel_trace (Rel_trace (Rel_trace (Rel_trace hR0 3) 2) 1) 1⟩
      show (nI (cv j) + nI 100) + nI (cv j) = nI 2 * nI (cv j) + nI 100
      rw [nI_add, nI_add, pk_mul, nI_add]
      congr 1
      omega
  · rw [fX3_tell, fX4_tell, e1, e2, if_pos rfl, if_neg one_ne]
    exact ⟨rfl, hR0⟩
theorem eq_hear {u v : Mem} (hR : Rel u v) (a1 : Int32) : (fX3_hear u a1).1 = (fX4_hear v a1).1 ∧ Rel (fX3_hear u a1).2 (fX4_hear v a1).2 := by
  have hR0 := hR
  obtain ⟨ne, np, nr, ch, kd, cv, sd, rp, rs, ⟨hne, hnp, hnr⟩, ⟨ue, up, ur⟩, ⟨ve, vp, vr⟩, htr, hfl, hch, hpr, hrd, hru, hrv, hsh⟩ := hR
  rcases prophet_cases hnp up vp a1 with ⟨j, hj, rfl, e1, e2⟩ | ⟨e1, e2⟩
  · obtain ⟨⟨g1, g2, g3⟩, ⟨g4, g5, g6⟩, g7, g8, g9⟩ := hpr j hj
    rw [fX3_hear, fX4_hear, e1, e2, if_neg one_ne, if_pos rfl, nI_clamp (by omega)]
    simp only [tr_row (show (2 : Nat) ≠ 0 by decide), g4, g7]
    by_cases q : nI (kd j) = 2
    · rw [if_pos q, if_pos q, if_pos q]
      exact ⟨rfl, Rel_trace hR0 5⟩
    · rw [if_neg q, if_neg q, if_neg q]
      exact ⟨rfl, Rel_trace hR0 4⟩
  · rw [fX3_hear, fX4_hear, e1, e2, if_pos rfl, if_neg one_ne]
    exact ⟨rfl, hR0⟩
theorem Rel_fault2 {u v : Mem} (h : Rel u v) (x : Int32) : Rel (mset (mset u 0 8 0) 0 8 x) (mset v 0 0 x) := by
  refine Rel_same h (fun a b q => by rw [mset_o (by omega), mset_o (by omega)]) (fun a b q => mset_o (by unfold KpM at q; omega)) ?_ ?_
  · rw [mset_o (by omega), mset_o (by omega), mset_o (by omega), rel_tr h]
  · rw [mset_at, mset_at]
theorem eq_as {u v : Mem} (hR : Rel u v) (a1 a2 : Int32) : (fX3_as u a1 a2).1 = (fX4_as v a1 a2).1 ∧ Rel (fX3_as u a1 a2).2 (fX4_as v a1 a2).2 := by
  have hR0 := hR
  obtain ⟨ne, np, nr, ch, kd, cv, sd, rp, rs, ⟨hne, hnp, hnr⟩, ⟨ue, up, ur⟩, ⟨ve, vp, vr⟩, htr, hfl, hch, hpr, hrd, hru, hrv, hsh⟩ := hR
  rcases prophet_cases (u := mset u 0 8 0) hnp up vp a1 with ⟨j, hj, rfl, e1, e2⟩ | ⟨e1, e2⟩
  · obtain ⟨⟨g1, g2, g3⟩, ⟨g4, g5, g6⟩, g7, g8, g9⟩ := hpr j hj
    rw [fX3_as, fX4_as, e1, e2, if_neg one_ne, if_pos rfl, nI_clamp (by omega), in_within (m := 2) rfl]
    rcases within01 a2 2 with w | w
    · rw [w, if_pos rfl, if_pos rfl]
      exact ⟨rfl, Rel_fault hR0 0⟩
    · rw [w, if_neg one_ne, if_neg one_ne, mset_ne (show (2 : Nat) ≠ 0 by decide), g4, g7]
      by_cases q : nI (kd j) < a2
      · rw [if_pos q, if_pos q]
        exact ⟨rfl, Rel_fault2 hR0 2⟩
      · rw [if_neg q, if_neg q]
        exact ⟨rfl, Rel_fault hR0 0⟩
  · rw [fX3_as, fX4_as, e1, e2, if_pos rfl, if_neg one_ne]
    exact ⟨rfl, Rel_fault hR0 0⟩
theorem eq_many {u v : Mem} (hR : Rel u v) (a1 : Int32) : (fX3_many u a1) = (fX4_many v a1) := by
  obtain ⟨ne, np, nr, ch, kd, cv, sd, rp, rs, ⟨hne, hnp, hnr⟩, ⟨ue, up, ur⟩, ⟨ve, vp, vr⟩, htr, hfl, hch, hpr, hrd, hru, hrv, hsh⟩ := hR
  have key : ∀ (n k : Nat) (x : Int32), k ≤ np → np < k + n → fX3_countFrauds_c4 u n (nI k) x = fX4_fraudsNow_c4 v n (nI k) x := by
    intro n
    induction n with
    | zero => intro k x h1 h2; omega
    | succ n ih =>
      intro k x h1 h2
      rw [fX3_countFrauds_c4, fX4_fraudsNow_c4, up, vp]
      rcases Nat.lt_or_ge k np with q | q
      · obtain ⟨⟨g1, g2, g3⟩, ⟨g4, g5, g6⟩, g7, g8, g9⟩ := hpr k q
        rw [if_neg (nI_ge q (by omega)), if_neg (nI_ge q (by omega)), nI_clamp (by omega), g6, fraud_X hne ue (by omega), fraud_M hne ve (by omega) (by omega) g9, nI_1, Int32.add_zero]
        by_cases z : sd k &&& (2 ^ ne - 1) = 2 ^ ne - 1
        · rw [if_pos z, if_neg one_ne, if_neg one_ne]
          exact ih (k + 1) _ q (by omega)
        · rw [if_neg z, if_pos rfl, if_pos rfl]
          exact ih (k + 1) _ q (by omega)
      · have : k = np := by omega
        subst this
        rw [if_pos (nI_le (Nat.le_refl k) (by omega)), if_pos (nI_le (Nat.le_refl k) (by omega))]
  have hc : fX3_countFrauds u = fX4_fraudsNow v := key 5 0 0 (Nat.zero_le _) (by omega)
  rw [fX3_many, fX4_many, up, ue, ur, vp, ve, vr, hc]
