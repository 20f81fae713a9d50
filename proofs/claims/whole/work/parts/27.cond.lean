/-! the two sides' tests, told once -/
theorem one_ne : ¬ (1 : Int32) = 0 := by decide
theorem within_eval (x m : Int32) : fX3_isWithin x m = if 0 ≤ x.toInt ∧ x.toInt ≤ m.toInt then 1 else 0 := by
  unfold fX3_isWithin
  by_cases c1 : x < 0
  · have h : x.toInt < (0 : Int32).toInt := Int32.lt_iff_toInt_lt.mp c1
    rw [show (0 : Int32).toInt = 0 from rfl] at h
    rw [if_pos c1, if_neg (by omega)]
  rw [if_neg c1]
  have h0 := ge_of c1
  by_cases c2 : m < x
  · have h : m.toInt < x.toInt := Int32.lt_iff_toInt_lt.mp c2
    rw [if_pos c2, if_neg (by omega)]
  · have h : ¬ m.toInt < x.toInt := fun q => c2 (Int32.lt_iff_toInt_lt.mpr q)
    rw [if_neg c2, if_pos (by omega)]
theorem in_eval (a l h : Int64) : fX4_in a l h = if l.toInt ≤ a.toInt ∧ a.toInt ≤ h.toInt then 1 else 0 := by
  unfold fX4_in
  by_cases c1 : lg_cmp a l < 0
  · have := lg_lt.mp c1
    rw [if_pos c1, if_neg (by omega)]
  rw [if_neg c1]
  have h1 : ¬ a.toInt < l.toInt := fun q => c1 (lg_lt.mpr q)
  by_cases c2 : 0 < lg_cmp a h
  · have := lg_gt.mp c2
    rw [if_pos c2, if_neg (by omega)]
  · have h2 : ¬ h.toInt < a.toInt := fun q => c2 (lg_gt.mpr q)
    rw [if_neg c2, if_pos (by omega)]
theorem in_within {x m : Int32} {M : Int64} (h : M.toInt = m.toInt) : fX4_in x.toInt64 0 M = fX3_isWithin x m := by
  rw [in_eval, within_eval, i64_32, h, show (0 : Int64).toInt = 0 from rfl]
theorem in_lane (x : Int32) : fX4_in x.toInt64 0 2 = fX3_isLane x := by
  rw [in_eval, i64_32, show (0 : Int64).toInt = 0 from rfl, show (2 : Int64).toInt = 2 from rfl]
  unfold fX3_isLane
  by_cases c1 : x < 0
  · have h : x.toInt < (0 : Int32).toInt := Int32.lt_iff_toInt_lt.mp c1
    rw [show (0 : Int32).toInt = 0 from rfl] at h
    rw [if_pos c1, if_neg (by omega)]
  rw [if_neg c1]
  have h0 := ge_of c1
  by_cases c2 : 3 ≤ x
  · have h : (3 : Int32).toInt ≤ x.toInt := Int32.le_iff_toInt_le.mp c2
    rw [show (3 : Int32).toInt = 3 from rfl] at h
    rw [if_pos c2, if_neg (by omega)]
  · have h : ¬ (3 : Int32).toInt ≤ x.toInt := fun q => c2 (Int32.le_iff_toInt_le.mpr q)
    rw [show (3 : Int32).toInt = 3 from rfl] at h
    rw [if_neg c2, if_pos (by omega)]
/-- 0 or 1 -/
theorem within01 (x m : Int32) : fX3_isWithin x m = 0 ∨ fX3_isWithin x m = 1 := by
  rw [within_eval]
  split
  · exact Or.inr rfl
  · exact Or.inl rfl
theorem in_sub {n : Nat} (h : n < 1000) (p : Int32) : fX4_in p.toInt64 0 ((nI n).toInt64 - 1) = if 0 ≤ p.toInt ∧ p.toInt ≤ (n : Int) - 1 then 1 else 0 := by
  rw [in_eval, sub1_64 h, i64_32, show (0 : Int64).toInt = 0 from rfl]
theorem neg_int {p : Int32} (h : p < 0) : p.toInt < 0 := by
  have h1 : p.toInt < (0 : Int32).toInt := Int32.lt_iff_toInt_lt.mp h
  exact h1
theorem ge_int {p : Int32} {n : Nat} (hn : n < 1000) (h : nI n ≤ p) : (n : Int) ≤ p.toInt := by
  have h1 : (nI n).toInt ≤ p.toInt := Int32.le_iff_toInt_le.mp h
  rw [nI_int (by omega)] at h1
  exact h1
theorem not_neg {p : Int32} (h : 0 ≤ p.toInt) : ¬ p < 0 := fun q => by
  have h2 := neg_int q
  omega
theorem prophet_cases {u v : Mem} {np : Nat} (hnp : np ≤ 4) (up : u 0 5 = nI np) (vp : v 0 3 = nI np) (p : Int32) : (∃ j, j < np ∧ p = nI j ∧ fX3_isProphet u p = 1 ∧ fX4_noProphet v p = 0) ∨ (fX3_isProphet u p = 0 ∧ fX4_noProphet v p = 1) := by
  unfold fX3_isProphet fX4_noProphet
  rw [up, vp]
  rcases pk_ix p (n := np) (by omega) with h | h | ⟨j, hj, rfl⟩
  · right
    have h1 := neg_int h
    rw [if_pos h, in_sub (by omega), if_neg (show ¬ (0 ≤ p.toInt ∧ p.toInt ≤ (np : Int) - 1) by omega), if_pos rfl]
    exact ⟨rfl, rfl⟩
  · right
    have h1 := ge_int (by omega) h
    rw [if_neg (not_neg (by omega)), if_pos h, in_sub (by omega), if_neg (show ¬ (0 ≤ p.toInt ∧ p.toInt ≤ (np : Int) - 1) by omega), if_pos rfl]
    exact ⟨rfl, rfl⟩
  · left
    refine ⟨j, hj, rfl, ?_, ?_⟩
    · rw [if_neg (nI_pos (by omega)), if_neg (nI_ge hj (by omega))]
    · rw [in_sub (by omega), nI_int (by omega), if_pos (show 0 ≤ (j : Int) ∧ (j : Int) ≤ (np : Int) - 1 by omega), if_neg one_ne]
theorem event_cases {u v : Mem} {ne : Nat} (hne : ne ≤ 5) (ue : u 0 4 = nI ne) (ve : v 0 1 = nI ne) (p : Int32) : (∃ j, j < ne ∧ p = nI j ∧ fX3_isEvent u p = 1 ∧ fX4_noEvent v p = 0) ∨ (fX3_isEvent u p = 0 ∧ fX4_noEvent v p = 1) := by
  unfold fX3_isEvent fX4_noEvent
  rw [ue, ve]
  rcases pk_ix p (n := ne) (by omega) with h | h | ⟨j, hj, rfl⟩
  · right
    have h1 := neg_int h
    rw [if_pos h, in_sub (by omega), if_neg (show ¬ (0 ≤ p.toInt ∧ p.toInt ≤ (ne : Int) - 1) by omega), if_pos rfl]
    exact ⟨rfl, rfl⟩
  · right
    have h1 := ge_int (by omega) h
    rw [if_neg (not_neg (by omega)), if_pos h, in_sub (by omega), if_neg (show ¬ (0 ≤ p.toInt ∧ p.toInt ≤ (ne : Int) - 1) by omega), if_pos rfl]
    exact ⟨rfl, rfl⟩
  · left
    refine ⟨j, hj, rfl, ?_, ?_⟩
    · rw [if_neg (nI_pos (by omega)), if_neg (nI_ge hj (by omega))]
    · rw [in_sub (by omega), nI_int (by omega), if_pos (show 0 ≤ (j : Int) ∧ (j : Int) ≤ (ne : Int) - 1 by omega), if_neg one_ne]
theorem sheet_cases (p : Int32) : (∃ j, j < 4 ∧ p = nI j ∧ fX3_isSheet p = 1 ∧ fX4_noSheet p = 0) ∨ (fX3_isSheet p = 0 ∧ fX4_noSheet p = 1) := by
  have hin : fX4_in p.toInt64 0 3 = if 0 ≤ p.toInt ∧ p.toInt ≤ 3 then 1 else 0 := by
    rw [in_eval, i64_32, show (0 : Int64).toInt = 0 from rfl, show (3 : Int64).toInt = 3 from rfl]
  unfold fX3_isSheet fX4_noSheet
  rw [hin]
  rcases pk_ix p (n := 4) (by omega) with h | h | ⟨j, hj, rfl⟩
  · right
    have h1 := neg_int h
    rw [if_pos h, if_neg (show ¬ (0 ≤ p.toInt ∧ p.toInt ≤ 3) by omega), if_pos rfl]
    exact ⟨rfl, rfl⟩
  · right
    have h1 := ge_int (by omega) h
    rw [if_neg (not_neg (by omega)), if_pos (show (4 : Int32) ≤ p from h), if_neg (show ¬ (0 ≤ p.toInt ∧ p.toInt ≤ 3) by omega), if_pos rfl]
    exact ⟨rfl, rfl⟩
  · left
    refine ⟨j, hj, rfl, ?_, ?_⟩
    · rw [if_neg (nI_pos (by omega)), if_neg (show ¬ (4 : Int32) ≤ nI j from nI_ge (b := 4) hj (by omega))]
    · rw [nI_int (by omega), if_pos (show 0 ≤ (j : Int) ∧ (j : Int) ≤ 3 by omega), if_neg one_ne]
theorem pow5 {n : Nat} (h : n ≤ 5) : 1 ≤ 2 ^ n ∧ 2 ^ n ≤ 32 := by
  rcases (show n = 0 ∨ n = 1 ∨ n = 2 ∨ n = 3 ∨ n = 4 ∨ n = 5 by omega) with rfl | rfl | rfl | rfl | rfl | rfl <;> decide
theorem allX {u : Mem} {ne : Nat} (hne : ne ≤ 5) (ue : u 0 4 = nI ne) : fX3_allEvents u = nI (2 ^ ne - 1) := by
  unfold fX3_allEvents
  rw [ue, shl_pow ne hne]
  exact pk_sub (b := 1) (pow5 hne).1
theorem allM {v : Mem} {ne : Nat} (hne : ne ≤ 5) (ve : v 0 1 = nI ne) : fX4_allEvents v = nI (2 ^ ne - 1) := by
  unfold fX4_allEvents
  rw [ve, shl_pow ne hne]
  exact pk_sub (b := 1) (pow5 hne).1
theorem set_cases {u v : Mem} {ne : Nat} (hne : ne ≤ 5) (ue : u 0 4 = nI ne) (ve : v 0 1 = nI ne) (p : Int32) : (∃ t, t < 2 ^ ne ∧ p = nI t ∧ fX3_isEventSet u p = 1 ∧ fX4_noSet v p = 0) ∨ (fX3_isEventSet u p = 0 ∧ fX4_noSet v p = 1) := by
  have hp := pow5 hne
  unfold fX3_isEventSet fX4_noSet
  rw [in_within (m := fX4_allEvents v) (i64_32 _), allX hne ue, allM hne ve, within_eval, nI_int (by omega)]
  by_cases c : 0 ≤ p.toInt ∧ p.toInt ≤ ((2 ^ ne - 1 : Nat) : Int)
  · left
    obtain ⟨t, e1, e2, -⟩ := int_ex c.1
    rw [if_pos c, if_neg one_ne]
    exact ⟨t, by omega, e1, rfl, rfl⟩
  · right
    rw [if_neg c, if_pos rfl]
    exact ⟨rfl, rfl⟩
theorem office_cases {u v : Mem} {np : Nat} (hnp : np ≤ 4) (up : u 0 5 = nI np) (vp : v 0 3 = nI np) : (0 < np ∧ fX3_hasOffice u = 1 ∧ ¬ v 0 3 = 0) ∨ (np = 0 ∧ fX3_hasOffice u = 0 ∧ v 0 3 = 0) := by
  unfold fX3_hasOffice
  rw [up, vp]
  rcases Nat.eq_zero_or_pos np with rfl | h
  · right
    exact ⟨rfl, by decide, rfl⟩
  · left
    refine ⟨h, ?_, nI_ne0 h (by omega)⟩
    rw [if_neg (nI_nle h (by omega))]
