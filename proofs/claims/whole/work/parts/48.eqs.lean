theorem eq_office {u v : Mem} (hR : Rel u v) (a1 a2 a3 a4 : Int32) : (fX3_office u a1 a2 a3 a4).1 = (fX4_office v a1 a2 a3 a4).1 ∧ Rel (fX3_office u a1 a2 a3 a4).2 (fX4_office v a1 a2 a3 a4).2 := by
  sorry
theorem eq_chance {u v : Mem} (hR : Rel u v) (a1 : Int32) : (fX3_chance u a1) = (fX4_chance v a1) := by
  sorry
theorem eq_fate {u v : Mem} (hR : Rel u v) (a1 a2 : Int32) : (fX3_fate u a1 a2).1 = (fX4_fate v a1 a2).1 ∧ Rel (fX3_fate u a1 a2).2 (fX4_fate v a1 a2).2 := by
  sorry
theorem eq_ofProphet {u v : Mem} (hR : Rel u v) (a1 a2 : Int32) : (fX3_ofProphet u a1 a2) = (fX4_ofProphet v a1 a2) := by
  sorry
theorem eq_say {u v : Mem} (hR : Rel u v) (a1 a2 : Int32) : (fX3_say u a1 a2).1 = (fX4_say v a1 a2).1 ∧ Rel (fX3_say u a1 a2).2 (fX4_say v a1 a2).2 := by
  sorry
theorem eq_paid {u v : Mem} (hR : Rel u v) (a1 a2 : Int32) : (fX3_paid u a1 a2) = (fX4_paid v a1 a2) := by
  sorry
theorem eq_total {u v : Mem} (hR : Rel u v) (a1 : Int32) : (fX3_total u a1) = (fX4_total v a1) := by
  sorry
theorem eq_years {u v : Mem} (hR : Rel u v) (a1 a2 a3 a4 a5 a6 : Int32) : (fX3_years u a1 a2 a3 a4 a5 a6).1 = (fX4_years v a1 a2 a3 a4 a5 a6).1 ∧ Rel (fX3_years u a1 a2 a3 a4 a5 a6).2 (fX4_years v a1 a2 a3 a4 a5 a6).2 := by
  sorry
theorem eq_fair {u v : Mem} (hR : Rel u v) (a1 a2 : Int32) : (fX3_fair u a1 a2) = (fX4_fair v a1 a2) := by
  sorry
theorem eq_safe {u v : Mem} (hR : Rel u v) (a1 : Int32) : (fX3_safe u a1) = (fX4_safe v a1) := by
  sorry
theorem eq_hold {u v : Mem} (hR : Rel u v) (a1 : Int32) : (fX3_hold u a1) = (fX4_hold v a1) := by
  sorry
theorem eq_best {u v : Mem} (hR : Rel u v) (a1 a2 : Int32) : (fX3_best u a1 a2) = (fX4_best v a1 a2) := by
  sorry
theorem eq_came {u v : Mem} (hR : Rel u v) (a1 a2 : Int32) : (fX3_came u a1 a2) = (fX4_came v a1 a2) := by
  sorry
theorem eq_reading {u v : Mem} (hR : Rel u v) (a1 a2 a3 : Int32) : (fX3_reading u a1 a2 a3).1 = (fX4_reading v a1 a2 a3).1 ∧ Rel (fX3_reading u a1 a2 a3).2 (fX4_reading v a1 a2 a3).2 := by
  sorry
theorem eq_back {u v : Mem} (hR : Rel u v) (a1 : Int32) : (fX3_back u a1).1 = (fX4_back v a1).1 ∧ Rel (fX3_back u a1).2 (fX4_back v a1).2 := by
  sorry
theorem eq_covers {u v : Mem} (hR : Rel u v) (a1 : Int32) : (fX3_covers u a1) = (fX4_covers v a1).1 ∧ Rel u (fX4_covers v a1).2 := by
  sorry
theorem eq_kinds {u v : Mem} (hR : Rel u v) (a1 : Int32) : (fX3_kinds u a1) = (fX4_kinds v a1).1 ∧ Rel u (fX4_kinds v a1).2 := by
  sorry
theorem eq_sayings {u v : Mem} (hR : Rel u v) (a1 a2 : Int32) : (fX3_sayings u a1 a2) = (fX4_sayings v a1 a2).1 ∧ Rel u (fX4_sayings v a1 a2).2 := by
  sorry
theorem eq_odds {u v : Mem} (hR : Rel u v) (a1 a2 : Int32) : (fX3_odds u a1 a2) = (fX4_odds v a1 a2) := by
  sorry
theorem eq_sheet {u v : Mem} (hR : Rel u v) (a1 a2 a3 : Int32) : (fX3_sheet u a1 a2 a3).1 = (fX4_sheet v a1 a2 a3).1 ∧ Rel (fX3_sheet u a1 a2 a3).2 (fX4_sheet v a1 a2 a3).2 := by
  sorry
theorem eq_lose {u v : Mem} (hR : Rel u v) (a1 : Int32) : (fX3_lose u a1).1 = (fX4_lose v a1).1 ∧ Rel (fX3_lose u a1).2 (fX4_lose v a1).2 := by
  sorry
theorem eq_put {u v : Mem} (hR : Rel u v) (a1 a2 a3 : Int32) : (fX3_put u a1 a2 a3).1 = (fX4_put v a1 a2 a3).1 ∧ Rel (fX3_put u a1 a2 a3).2 (fX4_put v a1 a2 a3).2 := by
  sorry
theorem eq_cell {u v : Mem} (hR : Rel u v) (a1 a2 a3 : Int32) : (fX3_cell u a1 a2 a3).1 = (fX4_cell v a1 a2 a3).1 ∧ Rel (fX3_cell u a1 a2 a3).2 (fX4_cell v a1 a2 a3).2 := by
  sorry
theorem eq_copy {u v : Mem} (hR : Rel u v) (a1 a2 a3 a4 a5 : Int32) : (fX3_copy u a1 a2 a3 a4 a5).1 = (fX4_copy v a1 a2 a3 a4 a5).1 ∧ Rel (fX3_copy u a1 a2 a3 a4 a5).2 (fX4_copy v a1 a2 a3 a4 a5).2 := by
  sorry
theorem eq_tell {u v : Mem} (hR : Rel u v) (a1 : Int32) : (fX3_tell u a1).1 = (fX4_tell v a1).1 ∧ Rel (fX3_tell u a1).2 (fX4_tell v a1).2 := by
  sorry
theorem eq_hear {u v : Mem} (hR : Rel u v) (a1 : Int32) : (fX3_hear u a1).1 = (fX4_hear v a1).1 ∧ Rel (fX3_hear u a1).2 (fX4_hear v a1).2 := by
  sorry
theorem eq_as {u v : Mem} (hR : Rel u v) (a1 a2 : Int32) : (fX3_as u a1 a2).1 = (fX4_as v a1 a2).1 ∧ Rel (fX3_as u a1 a2).2 (fX4_as v a1 a2).2 := by
  sorry
theorem eq_trace {u v : Mem} (hR : Rel u v) : (fX3_trace u) = (fX4_trace v) := by
  sorry
theorem eq_fault {u v : Mem} (hR : Rel u v) : (fX3_fault u) = (fX4_fault v) := by
  sorry
theorem eq_many {u v : Mem} (hR : Rel u v) (a1 : Int32) : (fX3_many u a1) = (fX4_many v a1) := by
  sorry
theorem rel_hst {u v : Mem} (hR : Rel u v) (p0 : Int32) : ¬ fX4_in ((p0).toInt64) 0 10 = 0 → ¬ v 0 3 = 0 → ∃ N : Nat, N ≤ 500 ∧ 0 ≤ lg_cmp (10 * ((fX4_weightOfAll v) - (fX4_weightFrom v (nI N + 1)))) ((p0).toInt64 * (fX4_weightOfAll v)) := by
  sorry
