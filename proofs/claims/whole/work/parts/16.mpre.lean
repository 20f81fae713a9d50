theorem lg_spec (x y : Int64) : (y.toInt < x.toInt ∧ lg_cmp x y = 1) ∨ (x.toInt = y.toInt ∧ lg_cmp x y = 0) ∨ (x.toInt < y.toInt ∧ lg_cmp x y = -1) := by
  unfold lg_cmp
  by_cases h1 : x > y
  · exact Or.inl ⟨Int64.lt_iff_toInt_lt.mp h1, by rw [if_pos h1]⟩
  · rw [if_neg h1]
    have h2 : ¬ y.toInt < x.toInt := fun q => h1 (Int64.lt_iff_toInt_lt.mpr q)
    by_cases h3 : x = y
    · exact Or.inr (Or.inl ⟨by rw [h3], by rw [if_pos h3]⟩)
    · have h4 : x.toInt ≠ y.toInt := fun q => h3 (Int64.toInt_inj.mp q)
      exact Or.inr (Or.inr ⟨by omega, by rw [if_neg h3]⟩)
theorem lg_lt {x y : Int64} : lg_cmp x y < 0 ↔ x.toInt < y.toInt := by
  rcases lg_spec x y with ⟨h, e⟩ | ⟨h, e⟩ | ⟨h, e⟩ <;> rw [e]
  · exact ⟨fun q => absurd q (by decide), fun q => by omega⟩
  · exact ⟨fun q => absurd q (by decide), fun q => by omega⟩
  · exact ⟨fun _ => h, fun _ => by decide⟩
theorem lg_gt {x y : Int64} : 0 < lg_cmp x y ↔ y.toInt < x.toInt := by
  rcases lg_spec x y with ⟨h, e⟩ | ⟨h, e⟩ | ⟨h, e⟩ <;> rw [e]
  · exact ⟨fun _ => h, fun _ => by decide⟩
  · exact ⟨fun q => absurd q (by decide), fun q => by omega⟩
  · exact ⟨fun q => absurd q (by decide), fun q => by omega⟩
theorem lg_eq {x y : Int64} : lg_cmp x y = 0 ↔ x.toInt = y.toInt := by
  rcases lg_spec x y with ⟨h, e⟩ | ⟨h, e⟩ | ⟨h, e⟩ <;> rw [e]
  · exact ⟨fun q => absurd q (by decide), fun q => by omega⟩
  · exact ⟨fun _ => h, fun _ => rfl⟩
  · exact ⟨fun q => absurd q (by decide), fun q => by omega⟩
theorem lg_ge {x y : Int64} : 0 ≤ lg_cmp x y ↔ y.toInt ≤ x.toInt := by
  rcases lg_spec x y with ⟨h, e⟩ | ⟨h, e⟩ | ⟨h, e⟩ <;> rw [e]
  · exact ⟨fun _ => by omega, fun _ => by decide⟩
  · exact ⟨fun _ => by omega, fun _ => by decide⟩
  · exact ⟨fun q => absurd q (by decide), fun q => by omega⟩
theorem lg_le {x y : Int64} : lg_cmp x y ≤ 0 ↔ x.toInt ≤ y.toInt := by
  rcases lg_spec x y with ⟨h, e⟩ | ⟨h, e⟩ | ⟨h, e⟩ <;> rw [e]
  · exact ⟨fun q => absurd q (by decide), fun q => by omega⟩
  · exact ⟨fun _ => by omega, fun _ => by decide⟩
  · exact ⟨fun _ => by omega, fun _ => by decide⟩
theorem i64_32 (x : Int32) : x.toInt64.toInt = x.toInt := Int32.toInt_toInt64 x
theorem sub1_64 {n : Nat} (h : n < 1000) : ((nI n).toInt64 - 1).toInt = (n : Int) - 1 := by
  rw [Int64.toInt_sub, i64_32, nI_int (by omega), show (1 : Int64).toInt = 1 from rfl]
  exact Int.bmod_eq_of_le (by omega) (by omega)
theorem lrem_int (x y : Int64) : (x - x / y * y).toInt = x.toInt.tmod y.toInt := by
  have hx := Int64.toInt_lt x
  have hx2 := Int64.le_toInt x
  have e : (x - x / y * y).toInt = Int.bmod (x.toInt - x.toInt.tdiv y.toInt * y.toInt) (2 ^ 64) := by
    rw [Int64.toInt_sub, Int64.toInt_mul, Int64.toInt_div]
    simp
  have h2 : x.toInt - x.toInt.tdiv y.toInt * y.toInt = x.toInt.tmod y.toInt := by
    rw [Int.tmod_def, Int.mul_comm]
  rw [e, h2]
  have hy := Int64.toInt_lt y
  have hy2 := Int64.le_toInt y
  by_cases h0 : y.toInt = 0
  · rw [h0, Int.tmod_zero]
    exact Int.bmod_eq_of_le (by omega) (by omega)
  have h3 : (x.toInt.tmod y.toInt).natAbs = x.toInt.natAbs % y.toInt.natAbs := Int.natAbs_tmod _ _
  have h4 : (x.toInt.tmod y.toInt).natAbs < y.toInt.natAbs := by
    rw [h3]
    exact Nat.mod_lt _ (by omega)
  clear h3
  generalize x.toInt.tmod y.toInt = z at h4 ⊢
  exact Int.bmod_eq_of_le (by omega) (by omega)
theorem lrem_lt {x y : Int64} (h : ¬ y = 0) : (x - x / y * y).toInt.natAbs < y.toInt.natAbs := by
  have h0 : y.toInt ≠ 0 := fun q => h (Int64.toInt_inj.mp q)
  rw [lrem_int, Int.natAbs_tmod]
  exact Nat.mod_lt _ (by omega)
theorem bits_next {x : Int32} {n : Nat} (c : ¬ x ≤ 0) (h : x.toInt < 2 ^ n) : 1 ≤ n ∧ (x >>> ((1 : Int32) &&& 31)).toInt < 2 ^ (n - 1) := by
  have h1 : ¬ x.toInt ≤ 0 := fun q => c (Int32.le_iff_toInt_le.mpr q)
  cases n with
  | zero => simp at h; omega
  | succ n =>
    refine ⟨by omega, ?_⟩
    rw [pk_shr x ((1 : Int32) &&& 31) 1 (by decide), Int.shiftRight_eq_div_pow]
    rw [Int.pow_succ] at h
    rw [Nat.add_sub_cancel]
    omega
theorem nb01 {x : Int32} (h : x = 0 ∨ x = 1) : narrow .boolean (.int x) = .int x := by
  rcases h with rfl | rfl <;> rfl
def CaOk (v : Mem) (f n : Int32) : Prop := ∃ r a b : Nat, v 0 7 = nI r ∧ f = nI a ∧ n = nI b ∧ r ≤ b ∧ b ≤ 60 ∧ a + b ≤ 240
def GrOk (f n : Int32) : Prop := ∃ a b : Nat, f = nI a ∧ n = nI b ∧ b ≤ 60 ∧ a + b ≤ 240
theorem CaOk_in {v : Mem} {f n : Int32} (h : CaOk v f n) (c : ¬ n ≤ v 0 7) : vp_in (f + v 0 7) 240 := by
  obtain ⟨r, a, b, e1, e2, e3, h1, h2, h3⟩ := h
  have := cnt_lt e3 e1 (by omega) (by omega) c
  rw [e1, e2]
  exact cnt_in (nI_add a r) (by omega) (by decide)
