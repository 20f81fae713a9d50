theorem wallX {u : Mem} {ne : Nat} (hne : ne ≤ 5) (ue : u 0 4 = nI ne) : fX3_weightOfAll u = nI (10 ^ ne) := by
  have key : ∀ (k i a n : Nat), i + k = ne → k < n → fX3_weightOfAll_c4 u n (nI i) (nI a) = nI (a * 10 ^ k) := by
    intro k
    induction k with
    | zero =>
      intro i a n h1 h2
      obtain ⟨m, rfl⟩ : ∃ m, n = m + 1 := ⟨n - 1, by omega⟩
      rw [fX3_weightOfAll_c4, ue, if_pos (nI_le (by omega) (by omega)), Nat.pow_zero, Nat.mul_one]
    | succ k ih =>
      intro i a n h1 h2
      obtain ⟨m, rfl⟩ : ∃ m, n = m + 1 := ⟨n - 1, by omega⟩
      rw [fX3_weightOfAll_c4, ue, if_neg (nI_ge (by omega) (by omega)), nI_1, show (10 : Int32) = nI 10 from rfl, pk_mul, ih (i + 1) (a * 10) m (by omega) (by omega), Nat.mul_assoc, Nat.pow_succ, Nat.mul_comm 10]
  have h := key ne 0 1 6 (by omega) (by omega)
  rw [Nat.one_mul] at h
  exact h
def wfac (ch : Nat → Nat) (t i : Nat) : Nat := if fX3_isIn (nI t) (nI i) = 0 then 10 - ch i else ch i
def wtL (ch : Nat → Nat) (t : Nat) : Nat → Nat → Nat → Nat
  | 0, _, a => a
  | k + 1, i, a => wtL ch t k (i + 1) (a * wfac ch t i)
theorem wtL_le {ch : Nat → Nat} {t : Nat} : ∀ (k i a : Nat), (∀ e, e < i + k → ch e ≤ 9) → wtL ch t k i a ≤ a * 10 ^ k := by
  intro k
  induction k with
  | zero => intro i a h; show a ≤ _; omega
  | succ k ih =>
    intro i a h
    have hf : wfac ch t i ≤ 10 := by
      have := h i (by omega)
      unfold wfac
      split <;> omega
    show wtL ch t k (i + 1) (a * wfac ch t i) ≤ _
    refine Nat.le_trans (ih (i + 1) _ (fun e he => h e (by omega))) ?_
    rw [Nat.mul_assoc]
    refine Nat.mul_le_mul_left a ?_
    rw [Nat.pow_succ, Nat.mul_comm]
    exact Nat.mul_le_mul_left _ hf
def wtN (ne : Nat) (ch : Nat → Nat) (t : Nat) : Nat := wtL ch t ne 0 1
theorem wtN_le {ne t : Nat} {ch : Nat → Nat} (hne : ne ≤ 5) (h : ∀ e, e < ne → ch e ≤ 9) : wtN ne ch t ≤ 100000 := by
  have h1 := wtL_le (t := t) ne 0 1 (fun e he => h e (by omega))
  have h2 : 10 ^ ne ≤ 10 ^ 5 := Nat.pow_le_pow_right (by omega) hne
  unfold wtN
  omega
theorem wt_X {u : Mem} {ne t : Nat} {ch : Nat → Nat} (hne : ne ≤ 5) (ue : u 0 4 = nI ne) (hch : ∀ e, e < ne → ch e ≤ 9 ∧ u 1 e = nI (ch e)) : fX3_weightOf u (nI t) = nI (wtN ne ch t) := by
  have key : ∀ (k i a n : Nat), i + k = ne → k < n → fX3_weightOf_c4 u (nI t) n (nI i) (nI a) = nI (wtL ch t k i a) := by
    intro k
    induction k with
    | zero =>
      intro i a n h1 h2
      obtain ⟨m, rfl⟩ : ∃ m, n = m + 1 := ⟨n - 1, by omega⟩
      rw [fX3_weightOf_c4, ue, if_pos (nI_le (by omega) (by omega)), wtL]
    | succ k ih =>
      intro i a n h1 h2
      obtain ⟨m, rfl⟩ : ∃ m, n = m + 1 := ⟨n - 1, by omega⟩
      obtain ⟨c1, c2⟩ := hch i (by omega)
      rw [fX3_weightOf_c4, ue, if_neg (nI_ge (by omega) (by omega)), nI_1, nI_clamp (by omega), c2, wtL, wfac]
      split
      · rw [show (10 : Int32) = nI 10 from rfl, pk_sub (by omega), pk_mul]
        exact ih (i + 1) _ m (by omega) (by omega)
      · rw [pk_mul]
        exact ih (i + 1) _ m (by omega) (by omega)
  exact key ne 0 1 6 (by omega) (by omega)
theorem wt_M {v : Mem} {ne t : Nat} {ch : Nat → Nat} (hne : ne ≤ 5) (ve : v 0 1 = nI ne) (hch : ∀ e, e < ne → ch e ≤ 9 ∧ v 1 e = nI (ch e)) : fX4_weightOf v (nI t) = lN (wtN ne ch t) := by
  have key : ∀ (k i a n : Nat), i + k = ne → k < n → fX4_weightOf_c5 v (nI t) n (nI i) (lN a) = lN (wtL ch t k i a) := by
    intro k
    induction k with
    | zero =>
      intro i a n h1 h2
      obtain ⟨m, rfl⟩ : ∃ m, n = m + 1 := ⟨n - 1, by omega⟩
      rw [fX4_weightOf_c5, ve, if_pos (nI_le (by omega) (by omega)), wtL]
    | succ k ih =>
      intro i a n h1 h2
      obtain ⟨m, rfl⟩ : ∃ m, n = m + 1 := ⟨n - 1, by omega⟩
      obtain ⟨c1, c2⟩ := hch i (by omega)
      rw [fX4_weightOf_c5, ve, if_neg (nI_ge (by omega) (by omega)), nI_1, nI_clamp (by omega), c2, wtL, wfac, show fX4_isIn (nI t) (nI i) = fX3_isIn (nI t) (nI i) from rfl]
      split
      · rw [show (10 : Int32) = nI 10 from rfl, pk_sub (by omega), nI_l (by omega), lN_mul]
        exact ih (i + 1) _ m (by omega) (by omega)
      · rw [nI_l (by omega), lN_mul]
        exact ih (i + 1) _ m (by omega) (by omega)
  exact key ne 0 1 6 (by omega) (by omega)
def wfL (w tot : Nat → Nat) (b : Nat) : Nat → Nat → Nat → Nat
  | 0, _, a => a
  | k + 1, i, a => wfL w tot b k (i + 1) (if tot i < b then a else a + w i)
theorem wfL_le {w tot : Nat → Nat} {b : Nat} (h : ∀ t, w t ≤ 100000) : ∀ (k i a : Nat), wfL w tot b k i a ≤ a + 100000 * k := by
  intro k
  induction k with
  | zero => intro i a; show a ≤ _; omega
  | succ k ih =>
    intro i a
    show wfL w tot b k (i + 1) _ ≤ _
    have h1 := ih (i + 1) (if tot i < b then a else a + w i)
    have h2 := h i
    split at h1 <;> split <;> omega
def wfN (w tot : Nat → Nat) (ne b : Nat) : Nat := wfL w tot b (2 ^ ne) 0 0
theorem wfN_le {w tot : Nat → Nat} {ne b : Nat} (hne : ne ≤ 5) (h : ∀ t, w t ≤ 100000) : wfN w tot ne b ≤ 3200000 := by
  have h1 := wfL_le (b := b) (tot := tot) h (2 ^ ne) 0 0
  have := pow5 hne
  unfold wfN
  omega
theorem wf_X {u : Mem} {ne b : Nat} {w tot : Nat → Nat} (hne : ne ≤ 5) (ue : u 0 4 = nI ne) (hb : b < 2 ^ 31) (hw : ∀ t, t < 2 ^ ne → fX3_weightOf u (nI t) = nI (w t)) (ht : ∀ t, t < 2 ^ ne → fX3_paidToAll u (nI t) = nI (tot t) ∧ tot t < 2 ^ 31) : fX3_weightFrom u (nI b) = nI (wfN w tot ne b) := by
  have h32 := pow5 hne
  have key : ∀ (k i a n : Nat), i + k = 2 ^ ne → k < n → fX3_weightFrom_c4 u (nI b) n (nI i) (nI a) = nI (wfL w tot b k i a) := by
    intro k
    induction k with
    | zero =>
      intro i a n h1 h2
      obtain ⟨m, rfl⟩ : ∃ m, n = m + 1 := ⟨n - 1, by omega⟩
      rw [fX3_weightFrom_c4, allX hne ue, if_pos (nI_lt (by omega) (by omega)), wfL]
    | succ k ih =>
      intro i a n h1 h2
      obtain ⟨m, rfl⟩ : ∃ m, n = m + 1 := ⟨n - 1, by omega⟩
      obtain ⟨t1, t2⟩ := ht i (by omega)
      rw [fX3_weightFrom_c4, allX hne ue, if_neg (nI_nlt (by omega) (by omega)), nI_1, t1, wfL, hw i (by omega), nI_add]
      by_cases q : tot i < b
      · rw [if_pos (nI_lt q hb), if_pos q]
        exact ih (i + 1) _ m (by omega) (by omega)
      · rw [if_neg (nI_nlt (by omega) t2), if_neg q]
        exact ih (i + 1) _ m (by omega) (by omega)
  exact key (2 ^ ne) 0 0 34 (by omega) (by omega)
theorem wf_M {v : Mem} {ne b : Nat} {w tot : Nat → Nat} (hne : ne ≤ 5) (ve : v 0 1 = nI ne) (hb : b < 2 ^ 31) (hw : ∀ t, t < 2 ^ ne → fX4_weightOf v (nI t) = lN (w t)) (ht : ∀ t, t < 2 ^ ne → fX4_paidToAll v (nI t) = nI (tot t) ∧ tot t < 2 ^ 31) : fX4_weightFrom v (nI b) = lN (wfN w tot ne b) := by
  have h32 := pow5 hne
  have key : ∀ (k i a n : Nat), i + k = 2 ^ ne → k < n → fX4_weightFrom_c5 v (nI b) n (nI i) (lN a) = lN (wfL w tot b k i a) := by
    intro k
    induction k with
    | zero =>
      intro i a n h1 h2
      obtain ⟨m, rfl⟩ : ∃ m, n = m + 1 := ⟨n - 1, by omega⟩
      rw [fX4_weightFrom_c5, allM hne ve, if_pos (nI_lt (by omega) (by omega)), wfL]
    | succ k ih =>
      intro i a n h1 h2
      obtain ⟨m, rfl⟩ : ∃ m, n = m + 1 := ⟨n - 1, by omega⟩
      obtain ⟨t1, t2⟩ := ht i (by omega)
      rw [fX4_weightFrom_c5, allM hne ve, if_neg (nI_nlt (by omega) (by omega)), nI_1, t1, wfL, hw i (by omega), lN_add, show (lN a + (0 : Int64)) = lN a from lN_add a 0]
      by_cases q : tot i < b
      · rw [if_pos (nI_lt q hb), if_pos q]
        exact ih (i + 1) _ m (by omega) (by omega)
      · rw [if_neg (nI_nlt (by omega) t2), if_neg q]
        exact ih (i + 1) _ m (by omega) (by omega)
  exact key (2 ^ ne) 0 0 34 (by omega) (by omega)
theorem wallN {ne : Nat} (h : ne ≤ 5) : 1 ≤ 10 ^ ne ∧ 10 ^ ne ≤ 100000 := ⟨Nat.one_le_pow _ _ (by omega), Nat.pow_le_pow_right (n := 10) (by omega) h⟩
