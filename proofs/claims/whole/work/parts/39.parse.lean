theorem dig_in (c : Int32) {M : Int32} {m : Nat} (hM : M.toInt = (m : Int)) (hm : m ≤ 9) : fX4_in (c - 48).toInt64 0 M.toInt64 = fX3_isDigit c M := by
  have h1 := Int32.toInt_lt c
  have h2 := Int32.le_toInt c
  have e : (c - 48).toInt = (c.toInt - 48).bmod (2 ^ 32) := Int32.toInt_sub c 48
  have hb : (c.toInt - 48).bmod (2 ^ 32) = c.toInt - 48 ∨ ((c.toInt - 48).bmod (2 ^ 32) = c.toInt - 48 + 2 ^ 32 ∧ c.toInt < -1000) := by
    unfold Int.bmod
    dsimp only
    split <;> omega
  have e48 : (48 : Int32).toInt = 48 := by decide
  have es : (48 + M).toInt = 48 + (m : Int) := by
    rw [Int32.toInt_add, e48, hM]
    exact Int.bmod_eq_of_le (by omega) (by omega)
  have hX : fX3_isDigit c M = if 48 ≤ c.toInt ∧ c.toInt ≤ 48 + (m : Int) then 1 else 0 := by
    rw [fX3_isDigit]
    by_cases q1 : c < 48
    · have := Int32.lt_iff_toInt_lt.mp q1
      rw [e48] at this
      rw [if_pos q1, if_neg (by omega)]
    · have q1' : ¬ c.toInt < 48 := fun z => q1 (Int32.lt_iff_toInt_lt.mpr (by rw [e48]; exact z))
      rw [if_neg q1]
      by_cases q2 : 48 + M < c
      · have := Int32.lt_iff_toInt_lt.mp q2
        rw [es] at this
        rw [if_pos q2, if_neg (by omega)]
      · have q2' : ¬ 48 + (m : Int) < c.toInt := fun z => q2 (Int32.lt_iff_toInt_lt.mpr (by rw [es]; exact z))
        rw [if_neg q2, if_pos (by omega)]
  have hMM : (¬ fX4_in (c - 48).toInt64 0 M.toInt64 = 0) ↔ (0 ≤ (c - 48).toInt ∧ (c - 48).toInt ≤ (m : Int)) := by
    have := in_spec (c - 48).toInt64 0 M.toInt64
    rw [Int32.toInt_toInt64, Int32.toInt_toInt64, hM] at this
    exact this
  have hor : fX4_in (c - 48).toInt64 0 M.toInt64 = 0 ∨ fX4_in (c - 48).toInt64 0 M.toInt64 = 1 := by
    unfold fX4_in
    split
    · exact Or.inl rfl
    · split
      · exact Or.inl rfl
      · exact Or.inr rfl
  rw [hX]
  by_cases q : 48 ≤ c.toInt ∧ c.toInt ≤ 48 + (m : Int)
  · rw [if_pos q]
    rcases hor with h | h
    · exfalso
      refine hMM.mpr ?_ h
      rw [e]
      rcases hb with hb | ⟨hb, hn⟩
      · rw [hb]; omega
      · omega
    · exact h
  · rw [if_neg q]
    rcases hor with h | h
    · exact h
    · exfalso
      have h3 := hMM.mp (by rw [h]; decide)
      rw [e] at h3
      rcases hb with hb | ⟨hb, hn⟩
      · rw [hb] at h3; omega
      · rw [hb] at h3; omega
theorem dig_01 (c M : Int32) : fX3_isDigit c M = 0 ∨ fX3_isDigit c M = 1 := by
  rw [fX3_isDigit]
  split
  · exact Or.inl rfl
  · split
    · exact Or.inl rfl
    · exact Or.inr rfl
theorem dig_ex {c M : Int32} {m : Nat} (hM : M.toInt = (m : Int)) (hm : m ≤ 9) (h : fX3_isDigit c M = 1) : ∃ d : Nat, d ≤ m ∧ c = nI (48 + d) ∧ c - 48 = nI d := by
  have e48 : (48 : Int32).toInt = 48 := by decide
  have es : (48 + M).toInt = 48 + (m : Int) := by
    rw [Int32.toInt_add, e48, hM]
    exact Int.bmod_eq_of_le (by omega) (by omega)
  rw [fX3_isDigit] at h
  by_cases q1 : c < 48
  · rw [if_pos q1] at h; exact absurd h (by decide)
  · have q1' : ¬ c.toInt < 48 := fun z => q1 (Int32.lt_iff_toInt_lt.mpr (by rw [e48]; exact z))
    rw [if_neg q1] at h
    by_cases q2 : 48 + M < c
    · rw [if_pos q2] at h; exact absurd h (by decide)
    · have q2' : ¬ 48 + (m : Int) < c.toInt := fun z => q2 (Int32.lt_iff_toInt_lt.mpr (by rw [es]; exact z))
      obtain ⟨j, e1, e2, -⟩ := int_ex (show 0 ≤ c.toInt by omega)
      refine ⟨j - 48, by omega, by rw [e1]; congr 1; omega, ?_⟩
      rw [e1]
      exact pk_sub (b := 48) (by omega)
theorem mset_self {u : Mem} {j i : Nat} : mset u j i (u j i) = u := by
  funext a b
  by_cases h : a = j ∧ b = i
  · obtain ⟨rfl, rfl⟩ := h
    rw [mset_at]
  · simp [mset, h]
theorem mset_oo {u : Mem} {j i : Nat} {x : Int32} {a b : Nat} (h : ¬ (a = j ∧ b = i)) : mset u j i x a b = u a b := by simp [mset, h]
def PosOk (w : Mem) (a b r : Nat) : Prop := w 0 7 = nI r ∧ r ≤ b ∧ b ≤ 60 ∧ a + b ≤ 240
theorem code_at {w : Mem} {a b r : Nat} (h : PosOk w a b r) : fX4_codeAt w (nI a) (nI b) = if b ≤ r then -9 else w 14 (a + r) := by
  obtain ⟨h1, h2, h3, h4⟩ := h
  rw [fX4_codeAt, h1]
  by_cases q : b ≤ r
  · rw [if_pos (nI_le q (by omega)), if_pos q]
  · rw [if_neg (nI_ge (by omega) (by omega)), if_neg q, nI_add, nI_clamp (by omega)]
theorem fig_step {w : Mem} {a b r m : Nat} {M : Int32} (h : PosOk w a b r) (hM : M.toInt = (m : Int)) (hm : m ≤ 9) :
    (r < b ∧ fX3_isDigit (w 14 (a + r)) M = 1 ∧ fX4_figure w (nI a) (nI b) M = (w 14 (a + r) - 48, mset w 0 7 (nI (r + 1)))) ∨ (¬ (r < b ∧ fX3_isDigit (w 14 (a + r)) M = 1) ∧ fX4_figure w (nI a) (nI b) M = (-9, w)) := by
  have hc := code_at h
  obtain ⟨h1, h2, h3, h4⟩ := h
  rw [fX4_figure, hc, h1]
  have e0 : mset w 0 7 (nI r + 0) = w := by
    rw [Int32.add_zero, ← h1]
    exact mset_self
  by_cases q : b ≤ r
  · rw [if_pos q, dig_in (-9) hM hm]
    have : fX3_isDigit (-9) M = 0 := by
      rw [fX3_isDigit, if_pos (by decide)]
    rw [this, if_pos rfl, if_pos rfl, e0]
    exact Or.inr ⟨fun z => by omega, rfl⟩
  · rw [if_neg q, dig_in _ hM hm]
    rcases dig_01 (w 14 (a + r)) M with z | z
    · rw [z, if_pos rfl, if_pos rfl, e0]
      exact Or.inr ⟨fun y => absurd y.2 (by decide), rfl⟩
    · rw [z, if_neg (by decide), if_neg (by decide), nI_1]
      exact Or.inl ⟨by omega, z ▸ rfl, rfl⟩
theorem re_spec {w : Mem} {a b r e : Nat} (h : PosOk w a b r) (he : w 0 8 = nI e) (h5 : e < 5) :
    (¬ (r < b ∧ w 14 (a + r) = 47) ∧ fX4_readsEvent w (nI a) (nI b) = (0, w)) ∨
    ((r < b ∧ w 14 (a + r) = 47) ∧ ¬ (r + 1 < b ∧ fX3_isDigit (w 14 (a + (r + 1))) 9 = 1) ∧ fX4_readsEvent w (nI a) (nI b) = (0, mset w 0 7 (nI (r + 1)))) ∨
    ((r < b ∧ w 14 (a + r) = 47) ∧ (r + 1 < b ∧ fX3_isDigit (w 14 (a + (r + 1))) 9 = 1) ∧ ∃ W, fX4_readsEvent w (nI a) (nI b) = (1, W) ∧ W 0 7 = nI (r + 2) ∧ W 0 8 = nI (e + 1) ∧ W 5 e = w 14 (a + (r + 1)) - 48 ∧ ∀ x y, ¬ (x = 0 ∧ (y = 7 ∨ y = 8)) → ¬ (x = 5 ∧ y = e) → W x y = w x y) := by
  have hc := code_at h
  have h0 := h
  obtain ⟨h1, h2, h3, h4⟩ := h
  rw [fX4_readsEvent, he, if_neg (show ¬ nI e = 5 from fun z => by have := (nI_eq (a := e) (b := 5) (by omega) (by omega)).mp z; omega), hc, h1, nI_1]
  by_cases q : b ≤ r
  · rw [if_pos q, if_neg (by decide)]
    exact Or.inl ⟨fun z => by omega, rfl⟩
  rw [if_neg q]
  by_cases q2 : w 14 (a + r) = 47
  · rw [if_pos q2]
    have hP : PosOk (mset w 0 7 (nI (r + 1))) a b (r + 1) := ⟨mset_at, by omega, h3, h4⟩
    have e14 : (mset w 0 7 (nI (r + 1))) 14 (a + (r + 1)) = w 14 (a + (r + 1)) := by rw [mset_ne (by decide)]
    rcases fig_step (m := 9) (M := 9) hP (by decide) (by omega) with ⟨f1, f2, f3⟩ | ⟨f1, f2⟩
    · rw [e14] at f2 f3
      obtain ⟨d, hd, ed, ed2⟩ := dig_ex (m := 9) (by decide) (by omega) f2
      rw [f3, fX4_readsEvent_c39]
      dsimp only
      rw [ed2, if_pos (nI_pos' (by omega))]
      have g8 : mset (mset w 0 7 (nI (r + 1))) 0 7 (nI (r + 1 + 1)) 0 8 = nI e := by
        rw [mset_nei (by decide), mset_nei (by decide), he]
      rw [g8, nI_clamp (by omega), mset_ne (show (0 : Nat) ≠ 5 by decide), g8, nI_1]
      refine Or.inr (Or.inr ⟨⟨by omega, q2⟩, ⟨f1, f2⟩, _, rfl, ?_, mset_at, ?_, ?_⟩)
      · rw [mset_nei (by decide), mset_ne (show (0 : Nat) ≠ 5 by decide), mset_at]
      · rw [mset_ne (show (5 : Nat) ≠ 0 by decide), mset_at]
      · intro x y z1 z2
        rw [mset_oo (by omega), mset_oo z2, mset_oo (by omega), mset_oo (by omega)]
    · rw [e14] at f1
      rw [f2, fX4_readsEvent_c39]
      dsimp only
      rw [if_neg (by decide)]
      exact Or.inr (Or.inl ⟨⟨by omega, q2⟩, f1, rfl⟩)
  · rw [if_neg q2]
    exact Or.inl ⟨fun z => q2 z.2, rfl⟩
theorem re_full {w : Mem} {f n : Int32} (he : w 0 8 = 5) : fX4_readsEvent w f n = (0, w) := by
  rw [fX4_readsEvent, if_pos he]
def isTone (c : Int32) : Prop := c = 109 ∨ c = 115 ∨ c = 108
/-- the j-th cell of a prophet that begins at r fits -/
def FitM (w : Mem) (a b r j : Nat) : Prop := r + j < b ∧ (if j = 0 then w 14 (a + (r + 0)) = 59 else if j = 1 then isTone (w 14 (a + (r + 1))) else if j = 2 then fX3_isDigit (w 14 (a + (r + 2))) 9 = 1 else if j = 3 then fX3_isDigit (w 14 (a + (r + 3))) 3 = 1 else if w 14 (a + (r + 3)) = 51 then fX3_isDigit (w 14 (a + (r + 4))) 1 = 1 else fX3_isDigit (w 14 (a + (r + 4))) 9 = 1)
def toneM (c : Int32) : Int32 := if c = 109 then 0 else if c = 115 then 1 else 2
theorem rp_125 {v w : Mem} {f n c x4 x5 : Int32} {k d : Nat} (hk : w 0 9 = nI k) (h4 : k < 4) (hd : d < 10) : ∃ W, fX4_readsProphet_c125 v f n w c x4 x5 (nI d) = (1, W) ∧ W 0 7 = w 0 7 ∧ W 0 9 = nI (k + 1) ∧ W 6 k = toneM c ∧ W 7 k = x4 ∧ W 8 k = 10 * x5 + nI d ∧ ∀ x y, ¬ (x = 0 ∧ (y = 7 ∨ y = 9)) → ¬ (6 ≤ x ∧ x ≤ 8 ∧ y = k) → W x y = w x y := by
  have key : ∀ t : Int32, ∃ W, ((1 : Int32), (mset (mset (mset (mset w 6 (w 0 9).toNatClampNeg t) 7 ((mset w 6 (w 0 9).toNatClampNeg t) 0 9).toNatClampNeg x4) 8 ((mset (mset w 6 (w 0 9).toNatClampNeg t) 7 ((mset w 6 (w 0 9).toNatClampNeg t) 0 9).toNatClampNeg x4) 0 9).toNatClampNeg ((10 * x5) + nI d)) 0 9 (((mset (mset (mset w 6 (w 0 9).toNatClampNeg t) 7 ((mset w 6 (w 0 9).toNatClampNeg t) 0 9).toNatClampNeg x4) 8 ((mset (mset w 6 (w 0 9).toNatClampNeg t) 7 ((mset w 6 (w 0 9).toNatClampNeg t) 0 9).toNatClampNeg x4) 0 9).toNatClampNeg ((10 * x5) + nI d)) 0 9) + 1))) = (1, W) ∧ W 0 7 = w 0 7 ∧ W 0 9 = nI (k + 1) ∧ W 6 k = t ∧ W 7 k = x4 ∧ W 8 k = 10 * x5 + nI d ∧ ∀ x y, ¬ (x = 0 ∧ (y = 7 ∨ y = 9)) → ¬ (6 ≤ x ∧ x ≤ 8 ∧ y = k) → W x y = w x y := by
    intro t
    simp only [mset_ne (show (0 : Nat) ≠ 6 by decide), mset_ne (show (0 : Nat) ≠ 7 by decide), mset_ne (show (0 : Nat) ≠ 8 by decide), hk, nI_clamp (show k < 2 ^ 31 by omega), nI_1]
    refine ⟨_, rfl, ?_, mset_at, ?_, ?_, ?_, fun x y z1 z2 => ?_⟩
    · rw [mset_nei (by decide), mset_ne (by decide), mset_ne (by decide), mset_ne (by decide)]
    · rw [mset_ne (by decide), mset_ne (by decide), mset_ne (by decide), mset_at]
    · rw [mset_ne (by decide), mset_ne (by decide), mset_at]
    · rw [mset_ne (by decide), mset_at]
    · rw [mset_oo (by omega), mset_oo (by omega), mset_oo (by omega), mset_oo (by omega)]
  rw [fX4_readsProphet_c125, if_pos (nI_pos' (by omega)), toneM]
  by_cases c1 : c = 109
  · rw [if_pos c1, if_pos c1]
    exact key 0
  · rw [if_neg c1, if_neg c1]
    by_cases c2 : c = 115
    · rw [if_pos c2, if_pos c2]
      exact key 1
    · rw [if_neg c2, if_neg c2]
      exact key 2
theorem rp_spec {w : Mem} {a b r k : Nat} (h : PosOk w a b r) (hk : w 0 9 = nI k) (h4 : k < 4) :
    (∃ j, j < 5 ∧ (∀ i, i < j → FitM w a b r i) ∧ ¬ FitM w a b r j ∧ ∃ W, fX4_readsProphet w (nI a) (nI b) = (0, W) ∧ W 0 7 = nI (r + j) ∧ ∀ x y, ¬ (x = 0 ∧ y = 7) → W x y = w x y) ∨
    ((∀ i, i < 5 → FitM w a b r i) ∧ ∃ W, fX4_readsProphet w (nI a) (nI b) = (1, W) ∧ W 0 7 = nI (r + 5) ∧ W 0 9 = nI (k + 1) ∧ W 6 k = toneM (w 14 (a + (r + 1))) ∧ W 7 k = w 14 (a + (r + 2)) - 48 ∧ W 8 k = 10 * (w 14 (a + (r + 3)) - 48) + (w 14 (a + (r + 4)) - 48) ∧ ∀ x y, ¬ (x = 0 ∧ (y = 7 ∨ y = 9)) → ¬ (6 ≤ x ∧ x ≤ 8 ∧ y = k) → W x y = w x y) := by
  have hc := code_at h
  obtain ⟨h1, h2, h3, h4'⟩ := h
  rw [fX4_readsProphet, hk, if_neg (show ¬ nI k = 4 from fun z => by have := (nI_eq (a := k) (b := 4) (by omega) (by omega)).mp z; omega), hc, h1, nI_1]
  by_cases q0 : r < b ∧ w 14 (a + r) = 59
  · rw [if_neg (show ¬ b ≤ r by omega), if_pos q0.2]
    have f0 : FitM w a b r 0 := by
      unfold FitM
      rw [if_pos rfl]
      exact ⟨q0.1, q0.2⟩
    have hP1 : PosOk (mset w 0 7 (nI (r + 1))) a b (r + 1) := ⟨mset_at, by omega, h3, h4'⟩
    rw [code_at hP1, mset_at, nI_1, mset_ne (show (14 : Nat) ≠ 0 by decide)]
    by_cases q1 : r + 1 < b ∧ isTone (w 14 (a + (r + 1)))
    · rw [if_neg (show ¬ b ≤ r + 1 by omega)]
      have f1 : FitM w a b r 1 := by
        unfold FitM
        rw [if_neg (by decide), if_pos rfl]
        exact q1
      -- to the figures
      have hgo : ∀ X : Int32 × Mem, fX4_readsProphet_c76 w (nI a) (nI b) ((fX4_figure (mset (mset w 0 7 (nI (r + 1))) 0 7 (nI (r + 1 + 1))) (nI a) (nI b) 9).2) (w 14 (a + (r + 1))) ((fX4_figure (mset (mset w 0 7 (nI (r + 1))) 0 7 (nI (r + 1 + 1))) (nI a) (nI b) 9).1) = X → (if w 14 (a + (r + 1)) = 109 then fX4_readsProphet_c76 w (nI a) (nI b) ((fX4_figure (mset (mset w 0 7 (nI (r + 1))) 0 7 (nI (r + 1 + 1))) (nI a) (nI b) 9).2) (w 14 (a + (r + 1))) ((fX4_figure (mset (mset w 0 7 (nI (r + 1))) 0 7 (nI (r + 1 + 1))) (nI a) (nI b) 9).1) else if w 14 (a + (r + 1)) = 115 then fX4_readsProphet_c76 w (nI a) (nI b) ((fX4_figure (mset (mset w 0 7 (nI (r + 1))) 0 7 (nI (r + 1 + 1))) (nI a) (nI b) 9).2) (w 14 (a + (r + 1))) ((fX4_figure (mset (mset w 0 7 (nI (r + 1))) 0 7 (nI (r + 1 + 1))) (nI a) (nI b) 9).1) else if w 14 (a + (r + 1)) = 108 then fX4_readsProphet_c76 w (nI a) (nI b) ((fX4_figure (mset (mset w 0 7 (nI (r + 1))) 0 7 (nI (r + 1 + 1))) (nI a) (nI b) 9).2) (w 14 (a + (r + 1))) ((fX4_figure (mset (mset w 0 7 (nI (r + 1))) 0 7 (nI (r + 1 + 1))) (nI a) (nI b) 9).1) else (0, mset w 0 7 (nI (r + 1)))) = X := by
        intro X hX
        rcases q1.2 with z | z | z
        · rw [if_pos z]; exact hX
        · rw [if_neg (by rw [z]; decide), if_pos z]; exact hX
        · rw [if_neg (by rw [z]; decide), if_neg (by rw [z]; decide), if_pos z]; exact hX
      rw [hgo _ rfl]
      have ew : ∀ x y, ¬ (x = 0 ∧ y = 7) → mset (mset w 0 7 (nI (r + 1))) 0 7 (nI (r + 1 + 1)) x y = w x y := fun x y z => by rw [mset_oo z, mset_oo z]
      have hP2 : PosOk (mset (mset w 0 7 (nI (r + 1))) 0 7 (nI (r + 1 + 1))) a b (r + 2) := ⟨mset_at, by omega, h3, h4'⟩
      generalize mset (mset w 0 7 (nI (r + 1))) 0 7 (nI (r + 1 + 1)) = w2 at ew hP2 ⊢
      rw [fX4_readsProphet_c76]
      rcases fig_step (m := 9) (M := 9) hP2 (by decide) (by omega) with ⟨g1, g2, g3⟩ | ⟨g1, g2⟩
      · rw [ew 14 _ (by omega)] at g2 g3
        have f2 : FitM w a b r 2 := by
          unfold FitM
          rw [if_neg (by decide), if_neg (by decide), if_pos rfl]
          exact ⟨g1, g2⟩
        obtain ⟨d2, hd2, -, ed2⟩ := dig_ex (m := 9) (by decide) (by omega) g2
        rw [g3]
        dsimp only
        rw [ed2, if_pos (nI_pos' (by omega))]
        have ew3 : ∀ x y, ¬ (x = 0 ∧ y = 7) → mset w2 0 7 (nI (r + 2 + 1)) x y = w x y := fun x y z => by rw [mset_oo z]; exact ew x y z
        have hP3 : PosOk (mset w2 0 7 (nI (r + 2 + 1))) a b (r + 3) := ⟨mset_at, by omega, h3, h4'⟩
        generalize mset w2 0 7 (nI (r + 2 + 1)) = w3 at ew3 hP3 ⊢
        rw [fX4_readsProphet_c95]
        rcases fig_step (m := 3) (M := 3) hP3 (by decide) (by omega) with ⟨g4, g5, g6⟩ | ⟨g4, g5⟩
        · rw [ew3 14 _ (by omega)] at g5 g6
          have f3 : FitM w a b r 3 := by
            unfold FitM
            rw [if_neg (by decide), if_neg (by decide), if_neg (by decide), if_pos rfl]
            exact ⟨g4, g5⟩
          obtain ⟨d3, hd3, ec3, ed3⟩ := dig_ex (m := 3) (by decide) (by omega) g5
          rw [g6]
          dsimp only
          rw [ed3, if_pos (nI_pos' (by omega))]
          have ew4 : ∀ x y, ¬ (x = 0 ∧ y = 7) → mset w3 0 7 (nI (r + 3 + 1)) x y = w x y := fun x y z => by rw [mset_oo z]; exact ew3 x y z
          have hP4 : PosOk (mset w3 0 7 (nI (r + 3 + 1))) a b (r + 4) := ⟨mset_at, by omega, h3, h4'⟩
          generalize mset w3 0 7 (nI (r + 3 + 1)) = w4 at ew4 hP4 ⊢
          have h51 : nI d3 = 3 ↔ w 14 (a + (r + 3)) = 51 := by
            rw [ec3]
            refine ⟨fun z => ?_, fun z => ?_⟩
            · have : d3 = 3 := (nI_eq (b := 3) (by omega) (by omega)).mp z
              subst this; rfl
            · have : 48 + d3 = 51 := (nI_eq (b := 51) (by omega) (by omega)).mp z
              have : d3 = 3 := by omega
              subst this; rfl
          -- the last figure
          have hlast : ∀ (M : Int32) (m : Nat), M.toInt = (m : Int) → m ≤ 9 → (FitM w a b r 4 ↔ (r + 4 < b ∧ fX3_isDigit (w 14 (a + (r + 4))) M = 1)) →
              (∃ j, j < 5 ∧ (∀ i, i < j → FitM w a b r i) ∧ ¬ FitM w a b r j ∧ ∃ W, fX4_readsProphet_c125 w (nI a) (nI b) ((fX4_figure w4 (nI a) (nI b) M).2) (w 14 (a + (r + 1))) (nI d2) (nI d3) ((fX4_figure w4 (nI a) (nI b) M).1) = (0, W) ∧ W 0 7 = nI (r + j) ∧ ∀ x y, ¬ (x = 0 ∧ y = 7) → W x y = w x y) ∨
              ((∀ i, i < 5 → FitM w a b r i) ∧ ∃ W, fX4_readsProphet_c125 w (nI a) (nI b) ((fX4_figure w4 (nI a) (nI b) M).2) (w 14 (a + (r + 1))) (nI d2) (nI d3) ((fX4_figure w4 (nI a) (nI b) M).1) = (1, W) ∧ W 0 7 = nI (r + 5) ∧ W 0 9 = nI (k + 1) ∧ W 6 k = toneM (w 14 (a + (r + 1))) ∧ W 7 k = nI d2 ∧ W 8 k = 10 * nI d3 + (w 14 (a + (r + 4)) - 48) ∧ ∀ x y, ¬ (x = 0 ∧ (y = 7 ∨ y = 9)) → ¬ (6 ≤ x ∧ x ≤ 8 ∧ y = k) → W x y = w x y) := by
            intro M m hM hm hf
            rcases fig_step hP4 hM hm with ⟨g7, g8, g9⟩ | ⟨g7, g8⟩
            · rw [ew4 14 _ (by omega)] at g8 g9
              obtain ⟨d4, hd4, -, ed4⟩ := dig_ex hM hm g8
              have f4 := hf.mpr ⟨g7, g8⟩
              rw [g9]
              dsimp only
              obtain ⟨W, W1, W2, W3, W4, W5, W6, W7⟩ := rp_125 (v := w) (w := mset w4 0 7 (nI (r + 4 + 1))) (f := nI a) (n := nI b) (c := w 14 (a + (r + 1))) (x4 := nI d2) (x5 := nI d3) (d := d4) (k := k) (by rw [mset_nei (by decide), ew4 0 9 (by omega), hk]) h4 (by omega)
              rw [ed4, W1]
              refine Or.inr ⟨fun i hi => ?_, W, rfl, by rw [W2, mset_at], W3, W4, W5, W6, fun x y z1 z2 => by rw [W7 x y z1 z2, mset_oo (by omega), ew4 x y (by omega)]⟩
              rcases (show i = 0 ∨ i = 1 ∨ i = 2 ∨ i = 3 ∨ i = 4 by omega) with rfl | rfl | rfl | rfl | rfl
              · exact f0
              · exact f1
              · exact f2
              · exact f3
              · exact f4
            · rw [ew4 14 _ (by omega)] at g7
              rw [g8, fX4_readsProphet_c125]
              dsimp only
              rw [if_neg (by decide)]
              refine Or.inl ⟨4, by omega, fun i hi => ?_, fun z => g7 (hf.mp z), w4, rfl, hP4.1, ew4⟩
              rcases (show i = 0 ∨ i = 1 ∨ i = 2 ∨ i = 3 by omega) with rfl | rfl | rfl | rfl
              · exact f0
              · exact f1
              · exact f2
              · exact f3
          by_cases z : nI d3 = 3
          · rw [if_pos z]
            refine hlast 1 1 (by decide) (by omega) ?_
            unfold FitM
            rw [if_neg (by decide), if_neg (by decide), if_neg (by decide), if_neg (by decide), if_pos (h51.mp z)]
          · rw [if_neg z]
            refine hlast 9 9 (by decide) (by omega) ?_
            unfold FitM
            rw [if_neg (by decide), if_neg (by decide), if_neg (by decide), if_neg (by decide), if_neg (fun y => z (h51.mpr y))]
        · rw [ew3 14 _ (by omega)] at g4
          rw [g5]
          dsimp only
          rw [if_neg (by decide), fX4_readsProphet_c125, if_neg (by decide)]
          refine Or.inl ⟨3, by omega, fun i hi => ?_, fun z => ?_, w3, rfl, hP3.1, ew3⟩
          · rcases (show i = 0 ∨ i = 1 ∨ i = 2 by omega) with rfl | rfl | rfl
            · exact f0
            · exact f1
            · exact f2
          · unfold FitM at z
            rw [if_neg (by decide), if_neg (by decide), if_neg (by decide), if_pos rfl] at z
            exact g4 z
      · rw [ew 14 _ (by omega)] at g1
        rw [g2]
        dsimp only
        rw [if_neg (by decide), fX4_readsProphet_c95, if_neg (by decide), fX4_readsProphet_c125, if_neg (by decide)]
        refine Or.inl ⟨2, by omega, fun i hi => ?_, fun z => ?_, w2, rfl, hP2.1, ew⟩
        · rcases (show i = 0 ∨ i = 1 by omega) with rfl | rfl
          · exact f0
          · exact f1
        · unfold FitM at z
          rw [if_neg (by decide), if_neg (by decide), if_pos rfl] at z
          exact g1 z
    · have hW : (if (if b ≤ r + 1 then (-9 : Int32) else w 14 (a + (r + 1))) = 109 then fX4_readsProphet_c76 w (nI a) (nI b) ((fX4_figure (mset (mset w 0 7 (nI (r + 1))) 0 7 (nI (r + 1 + 1))) (nI a) (nI b) 9).2) (if b ≤ r + 1 then (-9 : Int32) else w 14 (a + (r + 1))) ((fX4_figure (mset (mset w 0 7 (nI (r + 1))) 0 7 (nI (r + 1 + 1))) (nI a) (nI b) 9).1) else if (if b ≤ r + 1 then (-9 : Int32) else w 14 (a + (r + 1))) = 115 then fX4_readsProphet_c76 w (nI a) (nI b) ((fX4_figure (mset (mset w 0 7 (nI (r + 1))) 0 7 (nI (r + 1 + 1))) (nI a) (nI b) 9).2) (if b ≤ r + 1 then (-9 : Int32) else w 14 (a + (r + 1))) ((fX4_figure (mset (mset w 0 7 (nI (r + 1))) 0 7 (nI (r + 1 + 1))) (nI a) (nI b) 9).1) else if (if b ≤ r + 1 then (-9 : Int32) else w 14 (a + (r + 1))) = 108 then fX4_readsProphet_c76 w (nI a) (nI b) ((fX4_figure (mset (mset w 0 7 (nI (r + 1))) 0 7 (nI (r + 1 + 1))) (nI a) (nI b) 9).2) (if b ≤ r + 1 then (-9 : Int32) else w 14 (a + (r + 1))) ((fX4_figure (mset (mset w 0 7 (nI (r + 1))) 0 7 (nI (r + 1 + 1))) (nI a) (nI b) 9).1) else (0, mset w 0 7 (nI (r + 1)))) = (0, mset w 0 7 (nI (r + 1))) := by
        by_cases y : b ≤ r + 1
        · rw [if_pos y, if_neg (by decide), if_neg (by decide), if_neg (by decide)]
        · rw [if_neg y]
          have hn : ¬ isTone (w 14 (a + (r + 1))) := fun z => q1 ⟨by omega, z⟩
          rw [if_neg (fun z => hn (Or.inl z)), if_neg (fun z => hn (Or.inr (Or.inl z))), if_neg (fun z => hn (Or.inr (Or.inr z)))]
      rw [hW]
      refine Or.inl ⟨1, by omega, fun i hi => ?_, fun z => ?_, _, rfl, mset_at, fun x y z => mset_oo z⟩
      · have : i = 0 := by omega
        subst this
        exact f0
      · unfold FitM at z
        rw [if_neg (by decide), if_pos rfl] at z
        exact q1 z
  · have hW : ¬ (if b ≤ r then (-9 : Int32) else w 14 (a + r)) = 59 := by
      by_cases y : b ≤ r
      · rw [if_pos y]; decide
      · rw [if_neg y]; exact fun z => q0 ⟨by omega, z⟩
    rw [if_neg hW]
    refine Or.inl ⟨0, by omega, fun i hi => by omega, fun z => ?_, w, rfl, h1, fun x y z => rfl⟩
    unfold FitM at z
    rw [if_pos rfl] at z
    exact q0 z
