theorem parse_both {U v : Mem} {kk a s L : Nat} (hs : s + L ≤ 60) (ha : a + L ≤ 240) (hc : ∀ i, i < L → U (10 + kk) (s + i) = v 14 (a + i)) :
    (∃ f, f ≤ L ∧ fX3_firstFaultPlace U kk (nI s) (nI (s + L)) = nI (s + f) ∧ ∃ W, fX4_readsOffice v (nI a) (nI L) = (0, W) ∧ W 0 7 = nI f ∧ KeepP v W) ∨
    (∃ e k, (1 ≤ e ∧ e ≤ 5) ∧ (1 ≤ k ∧ k ≤ 4) ∧ 1 + 2 * e + 5 * k = L ∧ fX3_firstFaultPlace U kk (nI s) (nI (s + L)) = -9 ∧ fX3_behindEvents U kk (nI s) (nI (s + L)) = nI (s + (1 + 2 * e)) ∧ ∃ W, fX4_readsOffice v (nI a) (nI L) = (1, W) ∧ PrSt v W a L e k) := by
  have g7 : (mset (mset (mset v 0 7 0) 0 8 0) 0 9 0) 0 7 = nI 0 := by rw [mset_nei (by decide), mset_nei (by decide), mset_at, nI_0]
  have g8 : (mset (mset (mset v 0 7 0) 0 8 0) 0 9 0) 0 8 = nI 0 := by rw [mset_nei (by decide), mset_at, nI_0]
  have g9 : (mset (mset (mset v 0 7 0) 0 8 0) 0 9 0) 0 9 = nI 0 := by rw [mset_at, nI_0]
  have gk : KeepP v (mset (mset (mset v 0 7 0) 0 8 0) 0 9 0) := fun x y y1 y2 => by rw [mset_oo (by omega), mset_oo (by omega), mset_oo (by omega)]
  have hP : PosOk (mset (mset (mset v 0 7 0) 0 8 0) 0 9 0) a L 0 := ⟨g7, by omega, by omega, ha⟩
  have hco := code_at hP
  rw [fX4_readsOffice, hco]
  generalize (mset (mset (mset v 0 7 0) 0 8 0) 0 9 0) = w0 at g7 g8 g9 gk hP hco ⊢
  rw [g7]
  have hbad : fX4_readsOffice_c46 v (nI a) (nI L) w0 0 0 (nI 0) = (0, mset w0 0 7 (nI 0)) := by
    rw [fX4_readsOffice_c46, Int32.add_zero, fX4_readsOffice_c50, if_pos rfl, fX4_readsOffice_c82, if_pos rfl]
  have hbk : KeepP v (mset w0 0 7 (nI 0)) := fun x y y1 y2 => by rw [mset_oo (by omega)]; exact gk x y y1 y2
  by_cases q : L ≤ 0
  · rw [if_pos q, if_neg (by decide), hbad]
    refine Or.inl ⟨0, by omega, ?_, _, rfl, mset_at, hbk⟩
    rw [fX3_firstFaultPlace, if_pos (nI_le (by omega) (by omega))]
    rfl
  · rw [if_neg q]
    have hX : fX3_firstFaultPlace U kk (nI s) (nI (s + L)) = if w0 14 (a + 0) = 119 then fX3_firstFaultPlace_c22 U kk (nI s) (nI (s + L)) 6 0 (nI (s + (1 + 2 * 0))) else nI s := by
      rw [fX3_firstFaultPlace, if_neg (nI_ge (by omega) (by omega)), nI_clamp (by omega), keep14 gk, ← hc 0 (by omega), nI_1]
      rfl
    rw [hX]
    by_cases q2 : w0 14 (a + 0) = 119
    · rw [if_pos q2, if_pos q2, fX4_readsOffice_c46]
      have e1 : nI 0 + (1 : Int32) = nI 1 := nI_1 0
      rw [e1]
      have hS : EvSt v (mset w0 0 7 (nI 1)) a L 0 := by
        refine ⟨⟨mset_at, by omega, by omega, ha⟩, by rw [mset_nei (by decide)]; exact g8, by rw [mset_nei (by decide)]; exact g9, fun x y y1 y2 => by rw [mset_oo (by omega)]; exact gk x y y1 y2, fun i hi => by omega, fun i hi => by omega⟩
      rcases ev_both hs hc 6 8 0 _ (by omega) (by omega) (by omega) hS with ⟨f, f1, f2, W, f3, f4, f5⟩ | ⟨e, e1, e2, W, e3, e4, e5, e6⟩
      · exact Or.inl ⟨f, f1, f2, W, f3, f4, f5⟩
      · rw [nI_0] at e4 e6
        rw [e4, e5]
        obtain ⟨h1, h2, h3, h4, h5, h6⟩ := e3
        have hB : fX3_behindEvents U kk (nI s) (nI (s + L)) = nI (s + (1 + 2 * e)) := by
          rw [fX3_behindEvents, nI_1]
          exact e6
        have hpr := pr_both hs hc 5 7 0 W (by omega) (by omega) (by omega) ⟨h1, h2, h3, h4, h5, h6, fun i hi => by omega⟩
        rw [nI_0, Nat.mul_zero, Nat.add_zero] at hpr
        rcases hpr with ⟨f, f1, f2, W', f3, f4, f5⟩ | ⟨k, k1, k2, k3, k4, W', k5, k6⟩
        · exact Or.inl ⟨f, f1, f2, W', f3, f4, f5⟩
        · exact Or.inr ⟨e, k, ⟨e1, e2⟩, ⟨k1, k2⟩, k3, k4, hB, W', k5, k6⟩
    · rw [if_neg q2, if_neg q2, hbad]
      exact Or.inl ⟨0, by omega, rfl, _, rfl, mset_at, hbk⟩
/-- what the class takes: how many events and prophets so far -/
def TkSt (U w : Mem) (kk s r0 e k : Nat) : Prop := w 0 4 = nI e ∧ w 0 5 = nI k ∧ w 0 6 = 0 ∧ (∀ i, i < e → w 1 i = U (10 + kk) (s + (2 + 2 * i)) - 48) ∧ (∀ i, i < k → w 2 i = fX3_kindOf (U (10 + kk) (s + (r0 + 5 * i + 1))) ∧ w 3 i = U (10 + kk) (s + (r0 + 5 * i + 2)) - 48 ∧ w 4 i = 10 * (U (10 + kk) (s + (r0 + 5 * i + 3)) - 48) + U (10 + kk) (s + (r0 + 5 * i + 4)) - 48) ∧ ∀ x y, ¬ (1 ≤ x ∧ x ≤ 4) → ¬ (x = 0 ∧ 4 ≤ y ∧ y ≤ 6) → w x y = U x y
theorem take_ev {U : Mem} {kk s L e : Nat} (hs : s + L ≤ 60) (he : 1 + 2 * e ≤ L) (he5 : e ≤ 5) :
    ∀ (n i : Nat) (w : Mem), i ≤ e → e < i + n → TkSt U w kk s (1 + 2 * e) i 0 → ∃ w', fX3_takeOffice_c28 U kk (nI s) (nI (s + L)) n w (nI (s + (2 + 2 * i))) (nI (s + (1 + 2 * e))) = fX3_takeOffice_c79 U kk (nI s) (nI (s + L)) 5 w' (nI (s + (1 + 2 * e))) ∧ TkSt U w' kk s (1 + 2 * e) e 0 := by
  intro n
  induction n with
  | zero => intro i w h1 h2; omega
  | succ n ih =>
    intro i w h1 h2 hw
    have hw0 := hw
    obtain ⟨h4, h5, h6, hv, hp, hk⟩ := hw
    rw [fX3_takeOffice_c28]
    rcases Nat.lt_or_ge i e with q | q
    · rw [if_neg (nI_ge (by omega) (by omega)), h4, if_neg (show ¬ (5 : Int32) ≤ nI i from nI_ge (b := 5) (by omega) (by omega)), nI_clamp (show i < 2 ^ 31 by omega), nI_clamp (show s + (2 + 2 * i) < 2 ^ 31 by omega), mset_ne (show (0 : Nat) ≠ 1 by decide), h4, nI_1, show (2 : Int32) = nI 2 from rfl, nI_add, show s + (2 + 2 * i) + 2 = s + (2 + 2 * (i + 1)) by omega, hk (10 + kk) _ (by omega) (by omega)]
      refine ih (i + 1) _ q (by omega) ⟨mset_at, ?_, ?_, fun j hj => ?_, fun j hj => by omega, fun x y y1 y2 => ?_⟩
      · rw [mset_oo (by omega), mset_oo (by omega)]; exact h5
      · rw [mset_oo (by omega), mset_oo (by omega)]; exact h6
      · rw [mset_oo (by omega)]
        by_cases z : j = i
        · subst z
          rw [mset_at]
        · rw [mset_oo (by omega)]
          exact hv j (by omega)
      · rw [mset_oo (by omega), mset_oo (by omega)]
        exact hk x y y1 y2
    · have : i = e := by omega
      subst this
      rw [if_pos (nI_le (by omega) (by omega))]
      exact ⟨w, rfl, hw0⟩
theorem take_pr {U : Mem} {kk s L e K : Nat} (hs : s + L ≤ 60) (hK : K ≤ 4) (hL : 1 + 2 * e + 5 * K = L) :
    ∀ (n k : Nat) (w : Mem), k ≤ K → K < k + n → TkSt U w kk s (1 + 2 * e) e k → TkSt U (fX3_takeOffice_c79 U kk (nI s) (nI (s + L)) n w (nI (s + (1 + 2 * e + 5 * k)))) kk s (1 + 2 * e) e K := by
  intro n
  induction n with
  | zero => intro k w h1 h2; omega
  | succ n ih =>
    intro k w h1 h2 hw
    have hw0 := hw
    obtain ⟨h4, h5, h6, hv, hp, hk⟩ := hw
    rw [fX3_takeOffice_c79, show (5 : Int32) = nI 5 from rfl, show (4 : Int32) = nI 4 from rfl, show (3 : Int32) = nI 3 from rfl, show (2 : Int32) = nI 2 from rfl, nI_add, nI_add, nI_add, nI_add, nI_1]
    simp only [mset_ne (show (0 : Nat) ≠ 2 by decide), mset_ne (show (0 : Nat) ≠ 3 by decide), mset_ne (show (0 : Nat) ≠ 4 by decide), mset_ne (show 10 + kk ≠ 2 by omega), mset_ne (show 10 + kk ≠ 3 by omega), h5, nI_clamp (show k < 2 ^ 31 by omega)]
    rcases Nat.lt_or_ge k K with q | q
    · rw [if_neg (nI_nlt (by omega) (by omega)), if_neg (nI_ge (by omega) (by omega)), nI_clamp (by omega), nI_clamp (by omega), nI_clamp (by omega), nI_clamp (by omega), nI_1, show s + (1 + 2 * e + 5 * k) + 5 = s + (1 + 2 * e + 5 * (k + 1)) by omega]
      refine ih (k + 1) _ q (by omega) ⟨?_, mset_at, ?_, fun j hj => ?_, fun j hj => ?_, fun x y y1 y2 => ?_⟩
      · rw [mset_oo (by omega), mset_oo (by omega), mset_oo (by omega), mset_oo (by omega)]; exact h4
      · rw [mset_oo (by omega), mset_oo (by omega), mset_oo (by omega), mset_oo (by omega)]; exact h6
      · rw [mset_oo (by omega), mset_oo (by omega), mset_oo (by omega), mset_oo (by omega)]; exact hv j hj
      · by_cases z : j = k
        · subst z
          refine ⟨?_, ?_, ?_⟩
          · rw [mset_oo (by omega), mset_oo (by omega), mset_oo (by omega), mset_at, hk (10 + kk) _ (by omega) (by omega), Nat.add_assoc]
          · rw [mset_oo (by omega), mset_oo (by omega), mset_at, hk (10 + kk) _ (by omega) (by omega), Nat.add_assoc]
          · rw [mset_oo (by omega), mset_at, hk (10 + kk) _ (by omega) (by omega), hk (10 + kk) _ (by omega) (by omega), Nat.add_assoc, Nat.add_assoc]
            rfl
        · rw [mset_oo (by omega), mset_oo (by omega), mset_oo (by omega), mset_oo (by omega), mset_oo (by omega), mset_oo (by omega), mset_oo (by omega), mset_oo (by omega), mset_oo (by omega), mset_oo (by omega), mset_oo (by omega), mset_oo (by omega)]
          exact hp j (by omega)
      · rw [mset_oo (by omega), mset_oo (by omega), mset_oo (by omega), mset_oo (by omega)]
        exact hk x y y1 y2
    · have : k = K := by omega
      subst this
      rw [if_pos (nI_lt (by omega) (by omega))]
      exact hw0
theorem take_X {U : Mem} {kk s L e K : Nat} (hs : s + L ≤ 60) (he5 : e ≤ 5) (hK : K ≤ 4) (hL : 1 + 2 * e + 5 * K = L) (hB : fX3_behindEvents U kk (nI s) (nI (s + L)) = nI (s + (1 + 2 * e))) : TkSt U (fX3_takeOffice U kk (nI s) (nI (s + L))) kk s (1 + 2 * e) e K := by
  have h0 : TkSt U (mset (mset (mset U 0 6 0) 0 4 0) 0 5 0) kk s (1 + 2 * e) 0 0 := by
    refine ⟨?_, ?_, ?_, fun j hj => by omega, fun j hj => by omega, fun x y y1 y2 => ?_⟩
    · rw [mset_oo (by omega), mset_at, nI_0]
    · rw [mset_at, nI_0]
    · rw [mset_oo (by omega), mset_oo (by omega), mset_at]
    · rw [mset_oo (by omega), mset_oo (by omega), mset_oo (by omega)]
  obtain ⟨w', e1, e2⟩ := take_ev hs (by omega) he5 6 0 _ (by omega) (by omega) h0
  have h3 := take_pr hs hK hL 5 0 w' (by omega) (by omega) e2
  rw [fX3_takeOffice, hB, show (2 : Int32) = nI 2 from rfl, nI_add]
  rw [Nat.mul_zero, Nat.add_zero] at e1 h3
  rw [e1]
  exact h3
theorem cp_ev {v : Mem} {p0 p1 p2 p3 : Int32} {e : Nat} (he : e ≤ 5) :
    ∀ (n i : Nat) (w : Mem), i ≤ e → e < i + n → w 0 1 = nI e → (∀ j, j < i → w 1 j = w 5 j) → ∃ w', fX4_office_c98 v p0 p1 p2 p3 n w (nI i) = fX4_office_c130 v p0 p1 p2 p3 5 w' 0 ∧ (∀ j, j < e → w' 1 j = w 5 j) ∧ ∀ x y, x ≠ 1 → w' x y = w x y := by
  intro n
  induction n with
  | zero => intro i w h1 h2; omega
  | succ n ih =>
    intro i w h1 h2 h3 h4
    rw [fX4_office_c98, h3]
    rcases Nat.lt_or_ge i e with q | q
    · rw [if_neg (nI_ge q (by omega)), nI_clamp (by omega), nI_1]
      obtain ⟨w', e1, e2, e3⟩ := ih (i + 1) (mset w 1 i (w 5 i)) q (by omega) (by rw [mset_ne (by decide)]; exact h3) (fun j hj => by
        rw [mset_ne (show (5 : Nat) ≠ 1 by decide)]
        by_cases z : j = i
        · subst z; exact mset_at
        · rw [mset_nei z]; exact h4 j (by omega))
      exact ⟨w', e1, fun j hj => by rw [e2 j hj, mset_ne (by decide)], fun x y hx => by rw [e3 x y hx, mset_ne hx]⟩
    · have : i = e := by omega
      subst this
      rw [if_pos (nI_le (Nat.le_refl _) (by omega))]
      exact ⟨w, rfl, h4, fun x y _ => rfl⟩
theorem cp_pr {v : Mem} {p0 p1 p2 p3 : Int32} {k : Nat} (hk : k ≤ 4) :
    ∀ (n i : Nat) (w : Mem), i ≤ k → k < i + n → w 0 3 = nI k → (∀ j, j < i → w 2 j = w 6 j ∧ w 3 j = w 7 j ∧ w 4 j = w 8 j) → ∃ w', fX4_office_c130 v p0 p1 p2 p3 n w (nI i) = (nI k, mset (mset w' 0 18 0) 0 0 0) ∧ (∀ j, j < k → w' 2 j = w 6 j ∧ w' 3 j = w 7 j ∧ w' 4 j = w 8 j) ∧ ∀ x y, ¬ (2 ≤ x ∧ x ≤ 4) → w' x y = w x y := by
  intro n
  induction n with
  | zero => intro i w h1 h2; omega
  | succ n ih =>
    intro i w h1 h2 h3 h4
    rw [fX4_office_c130, h3]
    rcases Nat.lt_or_ge i k with q | q
    · rw [if_neg (nI_ge q (by omega)), nI_clamp (by omega), nI_1, mset_ne (show (7 : Nat) ≠ 2 by decide), mset_ne (show (8 : Nat) ≠ 3 by decide), mset_ne (show (8 : Nat) ≠ 2 by decide)]
      have ho : ∀ x y, ¬ (2 ≤ x ∧ x ≤ 4) → mset (mset (mset w 2 i (w 6 i)) 3 i (w 7 i)) 4 i (w 8 i) x y = w x y := fun x y h => by rw [mset_oo (by omega), mset_oo (by omega), mset_oo (by omega)]
      have hn : ∀ j, j < i + 1 → mset (mset (mset w 2 i (w 6 i)) 3 i (w 7 i)) 4 i (w 8 i) 2 j = w 6 j ∧ mset (mset (mset w 2 i (w 6 i)) 3 i (w 7 i)) 4 i (w 8 i) 3 j = w 7 j ∧ mset (mset (mset w 2 i (w 6 i)) 3 i (w 7 i)) 4 i (w 8 i) 4 j = w 8 j := by
        intro j hj
        by_cases z : j = i
        · subst z
          refine ⟨?_, ?_, mset_at⟩
          · rw [mset_oo (by omega), mset_oo (by omega), mset_at]
          · rw [mset_oo (by omega), mset_at]
        · rw [mset_oo (by omega), mset_oo (by omega), mset_oo (by omega), mset_oo (by omega), mset_oo (by omega), mset_oo (by omega), mset_oo (by omega), mset_oo (by omega), mset_oo (by omega)]
          exact h4 j (by omega)
      generalize mset (mset (mset w 2 i (w 6 i)) 3 i (w 7 i)) 4 i (w 8 i) = w2 at ho hn ⊢
      obtain ⟨w', e1, e2, e3⟩ := ih (i + 1) w2 q (by omega) (by rw [ho 0 3 (by omega)]; exact h3) (fun j hj => by
        rw [ho 6 j (by omega), ho 7 j (by omega), ho 8 j (by omega)]
        exact hn j hj)
      refine ⟨w', e1, fun j hj => ?_, fun x y hx => by rw [e3 x y hx, ho x y hx]⟩
      have := e2 j hj
      rw [ho 6 j (by omega), ho 7 j (by omega), ho 8 j (by omega)] at this
      exact this
    · have : i = k := by omega
      subst this
      rw [if_pos (nI_le (Nat.le_refl _) (by omega)), mset_o (show ¬ ((0 : Nat) = 0 ∧ (3 : Nat) = 18) by decide), h3]
      exact ⟨w, rfl, h4, fun x y _ => rfl⟩
theorem pr_num {v : Mem} {a L q : Nat} (h : ∀ j, j < 5 → FitM v a L q j) : ∃ t c z : Nat, t ≤ 2 ∧ c ≤ 9 ∧ z ≤ 31 ∧ toneM (v 14 (a + (q + 1))) = nI t ∧ fX3_kindOf (v 14 (a + (q + 1))) = nI t ∧ v 14 (a + (q + 2)) - 48 = nI c ∧ 10 * (v 14 (a + (q + 3)) - 48) + (v 14 (a + (q + 4)) - 48) = nI z ∧ 10 * (v 14 (a + (q + 3)) - 48) + v 14 (a + (q + 4)) - 48 = nI z := by
  have f1 := (fit_1.mp (h 1 (by omega))).2
  have f2 := (h 2 (by omega)).2
  rw [if_neg (by decide), if_neg (by decide), if_pos rfl] at f2
  have f3 := (h 3 (by omega)).2
  rw [if_neg (by decide), if_neg (by decide), if_neg (by decide), if_pos rfl] at f3
  have f4 := (fit_4.mp (h 4 (by omega))).2
  obtain ⟨c, hc, -, ec⟩ := dig_ex (m := 9) (by decide) (by omega) f2
  obtain ⟨x, hx, ex0, ex⟩ := dig_ex (m := 3) (by decide) (by omega) f3
  have hy : ∃ y : Nat, 10 * x + y ≤ 31 ∨ 10 * x + y ≤ 31 ∧ True := ⟨0, by omega⟩
  have hl : ∃ y : Nat, 10 * x + y ≤ 31 ∧ v 14 (a + (q + 4)) = nI (48 + y) ∧ v 14 (a + (q + 4)) - 48 = nI y := by
    by_cases z : v 14 (a + (q + 3)) = 51
    · rw [if_pos z] at f4
      obtain ⟨y, hy, ey0, ey⟩ := dig_ex (m := 1) (by decide) (by omega) f4
      exact ⟨y, by omega, ey0, ey⟩
    · rw [if_neg z] at f4
      obtain ⟨y, hy, ey0, ey⟩ := dig_ex (m := 9) (by decide) (by omega) f4
      refine ⟨y, ?_, ey0, ey⟩
      have : x ≠ 3 := fun w => z (by rw [ex0, w]; rfl)
      omega
  obtain ⟨y, hy, ey0, ey⟩ := hl
  have ht : ∃ t : Nat, t ≤ 2 ∧ toneM (v 14 (a + (q + 1))) = nI t ∧ fX3_kindOf (v 14 (a + (q + 1))) = nI t := by
    rcases f1 with z | z | z
    · rw [z]; exact ⟨0, by omega, by decide, by decide⟩
    · rw [z]; exact ⟨1, by omega, by decide, by decide⟩
    · rw [z]; exact ⟨2, by omega, by decide, by decide⟩
  obtain ⟨t, t1, t2, t3⟩ := ht
  refine ⟨t, c, 10 * x + y, t1, hc, hy, t2, t3, ec, ?_, ?_⟩
  · rw [ex, ey, show (10 : Int32) = nI 10 from rfl, pk_mul, nI_add]
  · rw [ex, ey0, show (10 : Int32) = nI 10 from rfl, pk_mul, nI_add, show 10 * x + (48 + y) = (10 * x + y) + 48 by omega]
    rw [show (48 : Int32) = nI 48 from rfl, pk_sub (by omega)]
    congr 1
