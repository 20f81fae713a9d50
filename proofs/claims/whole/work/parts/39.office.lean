def KeepP (v w : Mem) : Prop := ∀ x y, ¬ (5 ≤ x ∧ x ≤ 8) → ¬ (x = 0 ∧ 7 ≤ y ∧ y ≤ 9) → w x y = v x y
def EvOk (v : Mem) (a L e : Nat) : Prop := ∀ i, i < e → 2 + 2 * i < L ∧ v 14 (a + (1 + 2 * i)) = 47 ∧ fX3_isDigit (v 14 (a + (2 + 2 * i))) 9 = 1
def EvSt (v w : Mem) (a L e : Nat) : Prop := PosOk w a L (1 + 2 * e) ∧ w 0 8 = nI e ∧ w 0 9 = nI 0 ∧ KeepP v w ∧ EvOk v a L e ∧ ∀ i, i < e → w 5 i = v 14 (a + (2 + 2 * i)) - 48
def PrOk (v w : Mem) (a L r0 i : Nat) : Prop := (∀ j, j < 5 → FitM v a L (r0 + 5 * i) j) ∧ w 6 i = toneM (v 14 (a + (r0 + 5 * i + 1))) ∧ w 7 i = v 14 (a + (r0 + 5 * i + 2)) - 48 ∧ w 8 i = 10 * (v 14 (a + (r0 + 5 * i + 3)) - 48) + (v 14 (a + (r0 + 5 * i + 4)) - 48)
def PrSt (v w : Mem) (a L e k : Nat) : Prop := PosOk w a L (1 + 2 * e + 5 * k) ∧ w 0 8 = nI e ∧ w 0 9 = nI k ∧ KeepP v w ∧ EvOk v a L e ∧ (∀ i, i < e → w 5 i = v 14 (a + (2 + 2 * i)) - 48) ∧ ∀ i, i < k → PrOk v w a L (1 + 2 * e) i
theorem keep14 {v w : Mem} (h : KeepP v w) (i : Nat) : w 14 i = v 14 i := h 14 i (by omega) (by omega)
theorem fit_keep {v w : Mem} (h : KeepP v w) {a b r j : Nat} : FitM w a b r j ↔ FitM v a b r j := by
  have : w 14 = v 14 := funext fun i => keep14 h i
  unfold FitM
  rw [this]
theorem ev_both {U v : Mem} {kk a s L : Nat} (hs : s + L ≤ 60) (hc : ∀ i, i < L → U (10 + kk) (s + i) = v 14 (a + i)) :
    ∀ (n m e : Nat) (w : Mem), e ≤ 5 → 5 < e + n → 6 < e + m → EvSt v w a L e →
      (∃ f, f ≤ L ∧ fX3_firstFaultPlace_c22 U kk (nI s) (nI (s + L)) n (nI e) (nI (s + (1 + 2 * e))) = nI (s + f) ∧ ∃ W, fX4_readsOffice_c50 v (nI a) (nI L) m w 1 = (0, W) ∧ W 0 7 = nI f ∧ KeepP v W) ∨
      (∃ e', 1 ≤ e' ∧ e' ≤ 5 ∧ ∃ W, EvSt v W a L e' ∧ fX3_firstFaultPlace_c22 U kk (nI s) (nI (s + L)) n (nI e) (nI (s + (1 + 2 * e))) = fX3_firstFaultPlace_c91 U kk (nI s) (nI (s + L)) 5 0 (nI (s + (1 + 2 * e'))) (nI (s + (1 + 2 * e'))) ∧ fX4_readsOffice_c50 v (nI a) (nI L) m w 1 = fX4_readsOffice_c82 v (nI a) (nI L) 7 W 1 ∧ fX3_behindEvents_c7 U kk (nI s) (nI (s + L)) n (nI e) (nI (s + (1 + 2 * e))) = nI (s + (1 + 2 * e'))) := by
  intro n
  induction n with
  | zero => intro m e w h1 h2; omega
  | succ n ih =>
    intro m e w h1 h2 h3 hw
    obtain ⟨m, rfl⟩ : ∃ j, m = j + 1 := ⟨m - 1, by omega⟩
    obtain ⟨m, rfl⟩ : ∃ j, m = j + 1 := ⟨m - 1, by omega⟩
    have hw0 := hw
    obtain ⟨hP, w8, w9, hk, he, h5⟩ := hw
    have hP0 := hP
    obtain ⟨p1, p2, p3, p4⟩ := hP
    have hco := code_at hP0
    have hend : ∀ (w' : Mem), fX4_readsOffice_c50 v (nI a) (nI L) (m + 1) w' 0 = (0, w') := fun w' => by
      rw [fX4_readsOffice_c50, if_pos rfl, fX4_readsOffice_c82, if_pos rfl]
    have h74 : ∀ e : Nat, e ≤ 5 → 0 < e → fX3_firstFaultPlace_c74 U kk (nI s) (nI (s + L)) (nI (s + (1 + 2 * e))) = fX3_firstFaultPlace_c91 U kk (nI s) (nI (s + L)) 5 0 (nI (s + (1 + 2 * e))) (nI (s + (1 + 2 * e))) := fun e he he0 => by
      rw [fX3_firstFaultPlace_c74, nI_1, if_neg (lit_ne (by omega) (by omega) (by omega))]
    have h740 : fX3_firstFaultPlace_c74 U kk (nI s) (nI (s + L)) (nI (s + (1 + 2 * 0))) = nI (s + 1) := by
      rw [fX3_firstFaultPlace_c74, nI_1, if_pos rfl]
    have hM : (0 < e ∧ ¬ (1 + 2 * e < L ∧ w 14 (a + (1 + 2 * e)) = 47) → fX4_readsOffice_c50 v (nI a) (nI L) (m + 1 + 1) w 1 = fX4_readsOffice_c82 v (nI a) (nI L) 7 w 1) ∧ (¬ (0 < e ∧ ¬ (1 + 2 * e < L ∧ w 14 (a + (1 + 2 * e)) = 47)) → fX4_readsOffice_c50 v (nI a) (nI L) (m + 1 + 1) w 1 = fX4_readsOffice_c50 v (nI a) (nI L) (m + 1) (fX4_readsEvent w (nI a) (nI L)).2 (fX4_readsEvent w (nI a) (nI L)).1) := by
      have e47 : (if L ≤ 1 + 2 * e then (-9 : Int32) else w 14 (a + (1 + 2 * e))) = 47 ↔ (1 + 2 * e < L ∧ w 14 (a + (1 + 2 * e)) = 47) := by
        by_cases q : L ≤ 1 + 2 * e
        · rw [if_pos q]
          exact ⟨fun z => absurd z (by decide), fun z => by omega⟩
        · rw [if_neg q]
          exact ⟨fun z => ⟨by omega, z⟩, fun z => z.2⟩
      rw [fX4_readsOffice_c50, if_neg one_ne, w8, hco]
      refine ⟨fun ⟨z1, z2⟩ => ?_, fun z => ?_⟩
      · rw [if_neg (nI_ne0 z1 (by omega)), if_neg (fun y => z2 (e47.mp y))]
      · rcases Nat.eq_zero_or_pos e with y | y
        · subst y
          rw [if_pos nI_0]
        · rw [if_neg (nI_ne0 y (by omega))]
          by_cases x : 1 + 2 * e < L ∧ w 14 (a + (1 + 2 * e)) = 47
          · rw [if_pos (e47.mpr x)]
          · exact absurd ⟨y, x⟩ z
    have hcell : 1 + 2 * e < L → U (10 + kk) (nI (s + (1 + 2 * e))).toNatClampNeg = w 14 (a + (1 + 2 * e)) := fun z => by
      rw [nI_clamp (by omega), keep14 hk]
      exact hc _ z
    rcases Nat.lt_or_ge e 5 with z5 | z5
    · -- fewer than five
      have h5' : ¬ (5 : Int32) ≤ nI e := nI_ge (b := 5) z5 (by omega)
      by_cases c1 : 1 + 2 * e < L ∧ w 14 (a + (1 + 2 * e)) = 47
      · have hX : fX3_firstFaultPlace_c22 U kk (nI s) (nI (s + L)) (n + 1) (nI e) (nI (s + (1 + 2 * e))) = if nI (s + L) ≤ nI (s + (1 + 2 * e) + 1) then nI (s + (1 + 2 * e) + 1) else if fX3_isDigit (U (10 + kk) (nI (s + (1 + 2 * e) + 1)).toNatClampNeg) 9 = 0 then nI (s + (1 + 2 * e) + 1) else fX3_firstFaultPlace_c22 U kk (nI s) (nI (s + L)) n (nI (e + 1)) (nI (s + (1 + 2 * (e + 1)))) := by
          rw [fX3_firstFaultPlace_c22, if_neg h5', if_neg (nI_ge (by omega) (by omega)), hcell c1.1, if_pos c1.2, nI_1, nI_1, show (2 : Int32) = nI 2 from rfl, nI_add, show s + (1 + 2 * e) + 2 = s + (1 + 2 * (e + 1)) by omega]
        have hM2 := hM.2 (fun z => z.2 c1)
        have hB : fX3_behindEvents_c7 U kk (nI s) (nI (s + L)) (n + 1) (nI e) (nI (s + (1 + 2 * e))) = fX3_behindEvents_c7 U kk (nI s) (nI (s + L)) n (nI (e + 1)) (nI (s + (1 + 2 * (e + 1)))) := by
          rw [fX3_behindEvents_c7, if_neg h5', if_neg (nI_ge (by omega) (by omega)), hcell c1.1, if_pos c1.2, nI_1, show (2 : Int32) = nI 2 from rfl, nI_add, show s + (1 + 2 * e) + 2 = s + (1 + 2 * (e + 1)) by omega]
        rcases re_spec hP0 w8 z5 with ⟨q, -⟩ | ⟨-, q, qe⟩ | ⟨-, q, W, qe, q7, q8, q5, qk⟩
        · exact absurd c1 q
        · refine Or.inl ⟨1 + 2 * e + 1, by omega, ?_, _, by rw [hM2, qe]; exact hend _, mset_at, fun x y y1 y2 => by rw [mset_oo (by omega)]; exact hk x y y1 y2⟩
          rw [hX]
          by_cases c2 : 1 + 2 * e + 1 < L
          · rw [if_neg (nI_ge (by omega) (by omega)), nI_clamp (by omega), show s + (1 + 2 * e) + 1 = s + (1 + 2 * e + 1) by omega, hc _ c2, ← keep14 hk]
            rcases dig_01 (w 14 (a + (1 + 2 * e + 1))) 9 with y | y
            · rw [if_pos y]
            · exact absurd ⟨c2, y⟩ q
          · rw [if_pos (nI_le (by omega) (by omega))]
            rfl
        · rw [hX, hB, hM2, qe, if_neg (nI_ge (by omega) (by omega)), nI_clamp (by omega), show s + (1 + 2 * e) + 1 = s + (1 + 2 * e + 1) by omega, hc _ q.1, ← keep14 hk, if_neg (by rw [q.2]; exact one_ne)]
          refine ih (m + 1) (e + 1) W z5 (by omega) (by omega) ⟨⟨by rw [q7, show 1 + 2 * e + 2 = 1 + 2 * (e + 1) by omega], by omega, p3, p4⟩, q8, by rw [qk 0 9 (by omega) (by omega)]; exact w9, fun x y y1 y2 => by rw [qk x y (by omega) (by omega)]; exact hk x y y1 y2, fun i hi => ?_, fun i hi => ?_⟩
          · rcases Nat.eq_or_lt_of_le (Nat.le_of_lt_succ hi) with y | y
            · subst y
              rw [show 2 + 2 * i = 1 + 2 * i + 1 by omega, ← keep14 hk, ← keep14 hk]
              exact ⟨q.1, c1.2, q.2⟩
            · exact he i y
          · rcases Nat.eq_or_lt_of_le (Nat.le_of_lt_succ hi) with y | y
            · subst y
              rw [q5, keep14 hk, show 2 + 2 * i = 1 + 2 * i + 1 by omega]
            · rw [qk 5 i (by omega) (by omega)]
              exact h5 i y
      · have hX : fX3_firstFaultPlace_c22 U kk (nI s) (nI (s + L)) (n + 1) (nI e) (nI (s + (1 + 2 * e))) = fX3_firstFaultPlace_c74 U kk (nI s) (nI (s + L)) (nI (s + (1 + 2 * e))) := by
          rw [fX3_firstFaultPlace_c22, if_neg h5']
          by_cases y : 1 + 2 * e < L
          · rw [if_neg (nI_ge (by omega) (by omega)), hcell y, if_neg (fun x => c1 ⟨y, x⟩)]
          · rw [if_pos (nI_le (by omega) (by omega))]
        have hB : fX3_behindEvents_c7 U kk (nI s) (nI (s + L)) (n + 1) (nI e) (nI (s + (1 + 2 * e))) = nI (s + (1 + 2 * e)) := by
          rw [fX3_behindEvents_c7, if_neg h5']
          by_cases y : 1 + 2 * e < L
          · rw [if_neg (nI_ge (by omega) (by omega)), hcell y, if_neg (fun x => c1 ⟨y, x⟩)]
          · rw [if_pos (nI_le (by omega) (by omega))]
        rcases Nat.eq_zero_or_pos e with y | y
        · subst y
          refine Or.inl ⟨1, by omega, by rw [hX]; exact h740, w, ?_, p1, hk⟩
          rw [hM.2 (fun z => by omega)]
          rcases re_spec hP0 w8 z5 with ⟨q, qe⟩ | ⟨q, -, qe⟩ | ⟨q, -, -⟩
          · rw [qe]; exact hend _
          · exact absurd q c1
          · exact absurd q c1
        · exact Or.inr ⟨e, y, h1, w, hw0, by rw [hX]; exact h74 e h1 y, hM.1 ⟨y, c1⟩, hB⟩
    · have : e = 5 := by omega
      subst this
      have hX : fX3_firstFaultPlace_c22 U kk (nI s) (nI (s + L)) (n + 1) (nI 5) (nI (s + (1 + 2 * 5))) = fX3_firstFaultPlace_c91 U kk (nI s) (nI (s + L)) 5 0 (nI (s + (1 + 2 * 5))) (nI (s + (1 + 2 * 5))) := by
        rw [fX3_firstFaultPlace_c22, if_pos (by decide)]
        exact h74 5 (by omega) (by omega)
      have hB : fX3_behindEvents_c7 U kk (nI s) (nI (s + L)) (n + 1) (nI 5) (nI (s + (1 + 2 * 5))) = nI (s + (1 + 2 * 5)) := by
        rw [fX3_behindEvents_c7, if_pos (by decide)]
      by_cases c1 : 1 + 2 * 5 < L ∧ w 14 (a + (1 + 2 * 5)) = 47
      · refine Or.inl ⟨1 + 2 * 5, by omega, ?_, w, ?_, p1, hk⟩
        · have hf : fX3_fitsProphet U kk (nI (s + (1 + 2 * 5))) 0 = 0 := by
            rw [fX3_fitsProphet, if_pos rfl, Int32.add_zero, hcell c1.1, c1.2, if_neg (by decide)]
          rw [hX, fX3_firstFaultPlace_c91, if_neg (show ¬ (4 : Int32) ≤ 0 by decide), if_neg (nI_ge (by omega) (by omega)), Int32.add_zero, if_neg (nI_ge (by omega) (by omega)), if_pos hf]
        · rw [hM.2 (fun z => z.2 c1), re_full w8]
          exact hend _
      · exact Or.inr ⟨5, by omega, by omega, w, hw0, hX, hM.1 ⟨by omega, c1⟩, hB⟩
theorem fit_1 {w : Mem} {a b r : Nat} : FitM w a b r 1 ↔ (r + 1 < b ∧ isTone (w 14 (a + (r + 1)))) := by
  unfold FitM
  rw [if_neg (show ¬ (1 : Nat) = 0 by decide), if_pos rfl]
theorem fit_4 {w : Mem} {a b r : Nat} : FitM w a b r 4 ↔ (r + 4 < b ∧ if w 14 (a + (r + 3)) = 51 then fX3_isDigit (w 14 (a + (r + 4))) 1 = 1 else fX3_isDigit (w 14 (a + (r + 4))) 9 = 1) := by
  unfold FitM
  rw [if_neg (show ¬ (4 : Nat) = 0 by decide), if_neg (show ¬ (4 : Nat) = 1 by decide), if_neg (show ¬ (4 : Nat) = 2 by decide), if_neg (show ¬ (4 : Nat) = 3 by decide)]
theorem fit_X {U v : Mem} {kk a s L r : Nat} (hs : s + L ≤ 60) (hc : ∀ i, i < L → U (10 + kk) (s + i) = v 14 (a + i)) : ∀ j, j < 5 → r + j < L → (fX3_fitsProphet U kk (nI (s + r)) (nI j) = 0 ↔ ¬ FitM v a L r j) := by
  intro j hj hr
  have hcell : ∀ i, r + i < L → U (10 + kk) (nI (s + r) + nI i).toNatClampNeg = v 14 (a + (r + i)) := fun i hi => by
    rw [nI_add, nI_clamp (by omega), show s + r + i = s + (r + i) by omega]
    exact hc _ hi
  have h01 : ∀ c M : Int32, fX3_isDigit c M = 0 ↔ ¬ fX3_isDigit c M = 1 := fun c M => by
    rcases dig_01 c M with z | z
    · rw [z]; decide
    · rw [z]; decide
  rw [fX3_fitsProphet, hcell j hr]
  rcases (show j = 0 ∨ j = 1 ∨ j = 2 ∨ j = 3 ∨ j = 4 by omega) with rfl | rfl | rfl | rfl | rfl
  · rw [if_pos nI_0]
    unfold FitM
    rw [if_pos rfl]
    by_cases q : v 14 (a + (r + 0)) = 59
    · rw [if_pos q]
      exact ⟨fun z => absurd z one_ne, fun z => absurd ⟨hr, q⟩ z⟩
    · rw [if_neg q]
      exact ⟨fun _ z => q z.2, fun _ => rfl⟩
  · rw [if_neg (by decide), if_pos (by decide), fit_1]
    have hk : fX3_kindOf (v 14 (a + (r + 1))) = -9 ↔ ¬ isTone (v 14 (a + (r + 1))) := by
      unfold isTone fX3_kindOf
      by_cases q1 : v 14 (a + (r + 1)) = 108
      · rw [if_pos q1]
        exact ⟨fun z => absurd z (by decide), fun z => absurd (Or.inr (Or.inr q1)) z⟩
      rw [if_neg q1]
      by_cases q2 : v 14 (a + (r + 1)) = 109
      · rw [if_pos q2]
        exact ⟨fun z => absurd z (by decide), fun z => absurd (Or.inl q2) z⟩
      rw [if_neg q2]
      by_cases q3 : v 14 (a + (r + 1)) = 115
      · rw [if_pos q3]
        exact ⟨fun z => absurd z (by decide), fun z => absurd (Or.inr (Or.inl q3)) z⟩
      rw [if_neg q3]
      exact ⟨fun _ z => by rcases z with z | z | z <;> contradiction, fun _ => rfl⟩
    by_cases q : fX3_kindOf (v 14 (a + (r + 1))) = -9
    · rw [if_pos q]
      exact ⟨fun _ z => hk.mp q z.2, fun _ => rfl⟩
    · rw [if_neg q]
      exact ⟨fun z => absurd z one_ne, fun z => absurd ⟨hr, Classical.byContradiction fun y => q (hk.mpr y)⟩ z⟩
  · rw [if_neg (by decide), if_neg (by decide), if_pos (by decide), h01]
    unfold FitM
    rw [if_neg (by decide), if_neg (by decide), if_pos rfl]
    exact ⟨fun z y => z y.2, fun z y => z ⟨hr, y⟩⟩
  · rw [if_neg (by decide), if_neg (by decide), if_neg (by decide), if_pos (by decide), h01]
    unfold FitM
    rw [if_neg (by decide), if_neg (by decide), if_neg (by decide), if_pos rfl]
    exact ⟨fun z y => z y.2, fun z y => z ⟨hr, y⟩⟩
  · rw [if_neg (by decide), if_neg (by decide), if_neg (by decide), if_neg (by decide), show (3 : Int32) = nI 3 from rfl, hcell 3 (by omega), fit_4]
    by_cases q : v 14 (a + (r + 3)) = 51
    · rw [if_pos q, if_pos q, h01]
      exact ⟨fun z y => z y.2, fun z y => z ⟨hr, y⟩⟩
    · rw [if_neg q, if_neg q, h01]
      exact ⟨fun z y => z y.2, fun z y => z ⟨hr, y⟩⟩
theorem step_X {U v : Mem} {kk a s L r : Nat} (hs : s + L ≤ 60) (hrL : r ≤ L) (hc : ∀ i, i < L → U (10 + kk) (s + i) = v 14 (a + i)) (j : Nat) (hj : j < 5) (A B : Int32) (h1 : FitM v a L r j → A = B) (h2 : ¬ FitM v a L r j → nI (s + (r + j)) = B) :
    (if nI (s + L) ≤ nI (s + r) + nI j then nI (s + r) + nI j else if fX3_fitsProphet U kk (nI (s + r)) (nI j) = 0 then nI (s + r) + nI j else A) = B := by
  rw [nI_add, show s + r + j = s + (r + j) by omega]
  by_cases q : r + j < L
  · rw [if_neg (nI_ge (by omega) (by omega))]
    have hf := fit_X hs hc j hj q
    by_cases z : FitM v a L r j
    · rw [if_neg (fun y => hf.mp y z)]
      exact h1 z
    · rw [if_pos (hf.mpr z)]
      exact h2 z
  · rw [if_pos (nI_le (by omega) (by omega))]
    exact h2 (fun z => q z.1)
theorem pr_both {U v : Mem} {kk a s L e : Nat} (hs : s + L ≤ 60) (hc : ∀ i, i < L → U (10 + kk) (s + i) = v 14 (a + i)) :
    ∀ (n m k : Nat) (w : Mem), k ≤ 4 → 4 < k + n → 6 < k + m → PrSt v w a L e k →
      (∃ f, f ≤ L ∧ fX3_firstFaultPlace_c91 U kk (nI s) (nI (s + L)) n (nI k) (nI (s + (1 + 2 * e))) (nI (s + (1 + 2 * e + 5 * k))) = nI (s + f) ∧ ∃ W, fX4_readsOffice_c82 v (nI a) (nI L) m w 1 = (0, W) ∧ W 0 7 = nI f ∧ KeepP v W) ∨
      (∃ k', 1 ≤ k' ∧ k' ≤ 4 ∧ 1 + 2 * e + 5 * k' = L ∧ fX3_firstFaultPlace_c91 U kk (nI s) (nI (s + L)) n (nI k) (nI (s + (1 + 2 * e))) (nI (s + (1 + 2 * e + 5 * k))) = -9 ∧ ∃ W, fX4_readsOffice_c82 v (nI a) (nI L) m w 1 = (1, W) ∧ PrSt v W a L e k') := by
  intro n
  induction n with
  | zero => intro m k w h1 h2; omega
  | succ n ih =>
    intro m k w h1 h2 h3 hw
    obtain ⟨m, rfl⟩ : ∃ j, m = j + 1 := ⟨m - 1, by omega⟩
    obtain ⟨m, rfl⟩ : ∃ j, m = j + 1 := ⟨m - 1, by omega⟩
    have hw0 := hw
    obtain ⟨hP, w8, w9, hk, he, h5, hp⟩ := hw
    have hP0 := hP
    obtain ⟨p1, p2, p3, p4⟩ := hP
    have hend : ∀ (w' : Mem), fX4_readsOffice_c82 v (nI a) (nI L) (m + 1) w' 0 = (0, w') := fun w' => by
      rw [fX4_readsOffice_c82, if_pos rfl]
    have hMr : (k = 0 ∨ 1 + 2 * e + 5 * k < L) → fX4_readsOffice_c82 v (nI a) (nI L) (m + 1 + 1) w 1 = fX4_readsOffice_c82 v (nI a) (nI L) (m + 1) (fX4_readsProphet w (nI a) (nI L)).2 (fX4_readsProphet w (nI a) (nI L)).1 := fun z => by
      rw [fX4_readsOffice_c82, if_neg one_ne, w9]
      rcases Nat.eq_zero_or_pos k with y | y
      · subst y
        rw [if_pos nI_0]
      · rw [if_neg (nI_ne0 y (by omega)), p1, if_neg (nI_ge (by omega) (by omega))]
    have hMd : 0 < k → L ≤ 1 + 2 * e + 5 * k → fX4_readsOffice_c82 v (nI a) (nI L) (m + 1 + 1) w 1 = (1, w) := fun z y => by
      rw [fX4_readsOffice_c82, if_neg one_ne, w9, if_neg (nI_ne0 z (by omega)), p1, if_pos (nI_le y (by omega))]
    rcases Nat.lt_or_ge (1 + 2 * e + 5 * k) L with c1 | c1
    · rcases Nat.lt_or_ge k 4 with z4 | z4
      · have hX : ∀ B : Int32, (∀ j, j < 5 → (∀ i, i < j → FitM v a L (1 + 2 * e + 5 * k) i) → ¬ FitM v a L (1 + 2 * e + 5 * k) j → nI (s + (1 + 2 * e + 5 * k + j)) = B) → ((∀ i, i < 5 → FitM v a L (1 + 2 * e + 5 * k) i) → fX3_firstFaultPlace_c91 U kk (nI s) (nI (s + L)) n (nI (k + 1)) (nI (s + (1 + 2 * e))) (nI (s + (1 + 2 * e + 5 * (k + 1)))) = B) → fX3_firstFaultPlace_c91 U kk (nI s) (nI (s + L)) (n + 1) (nI k) (nI (s + (1 + 2 * e))) (nI (s + (1 + 2 * e + 5 * k))) = B := by
          intro B hB hA
          rw [fX3_firstFaultPlace_c91, if_neg (show ¬ (4 : Int32) ≤ nI k from nI_ge (b := 4) z4 (by omega)), if_neg (nI_ge (by omega) (by omega)), nI_1 k, show (5 : Int32) = nI 5 from rfl, nI_add, show s + (1 + 2 * e + 5 * k) + 5 = s + (1 + 2 * e + 5 * (k + 1)) by omega]
          refine step_X hs p2 hc 0 (by omega) _ _ (fun f0 => ?_) (fun f0 => hB 0 (by omega) (fun i hi => by omega) f0)
          refine step_X hs p2 hc 1 (by omega) _ _ (fun f1 => ?_) (fun f1 => hB 1 (by omega) (fun i hi => ?_) f1)
          · refine step_X hs p2 hc 2 (by omega) _ _ (fun f2 => ?_) (fun f2 => hB 2 (by omega) (fun i hi => ?_) f2)
            · refine step_X hs p2 hc 3 (by omega) _ _ (fun f3 => ?_) (fun f3 => hB 3 (by omega) (fun i hi => ?_) f3)
              · refine step_X hs p2 hc 4 (by omega) _ _ (fun f4 => hA (fun i hi => ?_)) (fun f4 => hB 4 (by omega) (fun i hi => ?_) f4)
                · rcases (show i = 0 ∨ i = 1 ∨ i = 2 ∨ i = 3 ∨ i = 4 by omega) with rfl | rfl | rfl | rfl | rfl <;> assumption
                · rcases (show i = 0 ∨ i = 1 ∨ i = 2 ∨ i = 3 by omega) with rfl | rfl | rfl | rfl <;> assumption
              · rcases (show i = 0 ∨ i = 1 ∨ i = 2 by omega) with rfl | rfl | rfl <;> assumption
            · rcases (show i = 0 ∨ i = 1 by omega) with rfl | rfl <;> assumption
          · have : i = 0 := by omega
            subst this
            assumption
        rcases rp_spec hP0 w9 z4 with ⟨j, j1, j2, j3, W, q1, q2, q3⟩ | ⟨j1, W, q1, q2, q3, q4, q5, q6, q7⟩
        · have j2' : ∀ i, i < j → FitM v a L (1 + 2 * e + 5 * k) i := fun i hi => (fit_keep hk).mp (j2 i hi)
          have j3' : ¬ FitM v a L (1 + 2 * e + 5 * k) j := fun z => j3 ((fit_keep hk).mpr z)
          refine Or.inl ⟨1 + 2 * e + 5 * k + j, fit_lt p2 j2', ?_, W, by rw [hMr (Or.inr c1), q1]; exact hend W, q2, fun x y y1 y2 => by rw [q3 x y (by omega)]; exact hk x y y1 y2⟩
          refine hX _ (fun j' y1 y2 y3 => ?_) (fun y => absurd (y j j1) j3')
          have : j' = j := by
            rcases Nat.lt_trichotomy j' j with z | z | z
            · exact absurd (j2' j' z) y3
            · exact z
            · exact absurd (y2 j z) j3'
          rw [this]
        · have j1' : ∀ i, i < 5 → FitM v a L (1 + 2 * e + 5 * k) i := fun i hi => (fit_keep hk).mp (j1 i hi)
          have hXn := hX _ (fun j' y1 y2 y3 => absurd (j1' j' y1) y3) (fun _ => rfl)
          rw [hXn, hMr (Or.inr c1), q1]
          refine ih (m + 1) (k + 1) W z4 (by omega) (by omega) ⟨⟨by rw [q2, show 1 + 2 * e + 5 * k + 5 = 1 + 2 * e + 5 * (k + 1) by omega], by have := fit_lt p2 j1'; omega, p3, p4⟩, by rw [q7 0 8 (by omega) (by omega)]; exact w8, q3, fun x y y1 y2 => by rw [q7 x y (by omega) (by omega)]; exact hk x y y1 y2, he, fun i hi => by rw [q7 5 i (by omega) (by omega)]; exact h5 i hi, fun i hi => ?_⟩
          rcases Nat.eq_or_lt_of_le (Nat.le_of_lt_succ hi) with y | y
          · subst y
            refine ⟨j1', ?_, ?_, ?_⟩
            · rw [q4, keep14 hk]
            · rw [q5, keep14 hk]
            · rw [q6, keep14 hk, keep14 hk]
          · obtain ⟨y1, y2, y3, y4⟩ := hp i y
            exact ⟨y1, by rw [q7 6 i (by omega) (by omega)]; exact y2, by rw [q7 7 i (by omega) (by omega)]; exact y3, by rw [q7 8 i (by omega) (by omega)]; exact y4⟩
      · have : k = 4 := by omega
        subst this
        refine Or.inl ⟨1 + 2 * e + 5 * 4, p2, ?_, w, ?_, p1, hk⟩
        · rw [fX3_firstFaultPlace_c91, if_pos (by decide), if_neg (lit_ne (by omega) (by omega) (by omega))]
        · rw [hMr (Or.inr c1), rp_full w9]
          exact hend w
    · have eL : 1 + 2 * e + 5 * k = L := by omega
      have hX : fX3_firstFaultPlace_c91 U kk (nI s) (nI (s + L)) (n + 1) (nI k) (nI (s + (1 + 2 * e))) (nI (s + (1 + 2 * e + 5 * k))) = if nI (s + (1 + 2 * e + 5 * k)) ≤ nI (s + (1 + 2 * e)) then nI (s + (1 + 2 * e + 5 * k)) else -9 := by
        rw [fX3_firstFaultPlace_c91, eL, if_pos (Int32.le_refl _), if_pos rfl]
        split <;> rfl
      rcases Nat.eq_zero_or_pos k with y | y
      · subst y
        refine Or.inl ⟨1 + 2 * e + 5 * 0, p2, by rw [hX, if_pos (nI_le (by omega) (by omega))], ?_⟩
        rw [hMr (Or.inl rfl)]
        rcases rp_spec hP0 w9 (by omega) with ⟨j, j1, j2, j3, W, q1, q2, q3⟩ | ⟨j1, -⟩
        · have : j = 0 := by
            rcases Nat.eq_zero_or_pos j with z | z
            · exact z
            · have := (j2 0 z).1
              omega
          subst this
          exact ⟨W, by rw [q1]; exact hend W, q2, fun x y y1 y2 => by rw [q3 x y (by omega)]; exact hk x y y1 y2⟩
        · have := (j1 0 (by omega)).1
          omega
      · exact Or.inr ⟨k, y, h1, eL, by rw [hX, if_neg (nI_ge (by omega) (by omega))], w, hMd y c1, hw0⟩
