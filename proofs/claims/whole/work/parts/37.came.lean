theorem eq_came {u v : Mem} (hR : Rel u v) (a1 a2 : Int32) : (fX3_came u a1 a2) = (fX4_came v a1 a2) := by
  obtain ⟨ne, np, nr, ch, kd, cv, sd, rp, rs, ⟨hne, hnp, hnr⟩, ⟨ue, up, ur⟩, ⟨ve, vp, vr⟩, htr, hfl, hch, hpr, hrd, hru, hrv, hsh⟩ := hR
  have h32 := pow5 hne
  rw [fX3_came, fX4_came, in_within (m := 999) rfl, in_within (m := 1) rfl]
  split
  · rfl
  · split
    · rfl
    · rcases office_cases hnp up vp with ⟨_, o1, o2⟩ | ⟨_, o1, o2⟩
      · rw [o1, if_neg one_ne, if_neg o2, allX hne ue, allM hne ve]
        have key : ∀ (n k : Nat) (x4 x3 : Int32), k < 2 ^ ne → fX3_came_c43 u a1 a2 n (nI k) x4 x3 = fX4_came_c47 v a1 a2 n (nI k) x4 x3 := by
          intro n
          induction n with
          | zero => intro k x4 x3 h; rfl
          | succ n ih =>
            intro k x4 x3 h
            have hz : ∀ (x4 x3 : Int32), fX3_came_c43 u a1 a2 n (nI k + (-1)) x4 x3 = fX4_came_c47 v a1 a2 n (nI k + (-1)) x4 x3 := by
              intro x4 x3
              rcases Nat.eq_zero_or_pos k with rfl | hk
              · rw [show nI 0 + (-1) = (-1 : Int32) by decide]
                cases n with
                | zero => rfl
                | succ n => rw [fX3_came_c43, fX4_came_c47, if_pos (show (-1 : Int32) < 0 by decide), if_pos (show (-1 : Int32) < 0 by decide)]
              · obtain ⟨m, rfl⟩ : ∃ m, k = m + 1 := ⟨k - 1, by omega⟩
                rw [pk_m1]
                exact ih m x4 x3 (by omega)
            rw [fX3_came_c43, fX4_came_c47, if_neg (nI_pos (by omega)), if_neg (nI_pos (by omega)), tot_X hne hnp ue up (prX' hpr) (by omega), tot_M hne hnp ve vp (prM hpr) h, hz, hz, Int32.add_zero]
        exact key 34 (2 ^ ne - 1) _ _ (by omega)
      · rw [o1, if_pos rfl, if_pos o2]
theorem eq_best {u v : Mem} (hR : Rel u v) (a1 a2 : Int32) : (fX3_best u a1 a2) = (fX4_best v a1 a2) := by
  obtain ⟨ne, np, nr, ch, kd, cv, sd, rp, rs, ⟨hne, hnp, hnr⟩, ⟨ue, up, ur⟩, ⟨ve, vp, vr⟩, htr, hfl, hch, hpr, hrd, hru, hrv, hsh⟩ := hR
  have h32 := pow5 hne
  rw [fX3_best, fX4_best, in_within (m := 9) rfl]
  rcases prophet_cases hnp up vp a1 with ⟨p, hp, rfl, e1, e2⟩ | ⟨e1, e2⟩
  · obtain ⟨⟨g1, g2, g3⟩, ⟨g4, g5, g6⟩, g7, g8, g9⟩ := hpr p hp
    rw [e1, e2, if_neg one_ne, if_pos rfl]
    split
    · rfl
    · rw [nI_clamp (show p < 2 ^ 31 by omega), g4, g5, pays_X g1]
      have inner : ∀ (K : Int32 → Int32 → Int32 → Int32) (x5 x4 x3 : Int32) (k i n m : Nat) (x6 : Int32), i + k = ne → k < n → k < m → fX4_best_c48 v (nI p) a2 K n (nI i) x6 x5 x4 x3 = (if fX3_tenthsGained_c6 u (nI (paysN (kd p) (cv p))) a2 x5 m (nI i) x6 ≤ x4 then K (x5 + 1) x4 x3 else K (x5 + 1) (fX3_tenthsGained_c6 u (nI (paysN (kd p) (cv p))) a2 x5 m (nI i) x6) x5) := by
        intro K x5 x4 x3 k
        induction k with
        | zero =>
          intro i n m x6 h1 h2 h3
          obtain ⟨n, rfl⟩ : ∃ j, n = j + 1 := ⟨n - 1, by omega⟩
          obtain ⟨m, rfl⟩ : ∃ j, m = j + 1 := ⟨m - 1, by omega⟩
          rw [fX4_best_c48, fX3_tenthsGained_c6, ue, ve, if_pos (nI_le (by omega) (by omega)), if_pos (nI_le (by omega) (by omega))]
          by_cases q : x6 ≤ x4
          · rw [if_pos q, if_pos q, if_pos q]
          · rw [if_neg q, if_neg q, if_neg q]
        | succ k ih =>
          intro i n m x6 h1 h2 h3
          obtain ⟨n, rfl⟩ : ∃ j, n = j + 1 := ⟨n - 1, by omega⟩
          obtain ⟨m, rfl⟩ : ∃ j, m = j + 1 := ⟨m - 1, by omega⟩
          obtain ⟨c1, c2, c3⟩ := hch i (by omega)
          rw [fX4_best_c48, fX3_tenthsGained_c6, ue, ve, if_neg (nI_ge (by omega) (by omega)), if_neg (nI_ge (by omega) (by omega)), nI_clamp (show i < 2 ^ 31 by omega), c2, c3, paysOf_M (by omega) g1 g7 g8, show fX4_isIn x5 (nI i) = fX3_isIn x5 (nI i) from rfl, nI_1]
          by_cases q : fX3_isIn x5 (nI i) = 0
          · rw [if_pos q, if_pos q, Int32.add_zero]
            exact ih (i + 1) n m x6 (by omega) (by omega) (by omega)
          · rw [if_neg q, if_neg q]
            exact ih (i + 1) n m _ (by omega) (by omega) (by omega)
      have outer : ∀ (k i n m : Nat) (g s : Int32), i + k = 2 ^ ne - 1 → k < n → k < m → fX3_best_c53 u (nI p) a2 n (nI i) g s (nI (paysN (kd p) (cv p))) = fX4_best_c33 v (nI p) a2 m (nI i) g s := by
        intro k
        induction k with
        | zero =>
          intro i n m g s h1 h2 h3
          obtain ⟨n, rfl⟩ : ∃ j, n = j + 1 := ⟨n - 1, by omega⟩
          obtain ⟨m, rfl⟩ : ∃ j, m = j + 1 := ⟨m - 1, by omega⟩
          rw [fX3_best_c53, fX4_best_c33, allX hne ue, allM hne ve, if_pos (nI_le (by omega) (by omega)), if_pos (nI_le (by omega) (by omega))]
        | succ k ih =>
          intro i n m g s h1 h2 h3
          obtain ⟨n, rfl⟩ : ∃ j, n = j + 1 := ⟨n - 1, by omega⟩
          obtain ⟨m, rfl⟩ : ∃ j, m = j + 1 := ⟨m - 1, by omega⟩
          rw [fX3_best_c53, fX4_best_c33, allX hne ue, allM hne ve, if_neg (nI_ge (by omega) (by omega)), if_neg (nI_ge (by omega) (by omega)), fX3_tenthsGained]
          have hin := inner (fun x5 x4 x3 => fX4_best_c33 v (nI p) a2 m x5 x4 x3) (nI i) g s ne 0 6 6 0 (by omega) (by omega) (by omega)
          rw [nI_0] at hin
          rw [hin, nI_1, ih (i + 1) n m _ _ (by omega) (by omega) (by omega), ih (i + 1) n m _ _ (by omega) (by omega) (by omega)]
      rcases Nat.lt_or_ge (2 ^ ne - 1) 1 with q | q
      · have e0 : 2 ^ ne - 1 = 0 := by omega
        rw [fX3_best_c53, fX4_best_c33, allX hne ue, allM hne ve, e0, if_pos (by decide), if_pos (by decide)]
      · have hin := inner (fun x5 x4 x3 => fX4_best_c33 v (nI p) a2 33 x5 x4 x3) 0 0 0 ne 0 6 6 0 (by omega) (by omega) (by omega)
        have h0 : ∀ (m i : Nat), fX3_tenthsGained_c6 u (nI (paysN (kd p) (cv p))) a2 0 m (nI i) 0 = 0 := by
          intro m
          induction m with
          | zero => intro i; rfl
          | succ m ih =>
            intro i
            rw [fX3_tenthsGained_c6]
            split
            · rfl
            · have hz : ∀ i : Int32, fX3_isIn 0 i = 0 := fun i => by
                rw [fX3_isIn, Int32.zero_shiftRight, Int32.zero_and, if_neg (by decide)]
              rw [if_pos (hz _), nI_1]
              exact ih (i + 1)
        rw [h0 6 0, if_pos (by decide)] at hin
        have hM : fX4_best_c33 v (nI p) a2 34 0 0 0 = fX4_best_c33 v (nI p) a2 33 1 0 0 := by
          rw [fX4_best_c33, allM hne ve, if_neg (show ¬ nI (2 ^ ne - 1) ≤ 0 from nI_nle q (by omega))]
          exact hin
        rw [hM]
        exact outer (2 ^ ne - 1 - 1) 1 34 33 0 0 (by omega) (by omega) (by omega)
  · rw [e1, e2, if_pos rfl, if_neg one_ne]
