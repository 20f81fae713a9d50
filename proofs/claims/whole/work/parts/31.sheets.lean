theorem lane01 (x : Int32) : fX3_isLane x = 0 ∨ fX3_isLane x = 1 := by
  unfold fX3_isLane
  split
  · exact Or.inl rfl
  · split
    · exact Or.inl rfl
    · exact Or.inr rfl
theorem make_at {u : Mem} {k : Nat} {p0 p1 : Int32} (hk : k < 4) (a b : Nat) : fX2_makeRow u k p0 p1 a b = if a = 8 ∧ b = k then p0 else if a = 9 ∧ b = k then p1 else if a = 10 + k ∧ b < 60 then 0 else u a b := by
  have key : ∀ (n i : Nat) (w : Mem), i ≤ 60 → 60 < i + n → (∀ a b, w a b = if a = 10 + k ∧ b < i then 0 else u a b) → ∀ a b, fX2_makeRow_c2 u k p0 p1 n w (nI i) a b = if a = 8 ∧ b = k then p0 else if a = 9 ∧ b = k then p1 else if a = 10 + k ∧ b < 60 then 0 else u a b := by
    intro n
    induction n with
    | zero => intro i w h1 h2; omega
    | succ n ih =>
      intro i w h1 h2 hw a b
      rw [fX2_makeRow_c2]
      rcases Nat.lt_or_ge i 60 with q | q
      · rw [if_neg (show ¬ (60 : Int32) ≤ nI i from nI_ge (b := 60) q (by omega)), nI_1, nI_clamp (by omega)]
        refine ih (i + 1) _ q (by omega) ?_ a b
        intro a b
        by_cases z : a = 10 + k ∧ b = i
        · obtain ⟨rfl, rfl⟩ := z
          rw [mset_at, if_pos ⟨rfl, by omega⟩]
        · rw [mset_o z, hw]
          by_cases z2 : a = 10 + k ∧ b < i
          · rw [if_pos z2, if_pos ⟨z2.1, by omega⟩]
          · rw [if_neg z2, if_neg (by omega)]
      · have : i = 60 := by omega
        subst this
        rw [if_pos (show (60 : Int32) ≤ nI 60 by decide)]
        by_cases z : a = 9 ∧ b = k
        · obtain ⟨rfl, rfl⟩ := z
          rw [mset_at, if_neg (by omega), if_pos ⟨rfl, rfl⟩]
        · rw [mset_o z]
          by_cases z2 : a = 8 ∧ b = k
          · obtain ⟨rfl, rfl⟩ := z2
            rw [mset_at, if_pos ⟨rfl, rfl⟩]
          · rw [mset_o z2, hw, if_neg z2, if_neg z]
  exact key 61 0 u (by omega) (by omega) (fun a b => by rw [if_neg (by omega)]) a b
theorem sheetM_at {v w0 : Mem} {k q : Nat} {p1 p2 : Int32} (hk : k < 4) (hq : q ≤ 60) (e : p2 = nI q) : (fX4_sheet_c65 v (nI k) p1 p2 61 w0 0).1 = 1 ∧ ∀ a b, (fX4_sheet_c65 v (nI k) p1 p2 61 w0 0).2 a b = if a = 0 ∧ b = 0 then 0 else if a = 14 ∧ 60 * k ≤ b ∧ b < 60 * k + q then 0 else w0 a b := by
  have key : ∀ (n i : Nat) (w : Mem), i ≤ q → q < i + n → (∀ a b, w a b = if a = 14 ∧ 60 * k ≤ b ∧ b < 60 * k + i then 0 else w0 a b) → (fX4_sheet_c65 v (nI k) p1 p2 n w (nI i)).1 = 1 ∧ ∀ a b, (fX4_sheet_c65 v (nI k) p1 p2 n w (nI i)).2 a b = if a = 0 ∧ b = 0 then 0 else if a = 14 ∧ 60 * k ≤ b ∧ b < 60 * k + q then 0 else w0 a b := by
    intro n
    induction n with
    | zero => intro i w h1 h2; omega
    | succ n ih =>
      intro i w h1 h2 hw
      rw [fX4_sheet_c65, e]
      rcases Nat.lt_or_ge i q with z | z
      · rw [if_neg (nI_ge z (by omega)), nI_1, ← e]
        have ix : (60 * nI k + nI i).toNatClampNeg = 60 * k + i := by
          rw [show (60 : Int32) = nI 60 from rfl, pk_mul, nI_add, nI_clamp (by omega)]
        rw [ix]
        refine ih (i + 1) _ z (by omega) ?_
        intro a b
        by_cases z1 : a = 14 ∧ b = 60 * k + i
        · obtain ⟨rfl, rfl⟩ := z1
          rw [mset_at, if_pos (by omega)]
        · rw [mset_o z1, hw]
          by_cases z2 : a = 14 ∧ 60 * k ≤ b ∧ b < 60 * k + i
          · rw [if_pos z2, if_pos (by omega)]
          · rw [if_neg z2, if_neg (by omega)]
      · have : i = q := by omega
        subst this
        rw [if_pos (nI_le (Nat.le_refl i) (by omega))]
        refine ⟨rfl, fun a b => ?_⟩
        show mset w 0 0 0 a b = _
        by_cases z1 : a = 0 ∧ b = 0
        · obtain ⟨rfl, rfl⟩ := z1
          rw [mset_at, if_pos ⟨rfl, rfl⟩]
        · rw [mset_o z1, hw, if_neg z1]
  exact key 61 0 w0 (by omega) (by omega) (fun a b => by rw [if_neg (by omega)])
/-- the sheets alone have changed, and what a fault tells -/
theorem Rel_sh {u v u' v' : Mem} (h : Rel u v) (hu : ∀ a b, a < 8 → ¬ (a = 0 ∧ b = 8) → u' a b = u a b) (hv : ∀ a b, a < 12 → ¬ (a = 0 ∧ b = 0) → v' a b = v a b) (hf : v' 0 0 = u' 0 8) (hs : ∀ k, k < 4 → v' 12 k = u' 9 k ∧ v' 13 k = u' 8 k ∧ (u' 9 k = -1 ∨ ∃ n : Nat, n ≤ 60 ∧ u' 9 k = nI n ∧ ∀ i, i < n → v' 14 (60 * k + i) = u' (10 + k) i)) : Rel u' v' := by
  obtain ⟨ne, np, nr, ch, kd, cv, sd, rp, rs, ⟨hne, hnp, hnr⟩, ⟨ue, up, ur⟩, ⟨ve, vp, vr⟩, htr, hfl, hch, hpr, hrd, hru, hrv, hsh⟩ := h
  refine ⟨ne, np, nr, ch, kd, cv, sd, rp, rs, ⟨hne, hnp, hnr⟩, ⟨?_, ?_, ?_⟩, ⟨?_, ?_, ?_⟩, ?_, hf, ?_, ?_, ?_, ?_, ?_, hs⟩
  · rw [hu 0 4 (by omega) (by omega)]; exact ue
  · rw [hu 0 5 (by omega) (by omega)]; exact up
  · rw [hu 0 6 (by omega) (by omega)]; exact ur
  · rw [hv 0 1 (by omega) (by omega)]; exact ve
  · rw [hv 0 3 (by omega) (by omega)]; exact vp
  · rw [hv 0 18 (by omega) (by omega)]; exact vr
  · rw [hv 0 26 (by omega) (by omega), hu 0 7 (by omega) (by omega)]; exact htr
  · intro e he
    rw [hu 1 e (by omega) (by omega), hv 1 e (by omega) (by omega)]
    exact hch e he
  · intro p hp
    rw [hu 2 p (by omega) (by omega), hu 3 p (by omega) (by omega), hu 4 p (by omega) (by omega), hv 2 p (by omega) (by omega), hv 3 p (by omega) (by omega), hv 4 p (by omega) (by omega)]
    exact hpr p hp
  · intro r hr
    rw [hu 5 r (by omega) (by omega), hu 6 r (by omega) (by omega), hu 7 r (by omega) (by omega), hv 9 r (by omega) (by omega), hv 10 r (by omega) (by omega), hv 11 r (by omega) (by omega)]
    exact hrd r hr
  · intro r hr
    rw [hu 5 r (by omega) (by omega)]
    exact hru r hr
  · intro r hr
    rw [hv 9 r (by omega) (by omega)]
    exact hrv r hr
theorem eq_sheet {u v : Mem} (hR : Rel u v) (a1 a2 a3 : Int32) : (fX3_sheet u a1 a2 a3).1 = (fX4_sheet v a1 a2 a3).1 ∧ Rel (fX3_sheet u a1 a2 a3).2 (fX4_sheet v a1 a2 a3).2 := by
  have hR0 := hR
  obtain ⟨ne, np, nr, ch, kd, cv, sd, rp, rs, ⟨hne, hnp, hnr⟩, ⟨ue, up, ur⟩, ⟨ve, vp, vr⟩, htr, hfl, hch, hpr, hrd, hru, hrv, hsh⟩ := hR
  rw [fX3_sheet, fX4_sheet, in_lane]
  rcases sheet_cases a1 with ⟨j, hj, rfl, e1, e2⟩ | ⟨e1, e2⟩
  · rw [e1, e2, if_neg one_ne, if_pos rfl]
    rcases lane01 a2 with w | w
    · rw [w, if_pos rfl, if_pos rfl]
      exact ⟨rfl, Rel_fault hR0 0⟩
    rw [w, if_neg one_ne, if_neg one_ne]
    by_cases c1 : a3 ≤ 60
    · rw [if_pos c1, if_pos c1]
      by_cases c2 : 0 ≤ a3
      · rw [if_pos c2, if_pos c2, nI_clamp (by omega)]
        obtain ⟨q, hq, e⟩ := sz_ex c1 c2
        obtain ⟨m1, m2⟩ := sheetM_at (v := v) (w0 := mset (mset v 12 j a3) 13 j a2) (p1 := a2) hj hq e
        refine ⟨m1.symm, ?_⟩
        have x2 := make_at (u := mset u 0 8 0) (p0 := a2) (p1 := a3) hj
        refine Rel_sh hR0 (fun a b ha hb => ?_) (fun a b ha hb => ?_) ?_ ?_
        · dsimp only
          rw [x2, if_neg (by omega), if_neg (by omega), if_neg (by omega), mset_o hb]
        · rw [m2, if_neg hb, if_neg (by omega), mset_o (by omega), mset_o (by omega)]
        · dsimp only
          rw [m2, if_pos ⟨rfl, rfl⟩, x2, if_neg (by omega), if_neg (by omega), if_neg (by omega), mset_at]
        · intro k hk
          dsimp only
          rw [m2, if_neg (by omega), if_neg (by omega), m2, if_neg (by omega), if_neg (by omega), x2 9 k, x2 8 k]
          by_cases z : k = j
          · subst z
            rw [if_neg (show ¬ (9 = 8 ∧ k = k) by omega), if_pos (show 9 = 9 ∧ k = k from ⟨rfl, rfl⟩), if_pos (show 8 = 8 ∧ k = k from ⟨rfl, rfl⟩), mset_o (by omega), mset_at, mset_at]
            refine ⟨rfl, rfl, Or.inr ⟨q, hq, e, fun i hi => ?_⟩⟩
            rw [m2, if_neg (by omega), if_pos (by omega), x2, if_neg (by omega), if_neg (by omega), if_pos ⟨rfl, by omega⟩]
          · rw [if_neg (show ¬ (9 = 8 ∧ k = j) by omega), if_neg (show ¬ (9 = 9 ∧ k = j) by omega), if_neg (show ¬ (9 = 10 + j ∧ k < 60) by omega), if_neg (show ¬ (8 = 8 ∧ k = j) by omega), if_neg (show ¬ (8 = 9 ∧ k = j) by omega), if_neg (show ¬ (8 = 10 + j ∧ k < 60) by omega), mset_o (by omega), mset_o (by omega), mset_o (by omega), mset_o (by omega), mset_o (by omega), mset_o (by omega)]
            obtain ⟨h1, h2, h3⟩ := hsh k hk
            refine ⟨h1, h2, h3.elim Or.inl (fun ⟨n, hn, en, hc⟩ => Or.inr ⟨n, hn, en, fun i hi => ?_⟩)⟩
            rw [m2, if_neg (by omega), if_neg (by omega), mset_o (by omega), mset_o (by omega), x2, if_neg (by omega), if_neg (by omega), if_neg (by omega), mset_o (by omega)]
            exact hc i hi
      · rw [if_neg c2, if_neg c2]
        exact ⟨rfl, Rel_fault2 hR0 4⟩
    · rw [if_neg c1, if_neg c1]
      exact ⟨rfl, Rel_fault hR0 0⟩
  · rw [e1, e2, if_pos rfl, if_neg one_ne]
    exact ⟨rfl, Rel_fault hR0 0⟩
theorem eq_put {u v : Mem} (hR : Rel u v) (a1 a2 a3 : Int32) : (fX3_put u a1 a2 a3).1 = (fX4_put v a1 a2 a3).1 ∧ Rel (fX3_put u a1 a2 a3).2 (fX4_put v a1 a2 a3).2 := by
  have hR0 := hR
  obtain ⟨ne, np, nr, ch, kd, cv, sd, rp, rs, ⟨hne, hnp, hnr⟩, ⟨ue, up, ur⟩, ⟨ve, vp, vr⟩, htr, hfl, hch, hpr, hrd, hru, hrv, hsh⟩ := hR
  rw [fX3_put, fX4_put]
  rcases sheet_cases a1 with ⟨j, hj, rfl, e1, e2⟩ | ⟨e1, e2⟩
  · rw [e1, e2, if_neg one_ne, if_pos rfl, nI_clamp (by omega)]
    obtain ⟨h1, h2, h3⟩ := hsh j hj
    have h3' := szx h3
    rcases cell_flaw (u := mset u 0 8 0) (v := v) (i := a2) hj h1 h3' with ⟨f1, f2, q, a, hq, eq, ea, haq⟩ | ⟨x, hx, f1, f2, -⟩
    · have eq : u 9 j = nI q := eq
      rw [f1, f2, if_pos rfl, if_pos (show (0 : Int32) ≤ 0 by decide)]
      have ix : (60 * nI j + a2).toNatClampNeg = 60 * j + a := by
        rw [show (60 : Int32) = nI 60 from rfl, pk_mul, ea, nI_add, nI_clamp (by omega)]
      have hr : ¬ fX2_reaches (mset u 0 8 0) j a2 1 = 0 := (reach_iff (q := q) hq eq).mpr ⟨by rw [ea, nI_int (by omega)]; omega, by decide, by rw [ea, nI_int (by omega), show (1 : Int32).toInt = 1 from rfl]; omega⟩
      have hst : fX2_store (mset u 0 8 0) j a2 a3 = mset (mset u 0 8 0) (10 + j) a (fX2_cut (mset u 0 8 0) j a3) := by
        rw [fX2_store, if_neg hr, ea, nI_clamp (by omega)]
      have hrel : ∀ x : Int32, Rel (mset (mset u 0 8 0) (10 + j) a x) (mset (mset v 14 (60 * j + a) x) 0 0 0) := by
        intro x
        refine Rel_sh hR0 (fun a b ha hb => by rw [mset_o (by omega), mset_o hb]) (fun a b ha hb => by rw [mset_o hb, mset_o (by omega)]) (by rw [mset_at, mset_o (by omega), mset_at]) ?_
        intro k hk
        rw [mset_o (by omega), mset_o (by omega), mset_o (by omega), mset_o (by omega), mset_o (by omega), mset_o (by omega), mset_o (by omega), mset_o (by omega)]
        obtain ⟨g1, g2, g3⟩ := hsh k hk
        refine ⟨g1, g2, g3.elim Or.inl (fun ⟨n, hn, en, hc⟩ => Or.inr ⟨n, hn, en, fun i hi => ?_⟩)⟩
        rw [mset_o (by omega)]
        by_cases z : 60 * k + i = 60 * j + a
        · have z1 : k = j := by omega
          have z2 : i = a := by omega
          subst z1 z2
          rw [mset_at, mset_at]
        · rw [mset_o (by omega), mset_o (by omega), mset_o (by omega)]
          exact hc i hi
      rw [hst, fX2_cut, h2, ix, mset_o (show ¬ (8 = 0 ∧ j = 8) by omega)]
      by_cases c1 : u 8 j = 0
      · rw [if_pos c1, if_pos c1]
        exact ⟨rfl, hrel _⟩
      · rw [if_neg c1, if_neg c1]
        by_cases c2 : u 8 j = 1
        · rw [if_pos c2, if_pos c2]
          exact ⟨rfl, hrel _⟩
        · rw [if_neg c2, if_neg c2]
          exact ⟨rfl, hrel _⟩
    · rw [f1, f2]
      rcases hx with rfl | rfl
      · rw [if_neg one_ne, if_neg (by decide)]
        exact ⟨rfl, Rel_fault2 hR0 1⟩
      · rw [if_neg (by decide), if_neg (by decide)]
        exact ⟨rfl, Rel_fault2 hR0 3⟩
  · rw [e1, e2, if_pos rfl, if_neg one_ne]
    exact ⟨rfl, Rel_fault hR0 0⟩
theorem eq_cell {u v : Mem} (hR : Rel u v) (a1 a2 a3 : Int32) : (fX3_cell u a1 a2 a3).1 = (fX4_cell v a1 a2 a3).1 ∧ Rel (fX3_cell u a1 a2 a3).2 (fX4_cell v a1 a2 a3).2 := by
  have hR0 := hR
  obtain ⟨ne, np, nr, ch, kd, cv, sd, rp, rs, ⟨hne, hnp, hnr⟩, ⟨ue, up, ur⟩, ⟨ve, vp, vr⟩, htr, hfl, hch, hpr, hrd, hru, hrv, hsh⟩ := hR
  rw [fX3_cell, fX4_cell, in_lane]
  have hF : ∀ x : Int32, Rel (mset (mset u 0 8 0) 0 8 x) (mset (mset v 0 0 0) 0 0 x) := fun x => by
    refine Rel_same hR0 (fun a b q => by rw [mset_o (by omega), mset_o (by omega)]) (fun a b q => by rw [mset_o (by unfold KpM at q; omega), mset_o (by unfold KpM at q; omega)]) ?_ ?_
    · rw [mset_o (by omega), mset_o (by omega), mset_o (by omega), mset_o (by omega), rel_tr hR0]
    · rw [mset_at, mset_at]
  have hF0 : Rel (mset (mset u 0 8 0) 0 8 0) (mset v 0 0 0) := Rel_fault2 hR0 0
  rcases sheet_cases a1 with ⟨j, hj, rfl, e1, e2⟩ | ⟨e1, e2⟩
  · rw [e1, e2, if_neg one_ne, if_pos rfl]
    rcases lane01 a3 with w | w
    · rw [w, if_pos rfl, if_pos rfl]
      exact ⟨rfl, Rel_fault hR0 0⟩
    rw [w, if_neg one_ne, if_neg one_ne, nI_clamp (by omega), mset_at]
    obtain ⟨h1, h2, h3⟩ := hsh j hj
    have h3' := szx h3
    by_cases cl : u 8 j = a3
    · have hc := cell_flaw (u := mset u 0 8 0) (v := mset v 0 0 0) (i := a2) hj h1 h3'
      rw [show (mset u 0 8 0) 8 j = a3 from cl] at hc
      rcases hc with ⟨f1, f2, q, a, hq, eq, ea, haq⟩ | ⟨x, hx, f1, f2, f3⟩
      · have eq : u 9 j = nI q := eq
        have ix : (60 * nI j + a2).toNatClampNeg = 60 * j + a := by
          rw [show (60 : Int32) = nI 60 from rfl, pk_mul, ea, nI_add, nI_clamp (by omega)]
        have hz : v 14 (60 * j + a) = u (10 + j) a := by
          rcases h3 with z | ⟨n, hn, en, hc⟩
          · exact absurd (eq.symm.trans z) (fun z => nI_pos (n := q) (by omega) (by rw [z]; decide))
          · exact hc a (by have := (nI_eq (by omega) (by omega)).mp (eq.symm.trans en); omega)
        rw [f1, f2, if_pos rfl, if_neg (show ¬ (mset v 0 0 0) 12 j < 0 from by rw [mset_o (by omega), h1, eq]; exact nI_pos (by omega)), if_pos (show (mset v 0 0 0) 13 j = a3 from by rw [mset_o (by omega), h2, cl]), if_pos (show (0 : Int32) ≤ 0 by decide), ix, ea, nI_clamp (show a < 2 ^ 31 by omega), mset_o (show ¬ (14 = 0 ∧ 60 * j + a = 0) by omega), mset_o (show ¬ (10 + j = 0 ∧ a = 8) by omega), mset_o (show ¬ (10 + j = 0 ∧ a = 8) by omega), hz]
        exact ⟨rfl, hF0⟩
      · have hx0 : ¬ x = 0 := by rcases hx with rfl | rfl <;> decide
        have hxle : ¬ x ≤ 0 := by rcases hx with rfl | rfl <;> decide
        rw [f1, f2, if_neg hx0, if_neg hxle, if_pos (show (mset v 0 0 0) 13 j = a3 from by rw [mset_o (by omega), h2, cl])]
        split <;> exact ⟨rfl, hF x⟩
    · rcases h3' with z | ⟨q, hq, z⟩
      · have f1 : fX2_flaw (mset u 0 8 0) j a3 a2 1 = 1 := by
          rw [fX2_flaw, fX2_isEmpty, if_pos (show (mset u 0 8 0) 9 j = -1 from z), if_neg one_ne]
        have f2 : fX4_noCell (mset v 0 0 0) (nI j) a2 = 1 := by
          rw [fX4_noCell, nI_clamp (by omega), if_neg (show ¬ 0 ≤ (mset v 0 0 0) 12 j from by rw [mset_o (by omega), h1, z]; decide)]
        rw [f1, f2, if_neg one_ne, if_pos (show (mset v 0 0 0) 12 j < 0 from by rw [mset_o (by omega), h1, z]; decide), if_neg (show ¬ (1 : Int32) ≤ 0 by decide)]
        exact ⟨rfl, hF 1⟩
      · have f1 : fX2_flaw (mset u 0 8 0) j a3 a2 1 = 2 := by
          rw [fX2_flaw, fX2_isEmpty, if_neg (show ¬ (mset u 0 8 0) 9 j = -1 from fun y => nI_pos (n := q) (by omega) (by rw [← z, show u 9 j = -1 from y]; decide)), if_pos rfl, if_neg (show ¬ a3 = (mset u 0 8 0) 8 j from fun y => cl y.symm)]
        rw [f1, if_neg (by decide), if_neg (show ¬ (mset v 0 0 0) 12 j < 0 from by rw [mset_o (by omega), h1, z]; exact nI_pos (by omega)), if_neg (show ¬ (mset v 0 0 0) 13 j = a3 from by rw [mset_o (by omega), h2]; exact cl)]
        exact ⟨rfl, hF 2⟩
  · rw [e1, e2, if_pos rfl, if_neg one_ne]
    exact ⟨rfl, Rel_fault hR0 0⟩
