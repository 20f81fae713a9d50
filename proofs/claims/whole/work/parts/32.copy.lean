theorem hands_at {v : Mem} {k q i0 : Nat} {p2 p3 p4 : Int32} (hk : k < 4) (hq : i0 + q ≤ 60) (e : p4 = nI q) : ∃ w : Mem, fX4_copy_c107 v (nI k) (nI i0) p2 p3 p4 61 v 0 = fX4_copy_c144 v (nI k) (nI i0) p2 p3 p4 61 w 0 ∧ ∀ a b, w a b = if a = 15 ∧ b < q then v 14 (60 * k + i0 + b) else v a b := by
  have key : ∀ (n i : Nat) (w : Mem), i ≤ q → q < i + n → (∀ a b, w a b = if a = 15 ∧ b < i then v 14 (60 * k + i0 + b) else v a b) → ∃ w' : Mem, fX4_copy_c107 v (nI k) (nI i0) p2 p3 p4 n w (nI i) = fX4_copy_c144 v (nI k) (nI i0) p2 p3 p4 61 w' 0 ∧ ∀ a b, w' a b = if a = 15 ∧ b < q then v 14 (60 * k + i0 + b) else v a b := by
    intro n
    induction n with
    | zero => intro i w h1 h2; omega
    | succ n ih =>
      intro i w h1 h2 hw
      rw [fX4_copy_c107, e]
      rcases Nat.lt_or_ge i q with z | z
      · have ix : ((60 * nI k + nI i0) + nI i).toNatClampNeg = 60 * k + i0 + i := by
          rw [show (60 : Int32) = nI 60 from rfl, pk_mul, nI_add, nI_add, nI_clamp (by omega)]
        rw [if_neg (nI_ge z (by omega)), nI_1, ← e, ix, nI_clamp (show i < 2 ^ 31 by omega)]
        refine ih (i + 1) _ z (by omega) ?_
        intro a b
        by_cases z1 : a = 15 ∧ b = i
        · obtain ⟨rfl, rfl⟩ := z1
          rw [mset_at, if_pos (by omega), hw, if_neg (by omega)]
        · rw [mset_o z1, hw]
          by_cases z2 : a = 15 ∧ b < i
          · rw [if_pos z2, if_pos (by omega)]
          · rw [if_neg z2, if_neg (by omega)]
      · have : i = q := by omega
        subst this
        rw [if_pos (nI_le (Nat.le_refl i) (by omega)), ← e]
        exact ⟨w, rfl, hw⟩
  exact key 61 0 v (by omega) (by omega) (fun a b => by rw [if_neg (by omega)])
theorem laid_at {v w0 : Mem} {o q j0 : Nat} {p0 p1 p4 : Int32} (ho : o < 4) (hq : j0 + q ≤ 60) (e : p4 = nI q) : (fX4_copy_c144 v p0 p1 (nI o) (nI j0) p4 61 w0 0).1 = p4 ∧ ∀ a b, (fX4_copy_c144 v p0 p1 (nI o) (nI j0) p4 61 w0 0).2 a b = if a = 0 ∧ b = 0 then 0 else if a = 14 ∧ 60 * o + j0 ≤ b ∧ b < 60 * o + j0 + q then w0 15 (b - (60 * o + j0)) else w0 a b := by
  have key : ∀ (n i : Nat) (w : Mem), i ≤ q → q < i + n → (∀ a b, w a b = if a = 14 ∧ 60 * o + j0 ≤ b ∧ b < 60 * o + j0 + i then w0 15 (b - (60 * o + j0)) else w0 a b) → (fX4_copy_c144 v p0 p1 (nI o) (nI j0) p4 n w (nI i)).1 = p4 ∧ ∀ a b, (fX4_copy_c144 v p0 p1 (nI o) (nI j0) p4 n w (nI i)).2 a b = if a = 0 ∧ b = 0 then 0 else if a = 14 ∧ 60 * o + j0 ≤ b ∧ b < 60 * o + j0 + q then w0 15 (b - (60 * o + j0)) else w0 a b := by
    intro n
    induction n with
    | zero => intro i w h1 h2; omega
    | succ n ih =>
      intro i w h1 h2 hw
      rw [fX4_copy_c144]
      rcases Nat.lt_or_ge i q with z | z
      · have ix : ((60 * nI o + nI j0) + nI i).toNatClampNeg = 60 * o + j0 + i := by
          rw [show (60 : Int32) = nI 60 from rfl, pk_mul, nI_add, nI_add, nI_clamp (by omega)]
        rw [if_neg (by rw [e]; exact nI_ge z (by omega)), nI_1, ix, nI_clamp (show i < 2 ^ 31 by omega)]
        refine ih (i + 1) _ z (by omega) ?_
        intro a b
        by_cases z1 : a = 14 ∧ b = 60 * o + j0 + i
        · obtain ⟨rfl, rfl⟩ := z1
          rw [mset_at, if_pos (by omega), hw, if_neg (by omega), show 60 * o + j0 + i - (60 * o + j0) = i by omega]
        · rw [mset_o z1, hw]
          by_cases z2 : a = 14 ∧ 60 * o + j0 ≤ b ∧ b < 60 * o + j0 + i
          · rw [if_pos z2, if_pos (by omega)]
          · rw [if_neg z2, if_neg (by omega)]
      · have : i = q := by omega
        subst this
        rw [if_pos (by rw [e]; exact nI_le (Nat.le_refl i) (by omega))]
        refine ⟨rfl, fun a b => ?_⟩
        show mset w 0 0 0 a b = _
        by_cases z1 : a = 0 ∧ b = 0
        · obtain ⟨rfl, rfl⟩ := z1
          rw [mset_at, if_pos ⟨rfl, rfl⟩]
        · rw [mset_o z1, hw, if_neg z1]
  exact key 61 0 w0 (by omega) (by omega) (fun a b => by rw [if_neg (by omega)])
theorem eq_copy {u v : Mem} (hR : Rel u v) (a1 a2 a3 a4 a5 : Int32) : (fX3_copy u a1 a2 a3 a4 a5).1 = (fX4_copy v a1 a2 a3 a4 a5).1 ∧ Rel (fX3_copy u a1 a2 a3 a4 a5).2 (fX4_copy v a1 a2 a3 a4 a5).2 := by
  have hR0 := hR
  obtain ⟨ne, np, nr, ch, kd, cv, sd, rp, rs, ⟨hne, hnp, hnr⟩, ⟨ue, up, ur⟩, ⟨ve, vp, vr⟩, htr, hfl, hch, hpr, hrd, hru, hrv, hsh⟩ := hR
  rw [fX3_copy, fX4_copy]
  rcases sheet_cases a1 with ⟨k, hk, rfl, e1, e2⟩ | ⟨e1, e2⟩
  · rw [e1, e2, if_neg one_ne, if_pos rfl]
    rcases sheet_cases a3 with ⟨o, ho, rfl, e3, e4⟩ | ⟨e3, e4⟩
    · rw [e3, e4, if_neg one_ne, if_pos rfl, nI_clamp (show k < 2 ^ 31 by omega), nI_clamp (show o < 2 ^ 31 by omega), fX2_isEmpty, fX2_isEmpty, mset_o (show ¬ (9 = 0 ∧ k = 8) by omega), mset_o (show ¬ (9 = 0 ∧ o = 8) by omega), mset_o (show ¬ (8 = 0 ∧ k = 8) by omega), mset_o (show ¬ (8 = 0 ∧ o = 8) by omega)]
      obtain ⟨h1, h2, h3⟩ := hsh k hk
      obtain ⟨g1, g2, g3⟩ := hsh o ho
      rw [h1, h2, g1, g2]
      rcases h3 with z | ⟨q, hq, z, hc⟩
      · rw [z, if_pos rfl, if_neg one_ne, if_pos (show (-1 : Int32) < 0 by decide)]
        exact ⟨rfl, Rel_fault2 hR0 1⟩
      rw [z, if_neg (show ¬ nI q = -1 from fun y => nI_pos (n := q) (by omega) (by rw [y]; decide)), if_pos rfl, if_neg (nI_pos (by omega))]
      rcases g3 with y | ⟨r, hr, y, hd⟩
      · rw [y, if_pos rfl, if_neg one_ne, if_neg (show ¬ (0 : Int32) ≤ -1 by decide)]
        exact ⟨rfl, Rel_fault2 hR0 1⟩
      rw [y, if_neg (show ¬ nI r = -1 from fun y => nI_pos (n := r) (by omega) (by rw [y]; decide)), if_pos rfl, if_pos (nI_pos' (by omega))]
      by_cases cl : u 8 k = u 8 o
      · rw [if_pos cl, if_pos cl]
        have r1 := reach_iff (u := mset u 0 8 0) (a := a2) (n := a5) hq (show (mset u 0 8 0) 9 k = nI q from z)
        have b1 := bey_iff (i := a2) (n := a5) hq
        have r2 := reach_iff (u := mset u 0 8 0) (a := a4) (n := a5) hr (show (mset u 0 8 0) 9 o = nI r from y)
        have b2 := bey_iff (i := a4) (n := a5) hr
        by_cases c1 : fX2_reaches (mset u 0 8 0) k a2 a5 = 0
        · rw [if_pos c1, if_neg (fun t => r1.mpr (b1.mp t) c1)]
          exact ⟨rfl, Rel_fault2 hR0 3⟩
        rw [if_neg c1, if_pos (b1.mpr (r1.mp c1))]
        by_cases c2 : fX2_reaches (mset u 0 8 0) o a4 a5 = 0
        · rw [if_pos c2, if_neg (fun t => r2.mpr (b2.mp t) c2)]
          exact ⟨rfl, Rel_fault2 hR0 3⟩
        rw [if_neg c2, if_pos (b2.mpr (r2.mp c2))]
        obtain ⟨s1, s2, s3⟩ := r1.mp c1
        obtain ⟨s4, -, s6⟩ := r2.mp c2
        obtain ⟨i0, rfl, hi, -⟩ := int_ex s1
        obtain ⟨j0, rfl, hj, -⟩ := int_ex s4
        obtain ⟨n, rfl, hn, -⟩ := int_ex s2
        obtain ⟨w, ew, hw⟩ := hands_at (v := v) (k := k) (q := n) (i0 := i0) (p2 := nI o) (p3 := nI j0) (p4 := nI n) hk (by omega) rfl
        obtain ⟨m1, m2⟩ := laid_at (v := v) (w0 := w) (o := o) (q := n) (j0 := j0) (p0 := nI k) (p1 := nI i0) (p4 := nI n) ho (by omega) rfl
        rw [ew, nI_clamp (show i0 < 2 ^ 31 by omega), nI_clamp (show j0 < 2 ^ 31 by omega), nI_clamp (show n < 2 ^ 31 by omega)]
        refine ⟨m1.symm, ?_⟩
        refine Rel_sh hR0 (fun a b ha hb => ?_) (fun a b ha hb => ?_) ?_ ?_
        · dsimp only
          rw [mrow_ne (show a ≠ 10 + o by omega), mset_o hb]
        · rw [m2, if_neg hb, if_neg (by omega), hw, if_neg (by omega)]
        · dsimp only
          rw [m2, if_pos ⟨rfl, rfl⟩, mrow_ne (show 0 ≠ 10 + o by omega), mset_at]
        · intro k' hk'
          dsimp only
          rw [m2, if_neg (by omega), if_neg (by omega), m2, if_neg (by omega), if_neg (by omega), hw, if_neg (by omega), hw, if_neg (by omega), mrow_ne (show 9 ≠ 10 + o by omega), mrow_ne (show 8 ≠ 10 + o by omega), mset_o (by omega), mset_o (by omega)]
          obtain ⟨t1, t2, t3⟩ := hsh k' hk'
          refine ⟨t1, t2, t3.elim Or.inl (fun ⟨sz, hsz, en, hcc⟩ => Or.inr ⟨sz, hsz, en, fun i hi' => ?_⟩)⟩
          rw [m2, if_neg (by omega)]
          by_cases zz : k' = o
          · subst zz
            rw [mrow_at]
            unfold va_cpy
            by_cases z2 : j0 ≤ i ∧ i < j0 + n
            · rw [if_pos (show 14 = 14 ∧ 60 * k' + j0 ≤ 60 * k' + i ∧ 60 * k' + i < 60 * k' + j0 + n by omega), if_pos z2, hw, if_pos (by omega), mset_o (by omega), show 60 * k + i0 + (60 * k' + i - (60 * k' + j0)) = 60 * k + (i0 + (i - j0)) by omega]
              exact hc _ (by omega)
            · rw [if_neg (by omega), if_neg z2, hw, if_neg (by omega), mset_o (by omega)]
              exact hcc i hi'
          · rw [if_neg (by omega), hw, if_neg (by omega), mrow_ne (show 10 + k' ≠ 10 + o by omega), mset_o (by omega)]
            exact hcc i hi'
      · rw [if_neg cl, if_neg cl]
        exact ⟨rfl, Rel_fault2 hR0 2⟩
    · rw [e3, e4, if_pos rfl, if_neg one_ne]
      exact ⟨rfl, Rel_fault hR0 0⟩
  · rw [e1, e2, if_pos rfl, if_neg one_ne]
    exact ⟨rfl, Rel_fault hR0 0⟩
