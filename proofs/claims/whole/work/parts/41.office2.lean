theorem ev_num {v : Mem} {a L e : Nat} (h : EvOk v a L e) {i : Nat} (hi : i < e) : ∃ d : Nat, d ≤ 9 ∧ v 14 (a + (2 + 2 * i)) - 48 = nI d := by
  obtain ⟨-, -, h3⟩ := h i hi
  obtain ⟨d, h1, -, h2⟩ := dig_ex (m := 9) (by decide) (by omega) h3
  exact ⟨d, h1, h2⟩
theorem cl_nI {x : Int32} {n : Nat} (h : x = nI n) (hn : n < 1000) : x.toNatClampNeg = n ∧ x = nI x.toNatClampNeg := by
  have : x.toNatClampNeg = n := by rw [h]; exact nI_clamp (by omega)
  exact ⟨this, by rw [this]; exact h⟩
theorem eq_office {u v : Mem} (hR : Rel u v) (a1 a2 a3 a4 : Int32) : (fX3_office u a1 a2 a3 a4).1 = (fX4_office v a1 a2 a3 a4).1 ∧ Rel (fX3_office u a1 a2 a3 a4).2 (fX4_office v a1 a2 a3 a4).2 := by
  have hR0 := hR
  obtain ⟨ne, np, nr, ch, kd, cv, sd, rp, rs, ⟨hne, hnp, hnr⟩, ⟨ue, up, ur⟩, ⟨ve, vp, vr⟩, htr, hfl, hch, hpr, hrd, hru, hrv, hsh⟩ := hR
  have hz := Rel_fault hR0 0
  rcases sheet_cases a1 with ⟨j, hj, rfl, e1, e2⟩ | ⟨e1, e2⟩
  · rw [fX3_office, fX4_office, e1, e2, if_neg one_ne, if_pos rfl, in_lane]
    by_cases c2 : fX3_isLane a2 = 0
    · rw [if_pos c2, if_pos c2]
      exact ⟨rfl, hz⟩
    rw [if_neg c2, if_neg c2, nI_clamp (show j < 2 ^ 31 by omega)]
    have hUo : ∀ a b, ¬ (a = 0 ∧ b = 8) → mset u 0 8 0 a b = u a b := fun a b h => mset_o h
    have hU8 : mset u 0 8 0 0 8 = 0 := mset_at
    generalize hU : mset u 0 8 0 = U at hz hUo hU8 ⊢
    obtain ⟨h1, h2, h3⟩ := hsh j hj
    have h3' := szx (v := v) h3
    rw [← hUo 9 j (by omega)] at h1 h3'
    rw [← hUo 8 j (by omega)] at h2
    rcases cb_flaw (lane := a2) (i := a3) (n := a4) hj h1 h2 h3' with ⟨q1, q2⟩ | ⟨x, hx, q1, q2⟩
    · rw [q1, q2, if_pos rfl, if_pos (show (0 : Int32) ≤ (0, v).1 from (by decide : (0 : Int32) ≤ 0))]
      obtain ⟨q, s, L, hq, e9, rfl, rfl, hsL⟩ := flaw_ok h3' q1
      have hcell : ∀ i, i < L → U (10 + j) (s + i) = v 14 (60 * j + s + i) := by
        intro i hi
        rw [hUo 9 j (by omega)] at e9
        rcases h3 with h | ⟨n, hn, e, hcc⟩
        · rw [h] at e9
          exact absurd e9.symm (fun z => nI_pos (n := q) (by omega) (by rw [z]; decide))
        · have : n = q := (nI_eq (by omega) (by omega)).mp (e.symm.trans e9)
          subst this
          rw [hUo (10 + j) _ (by omega), Nat.add_assoc]
          exact (hcc (s + i) (by omega)).symm
      have e60 : 60 * nI j + nI s = nI (60 * j + s) := by rw [show (60 : Int32) = nI 60 from rfl, pk_mul, nI_add]
      rw [nI_add, e60]
      rcases parse_both (kk := j) (a := 60 * j + s) (s := s) (L := L) (by omega) (by omega) hcell with ⟨f, f1, f2, W, f3, f4, f5⟩ | ⟨e, k, ⟨k1, k2⟩, ⟨k3, k4⟩, k5, k6, k7, W, k8, k9⟩
      · rw [f2, f3, if_neg (show ¬ nI (s + f) = -9 from fun z => nI_pos (n := s + f) (by omega) (by rw [z]; decide)), if_pos rfl]
        dsimp only
        rw [f4]
        refine ⟨?_, ?_⟩
        · show -100 - (nI (s + f) - nI s) = -100 - nI f
          rw [pk_sub (by omega), show s + f - s = f by omega]
        · show Rel U (mset W 0 0 0)
          refine Rel_same hR0 (fun a b q => hUo a b (by omega)) (fun a b q => ?_) ?_ ?_
          · rw [mset_o (by unfold KpM at q; omega), f5 a b (by unfold KpM at q; omega) (by unfold KpM at q; omega)]
          · rw [mset_o (by omega), f5 0 26 (by omega) (by omega), hUo 0 7 (by omega)]
            exact rel_tr hR0
          · rw [mset_at, hU8]
      · obtain ⟨w7, w8, w9, wk, we, w5, wp⟩ := k9
        obtain ⟨t4, t5, t6, tv, tp, tk⟩ := take_X (kk := j) (U := U) (s := s) (L := L) (e := e) (K := k) (by omega) k2 k4 k5 k7
        rw [k6, k8, if_pos rfl, if_neg one_ne]
        dsimp only
        have ez : mset W 0 1 (W 0 8) 0 9 = nI k := by rw [mset_nei (by decide)]; exact w9
        rw [ez, w8]
        obtain ⟨w', c1, c3, c4⟩ := cp_ev (v := v) (p0 := nI j) (p1 := a2) (p2 := nI s) (p3 := nI L) k2 6 0 (mset (mset W 0 1 (nI e)) 0 3 (nI k)) (by omega) (by omega) (by rw [mset_nei (by decide), mset_at]) (fun j hj => by omega)
        obtain ⟨w2, d1, d2, d3⟩ := cp_pr (v := v) (p0 := nI j) (p1 := a2) (p2 := nI s) (p3 := nI L) k4 5 0 w' (by omega) (by omega) (by rw [c4 0 3 (by omega), mset_at]) (fun j hj => by omega)
        rw [nI_0] at c1 d1
        rw [c1, d1]
        dsimp only
        generalize fX3_takeOffice U j (nI s) (nI (s + L)) = T at t4 t5 t6 tv tp tk ⊢
        refine ⟨t5, e, k, 0, fun i => (v 14 (60 * j + s + (2 + 2 * i)) - 48).toNatClampNeg, fun i => (toneM (v 14 (60 * j + s + (1 + 2 * e + 5 * i + 1)))).toNatClampNeg, fun i => (v 14 (60 * j + s + (1 + 2 * e + 5 * i + 2)) - 48).toNatClampNeg, fun i => (10 * (v 14 (60 * j + s + (1 + 2 * e + 5 * i + 3)) - 48) + (v 14 (60 * j + s + (1 + 2 * e + 5 * i + 4)) - 48)).toNatClampNeg, rp, rs, ⟨k2, k4, by omega⟩, ⟨t4, t5, t6⟩, ⟨?_, ?_, ?_⟩, ?_, ?_, fun i hi => ?_, fun i hi => ?_, fun r hr => by omega, fun r hr => ?_, fun r hr => ?_, fun o ho => ?_⟩
        · rw [mset_o (by omega), mset_o (by omega), d3 0 1 (by omega), c4 0 1 (by omega), mset_o (by omega), mset_at]
        · rw [mset_o (by omega), mset_o (by omega), d3 0 3 (by omega), c4 0 3 (by omega), mset_at]
        · rw [mset_o (by omega), mset_at, nI_0]
        · rw [mset_o (by omega), mset_o (by omega), d3 0 26 (by omega), c4 0 26 (by omega), mset_o (by omega), mset_o (by omega), wk 0 26 (by omega) (by omega), tk 0 7 (by omega) (by omega), hUo 0 7 (by omega)]
          exact htr
        · rw [mset_at, tk 0 8 (by omega) (by omega), hU8]
        · obtain ⟨d, hd, ed⟩ := ev_num we hi
          obtain ⟨g1, g2⟩ := cl_nI ed (by omega)
          dsimp only
          refine ⟨by rw [g1]; exact hd, ?_, ?_⟩
          · rw [tv i hi, hcell _ (we i hi).1]
            exact g2
          · rw [mset_o (by omega), mset_o (by omega), d3 1 i (by omega), c3 i hi, mset_o (by omega), mset_o (by omega), w5 i hi]
            exact g2
        · obtain ⟨y1, y2, y3, y4⟩ := wp i hi
          obtain ⟨t, c, z, b1, b2, b3, b4, b5, b6, b7, b8⟩ := pr_num y1
          obtain ⟨z1, z2, z3⟩ := tp i hi
          obtain ⟨x1, x2, x3⟩ := d2 i hi
          have fl := fun j hj => (y1 j hj).1
          have q1 := fl 1 (by omega)
          have q2 := fl 2 (by omega)
          have q3 := fl 3 (by omega)
          have q4 := fl 4 (by omega)
          obtain ⟨n1, n2⟩ := cl_nI b4 (by omega)
          obtain ⟨n3, n4⟩ := cl_nI b6 (by omega)
          obtain ⟨n5, n6⟩ := cl_nI b7 (by omega)
          dsimp only
          refine ⟨⟨by rw [n1]; exact b1, by rw [n3]; exact b2, by rw [n5]; exact b3⟩, ⟨?_, ?_, ?_⟩, ?_, ?_, ?_⟩
          · rw [z1, hcell _ q1, b5, n1]
          · rw [z2, hcell _ q2]
            exact n4
          · rw [z3, hcell _ q3, hcell _ q4, b8, n5]
          · rw [mset_o (by omega), mset_o (by omega), x1, c4 6 i (by omega), mset_o (by omega), mset_o (by omega), y2]
            exact n2
          · rw [mset_o (by omega), mset_o (by omega), x2, c4 7 i (by omega), mset_o (by omega), mset_o (by omega), y3]
            exact n4
          · rw [mset_o (by omega), mset_o (by omega), x3, c4 8 i (by omega), mset_o (by omega), mset_o (by omega), y4]
            exact n6
        · rw [tk 5 r (by omega) (by omega), hUo 5 r (by omega)]
          exact hru r hr
        · rw [mset_o (by omega), mset_o (by omega), d3 9 r (by omega), c4 9 r (by omega), mset_o (by omega), mset_o (by omega), wk 9 r (by omega) (by omega)]
          exact hrv r hr
        · have hm : ∀ x y, 9 ≤ x → mset (mset w2 0 18 0) 0 0 0 x y = v x y := fun x y hx => by
            rw [mset_o (by omega), mset_o (by omega), d3 x y (by omega), c4 x y (by omega), mset_o (by omega), mset_o (by omega), wk x y (by omega) (by omega)]
          have ht : ∀ x y, 8 ≤ x → T x y = u x y := fun x y hx => by rw [tk x y (by omega) (by omega), hUo x y (by omega)]
          rw [hm 12 o (by omega), hm 13 o (by omega), ht 9 o (by omega), ht 8 o (by omega)]
          obtain ⟨b1, b2, b3⟩ := hsh o ho
          refine ⟨b1, b2, ?_⟩
          rcases b3 with b | ⟨n, hn, b, bc⟩
          · exact Or.inl b
          · exact Or.inr ⟨n, hn, b, fun i hi => by rw [hm 14 _ (by omega), ht (10 + o) i (by omega)]; exact bc i hi⟩
    · rw [q1, q2, if_neg (show ¬ x = 0 by rcases hx with rfl | rfl | rfl | rfl <;> decide), if_neg (show ¬ (0 : Int32) ≤ (-10 - x, mset v 0 0 x).1 from (by rcases hx with rfl | rfl | rfl | rfl <;> decide : ¬ (0 : Int32) ≤ -10 - x))]
      refine ⟨rfl, ?_⟩
      rw [← hU]
      exact Rel_fault2 hR0 x
  · rw [fX3_office, fX4_office, e1, e2, if_pos rfl, if_neg one_ne]
    exact ⟨rfl, hz⟩
