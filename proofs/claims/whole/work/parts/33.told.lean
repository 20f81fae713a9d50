def AgN (ne nr p k c s : Nat) (kd cv sd rp rs : Nat → Nat) (am : Nat → Int32) (i : Nat) : Prop := ∀ r, i ≤ r → r < nr → nI (paidN (2 ^ ne - 1) (if rp r = p then k else kd (rp r)) (if rp r = p then c else cv (rp r)) (if rp r = p then s else sd (rp r)) (rs r)) = am r
theorem ag_step {ne nr p k c s : Nat} {kd cv sd rp rs : Nat → Nat} {am : Nat → Int32} {i : Nat} (hi : i < nr) : AgN ne nr p k c s kd cv sd rp rs am i ↔ (nI (paidN (2 ^ ne - 1) (if rp i = p then k else kd (rp i)) (if rp i = p then c else cv (rp i)) (if rp i = p then s else sd (rp i)) (rs i)) = am i ∧ AgN ne nr p k c s kd cv sd rp rs am (i + 1)) := by
  refine ⟨fun h => ⟨h i (Nat.le_refl i) hi, fun r h1 h2 => h r (by omega) h2⟩, fun h r h1 h2 => ?_⟩
  rcases Nat.eq_or_lt_of_le h1 with q | q
  · subst q; exact h.1
  · exact h.2 r q h2
theorem ag_end {ne nr p k c s : Nat} {kd cv sd rp rs : Nat → Nat} {am : Nat → Int32} : AgN ne nr p k c s kd cv sd rp rs am nr := fun r h1 h2 => by omega
theorem agree_X {u : Mem} {ne np nr p k c s : Nat} {kd cv sd rp rs : Nat → Nat} (hne : ne ≤ 5) (hnp : np ≤ 4) (hnr : nr ≤ 8) (ue : u 0 4 = nI ne) (ur : u 0 6 = nI nr) (hp : p < np) (hk : k ≤ 2) (hs : s < 32)
    (hpr : ∀ p, p < np → (kd p ≤ 2 ∧ cv p ≤ 9 ∧ sd p ≤ 31) ∧ u 2 p = nI (kd p) ∧ u 3 p = nI (cv p) ∧ u 4 p = nI (sd p)) (hrd : ∀ r, r < nr → (rp r < np ∧ rs r < 2 ^ ne) ∧ u 5 r = nI (rp r) ∧ u 6 r = nI (rs r)) :
    (fX3_agreesWithReadings u (nI p) (nI k) (nI c) (nI s) = 0 ∨ fX3_agreesWithReadings u (nI p) (nI k) (nI c) (nI s) = 1) ∧ (fX3_agreesWithReadings u (nI p) (nI k) (nI c) (nI s) = 1 ↔ AgN ne nr p k c s kd cv sd rp rs (u 7) 0) := by
  have h32 := pow5 hne
  have key : ∀ (n i : Nat), i ≤ nr → nr < i + n → (fX3_agreesWithReadings_c3 u (nI p) (nI k) (nI c) (nI s) n (nI i) = 0 ∨ fX3_agreesWithReadings_c3 u (nI p) (nI k) (nI c) (nI s) n (nI i) = 1) ∧ (fX3_agreesWithReadings_c3 u (nI p) (nI k) (nI c) (nI s) n (nI i) = 1 ↔ AgN ne nr p k c s kd cv sd rp rs (u 7) i) := by
    intro n
    induction n with
    | zero => intro i h1 h2; omega
    | succ n ih =>
      intro i h1 h2
      rw [fX3_agreesWithReadings_c3, ur]
      rcases Nat.lt_or_ge i nr with q | q
      · obtain ⟨⟨g1, g2⟩, g3, g4⟩ := hrd i q
        have hi := ih (i + 1) q (by omega)
        rw [if_neg (nI_ge q (by omega)), nI_clamp (show i < 2 ^ 31 by omega), g3, g4, nI_1, ag_step q]
        by_cases z : rp i = p
        · rw [if_pos (show nI (rp i) = nI p by rw [z]), if_pos z, if_pos z, if_pos z, pay_X hne ue hk hs (by omega)]
          by_cases y : nI (paidN (2 ^ ne - 1) k c s (rs i)) = u 7 i
          · rw [if_pos y]
            exact ⟨hi.1, hi.2.trans ⟨fun t => ⟨y, t⟩, fun t => t.2⟩⟩
          · rw [if_neg y]
            exact ⟨Or.inl rfl, fun t => absurd t (by decide), fun t => absurd t.1 y⟩
        · obtain ⟨⟨t1, t2, t3⟩, t4, t5, t6⟩ := hpr (rp i) g1
          rw [if_neg (lit_ne (by omega) (by omega) z), if_neg z, if_neg z, if_neg z, paidTo_X hne ue (by omega) t1 (by omega) (by omega) t4 t5 t6]
          by_cases y : nI (paidN (2 ^ ne - 1) (kd (rp i)) (cv (rp i)) (sd (rp i)) (rs i)) = u 7 i
          · rw [if_pos y]
            exact ⟨hi.1, hi.2.trans ⟨fun t => ⟨y, t⟩, fun t => t.2⟩⟩
          · rw [if_neg y]
            exact ⟨Or.inl rfl, fun t => absurd t (by decide), fun t => absurd t.1 y⟩
      · have : i = nr := by omega
        subst this
        rw [if_pos (nI_le (Nat.le_refl i) (by omega))]
        exact ⟨Or.inr rfl, fun _ => ag_end, fun _ => rfl⟩
  exact key 9 0 (Nat.zero_le _) (by omega)
theorem areSo_M {W : Mem} {am : Nat → Int32} {ne np nr p k c s : Nat} {kd cv sd rp rs : Nat → Nat} (hne : ne ≤ 5) (hnp : np ≤ 4) (hnr : nr ≤ 8) (ve : W 0 1 = nI ne) (vr : W 0 18 = nI nr)
    (hpr : ∀ q, q < np → ((if q = p then k else kd q) ≤ 2 ∧ (if q = p then s else sd q) < 32) ∧ W 2 q = nI (if q = p then k else kd q) ∧ W 3 q = nI (if q = p then c else cv q) ∧ W 4 q = nI (if q = p then s else sd q)) (hrd : ∀ r, r < nr → (rp r < np ∧ rs r < 2 ^ ne) ∧ W 9 r = nI (rp r) ∧ W 10 r = nI (rs r) ∧ W 11 r = am r) :
    (fX4_areSo W = 0 ∨ fX4_areSo W = 1) ∧ (fX4_areSo W = 1 ↔ AgN ne nr p k c s kd cv sd rp rs am 0) := by
  have key : ∀ (n i : Nat) (x : Int32), i ≤ nr → nr < i + n → (x = 0 ∨ x = 1) → (fX4_areSo_c4 W n (nI i) x = 0 ∨ fX4_areSo_c4 W n (nI i) x = 1) ∧ (fX4_areSo_c4 W n (nI i) x = 1 ↔ (x = 1 ∧ AgN ne nr p k c s kd cv sd rp rs am i)) := by
    intro n
    induction n with
    | zero => intro i x h1 h2; omega
    | succ n ih =>
      intro i x h1 h2 hx
      rw [fX4_areSo_c4, vr]
      rcases Nat.lt_or_ge i nr with q | q
      · obtain ⟨⟨g1, g2⟩, g3, g4, g5⟩ := hrd i q
        rw [if_neg (nI_ge q (by omega)), nI_clamp (show i < 2 ^ 31 by omega), g3, g4, g5, nI_1]
        have h0 := ih (i + 1) 0 q (by omega) (Or.inl rfl)
        have h1' := ih (i + 1) 1 q (by omega) (Or.inr rfl)
        have n0 : ¬ (0 : Int32) = 1 := by decide
        rcases hx with rfl | rfl
        · rw [if_pos rfl]
          exact ⟨h0.1, h0.2.trans ⟨fun t => absurd t.1 n0, fun t => absurd t.1 n0⟩⟩
        · obtain ⟨⟨t1, t3⟩, t4, t5, t6⟩ := hpr (rp i) g1
          rw [if_neg one_ne, pay_M hne ve (by omega) t1 t3 g2 t4 t5 t6, ag_step q]
          by_cases y : nI (paidN (2 ^ ne - 1) (if rp i = p then k else kd (rp i)) (if rp i = p then c else cv (rp i)) (if rp i = p then s else sd (rp i)) (rs i)) = am i
          · rw [if_pos y]
            exact ⟨h1'.1, h1'.2.trans ⟨fun t => ⟨rfl, y, t.2⟩, fun t => ⟨rfl, t.2.2⟩⟩⟩
          · rw [if_neg y]
            exact ⟨h0.1, h0.2.trans ⟨fun t => absurd t.1 n0, fun t => absurd t.2.1 y⟩⟩
      · have : i = nr := by omega
        subst this
        rw [if_pos (nI_le (Nat.le_refl i) (by omega))]
        exact ⟨hx, fun t => ⟨t, ag_end⟩, fun t => t.1⟩
  have h := key 9 0 1 (Nat.zero_le _) (by omega) (Or.inr rfl)
  exact ⟨h.1, h.2.trans ⟨fun t => t.2, fun t => ⟨rfl, t⟩⟩⟩
theorem eq01 {a b : Int32} {P : Prop} (ha : (a = 0 ∨ a = 1) ∧ (a = 1 ↔ P)) (hb : (b = 0 ∨ b = 1) ∧ (b = 1 ↔ P)) : a = b := by
  rcases ha with ⟨rfl | rfl, h1⟩ <;> rcases hb with ⟨rfl | rfl, h2⟩
  · rfl
  · exact absurd (h1.mpr (h2.mp rfl)) (by decide)
  · exact absurd (h2.mpr (h1.mp rfl)) (by decide)
  · rfl
theorem agree_eq {u v W : Mem} {ne np nr p k c s : Nat} {kd cv sd rp rs : Nat → Nat} (hne : ne ≤ 5) (hnp : np ≤ 4) (hnr : nr ≤ 8) (ue : u 0 4 = nI ne) (ur : u 0 6 = nI nr) (ve : v 0 1 = nI ne) (vr : v 0 18 = nI nr) (hp : p < np) (hk : k ≤ 2) (hs : s < 32)
    (hpr : ∀ p, p < np → (kd p ≤ 2 ∧ cv p ≤ 9 ∧ sd p ≤ 31) ∧ (u 2 p = nI (kd p) ∧ u 3 p = nI (cv p) ∧ u 4 p = nI (sd p)) ∧ v 2 p = nI (kd p) ∧ v 3 p = nI (cv p) ∧ v 4 p = nI (sd p))
    (hrd : ∀ r, r < nr → (rp r < np ∧ rs r < 2 ^ ne) ∧ (u 5 r = nI (rp r) ∧ u 6 r = nI (rs r)) ∧ v 9 r = nI (rp r) ∧ v 10 r = nI (rs r) ∧ v 11 r = u 7 r)
    (hW : ∀ a b, ¬ ((a = 2 ∨ a = 3 ∨ a = 4) ∧ b = p) → W a b = v a b) (w2 : W 2 p = nI k) (w3 : W 3 p = nI c) (w4 : W 4 p = nI s) : fX3_agreesWithReadings u (nI p) (nI k) (nI c) (nI s) = fX4_areSo W := by
  refine eq01 (agree_X (kd := kd) (cv := cv) (sd := sd) (rp := rp) (rs := rs) hne hnp hnr ue ur hp hk hs (prX' hpr) (fun r hr => ⟨(hrd r hr).1, (hrd r hr).2.1⟩)) (areSo_M (am := u 7) (p := p) (k := k) (c := c) (s := s) (kd := kd) (cv := cv) (sd := sd) (rp := rp) (rs := rs) (np := np) hne hnp hnr (by rw [hW 0 1 (by omega)]; exact ve) (by rw [hW 0 18 (by omega)]; exact vr) (fun q hq => ?_) (fun r hr => ?_))
  · by_cases z : q = p
    · subst z
      rw [if_pos rfl, if_pos rfl, if_pos rfl]
      exact ⟨⟨hk, hs⟩, w2, w3, w4⟩
    · obtain ⟨⟨t1, t2, t3⟩, -, t7, t8, t9⟩ := hpr q hq
      rw [if_neg z, if_neg z, if_neg z, hW 2 q (by omega), hW 3 q (by omega), hW 4 q (by omega)]
      exact ⟨⟨t1, by omega⟩, t7, t8, t9⟩
  · rw [hW 9 r (by omega), hW 10 r (by omega), hW 11 r (by omega)]
    exact ⟨(hrd r hr).1, (hrd r hr).2.2⟩
theorem Rel_back {u v w : Mem} (h : Rel u v) (hw : ∀ a b, w a b = v a b) : Rel u w := by
  have : w = v := by funext a b; exact hw a b
  rw [this]; exact h
theorem or_zero (x : Int32) : x ||| 0 = x := Int32.or_zero
theorem eq_covers {u v : Mem} (hR : Rel u v) (a1 : Int32) : (fX3_covers u a1) = (fX4_covers v a1).1 ∧ Rel u (fX4_covers v a1).2 := by
  have hR0 := hR
  obtain ⟨ne, np, nr, ch, kd, cv, sd, rp, rs, ⟨hne, hnp, hnr⟩, ⟨ue, up, ur⟩, ⟨ve, vp, vr⟩, htr, hfl, hch, hpr, hrd, hru, hrv, hsh⟩ := hR
  rcases prophet_cases hnp up vp a1 with ⟨p, hp, rfl, e1, e2⟩ | ⟨e1, e2⟩
  · obtain ⟨⟨g1, g2, g3⟩, ⟨g4, g5, g6⟩, g7, g8, g9⟩ := hpr p hp
    rw [fX3_covers, fX4_covers, e1, e2, if_neg one_ne, if_pos rfl]
    have key : ∀ (n i : Nat) (x : Int32) (w : Mem), i ≤ 10 → 10 < i + n → (∀ a b, ¬ (a = 3 ∧ b = p) → w a b = v a b) → fX3_covers_c22 u (nI p) n (nI i) x = (fX4_covers_c22 v (nI p) n w (nI i) x (v 3 (nI p).toNatClampNeg)).1 ∧ ∀ a b, (fX4_covers_c22 v (nI p) n w (nI i) x (v 3 (nI p).toNatClampNeg)).2 a b = v a b := by
      intro n
      induction n with
      | zero => intro i x w h1 h2; omega
      | succ n ih =>
        intro i x w h1 h2 hw
        rw [fX3_covers_c22, fX4_covers_c22]
        rcases Nat.lt_or_ge i 10 with q | q
        · rw [if_neg (show ¬ (10 : Int32) ≤ nI i from nI_ge (b := 10) q (by omega)), if_neg (show ¬ (10 : Int32) ≤ nI i from nI_ge (b := 10) q (by omega)), nI_1, nI_clamp (show p < 2 ^ 31 by omega)]
          have hw' : ∀ a b, ¬ (a = 3 ∧ b = p) → mset w 3 p (nI i) a b = v a b := fun a b h => by rw [mset_o h]; exact hw a b h
          have ha := agree_eq (W := mset w 3 p (nI i)) (c := i) (k := kd p) (s := sd p) hne hnp hnr ue ur ve vr hp g1 (by omega) hpr hrd (fun a b h => hw' a b (by omega)) (by rw [hw' 2 p (by omega)]; exact g7) mset_at (by rw [hw' 4 p (by omega)]; exact g9)
          rw [g4, g6, ha]
          have ih1 := fun x => ih (i + 1) x (mset w 3 p (nI i)) q (by omega) hw'
          rw [nI_clamp (show p < 2 ^ 31 by omega)] at ih1
          by_cases z : fX4_areSo (mset w 3 p (nI i)) = 0
          · rw [if_pos z, if_pos z, or_zero]
            exact ih1 x
          · rw [if_neg z, if_neg z]
            exact ih1 _
        · have : i = 10 := by omega
          subst this
          rw [if_pos (show (10 : Int32) ≤ nI 10 by decide), if_pos (show (10 : Int32) ≤ nI 10 by decide)]
          refine ⟨rfl, fun a b => ?_⟩
          dsimp only
          rw [nI_clamp (show p < 2 ^ 31 by omega)]
          by_cases z : a = 3 ∧ b = p
          · obtain ⟨rfl, rfl⟩ := z
            rw [mset_at]
          · rw [mset_o z]
            exact hw a b z
    have hk := key 11 0 0 v (by omega) (by omega) (fun _ _ _ => rfl)
    exact ⟨hk.1, Rel_back hR0 hk.2⟩
  · rw [fX3_covers, fX4_covers, e1, e2, if_pos rfl, if_neg one_ne]
    exact ⟨rfl, hR0⟩
theorem eq_kinds {u v : Mem} (hR : Rel u v) (a1 : Int32) : (fX3_kinds u a1) = (fX4_kinds v a1).1 ∧ Rel u (fX4_kinds v a1).2 := by
  have hR0 := hR
  obtain ⟨ne, np, nr, ch, kd, cv, sd, rp, rs, ⟨hne, hnp, hnr⟩, ⟨ue, up, ur⟩, ⟨ve, vp, vr⟩, htr, hfl, hch, hpr, hrd, hru, hrv, hsh⟩ := hR
  rcases prophet_cases hnp up vp a1 with ⟨p, hp, rfl, e1, e2⟩ | ⟨e1, e2⟩
  · obtain ⟨⟨g1, g2, g3⟩, ⟨g4, g5, g6⟩, g7, g8, g9⟩ := hpr p hp
    rw [fX3_kinds, fX4_kinds, e1, e2, if_neg one_ne, if_pos rfl]
    have key : ∀ (n i : Nat) (x : Int32) (w : Mem), i ≤ 3 → 3 < i + n → (∀ a b, ¬ (a = 2 ∧ b = p) → w a b = v a b) → fX3_kinds_c22 u (nI p) n (nI i) x = (fX4_kinds_c22 v (nI p) n w (nI i) x (v 2 (nI p).toNatClampNeg)).1 ∧ ∀ a b, (fX4_kinds_c22 v (nI p) n w (nI i) x (v 2 (nI p).toNatClampNeg)).2 a b = v a b := by
      intro n
      induction n with
      | zero => intro i x w h1 h2; omega
      | succ n ih =>
        intro i x w h1 h2 hw
        rw [fX3_kinds_c22, fX4_kinds_c22]
        rcases Nat.lt_or_ge i 3 with q | q
        · rw [if_neg (show ¬ (3 : Int32) ≤ nI i from nI_ge (b := 3) q (by omega)), if_neg (show ¬ (3 : Int32) ≤ nI i from nI_ge (b := 3) q (by omega)), nI_1, nI_clamp (show p < 2 ^ 31 by omega)]
          have hw' : ∀ a b, ¬ (a = 2 ∧ b = p) → mset w 2 p (nI i) a b = v a b := fun a b h => by rw [mset_o h]; exact hw a b h
          have ha := agree_eq (W := mset w 2 p (nI i)) (c := cv p) (k := i) (s := sd p) hne hnp hnr ue ur ve vr hp (by omega) (by omega) hpr hrd (fun a b h => hw' a b (by omega)) mset_at (by rw [hw' 3 p (by omega)]; exact g8) (by rw [hw' 4 p (by omega)]; exact g9)
          rw [g5, g6, ha]
          have ih1 := fun x => ih (i + 1) x (mset w 2 p (nI i)) q (by omega) hw'
          rw [nI_clamp (show p < 2 ^ 31 by omega)] at ih1
          by_cases z : fX4_areSo (mset w 2 p (nI i)) = 0
          · rw [if_pos z, if_pos z, or_zero]
            exact ih1 x
          · rw [if_neg z, if_neg z]
            exact ih1 _
        · have : i = 3 := by omega
          subst this
          rw [if_pos (show (3 : Int32) ≤ nI 3 by decide), if_pos (show (3 : Int32) ≤ nI 3 by decide)]
          refine ⟨rfl, fun a b => ?_⟩
          dsimp only
          rw [nI_clamp (show p < 2 ^ 31 by omega)]
          by_cases z : a = 2 ∧ b = p
          · obtain ⟨rfl, rfl⟩ := z
            rw [mset_at]
          · rw [mset_o z]
            exact hw a b z
    have hk := key 4 0 0 v (by omega) (by omega) (fun _ _ _ => rfl)
    exact ⟨hk.1, Rel_back hR0 hk.2⟩
  · rw [fX3_kinds, fX4_kinds, e1, e2, if_pos rfl, if_neg one_ne]
    exact ⟨rfl, hR0⟩
def clrN (s e : Nat) : Nat := if s / 2 ^ e % 2 = 1 then s - 2 ^ e else s
def setN (s e : Nat) : Nat := if s / 2 ^ e % 2 = 1 then s else s + 2 ^ e
theorem clr_N : ∀ s : Nat, s < 32 → ∀ e : Nat, e < 5 → (nI s &&& (((1 : Int32) <<< (nI e &&& 31)) ^^^ (-1))) = nI (clrN s e) ∧ clrN s e < 32 ∧ (((nI s &&& (((1 : Int32) <<< (nI e &&& 31)) ^^^ (-1)))) ||| ((0 : Int32) <<< (nI e &&& 31))) = nI (clrN s e) := by decide +kernel
theorem set_N : ∀ s : Nat, s < 32 → ∀ e : Nat, e < 5 → (nI s ||| ((1 : Int32) <<< (nI e &&& 31))) = nI (setN s e) ∧ setN s e < 32 ∧ (((nI s &&& (((1 : Int32) <<< (nI e &&& 31)) ^^^ (-1)))) ||| ((1 : Int32) <<< (nI e &&& 31))) = nI (setN s e) := by decide +kernel
theorem say_M (v w : Mem) (p0 p1 x3 : Int32) (A B : Mem) (hA : A = mset w 4 p0.toNatClampNeg ((x3 &&& (((1 : Int32) <<< (p1 &&& 31)) ^^^ (-1))) ||| ((0 : Int32) <<< (p1 &&& 31)))) (hB : B = mset A 4 p0.toNatClampNeg ((x3 &&& (((1 : Int32) <<< (p1 &&& 31)) ^^^ (-1))) ||| ((1 : Int32) <<< (p1 &&& 31)))) :
    fX4_sayings_c31 v p0 p1 3 w 0 0 x3 = ((if fX4_areSo A = 0 then (if fX4_areSo B = 0 then 0 else 2) else (if fX4_areSo B = 0 then 1 else 3)), mset B 4 p0.toNatClampNeg x3) := by
  subst hB
  subst hA
  have z1 : (0 : Int32) + 1 = 1 := by decide
  have z2 : (1 : Int32) + 1 = 2 := by decide
  rw [fX4_sayings_c31, if_neg (show ¬ (2 : Int32) ≤ 0 by decide), z1]
  split <;> rw [fX4_sayings_c31, if_neg (show ¬ (2 : Int32) ≤ 1 by decide), z2] <;> split <;> rw [fX4_sayings_c31, if_pos (show (2 : Int32) ≤ 2 by decide)] <;> rfl
theorem eq_sayings {u v : Mem} (hR : Rel u v) (a1 a2 : Int32) : (fX3_sayings u a1 a2) = (fX4_sayings v a1 a2).1 ∧ Rel u (fX4_sayings v a1 a2).2 := by
  have hR0 := hR
  obtain ⟨ne, np, nr, ch, kd, cv, sd, rp, rs, ⟨hne, hnp, hnr⟩, ⟨ue, up, ur⟩, ⟨ve, vp, vr⟩, htr, hfl, hch, hpr, hrd, hru, hrv, hsh⟩ := hR
  rcases prophet_cases hnp up vp a1 with ⟨p, hp, rfl, e1, e2⟩ | ⟨e1, e2⟩
  · obtain ⟨⟨g1, g2, g3⟩, ⟨g4, g5, g6⟩, g7, g8, g9⟩ := hpr p hp
    rw [fX3_sayings, fX4_sayings, e1, e2, if_neg one_ne, if_pos rfl]
    rcases event_cases hne ue ve a2 with ⟨ev, hev, rfl, s1, s2⟩ | ⟨s1, s2⟩
    · obtain ⟨k1, k2, k3⟩ := clr_N (sd p) (by omega) ev (by omega)
      obtain ⟨k4, k5, k6⟩ := set_N (sd p) (by omega) ev (by omega)
      have hc : (nI p).toNatClampNeg = p := nI_clamp (by omega)
      rw [s1, s2, if_neg one_ne, if_pos rfl, hc, g4, g5, g6, g9, k1, k4, say_M v v (nI p) (nI ev) (nI (sd p)) _ _ rfl rfl, hc, k3, k6]
      have w1 : ∀ a b, ¬ (a = 4 ∧ b = p) → mset v 4 p (nI (clrN (sd p) ev)) a b = v a b := fun a b h => mset_o h
      have w2 : ∀ a b, ¬ (a = 4 ∧ b = p) → mset (mset v 4 p (nI (clrN (sd p) ev))) 4 p (nI (setN (sd p) ev)) a b = v a b := fun a b h => by rw [mset_o h]; exact w1 a b h
      have a1 := agree_eq (W := mset v 4 p (nI (clrN (sd p) ev))) (c := cv p) (k := kd p) (s := clrN (sd p) ev) hne hnp hnr ue ur ve vr hp g1 k2 hpr hrd (fun a b h => w1 a b (by omega)) (by rw [w1 2 p (by omega)]; exact g7) (by rw [w1 3 p (by omega)]; exact g8) mset_at
      have a2 := agree_eq (W := mset (mset v 4 p (nI (clrN (sd p) ev))) 4 p (nI (setN (sd p) ev))) (c := cv p) (k := kd p) (s := setN (sd p) ev) hne hnp hnr ue ur ve vr hp g1 k5 hpr hrd (fun a b h => w2 a b (by omega)) (by rw [w2 2 p (by omega)]; exact g7) (by rw [w2 3 p (by omega)]; exact g8) mset_at
      rw [a1, a2]
      refine ⟨?_, Rel_back hR0 fun a b => ?_⟩
      · dsimp only
        split <;> split <;> decide
      · dsimp only
        by_cases z : a = 4 ∧ b = p
        · obtain ⟨rfl, rfl⟩ := z
          rw [mset_at]; exact g9.symm
        · rw [mset_o z]
          exact w2 a b z
    · rw [s1, s2, if_pos rfl, if_neg one_ne]
      exact ⟨rfl, hR0⟩
  · rw [fX3_sayings, fX4_sayings, e1, e2, if_pos rfl, if_neg one_ne]
    exact ⟨rfl, hR0⟩
