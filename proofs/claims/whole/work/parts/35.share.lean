theorem gcd_step {a b : Nat} : Nat.gcd a b = Nat.gcd b (a % b) := by
  rw [Nat.gcd_comm a b, Nat.gcd_rec b a, Nat.gcd_comm]
theorem rem_half {b r : Nat} (h : r < b) (h0 : 0 < r) : b % r ≤ b / 2 := by
  rcases Nat.lt_or_ge (b / 2) r with q | q
  · rw [Nat.mod_eq_sub_mod (by omega), Nat.mod_eq_of_lt (by omega)]
    omega
  · have := Nat.mod_lt b h0
    omega
theorem eucX (p0 p1 : Int32) : ∀ (m i a b n : Nat), b < 2 ^ m → i + 2 * m < 100 → 100 < i + n → a < 2 ^ 31 → b < 2 ^ 31 → fX3_greatestDivisor_c7 p0 p1 n (nI i) (nI b) (nI a) = if nI (Nat.gcd a b) < 1 then 1 else nI (Nat.gcd a b) := by
  intro m
  induction m with
  | zero =>
    intro i a b n h1 h2 h3 h4 h5
    have : b = 0 := by omega
    subst this
    obtain ⟨k, rfl⟩ : ∃ k, n = k + 1 := ⟨n - 1, by omega⟩
    rw [fX3_greatestDivisor_c7, if_neg (show ¬ (100 : Int32) ≤ nI i from nI_ge (b := 100) (by omega) (by omega)), if_pos nI_0, Nat.gcd_zero_right]
  | succ m ih =>
    intro i a b n h1 h2 h3 h4 h5
    obtain ⟨k, rfl⟩ : ∃ k, n = k + 1 := ⟨n - 1, by omega⟩
    rcases Nat.eq_zero_or_pos b with rfl | hb
    · rw [fX3_greatestDivisor_c7, if_neg (show ¬ (100 : Int32) ≤ nI i from nI_ge (b := 100) (by omega) (by omega)), if_pos nI_0, Nat.gcd_zero_right]
    · obtain ⟨k, rfl⟩ : ∃ j, k = j + 1 := ⟨k - 1, by omega⟩
      have hr := Nat.mod_lt a hb
      rw [fX3_greatestDivisor_c7, if_neg (show ¬ (100 : Int32) ≤ nI i from nI_ge (b := 100) (by omega) (by omega)), if_neg (nI_ne0 hb h5), nI_1, pk_rem h4 hb h5, gcd_step (a := a)]
      rcases Nat.eq_zero_or_pos (a % b) with hz | hz
      · rw [hz, fX3_greatestDivisor_c7, if_neg (show ¬ (100 : Int32) ≤ nI (i + 1) from nI_ge (b := 100) (by omega) (by omega)), if_pos nI_0, Nat.gcd_zero_right]
      · rw [fX3_greatestDivisor_c7, if_neg (show ¬ (100 : Int32) ≤ nI (i + 1) from nI_ge (b := 100) (by omega) (by omega)), if_neg (nI_ne0 hz (by omega)), nI_1, pk_rem h5 hz (by omega), gcd_step (a := b)]
        have hh := rem_half hr hz
        have : b / 2 < 2 ^ m := by rw [Nat.pow_succ] at h1; omega
        exact ih (i + 1 + 1) _ _ k (by omega) (by omega) (by omega) (by omega) (by omega)
theorem gdX {a b : Nat} (ha : a < 2 ^ 31) (hb : b < 2 ^ 20) : fX3_greatestDivisor (nI a) (nI b) = if nI (Nat.gcd a b) < 1 then 1 else nI (Nat.gcd a b) := by
  exact eucX (nI a) (nI b) 20 0 a b 101 hb (by omega) (by omega) ha (by omega)
theorem share_X {a b : Nat} (ha : a < 2 ^ 31) (hb : b < 2 ^ 20) (h0 : 0 < b) (p2 : Int32) : fX3_shareNumber (nI a) (nI b) p2 = if p2 = 0 then lN (a / Nat.gcd a b) else lN (b / Nat.gcd a b) := by
  have hg : 0 < Nat.gcd a b := Nat.gcd_pos_of_pos_right a h0
  have hl : Nat.gcd a b ≤ b := Nat.gcd_le_right a h0
  have h1 : a / Nat.gcd a b ≤ a := Nat.div_le_self _ _
  have h2 : b / Nat.gcd a b ≤ b := Nat.div_le_self _ _
  rw [fX3_shareNumber, gdX ha hb, if_neg (show ¬ nI (Nat.gcd a b) < 1 from nI_nlt (b := 1) hg (by omega)), pk_div ha hg (by omega), pk_div (by omega) hg (by omega), nI_l (by omega), nI_l (by omega)]
theorem eucM (p0 p1 : Int64) (p2 : Int32) : ∀ (n a b : Nat), b < n → a < 2 ^ 31 → b < 2 ^ 31 → fX4_share_c6 p0 p1 p2 n (lN b) (lN a) = if p2 = 0 then p0 / lN (Nat.gcd a b) else p1 / lN (Nat.gcd a b) := by
  intro n
  induction n with
  | zero => intro a b h; omega
  | succ n ih =>
    intro a b h1 h2 h3
    rw [fX4_share_c6]
    rcases Nat.eq_zero_or_pos b with rfl | hb
    · rw [if_pos (show lg_cmp (lN 0) 0 = 0 from lg_self _), Nat.gcd_zero_right]
    · have hz : ¬ lg_cmp (lN b) 0 = 0 := fun q => by
        have := lg_eq.mp q
        rw [lN_toInt h3] at this
        have : (b : Int) = 0 := this
        omega
      have hr := Nat.mod_lt a hb
      rw [if_neg hz, pk_lRem (by omega) hb (by omega), gcd_step (a := a)]
      exact ih b (a % b) (by omega) h3 (by omega)
theorem share_M {a b : Nat} (ha : a < 2 ^ 31) (hb : b < 2 ^ 20) (h0 : 0 < b) (p2 : Int32) : fX4_share (lN a) (lN b) p2 = if p2 = 0 then lN (a / Nat.gcd a b) else lN (b / Nat.gcd a b) := by
  have hg : 0 < Nat.gcd a b := Nat.gcd_pos_of_pos_right a h0
  have hl : Nat.gcd a b ≤ b := Nat.gcd_le_right a h0
  have e : (lN b).toInt.natAbs = b := by rw [lN_toInt (by omega)]; omega
  rw [fX4_share, e, eucM (lN a) (lN b) p2 (b + 1) a b (by omega) ha (by omega), pk_lDiv (by omega) hg (by omega), pk_lDiv (by omega) hg (by omega)]
theorem share_eq {a b : Nat} (ha : a < 2 ^ 31) (hb : b < 2 ^ 20) (h0 : 0 < b) (p2 : Int32) : fX3_shareNumber (nI a) (nI b) p2 = fX4_share (lN a) (lN b) p2 := by
  rw [share_X ha hb h0, share_M ha hb h0]
theorem chX {ne : Nat} {ch : Nat → Nat} {u v : Mem} (h : ∀ e, e < ne → ch e ≤ 9 ∧ u 1 e = nI (ch e) ∧ v 1 e = nI (ch e)) : ∀ e, e < ne → ch e ≤ 9 ∧ u 1 e = nI (ch e) := fun e he => ⟨(h e he).1, (h e he).2.1⟩
theorem chM {ne : Nat} {ch : Nat → Nat} {u v : Mem} (h : ∀ e, e < ne → ch e ≤ 9 ∧ u 1 e = nI (ch e) ∧ v 1 e = nI (ch e)) : ∀ e, e < ne → ch e ≤ 9 ∧ v 1 e = nI (ch e) := fun e he => ⟨(h e he).1, (h e he).2.2⟩
theorem wf_both {u v : Mem} {ne np b : Nat} {ch kd cv sd : Nat → Nat} (hne : ne ≤ 5) (hnp : np ≤ 4) (ue : u 0 4 = nI ne) (up : u 0 5 = nI np) (ve : v 0 1 = nI ne) (vp : v 0 3 = nI np) (hch : ∀ e, e < ne → ch e ≤ 9 ∧ u 1 e = nI (ch e) ∧ v 1 e = nI (ch e))
    (hpr : ∀ p, p < np → (kd p ≤ 2 ∧ cv p ≤ 9 ∧ sd p ≤ 31) ∧ (u 2 p = nI (kd p) ∧ u 3 p = nI (cv p) ∧ u 4 p = nI (sd p)) ∧ v 2 p = nI (kd p) ∧ v 3 p = nI (cv p) ∧ v 4 p = nI (sd p)) (hb : b < 2 ^ 31) :
    fX3_weightFrom u (nI b) = nI (wfN (wtN ne ch) (totN ne np kd cv sd) ne b) ∧ fX4_weightFrom v (nI b) = lN (wfN (wtN ne ch) (totN ne np kd cv sd) ne b) ∧ wfN (wtN ne ch) (totN ne np kd cv sd) ne b ≤ 3200000 := by
  have h32 := pow5 hne
  have ht : ∀ t, totN ne np kd cv sd t < 2 ^ 31 := fun t => by
    have := totN_le (ne := ne) (sd := sd) (t := t) (fun p hp => ⟨(hpr p hp).1.1, (hpr p hp).1.2.1⟩)
    omega
  refine ⟨wf_X hne ue hb (fun t _ => wt_X hne ue (chX hch)) (fun t h => ⟨tot_X hne hnp ue up (prX' hpr) (by omega), ht t⟩), wf_M hne ve hb (fun t _ => wt_M hne ve (chM hch)) (fun t h => ⟨tot_M hne hnp ve vp (prM hpr) h, ht t⟩), wfN_le hne fun t => wtN_le hne fun e he => (hch e he).1⟩
theorem eq_odds {u v : Mem} (hR : Rel u v) (a1 a2 : Int32) : (fX3_odds u a1 a2) = (fX4_odds v a1 a2) := by
  obtain ⟨ne, np, nr, ch, kd, cv, sd, rp, rs, ⟨hne, hnp, hnr⟩, ⟨ue, up, ur⟩, ⟨ve, vp, vr⟩, htr, hfl, hch, hpr, hrd, hru, hrv, hsh⟩ := hR
  rw [fX3_odds, fX4_odds, in_within (m := 999) rfl, in_within (m := 1) rfl]
  rcases office_cases hnp up vp with ⟨_, o1, o2⟩ | ⟨_, o1, o2⟩
  · rw [o1, if_neg one_ne, if_neg o2]
    rcases within01 a1 999 with w | w
    · rw [w, if_pos rfl, if_pos rfl, fX4_lost]
    · rw [w, if_neg one_ne, if_neg one_ne]
      rcases within01 a2 1 with w2 | w2
      · rw [w2, if_pos rfl, if_pos rfl, fX4_lost]
      · rw [w2, if_neg one_ne, if_neg one_ne]
        obtain ⟨j, hj, rfl⟩ := within_ex (n := 999) rfl w
        obtain ⟨q1, q2, q3⟩ := wf_both (b := j) hne hnp ue up ve vp hch hpr (by omega)
        have hw := wallN hne
        rw [q1, q2, wallX hne ue, wallM hne ve]
        exact share_eq (by omega) (by omega) (by omega) a2
  · rw [o1, if_pos rfl, if_pos o2, fX4_lost]
def faN (ne k c s : Nat) (ch : Nat → Nat) : Nat → Nat → Nat → Nat
  | 0, _, a => a
  | n + 1, i, a => faN ne k c s ch n (i + 1) (a + ch i * paidN (2 ^ ne - 1) k c s (2 ^ i))
theorem faN_le {ne k c s : Nat} {ch : Nat → Nat} (hk : k ≤ 2) (hc : c ≤ 9) : ∀ (n i a : Nat), (∀ e, e < i + n → ch e ≤ 9) → faN ne k c s ch n i a ≤ a + 900 * n := by
  intro n
  induction n with
  | zero => intro i a h; show a ≤ _; omega
  | succ n ih =>
    intro i a h
    show faN ne k c s ch n (i + 1) _ ≤ _
    have h1 := ih (i + 1) (a + ch i * paidN (2 ^ ne - 1) k c s (2 ^ i)) (fun e he => h e (by omega))
    have h2 : ch i * paidN (2 ^ ne - 1) k c s (2 ^ i) ≤ 9 * 100 := Nat.mul_le_mul (h i (by omega)) (paidN_le hk hc)
    omega
theorem shl_N : ∀ i : Nat, i < 5 → (1 : Int32) <<< (nI i &&& 31) = nI (2 ^ i) := by decide +kernel
theorem in_N : ∀ s : Nat, s < 32 → ∀ i : Nat, i < 5 → fX4_isIn (nI s) (nI i) = nI (bitsN (s &&& 2 ^ i)) := by decide +kernel
theorem bit_N : ∀ s : Nat, s < 32 → ∀ i : Nat, i < 5 → bitsN (s &&& 2 ^ i) = 0 ∨ bitsN (s &&& 2 ^ i) = 1 := by decide +kernel
theorem eq_fair {u v : Mem} (hR : Rel u v) (a1 a2 : Int32) : (fX3_fair u a1 a2) = (fX4_fair v a1 a2) := by
  obtain ⟨ne, np, nr, ch, kd, cv, sd, rp, rs, ⟨hne, hnp, hnr⟩, ⟨ue, up, ur⟩, ⟨ve, vp, vr⟩, htr, hfl, hch, hpr, hrd, hru, hrv, hsh⟩ := hR
  rw [fX3_fair, fX4_fair, in_within (m := 1) rfl]
  rcases prophet_cases hnp up vp a1 with ⟨p, hp, rfl, e1, e2⟩ | ⟨e1, e2⟩
  · obtain ⟨⟨g1, g2, g3⟩, ⟨g4, g5, g6⟩, g7, g8, g9⟩ := hpr p hp
    rw [e1, e2, if_neg one_ne, if_pos rfl]
    rcases within01 a2 1 with w2 | w2
    · rw [w2, if_pos rfl, if_pos rfl, fX4_lost]
    · rw [w2, if_neg one_ne, if_neg one_ne]
      have key : ∀ (k i a n : Nat), i + k = ne → k < n → a + 900 * k < 100000 → fX3_fair_c33 u (nI p) a2 n (nI i) (nI a) = fX4_fair_c27 v (nI p) a2 n (nI i) (lN a) := by
        intro k
        induction k with
        | zero =>
          intro i a n h1 h2 h3
          obtain ⟨m, rfl⟩ : ∃ m, n = m + 1 := ⟨n - 1, by omega⟩
          rw [fX3_fair_c33, fX4_fair_c27, ue, ve, if_pos (nI_le (by omega) (by omega)), if_pos (nI_le (by omega) (by omega))]
          exact share_eq (b := 10) (by omega) (by omega) (by omega) a2
        | succ k ih =>
          intro i a n h1 h2 h3
          obtain ⟨m, rfl⟩ : ∃ m, n = m + 1 := ⟨n - 1, by omega⟩
          obtain ⟨c1, c2, c3⟩ := hch i (by omega)
          have hp2 : (2 : Nat) ^ i ≤ 2 ^ 4 := Nat.pow_le_pow_right (by omega) (by omega)
          rw [fX3_fair_c33, fX4_fair_c27, ue, ve, if_neg (nI_ge (by omega) (by omega)), if_neg (nI_ge (by omega) (by omega)), nI_1, nI_clamp (show p < 2 ^ 31 by omega), nI_clamp (show i < 2 ^ 31 by omega), c2, c3, g4, g5, g6, g9, shl_N i (by omega), pay_X hne ue g1 (by omega) (by omega), in_N (sd p) (by omega) i (by omega), fraud_M hne ve (by omega) (by omega) g9, paysOf_M (by omega) g1 g7 g8, pk_mul, nI_add]
          have hpa := paidN_le (al := 2 ^ ne - 1) (s := sd p) (t := 2 ^ i) g1 g2
          have hcp : ch i * paidN (2 ^ ne - 1) (kd p) (cv p) (sd p) (2 ^ i) ≤ 9 * 100 := Nat.mul_le_mul c1 hpa
          have hi := ih (i + 1) (a + ch i * paidN (2 ^ ne - 1) (kd p) (cv p) (sd p) (2 ^ i)) m (by omega) (by omega) (by omega)
          rw [hi]
          have ez : lN a + (0 : Int64) = lN a := lN_add a 0
          rcases bit_N (sd p) (by omega) i (by omega) with b | b
          · rw [b, if_pos nI_0, ez]
            congr 1
            unfold paidN
            split
            · rfl
            · rw [b, Nat.mul_zero, Nat.mul_zero, Nat.add_zero]
          · rw [b, if_neg (show ¬ nI 1 = 0 from one_ne)]
            by_cases f : sd p &&& (2 ^ ne - 1) = 2 ^ ne - 1
            · rw [if_pos f, if_neg one_ne, ez]
              congr 1
              unfold paidN
              rw [if_pos f, Nat.mul_zero, Nat.add_zero]
            · have hb1 : paidN (2 ^ ne - 1) (kd p) (cv p) (sd p) (2 ^ i) = paysN (kd p) (cv p) := by
                unfold paidN
                rw [if_neg f, b, Nat.mul_one]
              rw [hb1] at hcp ⊢
              rw [if_neg f, if_pos rfl, pk_mul, Nat.mul_comm (paysN _ _), nI_l (by omega), lN_add]
      exact key ne 0 0 6 (by omega) (by omega) (by omega)
  · rw [e1, e2, if_pos rfl, if_neg one_ne, fX4_lost]
