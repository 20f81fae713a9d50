theorem mset_o {u : Mem} {j i : Nat} {x : Int32} {a b : Nat} (h : ¬ (a = j ∧ b = i)) : mset u j i x a b = u a b := by
  simp [mset, h]
def KpM (a b : Nat) : Prop := (a = 0 ∧ (b = 1 ∨ b = 3 ∨ b = 18)) ∨ (1 ≤ a ∧ a ≤ 4) ∨ (9 ≤ a ∧ a ≤ 14)
theorem Rel_same {u v u' v' : Mem} (h : Rel u v) (hu : ∀ a b, ¬ (a = 0 ∧ (b = 7 ∨ b = 8)) → u' a b = u a b) (hv : ∀ a b, KpM a b → v' a b = v a b) (ht : v' 0 26 = u' 0 7) (hf : v' 0 0 = u' 0 8) : Rel u' v' := by
  obtain ⟨ne, np, nr, ch, kd, cv, sd, rp, rs, ⟨hne, hnp, hnr⟩, ⟨ue, up, ur⟩, ⟨ve, vp, vr⟩, htr, hfl, hch, hpr, hrd, hru, hrv, hsh⟩ := h
  refine ⟨ne, np, nr, ch, kd, cv, sd, rp, rs, ⟨hne, hnp, hnr⟩, ⟨?_, ?_, ?_⟩, ⟨?_, ?_, ?_⟩, ht, hf, ?_, ?_, ?_, ?_, ?_, ?_⟩
  · rw [hu 0 4 (by omega)]; exact ue
  · rw [hu 0 5 (by omega)]; exact up
  · rw [hu 0 6 (by omega)]; exact ur
  · rw [hv 0 1 (by unfold KpM; omega)]; exact ve
  · rw [hv 0 3 (by unfold KpM; omega)]; exact vp
  · rw [hv 0 18 (by unfold KpM; omega)]; exact vr
  · intro e he
    rw [hu 1 e (by omega), hv 1 e (by unfold KpM; omega)]
    exact hch e he
  · intro p hp
    rw [hu 2 p (by omega), hu 3 p (by omega), hu 4 p (by omega), hv 2 p (by unfold KpM; omega), hv 3 p (by unfold KpM; omega), hv 4 p (by unfold KpM; omega)]
    exact hpr p hp
  · intro r hr
    rw [hu 5 r (by omega), hu 6 r (by omega), hu 7 r (by omega), hv 9 r (by unfold KpM; omega), hv 10 r (by unfold KpM; omega), hv 11 r (by unfold KpM; omega)]
    exact hrd r hr
  · intro r hr
    rw [hu 5 r (by omega)]
    exact hru r hr
  · intro r hr
    rw [hv 9 r (by unfold KpM; omega)]
    exact hrv r hr
  · intro k hk
    obtain ⟨h1, h2, h3⟩ := hsh k hk
    rw [hv 12 k (by unfold KpM; omega), hv 13 k (by unfold KpM; omega), hu 9 k (by omega), hu 8 k (by omega)]
    refine ⟨h1, h2, h3.elim Or.inl (fun ⟨n, hn, en, hc⟩ => Or.inr ⟨n, hn, en, fun i hi => ?_⟩)⟩
    rw [hv 14 (60 * k + i) (by unfold KpM; omega), hu (10 + k) i (by omega)]
    exact hc i hi
theorem Rel_fault {u v : Mem} (h : Rel u v) (x : Int32) : Rel (mset u 0 8 x) (mset v 0 0 x) := by
  refine Rel_same h (fun a b q => mset_o (by omega)) (fun a b q => mset_o (by unfold KpM at q; omega)) ?_ ?_
  · rw [mset_o (by omega), mset_o (by omega)]
    obtain ⟨ne, np, nr, ch, kd, cv, sd, rp, rs, -, -, -, htr, -⟩ := h
    exact htr
  · rw [mset_at, mset_at]
theorem rel_tr {u v : Mem} (h : Rel u v) : v 0 26 = u 0 7 := by
  obtain ⟨ne, np, nr, ch, kd, cv, sd, rp, rs, -, -, -, htr, -⟩ := h
  exact htr
theorem rel_fl {u v : Mem} (h : Rel u v) : v 0 0 = u 0 8 := by
  obtain ⟨ne, np, nr, ch, kd, cv, sd, rp, rs, -, -, -, -, htr, -⟩ := h
  exact htr
/-! what is paid, in numbers -/
def bitsN (s : Nat) : Nat := s % 2 + s / 2 % 2 + s / 4 % 2 + s / 8 % 2 + s / 16 % 2
def paysN (k c : Nat) : Nat := if k = 0 then c else if k = 1 then c + 1 else 2 * (c + 1)
def paidN (al k c s t : Nat) : Nat := if s &&& al = al then 0 else paysN k c * bitsN (s &&& t)
def sumN (f : Nat → Nat) : Nat → Nat
  | 0 => 0
  | n + 1 => sumN f n + f n
theorem bc_N : ∀ s : Nat, s < 32 → fJ6_bitCount_0f7a4 (nI s) = nI (bitsN s) := by decide +kernel
theorem bits_N : ∀ s : Nat, s < 32 → fX4_bits (nI s) = nI (bitsN s) := by decide +kernel
theorem and_N : ∀ a : Nat, a < 32 → ∀ b : Nat, b < 32 → nI a &&& nI b = nI (a &&& b) := by decide +kernel
theorem or_N : ∀ a : Nat, a < 32 → ∀ b : Nat, b < 32 → nI a ||| nI b = nI (a ||| b) := by decide +kernel
theorem and_lt {a b : Nat} (h : a < 32) : a &&& b < 32 := Nat.lt_of_le_of_lt Nat.and_le_left h
theorem lit_ne {a b : Nat} (ha : a < 1000) (hb : b < 1000) (h : a ≠ b) : ¬ nI a = nI b := fun q => h ((nI_eq (by omega) (by omega)).mp q)
theorem pays_X {k c : Nat} (hk : k ≤ 2) : fX3_paysEach (nI k) (nI c) = nI (paysN k c) := by
  unfold fX3_paysEach paysN
  rcases (show k = 0 ∨ k = 1 ∨ k = 2 by omega) with rfl | rfl | rfl
  · rw [if_pos (show nI 0 = 0 from rfl), if_pos rfl]
  · rw [if_neg (show ¬ nI 1 = 0 by decide), if_pos (show nI 1 = 1 from rfl), if_neg (by decide), if_pos rfl]
    exact nI_1 c
  · rw [if_neg (show ¬ nI 2 = 0 by decide), if_neg (show ¬ nI 2 = 1 by decide), if_neg (by decide), if_neg (by decide), nI_1]
    exact pk_mul 2 (c + 1)
theorem paysOf_M {v : Mem} {p k c : Nat} (hp : p < 1000) (hk : k ≤ 2) (e2 : v 2 p = nI k) (e3 : v 3 p = nI c) : fX4_paysOf v (nI p) = nI (paysN k c) := by
  rw [← pays_X hk]
  unfold fX4_paysOf fX3_paysEach
  rw [nI_clamp (by omega), e2, e3]
theorem fraud_X {u : Mem} {ne s : Nat} (hne : ne ≤ 5) (ue : u 0 4 = nI ne) (hs : s < 32) : fX3_isFraud u (nI s) = if s &&& (2 ^ ne - 1) = 2 ^ ne - 1 then 1 else 0 := by
  have hp := pow5 hne
  unfold fX3_isFraud
  rw [allX hne ue, and_N s hs _ (by omega)]
  by_cases c : s &&& (2 ^ ne - 1) = 2 ^ ne - 1
  · rw [c, if_pos rfl, if_pos rfl]
  · rw [if_neg c, if_neg (fun q => c ((nI_eq (by have := and_lt (b := 2 ^ ne - 1) hs; omega) (by omega)).mp q))]
theorem fraud_M {v : Mem} {ne s p : Nat} (hne : ne ≤ 5) (ve : v 0 1 = nI ne) (hp0 : p < 1000) (hs : s < 32) (e4 : v 4 p = nI s) : fX4_isFraud v (nI p) = if s &&& (2 ^ ne - 1) = 2 ^ ne - 1 then 1 else 0 := by
  have hp := pow5 hne
  unfold fX4_isFraud
  rw [nI_clamp (by omega), e4, allM hne ve, and_N s hs _ (by omega)]
  by_cases c : s &&& (2 ^ ne - 1) = 2 ^ ne - 1
  · rw [c, if_pos rfl, if_pos rfl]
  · rw [if_neg c, if_neg (fun q => c ((nI_eq (by have := and_lt (b := 2 ^ ne - 1) hs; omega) (by omega)).mp q))]
theorem pay_X {u : Mem} {ne k c s t : Nat} (hne : ne ≤ 5) (ue : u 0 4 = nI ne) (hk : k ≤ 2) (hs : s < 32) (ht : t < 32) : fX3_payment u (nI k) (nI c) (nI s) (nI t) = nI (paidN (2 ^ ne - 1) k c s t) := by
  unfold fX3_payment paidN
  rw [fraud_X hne ue hs]
  by_cases q : s &&& (2 ^ ne - 1) = 2 ^ ne - 1
  · rw [if_pos q, if_neg one_ne, if_pos q]; rfl
  · rw [if_neg q, if_pos rfl, if_neg q, pays_X hk, and_N s hs t ht, bc_N _ (and_lt hs), pk_mul]
theorem and_all : ∀ n : Nat, n < 6 → ∀ s : Nat, s < 32 → ∀ t : Nat, t < 32 → t < 2 ^ n → (s &&& t) &&& (2 ^ n - 1) = s &&& t := by decide +kernel
theorem pay_M {v : Mem} {ne p k c s t : Nat} (hne : ne ≤ 5) (ve : v 0 1 = nI ne) (hp0 : p < 1000) (hk : k ≤ 2) (hs : s < 32) (ht : t < 2 ^ ne) (e2 : v 2 p = nI k) (e3 : v 3 p = nI c) (e4 : v 4 p = nI s) : fX4_paidTo v (nI p) (nI t) = nI (paidN (2 ^ ne - 1) k c s t) := by
  have hp := pow5 hne
  unfold fX4_paidTo paidN
  rw [fraud_M hne ve hp0 hs e4]
  by_cases q : s &&& (2 ^ ne - 1) = 2 ^ ne - 1
  · rw [if_pos q, if_neg one_ne, if_pos q]; rfl
  · rw [if_neg q, if_pos rfl, if_neg q, paysOf_M hp0 hk e2 e3, nI_clamp (by omega), e4, allM hne ve, and_N s hs t (by omega), and_N _ (and_lt hs) _ (by omega), and_all ne (by omega) s hs t (by omega) ht, bits_N _ (and_lt hs), pk_mul]
theorem paidTo_X {u : Mem} {ne p k c s t : Nat} (hne : ne ≤ 5) (ue : u 0 4 = nI ne) (hp0 : p < 1000) (hk : k ≤ 2) (hs : s < 32) (ht : t < 32) (e2 : u 2 p = nI k) (e3 : u 3 p = nI c) (e4 : u 4 p = nI s) : fX3_paidTo u (nI p) (nI t) = nI (paidN (2 ^ ne - 1) k c s t) := by
  unfold fX3_paidTo
  rw [nI_clamp (by omega), e2, e3, e4]
  exact pay_X hne ue hk hs ht
def totN (ne np : Nat) (kd cv sd : Nat → Nat) (t : Nat) : Nat := sumN (fun p => paidN (2 ^ ne - 1) (kd p) (cv p) (sd p) t) np
theorem tot_X {u : Mem} {ne np t : Nat} {kd cv sd : Nat → Nat} (hne : ne ≤ 5) (hnp : np ≤ 4) (ue : u 0 4 = nI ne) (up : u 0 5 = nI np) (hpr : ∀ p, p < np → (kd p ≤ 2 ∧ cv p ≤ 9 ∧ sd p ≤ 31) ∧ u 2 p = nI (kd p) ∧ u 3 p = nI (cv p) ∧ u 4 p = nI (sd p)) (ht : t < 32) : fX3_paidToAll u (nI t) = nI (totN ne np kd cv sd t) := by
  have key : ∀ (n k : Nat), k ≤ np → np < k + n → fX3_paidToAll_c4 u (nI t) n (nI k) (nI (totN ne k kd cv sd t)) = nI (totN ne np kd cv sd t) := by
    intro n
    induction n with
    | zero => intro k h1 h2; omega
    | succ n ih =>
      intro k h1 h2
      rw [fX3_paidToAll_c4, up]
      rcases Nat.lt_or_ge k np with q | q
      · obtain ⟨⟨g1, g2, g3⟩, g4, g5, g6⟩ := hpr k q
        rw [if_neg (nI_ge q (by omega)), paidTo_X hne ue (by omega) g1 (by omega) ht g4 g5 g6, nI_1, nI_add]
        exact ih (k + 1) q (by omega)
      · have : k = np := by omega
        subst this
        rw [if_pos (nI_le (Nat.le_refl k) (by omega))]
  exact key 5 0 (Nat.zero_le _) (by omega)
theorem tot_M {v : Mem} {ne np t : Nat} {kd cv sd : Nat → Nat} (hne : ne ≤ 5) (hnp : np ≤ 4) (ve : v 0 1 = nI ne) (vp : v 0 3 = nI np) (hpr : ∀ p, p < np → (kd p ≤ 2 ∧ cv p ≤ 9 ∧ sd p ≤ 31) ∧ v 2 p = nI (kd p) ∧ v 3 p = nI (cv p) ∧ v 4 p = nI (sd p)) (ht : t < 2 ^ ne) : fX4_paidToAll v (nI t) = nI (totN ne np kd cv sd t) := by
  have key : ∀ (n k : Nat), k ≤ np → np < k + n → fX4_paidToAll_c4 v (nI t) n (nI k) (nI (totN ne k kd cv sd t)) = nI (totN ne np kd cv sd t) := by
    intro n
    induction n with
    | zero => intro k h1 h2; omega
    | succ n ih =>
      intro k h1 h2
      rw [fX4_paidToAll_c4, vp]
      rcases Nat.lt_or_ge k np with q | q
      · obtain ⟨⟨g1, g2, g3⟩, g4, g5, g6⟩ := hpr k q
        rw [if_neg (nI_ge q (by omega)), pay_M hne ve (by omega) g1 (by omega) ht g4 g5 g6, nI_1, nI_add]
        exact ih (k + 1) q (by omega)
      · have : k = np := by omega
        subst this
        rw [if_pos (nI_le (Nat.le_refl k) (by omega))]
  exact key 5 0 (Nat.zero_le _) (by omega)
theorem paidN_le {al k c s t : Nat} (hk : k ≤ 2) (hc : c ≤ 9) : paidN al k c s t ≤ 100 := by
  have hb : bitsN (s &&& t) ≤ 5 := by unfold bitsN; omega
  have hp : paysN k c ≤ 20 := by unfold paysN; split; omega; split <;> omega
  unfold paidN
  split
  · omega
  · exact Nat.mul_le_mul hp hb
theorem totN_le {ne np t : Nat} {kd cv sd : Nat → Nat} (hpr : ∀ p, p < np → kd p ≤ 2 ∧ cv p ≤ 9) : totN ne np kd cv sd t ≤ 100 * np := by
  have key : ∀ k, k ≤ np → totN ne k kd cv sd t ≤ 100 * k := by
    intro k
    induction k with
    | zero => intro _; exact Nat.zero_le _
    | succ k ih =>
      intro h
      have h1 := ih (by omega)
      have h2 := paidN_le (al := 2 ^ ne - 1) (s := sd k) (t := t) (hpr k (by omega)).1 (hpr k (by omega)).2
      show totN ne k kd cv sd t + paidN (2 ^ ne - 1) (kd k) (cv k) (sd k) t ≤ _
      omega
  exact key np (Nat.le_refl _)
