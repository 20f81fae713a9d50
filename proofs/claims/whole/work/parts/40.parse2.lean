theorem rp_full {w : Mem} {f n : Int32} (he : w 0 9 = 4) : fX4_readsProphet w f n = (0, w) := by
  rw [fX4_readsProphet, if_pos he]
theorem fit_lt {w : Mem} {a b r j : Nat} (hr : r ≤ b) (h : ∀ i, i < j → FitM w a b r i) : r + j ≤ b := by
  rcases Nat.eq_zero_or_pos j with z | z
  · omega
  · have := (h (j - 1) (by omega)).1
    omega
theorem rp_any {w : Mem} {f n : Int32} {k : Nat} (g : CaOk w f n) (e : w 0 9 = nI k) (hk : k ≤ 4) :
    ∃ kq : Nat, kq ≤ 4 ∧ (fX4_readsProphet w f n).2 0 9 = nI kq ∧ CaOk (fX4_readsProphet w f n).2 f n ∧ (fX4_readsProphet w f n).2 0 8 = w 0 8 ∧ (((fX4_readsProphet w f n).1 = 0 ∧ kq = k) ∨ ((fX4_readsProphet w f n).1 = 1 ∧ kq = k + 1)) := by
  rcases Nat.lt_or_ge k 4 with h4 | h4
  · obtain ⟨r, a, b, e1, ef, en, h1, h2, h3⟩ := g
    subst ef
    subst en
    rcases rp_spec (w := w) (a := a) (b := b) (r := r) (k := k) ⟨e1, h1, h2, h3⟩ e h4 with ⟨j, j1, j2, j3, W, w1, w2, w3⟩ | ⟨j1, W, w1, w2, w3, w4, w5, w6, w7⟩
    · rw [w1]
      exact ⟨k, hk, (w3 0 9 (by omega)).trans e, ⟨r + j, a, b, w2, rfl, rfl, fit_lt h1 j2, h2, h3⟩, w3 0 8 (by omega), Or.inl ⟨rfl, rfl⟩⟩
    · rw [w1]
      exact ⟨k + 1, h4, w3, ⟨r + 5, a, b, w2, rfl, rfl, fit_lt h1 j1, h2, h3⟩, w7 0 8 (by omega) (by omega), Or.inr ⟨rfl, rfl⟩⟩
  · have : k = 4 := by omega
    subst this
    rw [rp_full e]
    exact ⟨4, hk, e, g, rfl, Or.inl ⟨rfl, rfl⟩⟩
theorem rp_step2 {w : Mem} {f n x : Int32} {k m : Nat} (g : CaOk w f n) (e : w 0 9 = nI k) (hk : k ≤ 4) (hm : 6 ≤ k + (m + 1) ∨ (x = 0 ∧ 1 ≤ m + 1)) (hx : ¬ x = 0) : ∃ kq : Nat, kq ≤ 4 ∧ (fX4_readsProphet w f n).2 0 9 = nI kq ∧ CaOk (fX4_readsProphet w f n).2 f n ∧ ((fX4_readsProphet w f n).1 = 0 ∨ (fX4_readsProphet w f n).1 = 1) ∧ (6 ≤ kq + m ∨ ((fX4_readsProphet w f n).1 = 0 ∧ 1 ≤ m)) := by
  have hm' : 6 ≤ k + (m + 1) := hm.elim id (fun z => absurd z.1 hx)
  obtain ⟨kq, h1, h2, h3, -, h5⟩ := rp_any g e hk
  refine ⟨kq, h1, h2, h3, ?_, ?_⟩
  · rcases h5 with ⟨q, -⟩ | ⟨q, -⟩
    · exact Or.inl q
    · exact Or.inr q
  · rcases h5 with ⟨q, z⟩ | ⟨q, z⟩
    · exact Or.inr ⟨q, by omega⟩
    · exact Or.inl (by omega)
theorem re_any {w : Mem} {f n : Int32} {e : Nat} (g : CaOk w f n) (he : w 0 8 = nI e) (h5 : e ≤ 5) :
    ∃ eq : Nat, eq ≤ 5 ∧ (fX4_readsEvent w f n).2 0 8 = nI eq ∧ CaOk (fX4_readsEvent w f n).2 f n ∧ (fX4_readsEvent w f n).2 0 9 = w 0 9 := by
  rcases Nat.lt_or_ge e 5 with h | h
  · obtain ⟨r, a, b, e1, ef, en, h1, h2, h3⟩ := g
    subst ef
    subst en
    rcases re_spec (w := w) (a := a) (b := b) (r := r) (e := e) ⟨e1, h1, h2, h3⟩ he h with ⟨-, q⟩ | ⟨z, -, q⟩ | ⟨z, y, W, q, w1, w2, w3, w4⟩
    · rw [q]
      exact ⟨e, h5, he, ⟨r, a, b, e1, rfl, rfl, h1, h2, h3⟩, rfl⟩
    · rw [q]
      dsimp only
      exact ⟨e, h5, (mset_nei (by decide)).trans he, ⟨r + 1, a, b, mset_at, rfl, rfl, by omega, h2, h3⟩, mset_nei (by decide)⟩
    · rw [q]
      exact ⟨e + 1, h, w2, ⟨r + 2, a, b, w1, rfl, rfl, by omega, h2, h3⟩, w4 0 9 (by omega) (by omega)⟩
  · have : e = 5 := by omega
    subst this
    rw [re_full he]
    exact ⟨5, h5, he, g, rfl⟩
theorem ro_82 {v : Mem} {f n : Int32} {e : Nat} : ∀ (m : Nat) (w : Mem) (x : Int32) (k : Nat), CaOk w f n → w 0 8 = nI e → w 0 9 = nI k → k ≤ 4 → (fX4_readsOffice_c82 v f n m w x).2 0 8 = nI e ∧ ∃ po : Nat, po ≤ 4 ∧ (fX4_readsOffice_c82 v f n m w x).2 0 9 = nI po := by
  intro m
  induction m with
  | zero => intro w x k g he hk h4; exact ⟨he, k, h4, hk⟩
  | succ m ih =>
    intro w x k g he hk h4
    obtain ⟨kq, h1, h2, h3, h5, -⟩ := rp_any g hk h4
    have hi := ih (fX4_readsProphet w f n).2 (fX4_readsProphet w f n).1 kq h3 (h5.trans he) h2 h1
    rw [fX4_readsOffice_c82]
    split
    · exact ⟨he, k, h4, hk⟩
    · split
      · exact hi
      · split
        · exact ⟨he, k, h4, hk⟩
        · exact hi
theorem ro_50 {v : Mem} {f n : Int32} : ∀ (m : Nat) (w : Mem) (x : Int32) (e : Nat), CaOk w f n → w 0 8 = nI e → w 0 9 = nI 0 → e ≤ 5 → ∃ eo : Nat, eo ≤ 5 ∧ (fX4_readsOffice_c50 v f n m w x).2 0 8 = nI eo ∧ ∃ po : Nat, po ≤ 4 ∧ (fX4_readsOffice_c50 v f n m w x).2 0 9 = nI po := by
  intro m
  induction m with
  | zero => intro w x e g he hk h5; exact ⟨e, h5, he, 0, by omega, hk⟩
  | succ m ih =>
    intro w x e g he hk h5
    obtain ⟨eq, h1, h2, h3, h4⟩ := re_any g he h5
    have hi := ih (fX4_readsEvent w f n).2 (fX4_readsEvent w f n).1 eq h3 h2 (h4.trans hk) h1
    have h8 := ro_82 (v := v) (e := e) 7 w x 0 g he hk (by omega)
    rw [fX4_readsOffice_c50]
    split
    · exact ⟨e, h5, h8⟩
    · split
      · exact hi
      · split
        · exact hi
        · exact ⟨e, h5, h8⟩
theorem ro_ok2 {v : Mem} {f n : Int32} (h : GrOk f n) : ∃ eo : Nat, eo ≤ 5 ∧ (fX4_readsOffice v f n).2 0 8 = nI eo ∧ ∃ po : Nat, po ≤ 4 ∧ (fX4_readsOffice v f n).2 0 9 = nI po := by
  obtain ⟨a, b, ef, en, h1, h2⟩ := h
  subst ef
  subst en
  have g7 : (mset (mset (mset v 0 7 0) 0 8 0) 0 9 0) 0 7 = nI 0 := by rw [mset_nei (by decide), mset_nei (by decide), mset_at, nI_0]
  have hP : PosOk (mset (mset (mset v 0 7 0) 0 8 0) 0 9 0) a b 0 := ⟨g7, by omega, h1, h2⟩
  rw [fX4_readsOffice, code_at hP, g7]
  by_cases q : b ≤ 0
  · rw [if_pos q, if_neg (by decide), fX4_readsOffice_c46]
    refine ro_50 8 _ _ 0 ⟨0, a, b, mset_at, rfl, rfl, by omega, h1, h2⟩ ?_ ?_ (by omega)
    · rw [mset_nei (by decide), mset_nei (by decide), mset_at, nI_0]
    · rw [mset_nei (by decide), mset_at, nI_0]
  · rw [if_neg q, fX4_readsOffice_c46, fX4_readsOffice_c46]
    split
    · refine ro_50 8 _ _ 0 ⟨1, a, b, by rw [mset_at, nI_1], rfl, rfl, by omega, h1, h2⟩ ?_ ?_ (by omega)
      · rw [mset_nei (by decide), mset_nei (by decide), mset_at, nI_0]
      · rw [mset_nei (by decide), mset_at, nI_0]
    · refine ro_50 8 _ _ 0 ⟨0, a, b, mset_at, rfl, rfl, by omega, h1, h2⟩ ?_ ?_ (by omega)
      · rw [mset_nei (by decide), mset_nei (by decide), mset_at, nI_0]
      · rw [mset_nei (by decide), mset_at, nI_0]
theorem ffp_beh2 {u : Mem} {k : Nat} {a b : Int32} (h : Rng a b) (c : fX3_firstFaultPlace u k a b = (-9)) : ∃ t : Nat, t ≤ 60 ∧ fX3_behindEvents u k a b = nI t := by
  obtain ⟨i, j, hij, hj, rfl, rfl⟩ := h
  have key : ∀ (n e p : Nat), p ≤ j → fX3_firstFaultPlace_c22 u k (nI i) (nI j) n (nI e) (nI p) = -9 → ∃ t : Nat, t ≤ 60 ∧ fX3_behindEvents_c7 u k (nI i) (nI j) n (nI e) (nI p) = nI t := by
    intro n
    induction n with
    | zero =>
      intro e p hp hc
      rw [fX3_firstFaultPlace_c22] at hc
      exact absurd hc (by decide)
    | succ n ih =>
      intro e p hp hc
      rw [fX3_firstFaultPlace_c22] at hc
      rw [fX3_behindEvents_c7]
      by_cases c1 : 5 ≤ nI e
      · rw [if_pos c1]
        exact ⟨p, by omega, rfl⟩
      rw [if_neg c1] at hc ⊢
      by_cases c2 : nI j ≤ nI p
      · rw [if_pos c2]
        exact ⟨p, by omega, rfl⟩
      rw [if_neg c2] at hc ⊢
      by_cases c3 : u (10 + k) (nI p).toNatClampNeg = 47
      · rw [if_pos c3] at hc ⊢
        by_cases c4 : nI j ≤ nI p + 1
        · rw [if_pos c4, nI_1] at hc
          exact absurd (by rw [hc]; decide : nI (p + 1) < 0) (nI_pos (by omega))
        · rw [if_neg c4] at hc
          by_cases c5 : fX3_isDigit (u (10 + k) (nI p + 1).toNatClampNeg) 9 = 0
          · rw [if_pos c5, nI_1] at hc
            exact absurd (by rw [hc]; decide : nI (p + 1) < 0) (nI_pos (by omega))
          · rw [if_neg c5, nI_1, show (2 : Int32) = nI 2 from rfl, nI_add] at hc
            rw [nI_1, show (2 : Int32) = nI 2 from rfl, nI_add]
            rw [nI_1] at c4
            refine ih (e + 1) (p + 2) ?_ hc
            rcases Nat.lt_or_ge j (p + 2) with z | z
            · exact absurd (nI_le (show j ≤ p + 1 by omega) (by omega)) c4
            · exact z
      · rw [if_neg c3]
        exact ⟨p, by omega, rfl⟩
  rw [fX3_firstFaultPlace] at c
  rw [fX3_behindEvents]
  have hb9 : ∀ x : Nat, x ≤ 60 → ¬ nI x = -9 := fun x hx z => nI_pos (n := x) (by omega) (by rw [z]; decide)
  by_cases c1 : nI j ≤ nI i
  · rw [if_pos c1] at c
    exact absurd c (hb9 i (by omega))
  rw [if_neg c1] at c
  by_cases c2 : u (10 + k) (nI i).toNatClampNeg = 119
  · rw [if_pos c2, nI_1] at c
    rw [nI_1]
    refine key 6 0 (i + 1) ?_ c
    rcases Nat.lt_or_ge i j with z | z
    · omega
    · exact absurd (nI_le z (by omega)) c1
  · rw [if_neg c2] at c
    exact absurd c (hb9 i (by omega))
