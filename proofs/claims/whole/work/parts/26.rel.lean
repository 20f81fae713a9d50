/-- what both hold, told by numbers -/
def RelN (u v : Mem) (ne np nr : Nat) (ch kd cv sd rp rs : Nat → Nat) : Prop :=
  (ne ≤ 5 ∧ np ≤ 4 ∧ nr ≤ 8) ∧ (u 0 4 = nI ne ∧ u 0 5 = nI np ∧ u 0 6 = nI nr) ∧ (v 0 1 = nI ne ∧ v 0 3 = nI np ∧ v 0 18 = nI nr) ∧ v 0 26 = u 0 7 ∧ v 0 0 = u 0 8 ∧
  (∀ e, e < ne → ch e ≤ 9 ∧ u 1 e = nI (ch e) ∧ v 1 e = nI (ch e)) ∧
  (∀ p, p < np → (kd p ≤ 2 ∧ cv p ≤ 9 ∧ sd p ≤ 31) ∧ (u 2 p = nI (kd p) ∧ u 3 p = nI (cv p) ∧ u 4 p = nI (sd p)) ∧ v 2 p = nI (kd p) ∧ v 3 p = nI (cv p) ∧ v 4 p = nI (sd p)) ∧
  (∀ r, r < nr → (rp r < np ∧ rs r < 2 ^ ne) ∧ (u 5 r = nI (rp r) ∧ u 6 r = nI (rs r)) ∧ v 9 r = nI (rp r) ∧ v 10 r = nI (rs r) ∧ v 11 r = u 7 r) ∧
  RpOk u ∧ RpOkM v ∧
  ∀ k, k < 4 → v 12 k = u 9 k ∧ v 13 k = u 8 k ∧ (u 9 k = -1 ∨ ∃ n : Nat, n ≤ 60 ∧ u 9 k = nI n ∧ ∀ i, i < n → v 14 (60 * k + i) = u (10 + k) i)
def Rel (u v : Mem) : Prop := ∃ (ne np nr : Nat) (ch kd cv sd rp rs : Nat → Nat), RelN u v ne np nr ch kd cv sd rp rs
theorem rel_ec {u v : Mem} (h : Rel u v) : EcOk u := by
  obtain ⟨ne, np, nr, ch, kd, cv, sd, rp, rs, ⟨h1, h2, h3⟩, ⟨h4, h5, h6⟩, -⟩ := h
  exact ⟨ne, h1, h4⟩
theorem rel_pc {u v : Mem} (h : Rel u v) : PcOk u := by
  obtain ⟨ne, np, nr, ch, kd, cv, sd, rp, rs, ⟨h1, h2, h3⟩, ⟨h4, h5, h6⟩, -⟩ := h
  exact ⟨np, h2, h5⟩
theorem rel_rc {u v : Mem} (h : Rel u v) : RcOk u := by
  obtain ⟨ne, np, nr, ch, kd, cv, sd, rp, rs, ⟨h1, h2, h3⟩, ⟨h4, h5, h6⟩, -⟩ := h
  exact ⟨nr, h3, h6⟩
theorem rel_ecM {u v : Mem} (h : Rel u v) : EcOkM v := by
  obtain ⟨ne, np, nr, ch, kd, cv, sd, rp, rs, ⟨h1, h2, h3⟩, -, ⟨h4, h5, h6⟩, -⟩ := h
  exact ⟨ne, h1, h4⟩
theorem rel_pcM {u v : Mem} (h : Rel u v) : PcOkM v := by
  obtain ⟨ne, np, nr, ch, kd, cv, sd, rp, rs, ⟨h1, h2, h3⟩, -, ⟨h4, h5, h6⟩, -⟩ := h
  exact ⟨np, h2, h5⟩
theorem rel_rcM {u v : Mem} (h : Rel u v) : RcOkM v := by
  obtain ⟨ne, np, nr, ch, kd, cv, sd, rp, rs, ⟨h1, h2, h3⟩, -, ⟨h4, h5, h6⟩, -⟩ := h
  exact ⟨nr, h3, h6⟩
theorem rel_rp {u v : Mem} (h : Rel u v) : RpOk u := by
  obtain ⟨ne, np, nr, ch, kd, cv, sd, rp, rs, -, -, -, -, -, -, -, -, h1, h2, -⟩ := h
  exact h1
theorem rel_rpM {u v : Mem} (h : Rel u v) : RpOkM v := by
  obtain ⟨ne, np, nr, ch, kd, cv, sd, rp, rs, -, -, -, -, -, -, -, -, h1, h2, -⟩ := h
  exact h2
theorem rel_sz {u v : Mem} (h : Rel u v) : SzOk u := by
  obtain ⟨ne, np, nr, ch, kd, cv, sd, rp, rs, -, -, -, -, -, -, -, -, -, -, h1⟩ := h
  intro k hk
  rcases (h1 k hk).2.2 with q | ⟨n, hn, e, -⟩
  · exact Or.inl q
  · exact Or.inr ⟨n, hn, e⟩
theorem rel_szM {u v : Mem} (h : Rel u v) : SzOkM v := by
  obtain ⟨ne, np, nr, ch, kd, cv, sd, rp, rs, -, -, -, -, -, -, -, -, -, -, h1⟩ := h
  intro k hk
  rw [(h1 k hk).1]
  rcases (h1 k hk).2.2 with q | ⟨n, hn, e, -⟩
  · exact Or.inl q
  · exact Or.inr ⟨n, hn, e⟩
