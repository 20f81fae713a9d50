def EcOk (u : Mem) : Prop := ∃ n : Nat, n ≤ 5 ∧ u 0 4 = nI n
def PcOk (u : Mem) : Prop := ∃ n : Nat, n ≤ 4 ∧ u 0 5 = nI n
def RcOk (u : Mem) : Prop := ∃ n : Nat, n ≤ 8 ∧ u 0 6 = nI n
def RpOk (u : Mem) : Prop := ∀ r : Nat, r < 8 → vp_in (u 5 r) 4
def SzOk (u : Mem) : Prop := ∀ k : Nat, k < 4 → u 9 k = -1 ∨ ∃ n : Nat, n ≤ 60 ∧ u 9 k = nI n
def Rng (a b : Int32) : Prop := ∃ i j : Nat, i ≤ j ∧ j ≤ 60 ∧ a = nI i ∧ b = nI j
def EcOkM (v : Mem) : Prop := ∃ n : Nat, n ≤ 5 ∧ v 0 1 = nI n
def PcOkM (v : Mem) : Prop := ∃ n : Nat, n ≤ 4 ∧ v 0 3 = nI n
def RcOkM (v : Mem) : Prop := ∃ n : Nat, n ≤ 8 ∧ v 0 18 = nI n
def RpOkM (v : Mem) : Prop := ∀ r : Nat, r < 8 → vp_in (v 9 r) 4
def SzOkM (v : Mem) : Prop := ∀ k : Nat, k < 4 → v 12 k = -1 ∨ ∃ n : Nat, n ≤ 60 ∧ v 12 k = nI n
theorem vlt {n : Nat} {i : Int32} (h : vp_in i n) : i.toNatClampNeg < n := Nat.not_le.mp fun q => h (Or.inr q)
theorem cnt_lt {x M : Int32} {k b : Nat} (eb : M = nI b) (e : x = nI k) (hk : k < 2147483648) (hb : b < 2147483648) (c : ¬ M ≤ x) : k < b := by
  subst eb e
  rw [nI_leI hb hk] at c
  omega
theorem cnt_lt' {x M : Int32} {k b : Nat} (eb : M = nI b) (e : x = nI k) (hk : k < 2147483648) (hb : b < 2147483648) (c : x < M) : k < b := by
  subst eb e
  rw [nI_ltI hk hb] at c
  omega
theorem cnt_ge {x M : Int32} {k b : Nat} (eb : M = nI b) (e : x = nI k) (hk : k < 2147483648) (hb : b < 2147483648) (c : M ≤ x) : b ≤ k := by
  subst eb e
  rw [nI_leI hb hk] at c
  omega
theorem cnt_le {x M : Int32} {k b : Nat} (eb : M = nI b) (e : x = nI k) (hk : k < 2147483648) (hb : b < 2147483648) (c : ¬ M < x) : k ≤ b := by
  subst eb e
  rw [nI_ltI hb hk] at c
  omega
theorem cnt_in {x : Int32} {k n : Nat} (e : x = nI k) (h : k < n) (hn : n < 2147483648) : vp_in x n := by
  subst e
  exact vp_in_nI h hn
theorem cnt_cl {x : Int32} {k : Nat} (e : x = nI k) (h : k < 2147483648) : x.toNatClampNeg = k := by
  subst e
  exact nI_clamp h
theorem ne_int {x n : Int32} {z : Int} (hz : n.toInt = z) (h : ¬ x = n) : z ≠ x.toInt := fun q => h (Int32.toInt_inj.mp (by rw [hz]; exact q.symm))
theorem tab_out3 {x : Int32} (c0 : ¬ x = 0) (c1 : ¬ x = 1) (c2 : ¬ x = 2) : x.toInt < 0 ∨ 2 < x.toInt := by
  have h0 := ne_int (z := 0) rfl c0
  have h1 := ne_int (z := 1) rfl c1
  have h2 := ne_int (z := 2) rfl c2
  omega
theorem tab_out4 {x : Int32} (c0 : ¬ x = 0) (c1 : ¬ x = 1) (c2 : ¬ x = 2) (c3 : ¬ x = 3) : x.toInt < 0 ∨ 3 < x.toInt := by
  have h0 := ne_int (z := 0) rfl c0
  have h1 := ne_int (z := 1) rfl c1
  have h2 := ne_int (z := 2) rfl c2
  have h3 := ne_int (z := 3) rfl c3
  omega
theorem tab_out5 {x : Int32} (c0 : ¬ x = 0) (c1 : ¬ x = 1) (c2 : ¬ x = 2) (c3 : ¬ x = 3) (c4 : ¬ x = 4) : x.toInt < 0 ∨ 4 < x.toInt := by
  have h0 := ne_int (z := 0) rfl c0
  have h1 := ne_int (z := 1) rfl c1
  have h2 := ne_int (z := 2) rfl c2
  have h3 := ne_int (z := 3) rfl c3
  have h4 := ne_int (z := 4) rfl c4
  omega
theorem look_out2 {x a b : Int32} {oa ob d : Int} (c1 : ¬ x = a) (c2 : ¬ x = b) : Op.lookupswitch.offset [(a.toInt, oa), (b.toInt, ob)] d x.toInt = d := by
  have h1 := ne_int rfl c1
  have h2 := ne_int rfl c2
  rw [Op.lookupswitch.offset_cons, if_neg h1, Op.lookupswitch.offset_cons, if_neg h2, Op.lookupswitch.offset_nil]
theorem look_out3 {x a b c : Int32} {oa ob oc d : Int} (c1 : ¬ x = a) (c2 : ¬ x = b) (c3 : ¬ x = c) : Op.lookupswitch.offset [(a.toInt, oa), (b.toInt, ob), (c.toInt, oc)] d x.toInt = d := by
  have h1 := ne_int rfl c1
  have h2 := ne_int rfl c2
  have h3 := ne_int rfl c3
  rw [Op.lookupswitch.offset_cons, if_neg h1, Op.lookupswitch.offset_cons, if_neg h2, Op.lookupswitch.offset_cons, if_neg h3, Op.lookupswitch.offset_nil]
theorem ge_of {x : Int32} (c : ¬ x < 0) : 0 ≤ x.toInt := by
  have h := Int32.not_lt.mp c
  have h2 := Int32.le_iff_toInt_le.mp h
  simpa using h2
theorem in_of {x : Int32} {n : Nat} (h0 : 0 ≤ x.toInt) (h1 : x.toInt < n) : vp_in x n := vp_in_iff.mpr ⟨h0, h1⟩
theorem nI_int {n : Nat} (h : n < 2147483648) : (nI n).toInt = (n : Int) := nI_toInt h
theorem nI_of_int {x : Int32} {n : Nat} (h : x.toInt = (n : Int)) (hn : n < 2147483648) : x = nI n := Int32.toInt_inj.mp (by rw [nI_toInt hn]; exact h)
