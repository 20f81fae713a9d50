def R_law : String := "ProphetCoverLaw"
def lw_P (b : Addr) (xs : List Int32) (args : Array Value) (s : State) : Prop := args = #[.ref b] ∧ s.IntsAt b xs ∧ xs.length ≤ 448 ∧ (Jvm.Cond.and given_1 narrow_1).before args s = true
def lw_Q (_ : Array Value) (s : State) (o : Outcome) (t : State) : Prop := o = .returned (some (.int 1)) ∧ Framed s o t [] 600000 7302250
def lw_Z (below : List Frame) (a : Array Value) (s : State) : State → Prop := fun t => ∃ o, t.status = .running ∧ Ended t below o ∧ lw_Q a s o t
/-- the law's own end, with 1 on the stack, nothing written that was there before, its room as the claim has it -/
theorem lw_ret {p : Program} {l : Launch} {e : Env} {s : State} {m : MethodId} {below : List Frame} {meth : Method} {c : Code} {b : Nat} (hx : p.tables.exec = Jvm.exec) (hb : c.code = code) (hr : meth.sig.returnType = ret) (hlocks : meth.locks = false) {pc : Nat} {H : Heap} {ls : Array Slot} (hdg : decode code pc = .ok (.ireturn, 1)) : W p l e room_1 s m #[Value.ref b] below meth c H [] 600000 7302250 (lw_Z below #[Value.ref b] s) (F0 m pc ls [.int 1]) := by
  intro T hT X
  obtain ⟨fs, hret, hrun, hended, hW, hframe⟩ := X.leave (v := some (.int 1)) (hlocks := hlocks) (fun h => by rw [hr] at h; cases h)
  have hmeth' : T.vm.method? m = some meth := X.method'
  refine ⟨T.setFrames fs, ?_, .returned (some (.int 1)), hrun, hended, rfl, ⟨_, rfl⟩, hW, hframe⟩
  jvm_step X.here [X.here.top, hx, hb, hdg, hmeth', hr, ret, narrow_b1]
  (try refine ⟨rfl, ?_⟩); (try refine ⟨rfl, ?_⟩)
  first | (intro acts; rw [hret _ acts rfl rfl rfl]) | rw [hret _ _ rfl rfl rfl]
  exact Steps.refl _
/-- what holds at the law's entry: the machine, the code, the tables' words (any of lw_tbl by 'hts w (by decide +kernel)'), the script of L ints xs at the cell b, what the Statement gives of the start (any of its parts by flat_of_before) -/
def lw_At (p : Program) (s : State) (m : MethodId) (meth : Method) (c : Code) (b L : Nat) (xs : Nat → Int32) : Prop :=
  p.tables.exec = Jvm.exec ∧ c.code = code ∧ meth.sig.returnType = ret ∧ c.maxLocals = 4 ∧ s.vm.findClass R_law = some m.cls ∧ (∀ w ∈ lw_tbl, w.before #[Value.ref b] s = true) ∧ va_X b L xs s s.heap ∧ b < s.heap.size ∧ meth.locks = false ∧ (Jvm.Cond.and given_1 narrow_1).before #[Value.ref b] s = true
def LwF (D : va_G) (cy : Nat → ClassId) (cz : ClassId) (ad bd : Nat → Nat) (s : State) : Prop := va_K D vwCl (tyX cy) s ∧ va_K D vwCl (tyM cz) s ∧ XI ad ∧ MI bd ∧ (∀ i, i < 25 → s.heap.size ≤ ad i) ∧ (∀ i, i < 16 → s.heap.size ≤ bd i) ∧ (∀ i j, i < 25 → j < 16 → ad i ≠ bd j)
theorem lg_self (x : Int64) : lg_cmp x x = 0 := lg_eq.mpr rfl
theorem AX_lo {ad : Nat → Nat} {n : Nat} (h : ∀ i, i < 25 → n ≤ ad i) : ∀ q, AX ad q → n ≤ q := fun q ⟨i, hi, e⟩ => e ▸ h i hi
theorem AM_lo {bd : Nat → Nat} {n : Nat} (h : ∀ i, i < 16 → n ≤ bd i) : ∀ q, AM bd q → n ≤ q := fun q ⟨i, hi, e⟩ => e ▸ h i hi
theorem wX_mem {cy : Nat → ClassId} {ad : Nat → Nat} {u : Mem} {k : Nat} {q : Nat × va_E} (h : (wX cy ad u)[k]? = some q) : k < 25 ∧ q.1 = ad k := by
  by_cases hk : k < 25
  · rw [wX_at hk] at h
    cases h
    exact ⟨hk, rfl⟩
  · rw [show (wX cy ad u)[k]? = none from List.getElem?_eq_none (by simp [wX]; omega)] at h
    cases h
theorem wM_mem {cz : ClassId} {bd : Nat → Nat} {v : Mem} {k : Nat} {q : Nat × va_E} (h : (wM cz bd v)[k]? = some q) : k < 16 ∧ q.1 = bd k := by
  by_cases hk : k < 16
  · rw [wM_at hk] at h
    cases h
    exact ⟨hk, rfl⟩
  · rw [show (wM cz bd v)[k]? = none from List.getElem?_eq_none (by simp [wM]; omega)] at h
    cases h
theorem keepM {D : va_G} {cz : ClassId} {ad bd : Nat → Nat} {v : Mem} {H H1 : Heap} (hab : ∀ i j, i < 25 → j < 16 → ad i ≠ bd j) (hk : ∀ q : Nat, q < H.size → ¬ AX ad q → H1[q]? = H[q]?) (hP : va_P D vwCl (wM cz bd v) H) : va_P D vwCl (wM cz bd v) H1 :=
  hP.kept (fun k q hq => hk q.1 (hP k q hq).lt (fun ⟨i, hi, e⟩ => hab i k hi (wM_mem hq).1 (e.symm.trans (wM_mem hq).2)))
theorem keepX {D : va_G} {cy : Nat → ClassId} {ad bd : Nat → Nat} {u : Mem} {H H1 : Heap} (hab : ∀ i j, i < 25 → j < 16 → ad i ≠ bd j) (hk : ∀ q : Nat, q < H.size → ¬ AM bd q → H1[q]? = H[q]?) (hP : va_P D vwCl (wX cy ad u) H) : va_P D vwCl (wX cy ad u) H1 :=
  hP.kept (fun k q hq => hk q.1 (hP k q hq).lt (fun ⟨i, hi, e⟩ => hab k i (wX_mem hq).1 hi ((wX_mem hq).2.symm.trans e)))
