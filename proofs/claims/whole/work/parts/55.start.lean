theorem law_lt {x3 : Int32} {i L : Nat} (hL : L ≤ 448) (ex : x3 = nI (7 * i)) (hi : 7 * i ≤ L) (c : ¬ Int32.ofNat L - 7 < x3) : 7 * i + 7 ≤ L := by
  have h : ¬ (Int32.ofNat L - 7).toInt < x3.toInt := fun q => c (Int32.lt_iff_toInt_lt.mpr q)
  rw [Int32.toInt_sub, show (Int32.ofNat L) = nI L from rfl, ex, nI_int (by omega), nI_int (by omega), show (7 : Int32).toInt = 7 from rfl, Int.bmod_eq_of_le (by omega) (by omega)] at h
  omega
theorem rel_init : Rel u0X v0M := by
  refine ⟨0, 0, 0, fun _ => 0, fun _ => 0, fun _ => 0, fun _ => 0, fun _ => 0, fun _ => 0, ⟨by omega, by omega, by omega⟩, ⟨rfl, rfl, rfl⟩, ⟨rfl, rfl, rfl⟩, rfl, rfl, fun e h => absurd h (Nat.not_lt_zero e), fun e h => absurd h (Nat.not_lt_zero e), fun e h => absurd h (Nat.not_lt_zero e), ?_, ?_, ?_⟩
  · intro r _
    exact vp_in_nI (n := 0) (by decide) (by decide)
  · intro r _
    exact vp_in_nI (n := 0) (by decide) (by decide)
  · intro k _
    exact ⟨rfl, rfl, Or.inl rfl⟩
set_option maxRecDepth 100000 in
set_option maxHeartbeats 4000000 in
theorem law_loop {p : Program} {l : Launch} {e : Env} {s : State} {m : MethodId} {below : List Frame} {meth : Method} {c : Code} {D : va_G} {cy : Nat → ClassId} {cz : ClassId} {ad bd : Nat → Nat} {b L : Nat} {xs : Nat → Int32} (hL : L ≤ 448) (C0 : lw_At p s m meth c b L xs) (F : LwF D cy cz ad bd s) : ∀ (n i : Nat) (x3 : Int32), x3 = nI (7 * i) → 7 * i ≤ L → L < 7 * i + 7 * n → ∀ (u v : Mem) (H : Heap) (locs : List Loc), Rel u v → va_P D vwCl (wX cy ad u) H → va_P D vwCl (wM cz bd v) H → va_S (fun q : Nat => s.heap.size ≤ q) s.heap H locs → ∀ ls : Array Slot, lv_has ls 4 [(0, .ref b), (1, .ref (ad 0)), (2, .ref (bd 0)), (3, .int x3)] → W p l e room_1 s m #[Value.ref b] below meth c H locs 600000 7302250 (lw_Z below #[Value.ref b] s) (F0 m 18 ls []) := by
  obtain ⟨hx, hb, hr, hml, hown, hts0, hX, hbl, hlocks, hgv⟩ := id C0
  have hbA : ¬ (fun q : Nat => s.heap.size ≤ q) b := Nat.not_le.mpr hbl
  intro n
  induction n with
  | zero => intro i x3 _ h1 h2; omega
  | succ n ih =>
    intro i x3 ex hi hm u v H locs hR hP hPm hS ls hl
    refine lv_iload_n hx hb dL_law_18 rfl (lv_at hl 3 rfl) ?_
    refine lv_aload_n hx hb dL_law_19 rfl (lv_at hl 0 rfl) ?_
    refine va_slen hx hb hX hbl hbA hS dL_law_20 ?_
    refine lv_bipush (v := 7) hx hb dL_law_21 (by decide) ?_
    refine lv_isub hx hb dL_law_23 ?_
    refine lv_icmp_gt (tgt := 1149) hx hb dL_law_24 (by decide) (fun c1 => ?_) (fun c1 => ?_)
    · refine lv_iconst (v := 1) hx hb dL_law_1149 (by decide) ?_
      refine va_forget (fun q hq => hS.2.2 q hq) ?_
      exact lw_ret hx hb hr hlocks dL_law_1150
    have hlt : 7 * i + 7 ≤ L := law_lt hL ex hi c1
    have h0 : vp_in x3 L := cnt_in ex (by omega) (by omega)
    have h1 : vp_in (x3 + 1) L := cnt_in (by rw [ex]; exact nI_add (7 * i) 1) (by omega) (by omega)
    have h2 : vp_in (x3 + 2) L := cnt_in (by rw [ex]; exact nI_add (7 * i) 2) (by omega) (by omega)
    have h3 : vp_in (x3 + 3) L := cnt_in (by rw [ex]; exact nI_add (7 * i) 3) (by omega) (by omega)
    have h4 : vp_in (x3 + 4) L := cnt_in (by rw [ex]; exact nI_add (7 * i) 4) (by omega) (by omega)
    have h5 : vp_in (x3 + 5) L := cnt_in (by rw [ex]; exact nI_add (7 * i) 5) (by omega) (by omega)
    have h6 : vp_in (x3 + 6) L := cnt_in (by rw [ex]; exact nI_add (7 * i) 6) (by omega) (by omega)
    refine lv_aload_n hx hb dL_law_27 rfl (lv_at hl 0 rfl) ?_
    refine lv_iload_n hx hb dL_law_28 rfl (lv_at hl 3 rfl) ?_
    refine va_sld hx hb hX hbl hbA hS h0 dL_law_29 ?_
    refine lv_bipush (v := 31) hx hb dL_law_30 (by decide) ?_
    refine lv_iand hx hb dL_law_32 ?_
    obtain ⟨j, hj, ej⟩ := pk_andE (xs x3.toNatClampNeg) (m := 31) 5 (by decide)
    have kk : ∀ (u v : Mem) (H : Heap) (locs : List Loc), Rel u v → va_P D vwCl (wX cy ad u) H → va_P D vwCl (wM cz bd v) H → va_S (fun q : Nat => s.heap.size ≤ q) s.heap H locs → ∀ ls : Array Slot, lv_has ls 4 [(0, .ref b), (1, .ref (ad 0)), (2, .ref (bd 0)), (3, .int x3)] → W p l e room_1 s m #[Value.ref b] below meth c H locs 600000 7302250 (lw_Z below #[Value.ref b] s) (F0 m 1143 ls []) := by
      intro u v H locs hR hP hPm hS ls hl
      refine lv_iinc (v := (x3 + 7)) (lv' := [(3, .int (x3 + 7)), (0, .ref b), (1, .ref (ad 0)), (2, .ref (bd 0))]) hx hb dL_law_1143 hl (k := 3) rfl rfl (by decide) rfl (fun ls hl => ?_)
      refine lv_goto (tgt := 18) hx hb dL_law_1146 (by decide) ?_
      exact ih (i + 1) (x3 + 7) (by rw [ex]; exact nI_add (7 * i) 7) (by omega) (by omega) u v H locs hR hP hPm hS ls (lv_sub hl [1, 2, 3, 0] rfl)
    rcases (show j = 0 ∨ j = 1 ∨ j = 2 ∨ j = 3 ∨ j = 4 ∨ j = 5 ∨ j = 6 ∨ j = 7 ∨ j = 8 ∨ j = 9 ∨ j = 10 ∨ j = 11 ∨ j = 12 ∨ j = 13 ∨ j = 14 ∨ j = 15 ∨ j = 16 ∨ j = 17 ∨ j = 18 ∨ j = 19 ∨ j = 20 ∨ j = 21 ∨ j = 22 ∨ j = 23 ∨ j = 24 ∨ j = 25 ∨ j = 26 ∨ j = 27 ∨ j = 28 ∨ j = 29 ∨ j = 30 ∨ j = 31 by omega) with rfl | rfl | rfl | rfl | rfl | rfl | rfl | rfl | rfl | rfl | rfl | rfl | rfl | rfl | rfl | rfl | rfl | rfl | rfl | rfl | rfl | rfl | rfl | rfl | rfl | rfl | rfl | rfl | rfl | rfl | rfl | rfl
    · refine lv_tableIn (off := 135) (tgt := 168) hx hb dL_law_33 (by rw [ej]; decide) (by rw [ej]; decide) (by rw [ej]; rfl) (by decide) ?_
      exact case_office C0 F h1 h2 h3 h4 h5 h6 hP hPm hS hR hl kk
    · refine lv_tableIn (off := 188) (tgt := 221) hx hb dL_law_33 (by rw [ej]; decide) (by rw [ej]; decide) (by rw [ej]; rfl) (by decide) ?_
      exact case_chance C0 F h1 h2 h3 h4 h5 h6 hP hPm hS hR hl kk
    · refine lv_tableIn (off := 211) (tgt := 244) hx hb dL_law_33 (by rw [ej]; decide) (by rw [ej]; decide) (by rw [ej]; rfl) (by decide) ?_
      exact case_fate C0 F h1 h2 h3 h4 h5 h6 hP hPm hS hR hl kk
    · refine lv_tableIn (off := 244) (tgt := 277) hx hb dL_law_33 (by rw [ej]; decide) (by rw [ej]; decide) (by rw [ej]; rfl) (by decide) ?_
      exact case_ofProphet C0 F h1 h2 h3 h4 h5 h6 hP hPm hS hR hl kk
    · refine lv_tableIn (off := 277) (tgt := 310) hx hb dL_law_33 (by rw [ej]; decide) (by rw [ej]; decide) (by rw [ej]; rfl) (by decide) ?_
      exact case_say C0 F h1 h2 h3 h4 h5 h6 hP hPm hS hR hl kk
    · refine lv_tableIn (off := 310) (tgt := 343) hx hb dL_law_33 (by rw [ej]; decide) (by rw [ej]; decide) (by rw [ej]; rfl) (by decide) ?_
      exact case_paid C0 F h1 h2 h3 h4 h5 h6 hP hPm hS hR hl kk
    · refine lv_tableIn (off := 343) (tgt := 376) hx hb dL_law_33 (by rw [ej]; decide) (by rw [ej]; decide) (by rw [ej]; rfl) (by decide) ?_
      exact case_total C0 F h1 h2 h3 h4 h5 h6 hP hPm hS hR hl kk
    · refine lv_tableIn (off := 366) (tgt := 399) hx hb dL_law_33 (by rw [ej]; decide) (by rw [ej]; decide) (by rw [ej]; rfl) (by decide) ?_
      exact case_years C0 F h1 h2 h3 h4 h5 h6 hP hPm hS hR hl kk
    · refine lv_tableIn (off := 441) (tgt := 474) hx hb dL_law_33 (by rw [ej]; decide) (by rw [ej]; decide) (by rw [ej]; rfl) (by decide) ?_
      exact case_fair C0 F h1 h2 h3 h4 h5 h6 hP hPm hS hR hl kk
    · refine lv_tableIn (off := 475) (tgt := 508) hx hb dL_law_33 (by rw [ej]; decide) (by rw [ej]; decide) (by rw [ej]; rfl) (by decide) ?_
      exact case_safe C0 F h1 h2 h3 h4 h5 h6 hP hPm hS hR hl kk
    · refine lv_tableIn (off := 498) (tgt := 531) hx hb dL_law_33 (by rw [ej]; decide) (by rw [ej]; decide) (by rw [ej]; rfl) (by decide) ?_
      exact case_hold C0 F h1 h2 h3 h4 h5 h6 hP hPm hS hR hl kk
    · refine lv_tableIn (off := 521) (tgt := 554) hx hb dL_law_33 (by rw [ej]; decide) (by rw [ej]; decide) (by rw [ej]; rfl) (by decide) ?_
      exact case_best C0 F h1 h2 h3 h4 h5 h6 hP hPm hS hR hl kk
    · refine lv_tableIn (off := 554) (tgt := 587) hx hb dL_law_33 (by rw [ej]; decide) (by rw [ej]; decide) (by rw [ej]; rfl) (by decide) ?_
      exact case_came C0 F h1 h2 h3 h4 h5 h6 hP hPm hS hR hl kk
    · refine lv_tableIn (off := 587) (tgt := 620) hx hb dL_law_33 (by rw [ej]; decide) (by rw [ej]; decide) (by rw [ej]; rfl) (by decide) ?_
      exact case_reading C0 F h1 h2 h3 h4 h5 h6 hP hPm hS hR hl kk
    · refine lv_tableIn (off := 630) (tgt := 663) hx hb dL_law_33 (by rw [ej]; decide) (by rw [ej]; decide) (by rw [ej]; rfl) (by decide) ?_
      exact case_back C0 F h1 h2 h3 h4 h5 h6 hP hPm hS hR hl kk
    · refine lv_tableIn (off := 653) (tgt := 686) hx hb dL_law_33 (by rw [ej]; decide) (by rw [ej]; decide) (by rw [ej]; rfl) (by decide) ?_
      exact case_covers C0 F h1 h2 h3 h4 h5 h6 hP hPm hS hR hl kk
    · refine lv_tableIn (off := 676) (tgt := 709) hx hb dL_law_33 (by rw [ej]; decide) (by rw [ej]; decide) (by rw [ej]; rfl) (by decide) ?_
      exact case_kinds C0 F h1 h2 h3 h4 h5 h6 hP hPm hS hR hl kk
    · refine lv_tableIn (off := 699) (tgt := 732) hx hb dL_law_33 (by rw [ej]; decide) (by rw [ej]; decide) (by rw [ej]; rfl) (by decide) ?_
      exact case_sayings C0 F h1 h2 h3 h4 h5 h6 hP hPm hS hR hl kk
    · refine lv_tableIn (off := 732) (tgt := 765) hx hb dL_law_33 (by rw [ej]; decide) (by rw [ej]; decide) (by rw [ej]; rfl) (by decide) ?_
      exact case_odds C0 F h1 h2 h3 h4 h5 h6 hP hPm hS hR hl kk
    · refine lv_tableIn (off := 766) (tgt := 799) hx hb dL_law_33 (by rw [ej]; decide) (by rw [ej]; decide) (by rw [ej]; rfl) (by decide) ?_
      exact case_sheet C0 F h1 h2 h3 h4 h5 h6 hP hPm hS hR hl kk
    · refine lv_tableIn (off := 809) (tgt := 842) hx hb dL_law_33 (by rw [ej]; decide) (by rw [ej]; decide) (by rw [ej]; rfl) (by decide) ?_
      exact case_lose C0 F h1 h2 h3 h4 h5 h6 hP hPm hS hR hl kk
    · refine lv_tableIn (off := 832) (tgt := 865) hx hb dL_law_33 (by rw [ej]; decide) (by rw [ej]; decide) (by rw [ej]; rfl) (by decide) ?_
      exact case_put C0 F h1 h2 h3 h4 h5 h6 hP hPm hS hR hl kk
    · refine lv_tableIn (off := 875) (tgt := 908) hx hb dL_law_33 (by rw [ej]; decide) (by rw [ej]; decide) (by rw [ej]; rfl) (by decide) ?_
      exact case_cell C0 F h1 h2 h3 h4 h5 h6 hP hPm hS hR hl kk
    · refine lv_tableIn (off := 919) (tgt := 952) hx hb dL_law_33 (by rw [ej]; decide) (by rw [ej]; decide) (by rw [ej]; rfl) (by decide) ?_
      exact case_copy C0 F h1 h2 h3 h4 h5 h6 hP hPm hS hR hl kk
    · refine lv_tableIn (off := 982) (tgt := 1015) hx hb dL_law_33 (by rw [ej]; decide) (by rw [ej]; decide) (by rw [ej]; rfl) (by decide) ?_
      exact case_tell C0 F h1 h2 h3 h4 h5 h6 hP hPm hS hR hl kk
    · refine lv_tableIn (off := 1005) (tgt := 1038) hx hb dL_law_33 (by rw [ej]; decide) (by rw [ej]; decide) (by rw [ej]; rfl) (by decide) ?_
      exact case_hear C0 F h1 h2 h3 h4 h5 h6 hP hPm hS hR hl kk
    · refine lv_tableIn (off := 1028) (tgt := 1061) hx hb dL_law_33 (by rw [ej]; decide) (by rw [ej]; decide) (by rw [ej]; rfl) (by decide) ?_
      exact case_as C0 F h1 h2 h3 h4 h5 h6 hP hPm hS hR hl kk
    · refine lv_tableIn (off := 1061) (tgt := 1094) hx hb dL_law_33 (by rw [ej]; decide) (by rw [ej]; decide) (by rw [ej]; rfl) (by decide) ?_
      exact case_trace C0 F h1 h2 h3 h4 h5 h6 hP hPm hS hR hl kk
    · refine lv_tableIn (off := 1074) (tgt := 1107) hx hb dL_law_33 (by rw [ej]; decide) (by rw [ej]; decide) (by rw [ej]; rfl) (by decide) ?_
      exact case_fault C0 F h1 h2 h3 h4 h5 h6 hP hPm hS hR hl kk
    · refine lv_tableIn (off := 1087) (tgt := 1120) hx hb dL_law_33 (by rw [ej]; decide) (by rw [ej]; decide) (by rw [ej]; rfl) (by decide) ?_
      exact case_many C0 F h1 h2 h3 h4 h5 h6 hP hPm hS hR hl kk
    · refine lv_tableOut (tgt := 1143) hx hb dL_law_33 (by rw [ej]; decide) (by decide) ?_
      exact kk u v H locs hR hP hPm hS ls hl
    · refine lv_tableOut (tgt := 1143) hx hb dL_law_33 (by rw [ej]; decide) (by decide) ?_
      exact kk u v H locs hR hP hPm hS ls hl
theorem va_P_l {D : va_G} {cl : List vw_C} {w1 w2 : va_W} {H : Heap} (h : va_P D cl (w1 ++ w2) H) : va_P D cl w1 H := fun k q hk => h k q (by rw [List.getElem?_append_left (List.getElem?_eq_some_iff.mp hk).1]; exact hk)
theorem va_P_r {D : va_G} {cl : List vw_C} {w1 w2 : va_W} {H : Heap} (h : va_P D cl (w1 ++ w2) H) : va_P D cl w2 H := fun k q hk => h (w1.length + k) q (by rw [List.getElem?_append_right (by omega), show w1.length + k - w1.length = k by omega]; exact hk)
theorem wX_len {cy : Nat → ClassId} {ad : Nat → Nat} {u : Mem} : (wX cy ad u).length = 25 := by simp [wX]
set_option maxRecDepth 100000 in
set_option maxHeartbeats 8000000 in
theorem whole_start {p : Program} {e : Env} {s : State} {m : MethodId} {below : List Frame} {meth : Method} {c : Code} (l : Launch) (hflags : l.flags = flags0) {b L : Nat} {xs : Nat → Int32} (hL : L ≤ 448) (C0 : lw_At p s m meth c b L xs) : W p l e room_1 s m #[Value.ref b] below meth c s.heap [] 0 0 (lw_Z below #[Value.ref b] s) (entryFrame m ([Value.ref b] : List Value).toArray 4) := by
  obtain ⟨hx, hb, hr, hml, hown, hts, hX, hbl, hlocks, hgv⟩ := id C0
  have hown : s.vm.findClass RL = some m.cls := hown
  have htl : ∀ w ∈ wsL_law, w.before #[Value.ref b] s = true := fun w h => hts w (wsL_law_in w h)
  have hA : ∀ q : Nat, s.heap.size ≤ q → (fun q : Nat => s.heap.size ≤ q) q := fun _ h => h
  have hbA : ¬ (fun q : Nat => s.heap.size ≤ q) b := Nat.not_le.mpr hbl
  obtain ⟨c0, iS0, hKn0⟩ := u_known (C := RX0) (T := TX0) (N := 3) (n := 3) hts inX0 (hts (Cond.instantiable RX0 3) (List.mem_of_getElem? (i := 97) (by decide +kernel)))
  obtain ⟨c1, iS1, hKn1⟩ := u_known (C := RX1) (T := TX1) (N := 3) (n := 3) hts inX1 (hts (Cond.instantiable RX1 3) (List.mem_of_getElem? (i := 115) (by decide +kernel)))
  obtain ⟨c2, iS2, hKn2⟩ := u_known (C := RX2) (T := TX2) (N := 3) (n := 3) hts inX2 (hts (Cond.instantiable RX2 3) (List.mem_of_getElem? (i := 78) (by decide +kernel)))
  obtain ⟨c3, iS3, hKn3⟩ := u_known (C := RX3) (T := TX3) (N := 9) (n := 9) hts inX3 (hts (Cond.instantiable RX3 9) (List.mem_of_getElem? (i := 65) (by decide +kernel)))
  obtain ⟨c4, iS4, hKn4⟩ := u_known (C := RX4) (T := TX4) (N := 27) (n := 27) hts inX4 (hts (Cond.instantiable RX4 27) (List.mem_of_getElem? (i := 468) (by decide +kernel)))
  obtain ⟨D, hKc⟩ : ∃ D : va_G, ∀ (k : Nat) (q : vw_C), vwCl[k]? = some q → u_Kn s q.1 q.2.1 q.2.2 (D.1 k) (D.2 k) := by
    refine ⟨(fun k => if k = 0 then c0 else if k = 1 then c1 else if k = 2 then c2 else if k = 3 then c3 else c4, fun k => if k = 0 then iS0 else if k = 1 then iS1 else if k = 2 then iS2 else if k = 3 then iS3 else iS4), ?_⟩
    intro k q hq
    match k, hq with
    | 0, hq => cases hq; exact hKn0
    | 1, hq => cases hq; exact hKn1
    | 2, hq => cases hq; exact hKn2
    | 3, hq => cases hq; exact hKn3
    | 4, hq => cases hq; exact hKn4
    | k + 5, hq => simp [vwCl] at hq
  have hS : va_S (fun q : Nat => s.heap.size ≤ q) s.heap s.heap [] := va_S.rf
  have hK : va_K D vwCl [] s := ⟨hKc, fun k q h => by simp at h⟩
  have hP : va_P D vwCl [] s.heap := fun k q h => by simp at h
  have hD : va_D (fun q : Nat => s.heap.size ≤ q) [] := ⟨fun i j p q h => by simp at h, fun k q h => by simp at h⟩
  have hl := lv_entry ([.ref b]) (n := 4) (Nat.le_of_ble_eq_true rfl)
  rw [lg_entry_eq]
  generalize (lg_sl ([.ref b]) ++ List.replicate (4 - (lg_sl ([.ref b])).length) Slot.unset).toArray = ls at hl ⊢
  have hl : lv_has ls 4 [(0, .ref b)] := hl
  refine va_new (ci := 3) (fs := [.null, .null, .null, .null, .int 0, .int 0, .int 0, .int 0, .int 0]) (C := RX3) (T := TX3) (N := 9) hx hb hts inX3 tyX3 tyX3_ok hown (hts (Cond.classLink RL 7 RX3) (List.mem_of_getElem? (i := 64) (by decide +kernel))) (hts (Cond.instantiable RX3 9) (List.mem_of_getElem? (i := 65) (by decide +kernel))) (hts (Cond.initialized RX3) (List.mem_of_getElem? (i := 56) (by decide +kernel))) hK hP hD hS hA rfl (fun j hj => by rcases (show j = 0 ∨ j = 1 ∨ j = 2 ∨ j = 3 ∨ j = 4 ∨ j = 5 ∨ j = 6 ∨ j = 7 ∨ j = 8 by omega) with rfl | rfl | rfl | rfl | rfl | rfl | rfl | rfl | rfl <;> rfl) (Nat.le_of_ble_eq_true rfl) (Nat.le_of_ble_eq_true rfl) dL_law_0 (fun q0 H hP hD hS => ?_)
  have hP : va_P D vwCl [(q0, .inr (3, [.null, .null, .null, .null, .int 0, .int 0, .int 0, .int 0, .int 0]))] H := hP
  have hD : va_D (fun q : Nat => s.heap.size ≤ q) [(q0, .inr (3, [.null, .null, .null, .null, .int 0, .int 0, .int 0, .int 0, .int 0]))] := hD
  refine lv_dup hx hb dL_law_3 rfl ?_
  have hFc := va_free (wc := [(q0, .inr (3, [.null, .null, .null, .null, .int 0, .int 0, .int 0, .int 0, .int 0]))]) hD hS hA [0] rfl
  have hO2 : va_AO RX2 s := va_AO.of (hts (Cond.arrayOver (.object RX2)) (List.mem_of_getElem? (i := 73) (by decide +kernel)))
  have hO0 : va_AO RX0 s := va_AO.of (hts (Cond.arrayOver (.object RX0)) (List.mem_of_getElem? (i := 75) (by decide +kernel)))
  have hO1 : va_AO RX1 s := va_AO.of (hts (Cond.arrayOver (.object RX1)) (List.mem_of_getElem? (i := 77) (by decide +kernel)))
  have hN2 : va_Nw (.methodLinkNest RX3 49 yX2_init RX3) s := va_Nw.of rfl (hts (Cond.methodLinkNest RX3 49 yX2_init RX3) (List.mem_of_getElem? (i := 79) (by decide +kernel)))
  have hN0 : va_Nw (.methodLinkNest RX3 50 yX0_init RX3) s := va_Nw.of rfl (hts (Cond.methodLinkNest RX3 50 yX0_init RX3) (List.mem_of_getElem? (i := 98) (by decide +kernel)))
  have hN1 : va_Nw (.methodLinkNest RX3 51 yX1_init RX3) s := va_Nw.of rfl (hts (Cond.methodLinkNest RX3 51 yX1_init RX3) (List.mem_of_getElem? (i := 116) (by decide +kernel)))
  refine va_callv (va_runI (As := []) (rest := [.ref q0]) ⟨hx, hb, hml, hown, htl⟩ (kX3_init l D q0 H.size) (cwI 0 htl gL_law_X3_init rfl rfl rfl (hts (Cond.initialized RX3) (List.mem_of_getElem? (i := 56) (by decide +kernel))) (hts (Cond.methodLink RL 9 yX3_init) (List.mem_of_getElem? (i := 66) (by decide +kernel))) (hts (Cond.instanceMethod yX3_init) (List.mem_of_getElem? (i := 67) (by decide +kernel))) rfl (by decide +kernel) ⟨Nat.le_of_ble_eq_true rfl, Nat.le_of_ble_eq_true rfl⟩) ⟨fun a U g mk z => ⟨z.1, z.2.1, z.2.2.1, va_K.moved (u := U) (U := U.calling g mk a) (Vm.Alike.refl U.vm) z.2.2.2.1, z.2.2.2.2.1, va_AO.moved (u := U) (U := U.calling g mk a) (Vm.Alike.refl U.vm) z.2.2.2.2.2.1, va_AO.moved (u := U) (U := U.calling g mk a) (Vm.Alike.refl U.vm) z.2.2.2.2.2.2.1, va_AO.moved (u := U) (U := U.calling g mk a) (Vm.Alike.refl U.vm) z.2.2.2.2.2.2.2.1, va_Nw.same (u := U) (U := U.calling g mk a) rfl rfl z.2.2.2.2.2.2.2.2.1, va_Nw.same (u := U) (U := U.calling g mk a) rfl rfl z.2.2.2.2.2.2.2.2.2.1, va_Nw.same (u := U) (U := U.calling g mk a) rfl rfl z.2.2.2.2.2.2.2.2.2.2⟩, fun U hU hW => ⟨rfl, by rw [hU], by rw [hU]; exact hP, va_K.moved hW.alike hK, hD.weaken (fun _ _ _ _ => trivial), va_AO.moved hW.alike hO2, va_AO.moved hW.alike hO0, va_AO.moved hW.alike hO1, va_Nw.warmM hW hN2, va_Nw.warmM hW hN0, va_Nw.warmM hW hN1⟩⟩ rfl rfl hl.1 rfl (lv_room (Nat.le_of_ble_eq_true rfl)) dL_law_4 ⟨Nat.le_of_ble_eq_true rfl, Nat.le_of_ble_eq_true rfl⟩) hS (fun q _ h => hFc q h) hFc (fun un t H1 locs ht hvm hw hB hz1 hk1 hS => ?_)
  obtain ⟨cy, ad⟩ := un
  obtain ⟨hP1, hK1, hD1⟩ := hB
  rw [ht] at hP1
  have hKx : va_K D vwCl (tyX cy) s := va_K.moved hvm.symm hK1
  have hw : ad 0 = q0 := hw
  have hPx : va_P D vwCl (wX cy ad u0X) H1 := hP1
  have hDx : va_D (fun q : Nat => s.heap.size ≤ q) (wX cy ad u0X) := hD1.weaken (fun k q _ h => hFc q.1 h)
  clear hP1 hD1 hP hD hFc hz1 hk1 hK1
  subst hw
  refine lv_astore_n (lv' := [(1, .ref (ad 0)), (0, .ref b)]) hx hb dL_law_7 rfl hl (by decide) rfl (fun ls hl => ?_)
  refine va_new (ci := 4) (fs := [.int 0, .int 0, .null, .int 0, .null, .null, .null, .int 0, .int 0, .int 0, .null, .null, .null, .null, .int 0, .int 0, .int 0, .int 0, .int 0, .null, .null, .null, .null, .null, .null, .null, .int 0]) (C := RX4) (T := TX4) (N := 27) hx hb hts inX4 tyX4 tyX4_ok hown (hts (Cond.classLink RL 10 RX4) (List.mem_of_getElem? (i := 467) (by decide +kernel))) (hts (Cond.instantiable RX4 27) (List.mem_of_getElem? (i := 468) (by decide +kernel))) (hts (Cond.initialized RX4) (List.mem_of_getElem? (i := 60) (by decide +kernel))) hKx hPx hDx hS hA rfl (fun j hj => by rcases (show j = 0 ∨ j = 1 ∨ j = 2 ∨ j = 3 ∨ j = 4 ∨ j = 5 ∨ j = 6 ∨ j = 7 ∨ j = 8 ∨ j = 9 ∨ j = 10 ∨ j = 11 ∨ j = 12 ∨ j = 13 ∨ j = 14 ∨ j = 15 ∨ j = 16 ∨ j = 17 ∨ j = 18 ∨ j = 19 ∨ j = 20 ∨ j = 21 ∨ j = 22 ∨ j = 23 ∨ j = 24 ∨ j = 25 ∨ j = 26 by omega) with rfl | rfl | rfl | rfl | rfl | rfl | rfl | rfl | rfl | rfl | rfl | rfl | rfl | rfl | rfl | rfl | rfl | rfl | rfl | rfl | rfl | rfl | rfl | rfl | rfl | rfl | rfl <;> rfl) (Nat.le_of_ble_eq_true rfl) (Nat.le_of_ble_eq_true rfl) dL_law_8 (fun q1 H hP hD hS => ?_)
  refine lv_dup hx hb dL_law_11 rfl ?_
  have hPx := va_P_l hP
  have hPc : va_P D vwCl [(q1, .inr (4, [.int 0, .int 0, .null, .int 0, .null, .null, .null, .int 0, .int 0, .int 0, .null, .null, .null, .null, .int 0, .int 0, .int 0, .int 0, .int 0, .null, .null, .null, .null, .null, .null, .null, .int 0]))] H := va_P_r hP
  have hq1 : (wX cy ad u0X ++ [(q1, .inr (4, [.int 0, .int 0, .null, .int 0, .null, .null, .null, .int 0, .int 0, .int 0, .null, .null, .null, .null, .int 0, .int 0, .int 0, .int 0, .int 0, .null, .null, .null, .null, .null, .null, .null, .int 0]))])[25]? = some (q1, .inr (4, [.int 0, .int 0, .null, .int 0, .null, .null, .null, .int 0, .int 0, .int 0, .null, .null, .null, .null, .int 0, .int 0, .int 0, .int 0, .int 0, .null, .null, .null, .null, .null, .null, .null, .int 0])) := by rw [List.getElem?_append_right (by rw [wX_len]; exact Nat.le_refl _), wX_len]; rfl
  have hqs : s.heap.size ≤ q1 := hD.2 25 _ hq1
  have hne : ∀ i, i < 25 → ad i ≠ q1 := fun i hi z => absurd (hD.1 i 25 (ad i, eX cy ad u0X i) (q1, .inr (4, [.int 0, .int 0, .null, .int 0, .null, .null, .null, .int 0, .int 0, .int 0, .null, .null, .null, .null, .int 0, .int 0, .int 0, .int 0, .int 0, .null, .null, .null, .null, .null, .null, .null, .int 0])) (by rw [List.getElem?_append_left (by rw [wX_len]; exact hi)]; exact wX_at hi) hq1 z) (by omega)
  have hDc : va_D (fun q : Nat => s.heap.size ≤ q) [(q1, .inr (4, [.int 0, .int 0, .null, .int 0, .null, .null, .null, .int 0, .int 0, .int 0, .null, .null, .null, .null, .int 0, .int 0, .int 0, .int 0, .int 0, .null, .null, .null, .null, .null, .null, .null, .int 0]))] := ⟨fun i j p q hi hj _ => by have h1 := (List.getElem?_eq_some_iff.mp hi).1; have h2 := (List.getElem?_eq_some_iff.mp hj).1; simp at h1 h2; omega, fun k q hk => by have h1 := (List.getElem?_eq_some_iff.mp hk).1; simp at h1; subst h1; cases hk; exact hqs⟩
  have hFc := va_free (wc := [(q1, .inr (4, [.int 0, .int 0, .null, .int 0, .null, .null, .null, .int 0, .int 0, .int 0, .null, .null, .null, .null, .int 0, .int 0, .int 0, .int 0, .int 0, .null, .null, .null, .null, .null, .null, .null, .int 0]))]) hDc hS hA [0] rfl
  refine va_callv (va_runI (As := []) (rest := [.ref q1]) ⟨hx, hb, hml, hown, htl⟩ (kX4_init l D q1 H.size) (cwI 0 htl gL_law_X4_init rfl rfl rfl (hts (Cond.initialized RX4) (List.mem_of_getElem? (i := 60) (by decide +kernel))) (hts (Cond.methodLink RL 12 yX4_init) (List.mem_of_getElem? (i := 469) (by decide +kernel))) (hts (Cond.instanceMethod yX4_init) (List.mem_of_getElem? (i := 470) (by decide +kernel))) rfl (by decide +kernel) ⟨Nat.le_of_ble_eq_true rfl, Nat.le_of_ble_eq_true rfl⟩) ⟨fun a U g mk z => ⟨z.1, z.2.1, z.2.2.1, va_K.moved (u := U) (U := U.calling g mk a) (Vm.Alike.refl U.vm) z.2.2.2.1, z.2.2.2.2⟩, fun U hU hW => ⟨rfl, by rw [hU], by rw [hU]; exact hPc, va_K.moved hW.alike hK, hDc.weaken (fun _ _ _ _ => trivial)⟩⟩ rfl rfl hl.1 rfl (lv_room (Nat.le_of_ble_eq_true rfl)) dL_law_12 ⟨Nat.le_of_ble_eq_true rfl, Nat.le_of_ble_eq_true rfl⟩) hS (fun q _ h => hFc q h) hFc (fun un t H1 locs ht hvm hw hB hz1 hk1 hS => ?_)
  obtain ⟨cz, bd⟩ := un
  obtain ⟨hPm, hK1, hD1⟩ := hB
  rw [ht] at hPm
  have hKm : va_K D vwCl (tyM cz) s := va_K.moved hvm.symm hK1
  have hw : bd 0 = q1 := hw
  have hPm : va_P D vwCl (wM cz bd v0M) H1 := hPm
  have hnA : ∀ i, i < 25 → ¬ va_A [(q1, .inr (4, [.int 0, .int 0, .null, .int 0, .null, .null, .null, .int 0, .int 0, .int 0, .null, .null, .null, .null, .int 0, .int 0, .int 0, .int 0, .int 0, .null, .null, .null, .null, .null, .null, .null, .int 0]))] H.size (ad i) := by
    intro i hi z
    rcases z with ⟨k, e, hk⟩ | z
    · have h1 := (List.getElem?_eq_some_iff.mp hk).1
      simp at h1
      subst h1
      cases hk
      exact hne i hi rfl
    · exact absurd (hPx i _ (wX_at hi)).lt (Nat.not_lt.mpr z)
  have hPx : va_P D vwCl (wX cy ad u0X) H1 := hPx.kept (fun k q hq => by
    have hm := wX_mem hq
    have hlt := (hPx k q hq).lt
    rw [hm.2] at hlt ⊢
    exact hk1 _ hlt (hnA k hm.1))
  have hab : ∀ i j, i < 25 → j < 16 → ad i ≠ bd j := fun i j hi hj z => hnA i hi (z ▸ (hD1.2 j _ (wM_at hj)))
  have hbm : ∀ j, j < 16 → s.heap.size ≤ bd j := fun j hj => hFc _ (hD1.2 j _ (wM_at hj))
  have hax : ∀ i, i < 25 → s.heap.size ≤ ad i := fun i hi => hDx.2 i _ (wX_at hi)
  have hIx : XI ad := fun i j hi hj z => hDx.1 i j _ _ (wX_at hi) (wX_at hj) z
  have hIm : MI bd := fun i j hi hj z => hD1.1 i j _ _ (wM_at hi) (wM_at hj) z
  subst hw
  refine lv_astore_n (lv' := [(2, .ref (bd 0)), (1, .ref (ad 0)), (0, .ref b)]) hx hb dL_law_15 rfl hl (by decide) rfl (fun ls hl => ?_)
  refine lv_iconst (v := 0) hx hb dL_law_16 (by decide) ?_
  refine lv_istore_n (lv' := [(3, .int 0), (2, .ref (bd 0)), (1, .ref (ad 0)), (0, .ref b)]) hx hb dL_law_17 rfl hl (by decide) rfl (fun ls hl => ?_)
  refine W.widen (k := 600000) (n := 7302250) (Nat.le_of_ble_eq_true rfl) (Nat.le_of_ble_eq_true rfl) ?_
  exact law_loop hL C0 ⟨hKx, hKm, hIx, hIm, hax, hbm, hab⟩ 65 0 0 rfl (Nat.zero_le _) (by omega) u0X v0M _ _ rel_init hPx hPm hS ls (lv_sub hl [3, 2, 1, 0] rfl)
