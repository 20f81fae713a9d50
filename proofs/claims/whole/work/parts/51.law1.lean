set_option maxRecDepth 100000 in
set_option maxHeartbeats 4000000 in
theorem case_hold {p : Program} {l : Launch} {e : Env} {s : State} {m : MethodId} {below : List Frame} {meth : Method} {c : Code} {D : va_G} {cy : Nat → ClassId} {cz : ClassId} {ad bd : Nat → Nat} {u v : Mem} {b L : Nat} {xs : Nat → Int32} (C0 : lw_At p s m meth c b L xs) (F : LwF D cy cz ad bd s) {x3 : Int32} (h1 : vp_in (x3 + 1) L) (h2 : vp_in (x3 + 2) L) (h3 : vp_in (x3 + 3) L) (h4 : vp_in (x3 + 4) L) (h5 : vp_in (x3 + 5) L) (h6 : vp_in (x3 + 6) L) {H : Heap} {locs : List Loc} (hP : va_P D vwCl (wX cy ad u) H) (hPm : va_P D vwCl (wM cz bd v) H) (hS : va_S (fun q : Nat => s.heap.size ≤ q) s.heap H locs) (hR : Rel u v) {ls : Array Slot} (hl : lv_has ls 4 [(0, .ref b), (1, .ref (ad 0)), (2, .ref (bd 0)), (3, .int x3)]) (kk : ∀ (u v : Mem) (H : Heap) (locs : List Loc), Rel u v → va_P D vwCl (wX cy ad u) H → va_P D vwCl (wM cz bd v) H → va_S (fun q : Nat => s.heap.size ≤ q) s.heap H locs → ∀ ls : Array Slot, lv_has ls 4 [(0, .ref b), (1, .ref (ad 0)), (2, .ref (bd 0)), (3, .int x3)] → W p l e room_1 s m #[Value.ref b] below meth c H locs 600000 7302250 (lw_Z below #[Value.ref b] s) (F0 m 1143 ls [])) : W p l e room_1 s m #[Value.ref b] below meth c H locs 600000 7302250 (lw_Z below #[Value.ref b] s) (F0 m 531 ls []) := by
  obtain ⟨hx, hb, hr, hml, hown, hts0, hX, hbl, hlocks, hgv⟩ := C0
  obtain ⟨hK, hKm, hI, hIm, hax, hbm, hab⟩ := F
  have hts : ∀ w ∈ wsL_law, w.before #[Value.ref b] s = true := fun w h => hts0 w (wsL_law_in w h)
  have hbA : ¬ (fun q : Nat => s.heap.size ≤ q) b := Nat.not_le.mpr hbl
  have hown : s.vm.findClass RL = some m.cls := hown
  refine lv_aload_n hx hb dL_law_531 rfl (lv_at hl 1 rfl) ?_
  refine lv_aload_n hx hb dL_law_532 rfl (lv_at hl 0 rfl) ?_
  refine lv_iload_n hx hb dL_law_533 rfl (lv_at hl 3 rfl) ?_
  refine lv_iconst (v := 1) hx hb dL_law_534 (by decide) ?_
  refine lv_iadd hx hb dL_law_535 ?_
  refine va_sld hx hb hX hbl hbA hS h1 dL_law_536 ?_
  refine kV (n := 1) (As := [.int (xs (x3 + 1).toNatClampNeg)]) (rest := []) ⟨hx, hb, hml, hown, hts⟩ (kX3_hold l D cy ad u (xs (x3 + 1).toNatClampNeg) (rel_pc hR) (rel_ec hR)) gL_law_X3_hold rfl rfl rfl (by decide +kernel) ⟨Nat.le_of_ble_eq_true rfl, Nat.le_of_ble_eq_true rfl⟩ (recvX hP hK) (XB_of hP hK) XB_bl rfl hl.1 rfl (Nat.le_of_ble_eq_true rfl) dL_law_537 ⟨Nat.le_refl _, Nat.le_refl _⟩ ?_
  refine lv_aload_n hx hb dL_law_540 rfl (lv_at hl 2 rfl) ?_
  refine lv_aload_n hx hb dL_law_541 rfl (lv_at hl 0 rfl) ?_
  refine lv_iload_n hx hb dL_law_542 rfl (lv_at hl 3 rfl) ?_
  refine lv_iconst (v := 1) hx hb dL_law_543 (by decide) ?_
  refine lv_iadd hx hb dL_law_544 ?_
  refine va_sld hx hb hX hbl hbA hS h1 dL_law_545 ?_
  refine kV (n := 1) (As := [.int (xs (x3 + 1).toNatClampNeg)]) (rest := [.int (fX3_hold u (xs (x3 + 1).toNatClampNeg))]) ⟨hx, hb, hml, hown, hts⟩ (kX4_hold l D cz bd v (xs (x3 + 1).toNatClampNeg) (rel_pcM hR) (rel_ecM hR) (rel_hst hR _)) gL_law_X4_hold rfl rfl rfl (by decide +kernel) ⟨Nat.le_of_ble_eq_true rfl, Nat.le_of_ble_eq_true rfl⟩ (recvM hPm hKm) (MB_of hPm hKm) MB_bl rfl hl.1 rfl (Nat.le_of_ble_eq_true rfl) dL_law_546 ⟨Nat.le_refl _, Nat.le_refl _⟩ ?_
  have hq := eq_hold hR (xs (x3 + 1).toNatClampNeg)
  refine lv_icmp_eq (tgt := 1143) hx hb dL_law_549 (by decide) (fun _ => ?_) (fun z => absurd hq z)
  exact kk u v _ _ hR hP hPm hS ls hl
set_option maxRecDepth 100000 in
set_option maxHeartbeats 4000000 in
theorem case_best {p : Program} {l : Launch} {e : Env} {s : State} {m : MethodId} {below : List Frame} {meth : Method} {c : Code} {D : va_G} {cy : Nat → ClassId} {cz : ClassId} {ad bd : Nat → Nat} {u v : Mem} {b L : Nat} {xs : Nat → Int32} (C0 : lw_At p s m meth c b L xs) (F : LwF D cy cz ad bd s) {x3 : Int32} (h1 : vp_in (x3 + 1) L) (h2 : vp_in (x3 + 2) L) (h3 : vp_in (x3 + 3) L) (h4 : vp_in (x3 + 4) L) (h5 : vp_in (x3 + 5) L) (h6 : vp_in (x3 + 6) L) {H : Heap} {locs : List Loc} (hP : va_P D vwCl (wX cy ad u) H) (hPm : va_P D vwCl (wM cz bd v) H) (hS : va_S (fun q : Nat => s.heap.size ≤ q) s.heap H locs) (hR : Rel u v) {ls : Array Slot} (hl : lv_has ls 4 [(0, .ref b), (1, .ref (ad 0)), (2, .ref (bd 0)), (3, .int x3)]) (kk : ∀ (u v : Mem) (H : Heap) (locs : List Loc), Rel u v → va_P D vwCl (wX cy ad u) H → va_P D vwCl (wM cz bd v) H → va_S (fun q : Nat => s.heap.size ≤ q) s.heap H locs → ∀ ls : Array Slot, lv_has ls 4 [(0, .ref b), (1, .ref (ad 0)), (2, .ref (bd 0)), (3, .int x3)] → W p l e room_1 s m #[Value.ref b] below meth c H locs 600000 7302250 (lw_Z below #[Value.ref b] s) (F0 m 1143 ls [])) : W p l e room_1 s m #[Value.ref b] below meth c H locs 600000 7302250 (lw_Z below #[Value.ref b] s) (F0 m 554 ls []) := by
  obtain ⟨hx, hb, hr, hml, hown, hts0, hX, hbl, hlocks, hgv⟩ := C0
  obtain ⟨hK, hKm, hI, hIm, hax, hbm, hab⟩ := F
  have hts : ∀ w ∈ wsL_law, w.before #[Value.ref b] s = true := fun w h => hts0 w (wsL_law_in w h)
  have hbA : ¬ (fun q : Nat => s.heap.size ≤ q) b := Nat.not_le.mpr hbl
  have hown : s.vm.findClass RL = some m.cls := hown
  refine lv_aload_n hx hb dL_law_554 rfl (lv_at hl 1 rfl) ?_
  refine lv_aload_n hx hb dL_law_555 rfl (lv_at hl 0 rfl) ?_
  refine lv_iload_n hx hb dL_law_556 rfl (lv_at hl 3 rfl) ?_
  refine lv_iconst (v := 1) hx hb dL_law_557 (by decide) ?_
  refine lv_iadd hx hb dL_law_558 ?_
  refine va_sld hx hb hX hbl hbA hS h1 dL_law_559 ?_
  refine lv_aload_n hx hb dL_law_560 rfl (lv_at hl 0 rfl) ?_
  refine lv_iload_n hx hb dL_law_561 rfl (lv_at hl 3 rfl) ?_
  refine lv_iconst (v := 2) hx hb dL_law_562 (by decide) ?_
  refine lv_iadd hx hb dL_law_563 ?_
  refine va_sld hx hb hX hbl hbA hS h2 dL_law_564 ?_
  refine kV (n := 2) (As := [.int (xs (x3 + 1).toNatClampNeg), .int (xs (x3 + 2).toNatClampNeg)]) (rest := []) ⟨hx, hb, hml, hown, hts⟩ (kX3_best l D cy ad u (xs (x3 + 1).toNatClampNeg) (xs (x3 + 2).toNatClampNeg) (rel_pc hR) (rel_ec hR)) gL_law_X3_best rfl rfl rfl (by decide +kernel) ⟨Nat.le_of_ble_eq_true rfl, Nat.le_of_ble_eq_true rfl⟩ (recvX hP hK) (XB_of hP hK) XB_bl rfl hl.1 rfl (Nat.le_of_ble_eq_true rfl) dL_law_565 ⟨Nat.le_refl _, Nat.le_refl _⟩ ?_
  refine lv_aload_n hx hb dL_law_568 rfl (lv_at hl 2 rfl) ?_
  refine lv_aload_n hx hb dL_law_569 rfl (lv_at hl 0 rfl) ?_
  refine lv_iload_n hx hb dL_law_570 rfl (lv_at hl 3 rfl) ?_
  refine lv_iconst (v := 1) hx hb dL_law_571 (by decide) ?_
  refine lv_iadd hx hb dL_law_572 ?_
  refine va_sld hx hb hX hbl hbA hS h1 dL_law_573 ?_
  refine lv_aload_n hx hb dL_law_574 rfl (lv_at hl 0 rfl) ?_
  refine lv_iload_n hx hb dL_law_575 rfl (lv_at hl 3 rfl) ?_
  refine lv_iconst (v := 2) hx hb dL_law_576 (by decide) ?_
  refine lv_iadd hx hb dL_law_577 ?_
  refine va_sld hx hb hX hbl hbA hS h2 dL_law_578 ?_
  refine kV (n := 2) (As := [.int (xs (x3 + 1).toNatClampNeg), .int (xs (x3 + 2).toNatClampNeg)]) (rest := [.int (fX3_best u (xs (x3 + 1).toNatClampNeg) (xs (x3 + 2).toNatClampNeg))]) ⟨hx, hb, hml, hown, hts⟩ (kX4_best l D cz bd v (xs (x3 + 1).toNatClampNeg) (xs (x3 + 2).toNatClampNeg) (rel_pcM hR) (rel_ecM hR)) gL_law_X4_best rfl rfl rfl (by decide +kernel) ⟨Nat.le_of_ble_eq_true rfl, Nat.le_of_ble_eq_true rfl⟩ (recvM hPm hKm) (MB_of hPm hKm) MB_bl rfl hl.1 rfl (Nat.le_of_ble_eq_true rfl) dL_law_579 ⟨Nat.le_refl _, Nat.le_refl _⟩ ?_
  have hq := eq_best hR (xs (x3 + 1).toNatClampNeg) (xs (x3 + 2).toNatClampNeg)
  refine lv_icmp_eq (tgt := 1143) hx hb dL_law_582 (by decide) (fun _ => ?_) (fun z => absurd hq z)
  exact kk u v _ _ hR hP hPm hS ls hl
set_option maxRecDepth 100000 in
set_option maxHeartbeats 4000000 in
theorem case_came {p : Program} {l : Launch} {e : Env} {s : State} {m : MethodId} {below : List Frame} {meth : Method} {c : Code} {D : va_G} {cy : Nat → ClassId} {cz : ClassId} {ad bd : Nat → Nat} {u v : Mem} {b L : Nat} {xs : Nat → Int32} (C0 : lw_At p s m meth c b L xs) (F : LwF D cy cz ad bd s) {x3 : Int32} (h1 : vp_in (x3 + 1) L) (h2 : vp_in (x3 + 2) L) (h3 : vp_in (x3 + 3) L) (h4 : vp_in (x3 + 4) L) (h5 : vp_in (x3 + 5) L) (h6 : vp_in (x3 + 6) L) {H : Heap} {locs : List Loc} (hP : va_P D vwCl (wX cy ad u) H) (hPm : va_P D vwCl (wM cz bd v) H) (hS : va_S (fun q : Nat => s.heap.size ≤ q) s.heap H locs) (hR : Rel u v) {ls : Array Slot} (hl : lv_has ls 4 [(0, .ref b), (1, .ref (ad 0)), (2, .ref (bd 0)), (3, .int x3)]) (kk : ∀ (u v : Mem) (H : Heap) (locs : List Loc), Rel u v → va_P D vwCl (wX cy ad u) H → va_P D vwCl (wM cz bd v) H → va_S (fun q : Nat => s.heap.size ≤ q) s.heap H locs → ∀ ls : Array Slot, lv_has ls 4 [(0, .ref b), (1, .ref (ad 0)), (2, .ref (bd 0)), (3, .int x3)] → W p l e room_1 s m #[Value.ref b] below meth c H locs 600000 7302250 (lw_Z below #[Value.ref b] s) (F0 m 1143 ls [])) : W p l e room_1 s m #[Value.ref b] below meth c H locs 600000 7302250 (lw_Z below #[Value.ref b] s) (F0 m 587 ls []) := by
  obtain ⟨hx, hb, hr, hml, hown, hts0, hX, hbl, hlocks, hgv⟩ := C0
  obtain ⟨hK, hKm, hI, hIm, hax, hbm, hab⟩ := F
  have hts : ∀ w ∈ wsL_law, w.before #[Value.ref b] s = true := fun w h => hts0 w (wsL_law_in w h)
  have hbA : ¬ (fun q : Nat => s.heap.size ≤ q) b := Nat.not_le.mpr hbl
  have hown : s.vm.findClass RL = some m.cls := hown
  refine lv_aload_n hx hb dL_law_587 rfl (lv_at hl 1 rfl) ?_
  refine lv_aload_n hx hb dL_law_588 rfl (lv_at hl 0 rfl) ?_
  refine lv_iload_n hx hb dL_law_589 rfl (lv_at hl 3 rfl) ?_
  refine lv_iconst (v := 1) hx hb dL_law_590 (by decide) ?_
  refine lv_iadd hx hb dL_law_591 ?_
  refine va_sld hx hb hX hbl hbA hS h1 dL_law_592 ?_
  refine lv_aload_n hx hb dL_law_593 rfl (lv_at hl 0 rfl) ?_
  refine lv_iload_n hx hb dL_law_594 rfl (lv_at hl 3 rfl) ?_
  refine lv_iconst (v := 2) hx hb dL_law_595 (by decide) ?_
  refine lv_iadd hx hb dL_law_596 ?_
  refine va_sld hx hb hX hbl hbA hS h2 dL_law_597 ?_
  refine kV (n := 2) (As := [.int (xs (x3 + 1).toNatClampNeg), .int (xs (x3 + 2).toNatClampNeg)]) (rest := []) ⟨hx, hb, hml, hown, hts⟩ (kX3_came l D cy ad u (xs (x3 + 1).toNatClampNeg) (xs (x3 + 2).toNatClampNeg) (rel_pc hR) (rel_ec hR)) gL_law_X3_came rfl rfl rfl (by decide +kernel) ⟨Nat.le_of_ble_eq_true rfl, Nat.le_of_ble_eq_true rfl⟩ (recvX hP hK) (XB_of hP hK) XB_bl rfl hl.1 rfl (Nat.le_of_ble_eq_true rfl) dL_law_598 ⟨Nat.le_refl _, Nat.le_refl _⟩ ?_
  refine lv_aload_n hx hb dL_law_601 rfl (lv_at hl 2 rfl) ?_
  refine lv_aload_n hx hb dL_law_602 rfl (lv_at hl 0 rfl) ?_
  refine lv_iload_n hx hb dL_law_603 rfl (lv_at hl 3 rfl) ?_
  refine lv_iconst (v := 1) hx hb dL_law_604 (by decide) ?_
  refine lv_iadd hx hb dL_law_605 ?_
  refine va_sld hx hb hX hbl hbA hS h1 dL_law_606 ?_
  refine lv_aload_n hx hb dL_law_607 rfl (lv_at hl 0 rfl) ?_
  refine lv_iload_n hx hb dL_law_608 rfl (lv_at hl 3 rfl) ?_
  refine lv_iconst (v := 2) hx hb dL_law_609 (by decide) ?_
  refine lv_iadd hx hb dL_law_610 ?_
  refine va_sld hx hb hX hbl hbA hS h2 dL_law_611 ?_
  refine kV (n := 2) (As := [.int (xs (x3 + 1).toNatClampNeg), .int (xs (x3 + 2).toNatClampNeg)]) (rest := [.int (fX3_came u (xs (x3 + 1).toNatClampNeg) (xs (x3 + 2).toNatClampNeg))]) ⟨hx, hb, hml, hown, hts⟩ (kX4_came l D cz bd v (xs (x3 + 1).toNatClampNeg) (xs (x3 + 2).toNatClampNeg) (rel_pcM hR) (rel_ecM hR)) gL_law_X4_came rfl rfl rfl (by decide +kernel) ⟨Nat.le_of_ble_eq_true rfl, Nat.le_of_ble_eq_true rfl⟩ (recvM hPm hKm) (MB_of hPm hKm) MB_bl rfl hl.1 rfl (Nat.le_of_ble_eq_true rfl) dL_law_612 ⟨Nat.le_refl _, Nat.le_refl _⟩ ?_
  have hq := eq_came hR (xs (x3 + 1).toNatClampNeg) (xs (x3 + 2).toNatClampNeg)
  refine lv_icmp_eq (tgt := 1143) hx hb dL_law_615 (by decide) (fun _ => ?_) (fun z => absurd hq z)
  exact kk u v _ _ hR hP hPm hS ls hl
set_option maxRecDepth 100000 in
set_option maxHeartbeats 4000000 in
theorem case_reading {p : Program} {l : Launch} {e : Env} {s : State} {m : MethodId} {below : List Frame} {meth : Method} {c : Code} {D : va_G} {cy : Nat → ClassId} {cz : ClassId} {ad bd : Nat → Nat} {u v : Mem} {b L : Nat} {xs : Nat → Int32} (C0 : lw_At p s m meth c b L xs) (F : LwF D cy cz ad bd s) {x3 : Int32} (h1 : vp_in (x3 + 1) L) (h2 : vp_in (x3 + 2) L) (h3 : vp_in (x3 + 3) L) (h4 : vp_in (x3 + 4) L) (h5 : vp_in (x3 + 5) L) (h6 : vp_in (x3 + 6) L) {H : Heap} {locs : List Loc} (hP : va_P D vwCl (wX cy ad u) H) (hPm : va_P D vwCl (wM cz bd v) H) (hS : va_S (fun q : Nat => s.heap.size ≤ q) s.heap H locs) (hR : Rel u v) {ls : Array Slot} (hl : lv_has ls 4 [(0, .ref b), (1, .ref (ad 0)), (2, .ref (bd 0)), (3, .int x3)]) (kk : ∀ (u v : Mem) (H : Heap) (locs : List Loc), Rel u v → va_P D vwCl (wX cy ad u) H → va_P D vwCl (wM cz bd v) H → va_S (fun q : Nat => s.heap.size ≤ q) s.heap H locs → ∀ ls : Array Slot, lv_has ls 4 [(0, .ref b), (1, .ref (ad 0)), (2, .ref (bd 0)), (3, .int x3)] → W p l e room_1 s m #[Value.ref b] below meth c H locs 600000 7302250 (lw_Z below #[Value.ref b] s) (F0 m 1143 ls [])) : W p l e room_1 s m #[Value.ref b] below meth c H locs 600000 7302250 (lw_Z below #[Value.ref b] s) (F0 m 620 ls []) := by
  obtain ⟨hx, hb, hr, hml, hown, hts0, hX, hbl, hlocks, hgv⟩ := C0
  obtain ⟨hK, hKm, hI, hIm, hax, hbm, hab⟩ := F
  have hts : ∀ w ∈ wsL_law, w.before #[Value.ref b] s = true := fun w h => hts0 w (wsL_law_in w h)
  have hbA : ¬ (fun q : Nat => s.heap.size ≤ q) b := Nat.not_le.mpr hbl
  have hown : s.vm.findClass RL = some m.cls := hown
  refine lv_aload_n hx hb dL_law_620 rfl (lv_at hl 1 rfl) ?_
  refine lv_aload_n hx hb dL_law_621 rfl (lv_at hl 0 rfl) ?_
  refine lv_iload_n hx hb dL_law_622 rfl (lv_at hl 3 rfl) ?_
  refine lv_iconst (v := 1) hx hb dL_law_623 (by decide) ?_
  refine lv_iadd hx hb dL_law_624 ?_
  refine va_sld hx hb hX hbl hbA hS h1 dL_law_625 ?_
  refine lv_aload_n hx hb dL_law_626 rfl (lv_at hl 0 rfl) ?_
  refine lv_iload_n hx hb dL_law_627 rfl (lv_at hl 3 rfl) ?_
  refine lv_iconst (v := 2) hx hb dL_law_628 (by decide) ?_
  refine lv_iadd hx hb dL_law_629 ?_
  refine va_sld hx hb hX hbl hbA hS h2 dL_law_630 ?_
  refine lv_aload_n hx hb dL_law_631 rfl (lv_at hl 0 rfl) ?_
  refine lv_iload_n hx hb dL_law_632 rfl (lv_at hl 3 rfl) ?_
  refine lv_iconst (v := 3) hx hb dL_law_633 (by decide) ?_
  refine lv_iadd hx hb dL_law_634 ?_
  refine va_sld hx hb hX hbl hbA hS h3 dL_law_635 ?_
  refine kW (n := 3) (As := [.int (xs (x3 + 1).toNatClampNeg), .int (xs (x3 + 2).toNatClampNeg), .int (xs (x3 + 3).toNatClampNeg)]) (rest := []) (A0 := fun q : Nat => s.heap.size ≤ q) ⟨hx, hb, hml, hown, hts⟩ (kX3_reading l D cy ad hI u (xs (x3 + 1).toNatClampNeg) (xs (x3 + 2).toNatClampNeg) (xs (x3 + 3).toNatClampNeg) (rel_pc hR) (rel_rc hR)) gL_law_X3_reading rfl rfl rfl (by decide +kernel) ⟨Nat.le_of_ble_eq_true rfl, Nat.le_of_ble_eq_true rfl⟩ (recvX hP hK) (XB_of hP hK) XB_bl (AX_lo hax) hS rfl hl.1 rfl (Nat.le_of_ble_eq_true rfl) dL_law_636 ⟨Nat.le_refl _, Nat.le_refl _⟩ (fun t H1 locs1 ht hB hz hk hS => ?_)
  have hPm := keepM hab hk hPm
  have hP : va_P D vwCl (wX cy ad (fX3_reading u (xs (x3 + 1).toNatClampNeg) (xs (x3 + 2).toNatClampNeg) (xs (x3 + 3).toNatClampNeg)).2) H1 := by have q := hB.1; rw [ht] at q; exact q
  clear hB hz hk
  refine lv_aload_n hx hb dL_law_639 rfl (lv_at hl 2 rfl) ?_
  refine lv_aload_n hx hb dL_law_640 rfl (lv_at hl 0 rfl) ?_
  refine lv_iload_n hx hb dL_law_641 rfl (lv_at hl 3 rfl) ?_
  refine lv_iconst (v := 1) hx hb dL_law_642 (by decide) ?_
  refine lv_iadd hx hb dL_law_643 ?_
  refine va_sld hx hb hX hbl hbA hS h1 dL_law_644 ?_
  refine lv_aload_n hx hb dL_law_645 rfl (lv_at hl 0 rfl) ?_
  refine lv_iload_n hx hb dL_law_646 rfl (lv_at hl 3 rfl) ?_
  refine lv_iconst (v := 2) hx hb dL_law_647 (by decide) ?_
  refine lv_iadd hx hb dL_law_648 ?_
  refine va_sld hx hb hX hbl hbA hS h2 dL_law_649 ?_
  refine lv_aload_n hx hb dL_law_650 rfl (lv_at hl 0 rfl) ?_
  refine lv_iload_n hx hb dL_law_651 rfl (lv_at hl 3 rfl) ?_
  refine lv_iconst (v := 3) hx hb dL_law_652 (by decide) ?_
  refine lv_iadd hx hb dL_law_653 ?_
  refine va_sld hx hb hX hbl hbA hS h3 dL_law_654 ?_
  refine kW (n := 3) (As := [.int (xs (x3 + 1).toNatClampNeg), .int (xs (x3 + 2).toNatClampNeg), .int (xs (x3 + 3).toNatClampNeg)]) (rest := [.int (fX3_reading u (xs (x3 + 1).toNatClampNeg) (xs (x3 + 2).toNatClampNeg) (xs (x3 + 3).toNatClampNeg)).1]) (A0 := fun q : Nat => s.heap.size ≤ q) ⟨hx, hb, hml, hown, hts⟩ (kX4_reading l D cz bd hIm v (xs (x3 + 1).toNatClampNeg) (xs (x3 + 2).toNatClampNeg) (xs (x3 + 3).toNatClampNeg) (rel_pcM hR) (rel_rcM hR)) gL_law_X4_reading rfl rfl rfl (by decide +kernel) ⟨Nat.le_of_ble_eq_true rfl, Nat.le_of_ble_eq_true rfl⟩ (recvM hPm hKm) (MB_of hPm hKm) MB_bl (AM_lo hbm) hS rfl hl.1 rfl (Nat.le_of_ble_eq_true rfl) dL_law_655 ⟨Nat.le_refl _, Nat.le_refl _⟩ (fun t H1 locs1 ht hB hz hk hS => ?_)
  have hP := keepX hab hk hP
  have hPm : va_P D vwCl (wM cz bd (fX4_reading v (xs (x3 + 1).toNatClampNeg) (xs (x3 + 2).toNatClampNeg) (xs (x3 + 3).toNatClampNeg)).2) H1 := by have q := hB.1; rw [ht] at q; exact q
  clear hB hz hk
  have hq := eq_reading hR (xs (x3 + 1).toNatClampNeg) (xs (x3 + 2).toNatClampNeg) (xs (x3 + 3).toNatClampNeg)
  refine lv_icmp_eq (tgt := 1143) hx hb dL_law_658 (by decide) (fun _ => ?_) (fun z => absurd hq.1 z)
  exact kk (fX3_reading u (xs (x3 + 1).toNatClampNeg) (xs (x3 + 2).toNatClampNeg) (xs (x3 + 3).toNatClampNeg)).2 (fX4_reading v (xs (x3 + 1).toNatClampNeg) (xs (x3 + 2).toNatClampNeg) (xs (x3 + 3).toNatClampNeg)).2 _ _ hq.2 hP hPm hS ls hl
set_option maxRecDepth 100000 in
set_option maxHeartbeats 4000000 in
theorem case_back {p : Program} {l : Launch} {e : Env} {s : State} {m : MethodId} {below : List Frame} {meth : Method} {c : Code} {D : va_G} {cy : Nat → ClassId} {cz : ClassId} {ad bd : Nat → Nat} {u v : Mem} {b L : Nat} {xs : Nat → Int32} (C0 : lw_At p s m meth c b L xs) (F : LwF D cy cz ad bd s) {x3 : Int32} (h1 : vp_in (x3 + 1) L) (h2 : vp_in (x3 + 2) L) (h3 : vp_in (x3 + 3) L) (h4 : vp_in (x3 + 4) L) (h5 : vp_in (x3 + 5) L) (h6 : vp_in (x3 + 6) L) {H : Heap} {locs : List Loc} (hP : va_P D vwCl (wX cy ad u) H) (hPm : va_P D vwCl (wM cz bd v) H) (hS : va_S (fun q : Nat => s.heap.size ≤ q) s.heap H locs) (hR : Rel u v) {ls : Array Slot} (hl : lv_has ls 4 [(0, .ref b), (1, .ref (ad 0)), (2, .ref (bd 0)), (3, .int x3)]) (kk : ∀ (u v : Mem) (H : Heap) (locs : List Loc), Rel u v → va_P D vwCl (wX cy ad u) H → va_P D vwCl (wM cz bd v) H → va_S (fun q : Nat => s.heap.size ≤ q) s.heap H locs → ∀ ls : Array Slot, lv_has ls 4 [(0, .ref b), (1, .ref (ad 0)), (2, .ref (bd 0)), (3, .int x3)] → W p l e room_1 s m #[Value.ref b] below meth c H locs 600000 7302250 (lw_Z below #[Value.ref b] s) (F0 m 1143 ls [])) : W p l e room_1 s m #[Value.ref b] below meth c H locs 600000 7302250 (lw_Z below #[Value.ref b] s) (F0 m 663 ls []) := by
  obtain ⟨hx, hb, hr, hml, hown, hts0, hX, hbl, hlocks, hgv⟩ := C0
  obtain ⟨hK, hKm, hI, hIm, hax, hbm, hab⟩ := F
  have hts : ∀ w ∈ wsL_law, w.before #[Value.ref b] s = true := fun w h => hts0 w (wsL_law_in w h)
  have hbA : ¬ (fun q : Nat => s.heap.size ≤ q) b := Nat.not_le.mpr hbl
  have hown : s.vm.findClass RL = some m.cls := hown
  refine lv_aload_n hx hb dL_law_663 rfl (lv_at hl 1 rfl) ?_
  refine lv_aload_n hx hb dL_law_664 rfl (lv_at hl 0 rfl) ?_
  refine lv_iload_n hx hb dL_law_665 rfl (lv_at hl 3 rfl) ?_
  refine lv_iconst (v := 1) hx hb dL_law_666 (by decide) ?_
  refine lv_iadd hx hb dL_law_667 ?_
  refine va_sld hx hb hX hbl hbA hS h1 dL_law_668 ?_
  refine kW (n := 1) (As := [.int (xs (x3 + 1).toNatClampNeg)]) (rest := []) (A0 := fun q : Nat => s.heap.size ≤ q) ⟨hx, hb, hml, hown, hts⟩ (kX3_back l D cy ad hI u (xs (x3 + 1).toNatClampNeg)) gL_law_X3_back rfl rfl rfl (by decide +kernel) ⟨Nat.le_of_ble_eq_true rfl, Nat.le_of_ble_eq_true rfl⟩ (recvX hP hK) (XB_of hP hK) XB_bl (AX_lo hax) hS rfl hl.1 rfl (Nat.le_of_ble_eq_true rfl) dL_law_669 ⟨Nat.le_refl _, Nat.le_refl _⟩ (fun t H1 locs1 ht hB hz hk hS => ?_)
  have hPm := keepM hab hk hPm
  have hP : va_P D vwCl (wX cy ad (fX3_back u (xs (x3 + 1).toNatClampNeg)).2) H1 := by have q := hB.1; rw [ht] at q; exact q
  clear hB hz hk
  refine lv_aload_n hx hb dL_law_672 rfl (lv_at hl 2 rfl) ?_
  refine lv_aload_n hx hb dL_law_673 rfl (lv_at hl 0 rfl) ?_
  refine lv_iload_n hx hb dL_law_674 rfl (lv_at hl 3 rfl) ?_
  refine lv_iconst (v := 1) hx hb dL_law_675 (by decide) ?_
  refine lv_iadd hx hb dL_law_676 ?_
  refine va_sld hx hb hX hbl hbA hS h1 dL_law_677 ?_
  refine kW (n := 1) (As := [.int (xs (x3 + 1).toNatClampNeg)]) (rest := [.int (fX3_back u (xs (x3 + 1).toNatClampNeg)).1]) (A0 := fun q : Nat => s.heap.size ≤ q) ⟨hx, hb, hml, hown, hts⟩ (kX4_back l D cz bd hIm v (xs (x3 + 1).toNatClampNeg)) gL_law_X4_back rfl rfl rfl (by decide +kernel) ⟨Nat.le_of_ble_eq_true rfl, Nat.le_of_ble_eq_true rfl⟩ (recvM hPm hKm) (MB_of hPm hKm) MB_bl (AM_lo hbm) hS rfl hl.1 rfl (Nat.le_of_ble_eq_true rfl) dL_law_678 ⟨Nat.le_refl _, Nat.le_refl _⟩ (fun t H1 locs1 ht hB hz hk hS => ?_)
  have hP := keepX hab hk hP
  have hPm : va_P D vwCl (wM cz bd (fX4_back v (xs (x3 + 1).toNatClampNeg)).2) H1 := by have q := hB.1; rw [ht] at q; exact q
  clear hB hz hk
  have hq := eq_back hR (xs (x3 + 1).toNatClampNeg)
  refine lv_icmp_eq (tgt := 1143) hx hb dL_law_681 (by decide) (fun _ => ?_) (fun z => absurd hq.1 z)
  exact kk (fX3_back u (xs (x3 + 1).toNatClampNeg)).2 (fX4_back v (xs (x3 + 1).toNatClampNeg)).2 _ _ hq.2 hP hPm hS ls hl
set_option maxRecDepth 100000 in
set_option maxHeartbeats 4000000 in
theorem case_covers {p : Program} {l : Launch} {e : Env} {s : State} {m : MethodId} {below : List Frame} {meth : Method} {c : Code} {D : va_G} {cy : Nat → ClassId} {cz : ClassId} {ad bd : Nat → Nat} {u v : Mem} {b L : Nat} {xs : Nat → Int32} (C0 : lw_At p s m meth c b L xs) (F : LwF D cy cz ad bd s) {x3 : Int32} (h1 : vp_in (x3 + 1) L) (h2 : vp_in (x3 + 2) L) (h3 : vp_in (x3 + 3) L) (h4 : vp_in (x3 + 4) L) (h5 : vp_in (x3 + 5) L) (h6 : vp_in (x3 + 6) L) {H : Heap} {locs : List Loc} (hP : va_P D vwCl (wX cy ad u) H) (hPm : va_P D vwCl (wM cz bd v) H) (hS : va_S (fun q : Nat => s.heap.size ≤ q) s.heap H locs) (hR : Rel u v) {ls : Array Slot} (hl : lv_has ls 4 [(0, .ref b), (1, .ref (ad 0)), (2, .ref (bd 0)), (3, .int x3)]) (kk : ∀ (u v : Mem) (H : Heap) (locs : List Loc), Rel u v → va_P D vwCl (wX cy ad u) H → va_P D vwCl (wM cz bd v) H → va_S (fun q : Nat => s.heap.size ≤ q) s.heap H locs → ∀ ls : Array Slot, lv_has ls 4 [(0, .ref b), (1, .ref (ad 0)), (2, .ref (bd 0)), (3, .int x3)] → W p l e room_1 s m #[Value.ref b] below meth c H locs 600000 7302250 (lw_Z below #[Value.ref b] s) (F0 m 1143 ls [])) : W p l e room_1 s m #[Value.ref b] below meth c H locs 600000 7302250 (lw_Z below #[Value.ref b] s) (F0 m 686 ls []) := by
  obtain ⟨hx, hb, hr, hml, hown, hts0, hX, hbl, hlocks, hgv⟩ := C0
  obtain ⟨hK, hKm, hI, hIm, hax, hbm, hab⟩ := F
  have hts : ∀ w ∈ wsL_law, w.before #[Value.ref b] s = true := fun w h => hts0 w (wsL_law_in w h)
  have hbA : ¬ (fun q : Nat => s.heap.size ≤ q) b := Nat.not_le.mpr hbl
  have hown : s.vm.findClass RL = some m.cls := hown
  refine lv_aload_n hx hb dL_law_686 rfl (lv_at hl 1 rfl) ?_
  refine lv_aload_n hx hb dL_law_687 rfl (lv_at hl 0 rfl) ?_
  refine lv_iload_n hx hb dL_law_688 rfl (lv_at hl 3 rfl) ?_
  refine lv_iconst (v := 1) hx hb dL_law_689 (by decide) ?_
  refine lv_iadd hx hb dL_law_690 ?_
  refine va_sld hx hb hX hbl hbA hS h1 dL_law_691 ?_
  refine kV (n := 1) (As := [.int (xs (x3 + 1).toNatClampNeg)]) (rest := []) ⟨hx, hb, hml, hown, hts⟩ (kX3_covers l D cy ad u (xs (x3 + 1).toNatClampNeg) (rel_pc hR) (rel_rc hR) (rel_rp hR)) gL_law_X3_covers rfl rfl rfl (by decide +kernel) ⟨Nat.le_of_ble_eq_true rfl, Nat.le_of_ble_eq_true rfl⟩ (recvX hP hK) (XB_of hP hK) XB_bl rfl hl.1 rfl (Nat.le_of_ble_eq_true rfl) dL_law_692 ⟨Nat.le_refl _, Nat.le_refl _⟩ ?_
  refine lv_aload_n hx hb dL_law_695 rfl (lv_at hl 2 rfl) ?_
  refine lv_aload_n hx hb dL_law_696 rfl (lv_at hl 0 rfl) ?_
  refine lv_iload_n hx hb dL_law_697 rfl (lv_at hl 3 rfl) ?_
  refine lv_iconst (v := 1) hx hb dL_law_698 (by decide) ?_
  refine lv_iadd hx hb dL_law_699 ?_
  refine va_sld hx hb hX hbl hbA hS h1 dL_law_700 ?_
  refine kW (n := 1) (As := [.int (xs (x3 + 1).toNatClampNeg)]) (rest := [.int (fX3_covers u (xs (x3 + 1).toNatClampNeg))]) (A0 := fun q : Nat => s.heap.size ≤ q) ⟨hx, hb, hml, hown, hts⟩ (kX4_covers l D cz bd hIm v (xs (x3 + 1).toNatClampNeg) (rel_pcM hR) (rel_rcM hR) (rel_rpM hR)) gL_law_X4_covers rfl rfl rfl (by decide +kernel) ⟨Nat.le_of_ble_eq_true rfl, Nat.le_of_ble_eq_true rfl⟩ (recvM hPm hKm) (MB_of hPm hKm) MB_bl (AM_lo hbm) hS rfl hl.1 rfl (Nat.le_of_ble_eq_true rfl) dL_law_701 ⟨Nat.le_refl _, Nat.le_refl _⟩ (fun t H1 locs1 ht hB hz hk hS => ?_)
  have hP := keepX hab hk hP
  have hPm : va_P D vwCl (wM cz bd (fX4_covers v (xs (x3 + 1).toNatClampNeg)).2) H1 := by have q := hB.1; rw [ht] at q; exact q
  clear hB hz hk
  have hq := eq_covers hR (xs (x3 + 1).toNatClampNeg)
  refine lv_icmp_eq (tgt := 1143) hx hb dL_law_704 (by decide) (fun _ => ?_) (fun z => absurd hq.1 z)
  exact kk u (fX4_covers v (xs (x3 + 1).toNatClampNeg)).2 _ _ hq.2 hP hPm hS ls hl
set_option maxRecDepth 100000 in
set_option maxHeartbeats 4000000 in
theorem case_kinds {p : Program} {l : Launch} {e : Env} {s : State} {m : MethodId} {below : List Frame} {meth : Method} {c : Code} {D : va_G} {cy : Nat → ClassId} {cz : ClassId} {ad bd : Nat → Nat} {u v : Mem} {b L : Nat} {xs : Nat → Int32} (C0 : lw_At p s m meth c b L xs) (F : LwF D cy cz ad bd s) {x3 : Int32} (h1 : vp_in (x3 + 1) L) (h2 : vp_in (x3 + 2) L) (h3 : vp_in (x3 + 3) L) (h4 : vp_in (x3 + 4) L) (h5 : vp_in (x3 + 5) L) (h6 : vp_in (x3 + 6) L) {H : Heap} {locs : List Loc} (hP : va_P D vwCl (wX cy ad u) H) (hPm : va_P D vwCl (wM cz bd v) H) (hS : va_S (fun q : Nat => s.heap.size ≤ q) s.heap H locs) (hR : Rel u v) {ls : Array Slot} (hl : lv_has ls 4 [(0, .ref b), (1, .ref (ad 0)), (2, .ref (bd 0)), (3, .int x3)]) (kk : ∀ (u v : Mem) (H : Heap) (locs : List Loc), Rel u v → va_P D vwCl (wX cy ad u) H → va_P D vwCl (wM cz bd v) H → va_S (fun q : Nat => s.heap.size ≤ q) s.heap H locs → ∀ ls : Array Slot, lv_has ls 4 [(0, .ref b), (1, .ref (ad 0)), (2, .ref (bd 0)), (3, .int x3)] → W p l e room_1 s m #[Value.ref b] below meth c H locs 600000 7302250 (lw_Z below #[Value.ref b] s) (F0 m 1143 ls [])) : W p l e room_1 s m #[Value.ref b] below meth c H locs 600000 7302250 (lw_Z below #[Value.ref b] s) (F0 m 709 ls []) := by
  obtain ⟨hx, hb, hr, hml, hown, hts0, hX, hbl, hlocks, hgv⟩ := C0
  obtain ⟨hK, hKm, hI, hIm, hax, hbm, hab⟩ := F
  have hts : ∀ w ∈ wsL_law, w.before #[Value.ref b] s = true := fun w h => hts0 w (wsL_law_in w h)
  have hbA : ¬ (fun q : Nat => s.heap.size ≤ q) b := Nat.not_le.mpr hbl
  have hown : s.vm.findClass RL = some m.cls := hown
  refine lv_aload_n hx hb dL_law_709 rfl (lv_at hl 1 rfl) ?_
  refine lv_aload_n hx hb dL_law_710 rfl (lv_at hl 0 rfl) ?_
  refine lv_iload_n hx hb dL_law_711 rfl (lv_at hl 3 rfl) ?_
  refine lv_iconst (v := 1) hx hb dL_law_712 (by decide) ?_
  refine lv_iadd hx hb dL_law_713 ?_
  refine va_sld hx hb hX hbl hbA hS h1 dL_law_714 ?_
  refine kV (n := 1) (As := [.int (xs (x3 + 1).toNatClampNeg)]) (rest := []) ⟨hx, hb, hml, hown, hts⟩ (kX3_kinds l D cy ad u (xs (x3 + 1).toNatClampNeg) (rel_pc hR) (rel_rc hR) (rel_rp hR)) gL_law_X3_kinds rfl rfl rfl (by decide +kernel) ⟨Nat.le_of_ble_eq_true rfl, Nat.le_of_ble_eq_true rfl⟩ (recvX hP hK) (XB_of hP hK) XB_bl rfl hl.1 rfl (Nat.le_of_ble_eq_true rfl) dL_law_715 ⟨Nat.le_refl _, Nat.le_refl _⟩ ?_
  refine lv_aload_n hx hb dL_law_718 rfl (lv_at hl 2 rfl) ?_
  refine lv_aload_n hx hb dL_law_719 rfl (lv_at hl 0 rfl) ?_
  refine lv_iload_n hx hb dL_law_720 rfl (lv_at hl 3 rfl) ?_
  refine lv_iconst (v := 1) hx hb dL_law_721 (by decide) ?_
  refine lv_iadd hx hb dL_law_722 ?_
  refine va_sld hx hb hX hbl hbA hS h1 dL_law_723 ?_
  refine kW (n := 1) (As := [.int (xs (x3 + 1).toNatClampNeg)]) (rest := [.int (fX3_kinds u (xs (x3 + 1).toNatClampNeg))]) (A0 := fun q : Nat => s.heap.size ≤ q) ⟨hx, hb, hml, hown, hts⟩ (kX4_kinds l D cz bd hIm v (xs (x3 + 1).toNatClampNeg) (rel_pcM hR) (rel_rcM hR) (rel_rpM hR)) gL_law_X4_kinds rfl rfl rfl (by decide +kernel) ⟨Nat.le_of_ble_eq_true rfl, Nat.le_of_ble_eq_true rfl⟩ (recvM hPm hKm) (MB_of hPm hKm) MB_bl (AM_lo hbm) hS rfl hl.1 rfl (Nat.le_of_ble_eq_true rfl) dL_law_724 ⟨Nat.le_refl _, Nat.le_refl _⟩ (fun t H1 locs1 ht hB hz hk hS => ?_)
  have hP := keepX hab hk hP
  have hPm : va_P D vwCl (wM cz bd (fX4_kinds v (xs (x3 + 1).toNatClampNeg)).2) H1 := by have q := hB.1; rw [ht] at q; exact q
  clear hB hz hk
  have hq := eq_kinds hR (xs (x3 + 1).toNatClampNeg)
  refine lv_icmp_eq (tgt := 1143) hx hb dL_law_727 (by decide) (fun _ => ?_) (fun z => absurd hq.1 z)
  exact kk u (fX4_kinds v (xs (x3 + 1).toNatClampNeg)).2 _ _ hq.2 hP hPm hS ls hl
set_option maxRecDepth 100000 in
set_option maxHeartbeats 4000000 in
theorem case_sayings {p : Program} {l : Launch} {e : Env} {s : State} {m : MethodId} {below : List Frame} {meth : Method} {c : Code} {D : va_G} {cy : Nat → ClassId} {cz : ClassId} {ad bd : Nat → Nat} {u v : Mem} {b L : Nat} {xs : Nat → Int32} (C0 : lw_At p s m meth c b L xs) (F : LwF D cy cz ad bd s) {x3 : Int32} (h1 : vp_in (x3 + 1) L) (h2 : vp_in (x3 + 2) L) (h3 : vp_in (x3 + 3) L) (h4 : vp_in (x3 + 4) L) (h5 : vp_in (x3 + 5) L) (h6 : vp_in (x3 + 6) L) {H : Heap} {locs : List Loc} (hP : va_P D vwCl (wX cy ad u) H) (hPm : va_P D vwCl (wM cz bd v) H) (hS : va_S (fun q : Nat => s.heap.size ≤ q) s.heap H locs) (hR : Rel u v) {ls : Array Slot} (hl : lv_has ls 4 [(0, .ref b), (1, .ref (ad 0)), (2, .ref (bd 0)), (3, .int x3)]) (kk : ∀ (u v : Mem) (H : Heap) (locs : List Loc), Rel u v → va_P D vwCl (wX cy ad u) H → va_P D vwCl (wM cz bd v) H → va_S (fun q : Nat => s.heap.size ≤ q) s.heap H locs → ∀ ls : Array Slot, lv_has ls 4 [(0, .ref b), (1, .ref (ad 0)), (2, .ref (bd 0)), (3, .int x3)] → W p l e room_1 s m #[Value.ref b] below meth c H locs 600000 7302250 (lw_Z below #[Value.ref b] s) (F0 m 1143 ls [])) : W p l e room_1 s m #[Value.ref b] below meth c H locs 600000 7302250 (lw_Z below #[Value.ref b] s) (F0 m 732 ls []) := by
  obtain ⟨hx, hb, hr, hml, hown, hts0, hX, hbl, hlocks, hgv⟩ := C0
  obtain ⟨hK, hKm, hI, hIm, hax, hbm, hab⟩ := F
  have hts : ∀ w ∈ wsL_law, w.before #[Value.ref b] s = true := fun w h => hts0 w (wsL_law_in w h)
  have hbA : ¬ (fun q : Nat => s.heap.size ≤ q) b := Nat.not_le.mpr hbl
  have hown : s.vm.findClass RL = some m.cls := hown
  refine lv_aload_n hx hb dL_law_732 rfl (lv_at hl 1 rfl) ?_
  refine lv_aload_n hx hb dL_law_733 rfl (lv_at hl 0 rfl) ?_
  refine lv_iload_n hx hb dL_law_734 rfl (lv_at hl 3 rfl) ?_
  refine lv_iconst (v := 1) hx hb dL_law_735 (by decide) ?_
  refine lv_iadd hx hb dL_law_736 ?_
  refine va_sld hx hb hX hbl hbA hS h1 dL_law_737 ?_
  refine lv_aload_n hx hb dL_law_738 rfl (lv_at hl 0 rfl) ?_
  refine lv_iload_n hx hb dL_law_739 rfl (lv_at hl 3 rfl) ?_
  refine lv_iconst (v := 2) hx hb dL_law_740 (by decide) ?_
  refine lv_iadd hx hb dL_law_741 ?_
  refine va_sld hx hb hX hbl hbA hS h2 dL_law_742 ?_
  refine kV (n := 2) (As := [.int (xs (x3 + 1).toNatClampNeg), .int (xs (x3 + 2).toNatClampNeg)]) (rest := []) ⟨hx, hb, hml, hown, hts⟩ (kX3_sayings l D cy ad u (xs (x3 + 1).toNatClampNeg) (xs (x3 + 2).toNatClampNeg) (rel_pc hR) (rel_ec hR) (rel_rc hR) (rel_rp hR)) gL_law_X3_sayings rfl rfl rfl (by decide +kernel) ⟨Nat.le_of_ble_eq_true rfl, Nat.le_of_ble_eq_true rfl⟩ (recvX hP hK) (XB_of hP hK) XB_bl rfl hl.1 rfl (Nat.le_of_ble_eq_true rfl) dL_law_743 ⟨Nat.le_refl _, Nat.le_refl _⟩ ?_
  refine lv_aload_n hx hb dL_law_746 rfl (lv_at hl 2 rfl) ?_
  refine lv_aload_n hx hb dL_law_747 rfl (lv_at hl 0 rfl) ?_
  refine lv_iload_n hx hb dL_law_748 rfl (lv_at hl 3 rfl) ?_
  refine lv_iconst (v := 1) hx hb dL_law_749 (by decide) ?_
  refine lv_iadd hx hb dL_law_750 ?_
  refine va_sld hx hb hX hbl hbA hS h1 dL_law_751 ?_
  refine lv_aload_n hx hb dL_law_752 rfl (lv_at hl 0 rfl) ?_
  refine lv_iload_n hx hb dL_law_753 rfl (lv_at hl 3 rfl) ?_
  refine lv_iconst (v := 2) hx hb dL_law_754 (by decide) ?_
  refine lv_iadd hx hb dL_law_755 ?_
  refine va_sld hx hb hX hbl hbA hS h2 dL_law_756 ?_
  refine kW (n := 2) (As := [.int (xs (x3 + 1).toNatClampNeg), .int (xs (x3 + 2).toNatClampNeg)]) (rest := [.int (fX3_sayings u (xs (x3 + 1).toNatClampNeg) (xs (x3 + 2).toNatClampNeg))]) (A0 := fun q : Nat => s.heap.size ≤ q) ⟨hx, hb, hml, hown, hts⟩ (kX4_sayings l D cz bd hIm v (xs (x3 + 1).toNatClampNeg) (xs (x3 + 2).toNatClampNeg) (rel_pcM hR) (rel_ecM hR) (rel_rcM hR) (rel_rpM hR)) gL_law_X4_sayings rfl rfl rfl (by decide +kernel) ⟨Nat.le_of_ble_eq_true rfl, Nat.le_of_ble_eq_true rfl⟩ (recvM hPm hKm) (MB_of hPm hKm) MB_bl (AM_lo hbm) hS rfl hl.1 rfl (Nat.le_of_ble_eq_true rfl) dL_law_757 ⟨Nat.le_refl _, Nat.le_refl _⟩ (fun t H1 locs1 ht hB hz hk hS => ?_)
  have hP := keepX hab hk hP
  have hPm : va_P D vwCl (wM cz bd (fX4_sayings v (xs (x3 + 1).toNatClampNeg) (xs (x3 + 2).toNatClampNeg)).2) H1 := by have q := hB.1; rw [ht] at q; exact q
  clear hB hz hk
  have hq := eq_sayings hR (xs (x3 + 1).toNatClampNeg) (xs (x3 + 2).toNatClampNeg)
  refine lv_icmp_eq (tgt := 1143) hx hb dL_law_760 (by decide) (fun _ => ?_) (fun z => absurd hq.1 z)
  exact kk u (fX4_sayings v (xs (x3 + 1).toNatClampNeg) (xs (x3 + 2).toNatClampNeg)).2 _ _ hq.2 hP hPm hS ls hl
set_option maxRecDepth 100000 in
set_option maxHeartbeats 4000000 in
theorem case_odds {p : Program} {l : Launch} {e : Env} {s : State} {m : MethodId} {below : List Frame} {meth : Method} {c : Code} {D : va_G} {cy : Nat → ClassId} {cz : ClassId} {ad bd : Nat → Nat} {u v : Mem} {b L : Nat} {xs : Nat → Int32} (C0 : lw_At p s m meth c b L xs) (F : LwF D cy cz ad bd s) {x3 : Int32} (h1 : vp_in (x3 + 1) L) (h2 : vp_in (x3 + 2) L) (h3 : vp_in (x3 + 3) L) (h4 : vp_in (x3 + 4) L) (h5 : vp_in (x3 + 5) L) (h6 : vp_in (x3 + 6) L) {H : Heap} {locs : List Loc} (hP : va_P D vwCl (wX cy ad u) H) (hPm : va_P D vwCl (wM cz bd v) H) (hS : va_S (fun q : Nat => s.heap.size ≤ q) s.heap H locs) (hR : Rel u v) {ls : Array Slot} (hl : lv_has ls 4 [(0, .ref b), (1, .ref (ad 0)), (2, .ref (bd 0)), (3, .int x3)]) (kk : ∀ (u v : Mem) (H : Heap) (locs : List Loc), Rel u v → va_P D vwCl (wX cy ad u) H → va_P D vwCl (wM cz bd v) H → va_S (fun q : Nat => s.heap.size ≤ q) s.heap H locs → ∀ ls : Array Slot, lv_has ls 4 [(0, .ref b), (1, .ref (ad 0)), (2, .ref (bd 0)), (3, .int x3)] → W p l e room_1 s m #[Value.ref b] below meth c H locs 600000 7302250 (lw_Z below #[Value.ref b] s) (F0 m 1143 ls [])) : W p l e room_1 s m #[Value.ref b] below meth c H locs 600000 7302250 (lw_Z below #[Value.ref b] s) (F0 m 765 ls []) := by
  obtain ⟨hx, hb, hr, hml, hown, hts0, hX, hbl, hlocks, hgv⟩ := C0
  obtain ⟨hK, hKm, hI, hIm, hax, hbm, hab⟩ := F
  have hts : ∀ w ∈ wsL_law, w.before #[Value.ref b] s = true := fun w h => hts0 w (wsL_law_in w h)
  have hbA : ¬ (fun q : Nat => s.heap.size ≤ q) b := Nat.not_le.mpr hbl
  have hown : s.vm.findClass RL = some m.cls := hown
  refine lv_aload_n hx hb dL_law_765 rfl (lv_at hl 1 rfl) ?_
  refine lv_aload_n hx hb dL_law_766 rfl (lv_at hl 0 rfl) ?_
  refine lv_iload_n hx hb dL_law_767 rfl (lv_at hl 3 rfl) ?_
  refine lv_iconst (v := 1) hx hb dL_law_768 (by decide) ?_
  refine lv_iadd hx hb dL_law_769 ?_
  refine va_sld hx hb hX hbl hbA hS h1 dL_law_770 ?_
  refine lv_aload_n hx hb dL_law_771 rfl (lv_at hl 0 rfl) ?_
  refine lv_iload_n hx hb dL_law_772 rfl (lv_at hl 3 rfl) ?_
  refine lv_iconst (v := 2) hx hb dL_law_773 (by decide) ?_
  refine lv_iadd hx hb dL_law_774 ?_
  refine va_sld hx hb hX hbl hbA hS h2 dL_law_775 ?_
  refine kV (n := 2) (As := [.int (xs (x3 + 1).toNatClampNeg), .int (xs (x3 + 2).toNatClampNeg)]) (rest := []) ⟨hx, hb, hml, hown, hts⟩ (kX3_odds l D cy ad u (xs (x3 + 1).toNatClampNeg) (xs (x3 + 2).toNatClampNeg) (rel_pc hR) (rel_ec hR)) gL_law_X3_odds rfl rfl rfl (by decide +kernel) ⟨Nat.le_of_ble_eq_true rfl, Nat.le_of_ble_eq_true rfl⟩ (recvX hP hK) (XB_of hP hK) XB_bl rfl hl.1 rfl (Nat.le_of_ble_eq_true rfl) dL_law_776 ⟨Nat.le_refl _, Nat.le_refl _⟩ ?_
  refine lv_aload_n hx hb dL_law_779 rfl (lv_at hl 2 rfl) ?_
  refine lv_aload_n hx hb dL_law_780 rfl (lv_at hl 0 rfl) ?_
  refine lv_iload_n hx hb dL_law_781 rfl (lv_at hl 3 rfl) ?_
  refine lv_iconst (v := 1) hx hb dL_law_782 (by decide) ?_
  refine lv_iadd hx hb dL_law_783 ?_
  refine va_sld hx hb hX hbl hbA hS h1 dL_law_784 ?_
  refine lv_aload_n hx hb dL_law_785 rfl (lv_at hl 0 rfl) ?_
  refine lv_iload_n hx hb dL_law_786 rfl (lv_at hl 3 rfl) ?_
  refine lv_iconst (v := 2) hx hb dL_law_787 (by decide) ?_
  refine lv_iadd hx hb dL_law_788 ?_
  refine va_sld hx hb hX hbl hbA hS h2 dL_law_789 ?_
  refine kV (n := 2) (As := [.int (xs (x3 + 1).toNatClampNeg), .int (xs (x3 + 2).toNatClampNeg)]) (rest := [.long (fX3_odds u (xs (x3 + 1).toNatClampNeg) (xs (x3 + 2).toNatClampNeg))]) ⟨hx, hb, hml, hown, hts⟩ (kX4_odds l D cz bd v (xs (x3 + 1).toNatClampNeg) (xs (x3 + 2).toNatClampNeg) (rel_pcM hR) (rel_ecM hR)) gL_law_X4_odds rfl rfl rfl (by decide +kernel) ⟨Nat.le_of_ble_eq_true rfl, Nat.le_of_ble_eq_true rfl⟩ (recvM hPm hKm) (MB_of hPm hKm) MB_bl rfl hl.1 rfl (Nat.le_of_ble_eq_true rfl) dL_law_790 ⟨Nat.le_refl _, Nat.le_refl _⟩ ?_
  have hq := eq_odds hR (xs (x3 + 1).toNatClampNeg) (xs (x3 + 2).toNatClampNeg)
  refine W.lcmp hx hb dL_law_793 ?_
  refine lv_if_eq (tgt := 1143) hx hb dL_law_794 (by decide) (fun _ => ?_) (fun z => absurd (by rw [hq]; exact lg_self _) z)
  exact kk u v _ _ hR hP hPm hS ls hl
set_option maxRecDepth 100000 in
set_option maxHeartbeats 4000000 in
theorem case_sheet {p : Program} {l : Launch} {e : Env} {s : State} {m : MethodId} {below : List Frame} {meth : Method} {c : Code} {D : va_G} {cy : Nat → ClassId} {cz : ClassId} {ad bd : Nat → Nat} {u v : Mem} {b L : Nat} {xs : Nat → Int32} (C0 : lw_At p s m meth c b L xs) (F : LwF D cy cz ad bd s) {x3 : Int32} (h1 : vp_in (x3 + 1) L) (h2 : vp_in (x3 + 2) L) (h3 : vp_in (x3 + 3) L) (h4 : vp_in (x3 + 4) L) (h5 : vp_in (x3 + 5) L) (h6 : vp_in (x3 + 6) L) {H : Heap} {locs : List Loc} (hP : va_P D vwCl (wX cy ad u) H) (hPm : va_P D vwCl (wM cz bd v) H) (hS : va_S (fun q : Nat => s.heap.size ≤ q) s.heap H locs) (hR : Rel u v) {ls : Array Slot} (hl : lv_has ls 4 [(0, .ref b), (1, .ref (ad 0)), (2, .ref (bd 0)), (3, .int x3)]) (kk : ∀ (u v : Mem) (H : Heap) (locs : List Loc), Rel u v → va_P D vwCl (wX cy ad u) H → va_P D vwCl (wM cz bd v) H → va_S (fun q : Nat => s.heap.size ≤ q) s.heap H locs → ∀ ls : Array Slot, lv_has ls 4 [(0, .ref b), (1, .ref (ad 0)), (2, .ref (bd 0)), (3, .int x3)] → W p l e room_1 s m #[Value.ref b] below meth c H locs 600000 7302250 (lw_Z below #[Value.ref b] s) (F0 m 1143 ls [])) : W p l e room_1 s m #[Value.ref b] below meth c H locs 600000 7302250 (lw_Z below #[Value.ref b] s) (F0 m 799 ls []) := by
  obtain ⟨hx, hb, hr, hml, hown, hts0, hX, hbl, hlocks, hgv⟩ := C0
  obtain ⟨hK, hKm, hI, hIm, hax, hbm, hab⟩ := F
  have hts : ∀ w ∈ wsL_law, w.before #[Value.ref b] s = true := fun w h => hts0 w (wsL_law_in w h)
  have hbA : ¬ (fun q : Nat => s.heap.size ≤ q) b := Nat.not_le.mpr hbl
  have hown : s.vm.findClass RL = some m.cls := hown
  refine lv_aload_n hx hb dL_law_799 rfl (lv_at hl 1 rfl) ?_
  refine lv_aload_n hx hb dL_law_800 rfl (lv_at hl 0 rfl) ?_
  refine lv_iload_n hx hb dL_law_801 rfl (lv_at hl 3 rfl) ?_
  refine lv_iconst (v := 1) hx hb dL_law_802 (by decide) ?_
  refine lv_iadd hx hb dL_law_803 ?_
  refine va_sld hx hb hX hbl hbA hS h1 dL_law_804 ?_
  refine lv_aload_n hx hb dL_law_805 rfl (lv_at hl 0 rfl) ?_
  refine lv_iload_n hx hb dL_law_806 rfl (lv_at hl 3 rfl) ?_
  refine lv_iconst (v := 2) hx hb dL_law_807 (by decide) ?_
  refine lv_iadd hx hb dL_law_808 ?_
  refine va_sld hx hb hX hbl hbA hS h2 dL_law_809 ?_
  refine lv_aload_n hx hb dL_law_810 rfl (lv_at hl 0 rfl) ?_
  refine lv_iload_n hx hb dL_law_811 rfl (lv_at hl 3 rfl) ?_
  refine lv_iconst (v := 3) hx hb dL_law_812 (by decide) ?_
  refine lv_iadd hx hb dL_law_813 ?_
  refine va_sld hx hb hX hbl hbA hS h3 dL_law_814 ?_
  refine kW (n := 3) (As := [.int (xs (x3 + 1).toNatClampNeg), .int (xs (x3 + 2).toNatClampNeg), .int (xs (x3 + 3).toNatClampNeg)]) (rest := []) (A0 := fun q : Nat => s.heap.size ≤ q) ⟨hx, hb, hml, hown, hts⟩ (kX3_sheet l D cy ad hI u (xs (x3 + 1).toNatClampNeg) (xs (x3 + 2).toNatClampNeg) (xs (x3 + 3).toNatClampNeg)) gL_law_X3_sheet rfl rfl rfl (by decide +kernel) ⟨Nat.le_of_ble_eq_true rfl, Nat.le_of_ble_eq_true rfl⟩ (recvX hP hK) (XB_of hP hK) XB_bl (AX_lo hax) hS rfl hl.1 rfl (Nat.le_of_ble_eq_true rfl) dL_law_815 ⟨Nat.le_refl _, Nat.le_refl _⟩ (fun t H1 locs1 ht hB hz hk hS => ?_)
  have hPm := keepM hab hk hPm
  have hP : va_P D vwCl (wX cy ad (fX3_sheet u (xs (x3 + 1).toNatClampNeg) (xs (x3 + 2).toNatClampNeg) (xs (x3 + 3).toNatClampNeg)).2) H1 := by have q := hB.1; rw [ht] at q; exact q
  clear hB hz hk
  refine lv_aload_n hx hb dL_law_818 rfl (lv_at hl 2 rfl) ?_
  refine lv_aload_n hx hb dL_law_819 rfl (lv_at hl 0 rfl) ?_
  refine lv_iload_n hx hb dL_law_820 rfl (lv_at hl 3 rfl) ?_
  refine lv_iconst (v := 1) hx hb dL_law_821 (by decide) ?_
  refine lv_iadd hx hb dL_law_822 ?_
  refine va_sld hx hb hX hbl hbA hS h1 dL_law_823 ?_
  refine lv_aload_n hx hb dL_law_824 rfl (lv_at hl 0 rfl) ?_
  refine lv_iload_n hx hb dL_law_825 rfl (lv_at hl 3 rfl) ?_
  refine lv_iconst (v := 2) hx hb dL_law_826 (by decide) ?_
  refine lv_iadd hx hb dL_law_827 ?_
  refine va_sld hx hb hX hbl hbA hS h2 dL_law_828 ?_
  refine lv_aload_n hx hb dL_law_829 rfl (lv_at hl 0 rfl) ?_
  refine lv_iload_n hx hb dL_law_830 rfl (lv_at hl 3 rfl) ?_
  refine lv_iconst (v := 3) hx hb dL_law_831 (by decide) ?_
  refine lv_iadd hx hb dL_law_832 ?_
  refine va_sld hx hb hX hbl hbA hS h3 dL_law_833 ?_
  refine kW (n := 3) (As := [.int (xs (x3 + 1).toNatClampNeg), .int (xs (x3 + 2).toNatClampNeg), .int (xs (x3 + 3).toNatClampNeg)]) (rest := [.int (fX3_sheet u (xs (x3 + 1).toNatClampNeg) (xs (x3 + 2).toNatClampNeg) (xs (x3 + 3).toNatClampNeg)).1]) (A0 := fun q : Nat => s.heap.size ≤ q) ⟨hx, hb, hml, hown, hts⟩ (kX4_sheet l D cz bd hIm v (xs (x3 + 1).toNatClampNeg) (xs (x3 + 2).toNatClampNeg) (xs (x3 + 3).toNatClampNeg)) gL_law_X4_sheet rfl rfl rfl (by decide +kernel) ⟨Nat.le_of_ble_eq_true rfl, Nat.le_of_ble_eq_true rfl⟩ (recvM hPm hKm) (MB_of hPm hKm) MB_bl (AM_lo hbm) hS rfl hl.1 rfl (Nat.le_of_ble_eq_true rfl) dL_law_834 ⟨Nat.le_refl _, Nat.le_refl _⟩ (fun t H1 locs1 ht hB hz hk hS => ?_)
  have hP := keepX hab hk hP
  have hPm : va_P D vwCl (wM cz bd (fX4_sheet v (xs (x3 + 1).toNatClampNeg) (xs (x3 + 2).toNatClampNeg) (xs (x3 + 3).toNatClampNeg)).2) H1 := by have q := hB.1; rw [ht] at q; exact q
  clear hB hz hk
  have hq := eq_sheet hR (xs (x3 + 1).toNatClampNeg) (xs (x3 + 2).toNatClampNeg) (xs (x3 + 3).toNatClampNeg)
  refine lv_icmp_eq (tgt := 1143) hx hb dL_law_837 (by decide) (fun _ => ?_) (fun z => absurd hq.1 z)
  exact kk (fX3_sheet u (xs (x3 + 1).toNatClampNeg) (xs (x3 + 2).toNatClampNeg) (xs (x3 + 3).toNatClampNeg)).2 (fX4_sheet v (xs (x3 + 1).toNatClampNeg) (xs (x3 + 2).toNatClampNeg) (xs (x3 + 3).toNatClampNeg)).2 _ _ hq.2 hP hPm hS ls hl
