set_option maxRecDepth 100000 in
set_option maxHeartbeats 4000000 in
theorem case_lose {p : Program} {l : Launch} {e : Env} {s : State} {m : MethodId} {below : List Frame} {meth : Method} {c : Code} {D : va_G} {cy : Nat → ClassId} {cz : ClassId} {ad bd : Nat → Nat} {u v : Mem} {b L : Nat} {xs : Nat → Int32} (C0 : lw_At p s m meth c b L xs) (F : LwF D cy cz ad bd s) {x3 : Int32} (h1 : vp_in (x3 + 1) L) (h2 : vp_in (x3 + 2) L) (h3 : vp_in (x3 + 3) L) (h4 : vp_in (x3 + 4) L) (h5 : vp_in (x3 + 5) L) (h6 : vp_in (x3 + 6) L) {H : Heap} {locs : List Loc} (hP : va_P D vwCl (wX cy ad u) H) (hPm : va_P D vwCl (wM cz bd v) H) (hS : va_S (fun q : Nat => s.heap.size ≤ q) s.heap H locs) (hR : Rel u v) {ls : Array Slot} (hl : lv_has ls 4 [(0, .ref b), (1, .ref (ad 0)), (2, .ref (bd 0)), (3, .int x3)]) (kk : ∀ (u v : Mem) (H : Heap) (locs : List Loc), Rel u v → va_P D vwCl (wX cy ad u) H → va_P D vwCl (wM cz bd v) H → va_S (fun q : Nat => s.heap.size ≤ q) s.heap H locs → ∀ ls : Array Slot, lv_has ls 4 [(0, .ref b), (1, .ref (ad 0)), (2, .ref (bd 0)), (3, .int x3)] → W p l e room_1 s m #[Value.ref b] below meth c H locs 600000 7302250 (lw_Z below #[Value.ref b] s) (F0 m 1143 ls [])) : W p l e room_1 s m #[Value.ref b] below meth c H locs 600000 7302250 (lw_Z below #[Value.ref b] s) (F0 m 842 ls []) := by
  obtain ⟨hx, hb, hr, hml, hown, hts0, hX, hbl, hlocks, hgv⟩ := C0
  obtain ⟨hK, hKm, hI, hIm, hax, hbm, hab⟩ := F
  have hts : ∀ w ∈ wsL_law, w.before #[Value.ref b] s = true := fun w h => hts0 w (wsL_law_in w h)
  have hbA : ¬ (fun q : Nat => s.heap.size ≤ q) b := Nat.not_le.mpr hbl
  have hown : s.vm.findClass RL = some m.cls := hown
  refine lv_aload_n hx hb dL_law_842 rfl (lv_at hl 1 rfl) ?_
  refine lv_aload_n hx hb dL_law_843 rfl (lv_at hl 0 rfl) ?_
  refine lv_iload_n hx hb dL_law_844 rfl (lv_at hl 3 rfl) ?_
  refine lv_iconst (v := 1) hx hb dL_law_845 (by decide) ?_
  refine lv_iadd hx hb dL_law_846 ?_
  refine va_sld hx hb hX hbl hbA hS h1 dL_law_847 ?_
  refine kW (n := 1) (As := [.int (xs (x3 + 1).toNatClampNeg)]) (rest := []) (A0 := fun q : Nat => s.heap.size ≤ q) ⟨hx, hb, hml, hown, hts⟩ (kX3_lose l D cy ad hI u (xs (x3 + 1).toNatClampNeg)) gL_law_X3_lose rfl rfl rfl (by decide +kernel) ⟨Nat.le_of_ble_eq_true rfl, Nat.le_of_ble_eq_true rfl⟩ (recvX hP hK) (XB_of hP hK) XB_bl (AX_lo hax) hS rfl hl.1 rfl (Nat.le_of_ble_eq_true rfl) dL_law_848 ⟨Nat.le_refl _, Nat.le_refl _⟩ (fun t H1 locs1 ht hB hz hk hS => ?_)
  have hPm := keepM hab hk hPm
  have hP : va_P D vwCl (wX cy ad (fX3_lose u (xs (x3 + 1).toNatClampNeg)).2) H1 := by have q := hB.1; rw [ht] at q; exact q
  clear hB hz hk
  refine lv_aload_n hx hb dL_law_851 rfl (lv_at hl 2 rfl) ?_
  refine lv_aload_n hx hb dL_law_852 rfl (lv_at hl 0 rfl) ?_
  refine lv_iload_n hx hb dL_law_853 rfl (lv_at hl 3 rfl) ?_
  refine lv_iconst (v := 1) hx hb dL_law_854 (by decide) ?_
  refine lv_iadd hx hb dL_law_855 ?_
  refine va_sld hx hb hX hbl hbA hS h1 dL_law_856 ?_
  refine kW (n := 1) (As := [.int (xs (x3 + 1).toNatClampNeg)]) (rest := [.int (fX3_lose u (xs (x3 + 1).toNatClampNeg)).1]) (A0 := fun q : Nat => s.heap.size ≤ q) ⟨hx, hb, hml, hown, hts⟩ (kX4_lose l D cz bd hIm v (xs (x3 + 1).toNatClampNeg)) gL_law_X4_lose rfl rfl rfl (by decide +kernel) ⟨Nat.le_of_ble_eq_true rfl, Nat.le_of_ble_eq_true rfl⟩ (recvM hPm hKm) (MB_of hPm hKm) MB_bl (AM_lo hbm) hS rfl hl.1 rfl (Nat.le_of_ble_eq_true rfl) dL_law_857 ⟨Nat.le_refl _, Nat.le_refl _⟩ (fun t H1 locs1 ht hB hz hk hS => ?_)
  have hP := keepX hab hk hP
  have hPm : va_P D vwCl (wM cz bd (fX4_lose v (xs (x3 + 1).toNatClampNeg)).2) H1 := by have q := hB.1; rw [ht] at q; exact q
  clear hB hz hk
  have hq := eq_lose hR (xs (x3 + 1).toNatClampNeg)
  refine lv_icmp_eq (tgt := 1143) hx hb dL_law_860 (by decide) (fun _ => ?_) (fun z => absurd hq.1 z)
  exact kk (fX3_lose u (xs (x3 + 1).toNatClampNeg)).2 (fX4_lose v (xs (x3 + 1).toNatClampNeg)).2 _ _ hq.2 hP hPm hS ls hl
set_option maxRecDepth 100000 in
set_option maxHeartbeats 4000000 in
theorem case_put {p : Program} {l : Launch} {e : Env} {s : State} {m : MethodId} {below : List Frame} {meth : Method} {c : Code} {D : va_G} {cy : Nat → ClassId} {cz : ClassId} {ad bd : Nat → Nat} {u v : Mem} {b L : Nat} {xs : Nat → Int32} (C0 : lw_At p s m meth c b L xs) (F : LwF D cy cz ad bd s) {x3 : Int32} (h1 : vp_in (x3 + 1) L) (h2 : vp_in (x3 + 2) L) (h3 : vp_in (x3 + 3) L) (h4 : vp_in (x3 + 4) L) (h5 : vp_in (x3 + 5) L) (h6 : vp_in (x3 + 6) L) {H : Heap} {locs : List Loc} (hP : va_P D vwCl (wX cy ad u) H) (hPm : va_P D vwCl (wM cz bd v) H) (hS : va_S (fun q : Nat => s.heap.size ≤ q) s.heap H locs) (hR : Rel u v) {ls : Array Slot} (hl : lv_has ls 4 [(0, .ref b), (1, .ref (ad 0)), (2, .ref (bd 0)), (3, .int x3)]) (kk : ∀ (u v : Mem) (H : Heap) (locs : List Loc), Rel u v → va_P D vwCl (wX cy ad u) H → va_P D vwCl (wM cz bd v) H → va_S (fun q : Nat => s.heap.size ≤ q) s.heap H locs → ∀ ls : Array Slot, lv_has ls 4 [(0, .ref b), (1, .ref (ad 0)), (2, .ref (bd 0)), (3, .int x3)] → W p l e room_1 s m #[Value.ref b] below meth c H locs 600000 7302250 (lw_Z below #[Value.ref b] s) (F0 m 1143 ls [])) : W p l e room_1 s m #[Value.ref b] below meth c H locs 600000 7302250 (lw_Z below #[Value.ref b] s) (F0 m 865 ls []) := by
  obtain ⟨hx, hb, hr, hml, hown, hts0, hX, hbl, hlocks, hgv⟩ := C0
  obtain ⟨hK, hKm, hI, hIm, hax, hbm, hab⟩ := F
  have hts : ∀ w ∈ wsL_law, w.before #[Value.ref b] s = true := fun w h => hts0 w (wsL_law_in w h)
  have hbA : ¬ (fun q : Nat => s.heap.size ≤ q) b := Nat.not_le.mpr hbl
  have hown : s.vm.findClass RL = some m.cls := hown
  refine lv_aload_n hx hb dL_law_865 rfl (lv_at hl 1 rfl) ?_
  refine lv_aload_n hx hb dL_law_866 rfl (lv_at hl 0 rfl) ?_
  refine lv_iload_n hx hb dL_law_867 rfl (lv_at hl 3 rfl) ?_
  refine lv_iconst (v := 1) hx hb dL_law_868 (by decide) ?_
  refine lv_iadd hx hb dL_law_869 ?_
  refine va_sld hx hb hX hbl hbA hS h1 dL_law_870 ?_
  refine lv_aload_n hx hb dL_law_871 rfl (lv_at hl 0 rfl) ?_
  refine lv_iload_n hx hb dL_law_872 rfl (lv_at hl 3 rfl) ?_
  refine lv_iconst (v := 2) hx hb dL_law_873 (by decide) ?_
  refine lv_iadd hx hb dL_law_874 ?_
  refine va_sld hx hb hX hbl hbA hS h2 dL_law_875 ?_
  refine lv_aload_n hx hb dL_law_876 rfl (lv_at hl 0 rfl) ?_
  refine lv_iload_n hx hb dL_law_877 rfl (lv_at hl 3 rfl) ?_
  refine lv_iconst (v := 3) hx hb dL_law_878 (by decide) ?_
  refine lv_iadd hx hb dL_law_879 ?_
  refine va_sld hx hb hX hbl hbA hS h3 dL_law_880 ?_
  refine kW (n := 3) (As := [.int (xs (x3 + 1).toNatClampNeg), .int (xs (x3 + 2).toNatClampNeg), .int (xs (x3 + 3).toNatClampNeg)]) (rest := []) (A0 := fun q : Nat => s.heap.size ≤ q) ⟨hx, hb, hml, hown, hts⟩ (kX3_put l D cy ad hI u (xs (x3 + 1).toNatClampNeg) (xs (x3 + 2).toNatClampNeg) (xs (x3 + 3).toNatClampNeg) (rel_sz hR)) gL_law_X3_put rfl rfl rfl (by decide +kernel) ⟨Nat.le_of_ble_eq_true rfl, Nat.le_of_ble_eq_true rfl⟩ (recvX hP hK) (XB_of hP hK) XB_bl (AX_lo hax) hS rfl hl.1 rfl (Nat.le_of_ble_eq_true rfl) dL_law_881 ⟨Nat.le_refl _, Nat.le_refl _⟩ (fun t H1 locs1 ht hB hz hk hS => ?_)
  have hPm := keepM hab hk hPm
  have hP : va_P D vwCl (wX cy ad (fX3_put u (xs (x3 + 1).toNatClampNeg) (xs (x3 + 2).toNatClampNeg) (xs (x3 + 3).toNatClampNeg)).2) H1 := by have q := hB.1; rw [ht] at q; exact q
  clear hB hz hk
  refine lv_aload_n hx hb dL_law_884 rfl (lv_at hl 2 rfl) ?_
  refine lv_aload_n hx hb dL_law_885 rfl (lv_at hl 0 rfl) ?_
  refine lv_iload_n hx hb dL_law_886 rfl (lv_at hl 3 rfl) ?_
  refine lv_iconst (v := 1) hx hb dL_law_887 (by decide) ?_
  refine lv_iadd hx hb dL_law_888 ?_
  refine va_sld hx hb hX hbl hbA hS h1 dL_law_889 ?_
  refine lv_aload_n hx hb dL_law_890 rfl (lv_at hl 0 rfl) ?_
  refine lv_iload_n hx hb dL_law_891 rfl (lv_at hl 3 rfl) ?_
  refine lv_iconst (v := 2) hx hb dL_law_892 (by decide) ?_
  refine lv_iadd hx hb dL_law_893 ?_
  refine va_sld hx hb hX hbl hbA hS h2 dL_law_894 ?_
  refine lv_aload_n hx hb dL_law_895 rfl (lv_at hl 0 rfl) ?_
  refine lv_iload_n hx hb dL_law_896 rfl (lv_at hl 3 rfl) ?_
  refine lv_iconst (v := 3) hx hb dL_law_897 (by decide) ?_
  refine lv_iadd hx hb dL_law_898 ?_
  refine va_sld hx hb hX hbl hbA hS h3 dL_law_899 ?_
  refine kW (n := 3) (As := [.int (xs (x3 + 1).toNatClampNeg), .int (xs (x3 + 2).toNatClampNeg), .int (xs (x3 + 3).toNatClampNeg)]) (rest := [.int (fX3_put u (xs (x3 + 1).toNatClampNeg) (xs (x3 + 2).toNatClampNeg) (xs (x3 + 3).toNatClampNeg)).1]) (A0 := fun q : Nat => s.heap.size ≤ q) ⟨hx, hb, hml, hown, hts⟩ (kX4_put l D cz bd hIm v (xs (x3 + 1).toNatClampNeg) (xs (x3 + 2).toNatClampNeg) (xs (x3 + 3).toNatClampNeg) (rel_szM hR)) gL_law_X4_put rfl rfl rfl (by decide +kernel) ⟨Nat.le_of_ble_eq_true rfl, Nat.le_of_ble_eq_true rfl⟩ (recvM hPm hKm) (MB_of hPm hKm) MB_bl (AM_lo hbm) hS rfl hl.1 rfl (Nat.le_of_ble_eq_true rfl) dL_law_900 ⟨Nat.le_refl _, Nat.le_refl _⟩ (fun t H1 locs1 ht hB hz hk hS => ?_)
  have hP := keepX hab hk hP
  have hPm : va_P D vwCl (wM cz bd (fX4_put v (xs (x3 + 1).toNatClampNeg) (xs (x3 + 2).toNatClampNeg) (xs (x3 + 3).toNatClampNeg)).2) H1 := by have q := hB.1; rw [ht] at q; exact q
  clear hB hz hk
  have hq := eq_put hR (xs (x3 + 1).toNatClampNeg) (xs (x3 + 2).toNatClampNeg) (xs (x3 + 3).toNatClampNeg)
  refine lv_icmp_eq (tgt := 1143) hx hb dL_law_903 (by decide) (fun _ => ?_) (fun z => absurd hq.1 z)
  exact kk (fX3_put u (xs (x3 + 1).toNatClampNeg) (xs (x3 + 2).toNatClampNeg) (xs (x3 + 3).toNatClampNeg)).2 (fX4_put v (xs (x3 + 1).toNatClampNeg) (xs (x3 + 2).toNatClampNeg) (xs (x3 + 3).toNatClampNeg)).2 _ _ hq.2 hP hPm hS ls hl
set_option maxRecDepth 100000 in
set_option maxHeartbeats 4000000 in
theorem case_cell {p : Program} {l : Launch} {e : Env} {s : State} {m : MethodId} {below : List Frame} {meth : Method} {c : Code} {D : va_G} {cy : Nat → ClassId} {cz : ClassId} {ad bd : Nat → Nat} {u v : Mem} {b L : Nat} {xs : Nat → Int32} (C0 : lw_At p s m meth c b L xs) (F : LwF D cy cz ad bd s) {x3 : Int32} (h1 : vp_in (x3 + 1) L) (h2 : vp_in (x3 + 2) L) (h3 : vp_in (x3 + 3) L) (h4 : vp_in (x3 + 4) L) (h5 : vp_in (x3 + 5) L) (h6 : vp_in (x3 + 6) L) {H : Heap} {locs : List Loc} (hP : va_P D vwCl (wX cy ad u) H) (hPm : va_P D vwCl (wM cz bd v) H) (hS : va_S (fun q : Nat => s.heap.size ≤ q) s.heap H locs) (hR : Rel u v) {ls : Array Slot} (hl : lv_has ls 4 [(0, .ref b), (1, .ref (ad 0)), (2, .ref (bd 0)), (3, .int x3)]) (kk : ∀ (u v : Mem) (H : Heap) (locs : List Loc), Rel u v → va_P D vwCl (wX cy ad u) H → va_P D vwCl (wM cz bd v) H → va_S (fun q : Nat => s.heap.size ≤ q) s.heap H locs → ∀ ls : Array Slot, lv_has ls 4 [(0, .ref b), (1, .ref (ad 0)), (2, .ref (bd 0)), (3, .int x3)] → W p l e room_1 s m #[Value.ref b] below meth c H locs 600000 7302250 (lw_Z below #[Value.ref b] s) (F0 m 1143 ls [])) : W p l e room_1 s m #[Value.ref b] below meth c H locs 600000 7302250 (lw_Z below #[Value.ref b] s) (F0 m 908 ls []) := by
  obtain ⟨hx, hb, hr, hml, hown, hts0, hX, hbl, hlocks, hgv⟩ := C0
  obtain ⟨hK, hKm, hI, hIm, hax, hbm, hab⟩ := F
  have hts : ∀ w ∈ wsL_law, w.before #[Value.ref b] s = true := fun w h => hts0 w (wsL_law_in w h)
  have hbA : ¬ (fun q : Nat => s.heap.size ≤ q) b := Nat.not_le.mpr hbl
  have hown : s.vm.findClass RL = some m.cls := hown
  refine lv_aload_n hx hb dL_law_908 rfl (lv_at hl 1 rfl) ?_
  refine lv_aload_n hx hb dL_law_909 rfl (lv_at hl 0 rfl) ?_
  refine lv_iload_n hx hb dL_law_910 rfl (lv_at hl 3 rfl) ?_
  refine lv_iconst (v := 1) hx hb dL_law_911 (by decide) ?_
  refine lv_iadd hx hb dL_law_912 ?_
  refine va_sld hx hb hX hbl hbA hS h1 dL_law_913 ?_
  refine lv_aload_n hx hb dL_law_914 rfl (lv_at hl 0 rfl) ?_
  refine lv_iload_n hx hb dL_law_915 rfl (lv_at hl 3 rfl) ?_
  refine lv_iconst (v := 2) hx hb dL_law_916 (by decide) ?_
  refine lv_iadd hx hb dL_law_917 ?_
  refine va_sld hx hb hX hbl hbA hS h2 dL_law_918 ?_
  refine lv_aload_n hx hb dL_law_919 rfl (lv_at hl 0 rfl) ?_
  refine lv_iload_n hx hb dL_law_920 rfl (lv_at hl 3 rfl) ?_
  refine lv_iconst (v := 3) hx hb dL_law_921 (by decide) ?_
  refine lv_iadd hx hb dL_law_922 ?_
  refine va_sld hx hb hX hbl hbA hS h3 dL_law_923 ?_
  refine kW (n := 3) (As := [.int (xs (x3 + 1).toNatClampNeg), .int (xs (x3 + 2).toNatClampNeg), .int (xs (x3 + 3).toNatClampNeg)]) (rest := []) (A0 := fun q : Nat => s.heap.size ≤ q) ⟨hx, hb, hml, hown, hts⟩ (kX3_cell l D cy ad hI u (xs (x3 + 1).toNatClampNeg) (xs (x3 + 2).toNatClampNeg) (xs (x3 + 3).toNatClampNeg) (rel_sz hR)) gL_law_X3_cell rfl rfl rfl (by decide +kernel) ⟨Nat.le_of_ble_eq_true rfl, Nat.le_of_ble_eq_true rfl⟩ (recvX hP hK) (XB_of hP hK) XB_bl (AX_lo hax) hS rfl hl.1 rfl (Nat.le_of_ble_eq_true rfl) dL_law_924 ⟨Nat.le_refl _, Nat.le_refl _⟩ (fun t H1 locs1 ht hB hz hk hS => ?_)
  have hPm := keepM hab hk hPm
  have hP : va_P D vwCl (wX cy ad (fX3_cell u (xs (x3 + 1).toNatClampNeg) (xs (x3 + 2).toNatClampNeg) (xs (x3 + 3).toNatClampNeg)).2) H1 := by have q := hB.1; rw [ht] at q; exact q
  clear hB hz hk
  refine lv_aload_n hx hb dL_law_927 rfl (lv_at hl 2 rfl) ?_
  refine lv_aload_n hx hb dL_law_928 rfl (lv_at hl 0 rfl) ?_
  refine lv_iload_n hx hb dL_law_929 rfl (lv_at hl 3 rfl) ?_
  refine lv_iconst (v := 1) hx hb dL_law_930 (by decide) ?_
  refine lv_iadd hx hb dL_law_931 ?_
  refine va_sld hx hb hX hbl hbA hS h1 dL_law_932 ?_
  refine lv_aload_n hx hb dL_law_933 rfl (lv_at hl 0 rfl) ?_
  refine lv_iload_n hx hb dL_law_934 rfl (lv_at hl 3 rfl) ?_
  refine lv_iconst (v := 2) hx hb dL_law_935 (by decide) ?_
  refine lv_iadd hx hb dL_law_936 ?_
  refine va_sld hx hb hX hbl hbA hS h2 dL_law_937 ?_
  refine lv_aload_n hx hb dL_law_938 rfl (lv_at hl 0 rfl) ?_
  refine lv_iload_n hx hb dL_law_939 rfl (lv_at hl 3 rfl) ?_
  refine lv_iconst (v := 3) hx hb dL_law_940 (by decide) ?_
  refine lv_iadd hx hb dL_law_941 ?_
  refine va_sld hx hb hX hbl hbA hS h3 dL_law_942 ?_
  refine kW (n := 3) (As := [.int (xs (x3 + 1).toNatClampNeg), .int (xs (x3 + 2).toNatClampNeg), .int (xs (x3 + 3).toNatClampNeg)]) (rest := [.long (fX3_cell u (xs (x3 + 1).toNatClampNeg) (xs (x3 + 2).toNatClampNeg) (xs (x3 + 3).toNatClampNeg)).1]) (A0 := fun q : Nat => s.heap.size ≤ q) ⟨hx, hb, hml, hown, hts⟩ (kX4_cell l D cz bd hIm v (xs (x3 + 1).toNatClampNeg) (xs (x3 + 2).toNatClampNeg) (xs (x3 + 3).toNatClampNeg) (rel_szM hR)) gL_law_X4_cell rfl rfl rfl (by decide +kernel) ⟨Nat.le_of_ble_eq_true rfl, Nat.le_of_ble_eq_true rfl⟩ (recvM hPm hKm) (MB_of hPm hKm) MB_bl (AM_lo hbm) hS rfl hl.1 rfl (Nat.le_of_ble_eq_true rfl) dL_law_943 ⟨Nat.le_refl _, Nat.le_refl _⟩ (fun t H1 locs1 ht hB hz hk hS => ?_)
  have hP := keepX hab hk hP
  have hPm : va_P D vwCl (wM cz bd (fX4_cell v (xs (x3 + 1).toNatClampNeg) (xs (x3 + 2).toNatClampNeg) (xs (x3 + 3).toNatClampNeg)).2) H1 := by have q := hB.1; rw [ht] at q; exact q
  clear hB hz hk
  have hq := eq_cell hR (xs (x3 + 1).toNatClampNeg) (xs (x3 + 2).toNatClampNeg) (xs (x3 + 3).toNatClampNeg)
  refine W.lcmp hx hb dL_law_946 ?_
  refine lv_if_eq (tgt := 1143) hx hb dL_law_947 (by decide) (fun _ => ?_) (fun z => absurd (by rw [hq.1]; exact lg_self _) z)
  exact kk (fX3_cell u (xs (x3 + 1).toNatClampNeg) (xs (x3 + 2).toNatClampNeg) (xs (x3 + 3).toNatClampNeg)).2 (fX4_cell v (xs (x3 + 1).toNatClampNeg) (xs (x3 + 2).toNatClampNeg) (xs (x3 + 3).toNatClampNeg)).2 _ _ hq.2 hP hPm hS ls hl
set_option maxRecDepth 100000 in
set_option maxHeartbeats 4000000 in
theorem case_copy {p : Program} {l : Launch} {e : Env} {s : State} {m : MethodId} {below : List Frame} {meth : Method} {c : Code} {D : va_G} {cy : Nat → ClassId} {cz : ClassId} {ad bd : Nat → Nat} {u v : Mem} {b L : Nat} {xs : Nat → Int32} (C0 : lw_At p s m meth c b L xs) (F : LwF D cy cz ad bd s) {x3 : Int32} (h1 : vp_in (x3 + 1) L) (h2 : vp_in (x3 + 2) L) (h3 : vp_in (x3 + 3) L) (h4 : vp_in (x3 + 4) L) (h5 : vp_in (x3 + 5) L) (h6 : vp_in (x3 + 6) L) {H : Heap} {locs : List Loc} (hP : va_P D vwCl (wX cy ad u) H) (hPm : va_P D vwCl (wM cz bd v) H) (hS : va_S (fun q : Nat => s.heap.size ≤ q) s.heap H locs) (hR : Rel u v) {ls : Array Slot} (hl : lv_has ls 4 [(0, .ref b), (1, .ref (ad 0)), (2, .ref (bd 0)), (3, .int x3)]) (kk : ∀ (u v : Mem) (H : Heap) (locs : List Loc), Rel u v → va_P D vwCl (wX cy ad u) H → va_P D vwCl (wM cz bd v) H → va_S (fun q : Nat => s.heap.size ≤ q) s.heap H locs → ∀ ls : Array Slot, lv_has ls 4 [(0, .ref b), (1, .ref (ad 0)), (2, .ref (bd 0)), (3, .int x3)] → W p l e room_1 s m #[Value.ref b] below meth c H locs 600000 7302250 (lw_Z below #[Value.ref b] s) (F0 m 1143 ls [])) : W p l e room_1 s m #[Value.ref b] below meth c H locs 600000 7302250 (lw_Z below #[Value.ref b] s) (F0 m 952 ls []) := by
  obtain ⟨hx, hb, hr, hml, hown, hts0, hX, hbl, hlocks, hgv⟩ := C0
  obtain ⟨hK, hKm, hI, hIm, hax, hbm, hab⟩ := F
  have hts : ∀ w ∈ wsL_law, w.before #[Value.ref b] s = true := fun w h => hts0 w (wsL_law_in w h)
  have hbA : ¬ (fun q : Nat => s.heap.size ≤ q) b := Nat.not_le.mpr hbl
  have hown : s.vm.findClass RL = some m.cls := hown
  refine lv_aload_n hx hb dL_law_952 rfl (lv_at hl 1 rfl) ?_
  refine lv_aload_n hx hb dL_law_953 rfl (lv_at hl 0 rfl) ?_
  refine lv_iload_n hx hb dL_law_954 rfl (lv_at hl 3 rfl) ?_
  refine lv_iconst (v := 1) hx hb dL_law_955 (by decide) ?_
  refine lv_iadd hx hb dL_law_956 ?_
  refine va_sld hx hb hX hbl hbA hS h1 dL_law_957 ?_
  refine lv_aload_n hx hb dL_law_958 rfl (lv_at hl 0 rfl) ?_
  refine lv_iload_n hx hb dL_law_959 rfl (lv_at hl 3 rfl) ?_
  refine lv_iconst (v := 2) hx hb dL_law_960 (by decide) ?_
  refine lv_iadd hx hb dL_law_961 ?_
  refine va_sld hx hb hX hbl hbA hS h2 dL_law_962 ?_
  refine lv_aload_n hx hb dL_law_963 rfl (lv_at hl 0 rfl) ?_
  refine lv_iload_n hx hb dL_law_964 rfl (lv_at hl 3 rfl) ?_
  refine lv_iconst (v := 3) hx hb dL_law_965 (by decide) ?_
  refine lv_iadd hx hb dL_law_966 ?_
  refine va_sld hx hb hX hbl hbA hS h3 dL_law_967 ?_
  refine lv_aload_n hx hb dL_law_968 rfl (lv_at hl 0 rfl) ?_
  refine lv_iload_n hx hb dL_law_969 rfl (lv_at hl 3 rfl) ?_
  refine lv_iconst (v := 4) hx hb dL_law_970 (by decide) ?_
  refine lv_iadd hx hb dL_law_971 ?_
  refine va_sld hx hb hX hbl hbA hS h4 dL_law_972 ?_
  refine lv_aload_n hx hb dL_law_973 rfl (lv_at hl 0 rfl) ?_
  refine lv_iload_n hx hb dL_law_974 rfl (lv_at hl 3 rfl) ?_
  refine lv_iconst (v := 5) hx hb dL_law_975 (by decide) ?_
  refine lv_iadd hx hb dL_law_976 ?_
  refine va_sld hx hb hX hbl hbA hS h5 dL_law_977 ?_
  refine kW (n := 5) (As := [.int (xs (x3 + 1).toNatClampNeg), .int (xs (x3 + 2).toNatClampNeg), .int (xs (x3 + 3).toNatClampNeg), .int (xs (x3 + 4).toNatClampNeg), .int (xs (x3 + 5).toNatClampNeg)]) (rest := []) (A0 := fun q : Nat => s.heap.size ≤ q) ⟨hx, hb, hml, hown, hts⟩ (kX3_copy l D cy ad hI u (xs (x3 + 1).toNatClampNeg) (xs (x3 + 2).toNatClampNeg) (xs (x3 + 3).toNatClampNeg) (xs (x3 + 4).toNatClampNeg) (xs (x3 + 5).toNatClampNeg) (rel_sz hR)) gL_law_X3_copy rfl rfl rfl (by decide +kernel) ⟨Nat.le_of_ble_eq_true rfl, Nat.le_of_ble_eq_true rfl⟩ (recvX hP hK) (XB_of hP hK) XB_bl (AX_lo hax) hS rfl hl.1 rfl (Nat.le_of_ble_eq_true rfl) dL_law_978 ⟨Nat.le_refl _, Nat.le_refl _⟩ (fun t H1 locs1 ht hB hz hk hS => ?_)
  have hPm := keepM hab hk hPm
  have hP : va_P D vwCl (wX cy ad (fX3_copy u (xs (x3 + 1).toNatClampNeg) (xs (x3 + 2).toNatClampNeg) (xs (x3 + 3).toNatClampNeg) (xs (x3 + 4).toNatClampNeg) (xs (x3 + 5).toNatClampNeg)).2) H1 := by have q := hB.1; rw [ht] at q; exact q
  clear hB hz hk
  refine lv_aload_n hx hb dL_law_981 rfl (lv_at hl 2 rfl) ?_
  refine lv_aload_n hx hb dL_law_982 rfl (lv_at hl 0 rfl) ?_
  refine lv_iload_n hx hb dL_law_983 rfl (lv_at hl 3 rfl) ?_
  refine lv_iconst (v := 1) hx hb dL_law_984 (by decide) ?_
  refine lv_iadd hx hb dL_law_985 ?_
  refine va_sld hx hb hX hbl hbA hS h1 dL_law_986 ?_
  refine lv_aload_n hx hb dL_law_987 rfl (lv_at hl 0 rfl) ?_
  refine lv_iload_n hx hb dL_law_988 rfl (lv_at hl 3 rfl) ?_
  refine lv_iconst (v := 2) hx hb dL_law_989 (by decide) ?_
  refine lv_iadd hx hb dL_law_990 ?_
  refine va_sld hx hb hX hbl hbA hS h2 dL_law_991 ?_
  refine lv_aload_n hx hb dL_law_992 rfl (lv_at hl 0 rfl) ?_
  refine lv_iload_n hx hb dL_law_993 rfl (lv_at hl 3 rfl) ?_
  refine lv_iconst (v := 3) hx hb dL_law_994 (by decide) ?_
  refine lv_iadd hx hb dL_law_995 ?_
  refine va_sld hx hb hX hbl hbA hS h3 dL_law_996 ?_
  refine lv_aload_n hx hb dL_law_997 rfl (lv_at hl 0 rfl) ?_
  refine lv_iload_n hx hb dL_law_998 rfl (lv_at hl 3 rfl) ?_
  refine lv_iconst (v := 4) hx hb dL_law_999 (by decide) ?_
  refine lv_iadd hx hb dL_law_1000 ?_
  refine va_sld hx hb hX hbl hbA hS h4 dL_law_1001 ?_
  refine lv_aload_n hx hb dL_law_1002 rfl (lv_at hl 0 rfl) ?_
  refine lv_iload_n hx hb dL_law_1003 rfl (lv_at hl 3 rfl) ?_
  refine lv_iconst (v := 5) hx hb dL_law_1004 (by decide) ?_
  refine lv_iadd hx hb dL_law_1005 ?_
  refine va_sld hx hb hX hbl hbA hS h5 dL_law_1006 ?_
  refine kW (n := 5) (As := [.int (xs (x3 + 1).toNatClampNeg), .int (xs (x3 + 2).toNatClampNeg), .int (xs (x3 + 3).toNatClampNeg), .int (xs (x3 + 4).toNatClampNeg), .int (xs (x3 + 5).toNatClampNeg)]) (rest := [.int (fX3_copy u (xs (x3 + 1).toNatClampNeg) (xs (x3 + 2).toNatClampNeg) (xs (x3 + 3).toNatClampNeg) (xs (x3 + 4).toNatClampNeg) (xs (x3 + 5).toNatClampNeg)).1]) (A0 := fun q : Nat => s.heap.size ≤ q) ⟨hx, hb, hml, hown, hts⟩ (kX4_copy l D cz bd hIm v (xs (x3 + 1).toNatClampNeg) (xs (x3 + 2).toNatClampNeg) (xs (x3 + 3).toNatClampNeg) (xs (x3 + 4).toNatClampNeg) (xs (x3 + 5).toNatClampNeg) (rel_szM hR)) gL_law_X4_copy rfl rfl rfl (by decide +kernel) ⟨Nat.le_of_ble_eq_true rfl, Nat.le_of_ble_eq_true rfl⟩ (recvM hPm hKm) (MB_of hPm hKm) MB_bl (AM_lo hbm) hS rfl hl.1 rfl (Nat.le_of_ble_eq_true rfl) dL_law_1007 ⟨Nat.le_refl _, Nat.le_refl _⟩ (fun t H1 locs1 ht hB hz hk hS => ?_)
  have hP := keepX hab hk hP
  have hPm : va_P D vwCl (wM cz bd (fX4_copy v (xs (x3 + 1).toNatClampNeg) (xs (x3 + 2).toNatClampNeg) (xs (x3 + 3).toNatClampNeg) (xs (x3 + 4).toNatClampNeg) (xs (x3 + 5).toNatClampNeg)).2) H1 := by have q := hB.1; rw [ht] at q; exact q
  clear hB hz hk
  have hq := eq_copy hR (xs (x3 + 1).toNatClampNeg) (xs (x3 + 2).toNatClampNeg) (xs (x3 + 3).toNatClampNeg) (xs (x3 + 4).toNatClampNeg) (xs (x3 + 5).toNatClampNeg)
  refine lv_icmp_eq (tgt := 1143) hx hb dL_law_1010 (by decide) (fun _ => ?_) (fun z => absurd hq.1 z)
  exact kk (fX3_copy u (xs (x3 + 1).toNatClampNeg) (xs (x3 + 2).toNatClampNeg) (xs (x3 + 3).toNatClampNeg) (xs (x3 + 4).toNatClampNeg) (xs (x3 + 5).toNatClampNeg)).2 (fX4_copy v (xs (x3 + 1).toNatClampNeg) (xs (x3 + 2).toNatClampNeg) (xs (x3 + 3).toNatClampNeg) (xs (x3 + 4).toNatClampNeg) (xs (x3 + 5).toNatClampNeg)).2 _ _ hq.2 hP hPm hS ls hl
set_option maxRecDepth 100000 in
set_option maxHeartbeats 4000000 in
theorem case_tell {p : Program} {l : Launch} {e : Env} {s : State} {m : MethodId} {below : List Frame} {meth : Method} {c : Code} {D : va_G} {cy : Nat → ClassId} {cz : ClassId} {ad bd : Nat → Nat} {u v : Mem} {b L : Nat} {xs : Nat → Int32} (C0 : lw_At p s m meth c b L xs) (F : LwF D cy cz ad bd s) {x3 : Int32} (h1 : vp_in (x3 + 1) L) (h2 : vp_in (x3 + 2) L) (h3 : vp_in (x3 + 3) L) (h4 : vp_in (x3 + 4) L) (h5 : vp_in (x3 + 5) L) (h6 : vp_in (x3 + 6) L) {H : Heap} {locs : List Loc} (hP : va_P D vwCl (wX cy ad u) H) (hPm : va_P D vwCl (wM cz bd v) H) (hS : va_S (fun q : Nat => s.heap.size ≤ q) s.heap H locs) (hR : Rel u v) {ls : Array Slot} (hl : lv_has ls 4 [(0, .ref b), (1, .ref (ad 0)), (2, .ref (bd 0)), (3, .int x3)]) (kk : ∀ (u v : Mem) (H : Heap) (locs : List Loc), Rel u v → va_P D vwCl (wX cy ad u) H → va_P D vwCl (wM cz bd v) H → va_S (fun q : Nat => s.heap.size ≤ q) s.heap H locs → ∀ ls : Array Slot, lv_has ls 4 [(0, .ref b), (1, .ref (ad 0)), (2, .ref (bd 0)), (3, .int x3)] → W p l e room_1 s m #[Value.ref b] below meth c H locs 600000 7302250 (lw_Z below #[Value.ref b] s) (F0 m 1143 ls [])) : W p l e room_1 s m #[Value.ref b] below meth c H locs 600000 7302250 (lw_Z below #[Value.ref b] s) (F0 m 1015 ls []) := by
  obtain ⟨hx, hb, hr, hml, hown, hts0, hX, hbl, hlocks, hgv⟩ := C0
  obtain ⟨hK, hKm, hI, hIm, hax, hbm, hab⟩ := F
  have hts : ∀ w ∈ wsL_law, w.before #[Value.ref b] s = true := fun w h => hts0 w (wsL_law_in w h)
  have hbA : ¬ (fun q : Nat => s.heap.size ≤ q) b := Nat.not_le.mpr hbl
  have hown : s.vm.findClass RL = some m.cls := hown
  refine lv_aload_n hx hb dL_law_1015 rfl (lv_at hl 1 rfl) ?_
  refine lv_aload_n hx hb dL_law_1016 rfl (lv_at hl 0 rfl) ?_
  refine lv_iload_n hx hb dL_law_1017 rfl (lv_at hl 3 rfl) ?_
  refine lv_iconst (v := 1) hx hb dL_law_1018 (by decide) ?_
  refine lv_iadd hx hb dL_law_1019 ?_
  refine va_sld hx hb hX hbl hbA hS h1 dL_law_1020 ?_
  refine kW (n := 1) (As := [.int (xs (x3 + 1).toNatClampNeg)]) (rest := []) (A0 := fun q : Nat => s.heap.size ≤ q) ⟨hx, hb, hml, hown, hts⟩ (kX3_tell l D cy ad hI u (xs (x3 + 1).toNatClampNeg) (rel_pc hR)) gL_law_X3_tell rfl rfl rfl (by decide +kernel) ⟨Nat.le_of_ble_eq_true rfl, Nat.le_of_ble_eq_true rfl⟩ (recvX hP hK) (XB_of hP hK) XB_bl (AX_lo hax) hS rfl hl.1 rfl (Nat.le_of_ble_eq_true rfl) dL_law_1021 ⟨Nat.le_refl _, Nat.le_refl _⟩ (fun t H1 locs1 ht hB hz hk hS => ?_)
  have hPm := keepM hab hk hPm
  have hP : va_P D vwCl (wX cy ad (fX3_tell u (xs (x3 + 1).toNatClampNeg)).2) H1 := by have q := hB.1; rw [ht] at q; exact q
  clear hB hz hk
  refine lv_aload_n hx hb dL_law_1024 rfl (lv_at hl 2 rfl) ?_
  refine lv_aload_n hx hb dL_law_1025 rfl (lv_at hl 0 rfl) ?_
  refine lv_iload_n hx hb dL_law_1026 rfl (lv_at hl 3 rfl) ?_
  refine lv_iconst (v := 1) hx hb dL_law_1027 (by decide) ?_
  refine lv_iadd hx hb dL_law_1028 ?_
  refine va_sld hx hb hX hbl hbA hS h1 dL_law_1029 ?_
  refine kW (n := 1) (As := [.int (xs (x3 + 1).toNatClampNeg)]) (rest := [.int (fX3_tell u (xs (x3 + 1).toNatClampNeg)).1]) (A0 := fun q : Nat => s.heap.size ≤ q) ⟨hx, hb, hml, hown, hts⟩ (kX4_tell l D cz bd hIm v (xs (x3 + 1).toNatClampNeg) (rel_pcM hR)) gL_law_X4_tell rfl rfl rfl (by decide +kernel) ⟨Nat.le_of_ble_eq_true rfl, Nat.le_of_ble_eq_true rfl⟩ (recvM hPm hKm) (MB_of hPm hKm) MB_bl (AM_lo hbm) hS rfl hl.1 rfl (Nat.le_of_ble_eq_true rfl) dL_law_1030 ⟨Nat.le_refl _, Nat.le_refl _⟩ (fun t H1 locs1 ht hB hz hk hS => ?_)
  have hP := keepX hab hk hP
  have hPm : va_P D vwCl (wM cz bd (fX4_tell v (xs (x3 + 1).toNatClampNeg)).2) H1 := by have q := hB.1; rw [ht] at q; exact q
  clear hB hz hk
  have hq := eq_tell hR (xs (x3 + 1).toNatClampNeg)
  refine lv_icmp_eq (tgt := 1143) hx hb dL_law_1033 (by decide) (fun _ => ?_) (fun z => absurd hq.1 z)
  exact kk (fX3_tell u (xs (x3 + 1).toNatClampNeg)).2 (fX4_tell v (xs (x3 + 1).toNatClampNeg)).2 _ _ hq.2 hP hPm hS ls hl
set_option maxRecDepth 100000 in
set_option maxHeartbeats 4000000 in
theorem case_hear {p : Program} {l : Launch} {e : Env} {s : State} {m : MethodId} {below : List Frame} {meth : Method} {c : Code} {D : va_G} {cy : Nat → ClassId} {cz : ClassId} {ad bd : Nat → Nat} {u v : Mem} {b L : Nat} {xs : Nat → Int32} (C0 : lw_At p s m meth c b L xs) (F : LwF D cy cz ad bd s) {x3 : Int32} (h1 : vp_in (x3 + 1) L) (h2 : vp_in (x3 + 2) L) (h3 : vp_in (x3 + 3) L) (h4 : vp_in (x3 + 4) L) (h5 : vp_in (x3 + 5) L) (h6 : vp_in (x3 + 6) L) {H : Heap} {locs : List Loc} (hP : va_P D vwCl (wX cy ad u) H) (hPm : va_P D vwCl (wM cz bd v) H) (hS : va_S (fun q : Nat => s.heap.size ≤ q) s.heap H locs) (hR : Rel u v) {ls : Array Slot} (hl : lv_has ls 4 [(0, .ref b), (1, .ref (ad 0)), (2, .ref (bd 0)), (3, .int x3)]) (kk : ∀ (u v : Mem) (H : Heap) (locs : List Loc), Rel u v → va_P D vwCl (wX cy ad u) H → va_P D vwCl (wM cz bd v) H → va_S (fun q : Nat => s.heap.size ≤ q) s.heap H locs → ∀ ls : Array Slot, lv_has ls 4 [(0, .ref b), (1, .ref (ad 0)), (2, .ref (bd 0)), (3, .int x3)] → W p l e room_1 s m #[Value.ref b] below meth c H locs 600000 7302250 (lw_Z below #[Value.ref b] s) (F0 m 1143 ls [])) : W p l e room_1 s m #[Value.ref b] below meth c H locs 600000 7302250 (lw_Z below #[Value.ref b] s) (F0 m 1038 ls []) := by
  obtain ⟨hx, hb, hr, hml, hown, hts0, hX, hbl, hlocks, hgv⟩ := C0
  obtain ⟨hK, hKm, hI, hIm, hax, hbm, hab⟩ := F
  have hts : ∀ w ∈ wsL_law, w.before #[Value.ref b] s = true := fun w h => hts0 w (wsL_law_in w h)
  have hbA : ¬ (fun q : Nat => s.heap.size ≤ q) b := Nat.not_le.mpr hbl
  have hown : s.vm.findClass RL = some m.cls := hown
  refine lv_aload_n hx hb dL_law_1038 rfl (lv_at hl 1 rfl) ?_
  refine lv_aload_n hx hb dL_law_1039 rfl (lv_at hl 0 rfl) ?_
  refine lv_iload_n hx hb dL_law_1040 rfl (lv_at hl 3 rfl) ?_
  refine lv_iconst (v := 1) hx hb dL_law_1041 (by decide) ?_
  refine lv_iadd hx hb dL_law_1042 ?_
  refine va_sld hx hb hX hbl hbA hS h1 dL_law_1043 ?_
  refine kW (n := 1) (As := [.int (xs (x3 + 1).toNatClampNeg)]) (rest := []) (A0 := fun q : Nat => s.heap.size ≤ q) ⟨hx, hb, hml, hown, hts⟩ (kX3_hear l D cy ad hI u (xs (x3 + 1).toNatClampNeg) (rel_pc hR)) gL_law_X3_hear rfl rfl rfl (by decide +kernel) ⟨Nat.le_of_ble_eq_true rfl, Nat.le_of_ble_eq_true rfl⟩ (recvX hP hK) (XB_of hP hK) XB_bl (AX_lo hax) hS rfl hl.1 rfl (Nat.le_of_ble_eq_true rfl) dL_law_1044 ⟨Nat.le_refl _, Nat.le_refl _⟩ (fun t H1 locs1 ht hB hz hk hS => ?_)
  have hPm := keepM hab hk hPm
  have hP : va_P D vwCl (wX cy ad (fX3_hear u (xs (x3 + 1).toNatClampNeg)).2) H1 := by have q := hB.1; rw [ht] at q; exact q
  clear hB hz hk
  refine lv_aload_n hx hb dL_law_1047 rfl (lv_at hl 2 rfl) ?_
  refine lv_aload_n hx hb dL_law_1048 rfl (lv_at hl 0 rfl) ?_
  refine lv_iload_n hx hb dL_law_1049 rfl (lv_at hl 3 rfl) ?_
  refine lv_iconst (v := 1) hx hb dL_law_1050 (by decide) ?_
  refine lv_iadd hx hb dL_law_1051 ?_
  refine va_sld hx hb hX hbl hbA hS h1 dL_law_1052 ?_
  refine kW (n := 1) (As := [.int (xs (x3 + 1).toNatClampNeg)]) (rest := [.int (fX3_hear u (xs (x3 + 1).toNatClampNeg)).1]) (A0 := fun q : Nat => s.heap.size ≤ q) ⟨hx, hb, hml, hown, hts⟩ (kX4_hear l D cz bd hIm v (xs (x3 + 1).toNatClampNeg) (rel_pcM hR)) gL_law_X4_hear rfl rfl rfl (by decide +kernel) ⟨Nat.le_of_ble_eq_true rfl, Nat.le_of_ble_eq_true rfl⟩ (recvM hPm hKm) (MB_of hPm hKm) MB_bl (AM_lo hbm) hS rfl hl.1 rfl (Nat.le_of_ble_eq_true rfl) dL_law_1053 ⟨Nat.le_refl _, Nat.le_refl _⟩ (fun t H1 locs1 ht hB hz hk hS => ?_)
  have hP := keepX hab hk hP
  have hPm : va_P D vwCl (wM cz bd (fX4_hear v (xs (x3 + 1).toNatClampNeg)).2) H1 := by have q := hB.1; rw [ht] at q; exact q
  clear hB hz hk
  have hq := eq_hear hR (xs (x3 + 1).toNatClampNeg)
  refine lv_icmp_eq (tgt := 1143) hx hb dL_law_1056 (by decide) (fun _ => ?_) (fun z => absurd hq.1 z)
  exact kk (fX3_hear u (xs (x3 + 1).toNatClampNeg)).2 (fX4_hear v (xs (x3 + 1).toNatClampNeg)).2 _ _ hq.2 hP hPm hS ls hl
set_option maxRecDepth 100000 in
set_option maxHeartbeats 4000000 in
theorem case_as {p : Program} {l : Launch} {e : Env} {s : State} {m : MethodId} {below : List Frame} {meth : Method} {c : Code} {D : va_G} {cy : Nat → ClassId} {cz : ClassId} {ad bd : Nat → Nat} {u v : Mem} {b L : Nat} {xs : Nat → Int32} (C0 : lw_At p s m meth c b L xs) (F : LwF D cy cz ad bd s) {x3 : Int32} (h1 : vp_in (x3 + 1) L) (h2 : vp_in (x3 + 2) L) (h3 : vp_in (x3 + 3) L) (h4 : vp_in (x3 + 4) L) (h5 : vp_in (x3 + 5) L) (h6 : vp_in (x3 + 6) L) {H : Heap} {locs : List Loc} (hP : va_P D vwCl (wX cy ad u) H) (hPm : va_P D vwCl (wM cz bd v) H) (hS : va_S (fun q : Nat => s.heap.size ≤ q) s.heap H locs) (hR : Rel u v) {ls : Array Slot} (hl : lv_has ls 4 [(0, .ref b), (1, .ref (ad 0)), (2, .ref (bd 0)), (3, .int x3)]) (kk : ∀ (u v : Mem) (H : Heap) (locs : List Loc), Rel u v → va_P D vwCl (wX cy ad u) H → va_P D vwCl (wM cz bd v) H → va_S (fun q : Nat => s.heap.size ≤ q) s.heap H locs → ∀ ls : Array Slot, lv_has ls 4 [(0, .ref b), (1, .ref (ad 0)), (2, .ref (bd 0)), (3, .int x3)] → W p l e room_1 s m #[Value.ref b] below meth c H locs 600000 7302250 (lw_Z below #[Value.ref b] s) (F0 m 1143 ls [])) : W p l e room_1 s m #[Value.ref b] below meth c H locs 600000 7302250 (lw_Z below #[Value.ref b] s) (F0 m 1061 ls []) := by
  obtain ⟨hx, hb, hr, hml, hown, hts0, hX, hbl, hlocks, hgv⟩ := C0
  obtain ⟨hK, hKm, hI, hIm, hax, hbm, hab⟩ := F
  have hts : ∀ w ∈ wsL_law, w.before #[Value.ref b] s = true := fun w h => hts0 w (wsL_law_in w h)
  have hbA : ¬ (fun q : Nat => s.heap.size ≤ q) b := Nat.not_le.mpr hbl
  have hown : s.vm.findClass RL = some m.cls := hown
  refine lv_aload_n hx hb dL_law_1061 rfl (lv_at hl 1 rfl) ?_
  refine lv_aload_n hx hb dL_law_1062 rfl (lv_at hl 0 rfl) ?_
  refine lv_iload_n hx hb dL_law_1063 rfl (lv_at hl 3 rfl) ?_
  refine lv_iconst (v := 1) hx hb dL_law_1064 (by decide) ?_
  refine lv_iadd hx hb dL_law_1065 ?_
  refine va_sld hx hb hX hbl hbA hS h1 dL_law_1066 ?_
  refine lv_aload_n hx hb dL_law_1067 rfl (lv_at hl 0 rfl) ?_
  refine lv_iload_n hx hb dL_law_1068 rfl (lv_at hl 3 rfl) ?_
  refine lv_iconst (v := 2) hx hb dL_law_1069 (by decide) ?_
  refine lv_iadd hx hb dL_law_1070 ?_
  refine va_sld hx hb hX hbl hbA hS h2 dL_law_1071 ?_
  refine kW (n := 2) (As := [.int (xs (x3 + 1).toNatClampNeg), .int (xs (x3 + 2).toNatClampNeg)]) (rest := []) (A0 := fun q : Nat => s.heap.size ≤ q) ⟨hx, hb, hml, hown, hts⟩ (kX3_as l D cy ad hI u (xs (x3 + 1).toNatClampNeg) (xs (x3 + 2).toNatClampNeg) (rel_pc hR)) gL_law_X3_as rfl rfl rfl (by decide +kernel) ⟨Nat.le_of_ble_eq_true rfl, Nat.le_of_ble_eq_true rfl⟩ (recvX hP hK) (XB_of hP hK) XB_bl (AX_lo hax) hS rfl hl.1 rfl (Nat.le_of_ble_eq_true rfl) dL_law_1072 ⟨Nat.le_refl _, Nat.le_refl _⟩ (fun t H1 locs1 ht hB hz hk hS => ?_)
  have hPm := keepM hab hk hPm
  have hP : va_P D vwCl (wX cy ad (fX3_as u (xs (x3 + 1).toNatClampNeg) (xs (x3 + 2).toNatClampNeg)).2) H1 := by have q := hB.1; rw [ht] at q; exact q
  clear hB hz hk
  refine lv_aload_n hx hb dL_law_1075 rfl (lv_at hl 2 rfl) ?_
  refine lv_aload_n hx hb dL_law_1076 rfl (lv_at hl 0 rfl) ?_
  refine lv_iload_n hx hb dL_law_1077 rfl (lv_at hl 3 rfl) ?_
  refine lv_iconst (v := 1) hx hb dL_law_1078 (by decide) ?_
  refine lv_iadd hx hb dL_law_1079 ?_
  refine va_sld hx hb hX hbl hbA hS h1 dL_law_1080 ?_
  refine lv_aload_n hx hb dL_law_1081 rfl (lv_at hl 0 rfl) ?_
  refine lv_iload_n hx hb dL_law_1082 rfl (lv_at hl 3 rfl) ?_
  refine lv_iconst (v := 2) hx hb dL_law_1083 (by decide) ?_
  refine lv_iadd hx hb dL_law_1084 ?_
  refine va_sld hx hb hX hbl hbA hS h2 dL_law_1085 ?_
  refine kW (n := 2) (As := [.int (xs (x3 + 1).toNatClampNeg), .int (xs (x3 + 2).toNatClampNeg)]) (rest := [.int (fX3_as u (xs (x3 + 1).toNatClampNeg) (xs (x3 + 2).toNatClampNeg)).1]) (A0 := fun q : Nat => s.heap.size ≤ q) ⟨hx, hb, hml, hown, hts⟩ (kX4_as l D cz bd hIm v (xs (x3 + 1).toNatClampNeg) (xs (x3 + 2).toNatClampNeg) (rel_pcM hR)) gL_law_X4_as rfl rfl rfl (by decide +kernel) ⟨Nat.le_of_ble_eq_true rfl, Nat.le_of_ble_eq_true rfl⟩ (recvM hPm hKm) (MB_of hPm hKm) MB_bl (AM_lo hbm) hS rfl hl.1 rfl (Nat.le_of_ble_eq_true rfl) dL_law_1086 ⟨Nat.le_refl _, Nat.le_refl _⟩ (fun t H1 locs1 ht hB hz hk hS => ?_)
  have hP := keepX hab hk hP
  have hPm : va_P D vwCl (wM cz bd (fX4_as v (xs (x3 + 1).toNatClampNeg) (xs (x3 + 2).toNatClampNeg)).2) H1 := by have q := hB.1; rw [ht] at q; exact q
  clear hB hz hk
  have hq := eq_as hR (xs (x3 + 1).toNatClampNeg) (xs (x3 + 2).toNatClampNeg)
  refine lv_icmp_eq (tgt := 1143) hx hb dL_law_1089 (by decide) (fun _ => ?_) (fun z => absurd hq.1 z)
  exact kk (fX3_as u (xs (x3 + 1).toNatClampNeg) (xs (x3 + 2).toNatClampNeg)).2 (fX4_as v (xs (x3 + 1).toNatClampNeg) (xs (x3 + 2).toNatClampNeg)).2 _ _ hq.2 hP hPm hS ls hl
set_option maxRecDepth 100000 in
set_option maxHeartbeats 4000000 in
theorem case_trace {p : Program} {l : Launch} {e : Env} {s : State} {m : MethodId} {below : List Frame} {meth : Method} {c : Code} {D : va_G} {cy : Nat → ClassId} {cz : ClassId} {ad bd : Nat → Nat} {u v : Mem} {b L : Nat} {xs : Nat → Int32} (C0 : lw_At p s m meth c b L xs) (F : LwF D cy cz ad bd s) {x3 : Int32} (h1 : vp_in (x3 + 1) L) (h2 : vp_in (x3 + 2) L) (h3 : vp_in (x3 + 3) L) (h4 : vp_in (x3 + 4) L) (h5 : vp_in (x3 + 5) L) (h6 : vp_in (x3 + 6) L) {H : Heap} {locs : List Loc} (hP : va_P D vwCl (wX cy ad u) H) (hPm : va_P D vwCl (wM cz bd v) H) (hS : va_S (fun q : Nat => s.heap.size ≤ q) s.heap H locs) (hR : Rel u v) {ls : Array Slot} (hl : lv_has ls 4 [(0, .ref b), (1, .ref (ad 0)), (2, .ref (bd 0)), (3, .int x3)]) (kk : ∀ (u v : Mem) (H : Heap) (locs : List Loc), Rel u v → va_P D vwCl (wX cy ad u) H → va_P D vwCl (wM cz bd v) H → va_S (fun q : Nat => s.heap.size ≤ q) s.heap H locs → ∀ ls : Array Slot, lv_has ls 4 [(0, .ref b), (1, .ref (ad 0)), (2, .ref (bd 0)), (3, .int x3)] → W p l e room_1 s m #[Value.ref b] below meth c H locs 600000 7302250 (lw_Z below #[Value.ref b] s) (F0 m 1143 ls [])) : W p l e room_1 s m #[Value.ref b] below meth c H locs 600000 7302250 (lw_Z below #[Value.ref b] s) (F0 m 1094 ls []) := by
  obtain ⟨hx, hb, hr, hml, hown, hts0, hX, hbl, hlocks, hgv⟩ := C0
  obtain ⟨hK, hKm, hI, hIm, hax, hbm, hab⟩ := F
  have hts : ∀ w ∈ wsL_law, w.before #[Value.ref b] s = true := fun w h => hts0 w (wsL_law_in w h)
  have hbA : ¬ (fun q : Nat => s.heap.size ≤ q) b := Nat.not_le.mpr hbl
  have hown : s.vm.findClass RL = some m.cls := hown
  refine lv_aload_n hx hb dL_law_1094 rfl (lv_at hl 1 rfl) ?_
  refine kV (n := 0) (As := []) (rest := []) ⟨hx, hb, hml, hown, hts⟩ (kX3_trace l D cy ad u) gL_law_X3_trace rfl rfl rfl (by decide +kernel) ⟨Nat.le_of_ble_eq_true rfl, Nat.le_of_ble_eq_true rfl⟩ (recvX hP hK) (XB_of hP hK) XB_bl rfl hl.1 rfl (Nat.le_of_ble_eq_true rfl) dL_law_1095 ⟨Nat.le_refl _, Nat.le_refl _⟩ ?_
  refine lv_aload_n hx hb dL_law_1098 rfl (lv_at hl 2 rfl) ?_
  refine kV (n := 0) (As := []) (rest := [.int (fX3_trace u)]) ⟨hx, hb, hml, hown, hts⟩ (kX4_trace l D cz bd v) gL_law_X4_trace rfl rfl rfl (by decide +kernel) ⟨Nat.le_of_ble_eq_true rfl, Nat.le_of_ble_eq_true rfl⟩ (recvM hPm hKm) (MB_of hPm hKm) MB_bl rfl hl.1 rfl (Nat.le_of_ble_eq_true rfl) dL_law_1099 ⟨Nat.le_refl _, Nat.le_refl _⟩ ?_
  have hq := eq_trace hR 
  refine lv_icmp_eq (tgt := 1143) hx hb dL_law_1102 (by decide) (fun _ => ?_) (fun z => absurd hq z)
  exact kk u v _ _ hR hP hPm hS ls hl
set_option maxRecDepth 100000 in
set_option maxHeartbeats 4000000 in
theorem case_fault {p : Program} {l : Launch} {e : Env} {s : State} {m : MethodId} {below : List Frame} {meth : Method} {c : Code} {D : va_G} {cy : Nat → ClassId} {cz : ClassId} {ad bd : Nat → Nat} {u v : Mem} {b L : Nat} {xs : Nat → Int32} (C0 : lw_At p s m meth c b L xs) (F : LwF D cy cz ad bd s) {x3 : Int32} (h1 : vp_in (x3 + 1) L) (h2 : vp_in (x3 + 2) L) (h3 : vp_in (x3 + 3) L) (h4 : vp_in (x3 + 4) L) (h5 : vp_in (x3 + 5) L) (h6 : vp_in (x3 + 6) L) {H : Heap} {locs : List Loc} (hP : va_P D vwCl (wX cy ad u) H) (hPm : va_P D vwCl (wM cz bd v) H) (hS : va_S (fun q : Nat => s.heap.size ≤ q) s.heap H locs) (hR : Rel u v) {ls : Array Slot} (hl : lv_has ls 4 [(0, .ref b), (1, .ref (ad 0)), (2, .ref (bd 0)), (3, .int x3)]) (kk : ∀ (u v : Mem) (H : Heap) (locs : List Loc), Rel u v → va_P D vwCl (wX cy ad u) H → va_P D vwCl (wM cz bd v) H → va_S (fun q : Nat => s.heap.size ≤ q) s.heap H locs → ∀ ls : Array Slot, lv_has ls 4 [(0, .ref b), (1, .ref (ad 0)), (2, .ref (bd 0)), (3, .int x3)] → W p l e room_1 s m #[Value.ref b] below meth c H locs 600000 7302250 (lw_Z below #[Value.ref b] s) (F0 m 1143 ls [])) : W p l e room_1 s m #[Value.ref b] below meth c H locs 600000 7302250 (lw_Z below #[Value.ref b] s) (F0 m 1107 ls []) := by
  obtain ⟨hx, hb, hr, hml, hown, hts0, hX, hbl, hlocks, hgv⟩ := C0
  obtain ⟨hK, hKm, hI, hIm, hax, hbm, hab⟩ := F
  have hts : ∀ w ∈ wsL_law, w.before #[Value.ref b] s = true := fun w h => hts0 w (wsL_law_in w h)
  have hbA : ¬ (fun q : Nat => s.heap.size ≤ q) b := Nat.not_le.mpr hbl
  have hown : s.vm.findClass RL = some m.cls := hown
  refine lv_aload_n hx hb dL_law_1107 rfl (lv_at hl 1 rfl) ?_
  refine kV (n := 0) (As := []) (rest := []) ⟨hx, hb, hml, hown, hts⟩ (kX3_fault l D cy ad u) gL_law_X3_fault rfl rfl rfl (by decide +kernel) ⟨Nat.le_of_ble_eq_true rfl, Nat.le_of_ble_eq_true rfl⟩ (recvX hP hK) (XB_of hP hK) XB_bl rfl hl.1 rfl (Nat.le_of_ble_eq_true rfl) dL_law_1108 ⟨Nat.le_refl _, Nat.le_refl _⟩ ?_
  refine lv_aload_n hx hb dL_law_1111 rfl (lv_at hl 2 rfl) ?_
  refine kV (n := 0) (As := []) (rest := [.int (fX3_fault u)]) ⟨hx, hb, hml, hown, hts⟩ (kX4_fault l D cz bd v) gL_law_X4_fault rfl rfl rfl (by decide +kernel) ⟨Nat.le_of_ble_eq_true rfl, Nat.le_of_ble_eq_true rfl⟩ (recvM hPm hKm) (MB_of hPm hKm) MB_bl rfl hl.1 rfl (Nat.le_of_ble_eq_true rfl) dL_law_1112 ⟨Nat.le_refl _, Nat.le_refl _⟩ ?_
  have hq := eq_fault hR 
  refine lv_icmp_eq (tgt := 1143) hx hb dL_law_1115 (by decide) (fun _ => ?_) (fun z => absurd hq z)
  exact kk u v _ _ hR hP hPm hS ls hl
set_option maxRecDepth 100000 in
set_option maxHeartbeats 4000000 in
theorem case_many {p : Program} {l : Launch} {e : Env} {s : State} {m : MethodId} {below : List Frame} {meth : Method} {c : Code} {D : va_G} {cy : Nat → ClassId} {cz : ClassId} {ad bd : Nat → Nat} {u v : Mem} {b L : Nat} {xs : Nat → Int32} (C0 : lw_At p s m meth c b L xs) (F : LwF D cy cz ad bd s) {x3 : Int32} (h1 : vp_in (x3 + 1) L) (h2 : vp_in (x3 + 2) L) (h3 : vp_in (x3 + 3) L) (h4 : vp_in (x3 + 4) L) (h5 : vp_in (x3 + 5) L) (h6 : vp_in (x3 + 6) L) {H : Heap} {locs : List Loc} (hP : va_P D vwCl (wX cy ad u) H) (hPm : va_P D vwCl (wM cz bd v) H) (hS : va_S (fun q : Nat => s.heap.size ≤ q) s.heap H locs) (hR : Rel u v) {ls : Array Slot} (hl : lv_has ls 4 [(0, .ref b), (1, .ref (ad 0)), (2, .ref (bd 0)), (3, .int x3)]) (kk : ∀ (u v : Mem) (H : Heap) (locs : List Loc), Rel u v → va_P D vwCl (wX cy ad u) H → va_P D vwCl (wM cz bd v) H → va_S (fun q : Nat => s.heap.size ≤ q) s.heap H locs → ∀ ls : Array Slot, lv_has ls 4 [(0, .ref b), (1, .ref (ad 0)), (2, .ref (bd 0)), (3, .int x3)] → W p l e room_1 s m #[Value.ref b] below meth c H locs 600000 7302250 (lw_Z below #[Value.ref b] s) (F0 m 1143 ls [])) : W p l e room_1 s m #[Value.ref b] below meth c H locs 600000 7302250 (lw_Z below #[Value.ref b] s) (F0 m 1120 ls []) := by
  obtain ⟨hx, hb, hr, hml, hown, hts0, hX, hbl, hlocks, hgv⟩ := C0
  obtain ⟨hK, hKm, hI, hIm, hax, hbm, hab⟩ := F
  have hts : ∀ w ∈ wsL_law, w.before #[Value.ref b] s = true := fun w h => hts0 w (wsL_law_in w h)
  have hbA : ¬ (fun q : Nat => s.heap.size ≤ q) b := Nat.not_le.mpr hbl
  have hown : s.vm.findClass RL = some m.cls := hown
  refine lv_aload_n hx hb dL_law_1120 rfl (lv_at hl 1 rfl) ?_
  refine lv_aload_n hx hb dL_law_1121 rfl (lv_at hl 0 rfl) ?_
  refine lv_iload_n hx hb dL_law_1122 rfl (lv_at hl 3 rfl) ?_
  refine lv_iconst (v := 1) hx hb dL_law_1123 (by decide) ?_
  refine lv_iadd hx hb dL_law_1124 ?_
  refine va_sld hx hb hX hbl hbA hS h1 dL_law_1125 ?_
  refine kV (n := 1) (As := [.int (xs (x3 + 1).toNatClampNeg)]) (rest := []) ⟨hx, hb, hml, hown, hts⟩ (kX3_many l D cy ad u (xs (x3 + 1).toNatClampNeg) (rel_pc hR)) gL_law_X3_many rfl rfl rfl (by decide +kernel) ⟨Nat.le_of_ble_eq_true rfl, Nat.le_of_ble_eq_true rfl⟩ (recvX hP hK) (XB_of hP hK) XB_bl rfl hl.1 rfl (Nat.le_of_ble_eq_true rfl) dL_law_1126 ⟨Nat.le_refl _, Nat.le_refl _⟩ ?_
  refine lv_aload_n hx hb dL_law_1129 rfl (lv_at hl 2 rfl) ?_
  refine lv_aload_n hx hb dL_law_1130 rfl (lv_at hl 0 rfl) ?_
  refine lv_iload_n hx hb dL_law_1131 rfl (lv_at hl 3 rfl) ?_
  refine lv_iconst (v := 1) hx hb dL_law_1132 (by decide) ?_
  refine lv_iadd hx hb dL_law_1133 ?_
  refine va_sld hx hb hX hbl hbA hS h1 dL_law_1134 ?_
  refine kV (n := 1) (As := [.int (xs (x3 + 1).toNatClampNeg)]) (rest := [.int (fX3_many u (xs (x3 + 1).toNatClampNeg))]) ⟨hx, hb, hml, hown, hts⟩ (kX4_many l D cz bd v (xs (x3 + 1).toNatClampNeg) (rel_pcM hR)) gL_law_X4_many rfl rfl rfl (by decide +kernel) ⟨Nat.le_of_ble_eq_true rfl, Nat.le_of_ble_eq_true rfl⟩ (recvM hPm hKm) (MB_of hPm hKm) MB_bl rfl hl.1 rfl (Nat.le_of_ble_eq_true rfl) dL_law_1135 ⟨Nat.le_refl _, Nat.le_refl _⟩ ?_
  have hq := eq_many hR (xs (x3 + 1).toNatClampNeg)
  refine lv_icmp_eq (tgt := 1143) hx hb dL_law_1138 (by decide) (fun _ => ?_) (fun z => absurd hq z)
  exact kk u v _ _ hR hP hPm hS ls hl
