set_option maxRecDepth 100000 in
theorem lc_15 {p : Program} {l : Launch} {e : Env} {s : State} {m : MethodId} {below : List Frame} {meth : Method} {c : Code} {b L : Nat} {xs : Nat → Int32} {u : am_U} {Q : State → Prop} {H : Heap} {locs : List Loc} {i cells slots : Nat} {ls : Array Slot} {M : am_M} {RI : am_M → Prop} (C : lw_Cx p s m c b L xs u) (hl : lw_Ls u b i ls) (hi : i + 5 < L) (hS : va_S (lw_A s) s.heap H locs) (hP : va_P u.1 am_cl (am_wl u M) H) (hM : am_wf M) (hRI : RI M) (hcs : cells ≤ 600000) (hss : slots ≤ 7302250) (hpr : lw_Pr RI 17 100 [iV (xs (i + 1)).toInt, iV (xs (i + 2)).toInt])
    (kk : ∀ (M2 : am_M) (H2 : Heap) (locs2 : List Loc), RI M2 → am_wf M2 → va_P u.1 am_cl (am_wl u M2) H2 → va_S (lw_A s) s.heap H2 locs2 → W p l e room_1 s m #[Value.ref b] below meth c H2 locs2 cells slots Q (F0 m 1633 ls [])) : W p l e room_1 s m #[Value.ref b] below meth c H locs cells slots Q (F0 m 719 ls []) := by
  obtain ⟨r, M1, M2, h1, h2, h3⟩ := hpr M hRI hM
  have hx := C.1
  have hb := C.2.1
  refine lv_aload_n hx hb (show decode code 719 = .ok (.aload_n 1, 1) by decide +kernel) rfl (lv_at hl 2 rfl) ?_
  refine lw_ld (k := 1) C hl hS (by omega) (show decode code 720 = .ok (.aload_n 0, 1) by decide +kernel) (by decide +kernel) (by decide +kernel) (by decide +kernel) (by decide +kernel) ?_
  refine lw_ld (k := 2) C hl hS (by omega) (show decode code 725 = .ok (.aload_n 0, 1) by decide +kernel) (by decide +kernel) (by decide +kernel) (by decide +kernel) (by decide +kernel) ?_
  refine lw_c1 (y := 17) (a := 70) (as := [iV (xs (i + 1)).toInt, iV (xs (i + 2)).toInt]) (rest := []) C hl hS hP hM (am_hc (nm_ir _) (am_hc (nm_ir _) (fun _ h => absurd h List.not_mem_nil))) h1 rfl clX11 my_17 rfl (am_w4 20 rfl rfl) is_17 se_17 rfl (by decide) (by decide) (by simp [am_rv, nm_iof]) (Nat.le_of_ble_eq_true rfl) hcs hss (show decode code 730 = .ok (.invokevirtual 79, 3) by decide +kernel) (fun H locs hP hM hrr hS => ?_)
  refine lv_aload_n hx hb (show decode code 733 = .ok (.aload_n 2, 1) by decide +kernel) rfl (lv_at hl 1 rfl) ?_
  refine lw_ld (k := 1) C hl hS (by omega) (show decode code 734 = .ok (.aload_n 0, 1) by decide +kernel) (by decide +kernel) (by decide +kernel) (by decide +kernel) (by decide +kernel) ?_
  refine lw_ld (k := 2) C hl hS (by omega) (show decode code 739 = .ok (.aload_n 0, 1) by decide +kernel) (by decide +kernel) (by decide +kernel) (by decide +kernel) (by decide +kernel) ?_
  refine lw_c1 (y := 100) (a := 72) (as := [iV (xs (i + 1)).toInt, iV (xs (i + 2)).toInt]) (rest := [.int (Int32.ofInt r)]) C hl hS hP hM (am_hc (nm_ir _) (am_hc (nm_ir _) (fun _ h => absurd h List.not_mem_nil))) h2 rfl clX12 my_100 rfl (am_w7 38 rfl rfl) is_100 se_100 rfl (by decide) (by decide) (by simp [am_rv, nm_iof]) (Nat.le_of_ble_eq_true rfl) hcs hss (show decode code 744 = .ok (.invokevirtual 82, 3) by decide +kernel) (fun H locs hP hM hrr hS => ?_)
  refine lv_icmp_eq (tgt := 1633) hx hb (show decode code 747 = .ok (.if_icmp .eq 886, 3) by decide +kernel) (by decide) (fun _ => ?_) (fun h => absurd rfl h)
  exact kk M2 H locs h3 hM hP hS
set_option maxRecDepth 100000 in
theorem lc_16 {p : Program} {l : Launch} {e : Env} {s : State} {m : MethodId} {below : List Frame} {meth : Method} {c : Code} {b L : Nat} {xs : Nat → Int32} {u : am_U} {Q : State → Prop} {H : Heap} {locs : List Loc} {i cells slots : Nat} {ls : Array Slot} {M : am_M} {RI : am_M → Prop} (C : lw_Cx p s m c b L xs u) (hl : lw_Ls u b i ls) (hi : i + 5 < L) (hS : va_S (lw_A s) s.heap H locs) (hP : va_P u.1 am_cl (am_wl u M) H) (hM : am_wf M) (hRI : RI M) (hcs : cells ≤ 600000) (hss : slots ≤ 7302250) (hpr : lw_Pr RI 18 101 [iV (xs (i + 1)).toInt])
    (kk : ∀ (M2 : am_M) (H2 : Heap) (locs2 : List Loc), RI M2 → am_wf M2 → va_P u.1 am_cl (am_wl u M2) H2 → va_S (lw_A s) s.heap H2 locs2 → W p l e room_1 s m #[Value.ref b] below meth c H2 locs2 cells slots Q (F0 m 1633 ls [])) : W p l e room_1 s m #[Value.ref b] below meth c H locs cells slots Q (F0 m 752 ls []) := by
  obtain ⟨r, M1, M2, h1, h2, h3⟩ := hpr M hRI hM
  have hx := C.1
  have hb := C.2.1
  refine lv_aload_n hx hb (show decode code 752 = .ok (.aload_n 1, 1) by decide +kernel) rfl (lv_at hl 2 rfl) ?_
  refine lw_ld (k := 1) C hl hS (by omega) (show decode code 753 = .ok (.aload_n 0, 1) by decide +kernel) (by decide +kernel) (by decide +kernel) (by decide +kernel) (by decide +kernel) ?_
  refine lw_c1 (y := 18) (a := 70) (as := [iV (xs (i + 1)).toInt]) (rest := []) C hl hS hP hM (am_hc (nm_ir _) (fun _ h => absurd h List.not_mem_nil)) h1 rfl clX11 my_18 rfl (am_w4 41 rfl rfl) is_18 se_18 rfl (by decide) (by decide) (by simp [am_rv, nm_iof]) (Nat.le_of_ble_eq_true rfl) hcs hss (show decode code 758 = .ok (.invokevirtual 83, 3) by decide +kernel) (fun H locs hP hM hrr hS => ?_)
  refine lv_aload_n hx hb (show decode code 761 = .ok (.aload_n 2, 1) by decide +kernel) rfl (lv_at hl 1 rfl) ?_
  refine lw_ld (k := 1) C hl hS (by omega) (show decode code 762 = .ok (.aload_n 0, 1) by decide +kernel) (by decide +kernel) (by decide +kernel) (by decide +kernel) (by decide +kernel) ?_
  refine lw_c1 (y := 101) (a := 72) (as := [iV (xs (i + 1)).toInt]) (rest := [.int (Int32.ofInt r)]) C hl hS hP hM (am_hc (nm_ir _) (fun _ h => absurd h List.not_mem_nil)) h2 rfl clX12 my_101 rfl (am_w7 47 rfl rfl) is_101 se_101 rfl (by decide) (by decide) (by simp [am_rv, nm_iof]) (Nat.le_of_ble_eq_true rfl) hcs hss (show decode code 767 = .ok (.invokevirtual 86, 3) by decide +kernel) (fun H locs hP hM hrr hS => ?_)
  refine lv_icmp_eq (tgt := 1633) hx hb (show decode code 770 = .ok (.if_icmp .eq 863, 3) by decide +kernel) (by decide) (fun _ => ?_) (fun h => absurd rfl h)
  exact kk M2 H locs h3 hM hP hS
set_option maxRecDepth 100000 in
theorem lc_17 {p : Program} {l : Launch} {e : Env} {s : State} {m : MethodId} {below : List Frame} {meth : Method} {c : Code} {b L : Nat} {xs : Nat → Int32} {u : am_U} {Q : State → Prop} {H : Heap} {locs : List Loc} {i cells slots : Nat} {ls : Array Slot} {M : am_M} {RI : am_M → Prop} (C : lw_Cx p s m c b L xs u) (hl : lw_Ls u b i ls) (hi : i + 5 < L) (hS : va_S (lw_A s) s.heap H locs) (hP : va_P u.1 am_cl (am_wl u M) H) (hM : am_wf M) (hRI : RI M) (hcs : cells ≤ 600000) (hss : slots ≤ 7302250) (hpr : lw_Pr RI 19 117 [iV (xs (i + 1)).toInt, iV (xs (i + 2)).toInt])
    (kk : ∀ (M2 : am_M) (H2 : Heap) (locs2 : List Loc), RI M2 → am_wf M2 → va_P u.1 am_cl (am_wl u M2) H2 → va_S (lw_A s) s.heap H2 locs2 → W p l e room_1 s m #[Value.ref b] below meth c H2 locs2 cells slots Q (F0 m 1633 ls [])) : W p l e room_1 s m #[Value.ref b] below meth c H locs cells slots Q (F0 m 775 ls []) := by
  obtain ⟨r, M1, M2, h1, h2, h3⟩ := hpr M hRI hM
  have hx := C.1
  have hb := C.2.1
  refine lv_aload_n hx hb (show decode code 775 = .ok (.aload_n 1, 1) by decide +kernel) rfl (lv_at hl 2 rfl) ?_
  refine lw_ld (k := 1) C hl hS (by omega) (show decode code 776 = .ok (.aload_n 0, 1) by decide +kernel) (by decide +kernel) (by decide +kernel) (by decide +kernel) (by decide +kernel) ?_
  refine lw_ld (k := 2) C hl hS (by omega) (show decode code 781 = .ok (.aload_n 0, 1) by decide +kernel) (by decide +kernel) (by decide +kernel) (by decide +kernel) (by decide +kernel) ?_
  refine lw_c1 (y := 19) (a := 70) (as := [iV (xs (i + 1)).toInt, iV (xs (i + 2)).toInt]) (rest := []) C hl hS hP hM (am_hc (nm_ir _) (am_hc (nm_ir _) (fun _ h => absurd h List.not_mem_nil))) h1 rfl clX11 my_19 rfl (am_w4 45 rfl rfl) is_19 se_19 rfl (by decide) (by decide) (by simp [am_rv, nm_iof]) (Nat.le_of_ble_eq_true rfl) hcs hss (show decode code 786 = .ok (.invokevirtual 87, 3) by decide +kernel) (fun H locs hP hM hrr hS => ?_)
  refine lv_aload_n hx hb (show decode code 789 = .ok (.aload_n 2, 1) by decide +kernel) rfl (lv_at hl 1 rfl) ?_
  refine lw_ld (k := 1) C hl hS (by omega) (show decode code 790 = .ok (.aload_n 0, 1) by decide +kernel) (by decide +kernel) (by decide +kernel) (by decide +kernel) (by decide +kernel) ?_
  refine lw_ld (k := 2) C hl hS (by omega) (show decode code 795 = .ok (.aload_n 0, 1) by decide +kernel) (by decide +kernel) (by decide +kernel) (by decide +kernel) (by decide +kernel) ?_
  refine lw_c1 (y := 117) (a := 72) (as := [iV (xs (i + 1)).toInt, iV (xs (i + 2)).toInt]) (rest := [.int (Int32.ofInt r)]) C hl hS hP hM (am_hc (nm_ir _) (am_hc (nm_ir _) (fun _ h => absurd h List.not_mem_nil))) h2 rfl clX12 my_117 rfl (am_w7 52 rfl rfl) is_117 se_117 rfl (by decide) (by decide) (by simp [am_rv, nm_iof]) (Nat.le_of_ble_eq_true rfl) hcs hss (show decode code 800 = .ok (.invokevirtual 90, 3) by decide +kernel) (fun H locs hP hM hrr hS => ?_)
  refine lv_icmp_eq (tgt := 1633) hx hb (show decode code 803 = .ok (.if_icmp .eq 830, 3) by decide +kernel) (by decide) (fun _ => ?_) (fun h => absurd rfl h)
  exact kk M2 H locs h3 hM hP hS
set_option maxRecDepth 100000 in
theorem lc_18 {p : Program} {l : Launch} {e : Env} {s : State} {m : MethodId} {below : List Frame} {meth : Method} {c : Code} {b L : Nat} {xs : Nat → Int32} {u : am_U} {Q : State → Prop} {H : Heap} {locs : List Loc} {i cells slots : Nat} {ls : Array Slot} {M : am_M} {RI : am_M → Prop} (C : lw_Cx p s m c b L xs u) (hl : lw_Ls u b i ls) (hi : i + 5 < L) (hS : va_S (lw_A s) s.heap H locs) (hP : va_P u.1 am_cl (am_wl u M) H) (hM : am_wf M) (hRI : RI M) (hcs : cells ≤ 600000) (hss : slots ≤ 7302250) (hpr : lw_Pr RI 20 118 [iV (xs (i + 1)).toInt, iV (xs (i + 2)).toInt, iV (xs (i + 3)).toInt])
    (kk : ∀ (M2 : am_M) (H2 : Heap) (locs2 : List Loc), RI M2 → am_wf M2 → va_P u.1 am_cl (am_wl u M2) H2 → va_S (lw_A s) s.heap H2 locs2 → W p l e room_1 s m #[Value.ref b] below meth c H2 locs2 cells slots Q (F0 m 1633 ls [])) : W p l e room_1 s m #[Value.ref b] below meth c H locs cells slots Q (F0 m 808 ls []) := by
  obtain ⟨r, M1, M2, h1, h2, h3⟩ := hpr M hRI hM
  have hx := C.1
  have hb := C.2.1
  refine lv_aload_n hx hb (show decode code 808 = .ok (.aload_n 1, 1) by decide +kernel) rfl (lv_at hl 2 rfl) ?_
  refine lw_ld (k := 1) C hl hS (by omega) (show decode code 809 = .ok (.aload_n 0, 1) by decide +kernel) (by decide +kernel) (by decide +kernel) (by decide +kernel) (by decide +kernel) ?_
  refine lw_ld (k := 2) C hl hS (by omega) (show decode code 814 = .ok (.aload_n 0, 1) by decide +kernel) (by decide +kernel) (by decide +kernel) (by decide +kernel) (by decide +kernel) ?_
  refine lw_ld (k := 3) C hl hS (by omega) (show decode code 819 = .ok (.aload_n 0, 1) by decide +kernel) (by decide +kernel) (by decide +kernel) (by decide +kernel) (by decide +kernel) ?_
  refine lw_c1 (y := 20) (a := 70) (as := [iV (xs (i + 1)).toInt, iV (xs (i + 2)).toInt, iV (xs (i + 3)).toInt]) (rest := []) C hl hS hP hM (am_hc (nm_ir _) (am_hc (nm_ir _) (am_hc (nm_ir _) (fun _ h => absurd h List.not_mem_nil)))) h1 rfl clX11 my_20 rfl (am_w4 83 rfl rfl) is_20 se_20 rfl (by decide) (by decide) (by simp [am_rv, nm_iof]) (Nat.le_of_ble_eq_true rfl) hcs hss (show decode code 824 = .ok (.invokevirtual 91, 3) by decide +kernel) (fun H locs hP hM hrr hS => ?_)
  refine lv_aload_n hx hb (show decode code 827 = .ok (.aload_n 2, 1) by decide +kernel) rfl (lv_at hl 1 rfl) ?_
  refine lw_ld (k := 1) C hl hS (by omega) (show decode code 828 = .ok (.aload_n 0, 1) by decide +kernel) (by decide +kernel) (by decide +kernel) (by decide +kernel) (by decide +kernel) ?_
  refine lw_ld (k := 2) C hl hS (by omega) (show decode code 833 = .ok (.aload_n 0, 1) by decide +kernel) (by decide +kernel) (by decide +kernel) (by decide +kernel) (by decide +kernel) ?_
  refine lw_ld (k := 3) C hl hS (by omega) (show decode code 838 = .ok (.aload_n 0, 1) by decide +kernel) (by decide +kernel) (by decide +kernel) (by decide +kernel) (by decide +kernel) ?_
  refine lw_c1 (y := 118) (a := 72) (as := [iV (xs (i + 1)).toInt, iV (xs (i + 2)).toInt, iV (xs (i + 3)).toInt]) (rest := [.int (Int32.ofInt r)]) C hl hS hP hM (am_hc (nm_ir _) (am_hc (nm_ir _) (am_hc (nm_ir _) (fun _ h => absurd h List.not_mem_nil)))) h2 rfl clX12 my_118 rfl (am_w7 64 rfl rfl) is_118 se_118 rfl (by decide) (by decide) (by simp [am_rv, nm_iof]) (Nat.le_of_ble_eq_true rfl) hcs hss (show decode code 843 = .ok (.invokevirtual 94, 3) by decide +kernel) (fun H locs hP hM hrr hS => ?_)
  refine lv_icmp_eq (tgt := 1633) hx hb (show decode code 846 = .ok (.if_icmp .eq 787, 3) by decide +kernel) (by decide) (fun _ => ?_) (fun h => absurd rfl h)
  exact kk M2 H locs h3 hM hP hS
set_option maxRecDepth 100000 in
theorem lc_19 {p : Program} {l : Launch} {e : Env} {s : State} {m : MethodId} {below : List Frame} {meth : Method} {c : Code} {b L : Nat} {xs : Nat → Int32} {u : am_U} {Q : State → Prop} {H : Heap} {locs : List Loc} {i cells slots : Nat} {ls : Array Slot} {M : am_M} {RI : am_M → Prop} (C : lw_Cx p s m c b L xs u) (hl : lw_Ls u b i ls) (hi : i + 5 < L) (hS : va_S (lw_A s) s.heap H locs) (hP : va_P u.1 am_cl (am_wl u M) H) (hM : am_wf M) (hRI : RI M) (hcs : cells ≤ 600000) (hss : slots ≤ 7302250) (hpr : lw_Pr RI 21 119 [iV (xs (i + 1)).toInt])
    (kk : ∀ (M2 : am_M) (H2 : Heap) (locs2 : List Loc), RI M2 → am_wf M2 → va_P u.1 am_cl (am_wl u M2) H2 → va_S (lw_A s) s.heap H2 locs2 → W p l e room_1 s m #[Value.ref b] below meth c H2 locs2 cells slots Q (F0 m 1633 ls [])) : W p l e room_1 s m #[Value.ref b] below meth c H locs cells slots Q (F0 m 851 ls []) := by
  obtain ⟨r, M1, M2, h1, h2, h3⟩ := hpr M hRI hM
  have hx := C.1
  have hb := C.2.1
  refine lv_aload_n hx hb (show decode code 851 = .ok (.aload_n 1, 1) by decide +kernel) rfl (lv_at hl 2 rfl) ?_
  refine lw_ld (k := 1) C hl hS (by omega) (show decode code 852 = .ok (.aload_n 0, 1) by decide +kernel) (by decide +kernel) (by decide +kernel) (by decide +kernel) (by decide +kernel) ?_
  refine lw_c1 (y := 21) (a := 70) (as := [iV (xs (i + 1)).toInt]) (rest := []) C hl hS hP hM (am_hc (nm_ir _) (fun _ h => absurd h List.not_mem_nil)) h1 rfl clX11 my_21 rfl (am_w4 156 rfl rfl) is_21 se_21 rfl (by decide) (by decide) (by simp [am_rv, nm_iof]) (Nat.le_of_ble_eq_true rfl) hcs hss (show decode code 857 = .ok (.invokevirtual 95, 3) by decide +kernel) (fun H locs hP hM hrr hS => ?_)
  refine lv_aload_n hx hb (show decode code 860 = .ok (.aload_n 2, 1) by decide +kernel) rfl (lv_at hl 1 rfl) ?_
  refine lw_ld (k := 1) C hl hS (by omega) (show decode code 861 = .ok (.aload_n 0, 1) by decide +kernel) (by decide +kernel) (by decide +kernel) (by decide +kernel) (by decide +kernel) ?_
  refine lw_c1 (y := 119) (a := 72) (as := [iV (xs (i + 1)).toInt]) (rest := [.int (Int32.ofInt r)]) C hl hS hP hM (am_hc (nm_ir _) (fun _ h => absurd h List.not_mem_nil)) h2 rfl clX12 my_119 rfl (am_w7 115 rfl rfl) is_119 se_119 rfl (by decide) (by decide) (by simp [am_rv, nm_iof]) (Nat.le_of_ble_eq_true rfl) hcs hss (show decode code 866 = .ok (.invokevirtual 98, 3) by decide +kernel) (fun H locs hP hM hrr hS => ?_)
  refine lv_icmp_eq (tgt := 1633) hx hb (show decode code 869 = .ok (.if_icmp .eq 764, 3) by decide +kernel) (by decide) (fun _ => ?_) (fun h => absurd rfl h)
  exact kk M2 H locs h3 hM hP hS
set_option maxRecDepth 100000 in
theorem lc_20 {p : Program} {l : Launch} {e : Env} {s : State} {m : MethodId} {below : List Frame} {meth : Method} {c : Code} {b L : Nat} {xs : Nat → Int32} {u : am_U} {Q : State → Prop} {H : Heap} {locs : List Loc} {i cells slots : Nat} {ls : Array Slot} {M : am_M} {RI : am_M → Prop} (C : lw_Cx p s m c b L xs u) (hl : lw_Ls u b i ls) (hi : i + 5 < L) (hS : va_S (lw_A s) s.heap H locs) (hP : va_P u.1 am_cl (am_wl u M) H) (hM : am_wf M) (hRI : RI M) (hcs : cells ≤ 600000) (hss : slots ≤ 7302250) (hpr : lw_Pr RI 22 120 [iV (xs (i + 1)).toInt])
    (kk : ∀ (M2 : am_M) (H2 : Heap) (locs2 : List Loc), RI M2 → am_wf M2 → va_P u.1 am_cl (am_wl u M2) H2 → va_S (lw_A s) s.heap H2 locs2 → W p l e room_1 s m #[Value.ref b] below meth c H2 locs2 cells slots Q (F0 m 1633 ls [])) : W p l e room_1 s m #[Value.ref b] below meth c H locs cells slots Q (F0 m 874 ls []) := by
  obtain ⟨r, M1, M2, h1, h2, h3⟩ := hpr M hRI hM
  have hx := C.1
  have hb := C.2.1
  refine lv_aload_n hx hb (show decode code 874 = .ok (.aload_n 1, 1) by decide +kernel) rfl (lv_at hl 2 rfl) ?_
  refine lw_ld (k := 1) C hl hS (by omega) (show decode code 875 = .ok (.aload_n 0, 1) by decide +kernel) (by decide +kernel) (by decide +kernel) (by decide +kernel) (by decide +kernel) ?_
  refine lw_c1 (y := 22) (a := 70) (as := [iV (xs (i + 1)).toInt]) (rest := []) C hl hS hP hM (am_hc (nm_ir _) (fun _ h => absurd h List.not_mem_nil)) h1 rfl clX11 my_22 rfl (am_w4 160 rfl rfl) is_22 se_22 rfl (by decide) (by decide) (by simp [am_rv, nm_iof]) (Nat.le_of_ble_eq_true rfl) hcs hss (show decode code 880 = .ok (.invokevirtual 99, 3) by decide +kernel) (fun H locs hP hM hrr hS => ?_)
  refine lv_aload_n hx hb (show decode code 883 = .ok (.aload_n 2, 1) by decide +kernel) rfl (lv_at hl 1 rfl) ?_
  refine lw_ld (k := 1) C hl hS (by omega) (show decode code 884 = .ok (.aload_n 0, 1) by decide +kernel) (by decide +kernel) (by decide +kernel) (by decide +kernel) (by decide +kernel) ?_
  refine lw_c1 (y := 120) (a := 72) (as := [iV (xs (i + 1)).toInt]) (rest := [.int (Int32.ofInt r)]) C hl hS hP hM (am_hc (nm_ir _) (fun _ h => absurd h List.not_mem_nil)) h2 rfl clX12 my_120 rfl (am_w7 119 rfl rfl) is_120 se_120 rfl (by decide) (by decide) (by simp [am_rv, nm_iof]) (Nat.le_of_ble_eq_true rfl) hcs hss (show decode code 889 = .ok (.invokevirtual 102, 3) by decide +kernel) (fun H locs hP hM hrr hS => ?_)
  refine lv_icmp_eq (tgt := 1633) hx hb (show decode code 892 = .ok (.if_icmp .eq 741, 3) by decide +kernel) (by decide) (fun _ => ?_) (fun h => absurd rfl h)
  exact kk M2 H locs h3 hM hP hS
set_option maxRecDepth 100000 in
theorem lc_21 {p : Program} {l : Launch} {e : Env} {s : State} {m : MethodId} {below : List Frame} {meth : Method} {c : Code} {b L : Nat} {xs : Nat → Int32} {u : am_U} {Q : State → Prop} {H : Heap} {locs : List Loc} {i cells slots : Nat} {ls : Array Slot} {M : am_M} {RI : am_M → Prop} (C : lw_Cx p s m c b L xs u) (hl : lw_Ls u b i ls) (hi : i + 5 < L) (hS : va_S (lw_A s) s.heap H locs) (hP : va_P u.1 am_cl (am_wl u M) H) (hM : am_wf M) (hRI : RI M) (hcs : cells ≤ 600000) (hss : slots ≤ 7302250) (hpr : lw_Pr RI 23 121 [iV (xs (i + 1)).toInt])
    (kk : ∀ (M2 : am_M) (H2 : Heap) (locs2 : List Loc), RI M2 → am_wf M2 → va_P u.1 am_cl (am_wl u M2) H2 → va_S (lw_A s) s.heap H2 locs2 → W p l e room_1 s m #[Value.ref b] below meth c H2 locs2 cells slots Q (F0 m 1633 ls [])) : W p l e room_1 s m #[Value.ref b] below meth c H locs cells slots Q (F0 m 897 ls []) := by
  obtain ⟨r, M1, M2, h1, h2, h3⟩ := hpr M hRI hM
  have hx := C.1
  have hb := C.2.1
  refine lv_aload_n hx hb (show decode code 897 = .ok (.aload_n 1, 1) by decide +kernel) rfl (lv_at hl 2 rfl) ?_
  refine lw_ld (k := 1) C hl hS (by omega) (show decode code 898 = .ok (.aload_n 0, 1) by decide +kernel) (by decide +kernel) (by decide +kernel) (by decide +kernel) (by decide +kernel) ?_
  refine lw_c1 (y := 23) (a := 70) (as := [iV (xs (i + 1)).toInt]) (rest := []) C hl hS hP hM (am_hc (nm_ir _) (fun _ h => absurd h List.not_mem_nil)) h1 rfl clX11 my_23 rfl (am_w4 164 rfl rfl) is_23 se_23 rfl (by decide) (by decide) (by simp [am_rv, nm_iof]) (Nat.le_of_ble_eq_true rfl) hcs hss (show decode code 903 = .ok (.invokevirtual 103, 3) by decide +kernel) (fun H locs hP hM hrr hS => ?_)
  refine lv_aload_n hx hb (show decode code 906 = .ok (.aload_n 2, 1) by decide +kernel) rfl (lv_at hl 1 rfl) ?_
  refine lw_ld (k := 1) C hl hS (by omega) (show decode code 907 = .ok (.aload_n 0, 1) by decide +kernel) (by decide +kernel) (by decide +kernel) (by decide +kernel) (by decide +kernel) ?_
  refine lw_c1 (y := 121) (a := 72) (as := [iV (xs (i + 1)).toInt]) (rest := [.int (Int32.ofInt r)]) C hl hS hP hM (am_hc (nm_ir _) (fun _ h => absurd h List.not_mem_nil)) h2 rfl clX12 my_121 rfl (am_w7 123 rfl rfl) is_121 se_121 rfl (by decide) (by decide) (by simp [am_rv, nm_iof]) (Nat.le_of_ble_eq_true rfl) hcs hss (show decode code 912 = .ok (.invokevirtual 106, 3) by decide +kernel) (fun H locs hP hM hrr hS => ?_)
  refine lv_icmp_eq (tgt := 1633) hx hb (show decode code 915 = .ok (.if_icmp .eq 718, 3) by decide +kernel) (by decide) (fun _ => ?_) (fun h => absurd rfl h)
  exact kk M2 H locs h3 hM hP hS
set_option maxRecDepth 100000 in
theorem lc_22 {p : Program} {l : Launch} {e : Env} {s : State} {m : MethodId} {below : List Frame} {meth : Method} {c : Code} {b L : Nat} {xs : Nat → Int32} {u : am_U} {Q : State → Prop} {H : Heap} {locs : List Loc} {i cells slots : Nat} {ls : Array Slot} {M : am_M} {RI : am_M → Prop} (C : lw_Cx p s m c b L xs u) (hl : lw_Ls u b i ls) (hi : i + 5 < L) (hS : va_S (lw_A s) s.heap H locs) (hP : va_P u.1 am_cl (am_wl u M) H) (hM : am_wf M) (hRI : RI M) (hcs : cells ≤ 600000) (hss : slots ≤ 7302250) (hpr : lw_Pr RI 24 122 [iV (xs (i + 1)).toInt])
    (kk : ∀ (M2 : am_M) (H2 : Heap) (locs2 : List Loc), RI M2 → am_wf M2 → va_P u.1 am_cl (am_wl u M2) H2 → va_S (lw_A s) s.heap H2 locs2 → W p l e room_1 s m #[Value.ref b] below meth c H2 locs2 cells slots Q (F0 m 1633 ls [])) : W p l e room_1 s m #[Value.ref b] below meth c H locs cells slots Q (F0 m 920 ls []) := by
  obtain ⟨r, M1, M2, h1, h2, h3⟩ := hpr M hRI hM
  have hx := C.1
  have hb := C.2.1
  refine lv_aload_n hx hb (show decode code 920 = .ok (.aload_n 1, 1) by decide +kernel) rfl (lv_at hl 2 rfl) ?_
  refine lw_ld (k := 1) C hl hS (by omega) (show decode code 921 = .ok (.aload_n 0, 1) by decide +kernel) (by decide +kernel) (by decide +kernel) (by decide +kernel) (by decide +kernel) ?_
  refine lw_c1 (y := 24) (a := 70) (as := [iV (xs (i + 1)).toInt]) (rest := []) C hl hS hP hM (am_hc (nm_ir _) (fun _ h => absurd h List.not_mem_nil)) h1 rfl clX11 my_24 rfl (am_w4 168 rfl rfl) is_24 se_24 rfl (by decide) (by decide) (by simp [am_rv, nm_iof]) (Nat.le_of_ble_eq_true rfl) hcs hss (show decode code 926 = .ok (.invokevirtual 107, 3) by decide +kernel) (fun H locs hP hM hrr hS => ?_)
  refine lv_aload_n hx hb (show decode code 929 = .ok (.aload_n 2, 1) by decide +kernel) rfl (lv_at hl 1 rfl) ?_
  refine lw_ld (k := 1) C hl hS (by omega) (show decode code 930 = .ok (.aload_n 0, 1) by decide +kernel) (by decide +kernel) (by decide +kernel) (by decide +kernel) (by decide +kernel) ?_
  refine lw_c1 (y := 122) (a := 72) (as := [iV (xs (i + 1)).toInt]) (rest := [.int (Int32.ofInt r)]) C hl hS hP hM (am_hc (nm_ir _) (fun _ h => absurd h List.not_mem_nil)) h2 rfl clX12 my_122 rfl (am_w7 127 rfl rfl) is_122 se_122 rfl (by decide) (by decide) (by simp [am_rv, nm_iof]) (Nat.le_of_ble_eq_true rfl) hcs hss (show decode code 935 = .ok (.invokevirtual 110, 3) by decide +kernel) (fun H locs hP hM hrr hS => ?_)
  refine lv_icmp_eq (tgt := 1633) hx hb (show decode code 938 = .ok (.if_icmp .eq 695, 3) by decide +kernel) (by decide) (fun _ => ?_) (fun h => absurd rfl h)
  exact kk M2 H locs h3 hM hP hS
set_option maxRecDepth 100000 in
theorem lc_23 {p : Program} {l : Launch} {e : Env} {s : State} {m : MethodId} {below : List Frame} {meth : Method} {c : Code} {b L : Nat} {xs : Nat → Int32} {u : am_U} {Q : State → Prop} {H : Heap} {locs : List Loc} {i cells slots : Nat} {ls : Array Slot} {M : am_M} {RI : am_M → Prop} (C : lw_Cx p s m c b L xs u) (hl : lw_Ls u b i ls) (hi : i + 5 < L) (hS : va_S (lw_A s) s.heap H locs) (hP : va_P u.1 am_cl (am_wl u M) H) (hM : am_wf M) (hRI : RI M) (hcs : cells ≤ 600000) (hss : slots ≤ 7302250) (hpr : lw_Pr RI 25 123 [iV (xs (i + 1)).toInt, iV (xs (i + 2)).toInt])
    (kk : ∀ (M2 : am_M) (H2 : Heap) (locs2 : List Loc), RI M2 → am_wf M2 → va_P u.1 am_cl (am_wl u M2) H2 → va_S (lw_A s) s.heap H2 locs2 → W p l e room_1 s m #[Value.ref b] below meth c H2 locs2 cells slots Q (F0 m 1633 ls [])) : W p l e room_1 s m #[Value.ref b] below meth c H locs cells slots Q (F0 m 943 ls []) := by
  obtain ⟨r, M1, M2, h1, h2, h3⟩ := hpr M hRI hM
  have hx := C.1
  have hb := C.2.1
  refine lv_aload_n hx hb (show decode code 943 = .ok (.aload_n 1, 1) by decide +kernel) rfl (lv_at hl 2 rfl) ?_
  refine lw_ld (k := 1) C hl hS (by omega) (show decode code 944 = .ok (.aload_n 0, 1) by decide +kernel) (by decide +kernel) (by decide +kernel) (by decide +kernel) (by decide +kernel) ?_
  refine lw_ld (k := 2) C hl hS (by omega) (show decode code 949 = .ok (.aload_n 0, 1) by decide +kernel) (by decide +kernel) (by decide +kernel) (by decide +kernel) (by decide +kernel) ?_
  refine lw_c2 (y := 25) (a := 70) (as := [iV (xs (i + 1)).toInt, iV (xs (i + 2)).toInt]) (rest := []) C hl hS hP hM (am_hc (nm_ir _) (am_hc (nm_ir _) (fun _ h => absurd h List.not_mem_nil))) h1 rfl clX11 my_25 rfl (am_w4 177 rfl rfl) is_25 se_25 rfl (by decide) (by decide) (by simp [am_rv, nm_iof]) (Nat.le_of_ble_eq_true rfl) hcs hss (show decode code 954 = .ok (.invokevirtual 111, 3) by decide +kernel) (fun H locs hP hM hrr hS => ?_)
  refine lv_aload_n hx hb (show decode code 957 = .ok (.aload_n 2, 1) by decide +kernel) rfl (lv_at hl 1 rfl) ?_
  refine lw_ld (k := 1) C hl hS (by omega) (show decode code 958 = .ok (.aload_n 0, 1) by decide +kernel) (by decide +kernel) (by decide +kernel) (by decide +kernel) (by decide +kernel) ?_
  refine lw_ld (k := 2) C hl hS (by omega) (show decode code 963 = .ok (.aload_n 0, 1) by decide +kernel) (by decide +kernel) (by decide +kernel) (by decide +kernel) (by decide +kernel) ?_
  refine lw_c2 (y := 123) (a := 72) (as := [iV (xs (i + 1)).toInt, iV (xs (i + 2)).toInt]) (rest := [.long (Int64.ofInt r)]) C hl hS hP hM (am_hc (nm_ir _) (am_hc (nm_ir _) (fun _ h => absurd h List.not_mem_nil))) h2 rfl clX12 my_123 rfl (am_w7 131 rfl rfl) is_123 se_123 rfl (by decide) (by decide) (by simp [am_rv, nm_iof]) (Nat.le_of_ble_eq_true rfl) hcs hss (show decode code 968 = .ok (.invokevirtual 115, 3) by decide +kernel) (fun H locs hP hM hrr hS => ?_)
  refine W.lcmp hx hb (show decode code 971 = .ok (.lcmp, 1) by decide +kernel) ?_
  rw [nm_cmp hrr hrr, if_neg (by omega), if_pos rfl]
  refine lv_if_eq (tgt := 1633) hx hb (show decode code 972 = .ok (.ifCond .eq 661, 3) by decide +kernel) (by decide) (fun _ => ?_) (fun h => absurd rfl h)
  exact kk M2 H locs h3 hM hP hS
set_option maxRecDepth 100000 in
theorem lc_24 {p : Program} {l : Launch} {e : Env} {s : State} {m : MethodId} {below : List Frame} {meth : Method} {c : Code} {b L : Nat} {xs : Nat → Int32} {u : am_U} {Q : State → Prop} {H : Heap} {locs : List Loc} {i cells slots : Nat} {ls : Array Slot} {M : am_M} {RI : am_M → Prop} (C : lw_Cx p s m c b L xs u) (hl : lw_Ls u b i ls) (hi : i + 5 < L) (hS : va_S (lw_A s) s.heap H locs) (hP : va_P u.1 am_cl (am_wl u M) H) (hM : am_wf M) (hRI : RI M) (hcs : cells ≤ 600000) (hss : slots ≤ 7302250) (hpr : lw_Pr RI 26 125 [iV (xs (i + 1)).toInt])
    (kk : ∀ (M2 : am_M) (H2 : Heap) (locs2 : List Loc), RI M2 → am_wf M2 → va_P u.1 am_cl (am_wl u M2) H2 → va_S (lw_A s) s.heap H2 locs2 → W p l e room_1 s m #[Value.ref b] below meth c H2 locs2 cells slots Q (F0 m 1633 ls [])) : W p l e room_1 s m #[Value.ref b] below meth c H locs cells slots Q (F0 m 977 ls []) := by
  obtain ⟨r, M1, M2, h1, h2, h3⟩ := hpr M hRI hM
  have hx := C.1
  have hb := C.2.1
  refine lv_aload_n hx hb (show decode code 977 = .ok (.aload_n 1, 1) by decide +kernel) rfl (lv_at hl 2 rfl) ?_
  refine lw_ld (k := 1) C hl hS (by omega) (show decode code 978 = .ok (.aload_n 0, 1) by decide +kernel) (by decide +kernel) (by decide +kernel) (by decide +kernel) (by decide +kernel) ?_
  refine lw_c2 (y := 26) (a := 70) (as := [iV (xs (i + 1)).toInt]) (rest := []) C hl hS hP hM (am_hc (nm_ir _) (fun _ h => absurd h List.not_mem_nil)) h1 rfl clX11 my_26 rfl (am_w4 192 rfl rfl) is_26 se_26 rfl (by decide) (by decide) (by simp [am_rv, nm_iof]) (Nat.le_of_ble_eq_true rfl) hcs hss (show decode code 983 = .ok (.invokevirtual 116, 3) by decide +kernel) (fun H locs hP hM hrr hS => ?_)
  refine lv_aload_n hx hb (show decode code 986 = .ok (.aload_n 2, 1) by decide +kernel) rfl (lv_at hl 1 rfl) ?_
  refine lw_ld (k := 1) C hl hS (by omega) (show decode code 987 = .ok (.aload_n 0, 1) by decide +kernel) (by decide +kernel) (by decide +kernel) (by decide +kernel) (by decide +kernel) ?_
  refine lw_c2 (y := 125) (a := 72) (as := [iV (xs (i + 1)).toInt]) (rest := [.long (Int64.ofInt r)]) C hl hS hP hM (am_hc (nm_ir _) (fun _ h => absurd h List.not_mem_nil)) h2 rfl clX12 my_125 rfl (am_w7 141 rfl rfl) is_125 se_125 rfl (by decide) (by decide) (by simp [am_rv, nm_iof]) (Nat.le_of_ble_eq_true rfl) hcs hss (show decode code 992 = .ok (.invokevirtual 120, 3) by decide +kernel) (fun H locs hP hM hrr hS => ?_)
  refine W.lcmp hx hb (show decode code 995 = .ok (.lcmp, 1) by decide +kernel) ?_
  rw [nm_cmp hrr hrr, if_neg (by omega), if_pos rfl]
  refine lv_if_eq (tgt := 1633) hx hb (show decode code 996 = .ok (.ifCond .eq 637, 3) by decide +kernel) (by decide) (fun _ => ?_) (fun h => absurd rfl h)
  exact kk M2 H locs h3 hM hP hS
set_option maxRecDepth 100000 in
theorem lc_25 {p : Program} {l : Launch} {e : Env} {s : State} {m : MethodId} {below : List Frame} {meth : Method} {c : Code} {b L : Nat} {xs : Nat → Int32} {u : am_U} {Q : State → Prop} {H : Heap} {locs : List Loc} {i cells slots : Nat} {ls : Array Slot} {M : am_M} {RI : am_M → Prop} (C : lw_Cx p s m c b L xs u) (hl : lw_Ls u b i ls) (hi : i + 5 < L) (hS : va_S (lw_A s) s.heap H locs) (hP : va_P u.1 am_cl (am_wl u M) H) (hM : am_wf M) (hRI : RI M) (hcs : cells ≤ 600000) (hss : slots ≤ 7302250) (hpr : lw_Pr RI 27 127 [iV (xs (i + 1)).toInt, iV (xs (i + 2)).toInt])
    (kk : ∀ (M2 : am_M) (H2 : Heap) (locs2 : List Loc), RI M2 → am_wf M2 → va_P u.1 am_cl (am_wl u M2) H2 → va_S (lw_A s) s.heap H2 locs2 → W p l e room_1 s m #[Value.ref b] below meth c H2 locs2 cells slots Q (F0 m 1633 ls [])) : W p l e room_1 s m #[Value.ref b] below meth c H locs cells slots Q (F0 m 1001 ls []) := by
  obtain ⟨r, M1, M2, h1, h2, h3⟩ := hpr M hRI hM
  have hx := C.1
  have hb := C.2.1
  refine lv_aload_n hx hb (show decode code 1001 = .ok (.aload_n 1, 1) by decide +kernel) rfl (lv_at hl 2 rfl) ?_
  refine lw_ld (k := 1) C hl hS (by omega) (show decode code 1002 = .ok (.aload_n 0, 1) by decide +kernel) (by decide +kernel) (by decide +kernel) (by decide +kernel) (by decide +kernel) ?_
  refine lw_ld (k := 2) C hl hS (by omega) (show decode code 1007 = .ok (.aload_n 0, 1) by decide +kernel) (by decide +kernel) (by decide +kernel) (by decide +kernel) (by decide +kernel) ?_
  refine lw_c1 (y := 27) (a := 70) (as := [iV (xs (i + 1)).toInt, iV (xs (i + 2)).toInt]) (rest := []) C hl hS hP hM (am_hc (nm_ir _) (am_hc (nm_ir _) (fun _ h => absurd h List.not_mem_nil))) h1 rfl clX11 my_27 rfl (am_w4 201 rfl rfl) is_27 se_27 rfl (by decide) (by decide) (by simp [am_rv, nm_iof]) (Nat.le_of_ble_eq_true rfl) hcs hss (show decode code 1012 = .ok (.invokevirtual 121, 3) by decide +kernel) (fun H locs hP hM hrr hS => ?_)
  refine lv_aload_n hx hb (show decode code 1015 = .ok (.aload_n 2, 1) by decide +kernel) rfl (lv_at hl 1 rfl) ?_
  refine lw_ld (k := 1) C hl hS (by omega) (show decode code 1016 = .ok (.aload_n 0, 1) by decide +kernel) (by decide +kernel) (by decide +kernel) (by decide +kernel) (by decide +kernel) ?_
  refine lw_ld (k := 2) C hl hS (by omega) (show decode code 1021 = .ok (.aload_n 0, 1) by decide +kernel) (by decide +kernel) (by decide +kernel) (by decide +kernel) (by decide +kernel) ?_
  refine lw_c1 (y := 127) (a := 72) (as := [iV (xs (i + 1)).toInt, iV (xs (i + 2)).toInt]) (rest := [.int (Int32.ofInt r)]) C hl hS hP hM (am_hc (nm_ir _) (am_hc (nm_ir _) (fun _ h => absurd h List.not_mem_nil))) h2 rfl clX12 my_127 rfl (am_w7 149 rfl rfl) is_127 se_127 rfl (by decide) (by decide) (by simp [am_rv, nm_iof]) (Nat.le_of_ble_eq_true rfl) hcs hss (show decode code 1026 = .ok (.invokevirtual 124, 3) by decide +kernel) (fun H locs hP hM hrr hS => ?_)
  refine lv_icmp_eq (tgt := 1633) hx hb (show decode code 1029 = .ok (.if_icmp .eq 604, 3) by decide +kernel) (by decide) (fun _ => ?_) (fun h => absurd rfl h)
  exact kk M2 H locs h3 hM hP hS
set_option maxRecDepth 100000 in
theorem lc_26 {p : Program} {l : Launch} {e : Env} {s : State} {m : MethodId} {below : List Frame} {meth : Method} {c : Code} {b L : Nat} {xs : Nat → Int32} {u : am_U} {Q : State → Prop} {H : Heap} {locs : List Loc} {i cells slots : Nat} {ls : Array Slot} {M : am_M} {RI : am_M → Prop} (C : lw_Cx p s m c b L xs u) (hl : lw_Ls u b i ls) (hi : i + 5 < L) (hS : va_S (lw_A s) s.heap H locs) (hP : va_P u.1 am_cl (am_wl u M) H) (hM : am_wf M) (hRI : RI M) (hcs : cells ≤ 600000) (hss : slots ≤ 7302250) (hpr : lw_Pr RI 28 128 [iV (xs (i + 1)).toInt, iV (xs (i + 2)).toInt])
    (kk : ∀ (M2 : am_M) (H2 : Heap) (locs2 : List Loc), RI M2 → am_wf M2 → va_P u.1 am_cl (am_wl u M2) H2 → va_S (lw_A s) s.heap H2 locs2 → W p l e room_1 s m #[Value.ref b] below meth c H2 locs2 cells slots Q (F0 m 1633 ls [])) : W p l e room_1 s m #[Value.ref b] below meth c H locs cells slots Q (F0 m 1034 ls []) := by
  obtain ⟨r, M1, M2, h1, h2, h3⟩ := hpr M hRI hM
  have hx := C.1
  have hb := C.2.1
  refine lv_aload_n hx hb (show decode code 1034 = .ok (.aload_n 1, 1) by decide +kernel) rfl (lv_at hl 2 rfl) ?_
  refine lw_ld (k := 1) C hl hS (by omega) (show decode code 1035 = .ok (.aload_n 0, 1) by decide +kernel) (by decide +kernel) (by decide +kernel) (by decide +kernel) (by decide +kernel) ?_
  refine lw_ld (k := 2) C hl hS (by omega) (show decode code 1040 = .ok (.aload_n 0, 1) by decide +kernel) (by decide +kernel) (by decide +kernel) (by decide +kernel) (by decide +kernel) ?_
  refine lw_c1 (y := 28) (a := 70) (as := [iV (xs (i + 1)).toInt, iV (xs (i + 2)).toInt]) (rest := []) C hl hS hP hM (am_hc (nm_ir _) (am_hc (nm_ir _) (fun _ h => absurd h List.not_mem_nil))) h1 rfl clX11 my_28 rfl (am_w4 218 rfl rfl) is_28 se_28 rfl (by decide) (by decide) (by simp [am_rv, nm_iof]) (Nat.le_of_ble_eq_true rfl) hcs hss (show decode code 1045 = .ok (.invokevirtual 125, 3) by decide +kernel) (fun H locs hP hM hrr hS => ?_)
  refine lv_aload_n hx hb (show decode code 1048 = .ok (.aload_n 2, 1) by decide +kernel) rfl (lv_at hl 1 rfl) ?_
  refine lw_ld (k := 1) C hl hS (by omega) (show decode code 1049 = .ok (.aload_n 0, 1) by decide +kernel) (by decide +kernel) (by decide +kernel) (by decide +kernel) (by decide +kernel) ?_
  refine lw_ld (k := 2) C hl hS (by omega) (show decode code 1054 = .ok (.aload_n 0, 1) by decide +kernel) (by decide +kernel) (by decide +kernel) (by decide +kernel) (by decide +kernel) ?_
  refine lw_c1 (y := 128) (a := 72) (as := [iV (xs (i + 1)).toInt, iV (xs (i + 2)).toInt]) (rest := [.int (Int32.ofInt r)]) C hl hS hP hM (am_hc (nm_ir _) (am_hc (nm_ir _) (fun _ h => absurd h List.not_mem_nil))) h2 rfl clX12 my_128 rfl (am_w7 162 rfl rfl) is_128 se_128 rfl (by decide) (by decide) (by simp [am_rv, nm_iof]) (Nat.le_of_ble_eq_true rfl) hcs hss (show decode code 1059 = .ok (.invokevirtual 128, 3) by decide +kernel) (fun H locs hP hM hrr hS => ?_)
  refine lv_icmp_eq (tgt := 1633) hx hb (show decode code 1062 = .ok (.if_icmp .eq 571, 3) by decide +kernel) (by decide) (fun _ => ?_) (fun h => absurd rfl h)
  exact kk M2 H locs h3 hM hP hS
set_option maxRecDepth 100000 in
theorem lc_27 {p : Program} {l : Launch} {e : Env} {s : State} {m : MethodId} {below : List Frame} {meth : Method} {c : Code} {b L : Nat} {xs : Nat → Int32} {u : am_U} {Q : State → Prop} {H : Heap} {locs : List Loc} {i cells slots : Nat} {ls : Array Slot} {M : am_M} {RI : am_M → Prop} (C : lw_Cx p s m c b L xs u) (hl : lw_Ls u b i ls) (hi : i + 5 < L) (hS : va_S (lw_A s) s.heap H locs) (hP : va_P u.1 am_cl (am_wl u M) H) (hM : am_wf M) (hRI : RI M) (hcs : cells ≤ 600000) (hss : slots ≤ 7302250) (hpr : lw_Pr RI 29 130 [iV (xs (i + 1)).toInt, iV (xs (i + 2)).toInt])
    (kk : ∀ (M2 : am_M) (H2 : Heap) (locs2 : List Loc), RI M2 → am_wf M2 → va_P u.1 am_cl (am_wl u M2) H2 → va_S (lw_A s) s.heap H2 locs2 → W p l e room_1 s m #[Value.ref b] below meth c H2 locs2 cells slots Q (F0 m 1633 ls [])) : W p l e room_1 s m #[Value.ref b] below meth c H locs cells slots Q (F0 m 1067 ls []) := by
  obtain ⟨r, M1, M2, h1, h2, h3⟩ := hpr M hRI hM
  have hx := C.1
  have hb := C.2.1
  refine lv_aload_n hx hb (show decode code 1067 = .ok (.aload_n 1, 1) by decide +kernel) rfl (lv_at hl 2 rfl) ?_
  refine lw_ld (k := 1) C hl hS (by omega) (show decode code 1068 = .ok (.aload_n 0, 1) by decide +kernel) (by decide +kernel) (by decide +kernel) (by decide +kernel) (by decide +kernel) ?_
  refine lw_ld (k := 2) C hl hS (by omega) (show decode code 1073 = .ok (.aload_n 0, 1) by decide +kernel) (by decide +kernel) (by decide +kernel) (by decide +kernel) (by decide +kernel) ?_
  refine lw_c2 (y := 29) (a := 70) (as := [iV (xs (i + 1)).toInt, iV (xs (i + 2)).toInt]) (rest := []) C hl hS hP hM (am_hc (nm_ir _) (am_hc (nm_ir _) (fun _ h => absurd h List.not_mem_nil))) h1 rfl clX11 my_29 rfl (am_w4 232 rfl rfl) is_29 se_29 rfl (by decide) (by decide) (by simp [am_rv, nm_iof]) (Nat.le_of_ble_eq_true rfl) hcs hss (show decode code 1078 = .ok (.invokevirtual 129, 3) by decide +kernel) (fun H locs hP hM hrr hS => ?_)
  refine lv_aload_n hx hb (show decode code 1081 = .ok (.aload_n 2, 1) by decide +kernel) rfl (lv_at hl 1 rfl) ?_
  refine lw_ld (k := 1) C hl hS (by omega) (show decode code 1082 = .ok (.aload_n 0, 1) by decide +kernel) (by decide +kernel) (by decide +kernel) (by decide +kernel) (by decide +kernel) ?_
  refine lw_ld (k := 2) C hl hS (by omega) (show decode code 1087 = .ok (.aload_n 0, 1) by decide +kernel) (by decide +kernel) (by decide +kernel) (by decide +kernel) (by decide +kernel) ?_
  refine lw_c2 (y := 130) (a := 72) (as := [iV (xs (i + 1)).toInt, iV (xs (i + 2)).toInt]) (rest := [.long (Int64.ofInt r)]) C hl hS hP hM (am_hc (nm_ir _) (am_hc (nm_ir _) (fun _ h => absurd h List.not_mem_nil))) h2 rfl clX12 my_130 rfl (am_w7 166 rfl rfl) is_130 se_130 rfl (by decide) (by decide) (by simp [am_rv, nm_iof]) (Nat.le_of_ble_eq_true rfl) hcs hss (show decode code 1092 = .ok (.invokevirtual 132, 3) by decide +kernel) (fun H locs hP hM hrr hS => ?_)
  refine W.lcmp hx hb (show decode code 1095 = .ok (.lcmp, 1) by decide +kernel) ?_
  rw [nm_cmp hrr hrr, if_neg (by omega), if_pos rfl]
  refine lv_if_eq (tgt := 1633) hx hb (show decode code 1096 = .ok (.ifCond .eq 537, 3) by decide +kernel) (by decide) (fun _ => ?_) (fun h => absurd rfl h)
  exact kk M2 H locs h3 hM hP hS
set_option maxRecDepth 100000 in
theorem lc_28 {p : Program} {l : Launch} {e : Env} {s : State} {m : MethodId} {below : List Frame} {meth : Method} {c : Code} {b L : Nat} {xs : Nat → Int32} {u : am_U} {Q : State → Prop} {H : Heap} {locs : List Loc} {i cells slots : Nat} {ls : Array Slot} {M : am_M} {RI : am_M → Prop} (C : lw_Cx p s m c b L xs u) (hl : lw_Ls u b i ls) (hi : i + 5 < L) (hS : va_S (lw_A s) s.heap H locs) (hP : va_P u.1 am_cl (am_wl u M) H) (hM : am_wf M) (hRI : RI M) (hcs : cells ≤ 600000) (hss : slots ≤ 7302250) (hpr : lw_Pr RI 30 131 [iV (xs (i + 1)).toInt, iV (if (xs (i + 2)).toInt = 0 then 0 else 1)])
    (kk : ∀ (M2 : am_M) (H2 : Heap) (locs2 : List Loc), RI M2 → am_wf M2 → va_P u.1 am_cl (am_wl u M2) H2 → va_S (lw_A s) s.heap H2 locs2 → W p l e room_1 s m #[Value.ref b] below meth c H2 locs2 cells slots Q (F0 m 1633 ls [])) : W p l e room_1 s m #[Value.ref b] below meth c H locs cells slots Q (F0 m 1101 ls []) := by
  obtain ⟨r, M1, M2, h1, h2, h3⟩ := hpr M hRI hM
  have hx := C.1
  have hb := C.2.1
  refine lv_aload_n hx hb (show decode code 1101 = .ok (.aload_n 1, 1) by decide +kernel) rfl (lv_at hl 2 rfl) ?_
  refine lw_ld (k := 1) C hl hS (by omega) (show decode code 1102 = .ok (.aload_n 0, 1) by decide +kernel) (by decide +kernel) (by decide +kernel) (by decide +kernel) (by decide +kernel) ?_
  refine lw_ld (k := 2) C hl hS (by omega) (show decode code 1107 = .ok (.aload_n 0, 1) by decide +kernel) (by decide +kernel) (by decide +kernel) (by decide +kernel) (by decide +kernel) ?_
  refine lw_bo C (show decode code 1112 = .ok (.ifCond .eq 7, 3) by decide +kernel) (by decide +kernel) (by decide +kernel) (by decide +kernel) ?_
  refine lw_c1 (y := 30) (a := 70) (as := [iV (xs (i + 1)).toInt, iV (if (xs (i + 2)).toInt = 0 then 0 else 1)]) (rest := []) C hl hS hP hM (am_hc (nm_ir _) (am_hc (lw_br _) (fun _ h => absurd h List.not_mem_nil))) h1 rfl clX11 my_30 rfl (am_w5 0 rfl rfl) is_30 se_30 rfl (by decide) (by decide) (by simp [am_rv, nm_iof]) (Nat.le_of_ble_eq_true rfl) hcs hss (show decode code 1120 = .ok (.invokevirtual 133, 3) by decide +kernel) (fun H locs hP hM hrr hS => ?_)
  refine lv_aload_n hx hb (show decode code 1123 = .ok (.aload_n 2, 1) by decide +kernel) rfl (lv_at hl 1 rfl) ?_
  refine lw_ld (k := 1) C hl hS (by omega) (show decode code 1124 = .ok (.aload_n 0, 1) by decide +kernel) (by decide +kernel) (by decide +kernel) (by decide +kernel) (by decide +kernel) ?_
  refine lw_ld (k := 2) C hl hS (by omega) (show decode code 1129 = .ok (.aload_n 0, 1) by decide +kernel) (by decide +kernel) (by decide +kernel) (by decide +kernel) (by decide +kernel) ?_
  refine lw_bo C (show decode code 1134 = .ok (.ifCond .eq 7, 3) by decide +kernel) (by decide +kernel) (by decide +kernel) (by decide +kernel) ?_
  refine lw_c1 (y := 131) (a := 72) (as := [iV (xs (i + 1)).toInt, iV (if (xs (i + 2)).toInt = 0 then 0 else 1)]) (rest := [.int (Int32.ofInt r)]) C hl hS hP hM (am_hc (nm_ir _) (am_hc (lw_br _) (fun _ h => absurd h List.not_mem_nil))) h2 rfl clX12 my_131 rfl (am_w7 174 rfl rfl) is_131 se_131 rfl (by decide) (by decide) (by simp [am_rv, nm_iof]) (Nat.le_of_ble_eq_true rfl) hcs hss (show decode code 1142 = .ok (.invokevirtual 137, 3) by decide +kernel) (fun H locs hP hM hrr hS => ?_)
  refine lv_icmp_eq (tgt := 1633) hx hb (show decode code 1145 = .ok (.if_icmp .eq 488, 3) by decide +kernel) (by decide) (fun _ => ?_) (fun h => absurd rfl h)
  exact kk M2 H locs h3 hM hP hS
set_option maxRecDepth 100000 in
theorem lc_29 {p : Program} {l : Launch} {e : Env} {s : State} {m : MethodId} {below : List Frame} {meth : Method} {c : Code} {b L : Nat} {xs : Nat → Int32} {u : am_U} {Q : State → Prop} {H : Heap} {locs : List Loc} {i cells slots : Nat} {ls : Array Slot} {M : am_M} {RI : am_M → Prop} (C : lw_Cx p s m c b L xs u) (hl : lw_Ls u b i ls) (hi : i + 5 < L) (hS : va_S (lw_A s) s.heap H locs) (hP : va_P u.1 am_cl (am_wl u M) H) (hM : am_wf M) (hRI : RI M) (hcs : cells ≤ 600000) (hss : slots ≤ 7302250) (hpr : lw_Pr RI 31 133 [iV (xs (i + 1)).toInt, iV (xs (i + 2)).toInt])
    (kk : ∀ (M2 : am_M) (H2 : Heap) (locs2 : List Loc), RI M2 → am_wf M2 → va_P u.1 am_cl (am_wl u M2) H2 → va_S (lw_A s) s.heap H2 locs2 → W p l e room_1 s m #[Value.ref b] below meth c H2 locs2 cells slots Q (F0 m 1633 ls [])) : W p l e room_1 s m #[Value.ref b] below meth c H locs cells slots Q (F0 m 1150 ls []) := by
  obtain ⟨r, M1, M2, h1, h2, h3⟩ := hpr M hRI hM
  have hx := C.1
  have hb := C.2.1
  refine lv_aload_n hx hb (show decode code 1150 = .ok (.aload_n 1, 1) by decide +kernel) rfl (lv_at hl 2 rfl) ?_
  refine lw_ld (k := 1) C hl hS (by omega) (show decode code 1151 = .ok (.aload_n 0, 1) by decide +kernel) (by decide +kernel) (by decide +kernel) (by decide +kernel) (by decide +kernel) ?_
  refine lw_ld (k := 2) C hl hS (by omega) (show decode code 1156 = .ok (.aload_n 0, 1) by decide +kernel) (by decide +kernel) (by decide +kernel) (by decide +kernel) (by decide +kernel) ?_
  refine lw_c1 (y := 31) (a := 70) (as := [iV (xs (i + 1)).toInt, iV (xs (i + 2)).toInt]) (rest := []) C hl hS hP hM (am_hc (nm_ir _) (am_hc (nm_ir _) (fun _ h => absurd h List.not_mem_nil))) h1 rfl clX11 my_31 rfl (am_w5 4 rfl rfl) is_31 se_31 rfl (by decide) (by decide) (by simp [am_rv, nm_iof]) (Nat.le_of_ble_eq_true rfl) hcs hss (show decode code 1161 = .ok (.invokevirtual 138, 3) by decide +kernel) (fun H locs hP hM hrr hS => ?_)
  refine lv_aload_n hx hb (show decode code 1164 = .ok (.aload_n 2, 1) by decide +kernel) rfl (lv_at hl 1 rfl) ?_
  refine lw_ld (k := 1) C hl hS (by omega) (show decode code 1165 = .ok (.aload_n 0, 1) by decide +kernel) (by decide +kernel) (by decide +kernel) (by decide +kernel) (by decide +kernel) ?_
  refine lw_ld (k := 2) C hl hS (by omega) (show decode code 1170 = .ok (.aload_n 0, 1) by decide +kernel) (by decide +kernel) (by decide +kernel) (by decide +kernel) (by decide +kernel) ?_
  refine lw_c1 (y := 133) (a := 72) (as := [iV (xs (i + 1)).toInt, iV (xs (i + 2)).toInt]) (rest := [.int (Int32.ofInt r)]) C hl hS hP hM (am_hc (nm_ir _) (am_hc (nm_ir _) (fun _ h => absurd h List.not_mem_nil))) h2 rfl clX12 my_133 rfl (am_w7 178 rfl rfl) is_133 se_133 rfl (by decide) (by decide) (by simp [am_rv, nm_iof]) (Nat.le_of_ble_eq_true rfl) hcs hss (show decode code 1175 = .ok (.invokevirtual 141, 3) by decide +kernel) (fun H locs hP hM hrr hS => ?_)
  refine lv_icmp_eq (tgt := 1633) hx hb (show decode code 1178 = .ok (.if_icmp .eq 455, 3) by decide +kernel) (by decide) (fun _ => ?_) (fun h => absurd rfl h)
  exact kk M2 H locs h3 hM hP hS
