set_option maxRecDepth 100000 in
theorem lc_0 {p : Program} {l : Launch} {e : Env} {s : State} {m : MethodId} {below : List Frame} {meth : Method} {c : Code} {b L : Nat} {xs : Nat → Int32} {u : am_U} {Q : State → Prop} {H : Heap} {locs : List Loc} {i cells slots : Nat} {ls : Array Slot} {M : am_M} {RI : am_M → Prop} (C : lw_Cx p s m c b L xs u) (hl : lw_Ls u b i ls) (hi : i + 5 < L) (hS : va_S (lw_A s) s.heap H locs) (hP : va_P u.1 am_cl (am_wl u M) H) (hM : am_wf M) (hRI : RI M) (hcs : cells ≤ 600000) (hss : slots ≤ 7302250) (hpr : lw_Pr RI 0 56 [iV (xs (i + 1)).toInt, iV (xs (i + 2)).toInt, iV (xs (i + 3)).toInt, iV (xs (i + 4)).toInt, iV (xs (i + 5)).toInt])
    (kk : ∀ (M2 : am_M) (H2 : Heap) (locs2 : List Loc), RI M2 → am_wf M2 → va_P u.1 am_cl (am_wl u M2) H2 → va_S (lw_A s) s.heap H2 locs2 → W p l e room_1 s m #[Value.ref b] below meth c H2 locs2 cells slots Q (F0 m 1633 ls [])) : W p l e room_1 s m #[Value.ref b] below meth c H locs cells slots Q (F0 m 224 ls []) := by
  obtain ⟨r, M1, M2, h1, h2, h3⟩ := hpr M hRI hM
  have hx := C.1
  have hb := C.2.1
  refine lv_aload_n hx hb (show decode code 224 = .ok (.aload_n 1, 1) by decide +kernel) rfl (lv_at hl 2 rfl) ?_
  refine lw_ld (k := 1) C hl hS (by omega) (show decode code 225 = .ok (.aload_n 0, 1) by decide +kernel) (by decide +kernel) (by decide +kernel) (by decide +kernel) (by decide +kernel) ?_
  refine lw_ld (k := 2) C hl hS (by omega) (show decode code 230 = .ok (.aload_n 0, 1) by decide +kernel) (by decide +kernel) (by decide +kernel) (by decide +kernel) (by decide +kernel) ?_
  refine lw_ld (k := 3) C hl hS (by omega) (show decode code 235 = .ok (.aload_n 0, 1) by decide +kernel) (by decide +kernel) (by decide +kernel) (by decide +kernel) (by decide +kernel) ?_
  refine lw_ld (k := 4) C hl hS (by omega) (show decode code 240 = .ok (.aload_n 0, 1) by decide +kernel) (by decide +kernel) (by decide +kernel) (by decide +kernel) (by decide +kernel) ?_
  refine lw_ld (k := 5) C hl hS (by omega) (show decode code 245 = .ok (.aload_n 0, 1) by decide +kernel) (by decide +kernel) (by decide +kernel) (by decide +kernel) (by decide +kernel) ?_
  refine lw_c1 (y := 0) (a := 70) (as := [iV (xs (i + 1)).toInt, iV (xs (i + 2)).toInt, iV (xs (i + 3)).toInt, iV (xs (i + 4)).toInt, iV (xs (i + 5)).toInt]) (rest := []) C hl hS hP hM (am_hc (nm_ir _) (am_hc (nm_ir _) (am_hc (nm_ir _) (am_hc (nm_ir _) (am_hc (nm_ir _) (fun _ h => absurd h List.not_mem_nil)))))) h1 rfl clX11 my_0 rfl (am_w2 202 rfl rfl) is_0 se_0 rfl (by decide) (by decide) (by simp [am_rv, nm_iof]) (Nat.le_of_ble_eq_true rfl) hcs hss (show decode code 250 = .ok (.invokevirtual 13, 3) by decide +kernel) (fun H locs hP hM hrr hS => ?_)
  refine lv_aload_n hx hb (show decode code 253 = .ok (.aload_n 2, 1) by decide +kernel) rfl (lv_at hl 1 rfl) ?_
  refine lw_ld (k := 1) C hl hS (by omega) (show decode code 254 = .ok (.aload_n 0, 1) by decide +kernel) (by decide +kernel) (by decide +kernel) (by decide +kernel) (by decide +kernel) ?_
  refine lw_ld (k := 2) C hl hS (by omega) (show decode code 259 = .ok (.aload_n 0, 1) by decide +kernel) (by decide +kernel) (by decide +kernel) (by decide +kernel) (by decide +kernel) ?_
  refine lw_ld (k := 3) C hl hS (by omega) (show decode code 264 = .ok (.aload_n 0, 1) by decide +kernel) (by decide +kernel) (by decide +kernel) (by decide +kernel) (by decide +kernel) ?_
  refine lw_ld (k := 4) C hl hS (by omega) (show decode code 269 = .ok (.aload_n 0, 1) by decide +kernel) (by decide +kernel) (by decide +kernel) (by decide +kernel) (by decide +kernel) ?_
  refine lw_ld (k := 5) C hl hS (by omega) (show decode code 274 = .ok (.aload_n 0, 1) by decide +kernel) (by decide +kernel) (by decide +kernel) (by decide +kernel) (by decide +kernel) ?_
  refine lw_c1 (y := 56) (a := 72) (as := [iV (xs (i + 1)).toInt, iV (xs (i + 2)).toInt, iV (xs (i + 3)).toInt, iV (xs (i + 4)).toInt, iV (xs (i + 5)).toInt]) (rest := [.int (Int32.ofInt r)]) C hl hS hP hM (am_hc (nm_ir _) (am_hc (nm_ir _) (am_hc (nm_ir _) (am_hc (nm_ir _) (am_hc (nm_ir _) (fun _ h => absurd h List.not_mem_nil)))))) h2 rfl clX12 my_56 rfl (am_w6 93 rfl rfl) is_56 se_56 rfl (by decide) (by decide) (by simp [am_rv, nm_iof]) (Nat.le_of_ble_eq_true rfl) hcs hss (show decode code 279 = .ok (.invokevirtual 17, 3) by decide +kernel) (fun H locs hP hM hrr hS => ?_)
  refine lv_icmp_eq (tgt := 1633) hx hb (show decode code 282 = .ok (.if_icmp .eq 1351, 3) by decide +kernel) (by decide) (fun _ => ?_) (fun h => absurd rfl h)
  exact kk M2 H locs h3 hM hP hS
set_option maxRecDepth 100000 in
theorem lc_1 {p : Program} {l : Launch} {e : Env} {s : State} {m : MethodId} {below : List Frame} {meth : Method} {c : Code} {b L : Nat} {xs : Nat → Int32} {u : am_U} {Q : State → Prop} {H : Heap} {locs : List Loc} {i cells slots : Nat} {ls : Array Slot} {M : am_M} {RI : am_M → Prop} (C : lw_Cx p s m c b L xs u) (hl : lw_Ls u b i ls) (hi : i + 5 < L) (hS : va_S (lw_A s) s.heap H locs) (hP : va_P u.1 am_cl (am_wl u M) H) (hM : am_wf M) (hRI : RI M) (hcs : cells ≤ 600000) (hss : slots ≤ 7302250) (hpr : lw_Pr RI 1 76 [iV (xs (i + 1)).toInt])
    (kk : ∀ (M2 : am_M) (H2 : Heap) (locs2 : List Loc), RI M2 → am_wf M2 → va_P u.1 am_cl (am_wl u M2) H2 → va_S (lw_A s) s.heap H2 locs2 → W p l e room_1 s m #[Value.ref b] below meth c H2 locs2 cells slots Q (F0 m 1633 ls [])) : W p l e room_1 s m #[Value.ref b] below meth c H locs cells slots Q (F0 m 287 ls []) := by
  obtain ⟨r, M1, M2, h1, h2, h3⟩ := hpr M hRI hM
  have hx := C.1
  have hb := C.2.1
  refine lv_aload_n hx hb (show decode code 287 = .ok (.aload_n 1, 1) by decide +kernel) rfl (lv_at hl 2 rfl) ?_
  refine lw_ld (k := 1) C hl hS (by omega) (show decode code 288 = .ok (.aload_n 0, 1) by decide +kernel) (by decide +kernel) (by decide +kernel) (by decide +kernel) (by decide +kernel) ?_
  refine lw_c1 (y := 1) (a := 70) (as := [iV (xs (i + 1)).toInt]) (rest := []) C hl hS hP hM (am_hc (nm_ir _) (fun _ h => absurd h List.not_mem_nil)) h1 rfl clX11 my_1 rfl (am_w2 210 rfl rfl) is_1 se_1 rfl (by decide) (by decide) (by simp [am_rv, nm_iof]) (Nat.le_of_ble_eq_true rfl) hcs hss (show decode code 293 = .ok (.invokevirtual 18, 3) by decide +kernel) (fun H locs hP hM hrr hS => ?_)
  refine lv_aload_n hx hb (show decode code 296 = .ok (.aload_n 2, 1) by decide +kernel) rfl (lv_at hl 1 rfl) ?_
  refine lw_ld (k := 1) C hl hS (by omega) (show decode code 297 = .ok (.aload_n 0, 1) by decide +kernel) (by decide +kernel) (by decide +kernel) (by decide +kernel) (by decide +kernel) ?_
  refine lw_c1 (y := 76) (a := 72) (as := [iV (xs (i + 1)).toInt]) (rest := [.int (Int32.ofInt r)]) C hl hS hP hM (am_hc (nm_ir _) (fun _ h => absurd h List.not_mem_nil)) h2 rfl clX12 my_76 rfl (am_w6 97 rfl rfl) is_76 se_76 rfl (by decide) (by decide) (by simp [am_rv, nm_iof]) (Nat.le_of_ble_eq_true rfl) hcs hss (show decode code 302 = .ok (.invokevirtual 22, 3) by decide +kernel) (fun H locs hP hM hrr hS => ?_)
  refine lv_icmp_eq (tgt := 1633) hx hb (show decode code 305 = .ok (.if_icmp .eq 1328, 3) by decide +kernel) (by decide) (fun _ => ?_) (fun h => absurd rfl h)
  exact kk M2 H locs h3 hM hP hS
set_option maxRecDepth 100000 in
theorem lc_2 {p : Program} {l : Launch} {e : Env} {s : State} {m : MethodId} {below : List Frame} {meth : Method} {c : Code} {b L : Nat} {xs : Nat → Int32} {u : am_U} {Q : State → Prop} {H : Heap} {locs : List Loc} {i cells slots : Nat} {ls : Array Slot} {M : am_M} {RI : am_M → Prop} (C : lw_Cx p s m c b L xs u) (hl : lw_Ls u b i ls) (hi : i + 5 < L) (hS : va_S (lw_A s) s.heap H locs) (hP : va_P u.1 am_cl (am_wl u M) H) (hM : am_wf M) (hRI : RI M) (hcs : cells ≤ 600000) (hss : slots ≤ 7302250) (hpr : lw_Pr RI 2 77 [iV (xs (i + 1)).toInt])
    (kk : ∀ (M2 : am_M) (H2 : Heap) (locs2 : List Loc), RI M2 → am_wf M2 → va_P u.1 am_cl (am_wl u M2) H2 → va_S (lw_A s) s.heap H2 locs2 → W p l e room_1 s m #[Value.ref b] below meth c H2 locs2 cells slots Q (F0 m 1633 ls [])) : W p l e room_1 s m #[Value.ref b] below meth c H locs cells slots Q (F0 m 310 ls []) := by
  obtain ⟨r, M1, M2, h1, h2, h3⟩ := hpr M hRI hM
  have hx := C.1
  have hb := C.2.1
  refine lv_aload_n hx hb (show decode code 310 = .ok (.aload_n 1, 1) by decide +kernel) rfl (lv_at hl 2 rfl) ?_
  refine lw_ld (k := 1) C hl hS (by omega) (show decode code 311 = .ok (.aload_n 0, 1) by decide +kernel) (by decide +kernel) (by decide +kernel) (by decide +kernel) (by decide +kernel) ?_
  refine lw_c1 (y := 2) (a := 70) (as := [iV (xs (i + 1)).toInt]) (rest := []) C hl hS hP hM (am_hc (nm_ir _) (fun _ h => absurd h List.not_mem_nil)) h1 rfl clX11 my_2 rfl (am_w3 154 rfl rfl) is_2 se_2 rfl (by decide) (by decide) (by simp [am_rv, nm_iof]) (Nat.le_of_ble_eq_true rfl) hcs hss (show decode code 316 = .ok (.invokevirtual 23, 3) by decide +kernel) (fun H locs hP hM hrr hS => ?_)
  refine lv_aload_n hx hb (show decode code 319 = .ok (.aload_n 2, 1) by decide +kernel) rfl (lv_at hl 1 rfl) ?_
  refine lw_ld (k := 1) C hl hS (by omega) (show decode code 320 = .ok (.aload_n 0, 1) by decide +kernel) (by decide +kernel) (by decide +kernel) (by decide +kernel) (by decide +kernel) ?_
  refine lw_c1 (y := 77) (a := 72) (as := [iV (xs (i + 1)).toInt]) (rest := [.int (Int32.ofInt r)]) C hl hS hP hM (am_hc (nm_ir _) (fun _ h => absurd h List.not_mem_nil)) h2 rfl clX12 my_77 rfl (am_w6 183 rfl rfl) is_77 se_77 rfl (by decide) (by decide) (by simp [am_rv, nm_iof]) (Nat.le_of_ble_eq_true rfl) hcs hss (show decode code 325 = .ok (.invokevirtual 26, 3) by decide +kernel) (fun H locs hP hM hrr hS => ?_)
  refine lv_icmp_eq (tgt := 1633) hx hb (show decode code 328 = .ok (.if_icmp .eq 1305, 3) by decide +kernel) (by decide) (fun _ => ?_) (fun h => absurd rfl h)
  exact kk M2 H locs h3 hM hP hS
set_option maxRecDepth 100000 in
theorem lc_3 {p : Program} {l : Launch} {e : Env} {s : State} {m : MethodId} {below : List Frame} {meth : Method} {c : Code} {b L : Nat} {xs : Nat → Int32} {u : am_U} {Q : State → Prop} {H : Heap} {locs : List Loc} {i cells slots : Nat} {ls : Array Slot} {M : am_M} {RI : am_M → Prop} (C : lw_Cx p s m c b L xs u) (hl : lw_Ls u b i ls) (hi : i + 5 < L) (hS : va_S (lw_A s) s.heap H locs) (hP : va_P u.1 am_cl (am_wl u M) H) (hM : am_wf M) (hRI : RI M) (hcs : cells ≤ 600000) (hss : slots ≤ 7302250) (hpr : lw_Pr RI 3 83 [iV (xs (i + 1)).toInt, iV (xs (i + 2)).toInt])
    (kk : ∀ (M2 : am_M) (H2 : Heap) (locs2 : List Loc), RI M2 → am_wf M2 → va_P u.1 am_cl (am_wl u M2) H2 → va_S (lw_A s) s.heap H2 locs2 → W p l e room_1 s m #[Value.ref b] below meth c H2 locs2 cells slots Q (F0 m 1633 ls [])) : W p l e room_1 s m #[Value.ref b] below meth c H locs cells slots Q (F0 m 333 ls []) := by
  obtain ⟨r, M1, M2, h1, h2, h3⟩ := hpr M hRI hM
  have hx := C.1
  have hb := C.2.1
  refine lv_aload_n hx hb (show decode code 333 = .ok (.aload_n 1, 1) by decide +kernel) rfl (lv_at hl 2 rfl) ?_
  refine lw_ld (k := 1) C hl hS (by omega) (show decode code 334 = .ok (.aload_n 0, 1) by decide +kernel) (by decide +kernel) (by decide +kernel) (by decide +kernel) (by decide +kernel) ?_
  refine lw_ld (k := 2) C hl hS (by omega) (show decode code 339 = .ok (.aload_n 0, 1) by decide +kernel) (by decide +kernel) (by decide +kernel) (by decide +kernel) (by decide +kernel) ?_
  refine lw_c1 (y := 3) (a := 70) (as := [iV (xs (i + 1)).toInt, iV (xs (i + 2)).toInt]) (rest := []) C hl hS hP hM (am_hc (nm_ir _) (am_hc (nm_ir _) (fun _ h => absurd h List.not_mem_nil))) h1 rfl clX11 my_3 rfl (am_w3 158 rfl rfl) is_3 se_3 rfl (by decide) (by decide) (by simp [am_rv, nm_iof]) (Nat.le_of_ble_eq_true rfl) hcs hss (show decode code 344 = .ok (.invokevirtual 27, 3) by decide +kernel) (fun H locs hP hM hrr hS => ?_)
  refine lv_aload_n hx hb (show decode code 347 = .ok (.aload_n 2, 1) by decide +kernel) rfl (lv_at hl 1 rfl) ?_
  refine lw_ld (k := 1) C hl hS (by omega) (show decode code 348 = .ok (.aload_n 0, 1) by decide +kernel) (by decide +kernel) (by decide +kernel) (by decide +kernel) (by decide +kernel) ?_
  refine lw_ld (k := 2) C hl hS (by omega) (show decode code 353 = .ok (.aload_n 0, 1) by decide +kernel) (by decide +kernel) (by decide +kernel) (by decide +kernel) (by decide +kernel) ?_
  refine lw_c1 (y := 83) (a := 72) (as := [iV (xs (i + 1)).toInt, iV (xs (i + 2)).toInt]) (rest := [.int (Int32.ofInt r)]) C hl hS hP hM (am_hc (nm_ir _) (am_hc (nm_ir _) (fun _ h => absurd h List.not_mem_nil))) h2 rfl clX12 my_83 rfl (am_w6 187 rfl rfl) is_83 se_83 rfl (by decide) (by decide) (by simp [am_rv, nm_iof]) (Nat.le_of_ble_eq_true rfl) hcs hss (show decode code 358 = .ok (.invokevirtual 31, 3) by decide +kernel) (fun H locs hP hM hrr hS => ?_)
  refine lv_icmp_eq (tgt := 1633) hx hb (show decode code 361 = .ok (.if_icmp .eq 1272, 3) by decide +kernel) (by decide) (fun _ => ?_) (fun h => absurd rfl h)
  exact kk M2 H locs h3 hM hP hS
set_option maxRecDepth 100000 in
theorem lc_4 {p : Program} {l : Launch} {e : Env} {s : State} {m : MethodId} {below : List Frame} {meth : Method} {c : Code} {b L : Nat} {xs : Nat → Int32} {u : am_U} {Q : State → Prop} {H : Heap} {locs : List Loc} {i cells slots : Nat} {ls : Array Slot} {M : am_M} {RI : am_M → Prop} (C : lw_Cx p s m c b L xs u) (hl : lw_Ls u b i ls) (hi : i + 5 < L) (hS : va_S (lw_A s) s.heap H locs) (hP : va_P u.1 am_cl (am_wl u M) H) (hM : am_wf M) (hRI : RI M) (hcs : cells ≤ 600000) (hss : slots ≤ 7302250) (hpr : lw_Pr RI 4 86 [iV (xs (i + 1)).toInt, iV (xs (i + 2)).toInt, iV (xs (i + 3)).toInt])
    (kk : ∀ (M2 : am_M) (H2 : Heap) (locs2 : List Loc), RI M2 → am_wf M2 → va_P u.1 am_cl (am_wl u M2) H2 → va_S (lw_A s) s.heap H2 locs2 → W p l e room_1 s m #[Value.ref b] below meth c H2 locs2 cells slots Q (F0 m 1633 ls [])) : W p l e room_1 s m #[Value.ref b] below meth c H locs cells slots Q (F0 m 366 ls []) := by
  obtain ⟨r, M1, M2, h1, h2, h3⟩ := hpr M hRI hM
  have hx := C.1
  have hb := C.2.1
  refine lv_aload_n hx hb (show decode code 366 = .ok (.aload_n 1, 1) by decide +kernel) rfl (lv_at hl 2 rfl) ?_
  refine lw_ld (k := 1) C hl hS (by omega) (show decode code 367 = .ok (.aload_n 0, 1) by decide +kernel) (by decide +kernel) (by decide +kernel) (by decide +kernel) (by decide +kernel) ?_
  refine lw_ld (k := 2) C hl hS (by omega) (show decode code 372 = .ok (.aload_n 0, 1) by decide +kernel) (by decide +kernel) (by decide +kernel) (by decide +kernel) (by decide +kernel) ?_
  refine lw_ld (k := 3) C hl hS (by omega) (show decode code 377 = .ok (.aload_n 0, 1) by decide +kernel) (by decide +kernel) (by decide +kernel) (by decide +kernel) (by decide +kernel) ?_
  refine lw_c1 (y := 4) (a := 70) (as := [iV (xs (i + 1)).toInt, iV (xs (i + 2)).toInt, iV (xs (i + 3)).toInt]) (rest := []) C hl hS hP hM (am_hc (nm_ir _) (am_hc (nm_ir _) (am_hc (nm_ir _) (fun _ h => absurd h List.not_mem_nil)))) h1 rfl clX11 my_4 rfl (am_w3 180 rfl rfl) is_4 se_4 rfl (by decide) (by decide) (by simp [am_rv, nm_iof]) (Nat.le_of_ble_eq_true rfl) hcs hss (show decode code 382 = .ok (.invokevirtual 32, 3) by decide +kernel) (fun H locs hP hM hrr hS => ?_)
  refine lv_aload_n hx hb (show decode code 385 = .ok (.aload_n 2, 1) by decide +kernel) rfl (lv_at hl 1 rfl) ?_
  refine lw_ld (k := 1) C hl hS (by omega) (show decode code 386 = .ok (.aload_n 0, 1) by decide +kernel) (by decide +kernel) (by decide +kernel) (by decide +kernel) (by decide +kernel) ?_
  refine lw_ld (k := 2) C hl hS (by omega) (show decode code 391 = .ok (.aload_n 0, 1) by decide +kernel) (by decide +kernel) (by decide +kernel) (by decide +kernel) (by decide +kernel) ?_
  refine lw_ld (k := 3) C hl hS (by omega) (show decode code 396 = .ok (.aload_n 0, 1) by decide +kernel) (by decide +kernel) (by decide +kernel) (by decide +kernel) (by decide +kernel) ?_
  refine lw_c1 (y := 86) (a := 72) (as := [iV (xs (i + 1)).toInt, iV (xs (i + 2)).toInt, iV (xs (i + 3)).toInt]) (rest := [.int (Int32.ofInt r)]) C hl hS hP hM (am_hc (nm_ir _) (am_hc (nm_ir _) (am_hc (nm_ir _) (fun _ h => absurd h List.not_mem_nil)))) h2 rfl clX12 my_86 rfl (am_w6 203 rfl rfl) is_86 se_86 rfl (by decide) (by decide) (by simp [am_rv, nm_iof]) (Nat.le_of_ble_eq_true rfl) hcs hss (show decode code 401 = .ok (.invokevirtual 36, 3) by decide +kernel) (fun H locs hP hM hrr hS => ?_)
  refine lv_icmp_eq (tgt := 1633) hx hb (show decode code 404 = .ok (.if_icmp .eq 1229, 3) by decide +kernel) (by decide) (fun _ => ?_) (fun h => absurd rfl h)
  exact kk M2 H locs h3 hM hP hS
set_option maxRecDepth 100000 in
theorem lc_5 {p : Program} {l : Launch} {e : Env} {s : State} {m : MethodId} {below : List Frame} {meth : Method} {c : Code} {b L : Nat} {xs : Nat → Int32} {u : am_U} {Q : State → Prop} {H : Heap} {locs : List Loc} {i cells slots : Nat} {ls : Array Slot} {M : am_M} {RI : am_M → Prop} (C : lw_Cx p s m c b L xs u) (hl : lw_Ls u b i ls) (hi : i + 5 < L) (hS : va_S (lw_A s) s.heap H locs) (hP : va_P u.1 am_cl (am_wl u M) H) (hM : am_wf M) (hRI : RI M) (hcs : cells ≤ 600000) (hss : slots ≤ 7302250) (hpr : lw_Pr RI 5 87 [iV (xs (i + 1)).toInt, iV (xs (i + 2)).toInt, iV (xs (i + 3)).toInt, iV (xs (i + 4)).toInt])
    (kk : ∀ (M2 : am_M) (H2 : Heap) (locs2 : List Loc), RI M2 → am_wf M2 → va_P u.1 am_cl (am_wl u M2) H2 → va_S (lw_A s) s.heap H2 locs2 → W p l e room_1 s m #[Value.ref b] below meth c H2 locs2 cells slots Q (F0 m 1633 ls [])) : W p l e room_1 s m #[Value.ref b] below meth c H locs cells slots Q (F0 m 409 ls []) := by
  obtain ⟨r, M1, M2, h1, h2, h3⟩ := hpr M hRI hM
  have hx := C.1
  have hb := C.2.1
  refine lv_aload_n hx hb (show decode code 409 = .ok (.aload_n 1, 1) by decide +kernel) rfl (lv_at hl 2 rfl) ?_
  refine lw_ld (k := 1) C hl hS (by omega) (show decode code 410 = .ok (.aload_n 0, 1) by decide +kernel) (by decide +kernel) (by decide +kernel) (by decide +kernel) (by decide +kernel) ?_
  refine lw_ld (k := 2) C hl hS (by omega) (show decode code 415 = .ok (.aload_n 0, 1) by decide +kernel) (by decide +kernel) (by decide +kernel) (by decide +kernel) (by decide +kernel) ?_
  refine lw_ld (k := 3) C hl hS (by omega) (show decode code 420 = .ok (.aload_n 0, 1) by decide +kernel) (by decide +kernel) (by decide +kernel) (by decide +kernel) (by decide +kernel) ?_
  refine lw_ld (k := 4) C hl hS (by omega) (show decode code 425 = .ok (.aload_n 0, 1) by decide +kernel) (by decide +kernel) (by decide +kernel) (by decide +kernel) (by decide +kernel) ?_
  refine lw_c1 (y := 5) (a := 70) (as := [iV (xs (i + 1)).toInt, iV (xs (i + 2)).toInt, iV (xs (i + 3)).toInt, iV (xs (i + 4)).toInt]) (rest := []) C hl hS hP hM (am_hc (nm_ir _) (am_hc (nm_ir _) (am_hc (nm_ir _) (am_hc (nm_ir _) (fun _ h => absurd h List.not_mem_nil))))) h1 rfl clX11 my_5 rfl (am_w3 194 rfl rfl) is_5 se_5 rfl (by decide) (by decide) (by simp [am_rv, nm_iof]) (Nat.le_of_ble_eq_true rfl) hcs hss (show decode code 430 = .ok (.invokevirtual 37, 3) by decide +kernel) (fun H locs hP hM hrr hS => ?_)
  refine lv_aload_n hx hb (show decode code 433 = .ok (.aload_n 2, 1) by decide +kernel) rfl (lv_at hl 1 rfl) ?_
  refine lw_ld (k := 1) C hl hS (by omega) (show decode code 434 = .ok (.aload_n 0, 1) by decide +kernel) (by decide +kernel) (by decide +kernel) (by decide +kernel) (by decide +kernel) ?_
  refine lw_ld (k := 2) C hl hS (by omega) (show decode code 439 = .ok (.aload_n 0, 1) by decide +kernel) (by decide +kernel) (by decide +kernel) (by decide +kernel) (by decide +kernel) ?_
  refine lw_ld (k := 3) C hl hS (by omega) (show decode code 444 = .ok (.aload_n 0, 1) by decide +kernel) (by decide +kernel) (by decide +kernel) (by decide +kernel) (by decide +kernel) ?_
  refine lw_ld (k := 4) C hl hS (by omega) (show decode code 449 = .ok (.aload_n 0, 1) by decide +kernel) (by decide +kernel) (by decide +kernel) (by decide +kernel) (by decide +kernel) ?_
  refine lw_c1 (y := 87) (a := 72) (as := [iV (xs (i + 1)).toInt, iV (xs (i + 2)).toInt, iV (xs (i + 3)).toInt, iV (xs (i + 4)).toInt]) (rest := [.int (Int32.ofInt r)]) C hl hS hP hM (am_hc (nm_ir _) (am_hc (nm_ir _) (am_hc (nm_ir _) (am_hc (nm_ir _) (fun _ h => absurd h List.not_mem_nil))))) h2 rfl clX12 my_87 rfl (am_w6 219 rfl rfl) is_87 se_87 rfl (by decide) (by decide) (by simp [am_rv, nm_iof]) (Nat.le_of_ble_eq_true rfl) hcs hss (show decode code 454 = .ok (.invokevirtual 41, 3) by decide +kernel) (fun H locs hP hM hrr hS => ?_)
  refine lv_icmp_eq (tgt := 1633) hx hb (show decode code 457 = .ok (.if_icmp .eq 1176, 3) by decide +kernel) (by decide) (fun _ => ?_) (fun h => absurd rfl h)
  exact kk M2 H locs h3 hM hP hS
set_option maxRecDepth 100000 in
theorem lc_6 {p : Program} {l : Launch} {e : Env} {s : State} {m : MethodId} {below : List Frame} {meth : Method} {c : Code} {b L : Nat} {xs : Nat → Int32} {u : am_U} {Q : State → Prop} {H : Heap} {locs : List Loc} {i cells slots : Nat} {ls : Array Slot} {M : am_M} {RI : am_M → Prop} (C : lw_Cx p s m c b L xs u) (hl : lw_Ls u b i ls) (hi : i + 5 < L) (hS : va_S (lw_A s) s.heap H locs) (hP : va_P u.1 am_cl (am_wl u M) H) (hM : am_wf M) (hRI : RI M) (hcs : cells ≤ 600000) (hss : slots ≤ 7302250) (hpr : lw_Pr RI 6 88 [iV (xs (i + 1)).toInt, iV (xs (i + 2)).toInt, iV (xs (i + 3)).toInt])
    (kk : ∀ (M2 : am_M) (H2 : Heap) (locs2 : List Loc), RI M2 → am_wf M2 → va_P u.1 am_cl (am_wl u M2) H2 → va_S (lw_A s) s.heap H2 locs2 → W p l e room_1 s m #[Value.ref b] below meth c H2 locs2 cells slots Q (F0 m 1633 ls [])) : W p l e room_1 s m #[Value.ref b] below meth c H locs cells slots Q (F0 m 462 ls []) := by
  obtain ⟨r, M1, M2, h1, h2, h3⟩ := hpr M hRI hM
  have hx := C.1
  have hb := C.2.1
  refine lv_aload_n hx hb (show decode code 462 = .ok (.aload_n 1, 1) by decide +kernel) rfl (lv_at hl 2 rfl) ?_
  refine lw_ld (k := 1) C hl hS (by omega) (show decode code 463 = .ok (.aload_n 0, 1) by decide +kernel) (by decide +kernel) (by decide +kernel) (by decide +kernel) (by decide +kernel) ?_
  refine lw_ld (k := 2) C hl hS (by omega) (show decode code 468 = .ok (.aload_n 0, 1) by decide +kernel) (by decide +kernel) (by decide +kernel) (by decide +kernel) (by decide +kernel) ?_
  refine lw_ld (k := 3) C hl hS (by omega) (show decode code 473 = .ok (.aload_n 0, 1) by decide +kernel) (by decide +kernel) (by decide +kernel) (by decide +kernel) (by decide +kernel) ?_
  refine lw_c1 (y := 6) (a := 70) (as := [iV (xs (i + 1)).toInt, iV (xs (i + 2)).toInt, iV (xs (i + 3)).toInt]) (rest := []) C hl hS hP hM (am_hc (nm_ir _) (am_hc (nm_ir _) (am_hc (nm_ir _) (fun _ h => absurd h List.not_mem_nil)))) h1 rfl clX11 my_6 rfl (am_w3 198 rfl rfl) is_6 se_6 rfl (by decide) (by decide) (by simp [am_rv, nm_iof]) (Nat.le_of_ble_eq_true rfl) hcs hss (show decode code 478 = .ok (.invokevirtual 42, 3) by decide +kernel) (fun H locs hP hM hrr hS => ?_)
  refine lv_aload_n hx hb (show decode code 481 = .ok (.aload_n 2, 1) by decide +kernel) rfl (lv_at hl 1 rfl) ?_
  refine lw_ld (k := 1) C hl hS (by omega) (show decode code 482 = .ok (.aload_n 0, 1) by decide +kernel) (by decide +kernel) (by decide +kernel) (by decide +kernel) (by decide +kernel) ?_
  refine lw_ld (k := 2) C hl hS (by omega) (show decode code 487 = .ok (.aload_n 0, 1) by decide +kernel) (by decide +kernel) (by decide +kernel) (by decide +kernel) (by decide +kernel) ?_
  refine lw_ld (k := 3) C hl hS (by omega) (show decode code 492 = .ok (.aload_n 0, 1) by decide +kernel) (by decide +kernel) (by decide +kernel) (by decide +kernel) (by decide +kernel) ?_
  refine lw_c1 (y := 88) (a := 72) (as := [iV (xs (i + 1)).toInt, iV (xs (i + 2)).toInt, iV (xs (i + 3)).toInt]) (rest := [.int (Int32.ofInt r)]) C hl hS hP hM (am_hc (nm_ir _) (am_hc (nm_ir _) (am_hc (nm_ir _) (fun _ h => absurd h List.not_mem_nil)))) h2 rfl clX12 my_88 rfl (am_w6 224 rfl rfl) is_88 se_88 rfl (by decide) (by decide) (by simp [am_rv, nm_iof]) (Nat.le_of_ble_eq_true rfl) hcs hss (show decode code 497 = .ok (.invokevirtual 45, 3) by decide +kernel) (fun H locs hP hM hrr hS => ?_)
  refine lv_icmp_eq (tgt := 1633) hx hb (show decode code 500 = .ok (.if_icmp .eq 1133, 3) by decide +kernel) (by decide) (fun _ => ?_) (fun h => absurd rfl h)
  exact kk M2 H locs h3 hM hP hS
set_option maxRecDepth 100000 in
theorem lc_7 {p : Program} {l : Launch} {e : Env} {s : State} {m : MethodId} {below : List Frame} {meth : Method} {c : Code} {b L : Nat} {xs : Nat → Int32} {u : am_U} {Q : State → Prop} {H : Heap} {locs : List Loc} {i cells slots : Nat} {ls : Array Slot} {M : am_M} {RI : am_M → Prop} (C : lw_Cx p s m c b L xs u) (hl : lw_Ls u b i ls) (hi : i + 5 < L) (hS : va_S (lw_A s) s.heap H locs) (hP : va_P u.1 am_cl (am_wl u M) H) (hM : am_wf M) (hRI : RI M) (hcs : cells ≤ 600000) (hss : slots ≤ 7302250) (hpr : lw_Pr RI 7 90 [iV (xs (i + 1)).toInt])
    (kk : ∀ (M2 : am_M) (H2 : Heap) (locs2 : List Loc), RI M2 → am_wf M2 → va_P u.1 am_cl (am_wl u M2) H2 → va_S (lw_A s) s.heap H2 locs2 → W p l e room_1 s m #[Value.ref b] below meth c H2 locs2 cells slots Q (F0 m 1633 ls [])) : W p l e room_1 s m #[Value.ref b] below meth c H locs cells slots Q (F0 m 505 ls []) := by
  obtain ⟨r, M1, M2, h1, h2, h3⟩ := hpr M hRI hM
  have hx := C.1
  have hb := C.2.1
  refine lv_aload_n hx hb (show decode code 505 = .ok (.aload_n 1, 1) by decide +kernel) rfl (lv_at hl 2 rfl) ?_
  refine lw_ld (k := 1) C hl hS (by omega) (show decode code 506 = .ok (.aload_n 0, 1) by decide +kernel) (by decide +kernel) (by decide +kernel) (by decide +kernel) (by decide +kernel) ?_
  refine lw_c1 (y := 7) (a := 70) (as := [iV (xs (i + 1)).toInt]) (rest := []) C hl hS hP hM (am_hc (nm_ir _) (fun _ h => absurd h List.not_mem_nil)) h1 rfl clX11 my_7 rfl (am_w3 202 rfl rfl) is_7 se_7 rfl (by decide) (by decide) (by simp [am_rv, nm_iof]) (Nat.le_of_ble_eq_true rfl) hcs hss (show decode code 511 = .ok (.invokevirtual 46, 3) by decide +kernel) (fun H locs hP hM hrr hS => ?_)
  refine lv_aload_n hx hb (show decode code 514 = .ok (.aload_n 2, 1) by decide +kernel) rfl (lv_at hl 1 rfl) ?_
  refine lw_ld (k := 1) C hl hS (by omega) (show decode code 515 = .ok (.aload_n 0, 1) by decide +kernel) (by decide +kernel) (by decide +kernel) (by decide +kernel) (by decide +kernel) ?_
  refine lw_c1 (y := 90) (a := 72) (as := [iV (xs (i + 1)).toInt]) (rest := [.int (Int32.ofInt r)]) C hl hS hP hM (am_hc (nm_ir _) (fun _ h => absurd h List.not_mem_nil)) h2 rfl clX12 my_90 rfl (am_w6 230 rfl rfl) is_90 se_90 rfl (by decide) (by decide) (by simp [am_rv, nm_iof]) (Nat.le_of_ble_eq_true rfl) hcs hss (show decode code 520 = .ok (.invokevirtual 49, 3) by decide +kernel) (fun H locs hP hM hrr hS => ?_)
  refine lv_icmp_eq (tgt := 1633) hx hb (show decode code 523 = .ok (.if_icmp .eq 1110, 3) by decide +kernel) (by decide) (fun _ => ?_) (fun h => absurd rfl h)
  exact kk M2 H locs h3 hM hP hS
set_option maxRecDepth 100000 in
theorem lc_8 {p : Program} {l : Launch} {e : Env} {s : State} {m : MethodId} {below : List Frame} {meth : Method} {c : Code} {b L : Nat} {xs : Nat → Int32} {u : am_U} {Q : State → Prop} {H : Heap} {locs : List Loc} {i cells slots : Nat} {ls : Array Slot} {M : am_M} {RI : am_M → Prop} (C : lw_Cx p s m c b L xs u) (hl : lw_Ls u b i ls) (hi : i + 5 < L) (hS : va_S (lw_A s) s.heap H locs) (hP : va_P u.1 am_cl (am_wl u M) H) (hM : am_wf M) (hRI : RI M) (hcs : cells ≤ 600000) (hss : slots ≤ 7302250) (hpr : lw_Pr RI 8 91 [iV (xs (i + 1)).toInt])
    (kk : ∀ (M2 : am_M) (H2 : Heap) (locs2 : List Loc), RI M2 → am_wf M2 → va_P u.1 am_cl (am_wl u M2) H2 → va_S (lw_A s) s.heap H2 locs2 → W p l e room_1 s m #[Value.ref b] below meth c H2 locs2 cells slots Q (F0 m 1633 ls [])) : W p l e room_1 s m #[Value.ref b] below meth c H locs cells slots Q (F0 m 528 ls []) := by
  obtain ⟨r, M1, M2, h1, h2, h3⟩ := hpr M hRI hM
  have hx := C.1
  have hb := C.2.1
  refine lv_aload_n hx hb (show decode code 528 = .ok (.aload_n 1, 1) by decide +kernel) rfl (lv_at hl 2 rfl) ?_
  refine lw_ld (k := 1) C hl hS (by omega) (show decode code 529 = .ok (.aload_n 0, 1) by decide +kernel) (by decide +kernel) (by decide +kernel) (by decide +kernel) (by decide +kernel) ?_
  refine lw_c1 (y := 8) (a := 70) (as := [iV (xs (i + 1)).toInt]) (rest := []) C hl hS hP hM (am_hc (nm_ir _) (fun _ h => absurd h List.not_mem_nil)) h1 rfl clX11 my_8 rfl (am_w3 210 rfl rfl) is_8 se_8 rfl (by decide) (by decide) (by simp [am_rv, nm_iof]) (Nat.le_of_ble_eq_true rfl) hcs hss (show decode code 534 = .ok (.invokevirtual 50, 3) by decide +kernel) (fun H locs hP hM hrr hS => ?_)
  refine lv_aload_n hx hb (show decode code 537 = .ok (.aload_n 2, 1) by decide +kernel) rfl (lv_at hl 1 rfl) ?_
  refine lw_ld (k := 1) C hl hS (by omega) (show decode code 538 = .ok (.aload_n 0, 1) by decide +kernel) (by decide +kernel) (by decide +kernel) (by decide +kernel) (by decide +kernel) ?_
  refine lw_c1 (y := 91) (a := 72) (as := [iV (xs (i + 1)).toInt]) (rest := [.int (Int32.ofInt r)]) C hl hS hP hM (am_hc (nm_ir _) (fun _ h => absurd h List.not_mem_nil)) h2 rfl clX12 my_91 rfl (am_w7 2 rfl rfl) is_91 se_91 rfl (by decide) (by decide) (by simp [am_rv, nm_iof]) (Nat.le_of_ble_eq_true rfl) hcs hss (show decode code 543 = .ok (.invokevirtual 53, 3) by decide +kernel) (fun H locs hP hM hrr hS => ?_)
  refine lv_icmp_eq (tgt := 1633) hx hb (show decode code 546 = .ok (.if_icmp .eq 1087, 3) by decide +kernel) (by decide) (fun _ => ?_) (fun h => absurd rfl h)
  exact kk M2 H locs h3 hM hP hS
set_option maxRecDepth 100000 in
theorem lc_9 {p : Program} {l : Launch} {e : Env} {s : State} {m : MethodId} {below : List Frame} {meth : Method} {c : Code} {b L : Nat} {xs : Nat → Int32} {u : am_U} {Q : State → Prop} {H : Heap} {locs : List Loc} {i cells slots : Nat} {ls : Array Slot} {M : am_M} {RI : am_M → Prop} (C : lw_Cx p s m c b L xs u) (hl : lw_Ls u b i ls) (hi : i + 5 < L) (hS : va_S (lw_A s) s.heap H locs) (hP : va_P u.1 am_cl (am_wl u M) H) (hM : am_wf M) (hRI : RI M) (hcs : cells ≤ 600000) (hss : slots ≤ 7302250) (hpr : lw_Pr RI 9 92 [iV (xs (i + 1)).toInt, iV (xs (i + 2)).toInt])
    (kk : ∀ (M2 : am_M) (H2 : Heap) (locs2 : List Loc), RI M2 → am_wf M2 → va_P u.1 am_cl (am_wl u M2) H2 → va_S (lw_A s) s.heap H2 locs2 → W p l e room_1 s m #[Value.ref b] below meth c H2 locs2 cells slots Q (F0 m 1633 ls [])) : W p l e room_1 s m #[Value.ref b] below meth c H locs cells slots Q (F0 m 551 ls []) := by
  obtain ⟨r, M1, M2, h1, h2, h3⟩ := hpr M hRI hM
  have hx := C.1
  have hb := C.2.1
  refine lv_aload_n hx hb (show decode code 551 = .ok (.aload_n 1, 1) by decide +kernel) rfl (lv_at hl 2 rfl) ?_
  refine lw_ld (k := 1) C hl hS (by omega) (show decode code 552 = .ok (.aload_n 0, 1) by decide +kernel) (by decide +kernel) (by decide +kernel) (by decide +kernel) (by decide +kernel) ?_
  refine lw_ld (k := 2) C hl hS (by omega) (show decode code 557 = .ok (.aload_n 0, 1) by decide +kernel) (by decide +kernel) (by decide +kernel) (by decide +kernel) (by decide +kernel) ?_
  refine lw_c1 (y := 9) (a := 70) (as := [iV (xs (i + 1)).toInt, iV (xs (i + 2)).toInt]) (rest := []) C hl hS hP hM (am_hc (nm_ir _) (am_hc (nm_ir _) (fun _ h => absurd h List.not_mem_nil))) h1 rfl clX11 my_9 rfl (am_w3 218 rfl rfl) is_9 se_9 rfl (by decide) (by decide) (by simp [am_rv, nm_iof]) (Nat.le_of_ble_eq_true rfl) hcs hss (show decode code 562 = .ok (.invokevirtual 54, 3) by decide +kernel) (fun H locs hP hM hrr hS => ?_)
  refine lv_aload_n hx hb (show decode code 565 = .ok (.aload_n 2, 1) by decide +kernel) rfl (lv_at hl 1 rfl) ?_
  refine lw_ld (k := 1) C hl hS (by omega) (show decode code 566 = .ok (.aload_n 0, 1) by decide +kernel) (by decide +kernel) (by decide +kernel) (by decide +kernel) (by decide +kernel) ?_
  refine lw_ld (k := 2) C hl hS (by omega) (show decode code 571 = .ok (.aload_n 0, 1) by decide +kernel) (by decide +kernel) (by decide +kernel) (by decide +kernel) (by decide +kernel) ?_
  refine lw_c1 (y := 92) (a := 72) (as := [iV (xs (i + 1)).toInt, iV (xs (i + 2)).toInt]) (rest := [.int (Int32.ofInt r)]) C hl hS hP hM (am_hc (nm_ir _) (am_hc (nm_ir _) (fun _ h => absurd h List.not_mem_nil))) h2 rfl clX12 my_92 rfl (am_w7 6 rfl rfl) is_92 se_92 rfl (by decide) (by decide) (by simp [am_rv, nm_iof]) (Nat.le_of_ble_eq_true rfl) hcs hss (show decode code 576 = .ok (.invokevirtual 57, 3) by decide +kernel) (fun H locs hP hM hrr hS => ?_)
  refine lv_icmp_eq (tgt := 1633) hx hb (show decode code 579 = .ok (.if_icmp .eq 1054, 3) by decide +kernel) (by decide) (fun _ => ?_) (fun h => absurd rfl h)
  exact kk M2 H locs h3 hM hP hS
set_option maxRecDepth 100000 in
theorem lc_10 {p : Program} {l : Launch} {e : Env} {s : State} {m : MethodId} {below : List Frame} {meth : Method} {c : Code} {b L : Nat} {xs : Nat → Int32} {u : am_U} {Q : State → Prop} {H : Heap} {locs : List Loc} {i cells slots : Nat} {ls : Array Slot} {M : am_M} {RI : am_M → Prop} (C : lw_Cx p s m c b L xs u) (hl : lw_Ls u b i ls) (hi : i + 5 < L) (hS : va_S (lw_A s) s.heap H locs) (hP : va_P u.1 am_cl (am_wl u M) H) (hM : am_wf M) (hRI : RI M) (hcs : cells ≤ 600000) (hss : slots ≤ 7302250) (hpr : lw_Pr RI 10 93 [iV (xs (i + 1)).toInt])
    (kk : ∀ (M2 : am_M) (H2 : Heap) (locs2 : List Loc), RI M2 → am_wf M2 → va_P u.1 am_cl (am_wl u M2) H2 → va_S (lw_A s) s.heap H2 locs2 → W p l e room_1 s m #[Value.ref b] below meth c H2 locs2 cells slots Q (F0 m 1633 ls [])) : W p l e room_1 s m #[Value.ref b] below meth c H locs cells slots Q (F0 m 584 ls []) := by
  obtain ⟨r, M1, M2, h1, h2, h3⟩ := hpr M hRI hM
  have hx := C.1
  have hb := C.2.1
  refine lv_aload_n hx hb (show decode code 584 = .ok (.aload_n 1, 1) by decide +kernel) rfl (lv_at hl 2 rfl) ?_
  refine lw_ld (k := 1) C hl hS (by omega) (show decode code 585 = .ok (.aload_n 0, 1) by decide +kernel) (by decide +kernel) (by decide +kernel) (by decide +kernel) (by decide +kernel) ?_
  refine lw_c1 (y := 10) (a := 70) (as := [iV (xs (i + 1)).toInt]) (rest := []) C hl hS hP hM (am_hc (nm_ir _) (fun _ h => absurd h List.not_mem_nil)) h1 rfl clX11 my_10 rfl (am_w3 222 rfl rfl) is_10 se_10 rfl (by decide) (by decide) (by simp [am_rv, nm_iof]) (Nat.le_of_ble_eq_true rfl) hcs hss (show decode code 590 = .ok (.invokevirtual 58, 3) by decide +kernel) (fun H locs hP hM hrr hS => ?_)
  refine lv_aload_n hx hb (show decode code 593 = .ok (.aload_n 2, 1) by decide +kernel) rfl (lv_at hl 1 rfl) ?_
  refine lw_ld (k := 1) C hl hS (by omega) (show decode code 594 = .ok (.aload_n 0, 1) by decide +kernel) (by decide +kernel) (by decide +kernel) (by decide +kernel) (by decide +kernel) ?_
  refine lw_c1 (y := 93) (a := 72) (as := [iV (xs (i + 1)).toInt]) (rest := [.int (Int32.ofInt r)]) C hl hS hP hM (am_hc (nm_ir _) (fun _ h => absurd h List.not_mem_nil)) h2 rfl clX12 my_93 rfl (am_w7 12 rfl rfl) is_93 se_93 rfl (by decide) (by decide) (by simp [am_rv, nm_iof]) (Nat.le_of_ble_eq_true rfl) hcs hss (show decode code 599 = .ok (.invokevirtual 61, 3) by decide +kernel) (fun H locs hP hM hrr hS => ?_)
  refine lv_icmp_eq (tgt := 1633) hx hb (show decode code 602 = .ok (.if_icmp .eq 1031, 3) by decide +kernel) (by decide) (fun _ => ?_) (fun h => absurd rfl h)
  exact kk M2 H locs h3 hM hP hS
set_option maxRecDepth 100000 in
theorem lc_11 {p : Program} {l : Launch} {e : Env} {s : State} {m : MethodId} {below : List Frame} {meth : Method} {c : Code} {b L : Nat} {xs : Nat → Int32} {u : am_U} {Q : State → Prop} {H : Heap} {locs : List Loc} {i cells slots : Nat} {ls : Array Slot} {M : am_M} {RI : am_M → Prop} (C : lw_Cx p s m c b L xs u) (hl : lw_Ls u b i ls) (hi : i + 5 < L) (hS : va_S (lw_A s) s.heap H locs) (hP : va_P u.1 am_cl (am_wl u M) H) (hM : am_wf M) (hRI : RI M) (hcs : cells ≤ 600000) (hss : slots ≤ 7302250) (hpr : lw_Pr RI 11 94 [iV (xs (i + 1)).toInt, iV (xs (i + 2)).toInt])
    (kk : ∀ (M2 : am_M) (H2 : Heap) (locs2 : List Loc), RI M2 → am_wf M2 → va_P u.1 am_cl (am_wl u M2) H2 → va_S (lw_A s) s.heap H2 locs2 → W p l e room_1 s m #[Value.ref b] below meth c H2 locs2 cells slots Q (F0 m 1633 ls [])) : W p l e room_1 s m #[Value.ref b] below meth c H locs cells slots Q (F0 m 607 ls []) := by
  obtain ⟨r, M1, M2, h1, h2, h3⟩ := hpr M hRI hM
  have hx := C.1
  have hb := C.2.1
  refine lv_aload_n hx hb (show decode code 607 = .ok (.aload_n 1, 1) by decide +kernel) rfl (lv_at hl 2 rfl) ?_
  refine lw_ld (k := 1) C hl hS (by omega) (show decode code 608 = .ok (.aload_n 0, 1) by decide +kernel) (by decide +kernel) (by decide +kernel) (by decide +kernel) (by decide +kernel) ?_
  refine lw_ld (k := 2) C hl hS (by omega) (show decode code 613 = .ok (.aload_n 0, 1) by decide +kernel) (by decide +kernel) (by decide +kernel) (by decide +kernel) (by decide +kernel) ?_
  refine lw_c1 (y := 11) (a := 70) (as := [iV (xs (i + 1)).toInt, iV (xs (i + 2)).toInt]) (rest := []) C hl hS hP hM (am_hc (nm_ir _) (am_hc (nm_ir _) (fun _ h => absurd h List.not_mem_nil))) h1 rfl clX11 my_11 rfl (am_w3 226 rfl rfl) is_11 se_11 rfl (by decide) (by decide) (by simp [am_rv, nm_iof]) (Nat.le_of_ble_eq_true rfl) hcs hss (show decode code 618 = .ok (.invokevirtual 62, 3) by decide +kernel) (fun H locs hP hM hrr hS => ?_)
  refine lv_aload_n hx hb (show decode code 621 = .ok (.aload_n 2, 1) by decide +kernel) rfl (lv_at hl 1 rfl) ?_
  refine lw_ld (k := 1) C hl hS (by omega) (show decode code 622 = .ok (.aload_n 0, 1) by decide +kernel) (by decide +kernel) (by decide +kernel) (by decide +kernel) (by decide +kernel) ?_
  refine lw_ld (k := 2) C hl hS (by omega) (show decode code 627 = .ok (.aload_n 0, 1) by decide +kernel) (by decide +kernel) (by decide +kernel) (by decide +kernel) (by decide +kernel) ?_
  refine lw_c1 (y := 94) (a := 72) (as := [iV (xs (i + 1)).toInt, iV (xs (i + 2)).toInt]) (rest := [.int (Int32.ofInt r)]) C hl hS hP hM (am_hc (nm_ir _) (am_hc (nm_ir _) (fun _ h => absurd h List.not_mem_nil))) h2 rfl clX12 my_94 rfl (am_w7 16 rfl rfl) is_94 se_94 rfl (by decide) (by decide) (by simp [am_rv, nm_iof]) (Nat.le_of_ble_eq_true rfl) hcs hss (show decode code 632 = .ok (.invokevirtual 65, 3) by decide +kernel) (fun H locs hP hM hrr hS => ?_)
  refine lv_icmp_eq (tgt := 1633) hx hb (show decode code 635 = .ok (.if_icmp .eq 998, 3) by decide +kernel) (by decide) (fun _ => ?_) (fun h => absurd rfl h)
  exact kk M2 H locs h3 hM hP hS
set_option maxRecDepth 100000 in
theorem lc_12 {p : Program} {l : Launch} {e : Env} {s : State} {m : MethodId} {below : List Frame} {meth : Method} {c : Code} {b L : Nat} {xs : Nat → Int32} {u : am_U} {Q : State → Prop} {H : Heap} {locs : List Loc} {i cells slots : Nat} {ls : Array Slot} {M : am_M} {RI : am_M → Prop} (C : lw_Cx p s m c b L xs u) (hl : lw_Ls u b i ls) (hi : i + 5 < L) (hS : va_S (lw_A s) s.heap H locs) (hP : va_P u.1 am_cl (am_wl u M) H) (hM : am_wf M) (hRI : RI M) (hcs : cells ≤ 600000) (hss : slots ≤ 7302250) (hpr : lw_Pr RI 12 95 [])
    (kk : ∀ (M2 : am_M) (H2 : Heap) (locs2 : List Loc), RI M2 → am_wf M2 → va_P u.1 am_cl (am_wl u M2) H2 → va_S (lw_A s) s.heap H2 locs2 → W p l e room_1 s m #[Value.ref b] below meth c H2 locs2 cells slots Q (F0 m 1633 ls [])) : W p l e room_1 s m #[Value.ref b] below meth c H locs cells slots Q (F0 m 640 ls []) := by
  obtain ⟨r, M1, M2, h1, h2, h3⟩ := hpr M hRI hM
  have hx := C.1
  have hb := C.2.1
  refine lv_aload_n hx hb (show decode code 640 = .ok (.aload_n 1, 1) by decide +kernel) rfl (lv_at hl 2 rfl) ?_
  refine lw_c1 (y := 12) (a := 70) (as := []) (rest := []) C hl hS hP hM (fun _ h => absurd h List.not_mem_nil) h1 rfl clX11 my_12 rfl (am_w3 230 rfl rfl) is_12 se_12 rfl (by decide) (by decide) (by simp [am_rv]) (Nat.le_of_ble_eq_true rfl) hcs hss (show decode code 641 = .ok (.invokevirtual 66, 3) by decide +kernel) (fun H locs hP hM hrr hS => ?_)
  refine lv_aload_n hx hb (show decode code 644 = .ok (.aload_n 2, 1) by decide +kernel) rfl (lv_at hl 1 rfl) ?_
  refine lw_c1 (y := 95) (a := 72) (as := []) (rest := [.int (Int32.ofInt r)]) C hl hS hP hM (fun _ h => absurd h List.not_mem_nil) h2 rfl clX12 my_95 rfl (am_w7 20 rfl rfl) is_95 se_95 rfl (by decide) (by decide) (by simp [am_rv]) (Nat.le_of_ble_eq_true rfl) hcs hss (show decode code 645 = .ok (.invokevirtual 70, 3) by decide +kernel) (fun H locs hP hM hrr hS => ?_)
  refine lv_icmp_eq (tgt := 1633) hx hb (show decode code 648 = .ok (.if_icmp .eq 985, 3) by decide +kernel) (by decide) (fun _ => ?_) (fun h => absurd rfl h)
  exact kk M2 H locs h3 hM hP hS
set_option maxRecDepth 100000 in
theorem lc_13 {p : Program} {l : Launch} {e : Env} {s : State} {m : MethodId} {below : List Frame} {meth : Method} {c : Code} {b L : Nat} {xs : Nat → Int32} {u : am_U} {Q : State → Prop} {H : Heap} {locs : List Loc} {i cells slots : Nat} {ls : Array Slot} {M : am_M} {RI : am_M → Prop} (C : lw_Cx p s m c b L xs u) (hl : lw_Ls u b i ls) (hi : i + 5 < L) (hS : va_S (lw_A s) s.heap H locs) (hP : va_P u.1 am_cl (am_wl u M) H) (hM : am_wf M) (hRI : RI M) (hcs : cells ≤ 600000) (hss : slots ≤ 7302250) (hpr : lw_Pr RI 15 97 [iV (xs (i + 1)).toInt, iV (xs (i + 2)).toInt])
    (kk : ∀ (M2 : am_M) (H2 : Heap) (locs2 : List Loc), RI M2 → am_wf M2 → va_P u.1 am_cl (am_wl u M2) H2 → va_S (lw_A s) s.heap H2 locs2 → W p l e room_1 s m #[Value.ref b] below meth c H2 locs2 cells slots Q (F0 m 1633 ls [])) : W p l e room_1 s m #[Value.ref b] below meth c H locs cells slots Q (F0 m 653 ls []) := by
  obtain ⟨r, M1, M2, h1, h2, h3⟩ := hpr M hRI hM
  have hx := C.1
  have hb := C.2.1
  refine lv_aload_n hx hb (show decode code 653 = .ok (.aload_n 1, 1) by decide +kernel) rfl (lv_at hl 2 rfl) ?_
  refine lw_ld (k := 1) C hl hS (by omega) (show decode code 654 = .ok (.aload_n 0, 1) by decide +kernel) (by decide +kernel) (by decide +kernel) (by decide +kernel) (by decide +kernel) ?_
  refine lw_ld (k := 2) C hl hS (by omega) (show decode code 659 = .ok (.aload_n 0, 1) by decide +kernel) (by decide +kernel) (by decide +kernel) (by decide +kernel) (by decide +kernel) ?_
  refine lw_c1 (y := 15) (a := 70) (as := [iV (xs (i + 1)).toInt, iV (xs (i + 2)).toInt]) (rest := []) C hl hS hP hM (am_hc (nm_ir _) (am_hc (nm_ir _) (fun _ h => absurd h List.not_mem_nil))) h1 rfl clX11 my_15 rfl (am_w4 5 rfl rfl) is_15 se_15 rfl (by decide) (by decide) (by simp [am_rv, nm_iof]) (Nat.le_of_ble_eq_true rfl) hcs hss (show decode code 664 = .ok (.invokevirtual 71, 3) by decide +kernel) (fun H locs hP hM hrr hS => ?_)
  refine lv_aload_n hx hb (show decode code 667 = .ok (.aload_n 2, 1) by decide +kernel) rfl (lv_at hl 1 rfl) ?_
  refine lw_ld (k := 1) C hl hS (by omega) (show decode code 668 = .ok (.aload_n 0, 1) by decide +kernel) (by decide +kernel) (by decide +kernel) (by decide +kernel) (by decide +kernel) ?_
  refine lw_ld (k := 2) C hl hS (by omega) (show decode code 673 = .ok (.aload_n 0, 1) by decide +kernel) (by decide +kernel) (by decide +kernel) (by decide +kernel) (by decide +kernel) ?_
  refine lw_c1 (y := 97) (a := 72) (as := [iV (xs (i + 1)).toInt, iV (xs (i + 2)).toInt]) (rest := [.int (Int32.ofInt r)]) C hl hS hP hM (am_hc (nm_ir _) (am_hc (nm_ir _) (fun _ h => absurd h List.not_mem_nil))) h2 rfl clX12 my_97 rfl (am_w7 24 rfl rfl) is_97 se_97 rfl (by decide) (by decide) (by simp [am_rv, nm_iof]) (Nat.le_of_ble_eq_true rfl) hcs hss (show decode code 678 = .ok (.invokevirtual 74, 3) by decide +kernel) (fun H locs hP hM hrr hS => ?_)
  refine lv_icmp_eq (tgt := 1633) hx hb (show decode code 681 = .ok (.if_icmp .eq 952, 3) by decide +kernel) (by decide) (fun _ => ?_) (fun h => absurd rfl h)
  exact kk M2 H locs h3 hM hP hS
set_option maxRecDepth 100000 in
theorem lc_14 {p : Program} {l : Launch} {e : Env} {s : State} {m : MethodId} {below : List Frame} {meth : Method} {c : Code} {b L : Nat} {xs : Nat → Int32} {u : am_U} {Q : State → Prop} {H : Heap} {locs : List Loc} {i cells slots : Nat} {ls : Array Slot} {M : am_M} {RI : am_M → Prop} (C : lw_Cx p s m c b L xs u) (hl : lw_Ls u b i ls) (hi : i + 5 < L) (hS : va_S (lw_A s) s.heap H locs) (hP : va_P u.1 am_cl (am_wl u M) H) (hM : am_wf M) (hRI : RI M) (hcs : cells ≤ 600000) (hss : slots ≤ 7302250) (hpr : lw_Pr RI 16 98 [iV (xs (i + 1)).toInt, iV (xs (i + 2)).toInt])
    (kk : ∀ (M2 : am_M) (H2 : Heap) (locs2 : List Loc), RI M2 → am_wf M2 → va_P u.1 am_cl (am_wl u M2) H2 → va_S (lw_A s) s.heap H2 locs2 → W p l e room_1 s m #[Value.ref b] below meth c H2 locs2 cells slots Q (F0 m 1633 ls [])) : W p l e room_1 s m #[Value.ref b] below meth c H locs cells slots Q (F0 m 686 ls []) := by
  obtain ⟨r, M1, M2, h1, h2, h3⟩ := hpr M hRI hM
  have hx := C.1
  have hb := C.2.1
  refine lv_aload_n hx hb (show decode code 686 = .ok (.aload_n 1, 1) by decide +kernel) rfl (lv_at hl 2 rfl) ?_
  refine lw_ld (k := 1) C hl hS (by omega) (show decode code 687 = .ok (.aload_n 0, 1) by decide +kernel) (by decide +kernel) (by decide +kernel) (by decide +kernel) (by decide +kernel) ?_
  refine lw_ld (k := 2) C hl hS (by omega) (show decode code 692 = .ok (.aload_n 0, 1) by decide +kernel) (by decide +kernel) (by decide +kernel) (by decide +kernel) (by decide +kernel) ?_
  refine lw_c1 (y := 16) (a := 70) (as := [iV (xs (i + 1)).toInt, iV (xs (i + 2)).toInt]) (rest := []) C hl hS hP hM (am_hc (nm_ir _) (am_hc (nm_ir _) (fun _ h => absurd h List.not_mem_nil))) h1 rfl clX11 my_16 rfl (am_w4 9 rfl rfl) is_16 se_16 rfl (by decide) (by decide) (by simp [am_rv, nm_iof]) (Nat.le_of_ble_eq_true rfl) hcs hss (show decode code 697 = .ok (.invokevirtual 75, 3) by decide +kernel) (fun H locs hP hM hrr hS => ?_)
  refine lv_aload_n hx hb (show decode code 700 = .ok (.aload_n 2, 1) by decide +kernel) rfl (lv_at hl 1 rfl) ?_
  refine lw_ld (k := 1) C hl hS (by omega) (show decode code 701 = .ok (.aload_n 0, 1) by decide +kernel) (by decide +kernel) (by decide +kernel) (by decide +kernel) (by decide +kernel) ?_
  refine lw_ld (k := 2) C hl hS (by omega) (show decode code 706 = .ok (.aload_n 0, 1) by decide +kernel) (by decide +kernel) (by decide +kernel) (by decide +kernel) (by decide +kernel) ?_
  refine lw_c1 (y := 98) (a := 72) (as := [iV (xs (i + 1)).toInt, iV (xs (i + 2)).toInt]) (rest := [.int (Int32.ofInt r)]) C hl hS hP hM (am_hc (nm_ir _) (am_hc (nm_ir _) (fun _ h => absurd h List.not_mem_nil))) h2 rfl clX12 my_98 rfl (am_w7 33 rfl rfl) is_98 se_98 rfl (by decide) (by decide) (by simp [am_rv, nm_iof]) (Nat.le_of_ble_eq_true rfl) hcs hss (show decode code 711 = .ok (.invokevirtual 78, 3) by decide +kernel) (fun H locs hP hM hrr hS => ?_)
  refine lv_icmp_eq (tgt := 1633) hx hb (show decode code 714 = .ok (.if_icmp .eq 919, 3) by decide +kernel) (by decide) (fun _ => ?_) (fun h => absurd rfl h)
  exact kk M2 H locs h3 hM hP hS
