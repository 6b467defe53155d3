set_option maxRecDepth 100000 in
theorem lc_30 {p : Program} {l : Launch} {e : Env} {s : State} {m : MethodId} {below : List Frame} {meth : Method} {c : Code} {b L : Nat} {xs : Nat → Int32} {u : am_U} {Q : State → Prop} {H : Heap} {locs : List Loc} {i cells slots : Nat} {ls : Array Slot} {M : am_M} {RI : am_M → Prop} (C : lw_Cx p s m c b L xs u) (hl : lw_Ls u b i ls) (hi : i + 5 < L) (hS : va_S (lw_A s) s.heap H locs) (hP : va_P u.1 am_cl (am_wl u M) H) (hM : am_wf M) (hRI : RI M) (hcs : cells ≤ 600000) (hss : slots ≤ 7302250) (hpr : lw_Pr RI 32 134 [iV (xs (i + 1)).toInt, iV (xs (i + 2)).toInt, iV (xs (i + 3)).toInt])
    (kk : ∀ (M2 : am_M) (H2 : Heap) (locs2 : List Loc), RI M2 → am_wf M2 → va_P u.1 am_cl (am_wl u M2) H2 → va_S (lw_A s) s.heap H2 locs2 → W p l e room_1 s m #[Value.ref b] below meth c H2 locs2 cells slots Q (F0 m 1633 ls [])) : W p l e room_1 s m #[Value.ref b] below meth c H locs cells slots Q (F0 m 1183 ls []) := by
  obtain ⟨r, M1, M2, h1, h2, h3⟩ := hpr M hRI hM
  have hx := C.1
  have hb := C.2.1
  refine lv_aload_n hx hb (show decode code 1183 = .ok (.aload_n 1, 1) by decide +kernel) rfl (lv_at hl 2 rfl) ?_
  refine lw_ld (k := 1) C hl hS (by omega) (show decode code 1184 = .ok (.aload_n 0, 1) by decide +kernel) (by decide +kernel) (by decide +kernel) (by decide +kernel) (by decide +kernel) ?_
  refine lw_ld (k := 2) C hl hS (by omega) (show decode code 1189 = .ok (.aload_n 0, 1) by decide +kernel) (by decide +kernel) (by decide +kernel) (by decide +kernel) (by decide +kernel) ?_
  refine lw_ld (k := 3) C hl hS (by omega) (show decode code 1194 = .ok (.aload_n 0, 1) by decide +kernel) (by decide +kernel) (by decide +kernel) (by decide +kernel) (by decide +kernel) ?_
  refine lw_c1 (y := 32) (a := 70) (as := [iV (xs (i + 1)).toInt, iV (xs (i + 2)).toInt, iV (xs (i + 3)).toInt]) (rest := []) C hl hS hP hM (am_hc (nm_ir _) (am_hc (nm_ir _) (am_hc (nm_ir _) (fun _ h => absurd h List.not_mem_nil)))) h1 rfl clX11 my_32 rfl (am_w5 50 rfl rfl) is_32 se_32 rfl (by decide) (by decide) (by simp [am_rv, nm_iof]) (Nat.le_of_ble_eq_true rfl) hcs hss (show decode code 1199 = .ok (.invokevirtual 142, 3) by decide +kernel) (fun H locs hP hM hrr hS => ?_)
  refine lv_aload_n hx hb (show decode code 1202 = .ok (.aload_n 2, 1) by decide +kernel) rfl (lv_at hl 1 rfl) ?_
  refine lw_ld (k := 1) C hl hS (by omega) (show decode code 1203 = .ok (.aload_n 0, 1) by decide +kernel) (by decide +kernel) (by decide +kernel) (by decide +kernel) (by decide +kernel) ?_
  refine lw_ld (k := 2) C hl hS (by omega) (show decode code 1208 = .ok (.aload_n 0, 1) by decide +kernel) (by decide +kernel) (by decide +kernel) (by decide +kernel) (by decide +kernel) ?_
  refine lw_ld (k := 3) C hl hS (by omega) (show decode code 1213 = .ok (.aload_n 0, 1) by decide +kernel) (by decide +kernel) (by decide +kernel) (by decide +kernel) (by decide +kernel) ?_
  refine lw_c1 (y := 134) (a := 72) (as := [iV (xs (i + 1)).toInt, iV (xs (i + 2)).toInt, iV (xs (i + 3)).toInt]) (rest := [.int (Int32.ofInt r)]) C hl hS hP hM (am_hc (nm_ir _) (am_hc (nm_ir _) (am_hc (nm_ir _) (fun _ h => absurd h List.not_mem_nil)))) h2 rfl clX12 my_134 rfl (am_w7 186 rfl rfl) is_134 se_134 rfl (by decide) (by decide) (by simp [am_rv, nm_iof]) (Nat.le_of_ble_eq_true rfl) hcs hss (show decode code 1218 = .ok (.invokevirtual 145, 3) by decide +kernel) (fun H locs hP hM hrr hS => ?_)
  refine lv_icmp_eq (tgt := 1633) hx hb (show decode code 1221 = .ok (.if_icmp .eq 412, 3) by decide +kernel) (by decide) (fun _ => ?_) (fun h => absurd rfl h)
  exact kk M2 H locs h3 hM hP hS
set_option maxRecDepth 100000 in
theorem lc_31 {p : Program} {l : Launch} {e : Env} {s : State} {m : MethodId} {below : List Frame} {meth : Method} {c : Code} {b L : Nat} {xs : Nat → Int32} {u : am_U} {Q : State → Prop} {H : Heap} {locs : List Loc} {i cells slots : Nat} {ls : Array Slot} {M : am_M} {RI : am_M → Prop} (C : lw_Cx p s m c b L xs u) (hl : lw_Ls u b i ls) (hi : i + 5 < L) (hS : va_S (lw_A s) s.heap H locs) (hP : va_P u.1 am_cl (am_wl u M) H) (hM : am_wf M) (hRI : RI M) (hcs : cells ≤ 600000) (hss : slots ≤ 7302250) (hpr : lw_Pr RI 33 136 [iV (xs (i + 1)).toInt])
    (kk : ∀ (M2 : am_M) (H2 : Heap) (locs2 : List Loc), RI M2 → am_wf M2 → va_P u.1 am_cl (am_wl u M2) H2 → va_S (lw_A s) s.heap H2 locs2 → W p l e room_1 s m #[Value.ref b] below meth c H2 locs2 cells slots Q (F0 m 1633 ls [])) : W p l e room_1 s m #[Value.ref b] below meth c H locs cells slots Q (F0 m 1226 ls []) := by
  obtain ⟨r, M1, M2, h1, h2, h3⟩ := hpr M hRI hM
  have hx := C.1
  have hb := C.2.1
  refine lv_aload_n hx hb (show decode code 1226 = .ok (.aload_n 1, 1) by decide +kernel) rfl (lv_at hl 2 rfl) ?_
  refine lw_ld (k := 1) C hl hS (by omega) (show decode code 1227 = .ok (.aload_n 0, 1) by decide +kernel) (by decide +kernel) (by decide +kernel) (by decide +kernel) (by decide +kernel) ?_
  refine lw_c2 (y := 33) (a := 70) (as := [iV (xs (i + 1)).toInt]) (rest := []) C hl hS hP hM (am_hc (nm_ir _) (fun _ h => absurd h List.not_mem_nil)) h1 rfl clX11 my_33 rfl (am_w5 54 rfl rfl) is_33 se_33 rfl (by decide) (by decide) (by simp [am_rv, nm_iof]) (Nat.le_of_ble_eq_true rfl) hcs hss (show decode code 1232 = .ok (.invokevirtual 146, 3) by decide +kernel) (fun H locs hP hM hrr hS => ?_)
  refine lv_aload_n hx hb (show decode code 1235 = .ok (.aload_n 2, 1) by decide +kernel) rfl (lv_at hl 1 rfl) ?_
  refine lw_ld (k := 1) C hl hS (by omega) (show decode code 1236 = .ok (.aload_n 0, 1) by decide +kernel) (by decide +kernel) (by decide +kernel) (by decide +kernel) (by decide +kernel) ?_
  refine lw_c2 (y := 136) (a := 72) (as := [iV (xs (i + 1)).toInt]) (rest := [.long (Int64.ofInt r)]) C hl hS hP hM (am_hc (nm_ir _) (fun _ h => absurd h List.not_mem_nil)) h2 rfl clX12 my_136 rfl (am_w7 190 rfl rfl) is_136 se_136 rfl (by decide) (by decide) (by simp [am_rv, nm_iof]) (Nat.le_of_ble_eq_true rfl) hcs hss (show decode code 1241 = .ok (.invokevirtual 149, 3) by decide +kernel) (fun H locs hP hM hrr hS => ?_)
  refine W.lcmp hx hb (show decode code 1244 = .ok (.lcmp, 1) by decide +kernel) ?_
  rw [nm_cmp hrr hrr, if_neg (by omega), if_pos rfl]
  refine lv_if_eq (tgt := 1633) hx hb (show decode code 1245 = .ok (.ifCond .eq 388, 3) by decide +kernel) (by decide) (fun _ => ?_) (fun h => absurd rfl h)
  exact kk M2 H locs h3 hM hP hS
set_option maxRecDepth 100000 in
theorem lc_32 {p : Program} {l : Launch} {e : Env} {s : State} {m : MethodId} {below : List Frame} {meth : Method} {c : Code} {b L : Nat} {xs : Nat → Int32} {u : am_U} {Q : State → Prop} {H : Heap} {locs : List Loc} {i cells slots : Nat} {ls : Array Slot} {M : am_M} {RI : am_M → Prop} (C : lw_Cx p s m c b L xs u) (hl : lw_Ls u b i ls) (hi : i + 5 < L) (hS : va_S (lw_A s) s.heap H locs) (hP : va_P u.1 am_cl (am_wl u M) H) (hM : am_wf M) (hRI : RI M) (hcs : cells ≤ 600000) (hss : slots ≤ 7302250) (hpr : lw_Pr RI 34 138 [iV (xs (i + 1)).toInt])
    (kk : ∀ (M2 : am_M) (H2 : Heap) (locs2 : List Loc), RI M2 → am_wf M2 → va_P u.1 am_cl (am_wl u M2) H2 → va_S (lw_A s) s.heap H2 locs2 → W p l e room_1 s m #[Value.ref b] below meth c H2 locs2 cells slots Q (F0 m 1633 ls [])) : W p l e room_1 s m #[Value.ref b] below meth c H locs cells slots Q (F0 m 1250 ls []) := by
  obtain ⟨r, M1, M2, h1, h2, h3⟩ := hpr M hRI hM
  have hx := C.1
  have hb := C.2.1
  refine lv_aload_n hx hb (show decode code 1250 = .ok (.aload_n 1, 1) by decide +kernel) rfl (lv_at hl 2 rfl) ?_
  refine lw_ld (k := 1) C hl hS (by omega) (show decode code 1251 = .ok (.aload_n 0, 1) by decide +kernel) (by decide +kernel) (by decide +kernel) (by decide +kernel) (by decide +kernel) ?_
  refine lw_c1 (y := 34) (a := 70) (as := [iV (xs (i + 1)).toInt]) (rest := []) C hl hS hP hM (am_hc (nm_ir _) (fun _ h => absurd h List.not_mem_nil)) h1 rfl clX11 my_34 rfl (am_w5 68 rfl rfl) is_34 se_34 rfl (by decide) (by decide) (by simp [am_rv, nm_iof]) (Nat.le_of_ble_eq_true rfl) hcs hss (show decode code 1256 = .ok (.invokevirtual 150, 3) by decide +kernel) (fun H locs hP hM hrr hS => ?_)
  refine lv_aload_n hx hb (show decode code 1259 = .ok (.aload_n 2, 1) by decide +kernel) rfl (lv_at hl 1 rfl) ?_
  refine lw_ld (k := 1) C hl hS (by omega) (show decode code 1260 = .ok (.aload_n 0, 1) by decide +kernel) (by decide +kernel) (by decide +kernel) (by decide +kernel) (by decide +kernel) ?_
  refine lw_c1 (y := 138) (a := 72) (as := [iV (xs (i + 1)).toInt]) (rest := [.int (Int32.ofInt r)]) C hl hS hP hM (am_hc (nm_ir _) (fun _ h => absurd h List.not_mem_nil)) h2 rfl clX12 my_138 rfl (am_w7 199 rfl rfl) is_138 se_138 rfl (by decide) (by decide) (by simp [am_rv, nm_iof]) (Nat.le_of_ble_eq_true rfl) hcs hss (show decode code 1265 = .ok (.invokevirtual 153, 3) by decide +kernel) (fun H locs hP hM hrr hS => ?_)
  refine lv_icmp_eq (tgt := 1633) hx hb (show decode code 1268 = .ok (.if_icmp .eq 365, 3) by decide +kernel) (by decide) (fun _ => ?_) (fun h => absurd rfl h)
  exact kk M2 H locs h3 hM hP hS
set_option maxRecDepth 100000 in
theorem lc_33 {p : Program} {l : Launch} {e : Env} {s : State} {m : MethodId} {below : List Frame} {meth : Method} {c : Code} {b L : Nat} {xs : Nat → Int32} {u : am_U} {Q : State → Prop} {H : Heap} {locs : List Loc} {i cells slots : Nat} {ls : Array Slot} {M : am_M} {RI : am_M → Prop} (C : lw_Cx p s m c b L xs u) (hl : lw_Ls u b i ls) (hi : i + 5 < L) (hS : va_S (lw_A s) s.heap H locs) (hP : va_P u.1 am_cl (am_wl u M) H) (hM : am_wf M) (hRI : RI M) (hcs : cells ≤ 600000) (hss : slots ≤ 7302250) (hpr : lw_Pr RI 38 139 [iV (xs (i + 1)).toInt])
    (kk : ∀ (M2 : am_M) (H2 : Heap) (locs2 : List Loc), RI M2 → am_wf M2 → va_P u.1 am_cl (am_wl u M2) H2 → va_S (lw_A s) s.heap H2 locs2 → W p l e room_1 s m #[Value.ref b] below meth c H2 locs2 cells slots Q (F0 m 1633 ls [])) : W p l e room_1 s m #[Value.ref b] below meth c H locs cells slots Q (F0 m 1273 ls []) := by
  obtain ⟨r, M1, M2, h1, h2, h3⟩ := hpr M hRI hM
  have hx := C.1
  have hb := C.2.1
  refine lv_aload_n hx hb (show decode code 1273 = .ok (.aload_n 1, 1) by decide +kernel) rfl (lv_at hl 2 rfl) ?_
  refine lw_ld (k := 1) C hl hS (by omega) (show decode code 1274 = .ok (.aload_n 0, 1) by decide +kernel) (by decide +kernel) (by decide +kernel) (by decide +kernel) (by decide +kernel) ?_
  refine lw_c1 (y := 38) (a := 70) (as := [iV (xs (i + 1)).toInt]) (rest := []) C hl hS hP hM (am_hc (nm_ir _) (fun _ h => absurd h List.not_mem_nil)) h1 rfl clX11 my_38 rfl (am_w5 81 rfl rfl) is_38 se_38 rfl (by decide) (by decide) (by simp [am_rv, nm_iof]) (Nat.le_of_ble_eq_true rfl) hcs hss (show decode code 1279 = .ok (.invokevirtual 154, 3) by decide +kernel) (fun H locs hP hM hrr hS => ?_)
  refine lv_aload_n hx hb (show decode code 1282 = .ok (.aload_n 2, 1) by decide +kernel) rfl (lv_at hl 1 rfl) ?_
  refine lw_ld (k := 1) C hl hS (by omega) (show decode code 1283 = .ok (.aload_n 0, 1) by decide +kernel) (by decide +kernel) (by decide +kernel) (by decide +kernel) (by decide +kernel) ?_
  refine lw_c1 (y := 139) (a := 72) (as := [iV (xs (i + 1)).toInt]) (rest := [.int (Int32.ofInt r)]) C hl hS hP hM (am_hc (nm_ir _) (fun _ h => absurd h List.not_mem_nil)) h2 rfl clX12 my_139 rfl (am_w7 207 rfl rfl) is_139 se_139 rfl (by decide) (by decide) (by simp [am_rv, nm_iof]) (Nat.le_of_ble_eq_true rfl) hcs hss (show decode code 1288 = .ok (.invokevirtual 157, 3) by decide +kernel) (fun H locs hP hM hrr hS => ?_)
  refine lv_icmp_eq (tgt := 1633) hx hb (show decode code 1291 = .ok (.if_icmp .eq 342, 3) by decide +kernel) (by decide) (fun _ => ?_) (fun h => absurd rfl h)
  exact kk M2 H locs h3 hM hP hS
set_option maxRecDepth 100000 in
theorem lc_34 {p : Program} {l : Launch} {e : Env} {s : State} {m : MethodId} {below : List Frame} {meth : Method} {c : Code} {b L : Nat} {xs : Nat → Int32} {u : am_U} {Q : State → Prop} {H : Heap} {locs : List Loc} {i cells slots : Nat} {ls : Array Slot} {M : am_M} {RI : am_M → Prop} (C : lw_Cx p s m c b L xs u) (hl : lw_Ls u b i ls) (hi : i + 5 < L) (hS : va_S (lw_A s) s.heap H locs) (hP : va_P u.1 am_cl (am_wl u M) H) (hM : am_wf M) (hRI : RI M) (hcs : cells ≤ 600000) (hss : slots ≤ 7302250) (hpr : lw_Pr RI 39 149 [iV (xs (i + 1)).toInt])
    (kk : ∀ (M2 : am_M) (H2 : Heap) (locs2 : List Loc), RI M2 → am_wf M2 → va_P u.1 am_cl (am_wl u M2) H2 → va_S (lw_A s) s.heap H2 locs2 → W p l e room_1 s m #[Value.ref b] below meth c H2 locs2 cells slots Q (F0 m 1633 ls [])) : W p l e room_1 s m #[Value.ref b] below meth c H locs cells slots Q (F0 m 1296 ls []) := by
  obtain ⟨r, M1, M2, h1, h2, h3⟩ := hpr M hRI hM
  have hx := C.1
  have hb := C.2.1
  refine lv_aload_n hx hb (show decode code 1296 = .ok (.aload_n 1, 1) by decide +kernel) rfl (lv_at hl 2 rfl) ?_
  refine lw_ld (k := 1) C hl hS (by omega) (show decode code 1297 = .ok (.aload_n 0, 1) by decide +kernel) (by decide +kernel) (by decide +kernel) (by decide +kernel) (by decide +kernel) ?_
  refine lw_c1 (y := 39) (a := 70) (as := [iV (xs (i + 1)).toInt]) (rest := []) C hl hS hP hM (am_hc (nm_ir _) (fun _ h => absurd h List.not_mem_nil)) h1 rfl clX11 my_39 rfl (am_w5 85 rfl rfl) is_39 se_39 rfl (by decide) (by decide) (by simp [am_rv, nm_iof]) (Nat.le_of_ble_eq_true rfl) hcs hss (show decode code 1302 = .ok (.invokevirtual 158, 3) by decide +kernel) (fun H locs hP hM hrr hS => ?_)
  refine lv_aload_n hx hb (show decode code 1305 = .ok (.aload_n 2, 1) by decide +kernel) rfl (lv_at hl 1 rfl) ?_
  refine lw_ld (k := 1) C hl hS (by omega) (show decode code 1306 = .ok (.aload_n 0, 1) by decide +kernel) (by decide +kernel) (by decide +kernel) (by decide +kernel) (by decide +kernel) ?_
  refine lw_c1 (y := 149) (a := 72) (as := [iV (xs (i + 1)).toInt]) (rest := [.int (Int32.ofInt r)]) C hl hS hP hM (am_hc (nm_ir _) (fun _ h => absurd h List.not_mem_nil)) h2 rfl clX12 my_149 rfl (am_w7 211 rfl rfl) is_149 se_149 rfl (by decide) (by decide) (by simp [am_rv, nm_iof]) (Nat.le_of_ble_eq_true rfl) hcs hss (show decode code 1311 = .ok (.invokevirtual 161, 3) by decide +kernel) (fun H locs hP hM hrr hS => ?_)
  refine lv_icmp_eq (tgt := 1633) hx hb (show decode code 1314 = .ok (.if_icmp .eq 319, 3) by decide +kernel) (by decide) (fun _ => ?_) (fun h => absurd rfl h)
  exact kk M2 H locs h3 hM hP hS
set_option maxRecDepth 100000 in
theorem lc_35 {p : Program} {l : Launch} {e : Env} {s : State} {m : MethodId} {below : List Frame} {meth : Method} {c : Code} {b L : Nat} {xs : Nat → Int32} {u : am_U} {Q : State → Prop} {H : Heap} {locs : List Loc} {i cells slots : Nat} {ls : Array Slot} {M : am_M} {RI : am_M → Prop} (C : lw_Cx p s m c b L xs u) (hl : lw_Ls u b i ls) (hi : i + 5 < L) (hS : va_S (lw_A s) s.heap H locs) (hP : va_P u.1 am_cl (am_wl u M) H) (hM : am_wf M) (hRI : RI M) (hcs : cells ≤ 600000) (hss : slots ≤ 7302250) (hpr : lw_Pr RI 40 151 [iV (xs (i + 1)).toInt, iV (xs (i + 2)).toInt])
    (kk : ∀ (M2 : am_M) (H2 : Heap) (locs2 : List Loc), RI M2 → am_wf M2 → va_P u.1 am_cl (am_wl u M2) H2 → va_S (lw_A s) s.heap H2 locs2 → W p l e room_1 s m #[Value.ref b] below meth c H2 locs2 cells slots Q (F0 m 1633 ls [])) : W p l e room_1 s m #[Value.ref b] below meth c H locs cells slots Q (F0 m 1319 ls []) := by
  obtain ⟨r, M1, M2, h1, h2, h3⟩ := hpr M hRI hM
  have hx := C.1
  have hb := C.2.1
  refine lv_aload_n hx hb (show decode code 1319 = .ok (.aload_n 1, 1) by decide +kernel) rfl (lv_at hl 2 rfl) ?_
  refine lw_ld (k := 1) C hl hS (by omega) (show decode code 1320 = .ok (.aload_n 0, 1) by decide +kernel) (by decide +kernel) (by decide +kernel) (by decide +kernel) (by decide +kernel) ?_
  refine lw_ld (k := 2) C hl hS (by omega) (show decode code 1325 = .ok (.aload_n 0, 1) by decide +kernel) (by decide +kernel) (by decide +kernel) (by decide +kernel) (by decide +kernel) ?_
  refine lw_c1 (y := 40) (a := 70) (as := [iV (xs (i + 1)).toInt, iV (xs (i + 2)).toInt]) (rest := []) C hl hS hP hM (am_hc (nm_ir _) (am_hc (nm_ir _) (fun _ h => absurd h List.not_mem_nil))) h1 rfl clX11 my_40 rfl (am_w5 111 rfl rfl) is_40 se_40 rfl (by decide) (by decide) (by simp [am_rv, nm_iof]) (Nat.le_of_ble_eq_true rfl) hcs hss (show decode code 1330 = .ok (.invokevirtual 162, 3) by decide +kernel) (fun H locs hP hM hrr hS => ?_)
  refine lv_aload_n hx hb (show decode code 1333 = .ok (.aload_n 2, 1) by decide +kernel) rfl (lv_at hl 1 rfl) ?_
  refine lw_ld (k := 1) C hl hS (by omega) (show decode code 1334 = .ok (.aload_n 0, 1) by decide +kernel) (by decide +kernel) (by decide +kernel) (by decide +kernel) (by decide +kernel) ?_
  refine lw_ld (k := 2) C hl hS (by omega) (show decode code 1339 = .ok (.aload_n 0, 1) by decide +kernel) (by decide +kernel) (by decide +kernel) (by decide +kernel) (by decide +kernel) ?_
  refine lw_c1 (y := 151) (a := 72) (as := [iV (xs (i + 1)).toInt, iV (xs (i + 2)).toInt]) (rest := [.int (Int32.ofInt r)]) C hl hS hP hM (am_hc (nm_ir _) (am_hc (nm_ir _) (fun _ h => absurd h List.not_mem_nil))) h2 rfl clX12 my_151 rfl (am_w7 219 rfl rfl) is_151 se_151 rfl (by decide) (by decide) (by simp [am_rv, nm_iof]) (Nat.le_of_ble_eq_true rfl) hcs hss (show decode code 1344 = .ok (.invokevirtual 165, 3) by decide +kernel) (fun H locs hP hM hrr hS => ?_)
  refine lv_icmp_eq (tgt := 1633) hx hb (show decode code 1347 = .ok (.if_icmp .eq 286, 3) by decide +kernel) (by decide) (fun _ => ?_) (fun h => absurd rfl h)
  exact kk M2 H locs h3 hM hP hS
set_option maxRecDepth 100000 in
theorem lc_36 {p : Program} {l : Launch} {e : Env} {s : State} {m : MethodId} {below : List Frame} {meth : Method} {c : Code} {b L : Nat} {xs : Nat → Int32} {u : am_U} {Q : State → Prop} {H : Heap} {locs : List Loc} {i cells slots : Nat} {ls : Array Slot} {M : am_M} {RI : am_M → Prop} (C : lw_Cx p s m c b L xs u) (hl : lw_Ls u b i ls) (hi : i + 5 < L) (hS : va_S (lw_A s) s.heap H locs) (hP : va_P u.1 am_cl (am_wl u M) H) (hM : am_wf M) (hRI : RI M) (hcs : cells ≤ 600000) (hss : slots ≤ 7302250) (hpr : lw_Pr RI 41 152 [iV (xs (i + 1)).toInt, iV (xs (i + 2)).toInt])
    (kk : ∀ (M2 : am_M) (H2 : Heap) (locs2 : List Loc), RI M2 → am_wf M2 → va_P u.1 am_cl (am_wl u M2) H2 → va_S (lw_A s) s.heap H2 locs2 → W p l e room_1 s m #[Value.ref b] below meth c H2 locs2 cells slots Q (F0 m 1633 ls [])) : W p l e room_1 s m #[Value.ref b] below meth c H locs cells slots Q (F0 m 1352 ls []) := by
  obtain ⟨r, M1, M2, h1, h2, h3⟩ := hpr M hRI hM
  have hx := C.1
  have hb := C.2.1
  refine lv_aload_n hx hb (show decode code 1352 = .ok (.aload_n 1, 1) by decide +kernel) rfl (lv_at hl 2 rfl) ?_
  refine lw_ld (k := 1) C hl hS (by omega) (show decode code 1353 = .ok (.aload_n 0, 1) by decide +kernel) (by decide +kernel) (by decide +kernel) (by decide +kernel) (by decide +kernel) ?_
  refine lw_ld (k := 2) C hl hS (by omega) (show decode code 1358 = .ok (.aload_n 0, 1) by decide +kernel) (by decide +kernel) (by decide +kernel) (by decide +kernel) (by decide +kernel) ?_
  refine lw_c1 (y := 41) (a := 70) (as := [iV (xs (i + 1)).toInt, iV (xs (i + 2)).toInt]) (rest := []) C hl hS hP hM (am_hc (nm_ir _) (am_hc (nm_ir _) (fun _ h => absurd h List.not_mem_nil))) h1 rfl clX11 my_41 rfl (am_w5 123 rfl rfl) is_41 se_41 rfl (by decide) (by decide) (by simp [am_rv, nm_iof]) (Nat.le_of_ble_eq_true rfl) hcs hss (show decode code 1363 = .ok (.invokevirtual 166, 3) by decide +kernel) (fun H locs hP hM hrr hS => ?_)
  refine lv_aload_n hx hb (show decode code 1366 = .ok (.aload_n 2, 1) by decide +kernel) rfl (lv_at hl 1 rfl) ?_
  refine lw_ld (k := 1) C hl hS (by omega) (show decode code 1367 = .ok (.aload_n 0, 1) by decide +kernel) (by decide +kernel) (by decide +kernel) (by decide +kernel) (by decide +kernel) ?_
  refine lw_ld (k := 2) C hl hS (by omega) (show decode code 1372 = .ok (.aload_n 0, 1) by decide +kernel) (by decide +kernel) (by decide +kernel) (by decide +kernel) (by decide +kernel) ?_
  refine lw_c1 (y := 152) (a := 72) (as := [iV (xs (i + 1)).toInt, iV (xs (i + 2)).toInt]) (rest := [.int (Int32.ofInt r)]) C hl hS hP hM (am_hc (nm_ir _) (am_hc (nm_ir _) (fun _ h => absurd h List.not_mem_nil))) h2 rfl clX12 my_152 rfl (am_w7 227 rfl rfl) is_152 se_152 rfl (by decide) (by decide) (by simp [am_rv, nm_iof]) (Nat.le_of_ble_eq_true rfl) hcs hss (show decode code 1377 = .ok (.invokevirtual 169, 3) by decide +kernel) (fun H locs hP hM hrr hS => ?_)
  refine lv_icmp_eq (tgt := 1633) hx hb (show decode code 1380 = .ok (.if_icmp .eq 253, 3) by decide +kernel) (by decide) (fun _ => ?_) (fun h => absurd rfl h)
  exact kk M2 H locs h3 hM hP hS
set_option maxRecDepth 100000 in
theorem lc_37 {p : Program} {l : Launch} {e : Env} {s : State} {m : MethodId} {below : List Frame} {meth : Method} {c : Code} {b L : Nat} {xs : Nat → Int32} {u : am_U} {Q : State → Prop} {H : Heap} {locs : List Loc} {i cells slots : Nat} {ls : Array Slot} {M : am_M} {RI : am_M → Prop} (C : lw_Cx p s m c b L xs u) (hl : lw_Ls u b i ls) (hi : i + 5 < L) (hS : va_S (lw_A s) s.heap H locs) (hP : va_P u.1 am_cl (am_wl u M) H) (hM : am_wf M) (hRI : RI M) (hcs : cells ≤ 600000) (hss : slots ≤ 7302250) (hpr : lw_Pr RI 42 163 [iV (xs (i + 1)).toInt, iV (xs (i + 2)).toInt])
    (kk : ∀ (M2 : am_M) (H2 : Heap) (locs2 : List Loc), RI M2 → am_wf M2 → va_P u.1 am_cl (am_wl u M2) H2 → va_S (lw_A s) s.heap H2 locs2 → W p l e room_1 s m #[Value.ref b] below meth c H2 locs2 cells slots Q (F0 m 1633 ls [])) : W p l e room_1 s m #[Value.ref b] below meth c H locs cells slots Q (F0 m 1385 ls []) := by
  obtain ⟨r, M1, M2, h1, h2, h3⟩ := hpr M hRI hM
  have hx := C.1
  have hb := C.2.1
  refine lv_aload_n hx hb (show decode code 1385 = .ok (.aload_n 1, 1) by decide +kernel) rfl (lv_at hl 2 rfl) ?_
  refine lw_ld (k := 1) C hl hS (by omega) (show decode code 1386 = .ok (.aload_n 0, 1) by decide +kernel) (by decide +kernel) (by decide +kernel) (by decide +kernel) (by decide +kernel) ?_
  refine lw_ld (k := 2) C hl hS (by omega) (show decode code 1391 = .ok (.aload_n 0, 1) by decide +kernel) (by decide +kernel) (by decide +kernel) (by decide +kernel) (by decide +kernel) ?_
  refine lw_c1 (y := 42) (a := 70) (as := [iV (xs (i + 1)).toInt, iV (xs (i + 2)).toInt]) (rest := []) C hl hS hP hM (am_hc (nm_ir _) (am_hc (nm_ir _) (fun _ h => absurd h List.not_mem_nil))) h1 rfl clX11 my_42 rfl (am_w5 133 rfl rfl) is_42 se_42 rfl (by decide) (by decide) (by simp [am_rv, nm_iof]) (Nat.le_of_ble_eq_true rfl) hcs hss (show decode code 1396 = .ok (.invokevirtual 170, 3) by decide +kernel) (fun H locs hP hM hrr hS => ?_)
  refine lv_aload_n hx hb (show decode code 1399 = .ok (.aload_n 2, 1) by decide +kernel) rfl (lv_at hl 1 rfl) ?_
  refine lw_ld (k := 1) C hl hS (by omega) (show decode code 1400 = .ok (.aload_n 0, 1) by decide +kernel) (by decide +kernel) (by decide +kernel) (by decide +kernel) (by decide +kernel) ?_
  refine lw_ld (k := 2) C hl hS (by omega) (show decode code 1405 = .ok (.aload_n 0, 1) by decide +kernel) (by decide +kernel) (by decide +kernel) (by decide +kernel) (by decide +kernel) ?_
  refine lw_c1 (y := 163) (a := 72) (as := [iV (xs (i + 1)).toInt, iV (xs (i + 2)).toInt]) (rest := [.int (Int32.ofInt r)]) C hl hS hP hM (am_hc (nm_ir _) (am_hc (nm_ir _) (fun _ h => absurd h List.not_mem_nil))) h2 rfl clX12 my_163 rfl (am_w7 235 rfl rfl) is_163 se_163 rfl (by decide) (by decide) (by simp [am_rv, nm_iof]) (Nat.le_of_ble_eq_true rfl) hcs hss (show decode code 1410 = .ok (.invokevirtual 173, 3) by decide +kernel) (fun H locs hP hM hrr hS => ?_)
  refine lv_icmp_eq (tgt := 1633) hx hb (show decode code 1413 = .ok (.if_icmp .eq 220, 3) by decide +kernel) (by decide) (fun _ => ?_) (fun h => absurd rfl h)
  exact kk M2 H locs h3 hM hP hS
set_option maxRecDepth 100000 in
theorem lc_38 {p : Program} {l : Launch} {e : Env} {s : State} {m : MethodId} {below : List Frame} {meth : Method} {c : Code} {b L : Nat} {xs : Nat → Int32} {u : am_U} {Q : State → Prop} {H : Heap} {locs : List Loc} {i cells slots : Nat} {ls : Array Slot} {M : am_M} {RI : am_M → Prop} (C : lw_Cx p s m c b L xs u) (hl : lw_Ls u b i ls) (hi : i + 5 < L) (hS : va_S (lw_A s) s.heap H locs) (hP : va_P u.1 am_cl (am_wl u M) H) (hM : am_wf M) (hRI : RI M) (hcs : cells ≤ 600000) (hss : slots ≤ 7302250) (hpr : lw_Pr RI 43 164 [iV (xs (i + 1)).toInt, iV (xs (i + 2)).toInt, iV (xs (i + 3)).toInt])
    (kk : ∀ (M2 : am_M) (H2 : Heap) (locs2 : List Loc), RI M2 → am_wf M2 → va_P u.1 am_cl (am_wl u M2) H2 → va_S (lw_A s) s.heap H2 locs2 → W p l e room_1 s m #[Value.ref b] below meth c H2 locs2 cells slots Q (F0 m 1633 ls [])) : W p l e room_1 s m #[Value.ref b] below meth c H locs cells slots Q (F0 m 1418 ls []) := by
  obtain ⟨r, M1, M2, h1, h2, h3⟩ := hpr M hRI hM
  have hx := C.1
  have hb := C.2.1
  refine lv_aload_n hx hb (show decode code 1418 = .ok (.aload_n 1, 1) by decide +kernel) rfl (lv_at hl 2 rfl) ?_
  refine lw_ld (k := 1) C hl hS (by omega) (show decode code 1419 = .ok (.aload_n 0, 1) by decide +kernel) (by decide +kernel) (by decide +kernel) (by decide +kernel) (by decide +kernel) ?_
  refine lw_ld (k := 2) C hl hS (by omega) (show decode code 1424 = .ok (.aload_n 0, 1) by decide +kernel) (by decide +kernel) (by decide +kernel) (by decide +kernel) (by decide +kernel) ?_
  refine lw_ld (k := 3) C hl hS (by omega) (show decode code 1429 = .ok (.aload_n 0, 1) by decide +kernel) (by decide +kernel) (by decide +kernel) (by decide +kernel) (by decide +kernel) ?_
  refine lw_c1 (y := 43) (a := 70) (as := [iV (xs (i + 1)).toInt, iV (xs (i + 2)).toInt, iV (xs (i + 3)).toInt]) (rest := []) C hl hS hP hM (am_hc (nm_ir _) (am_hc (nm_ir _) (am_hc (nm_ir _) (fun _ h => absurd h List.not_mem_nil)))) h1 rfl clX11 my_43 rfl (am_w5 153 rfl rfl) is_43 se_43 rfl (by decide) (by decide) (by simp [am_rv, nm_iof]) (Nat.le_of_ble_eq_true rfl) hcs hss (show decode code 1434 = .ok (.invokevirtual 174, 3) by decide +kernel) (fun H locs hP hM hrr hS => ?_)
  refine lv_aload_n hx hb (show decode code 1437 = .ok (.aload_n 2, 1) by decide +kernel) rfl (lv_at hl 1 rfl) ?_
  refine lw_ld (k := 1) C hl hS (by omega) (show decode code 1438 = .ok (.aload_n 0, 1) by decide +kernel) (by decide +kernel) (by decide +kernel) (by decide +kernel) (by decide +kernel) ?_
  refine lw_ld (k := 2) C hl hS (by omega) (show decode code 1443 = .ok (.aload_n 0, 1) by decide +kernel) (by decide +kernel) (by decide +kernel) (by decide +kernel) (by decide +kernel) ?_
  refine lw_ld (k := 3) C hl hS (by omega) (show decode code 1448 = .ok (.aload_n 0, 1) by decide +kernel) (by decide +kernel) (by decide +kernel) (by decide +kernel) (by decide +kernel) ?_
  refine lw_c1 (y := 164) (a := 72) (as := [iV (xs (i + 1)).toInt, iV (xs (i + 2)).toInt, iV (xs (i + 3)).toInt]) (rest := [.int (Int32.ofInt r)]) C hl hS hP hM (am_hc (nm_ir _) (am_hc (nm_ir _) (am_hc (nm_ir _) (fun _ h => absurd h List.not_mem_nil)))) h2 rfl clX12 my_164 rfl (am_w8 3 rfl rfl) is_164 se_164 rfl (by decide) (by decide) (by simp [am_rv, nm_iof]) (Nat.le_of_ble_eq_true rfl) hcs hss (show decode code 1453 = .ok (.invokevirtual 177, 3) by decide +kernel) (fun H locs hP hM hrr hS => ?_)
  refine lv_icmp_eq (tgt := 1633) hx hb (show decode code 1456 = .ok (.if_icmp .eq 177, 3) by decide +kernel) (by decide) (fun _ => ?_) (fun h => absurd rfl h)
  exact kk M2 H locs h3 hM hP hS
set_option maxRecDepth 100000 in
theorem lc_39 {p : Program} {l : Launch} {e : Env} {s : State} {m : MethodId} {below : List Frame} {meth : Method} {c : Code} {b L : Nat} {xs : Nat → Int32} {u : am_U} {Q : State → Prop} {H : Heap} {locs : List Loc} {i cells slots : Nat} {ls : Array Slot} {M : am_M} {RI : am_M → Prop} (C : lw_Cx p s m c b L xs u) (hl : lw_Ls u b i ls) (hi : i + 5 < L) (hS : va_S (lw_A s) s.heap H locs) (hP : va_P u.1 am_cl (am_wl u M) H) (hM : am_wf M) (hRI : RI M) (hcs : cells ≤ 600000) (hss : slots ≤ 7302250) (hpr : lw_Pr RI 44 165 [iV (xs (i + 1)).toInt, iV (xs (i + 2)).toInt, iV (if (xs (i + 3)).toInt = 0 then 0 else 1)])
    (kk : ∀ (M2 : am_M) (H2 : Heap) (locs2 : List Loc), RI M2 → am_wf M2 → va_P u.1 am_cl (am_wl u M2) H2 → va_S (lw_A s) s.heap H2 locs2 → W p l e room_1 s m #[Value.ref b] below meth c H2 locs2 cells slots Q (F0 m 1633 ls [])) : W p l e room_1 s m #[Value.ref b] below meth c H locs cells slots Q (F0 m 1461 ls []) := by
  obtain ⟨r, M1, M2, h1, h2, h3⟩ := hpr M hRI hM
  have hx := C.1
  have hb := C.2.1
  refine lv_aload_n hx hb (show decode code 1461 = .ok (.aload_n 1, 1) by decide +kernel) rfl (lv_at hl 2 rfl) ?_
  refine lw_ld (k := 1) C hl hS (by omega) (show decode code 1462 = .ok (.aload_n 0, 1) by decide +kernel) (by decide +kernel) (by decide +kernel) (by decide +kernel) (by decide +kernel) ?_
  refine lw_ld (k := 2) C hl hS (by omega) (show decode code 1467 = .ok (.aload_n 0, 1) by decide +kernel) (by decide +kernel) (by decide +kernel) (by decide +kernel) (by decide +kernel) ?_
  refine lw_ld (k := 3) C hl hS (by omega) (show decode code 1472 = .ok (.aload_n 0, 1) by decide +kernel) (by decide +kernel) (by decide +kernel) (by decide +kernel) (by decide +kernel) ?_
  refine lw_bo C (show decode code 1477 = .ok (.ifCond .eq 7, 3) by decide +kernel) (by decide +kernel) (by decide +kernel) (by decide +kernel) ?_
  refine lw_c1 (y := 44) (a := 70) (as := [iV (xs (i + 1)).toInt, iV (xs (i + 2)).toInt, iV (if (xs (i + 3)).toInt = 0 then 0 else 1)]) (rest := []) C hl hS hP hM (am_hc (nm_ir _) (am_hc (nm_ir _) (am_hc (lw_br _) (fun _ h => absurd h List.not_mem_nil)))) h1 rfl clX11 my_44 rfl (am_w5 157 rfl rfl) is_44 se_44 rfl (by decide) (by decide) (by simp [am_rv, nm_iof]) (Nat.le_of_ble_eq_true rfl) hcs hss (show decode code 1485 = .ok (.invokevirtual 178, 3) by decide +kernel) (fun H locs hP hM hrr hS => ?_)
  refine lv_aload_n hx hb (show decode code 1488 = .ok (.aload_n 2, 1) by decide +kernel) rfl (lv_at hl 1 rfl) ?_
  refine lw_ld (k := 1) C hl hS (by omega) (show decode code 1489 = .ok (.aload_n 0, 1) by decide +kernel) (by decide +kernel) (by decide +kernel) (by decide +kernel) (by decide +kernel) ?_
  refine lw_ld (k := 2) C hl hS (by omega) (show decode code 1494 = .ok (.aload_n 0, 1) by decide +kernel) (by decide +kernel) (by decide +kernel) (by decide +kernel) (by decide +kernel) ?_
  refine lw_ld (k := 3) C hl hS (by omega) (show decode code 1499 = .ok (.aload_n 0, 1) by decide +kernel) (by decide +kernel) (by decide +kernel) (by decide +kernel) (by decide +kernel) ?_
  refine lw_bo C (show decode code 1504 = .ok (.ifCond .eq 7, 3) by decide +kernel) (by decide +kernel) (by decide +kernel) (by decide +kernel) ?_
  refine lw_c1 (y := 165) (a := 72) (as := [iV (xs (i + 1)).toInt, iV (xs (i + 2)).toInt, iV (if (xs (i + 3)).toInt = 0 then 0 else 1)]) (rest := [.int (Int32.ofInt r)]) C hl hS hP hM (am_hc (nm_ir _) (am_hc (nm_ir _) (am_hc (lw_br _) (fun _ h => absurd h List.not_mem_nil)))) h2 rfl clX12 my_165 rfl (am_w8 7 rfl rfl) is_165 se_165 rfl (by decide) (by decide) (by simp [am_rv, nm_iof]) (Nat.le_of_ble_eq_true rfl) hcs hss (show decode code 1512 = .ok (.invokevirtual 182, 3) by decide +kernel) (fun H locs hP hM hrr hS => ?_)
  refine lv_icmp_eq (tgt := 1633) hx hb (show decode code 1515 = .ok (.if_icmp .eq 118, 3) by decide +kernel) (by decide) (fun _ => ?_) (fun h => absurd rfl h)
  exact kk M2 H locs h3 hM hP hS
set_option maxRecDepth 100000 in
theorem lc_40 {p : Program} {l : Launch} {e : Env} {s : State} {m : MethodId} {below : List Frame} {meth : Method} {c : Code} {b L : Nat} {xs : Nat → Int32} {u : am_U} {Q : State → Prop} {H : Heap} {locs : List Loc} {i cells slots : Nat} {ls : Array Slot} {M : am_M} {RI : am_M → Prop} (C : lw_Cx p s m c b L xs u) (hl : lw_Ls u b i ls) (hi : i + 5 < L) (hS : va_S (lw_A s) s.heap H locs) (hP : va_P u.1 am_cl (am_wl u M) H) (hM : am_wf M) (hRI : RI M) (hcs : cells ≤ 600000) (hss : slots ≤ 7302250) (hpr : lw_Pr RI 45 166 [iV (xs (i + 1)).toInt])
    (kk : ∀ (M2 : am_M) (H2 : Heap) (locs2 : List Loc), RI M2 → am_wf M2 → va_P u.1 am_cl (am_wl u M2) H2 → va_S (lw_A s) s.heap H2 locs2 → W p l e room_1 s m #[Value.ref b] below meth c H2 locs2 cells slots Q (F0 m 1633 ls [])) : W p l e room_1 s m #[Value.ref b] below meth c H locs cells slots Q (F0 m 1520 ls []) := by
  obtain ⟨r, M1, M2, h1, h2, h3⟩ := hpr M hRI hM
  have hx := C.1
  have hb := C.2.1
  refine lv_aload_n hx hb (show decode code 1520 = .ok (.aload_n 1, 1) by decide +kernel) rfl (lv_at hl 2 rfl) ?_
  refine lw_ld (k := 1) C hl hS (by omega) (show decode code 1521 = .ok (.aload_n 0, 1) by decide +kernel) (by decide +kernel) (by decide +kernel) (by decide +kernel) (by decide +kernel) ?_
  refine lw_c2 (y := 45) (a := 70) (as := [iV (xs (i + 1)).toInt]) (rest := []) C hl hS hP hM (am_hc (nm_ir _) (fun _ h => absurd h List.not_mem_nil)) h1 rfl clX11 my_45 rfl (am_w5 162 rfl rfl) is_45 se_45 rfl (by decide) (by decide) (by simp [am_rv, nm_iof]) (Nat.le_of_ble_eq_true rfl) hcs hss (show decode code 1526 = .ok (.invokevirtual 183, 3) by decide +kernel) (fun H locs hP hM hrr hS => ?_)
  refine lv_aload_n hx hb (show decode code 1529 = .ok (.aload_n 2, 1) by decide +kernel) rfl (lv_at hl 1 rfl) ?_
  refine lw_ld (k := 1) C hl hS (by omega) (show decode code 1530 = .ok (.aload_n 0, 1) by decide +kernel) (by decide +kernel) (by decide +kernel) (by decide +kernel) (by decide +kernel) ?_
  refine lw_c2 (y := 166) (a := 72) (as := [iV (xs (i + 1)).toInt]) (rest := [.long (Int64.ofInt r)]) C hl hS hP hM (am_hc (nm_ir _) (fun _ h => absurd h List.not_mem_nil)) h2 rfl clX12 my_166 rfl (am_w8 11 rfl rfl) is_166 se_166 rfl (by decide) (by decide) (by simp [am_rv, nm_iof]) (Nat.le_of_ble_eq_true rfl) hcs hss (show decode code 1535 = .ok (.invokevirtual 186, 3) by decide +kernel) (fun H locs hP hM hrr hS => ?_)
  refine W.lcmp hx hb (show decode code 1538 = .ok (.lcmp, 1) by decide +kernel) ?_
  rw [nm_cmp hrr hrr, if_neg (by omega), if_pos rfl]
  refine lv_if_eq (tgt := 1633) hx hb (show decode code 1539 = .ok (.ifCond .eq 94, 3) by decide +kernel) (by decide) (fun _ => ?_) (fun h => absurd rfl h)
  exact kk M2 H locs h3 hM hP hS
set_option maxRecDepth 100000 in
theorem lc_41 {p : Program} {l : Launch} {e : Env} {s : State} {m : MethodId} {below : List Frame} {meth : Method} {c : Code} {b L : Nat} {xs : Nat → Int32} {u : am_U} {Q : State → Prop} {H : Heap} {locs : List Loc} {i cells slots : Nat} {ls : Array Slot} {M : am_M} {RI : am_M → Prop} (C : lw_Cx p s m c b L xs u) (hl : lw_Ls u b i ls) (hi : i + 5 < L) (hS : va_S (lw_A s) s.heap H locs) (hP : va_P u.1 am_cl (am_wl u M) H) (hM : am_wf M) (hRI : RI M) (hcs : cells ≤ 600000) (hss : slots ≤ 7302250) (hpr : lw_Pr RI 46 168 [iV (xs (i + 1)).toInt, iV (xs (i + 2)).toInt, iV (xs (i + 3)).toInt])
    (kk : ∀ (M2 : am_M) (H2 : Heap) (locs2 : List Loc), RI M2 → am_wf M2 → va_P u.1 am_cl (am_wl u M2) H2 → va_S (lw_A s) s.heap H2 locs2 → W p l e room_1 s m #[Value.ref b] below meth c H2 locs2 cells slots Q (F0 m 1633 ls [])) : W p l e room_1 s m #[Value.ref b] below meth c H locs cells slots Q (F0 m 1544 ls []) := by
  obtain ⟨r, M1, M2, h1, h2, h3⟩ := hpr M hRI hM
  have hx := C.1
  have hb := C.2.1
  refine lv_aload_n hx hb (show decode code 1544 = .ok (.aload_n 1, 1) by decide +kernel) rfl (lv_at hl 2 rfl) ?_
  refine lw_ld (k := 1) C hl hS (by omega) (show decode code 1545 = .ok (.aload_n 0, 1) by decide +kernel) (by decide +kernel) (by decide +kernel) (by decide +kernel) (by decide +kernel) ?_
  refine lw_ld (k := 2) C hl hS (by omega) (show decode code 1550 = .ok (.aload_n 0, 1) by decide +kernel) (by decide +kernel) (by decide +kernel) (by decide +kernel) (by decide +kernel) ?_
  refine lw_ld (k := 3) C hl hS (by omega) (show decode code 1555 = .ok (.aload_n 0, 1) by decide +kernel) (by decide +kernel) (by decide +kernel) (by decide +kernel) (by decide +kernel) ?_
  refine lw_c1 (y := 46) (a := 70) (as := [iV (xs (i + 1)).toInt, iV (xs (i + 2)).toInt, iV (xs (i + 3)).toInt]) (rest := []) C hl hS hP hM (am_hc (nm_ir _) (am_hc (nm_ir _) (am_hc (nm_ir _) (fun _ h => absurd h List.not_mem_nil)))) h1 rfl clX11 my_46 rfl (am_w5 178 rfl rfl) is_46 se_46 rfl (by decide) (by decide) (by simp [am_rv, nm_iof]) (Nat.le_of_ble_eq_true rfl) hcs hss (show decode code 1560 = .ok (.invokevirtual 187, 3) by decide +kernel) (fun H locs hP hM hrr hS => ?_)
  refine lv_aload_n hx hb (show decode code 1563 = .ok (.aload_n 2, 1) by decide +kernel) rfl (lv_at hl 1 rfl) ?_
  refine lw_ld (k := 1) C hl hS (by omega) (show decode code 1564 = .ok (.aload_n 0, 1) by decide +kernel) (by decide +kernel) (by decide +kernel) (by decide +kernel) (by decide +kernel) ?_
  refine lw_ld (k := 2) C hl hS (by omega) (show decode code 1569 = .ok (.aload_n 0, 1) by decide +kernel) (by decide +kernel) (by decide +kernel) (by decide +kernel) (by decide +kernel) ?_
  refine lw_ld (k := 3) C hl hS (by omega) (show decode code 1574 = .ok (.aload_n 0, 1) by decide +kernel) (by decide +kernel) (by decide +kernel) (by decide +kernel) (by decide +kernel) ?_
  refine lw_c1 (y := 168) (a := 72) (as := [iV (xs (i + 1)).toInt, iV (xs (i + 2)).toInt, iV (xs (i + 3)).toInt]) (rest := [.int (Int32.ofInt r)]) C hl hS hP hM (am_hc (nm_ir _) (am_hc (nm_ir _) (am_hc (nm_ir _) (fun _ h => absurd h List.not_mem_nil)))) h2 rfl clX12 my_168 rfl (am_w8 16 rfl rfl) is_168 se_168 rfl (by decide) (by decide) (by simp [am_rv, nm_iof]) (Nat.le_of_ble_eq_true rfl) hcs hss (show decode code 1579 = .ok (.invokevirtual 190, 3) by decide +kernel) (fun H locs hP hM hrr hS => ?_)
  refine lv_icmp_eq (tgt := 1633) hx hb (show decode code 1582 = .ok (.if_icmp .eq 51, 3) by decide +kernel) (by decide) (fun _ => ?_) (fun h => absurd rfl h)
  exact kk M2 H locs h3 hM hP hS
set_option maxRecDepth 100000 in
theorem lc_42 {p : Program} {l : Launch} {e : Env} {s : State} {m : MethodId} {below : List Frame} {meth : Method} {c : Code} {b L : Nat} {xs : Nat → Int32} {u : am_U} {Q : State → Prop} {H : Heap} {locs : List Loc} {i cells slots : Nat} {ls : Array Slot} {M : am_M} {RI : am_M → Prop} (C : lw_Cx p s m c b L xs u) (hl : lw_Ls u b i ls) (hi : i + 5 < L) (hS : va_S (lw_A s) s.heap H locs) (hP : va_P u.1 am_cl (am_wl u M) H) (hM : am_wf M) (hRI : RI M) (hcs : cells ≤ 600000) (hss : slots ≤ 7302250) (hpr : lw_Pr RI 47 169 [iV (xs (i + 1)).toInt])
    (kk : ∀ (M2 : am_M) (H2 : Heap) (locs2 : List Loc), RI M2 → am_wf M2 → va_P u.1 am_cl (am_wl u M2) H2 → va_S (lw_A s) s.heap H2 locs2 → W p l e room_1 s m #[Value.ref b] below meth c H2 locs2 cells slots Q (F0 m 1633 ls [])) : W p l e room_1 s m #[Value.ref b] below meth c H locs cells slots Q (F0 m 1587 ls []) := by
  obtain ⟨r, M1, M2, h1, h2, h3⟩ := hpr M hRI hM
  have hx := C.1
  have hb := C.2.1
  refine lv_aload_n hx hb (show decode code 1587 = .ok (.aload_n 1, 1) by decide +kernel) rfl (lv_at hl 2 rfl) ?_
  refine lw_ld (k := 1) C hl hS (by omega) (show decode code 1588 = .ok (.aload_n 0, 1) by decide +kernel) (by decide +kernel) (by decide +kernel) (by decide +kernel) (by decide +kernel) ?_
  refine lw_c1 (y := 47) (a := 70) (as := [iV (xs (i + 1)).toInt]) (rest := []) C hl hS hP hM (am_hc (nm_ir _) (fun _ h => absurd h List.not_mem_nil)) h1 rfl clX11 my_47 rfl (am_w5 187 rfl rfl) is_47 se_47 rfl (by decide) (by decide) (by simp [am_rv, nm_iof]) (Nat.le_of_ble_eq_true rfl) hcs hss (show decode code 1593 = .ok (.invokevirtual 191, 3) by decide +kernel) (fun H locs hP hM hrr hS => ?_)
  refine lv_aload_n hx hb (show decode code 1596 = .ok (.aload_n 2, 1) by decide +kernel) rfl (lv_at hl 1 rfl) ?_
  refine lw_ld (k := 1) C hl hS (by omega) (show decode code 1597 = .ok (.aload_n 0, 1) by decide +kernel) (by decide +kernel) (by decide +kernel) (by decide +kernel) (by decide +kernel) ?_
  refine lw_c1 (y := 169) (a := 72) (as := [iV (xs (i + 1)).toInt]) (rest := [.int (Int32.ofInt r)]) C hl hS hP hM (am_hc (nm_ir _) (fun _ h => absurd h List.not_mem_nil)) h2 rfl clX12 my_169 rfl (am_w8 25 rfl rfl) is_169 se_169 rfl (by decide) (by decide) (by simp [am_rv, nm_iof]) (Nat.le_of_ble_eq_true rfl) hcs hss (show decode code 1602 = .ok (.invokevirtual 194, 3) by decide +kernel) (fun H locs hP hM hrr hS => ?_)
  refine lv_icmp_eq (tgt := 1633) hx hb (show decode code 1605 = .ok (.if_icmp .eq 28, 3) by decide +kernel) (by decide) (fun _ => ?_) (fun h => absurd rfl h)
  exact kk M2 H locs h3 hM hP hS
set_option maxRecDepth 100000 in
theorem lc_43 {p : Program} {l : Launch} {e : Env} {s : State} {m : MethodId} {below : List Frame} {meth : Method} {c : Code} {b L : Nat} {xs : Nat → Int32} {u : am_U} {Q : State → Prop} {H : Heap} {locs : List Loc} {i cells slots : Nat} {ls : Array Slot} {M : am_M} {RI : am_M → Prop} (C : lw_Cx p s m c b L xs u) (hl : lw_Ls u b i ls) (hi : i + 5 < L) (hS : va_S (lw_A s) s.heap H locs) (hP : va_P u.1 am_cl (am_wl u M) H) (hM : am_wf M) (hRI : RI M) (hcs : cells ≤ 600000) (hss : slots ≤ 7302250) (hpr : lw_Pr RI 48 170 [iV (xs (i + 1)).toInt])
    (kk : ∀ (M2 : am_M) (H2 : Heap) (locs2 : List Loc), RI M2 → am_wf M2 → va_P u.1 am_cl (am_wl u M2) H2 → va_S (lw_A s) s.heap H2 locs2 → W p l e room_1 s m #[Value.ref b] below meth c H2 locs2 cells slots Q (F0 m 1633 ls [])) : W p l e room_1 s m #[Value.ref b] below meth c H locs cells slots Q (F0 m 1610 ls []) := by
  obtain ⟨r, M1, M2, h1, h2, h3⟩ := hpr M hRI hM
  have hx := C.1
  have hb := C.2.1
  refine lv_aload_n hx hb (show decode code 1610 = .ok (.aload_n 1, 1) by decide +kernel) rfl (lv_at hl 2 rfl) ?_
  refine lw_ld (k := 1) C hl hS (by omega) (show decode code 1611 = .ok (.aload_n 0, 1) by decide +kernel) (by decide +kernel) (by decide +kernel) (by decide +kernel) (by decide +kernel) ?_
  refine lw_c1 (y := 48) (a := 70) (as := [iV (xs (i + 1)).toInt]) (rest := []) C hl hS hP hM (am_hc (nm_ir _) (fun _ h => absurd h List.not_mem_nil)) h1 rfl clX11 my_48 rfl (am_w5 197 rfl rfl) is_48 se_48 rfl (by decide) (by decide) (by simp [am_rv, nm_iof]) (Nat.le_of_ble_eq_true rfl) hcs hss (show decode code 1616 = .ok (.invokevirtual 195, 3) by decide +kernel) (fun H locs hP hM hrr hS => ?_)
  refine lv_aload_n hx hb (show decode code 1619 = .ok (.aload_n 2, 1) by decide +kernel) rfl (lv_at hl 1 rfl) ?_
  refine lw_ld (k := 1) C hl hS (by omega) (show decode code 1620 = .ok (.aload_n 0, 1) by decide +kernel) (by decide +kernel) (by decide +kernel) (by decide +kernel) (by decide +kernel) ?_
  refine lw_c1 (y := 170) (a := 72) (as := [iV (xs (i + 1)).toInt]) (rest := [.int (Int32.ofInt r)]) C hl hS hP hM (am_hc (nm_ir _) (fun _ h => absurd h List.not_mem_nil)) h2 rfl clX12 my_170 rfl (am_w8 29 rfl rfl) is_170 se_170 rfl (by decide) (by decide) (by simp [am_rv, nm_iof]) (Nat.le_of_ble_eq_true rfl) hcs hss (show decode code 1625 = .ok (.invokevirtual 198, 3) by decide +kernel) (fun H locs hP hM hrr hS => ?_)
  refine lv_icmp_eq (tgt := 1633) hx hb (show decode code 1628 = .ok (.if_icmp .eq 5, 3) by decide +kernel) (by decide) (fun _ => ?_) (fun h => absurd rfl h)
  exact kk M2 H locs h3 hM hP hS
