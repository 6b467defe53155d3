-- tell
theorem cpi_in (M : am_M) (s d n : Nat) {j : Nat} (h : j < n) : am_cpy M s 0 d 0 n d j = M s j := by
  unfold am_cpy
  rw [if_pos ⟨rfl, by omega, by omega⟩, show 0 + (j - 0) = j by omega]
/-- the told row takes the draft -/
theorem t_copy {C : am_M} {s : Nat → Int} (hv : vT s) (hc : cT s C 17) (hk : kT C 0) : ∃ C', cY 239 [rV 0, rV 17] C = some (0, C') ∧ (∀ a, 16 < a → C' a = C a) ∧ cT s C' 0 ∧ kT C' 0 ∧ ∀ f, f < 8 → C' 4 f = C 21 f := by
  obtain ⟨b0, b1, b2, b3, b4, -⟩ := hv
  obtain ⟨c0, c1, c2, c3, c4, hset, hz, hr, hf, ho, hs, hl, hh⟩ := hc
  obtain ⟨⟨k1, k2⟩, ⟨k3, k4⟩, ⟨k5, k6⟩⟩ := hk
  have c0 : C 17 0 = s 0 := c0
  have c1 : C 17 4 = s 1 := c1
  have c2 : C 28 3 = s 2 := c2
  have c3 : C 30 3 = s 3 := c3
  have c4 : C 32 3 = s 4 := c4
  have k1 : C 11 0 = 12 := k1
  have k2 : C 11 1 = 3 := k2
  have k3 : C 13 0 = 12 := k3
  have k4 : C 13 1 = 4 := k4
  have k5 : C 15 0 = 6 := k5
  have k6 : C 15 1 = 3 := k6
  -- step by step
  obtain ⟨A0, hA0⟩ : ∃ A, A = am_up (am_up C 0 0 (C 17 0)) 0 4 (C 17 4) := ⟨_, rfl⟩
  obtain ⟨A1, hA1⟩ : ∃ A, A = am_cpy A0 18 0 1 0 11 := ⟨_, rfl⟩
  obtain ⟨A2, hA2⟩ : ∃ A, A = am_cpy A1 19 0 2 0 11 := ⟨_, rfl⟩
  obtain ⟨A3, hA3⟩ : ∃ A, A = am_cpy A2 20 0 3 0 10 := ⟨_, rfl⟩
  obtain ⟨A4, hA4⟩ : ∃ A, A = am_cpy A3 21 0 4 0 8 := ⟨_, rfl⟩
  obtain ⟨A5, hA5⟩ : ∃ A, A = am_cpy A4 22 0 5 0 8 := ⟨_, rfl⟩
  obtain ⟨A6, hA6⟩ : ∃ A, A = am_cpy A5 23 0 6 0 8 := ⟨_, rfl⟩
  obtain ⟨A7, hA7⟩ : ∃ A, A = am_cpy A6 24 0 7 0 8 := ⟨_, rfl⟩
  obtain ⟨A8, hA8⟩ : ∃ A, A = am_cpy A7 25 0 8 0 8 := ⟨_, rfl⟩
  obtain ⟨A9, hA9⟩ : ∃ A, A = am_cpy A8 26 0 9 0 8 := ⟨_, rfl⟩
  obtain ⟨A10, hA10⟩ : ∃ A, A = am_cpy A9 27 0 10 0 7 := ⟨_, rfl⟩
  have n0 : ∀ a, a ≠ 0 → A0 a = C a := fun a h => by rw [hA0, am_up_ne _ _ _ _ h, am_up_ne _ _ _ _ h]
  have n1 : ∀ a, a ≠ 1 → A1 a = A0 a := fun a h => by rw [hA1, am_cpy_ne _ _ _ _ _ _ h]
  have n2 : ∀ a, a ≠ 2 → A2 a = A1 a := fun a h => by rw [hA2, am_cpy_ne _ _ _ _ _ _ h]
  have n3 : ∀ a, a ≠ 3 → A3 a = A2 a := fun a h => by rw [hA3, am_cpy_ne _ _ _ _ _ _ h]
  have n4 : ∀ a, a ≠ 4 → A4 a = A3 a := fun a h => by rw [hA4, am_cpy_ne _ _ _ _ _ _ h]
  have n5 : ∀ a, a ≠ 5 → A5 a = A4 a := fun a h => by rw [hA5, am_cpy_ne _ _ _ _ _ _ h]
  have n6 : ∀ a, a ≠ 6 → A6 a = A5 a := fun a h => by rw [hA6, am_cpy_ne _ _ _ _ _ _ h]
  have n7 : ∀ a, a ≠ 7 → A7 a = A6 a := fun a h => by rw [hA7, am_cpy_ne _ _ _ _ _ _ h]
  have n8 : ∀ a, a ≠ 8 → A8 a = A7 a := fun a h => by rw [hA8, am_cpy_ne _ _ _ _ _ _ h]
  have n9 : ∀ a, a ≠ 9 → A9 a = A8 a := fun a h => by rw [hA9, am_cpy_ne _ _ _ _ _ _ h]
  have n10 : ∀ a, a ≠ 10 → A10 a = A9 a := fun a h => by rw [hA10, am_cpy_ne _ _ _ _ _ _ h]
  have up : ∀ a, 10 < a → A10 a = C a := fun a h => by rw [n10 a (by omega), n9 a (by omega), n8 a (by omega), n7 a (by omega), n6 a (by omega), n5 a (by omega), n4 a (by omega), n3 a (by omega), n2 a (by omega), n1 a (by omega), n0 a (by omega)]
  have x0 : A10 0 0 = C 17 0 ∧ A10 0 4 = C 17 4 := by
    rw [n10 0 (by omega), n9 0 (by omega), n8 0 (by omega), n7 0 (by omega), n6 0 (by omega), n5 0 (by omega), n4 0 (by omega), n3 0 (by omega), n2 0 (by omega), n1 0 (by omega), hA0]
    exact ⟨by rw [am_up_nj _ _ _ _ (by decide), am_up_at], am_up_at _ _ _ _⟩
  have x1 : ∀ i, i < 11 → A10 1 i = C 18 i := fun i hi => by rw [n10 1 (by omega), n9 1 (by omega), n8 1 (by omega), n7 1 (by omega), n6 1 (by omega), n5 1 (by omega), n4 1 (by omega), n3 1 (by omega), n2 1 (by omega), hA1, cpi_in _ _ _ _ hi, n0 18 (by omega)]
  have x2 : ∀ i, i < 11 → A10 2 i = C 19 i := fun i hi => by rw [n10 2 (by omega), n9 2 (by omega), n8 2 (by omega), n7 2 (by omega), n6 2 (by omega), n5 2 (by omega), n4 2 (by omega), n3 2 (by omega), hA2, cpi_in _ _ _ _ hi, n1 19 (by omega), n0 19 (by omega)]
  have x3 : ∀ i, i < 10 → A10 3 i = C 20 i := fun i hi => by rw [n10 3 (by omega), n9 3 (by omega), n8 3 (by omega), n7 3 (by omega), n6 3 (by omega), n5 3 (by omega), n4 3 (by omega), hA3, cpi_in _ _ _ _ hi, n2 20 (by omega), n1 20 (by omega), n0 20 (by omega)]
  have x4 : ∀ i, i < 8 → A10 4 i = C 21 i := fun i hi => by rw [n10 4 (by omega), n9 4 (by omega), n8 4 (by omega), n7 4 (by omega), n6 4 (by omega), n5 4 (by omega), hA4, cpi_in _ _ _ _ hi, n3 21 (by omega), n2 21 (by omega), n1 21 (by omega), n0 21 (by omega)]
  have x5 : ∀ i, i < 8 → A10 5 i = C 22 i := fun i hi => by rw [n10 5 (by omega), n9 5 (by omega), n8 5 (by omega), n7 5 (by omega), n6 5 (by omega), hA5, cpi_in _ _ _ _ hi, n4 22 (by omega), n3 22 (by omega), n2 22 (by omega), n1 22 (by omega), n0 22 (by omega)]
  have x6 : ∀ i, i < 8 → A10 6 i = C 23 i := fun i hi => by rw [n10 6 (by omega), n9 6 (by omega), n8 6 (by omega), n7 6 (by omega), hA6, cpi_in _ _ _ _ hi, n5 23 (by omega), n4 23 (by omega), n3 23 (by omega), n2 23 (by omega), n1 23 (by omega), n0 23 (by omega)]
  have x7 : ∀ i, i < 8 → A10 7 i = C 24 i := fun i hi => by rw [n10 7 (by omega), n9 7 (by omega), n8 7 (by omega), hA7, cpi_in _ _ _ _ hi, n6 24 (by omega), n5 24 (by omega), n4 24 (by omega), n3 24 (by omega), n2 24 (by omega), n1 24 (by omega), n0 24 (by omega)]
  have x8 : ∀ i, i < 8 → A10 8 i = C 25 i := fun i hi => by rw [n10 8 (by omega), n9 8 (by omega), hA8, cpi_in _ _ _ _ hi, n7 25 (by omega), n6 25 (by omega), n5 25 (by omega), n4 25 (by omega), n3 25 (by omega), n2 25 (by omega), n1 25 (by omega), n0 25 (by omega)]
  have x9 : ∀ i, i < 8 → A10 9 i = C 26 i := fun i hi => by rw [n10 9 (by omega), hA9, cpi_in _ _ _ _ hi, n8 26 (by omega), n7 26 (by omega), n6 26 (by omega), n5 26 (by omega), n4 26 (by omega), n3 26 (by omega), n2 26 (by omega), n1 26 (by omega), n0 26 (by omega)]
  have x10 : ∀ i, i < 7 → A10 10 i = C 27 i := fun i hi => by rw [hA10, cpi_in _ _ _ _ hi, n9 27 (by omega), n8 27 (by omega), n7 27 (by omega), n6 27 (by omega), n5 27 (by omega), n4 27 (by omega), n3 27 (by omega), n2 27 (by omega), n1 27 (by omega), n0 27 (by omega)]
  have st : cY 239 [rV 0, rV 17] C = am_cb (cY 223 [rV 11, rV 28] A10) (fun _ M2 => am_cb (cY 223 [rV 13, rV 30] M2) (fun _ M4 => am_cb (cY 223 [rV 15, rV 32] M4) (fun _ M6 => some (0, M6)))) := by
    rw [hA10, hA9, hA8, hA7, hA6, hA5, hA4, hA3, hA2, hA1, hA0]
    exact e_Told_copyFrom C
  clear hA0 hA1 hA2 hA3 hA4 hA5 hA6 hA7 hA8 hA9 hA10 n0 n1 n2 n3 n4 n5 n6 n7 n8 n9 n10
  obtain ⟨B1, hB1⟩ : ∃ B, B = am_up (am_cpy A10 29 0 12 0 36) 11 3 (s 2) := ⟨_, rfl⟩
  have u1 : cY 223 [rV 11, rV 28] A10 = some (0, B1) := by rw [e_Rows_copyFrom_11_28, up 28 (by omega), up 11 (by omega), c2, k1, show min (s 2) 12 = s 2 by omega, hB1]
  have w1 : ∀ a, a ≠ 11 → a ≠ 12 → B1 a = A10 a := fun a h1 h2 => by rw [hB1, am_up_ne _ _ _ _ h1, am_cpy_ne _ _ _ _ _ _ h2]
  have w1a : B1 11 3 = s 2 ∧ B1 11 0 = 12 ∧ B1 11 1 = 3 := by
    rw [hB1]
    exact ⟨am_up_at _ _ _ _, by rw [am_up_nj _ _ _ _ (by decide), am_cpy_ne _ _ _ _ _ _ (by decide), up 11 (by omega)]; exact k1, by rw [am_up_nj _ _ _ _ (by decide), am_cpy_ne _ _ _ _ _ _ (by decide), up 11 (by omega)]; exact k2⟩
  have w1b : ∀ i, i < 36 → B1 12 i = C 29 i := fun i hi => by rw [hB1, am_up_ne _ _ _ _ (by decide), cpi_in _ _ _ _ hi, up 29 (by omega)]
  obtain ⟨B2, hB2⟩ : ∃ B, B = am_up (am_cpy B1 31 0 14 0 48) 13 3 (s 3) := ⟨_, rfl⟩
  have u2 : cY 223 [rV 13, rV 30] B1 = some (0, B2) := by rw [e_Rows_copyFrom_13_30, w1 30 (by omega) (by omega), w1 13 (by omega) (by omega), up 30 (by omega), up 13 (by omega), c3, k3, show min (s 3) 12 = s 3 by omega, hB2]
  have w2 : ∀ a, a ≠ 13 → a ≠ 14 → B2 a = B1 a := fun a h1 h2 => by rw [hB2, am_up_ne _ _ _ _ h1, am_cpy_ne _ _ _ _ _ _ h2]
  have w2a : B2 13 3 = s 3 ∧ B2 13 0 = 12 ∧ B2 13 1 = 4 := by
    rw [hB2]
    exact ⟨am_up_at _ _ _ _, by rw [am_up_nj _ _ _ _ (by decide), am_cpy_ne _ _ _ _ _ _ (by decide), w1 13 (by omega) (by omega), up 13 (by omega)]; exact k3, by rw [am_up_nj _ _ _ _ (by decide), am_cpy_ne _ _ _ _ _ _ (by decide), w1 13 (by omega) (by omega), up 13 (by omega)]; exact k4⟩
  have w2b : ∀ i, i < 48 → B2 14 i = C 31 i := fun i hi => by rw [hB2, am_up_ne _ _ _ _ (by decide), cpi_in _ _ _ _ hi, w1 31 (by omega) (by omega), up 31 (by omega)]
  obtain ⟨B3, hB3⟩ : ∃ B, B = am_up (am_cpy B2 33 0 16 0 18) 15 3 (s 4) := ⟨_, rfl⟩
  have u3 : cY 223 [rV 15, rV 32] B2 = some (0, B3) := by rw [e_Rows_copyFrom_15_32, w2 32 (by omega) (by omega), w2 15 (by omega) (by omega), w1 32 (by omega) (by omega), w1 15 (by omega) (by omega), up 32 (by omega), up 15 (by omega), c4, k5, show min (s 4) 6 = s 4 by omega, hB3]
  have w3 : ∀ a, a ≠ 15 → a ≠ 16 → B3 a = B2 a := fun a h1 h2 => by rw [hB3, am_up_ne _ _ _ _ h1, am_cpy_ne _ _ _ _ _ _ h2]
  have w3a : B3 15 3 = s 4 ∧ B3 15 0 = 6 ∧ B3 15 1 = 3 := by
    rw [hB3]
    exact ⟨am_up_at _ _ _ _, by rw [am_up_nj _ _ _ _ (by decide), am_cpy_ne _ _ _ _ _ _ (by decide), w2 15 (by omega) (by omega), w1 15 (by omega) (by omega), up 15 (by omega)]; exact k5, by rw [am_up_nj _ _ _ _ (by decide), am_cpy_ne _ _ _ _ _ _ (by decide), w2 15 (by omega) (by omega), w1 15 (by omega) (by omega), up 15 (by omega)]; exact k6⟩
  have w3b : ∀ i, i < 18 → B3 16 i = C 33 i := fun i hi => by rw [hB3, am_up_ne _ _ _ _ (by decide), cpi_in _ _ _ _ hi, w2 33 (by omega) (by omega), w1 33 (by omega) (by omega), up 33 (by omega)]
  clear hB1 hB2 hB3
  have lo : ∀ a, a ≤ 10 → B3 a = A10 a := fun a h => by rw [w3 a (by omega) (by omega), w2 a (by omega) (by omega), w1 a (by omega) (by omega)]
  refine ⟨B3, by rw [st, u1, am_cb_s, u2, am_cb_s, u3, am_cb_s], fun a ha => by rw [w3 a (by omega) (by omega), w2 a (by omega) (by omega), w1 a (by omega) (by omega), up a (by omega)], ⟨?_, ?_, ?_, ?_, ?_, ?_, ?_, ?_, ?_, ?_, ?_, ?_, ?_⟩, ⟨⟨?_, ?_⟩, ⟨?_, ?_⟩, ⟨?_, ?_⟩⟩, fun f hf => by rw [lo 4 (by omega)]; exact x4 f hf⟩
  · rw [lo 0 (by omega), x0.1]; exact c0
  · rw [lo 0 (by omega), x0.2]; exact c1
  · show B3 11 3 = _; rw [w3 11 (by omega) (by omega), w2 11 (by omega) (by omega)]; exact w1a.1
  · show B3 13 3 = _; rw [w3 13 (by omega) (by omega)]; exact w2a.1
  · exact w3a.1
  · intro i hi; show B3 10 i = _; rw [lo 10 (by omega), x10 i hi]; exact hset i hi
  · show B3 1 0 = 0 ∧ B3 2 0 = 0; rw [lo 1 (by omega), lo 2 (by omega), x1 0 (by omega), x2 0 (by omega)]; exact hz
  · intro r hr'
    show B3 1 (r + 1) = B3 1 r + _ ∧ B3 2 (r + 1) = B3 2 r + _ ∧ B3 3 r = _
    rw [lo 1 (by omega), lo 2 (by omega), lo 3 (by omega), x1 _ (by omega), x1 _ (by omega), x2 _ (by omega), x2 _ (by omega), x3 _ (by omega)]
    exact hr r hr'
  · intro f hf'
    show B3 5 f = _ ∧ B3 6 f = _ ∧ B3 7 f = _ ∧ B3 8 f = _
    rw [lo 5 (by omega), lo 6 (by omega), lo 7 (by omega), lo 8 (by omega), x5 _ (by omega), x6 _ (by omega), x7 _ (by omega), x8 _ (by omega)]
    exact hf f hf'
  · intro p hp; show B3 9 p = _; rw [lo 9 (by omega), x9 _ (by omega)]; exact ho p hp
  · intro k hk j hj; show B3 12 _ = _; rw [w3 12 (by omega) (by omega), w2 12 (by omega) (by omega), w1b _ (by omega)]; exact hs k hk j hj
  · intro k hk j hj; show B3 14 _ = _; rw [w3 14 (by omega) (by omega), w2b _ (by omega)]; exact hl k hk j hj
  · intro k hk j hj; show B3 16 _ = _; rw [w3b _ (by omega)]; exact hh k hk j hj
  · show B3 11 0 = _; rw [w3 11 (by omega) (by omega), w2 11 (by omega) (by omega)]; exact w1a.2.1
  · show B3 11 1 = _; rw [w3 11 (by omega) (by omega), w2 11 (by omega) (by omega)]; exact w1a.2.2
  · show B3 13 0 = _; rw [w3 13 (by omega) (by omega)]; exact w2a.2.1
  · show B3 13 1 = _; rw [w3 13 (by omega) (by omega)]; exact w2a.2.2
  · exact w3a.2.1
  · exact w3a.2.2
/-- the class opens its reader -/
theorem t_open {M : am_M} (hR : RI M) (e : Nat) (he : (e : Int) ≤ M 34 2) : ∃ C0, cY 194 [rV 34, iV (e : Int)] M = some (0, C0) ∧ (∀ a, a < 17 ∨ 34 < a → C0 a = M a) ∧ (C0 34 2 = 0 ∧ C0 34 3 = (e : Int) ∧ C0 34 4 = 0 ∧ C0 34 7 = 0 ∧ C0 34 8 = -1) ∧ GC C0 ∧ (C0 17 0 = 0 ∧ C0 17 4 = 0 ∧ C0 28 3 = 0 ∧ C0 30 3 = 0 ∧ C0 32 3 = 0) ∧ (C0 27 0 = 60 ∧ C0 27 1 = 0 ∧ C0 27 2 = 18 ∧ C0 27 3 = 6 ∧ C0 27 4 = 1 ∧ C0 27 5 = 0 ∧ C0 27 6 = 0) := by
  obtain ⟨r1, r2, r3, ⟨⟨y1, y2⟩, ⟨y3, y4⟩, ⟨y5, y6⟩⟩, r5, r6, r7, r8, r9, -⟩ := hR
  have y1 : M 28 0 = 12 := y1
  have y2 : M 28 1 = 3 := y2
  have y3 : M 30 0 = 12 := y3
  have y4 : M 30 1 = 4 := y4
  have y5 : M 32 0 = 6 := y5
  have y6 : M 32 1 = 3 := y6
  rw [e_Reader_open, e_Told_clear, am_cb_s, show min (e : Int) (M 34 2) = (e : Int) by omega]
  refine ⟨_, rfl, fun a ha => ?_, ?_, ⟨⟨⟨?_, ?_⟩, ⟨?_, ?_⟩, ⟨?_, ?_⟩⟩, ?_, ?_⟩, ?_, ?_⟩
  · iterate 17 rw [am_up_ne _ _ _ _ (by omega)]
  · simp [am_up]
  · simpa [am_up] using y1
  · simpa [am_up] using y2
  · simpa [am_up] using y3
  · simpa [am_up] using y4
  · simpa [am_up] using y5
  · simpa [am_up] using y6
  · simpa [am_up] using r9.1
  · simpa [am_up] using r9.2.1
  · simp [am_up]
  · simp [am_up]
theorem t_DR {C0 N0 : am_M} (hG : GC C0) (h1 : C0 17 0 = 0 ∧ C0 17 4 = 0 ∧ C0 28 3 = 0 ∧ C0 30 3 = 0 ∧ C0 32 3 = 0) (h2 : C0 27 0 = 60 ∧ C0 27 1 = 0 ∧ C0 27 2 = 18 ∧ C0 27 3 = 6 ∧ C0 27 4 = 1 ∧ C0 27 5 = 0 ∧ C0 27 6 = 0) (hp : ∀ i, i < 184 → N0 73 i = pln i) : DR C0 N0 := by
  have p0 : N0 73 0 = 0 := hp 0 (by omega)
  have p1 : N0 73 1 = 0 := hp 1 (by omega)
  have p2 : N0 73 2 = 0 := hp 2 (by omega)
  have p3 : N0 73 3 = 0 := hp 3 (by omega)
  have p4 : N0 73 4 = 0 := hp 4 (by omega)
  have p5 : N0 73 5 = 60 := hp 5 (by omega)
  have p6 : N0 73 6 = 0 := hp 6 (by omega)
  have p7 : N0 73 7 = 18 := hp 7 (by omega)
  have p8 : N0 73 8 = 6 := hp 8 (by omega)
  have p9 : N0 73 9 = 1 := hp 9 (by omega)
  have p10 : N0 73 10 = 0 := hp 10 (by omega)
  have p11 : N0 73 11 = 0 := hp 11 (by omega)
  refine ⟨⟨by omega, by omega, by omega, by omega, by omega, by omega, fun r hr => by omega, fun r hr => by omega, ⟨fun r hr => by omega, fun r r' hr => by omega⟩, fun r hr => by omega, fun r hr => by omega, fun r hr => by omega⟩, ⟨by rw [p0]; exact h1.1, by rw [p1]; exact h1.2.1, by rw [p2]; exact h1.2.2.1, by rw [p3]; exact h1.2.2.2.1, by rw [p4]; exact h1.2.2.2.2, ?_, hG.2, fun r hr => by omega, fun r hr => by omega, fun r hr => by omega, fun r hr => by omega, fun r hr => by omega, fun r hr => by omega⟩, hG.1, fun f hf => by omega, fun f hf hf8 => ⟨?_, ?_⟩⟩
  · intro i hi
    show C0 27 i = N0 73 (5 + i)
    rcases (show i = 0 ∨ i = 1 ∨ i = 2 ∨ i = 3 ∨ i = 4 ∨ i = 5 ∨ i = 6 by omega) with rfl | rfl | rfl | rfl | rfl | rfl | rfl
    · exact h2.1.trans p5.symm
    · exact h2.2.1.trans p6.symm
    · exact h2.2.2.1.trans p7.symm
    · exact h2.2.2.2.1.trans p8.symm
    · exact h2.2.2.2.2.1.trans p9.symm
    · exact h2.2.2.2.2.2.1.trans p10.symm
    · exact h2.2.2.2.2.2.2.trans p11.symm
  · rw [hp _ (by omega)]; unfold pln; rw [if_neg (by omega), if_neg (by omega), if_neg (by omega), if_neg (by omega)]
  · rw [hp _ (by omega)]; unfold pln; rw [if_neg (by omega), if_neg (by omega), if_neg (by omega), if_neg (by omega)]
theorem o1 : lw_O1 RI := by
  intro a ha M hR hM
  obtain ⟨r1, r2, r3, r4, r5, ⟨t1, t2, t3⟩, r7, r8, r9, r10, r11⟩ := id hR
  by_cases h : 0 ≤ a ∧ a ≤ M 34 2
  · obtain ⟨e, rfl⟩ : ∃ e : Nat, a = (e : Int) := ⟨a.toNat, by omega⟩
    obtain ⟨C0, o1, o2, ⟨q2, q3, q4, q7, q8⟩, oG, oz, os⟩ := t_open hR e h.2
    -- both, from any memory whose reference stands as here
    have both : ∀ X : am_M, (∀ a, 36 < a → X a = M a) → ∃ (L : Nat) (C' N' N0 : am_M), L ≤ 801 ∧ cY 1 [rV 70, iV (e : Int)] M = cX 1 27 [some (rV 70), none, some (iV (L : Int))] [] C' ∧ cY 76 [rV 72, iV (e : Int)] X = cX 76 73 [some (rV 72), none, some (iV (L : Int)), none] [] N' ∧ PF C0 N0 C' N' ∧ (∀ a, a ≠ 72 → a ≠ 73 → a ≠ 74 → a ≠ 77 → N0 a = X a) ∧ (N0 72 5 = X 72 5 ∧ N0 72 8 = 0) ∧ (∀ i, i < 184 → N0 74 i = X 73 i) ∧ (∀ i, i < 8 → N0 77 i = X 76 i) ∧ (∀ i, 184 ≤ i → N0 73 i = X 73 i) := fun X hX => by
      obtain ⟨N0, s1, s2, ⟨s5, s8, s9, s10, s11, s12⟩, s74, s77, s73, sp⟩ := t_start X e (by rw [hX 72 (by omega), ← t1]; exact h.2)
      have hT : TX C0 N0 e := ⟨q3, s9, by omega, fun i hi => by
        rw [s2 78 (by decide) (by decide) (by decide) (by decide), hX 78 (by omega), o2 35 (by omega)]
        have := t3 i (by omega)
        exact ⟨this.1.symm, this.2⟩⟩
      have hD := t_DR oG oz os sp
      have hF : PF C0 N0 C0 N0 := ⟨fun _ _ => rfl, fun _ _ _ _ _ _ => rfl, fun _ _ _ _ => rfl, fun _ _ _ _ _ => rfl, fun _ _ => rfl, oG, by omega, by rw [s11, q7], by rw [s12, q8], fun _ => hD⟩
      obtain ⟨L, C', N', l0, l1, l2, l3⟩ := t_loop hT e 0 0 C0 N0 (some (iV (e : Int))) none none (by omega) (by omega) (by omega) hF q7 q4 s10
      refine ⟨L, C', N', N0, l0, ?_, by rw [s1]; exact l2, l3, s2, ⟨s5, s8⟩, s74, s77, s73⟩
      rw [e_Desk_tell, if_neg (by omega), if_neg (by omega), o1, am_cb_s]
      exact l1
    obtain ⟨L1, C1, N1, N01, x0, x1, -, x3, -⟩ := both M (fun _ _ => rfl)
    by_cases z : C1 34 7 = 0
    · -- all was read
      have hD1 := x3.2.2.2.2.2.2.2.2.2 z
      have k1 : kT C1 0 := kT_eq (fun a _ _ => (x3.1 a (by omega)).trans (o2 a (by omega))) r3
      obtain ⟨Cc, c1, c2, c3, c4, c5⟩ := t_copy hD1.1 hD1.2.1 k1
      have hcl : cY 1 [rV 70, iV (e : Int)] M = some ((L1 : Int), am_up Cc 36 3 0) := by rw [x1, e_Desk_tell_27, if_pos z, c1, am_cb_s]
      have hX : ∀ a, 36 < a → (am_up Cc 36 3 0) a = M a := fun a ha => by rw [am_up_ne _ _ _ _ (by omega), c2 a (by omega), x3.1 a (by omega), o2 a (by omega)]
      obtain ⟨L, C', N', N0, y0, y1, y2, ⟨f1, f2, f3, f4, f5, g, fw, fa, fb, fd⟩, n1, n2, n74, n77, n73⟩ := both _ hX
      have zz : C' 34 7 = 0 := Classical.byContradiction (fun hz => by
        have hh := y1.symm.trans hcl
        rw [e_Desk_tell_27, if_neg hz, r_ck_ok (by omega) (by omega)] at hh
        injection hh with hh
        injection hh with h1 h2
        omega)
      have hD := fd zz
      have k2 : kT C' 0 := kT_eq (fun a _ _ => (f1 a (by omega)).trans (o2 a (by omega))) r3
      obtain ⟨Cd, d1, d2, d3, d4, d5⟩ := t_copy hD.1 hD.2.1 k2
      have hh := y1.symm.trans hcl
      rw [e_Desk_tell_27, if_pos zz, d1, am_cb_s] at hh
      injection hh with hh
      injection hh with hL hC
      rw [← hC] at hcl hX n1 n2 n74 n77 n73 y2
      have w0 : N' 72 11 = 0 := by rw [fa, zz]
      refine ⟨(L1 : Int), am_up Cd 36 3 0, am_up N' 72 5 0, hcl, by rw [y2, e_Model_tell_73, w0, if_pos rfl, hL], ?_⟩
      -- what stands where
      have nf : ∀ a, a ≠ 72 → a ≠ 73 → a ≠ 74 → a ≠ 76 → a ≠ 77 → (am_up N' 72 5 0) a = (am_up Cd 36 3 0) a := fun a h1 h2 h3 h4 h5 => by rw [am_up_ne _ _ _ _ h1, f3 a h1 h2 h4, n1 a h1 h2 h3 h5]
      have lo : ∀ a, a < 36 → (am_up N' 72 5 0) a = Cd a := fun a ha => by rw [nf a (by omega) (by omega) (by omega) (by omega) (by omega), am_up_ne _ _ _ _ (by omega)]
      have e73 : (am_up N' 72 5 0) 73 = N' 73 := am_up_ne _ _ _ _ (by decide)
      have e76 : (am_up N' 72 5 0) 76 = N' 76 := am_up_ne _ _ _ _ (by decide)
      have e36 : (am_up N' 72 5 0) 36 3 = 0 := by rw [nf 36 (by decide) (by decide) (by decide) (by decide) (by decide), am_up_at]
      have hb1 := hD.1.2.1
      refine ⟨by rw [e73]; exact hD.1, by rw [e73]; exact cT_eq (fun a _ h2 => lo a (by omega)) d3, kT_eq (fun a _ h2 => lo a (by omega)) d4, kT_eq (fun a h1 h2 => (lo a (by omega)).trans (d2 a (by omega))) g.1, ?_, ⟨?_, ?_, ?_⟩, ⟨?_, ?_⟩, ⟨?_, ?_, ?_⟩, ⟨?_, ?_, ?_⟩, ?_, ?_⟩
      · rw [e73, e76, lo 4 (by omega)]
        intro f hf
        rw [d5 f (by omega)]
        exact hD.2.2.2.1 f hf
      · rw [lo 34 (by omega), d2 34 (by omega), f2 2 (by decide) (by decide) (by decide) (by decide) (by decide), q2, am_up_nj _ _ _ _ (by decide), f4 8 (by decide) (by decide) (by decide) (by decide), n2.2]
      · rw [lo 34 (by omega), d2 34 (by omega), f2 2 (by decide) (by decide) (by decide) (by decide) (by decide), q2]; omega
      · rw [lo 34 (by omega), d2 34 (by omega), f2 2 (by decide) (by decide) (by decide) (by decide) (by decide), q2]; intro i hi; omega
      · rw [lo 34 (by omega), d2 34 (by omega), zz, am_up_nj _ _ _ _ (by decide), w0]
      · rw [lo 34 (by omega), d2 34 (by omega), am_up_nj _ _ _ _ (by decide), fb]
      · rw [e36, am_up_at]
      · rw [e36]; omega
      · rw [e36]; intro k hk; omega
      · rw [lo 18 (by omega), d2 18 (by omega)]; exact g.2.1
      · rw [lo 19 (by omega), d2 19 (by omega)]; exact g.2.2
      · rw [nf 94 (by decide) (by decide) (by decide) (by decide) (by decide), hX 94 (by decide)]; exact r9.2.2
      · rw [nf 88 (by decide) (by decide) (by decide) (by decide) (by decide), hX 88 (by decide)]; exact r10
      · intro j hj; rw [e73, f5 j hj, n73 j hj, hX 73 (by decide)]; exact r11 j hj
    · -- something was refused
      have hw1 := x3.2.2.2.2.2.2.1
      have hcl : cY 1 [rV 70, iV (e : Int)] M = some (-30 - C1 34 7, C1) := by rw [x1, e_Desk_tell_27, if_neg z, r_ck_ok (by omega) (by omega)]
      have hX : ∀ a, 36 < a → C1 a = M a := fun a ha => by rw [x3.1 a (by omega), o2 a (by omega)]
      obtain ⟨L, C', N', N0, y0, y1, y2, hPF, n1, n2, n74, n77, n73⟩ := both _ hX
      obtain ⟨f1, f2, f3, f4, f5, g, fw, fa, fb, fd⟩ := id hPF
      have zz : C' 34 7 ≠ 0 := fun hz => by
        have hD := fd hz
        have k2 : kT C' 0 := kT_eq (fun a _ _ => (f1 a (by omega)).trans (o2 a (by omega))) r3
        obtain ⟨Cd, d1, d2, d3, d4, d5⟩ := t_copy hD.1 hD.2.1 k2
        have hh := y1.symm.trans hcl
        rw [e_Desk_tell_27, if_pos hz, d1, am_cb_s] at hh
        injection hh with hh
        injection hh with h1 h2
        omega
      have hh := y1.symm.trans hcl
      rw [e_Desk_tell_27, if_neg zz, r_ck_ok (by omega) (by omega)] at hh
      injection hh with hh
      injection hh with hL hC
      rw [← hC] at hcl hX n1 n2 n74 n77 n73 y2
      obtain ⟨N2, b1, b2, b3, b4, b5⟩ := t_back N' (L : Int) (by rw [fa]; exact fw) (by rw [fa]; exact zz)
      refine ⟨-30 - C' 34 7, C', N2, hcl, by rw [y2, b1, fa], ?_⟩
      have nf : ∀ a, a ≠ 72 → a ≠ 73 → a ≠ 74 → a ≠ 76 → a ≠ 77 → N2 a = C' a := fun a h1 h2 h3 h4 h5 => by rw [b2 a h2 h4, f3 a h1 h2 h4, n1 a h1 h2 h3 h5]
      have lm : ∀ a, (a < 17 ∨ 34 < a) → a ≠ 72 → a ≠ 73 → a ≠ 74 → a ≠ 76 → a ≠ 77 → N2 a = M a := fun a ha h1 h2 h3 h4 h5 => by rw [nf a h1 h2 h3 h4 h5, f1 a ha, o2 a ha]
      have e73 : N2 73 = M 73 := by
        funext i
        by_cases hi : i < 184
        · rw [b3 i hi, f3 74 (by decide) (by decide) (by decide), n74 i hi, hX 73 (by decide)]
        · rw [b4 i (by omega), f5 i (by omega), n73 i (by omega), hX 73 (by decide)]
      have e76 : ∀ i, i < 8 → N2 76 i = M 76 i := fun i hi => by rw [b5 i hi, f3 77 (by decide) (by decide) (by decide), n77 i hi, hX 76 (by decide)]
      have m72 : N2 72 = N' 72 := b2 72 (by decide) (by decide)
      have c34 : N2 34 = C' 34 := nf 34 (by decide) (by decide) (by decide) (by decide) (by decide)
      have e75 : N2 75 = M 75 := lm 75 (by omega) (by decide) (by decide) (by decide) (by decide) (by decide)
      have es : ∀ k, snp N2 k = snp M k := fun k => by unfold snp; rw [e75]
      have eb : ∀ n k, beh N2 n k = beh M n k := fun n k => by unfold beh; rw [e73, es]
      have l5 : N2 72 5 = M 72 5 := by rw [m72, f4 5 (by decide) (by decide) (by decide) (by decide), n2.1, hX 72 (by decide)]
      have hb1 := r1.2.1
      refine ⟨by rw [e73]; exact r1, by rw [e73]; exact cT_eq (fun a _ h2 => lm a (by omega) (by omega) (by omega) (by omega) (by omega) (by omega)) r2, kT_eq (fun a _ h2 => lm a (by omega) (by omega) (by omega) (by omega) (by omega) (by omega)) r3, kT_eq (fun a h1 h2 => nf a (by omega) (by omega) (by omega) (by omega) (by omega)) g.1, ?_, ⟨?_, ?_, ?_⟩, ⟨?_, ?_⟩, ?_, ⟨?_, ?_, ?_⟩, ?_, ?_⟩
      · rw [e73, lm 4 (by omega) (by omega) (by omega) (by omega) (by omega) (by omega)]
        intro f hf
        rw [e76 f (by omega)]
        exact r5 f hf
      · rw [c34, f2 2 (by decide) (by decide) (by decide) (by decide) (by decide), q2, m72, f4 8 (by decide) (by decide) (by decide) (by decide), n2.2]
      · rw [c34, f2 2 (by decide) (by decide) (by decide) (by decide) (by decide), q2]; omega
      · rw [c34, f2 2 (by decide) (by decide) (by decide) (by decide) (by decide), q2]; intro i hi; omega
      · rw [c34, m72, fa]
      · rw [c34, m72, fb]
      · unfold aT at r8 ⊢
        rw [lm 36 (by omega) (by omega) (by omega) (by omega) (by omega) (by omega), l5, lm 37 (by omega) (by omega) (by omega) (by omega) (by omega) (by omega), lm 38 (by omega) (by omega) (by omega) (by omega) (by omega) (by omega), lm 39 (by omega) (by omega) (by omega) (by omega) (by omega) (by omega)]
        refine ⟨r8.1, r8.2.1, fun k hk => ?_⟩
        rw [es, eb]
        exact r8.2.2 k hk
      · rw [nf 18 (by decide) (by decide) (by decide) (by decide) (by decide)]; exact g.2.1
      · rw [nf 19 (by decide) (by decide) (by decide) (by decide) (by decide)]; exact g.2.2
      · rw [lm 94 (by omega) (by omega) (by omega) (by omega) (by omega) (by omega)]; exact r9.2.2
      · rw [lm 88 (by omega) (by omega) (by omega) (by omega) (by omega) (by omega)]; exact r10
      · rw [e73]; exact r11
  · refine ⟨-3, M, am_up M 72 6 0, ?_, ?_, RI_mf (mf_up (mf.rf M) (by omega)) hR⟩
    · rw [e_Desk_tell]
      by_cases c : a < 0
      · rw [if_pos c]
      · rw [if_neg c, if_pos (by omega)]
    · rw [e_Model_tell, p_isIn, am_cb_s, ← t1, if_neg h, if_pos rfl]
