-- THE PURE PART: the invariant that binds the class's cells to the reference's
theorem r_ck_ok {x : Int} {k : am_R} (h1 : -2147483648 ≤ x) (h2 : x ≤ 2147483647) : r_ck x k = k := if_pos ⟨h1, h2⟩
theorem r_cl_ok {x : Int} {k : am_R} (h1 : -9223372036854775808 ≤ x) (h2 : x ≤ 9223372036854775807) : r_cl x k = k := if_pos ⟨h1, h2⟩
theorem r_bd_ok {n : Nat} {i : Int} {k : am_R} (h1 : 0 ≤ i) (h2 : i < (n : Int)) : r_bd n i k = k := if_pos ⟨h1, h2⟩
theorem am_cb_s {v : Int} {M : am_M} {k : Int → am_M → am_R} : am_cb (some (v, M)) k = k v M := rfl
theorem up_ap (M : am_M) (a j : Nat) (v : Int) (b k : Nat) : am_up M a j v b k = if b = a ∧ k = j then v else M b k := rfl
/-- a row that was told: counts, settings, reaches, fields, order, swaps, lends, shuts, as the reference keeps them -/
def vT (s : Nat → Int) : Prop :=
  (0 ≤ s 0 ∧ s 0 ≤ 10) ∧ (0 ≤ s 1 ∧ s 1 ≤ 8) ∧ (0 ≤ s 2 ∧ s 2 ≤ 12) ∧ (0 ≤ s 3 ∧ s 3 ≤ 12) ∧ (0 ≤ s 4 ∧ s 4 ≤ 6) ∧
  ((1 ≤ s 5 ∧ s 5 ≤ 999) ∧ (0 ≤ s 6 ∧ s 6 ≤ 10079) ∧ (0 ≤ s 7 ∧ s 7 ≤ 23) ∧ (0 ≤ s 8 ∧ s 8 ≤ 23) ∧ (1 ≤ s 9 ∧ s 9 ≤ 52) ∧ (0 ≤ s 10 ∧ s 10 ≤ 7) ∧ (0 ≤ s 11 ∧ s 11 ≤ 1)) ∧
  (∀ r : Nat, (r : Int) < s 0 → (0 ≤ s (12 + 3 * r) ∧ s (12 + 3 * r) ≤ 60) ∧ (0 ≤ s (13 + 3 * r) ∧ s (13 + 3 * r) ≤ 60) ∧ (0 ≤ s (14 + 3 * r) ∧ s (14 + 3 * r) ≤ 500)) ∧
  (∀ f : Nat, (f : Int) < s 1 → (0 ≤ s (42 + 4 * f) ∧ s (42 + 4 * f) < s 0) ∧ (1 ≤ s (43 + 4 * f) ∧ s (43 + 4 * f) ≤ 999) ∧ (0 ≤ s (44 + 4 * f) ∧ s (44 + 4 * f) ≤ 9999) ∧ (0 ≤ s (45 + 4 * f) ∧ s (45 + 4 * f) ≤ 9999)) ∧
  ((∀ p : Nat, (p : Int) < s 1 → 0 ≤ s (74 + p) ∧ s (74 + p) < s 1) ∧ ∀ p q : Nat, (p : Int) < s 1 → (q : Int) < s 1 → s (74 + p) = s (74 + q) → p = q) ∧
  (∀ k : Nat, (k : Int) < s 2 → (0 ≤ s (82 + 3 * k) ∧ s (82 + 3 * k) ≤ 51) ∧ (0 ≤ s (83 + 3 * k) ∧ s (83 + 3 * k) < s 1) ∧ (0 ≤ s (84 + 3 * k) ∧ s (84 + 3 * k) < s 1) ∧ s (83 + 3 * k) ≠ s (84 + 3 * k)) ∧
  (∀ k : Nat, (k : Int) < s 3 → (0 ≤ s (118 + 4 * k) ∧ s (118 + 4 * k) ≤ 51) ∧ (0 ≤ s (119 + 4 * k) ∧ s (119 + 4 * k) < s 1) ∧ (0 ≤ s (120 + 4 * k) ∧ s (120 + 4 * k) < s 1) ∧ s (119 + 4 * k) ≠ s (120 + 4 * k) ∧ (1 ≤ s (121 + 4 * k) ∧ s (121 + 4 * k) ≤ 999)) ∧
  (∀ k : Nat, (k : Int) < s 4 → (0 ≤ s (166 + 3 * k) ∧ s (166 + 3 * k) ≤ 51) ∧ (0 ≤ s (167 + 3 * k) ∧ s (167 + 3 * k) < s (168 + 3 * k)) ∧ s (168 + 3 * k) ≤ 10080)
/-- the class's Told at the cells from b on holds the row s -/
def cT (s : Nat → Int) (M : am_M) (b : Nat) : Prop :=
  M b 0 = s 0 ∧ M b 4 = s 1 ∧ M (b + 11) 3 = s 2 ∧ M (b + 13) 3 = s 3 ∧ M (b + 15) 3 = s 4 ∧
  (∀ i : Nat, i < 7 → M (b + 10) i = s (5 + i)) ∧ (M (b + 1) 0 = 0 ∧ M (b + 2) 0 = 0) ∧
  (∀ r : Nat, (r : Int) < s 0 → M (b + 1) (r + 1) = M (b + 1) r + s (12 + 3 * r) ∧ M (b + 2) (r + 1) = M (b + 2) r + s (13 + 3 * r) ∧ M (b + 3) r = s (14 + 3 * r)) ∧
  (∀ f : Nat, (f : Int) < s 1 → M (b + 5) f = s (42 + 4 * f) ∧ M (b + 6) f = s (43 + 4 * f) ∧ M (b + 7) f = s (44 + 4 * f) ∧ M (b + 8) f = s (45 + 4 * f)) ∧
  (∀ p : Nat, (p : Int) < s 1 → M (b + 9) p = s (74 + p)) ∧
  (∀ k : Nat, (k : Int) < s 2 → ∀ j : Nat, j < 3 → M (b + 12) (3 * k + j) = s (82 + 3 * k + j)) ∧
  (∀ k : Nat, (k : Int) < s 3 → ∀ j : Nat, j < 4 → M (b + 14) (4 * k + j) = s (118 + 4 * k + j)) ∧
  (∀ k : Nat, (k : Int) < s 4 → ∀ j : Nat, j < 3 → M (b + 16) (3 * k + j) = s (166 + 3 * k + j))
/-- limits and widths of the rows of rows -/
def kT (M : am_M) (b : Nat) : Prop := (M (b + 11) 0 = 12 ∧ M (b + 11) 1 = 3) ∧ (M (b + 13) 0 = 12 ∧ M (b + 13) 1 = 4) ∧ (M (b + 15) 0 = 6 ∧ M (b + 15) 1 = 3)
/-- a name's letters, 1 to 26, and the two ways of writing it as a number -/
def nmC : List Nat → Int
  | [] => 0
  | c :: l => (c : Int) + 32 * nmC l
def nmM (l : List Nat) : Int := l.foldl (fun (v : Int) (c : Nat) => 32 * v + (c : Int)) 0
def nmOk (l : List Nat) : Prop := 1 ≤ l.length ∧ l.length ≤ 8 ∧ ∀ c ∈ l, 1 ≤ c ∧ c ≤ 26
def nT (n : Int) (C R : Nat → Int) : Prop := ∀ f : Nat, (f : Int) < n → ∃ l, nmOk l ∧ C f = nmC l ∧ R f = nmM l
/-- rows that agree where it matters -/
def Rl (T U : Nat → Int) : Prop :=
  (∀ j : Nat, j < 12 → T j = U j) ∧ (∀ r : Nat, (r : Int) < T 0 → ∀ j : Nat, j < 3 → T (12 + 3 * r + j) = U (12 + 3 * r + j)) ∧
  (∀ f : Nat, (f : Int) < T 1 → ∀ j : Nat, j < 4 → T (42 + 4 * f + j) = U (42 + 4 * f + j)) ∧ (∀ p : Nat, (p : Int) < T 1 → T (74 + p) = U (74 + p)) ∧
  (∀ k : Nat, (k : Int) < T 2 → ∀ j : Nat, j < 3 → T (82 + 3 * k + j) = U (82 + 3 * k + j)) ∧
  (∀ k : Nat, (k : Int) < T 3 → ∀ j : Nat, j < 4 → T (118 + 4 * k + j) = U (118 + 4 * k + j)) ∧
  (∀ k : Nat, (k : Int) < T 4 → ∀ j : Nat, j < 3 → T (166 + 3 * k + j) = U (166 + 3 * k + j))
/-- the place of f in a row of n from 0 on (n: none) -/
def plc (o : Nat → Int) (f : Int) : Nat → Nat → Nat
  | 0, p => p
  | n + 1, p => if o p = f then p else plc o f n (p + 1)
/-- f brought to the place q: those between move by one -/
def brg (o : Nat → Int) (n : Nat) (f : Int) (q : Nat) : Nat → Int := fun p =>
  if p = q then f else if plc o f n 0 ≤ p ∧ p < q then o (p + 1) else if q < p ∧ p ≤ plc o f n 0 then o (p - 1) else o p
/-- how an act is taken back -/
def bk (kd tg bf : Int) (T : Nat → Int) : Nat → Int := fun j =>
  if kd = 0 then (if 74 ≤ j ∧ ((j - 74 : Nat) : Int) < T 1 then brg (fun p => T (74 + p)) (T 1).toNat tg bf.toNat (j - 74) else T j)
  else if kd = 1 then (if j = 2 then T 2 - 1 else T j)
  else if kd = 2 then (if j = 3 then T 3 - 1 else T j)
  else if kd = 3 then (if j = 4 then T 4 - 1 else T j)
  else if kd = 4 then (if j = 14 + 3 * tg.toNat then bf else T j)
  else if kd = 5 then (if j = 5 + tg.toNat then bf else T j)
  else if kd = 6 then (if j = 9 then Int.tdiv bf 100 else if j = 10 then Int.tmod bf 100 else T j)
  else (if j = 43 + 4 * tg.toNat then bf else T j)
/-- what an act's record may be, by the row behind it -/
def acOk (kd tg bf : Int) (T : Nat → Int) : Prop :=
  (kd = 0 ∧ (0 ≤ tg ∧ tg < T 1) ∧ (0 ≤ bf ∧ bf < T 1)) ∨ (kd = 1 ∧ 1 ≤ T 2) ∨ (kd = 2 ∧ 1 ≤ T 3) ∨ (kd = 3 ∧ 1 ≤ T 4) ∨ (kd = 4 ∧ (0 ≤ tg ∧ tg < T 0)) ∨ (kd = 5 ∧ (0 ≤ tg ∧ tg < 7)) ∨ (kd = 6 ∧ 0 ≤ bf) ∨ (kd = 7 ∧ (0 ≤ tg ∧ tg < T 1))
def snp (M : am_M) (k : Nat) : Nat → Int := fun j => if j < 184 then M 75 (184 * k + j) else 0
/-- the row behind act k of n -/
def beh (M : am_M) (n k : Nat) : Nat → Int := if k + 1 = n then M 73 else snp M (k + 1)
def aT (M : am_M) : Prop := M 36 3 = M 72 5 ∧ (0 ≤ M 36 3 ∧ M 36 3 ≤ 10) ∧ ∀ k : Nat, (k : Int) < M 36 3 → vT (snp M k) ∧ acOk (M 37 k) (M 38 k) (M 39 k) (beh M (M 36 3).toNat k) ∧ Rl (snp M k) (bk (M 37 k) (M 38 k) (M 39 k) (beh M (M 36 3).toNat k))
/-- THE INVARIANT -/
def RI (M : am_M) : Prop :=
  vT (M 73) ∧ cT (M 73) M 0 ∧ kT M 0 ∧ kT M 17 ∧ nT (M 73 1) (M 4) (M 76) ∧
  (M 34 2 = M 72 8 ∧ (0 ≤ M 34 2 ∧ M 34 2 ≤ 800) ∧ ∀ i : Nat, (i : Int) < M 34 2 → M 35 i = M 78 i ∧ (-128 ≤ M 35 i ∧ M 35 i ≤ 127)) ∧ (M 34 7 = M 72 11 ∧ M 34 8 = M 72 12) ∧ aT M ∧
  (M 18 0 = 0 ∧ M 19 0 = 0 ∧ M 94 0 = 0) ∧ (∀ i : Nat, i < 8 → M 88 i = -1) ∧ ∀ j : Nat, 184 ≤ j → M 73 j = 0
/-- what a query of the class may change; what one of the reference may -/
def cf (M M' : am_M) : Prop := ∀ a, (a < 40 ∨ 72 ≤ a) → M' a = M a
def mf (M M' : am_M) : Prop := (∀ a, a ≠ 72 → (a < 79 ∨ a = 88 ∨ a = 94) → M' a = M a) ∧ M' 72 5 = M 72 5 ∧ M' 72 8 = M 72 8 ∧ M' 72 11 = M 72 11 ∧ M' 72 12 = M 72 12
theorem cf.rf (M : am_M) : cf M M := fun _ _ => rfl
theorem cf.tr {M M1 M2 : am_M} (h1 : cf M M1) (h2 : cf M1 M2) : cf M M2 := fun a h => (h2 a h).trans (h1 a h)
theorem mf.rf (M : am_M) : mf M M := ⟨fun _ _ _ => rfl, rfl, rfl, rfl, rfl⟩
theorem mf.tr {M M1 M2 : am_M} (h1 : mf M M1) (h2 : mf M1 M2) : mf M M2 := ⟨fun a x y => (h2.1 a x y).trans (h1.1 a x y), h2.2.1.trans h1.2.1, h2.2.2.1.trans h1.2.2.1, h2.2.2.2.1.trans h1.2.2.2.1, h2.2.2.2.2.trans h1.2.2.2.2⟩
/-- the cells that the invariant speaks of -/
def kS (a : Nat) : Bool := Nat.ble a 39 || Nat.beq a 73 || Nat.beq a 75 || Nat.beq a 76 || Nat.beq a 78 || Nat.beq a 88
theorem cT_eq {s : Nat → Int} {M M' : am_M} {b : Nat} (h : ∀ a, b ≤ a → a ≤ b + 16 → M' a = M a) (hc : cT s M b) : cT s M' b := by
  unfold cT at hc ⊢
  rw [h b (by omega) (by omega), h (b + 1) (by omega) (by omega), h (b + 2) (by omega) (by omega), h (b + 3) (by omega) (by omega), h (b + 5) (by omega) (by omega), h (b + 6) (by omega) (by omega), h (b + 7) (by omega) (by omega), h (b + 8) (by omega) (by omega), h (b + 9) (by omega) (by omega), h (b + 10) (by omega) (by omega), h (b + 11) (by omega) (by omega), h (b + 12) (by omega) (by omega), h (b + 13) (by omega) (by omega), h (b + 14) (by omega) (by omega), h (b + 15) (by omega) (by omega), h (b + 16) (by omega) (by omega)]
  exact hc
theorem kT_eq {M M' : am_M} {b : Nat} (h : ∀ a, b ≤ a → a ≤ b + 16 → M' a = M a) (hc : kT M b) : kT M' b := by
  unfold kT at hc ⊢
  rw [h (b + 11) (by omega) (by omega), h (b + 13) (by omega) (by omega), h (b + 15) (by omega) (by omega)]
  exact hc
theorem RI_keep {M M' : am_M} (h : ∀ a, kS a = true → M' a = M a) (h5 : M' 72 5 = M 72 5) (h8 : M' 72 8 = M 72 8) (h11 : M' 72 11 = M 72 11) (h12 : M' 72 12 = M 72 12) (h94 : M' 94 0 = M 94 0) (hR : RI M) : RI M' := by
  obtain ⟨r1, r2, r3, r4, r5, r6, r7, r8, r9, r10, r11⟩ := hR
  have low : ∀ a, a ≤ 39 → M' a = M a := fun a ha => h a (by simp [kS, ha])
  have e73 : M' 73 = M 73 := h 73 rfl
  have e75 : M' 75 = M 75 := h 75 rfl
  have es : ∀ k, snp M' k = snp M k := fun k => by unfold snp; rw [e75]
  have eb : ∀ n k, beh M' n k = beh M n k := fun n k => by unfold beh; rw [e73, es]
  refine ⟨by rw [e73]; exact r1, by rw [e73]; exact cT_eq (fun a _ h2 => low a (by omega)) r2, kT_eq (fun a _ h2 => low a (by omega)) r3, kT_eq (fun a _ h2 => low a (by omega)) r4, ?_, ?_, ?_, ?_, ?_, ?_, by rw [e73]; exact r11⟩
  · rw [e73, low 4 (by omega), h 76 rfl]; exact r5
  · rw [low 34 (by omega), h8, low 35 (by omega), h 78 rfl]; exact r6
  · rw [low 34 (by omega), h11, h12]; exact r7
  · unfold aT at r8 ⊢
    rw [low 36 (by omega), h5, low 37 (by omega), low 38 (by omega), low 39 (by omega)]
    refine ⟨r8.1, r8.2.1, fun k hk => ?_⟩
    rw [es, eb]
    exact r8.2.2 k hk
  · rw [low 18 (by omega), low 19 (by omega), h94]; exact r9
  · rw [h 88 rfl]; exact r10
theorem RI_cf {M M' : am_M} (h : cf M M') (hR : RI M) : RI M' := by
  refine RI_keep (fun a ha => h a ?_) ?_ ?_ ?_ ?_ (by rw [h 94 (by omega)]) hR
  · simp only [kS, Bool.or_eq_true, Nat.ble_eq, Nat.beq_eq] at ha
    omega
  all_goals rw [h 72 (by omega)]
theorem RI_mf {M M' : am_M} (h : mf M M') (hR : RI M) : RI M' := by
  refine RI_keep (fun a ha => ?_) h.2.1 h.2.2.1 h.2.2.2.1 h.2.2.2.2 (by rw [h.1 94 (by decide) (by omega)]) hR
  simp only [kS, Bool.or_eq_true, Nat.ble_eq, Nat.beq_eq] at ha
  exact h.1 a (by omega) (by omega)
theorem mf_up {M M' : am_M} (h : mf M M') {j : Nat} {v : Int} (hj : j ≠ 5 ∧ j ≠ 8 ∧ j ≠ 11 ∧ j ≠ 12) : mf M (am_up M' 72 j v) := by
  refine ⟨fun a x y => (am_up_ne M' 72 j v x).trans (h.1 a x y), ?_, ?_, ?_, ?_⟩
  · rw [am_up_nj M' 72 j v (by omega)]; exact h.2.1
  · rw [am_up_nj M' 72 j v (by omega)]; exact h.2.2.1
  · rw [am_up_nj M' 72 j v (by omega)]; exact h.2.2.2.1
  · rw [am_up_nj M' 72 j v (by omega)]; exact h.2.2.2.2
theorem mf_ua {M M' : am_M} (h : mf M M') {a j : Nat} {v : Int} (ha : 79 ≤ a ∧ a ≠ 88 ∧ a ≠ 94) : mf M (am_up M' a j v) := by
  refine ⟨fun b x y => (am_up_ne M' a j v (by omega)).trans (h.1 b x y), ?_, ?_, ?_, ?_⟩
  · rw [am_up_ne M' a j v (by omega)]; exact h.2.1
  · rw [am_up_ne M' a j v (by omega)]; exact h.2.2.1
  · rw [am_up_ne M' a j v (by omega)]; exact h.2.2.2.1
  · rw [am_up_ne M' a j v (by omega)]; exact h.2.2.2.2
theorem cf_up {M M' : am_M} (h : cf M M') {a j : Nat} {v : Int} (ha : 40 ≤ a ∧ a < 72) : cf M (am_up M' a j v) := fun b hb => (am_up_ne M' a j v (by omega)).trans (h b hb)
/-- isIn -/
theorem p_isIn (a b c : Int) (M : am_M) : cY 54 [lV a, lV b, lV c] M = some (if b ≤ a ∧ a ≤ c then 1 else 0, M) := by
  rw [e_Model_isIn]
  split
  · rw [if_neg (by omega)]
  · split
    · split
      · rw [if_pos (by omega)]
      · split
        · rw [if_pos (by omega)]
        · rw [if_neg (by omega)]
    · split
      · rw [if_pos (by omega)]
      · split
        · rw [if_pos (by omega)]
        · rw [if_neg (by omega)]
theorem o2 : lw_O2 RI := by
  intro a ha M hR hM
  obtain ⟨-, -, -, -, -, -, ⟨r1, r2⟩, -⟩ := id hR
  rw [e_Desk_fault]
  have hR2 : RI (am_up M 72 6 0) := RI_mf (mf_up (mf.rf M) (by omega)) hR
  by_cases h0 : a = 0
  · refine ⟨_, _, _, by rw [if_pos h0], by rw [e_Model_fault, if_pos h0, r1], hR2⟩
  · by_cases h1 : a = 1
    · refine ⟨_, _, _, by rw [if_neg h0, if_pos h1], by rw [e_Model_fault, if_neg h0, if_pos h1, r2], hR2⟩
    · refine ⟨_, _, _, by rw [if_neg h0, if_neg h1], by rw [e_Model_fault, if_neg h0, if_neg h1], hR2⟩
theorem o16 : lw_O16 RI := by
  intro a ha M hR hM
  obtain ⟨v1, v2, -⟩ := id hR
  have hR2 : RI (am_up M 72 6 0) := RI_mf (mf_up (mf.rf M) (by omega)) hR
  have hset := v2.2.2.2.2.2.1
  rw [e_Desk_setting]
  by_cases h0 : a < 0
  · refine ⟨_, _, _, by rw [if_pos h0], by rw [e_Model_setting, p_isIn, am_cb_s, if_neg (show ¬ (0 ≤ a ∧ a ≤ 6) by omega), if_pos rfl], hR2⟩
  · by_cases h1 : a < 7
    · refine ⟨M 10 a.toNat, _, _, by rw [if_neg h0, if_pos h1, r_bd_ok (by omega) (by omega)], ?_, hR2⟩
      rw [e_Model_setting, p_isIn, am_cb_s, if_pos (show 0 ≤ a ∧ a ≤ 6 by omega), if_neg (by decide), r_ck_ok (by omega) (by omega), r_bd_ok (by omega) (by omega), am_up_ne M 72 6 0 (by decide), hset a.toNat (by omega)]
      have e : (5 + a).toNat = 5 + a.toNat := by omega
      rw [e]
    · refine ⟨_, _, _, by rw [if_neg h0, if_neg h1], by rw [e_Model_setting, p_isIn, am_cb_s, if_neg (show ¬ (0 ≤ a ∧ a ≤ 6) by omega), if_pos rfl], hR2⟩
