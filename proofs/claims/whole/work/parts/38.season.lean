-- weeks that are alike
def own (s : Nat → Int) (w : Nat) : Prop := (∃ k : Nat, (k : Int) < s 2 ∧ s (82 + 3 * k) = (w : Int)) ∨ (∃ k : Nat, (k : Int) < s 3 ∧ s (118 + 4 * k) = (w : Int)) ∨ ∃ k : Nat, (k : Int) < s 4 ∧ s (166 + 3 * k) = (w : Int)
def AL (s : Nat → Int) (n a w : Nat) : Prop := a = w ∨ (¬ own s a ∧ ¬ own s w ∧ tby s a % n = tby s w % n)
theorem rkk_no {s : Nat → Int} {n w : Nat} (h : ¬ own s w) : ∀ k : Nat, (k : Int) ≤ s 2 → rkk s n w k = rk0 s n w := by
  intro k
  induction k with
  | zero => intro _; rfl
  | succ k ih =>
    intro hk
    show (if s (82 + 3 * k) = (w : Int) then _ else rkk s n w k) = _
    rw [if_neg (fun e => h (Or.inl ⟨k, by omega, e⟩))]
    exact ih (by omega)
theorem rst_no {s : Nat → Int} {n w : Nat} (hv : vT s) (hn : s 1 = (n : Int)) (h : ¬ own s w) : rst s w = rk0 s n w := by
  have hb := hv.2.2.1
  unfold rst
  rw [hn, Int.toNat_natCast]
  exact rkk_no h _ (by omega)
theorem rk0_al {s : Nat → Int} {n a w : Nat} (h : tby s a % n = tby s w % n) : rk0 s n a = rk0 s n w := by
  funext p
  unfold rk0
  rw [Nat.add_mod p (tby s a), h, ← Nat.add_mod]
theorem lns_no {s o : Nat → Int} {n w : Nat} (h : ¬ own s w) : ∀ k : Nat, (k : Int) ≤ s 3 → lns s o n w k = trn s o n := by
  intro k
  induction k with
  | zero => intro _; rfl
  | succ k ih =>
    intro hk
    show (if lcn s o n w (lns s o n w k) k = true then _ else lns s o n w k) = _
    rw [if_neg (fun e => by
      unfold lcn at e
      rw [Bool.and_eq_true, decide_eq_true_iff] at e
      exact h (Or.inr (Or.inl ⟨k, by omega, e.1⟩)))]
    exact ih (by omega)
theorem lF_no {s o : Nat → Int} {n w : Nat} (hv : vT s) (h : ¬ own s w) : lF s o n w = trn s o n := by
  have hb := hv.2.2.2.1
  unfold lF
  exact lns_no h _ (by omega)
theorem shB_no {s : Nat → Int} {w : Nat} (hv : vT s) (h : ¬ own s w) : shB s w = fun _ => false := by
  have hb := hv.2.2.2.2.1
  funext m
  unfold shB
  rw [← Bool.not_eq_true, shb_iff]
  rintro ⟨k, k1, k2, -⟩
  exact h (Or.inr (Or.inr ⟨k, by omega, k2⟩))
theorem AL_eq {s : Nat → Int} {n a w : Nat} (hv : vT s) (hn : s 1 = (n : Int)) (h : AL s n a w) (f : Nat) : gnd s (rst s a) n a f = gnd s (rst s w) n w f ∧ ngt s (rst s a) n a f = ngt s (rst s w) n w f := by
  rcases h with h | ⟨h1, h2, h3⟩
  · rw [h]; exact ⟨rfl, rfl⟩
  · have e : rst s a = rst s w := by rw [rst_no hv hn h1, rst_no hv hn h2, rk0_al h3]
    have e1 : lF s (rst s w) n a = lF s (rst s w) n w := by rw [lF_no hv h1, lF_no hv h2]
    have e2 : shB s a = shB s w := by rw [shB_no hv h1, shB_no hv h2]
    rw [e]
    unfold gnd ngt sho flg bF
    rw [e1, e2]
    exact ⟨rfl, rfl⟩
/-- for each week the first one that is like it -/
def AS (s : Nat → Int) (n : Nat) (M : am_M) : Prop := ∀ w : Nat, w < 52 → ∃ a : Nat, M 56 w = (a : Int) ∧ a ≤ w ∧ M 56 a = (a : Int) ∧ AL s n a w
theorem p_fill56 (M : am_M) : ∃ M', cY 279 [rV 56, iV (-1)] M = some (0, M') ∧ (∀ a, a ≠ 56 → M' a = M a) ∧ ∀ w, w < 52 → M' 56 w = -1 := by
  obtain ⟨-, M1, h1, i1, i2⟩ := lp_up (α := Unit) (X := fun k _ M => cX 279 5 [some (rV 56), some (iV (-1)), some (iV (k : Int)), some (iV 52)] [] M) (n := 52) (I := fun k M' => (∀ a, a ≠ 56 → M' a = M a) ∧ ∀ w, w < k → M' 56 w = -1) (by
    intro k hk d M' hI
    obtain ⟨i1, i2⟩ := hI
    have hh := e_Arrays_fill_56_5 (-1) (k : Int) 52 M'
    rw [if_pos (by omega), r_bd_ok (by omega) (by omega), r_ck_ok (by omega) (by omega), Int.toNat_natCast] at hh
    refine ⟨(), _, hh, fun a ha => (am_up_ne _ _ _ _ ha).trans (i1 a ha), fun w hw => ?_⟩
    by_cases e : w = k
    · subst e; rw [am_up_at]
    · rw [am_up_nj _ _ _ _ e]; exact i2 w (by omega)) 52 0 rfl () M ⟨fun _ _ => rfl, fun w hw => by omega⟩
  refine ⟨M1, ?_, i1, i2⟩
  rw [e_Arrays_fill_56]
  refine h1.trans ?_
  rw [e_Arrays_fill_56_5, if_neg (by omega)]
theorem p_fill57 (M : am_M) (v : Int) : ∃ M', cY 279 [rV 57, iV v] M = some (0, M') ∧ (∀ a, a ≠ 57 → M' a = M a) ∧ ∀ w, w < 8 → M' 57 w = v := by
  obtain ⟨-, M1, h1, i1, i2⟩ := lp_up (α := Unit) (X := fun k _ M => cX 279 5 [some (rV 57), some (iV v), some (iV (k : Int)), some (iV 8)] [] M) (n := 8) (I := fun k M' => (∀ a, a ≠ 57 → M' a = M a) ∧ ∀ w, w < k → M' 57 w = v) (by
    intro k hk d M' hI
    obtain ⟨i1, i2⟩ := hI
    have hh := e_Arrays_fill_57_5 v (k : Int) 8 M'
    rw [if_pos (by omega), r_bd_ok (by omega) (by omega), r_ck_ok (by omega) (by omega), Int.toNat_natCast] at hh
    refine ⟨(), _, hh, fun a ha => (am_up_ne _ _ _ _ ha).trans (i1 a ha), fun w hw => ?_⟩
    by_cases e : w = k
    · subst e; rw [am_up_at]
    · rw [am_up_nj _ _ _ _ e]; exact i2 w (by omega)) 8 0 rfl () M ⟨fun _ _ => rfl, fun w hw => by omega⟩
  refine ⟨M1, ?_, i1, i2⟩
  rw [e_Arrays_fill_57]
  refine h1.trans ?_
  rw [e_Arrays_fill_57_5, if_neg (by omega)]
theorem p_fill65 (M : am_M) (v : Int) : ∃ M', cY 279 [rV 65, iV v] M = some (0, M') ∧ (∀ a, a ≠ 65 → M' a = M a) ∧ ∀ w, w < 8 → M' 65 w = v := by
  obtain ⟨-, M1, h1, i1, i2⟩ := lp_up (α := Unit) (X := fun k _ M => cX 279 5 [some (rV 65), some (iV v), some (iV (k : Int)), some (iV 8)] [] M) (n := 8) (I := fun k M' => (∀ a, a ≠ 65 → M' a = M a) ∧ ∀ w, w < k → M' 65 w = v) (by
    intro k hk d M' hI
    obtain ⟨i1, i2⟩ := hI
    have hh := e_Arrays_fill_65_5 v (k : Int) 8 M'
    rw [if_pos (by omega), r_bd_ok (by omega) (by omega), r_ck_ok (by omega) (by omega), Int.toNat_natCast] at hh
    refine ⟨(), _, hh, fun a ha => (am_up_ne _ _ _ _ ha).trans (i1 a ha), fun w hw => ?_⟩
    by_cases e : w = k
    · subst e; rw [am_up_at]
    · rw [am_up_nj _ _ _ _ e]; exact i2 w (by omega)) 8 0 rfl () M ⟨fun _ _ => rfl, fun w hw => by omega⟩
  refine ⟨M1, ?_, i1, i2⟩
  rw [e_Arrays_fill_65]
  refine h1.trans ?_
  rw [e_Arrays_fill_65_5, if_neg (by omega)]
theorem p_fill66 (M : am_M) (v : Int) : ∃ M', cY 279 [rV 66, iV v] M = some (0, M') ∧ (∀ a, a ≠ 66 → M' a = M a) ∧ ∀ w, w < 8 → M' 66 w = v := by
  obtain ⟨-, M1, h1, i1, i2⟩ := lp_up (α := Unit) (X := fun k _ M => cX 279 5 [some (rV 66), some (iV v), some (iV (k : Int)), some (iV 8)] [] M) (n := 8) (I := fun k M' => (∀ a, a ≠ 66 → M' a = M a) ∧ ∀ w, w < k → M' 66 w = v) (by
    intro k hk d M' hI
    obtain ⟨i1, i2⟩ := hI
    have hh := e_Arrays_fill_66_5 v (k : Int) 8 M'
    rw [if_pos (by omega), r_bd_ok (by omega) (by omega), r_ck_ok (by omega) (by omega), Int.toNat_natCast] at hh
    refine ⟨(), _, hh, fun a ha => (am_up_ne _ _ _ _ ha).trans (i1 a ha), fun w hw => ?_⟩
    by_cases e : w = k
    · subst e; rw [am_up_at]
    · rw [am_up_nj _ _ _ _ e]; exact i2 w (by omega)) 8 0 rfl () M ⟨fun _ _ => rfl, fun w hw => by omega⟩
  refine ⟨M1, ?_, i1, i2⟩
  rw [e_Arrays_fill_66]
  refine h1.trans ?_
  rw [e_Arrays_fill_66_5, if_neg (by omega)]
theorem p_fill71 (M : am_M) (v : Int) : ∃ M', cY 279 [rV 71, iV v] M = some (0, M') ∧ (∀ a, a ≠ 71 → M' a = M a) ∧ ∀ w, w < 8 → M' 71 w = v := by
  obtain ⟨-, M1, h1, i1, i2⟩ := lp_up (α := Unit) (X := fun k _ M => cX 279 5 [some (rV 71), some (iV v), some (iV (k : Int)), some (iV 8)] [] M) (n := 8) (I := fun k M' => (∀ a, a ≠ 71 → M' a = M a) ∧ ∀ w, w < k → M' 71 w = v) (by
    intro k hk d M' hI
    obtain ⟨i1, i2⟩ := hI
    have hh := e_Arrays_fill_71_5 v (k : Int) 8 M'
    rw [if_pos (by omega), r_bd_ok (by omega) (by omega), r_ck_ok (by omega) (by omega), Int.toNat_natCast] at hh
    refine ⟨(), _, hh, fun a ha => (am_up_ne _ _ _ _ ha).trans (i1 a ha), fun w hw => ?_⟩
    by_cases e : w = k
    · subst e; rw [am_up_at]
    · rw [am_up_nj _ _ _ _ e]; exact i2 w (by omega)) 8 0 rfl () M ⟨fun _ _ => rfl, fun w hw => by omega⟩
  refine ⟨M1, ?_, i1, i2⟩
  rw [e_Arrays_fill_71]
  refine h1.trans ?_
  rw [e_Arrays_fill_71_5, if_neg (by omega)]
theorem p_markOwn_11 (M : am_M) (s : Nat → Int) (c : Nat) (hc : M 11 3 = (c : Int)) (hl : c ≤ 12) (hw : M 11 1 = 3) (hr : ∀ k : Nat, k < c → M 12 (3 * k + 0) = s (82 + 3 * k) ∧ 0 ≤ s (82 + 3 * k) ∧ s (82 + 3 * k) ≤ 51) : ∃ M', cY 229 [rV 55, rV 11] M = some (0, M') ∧ (∀ a, a ≠ 56 → M' a = M a) ∧ ∀ w, w < 52 → (M' 56 w = (w : Int) ∧ ∃ k : Nat, k < c ∧ s (82 + 3 * k) = (w : Int)) ∨ (M' 56 w = M 56 w ∧ ¬ ∃ k : Nat, k < c ∧ s (82 + 3 * k) = (w : Int)) := by
  obtain ⟨d, M1, h1, i1, i2⟩ := lp_up (α := Option am_V) (X := fun k d M => cX 229 2 [some (rV 55), some (rV 11), some (iV (k : Int)), d] [] M) (n := c) (I := fun K M' => (∀ a, a ≠ 56 → M' a = M a) ∧ ∀ w, w < 52 → (M' 56 w = (w : Int) ∧ ∃ k : Nat, k < K ∧ s (82 + 3 * k) = (w : Int)) ∨ (M' 56 w = M 56 w ∧ ¬ ∃ k : Nat, k < K ∧ s (82 + 3 * k) = (w : Int))) (by
    intro k hk d M' hI
    obtain ⟨i1, i2⟩ := hI
    have hh := e_Season_markOwn_55_11_2 (k : Int) d M'
    obtain ⟨r1, r2, r3⟩ := hr k hk
    obtain ⟨v, hv⟩ : ∃ v : Nat, s (82 + 3 * k) = (v : Int) := ⟨(s (82 + 3 * k)).toNat, by omega⟩
    have eR : M' 11 = M 11 := i1 11 (by decide)
    have hcell := p_cell_11 M' k 0 (by rw [eR]; exact hw) (by rw [eR, hc]; omega) (by rw [eR, hc]; omega) (by omega)
    rw [i1 12 (by decide), r1, hv] at hcell
    have hcell : cY 222 [rV 11, iV (k : Int), iV 0] M' = some ((v : Int), M') := hcell
    rw [eR, hc, if_pos (by omega), hcell, am_cb_s, r_bd_ok (by omega) (by omega), r_ck_ok (by omega) (by omega), Int.toNat_natCast] at hh
    refine ⟨_, _, hh, fun a ha => (am_up_ne _ _ _ _ ha).trans (i1 a ha), fun w hw => ?_⟩
    by_cases e : w = v
    · subst e
      left
      exact ⟨am_up_at _ _ _ _, k, by omega, hv⟩
    · rw [am_up_nj _ _ _ _ e]
      rcases i2 w hw with ⟨x1, j, x2, x3⟩ | ⟨x1, x2⟩
      · exact Or.inl ⟨x1, j, by omega, x3⟩
      · right
        refine ⟨x1, ?_⟩
        rintro ⟨j, y1, y2⟩
        by_cases ej : j = k
        · subst ej; omega
        · exact x2 ⟨j, by omega, y2⟩) c 0 (by omega) none M ⟨fun _ _ => rfl, fun w hw => Or.inr ⟨rfl, fun ⟨k, hk, _⟩ => by omega⟩⟩
  refine ⟨M1, ?_, i1, i2⟩
  rw [e_Season_markOwn_55_11]
  refine h1.trans ?_
  rw [e_Season_markOwn_55_11_2, i1 11 (by decide), hc, if_neg (by omega)]
theorem p_markOwn_13 (M : am_M) (s : Nat → Int) (c : Nat) (hc : M 13 3 = (c : Int)) (hl : c ≤ 12) (hw : M 13 1 = 4) (hr : ∀ k : Nat, k < c → M 14 (4 * k + 0) = s (118 + 4 * k) ∧ 0 ≤ s (118 + 4 * k) ∧ s (118 + 4 * k) ≤ 51) : ∃ M', cY 229 [rV 55, rV 13] M = some (0, M') ∧ (∀ a, a ≠ 56 → M' a = M a) ∧ ∀ w, w < 52 → (M' 56 w = (w : Int) ∧ ∃ k : Nat, k < c ∧ s (118 + 4 * k) = (w : Int)) ∨ (M' 56 w = M 56 w ∧ ¬ ∃ k : Nat, k < c ∧ s (118 + 4 * k) = (w : Int)) := by
  obtain ⟨d, M1, h1, i1, i2⟩ := lp_up (α := Option am_V) (X := fun k d M => cX 229 2 [some (rV 55), some (rV 13), some (iV (k : Int)), d] [] M) (n := c) (I := fun K M' => (∀ a, a ≠ 56 → M' a = M a) ∧ ∀ w, w < 52 → (M' 56 w = (w : Int) ∧ ∃ k : Nat, k < K ∧ s (118 + 4 * k) = (w : Int)) ∨ (M' 56 w = M 56 w ∧ ¬ ∃ k : Nat, k < K ∧ s (118 + 4 * k) = (w : Int))) (by
    intro k hk d M' hI
    obtain ⟨i1, i2⟩ := hI
    have hh := e_Season_markOwn_55_13_2 (k : Int) d M'
    obtain ⟨r1, r2, r3⟩ := hr k hk
    obtain ⟨v, hv⟩ : ∃ v : Nat, s (118 + 4 * k) = (v : Int) := ⟨(s (118 + 4 * k)).toNat, by omega⟩
    have eR : M' 13 = M 13 := i1 13 (by decide)
    have hcell := p_cell_13 M' k 0 (by rw [eR]; exact hw) (by rw [eR, hc]; omega) (by rw [eR, hc]; omega) (by omega)
    rw [i1 14 (by decide), r1, hv] at hcell
    have hcell : cY 222 [rV 13, iV (k : Int), iV 0] M' = some ((v : Int), M') := hcell
    rw [eR, hc, if_pos (by omega), hcell, am_cb_s, r_bd_ok (by omega) (by omega), r_ck_ok (by omega) (by omega), Int.toNat_natCast] at hh
    refine ⟨_, _, hh, fun a ha => (am_up_ne _ _ _ _ ha).trans (i1 a ha), fun w hw => ?_⟩
    by_cases e : w = v
    · subst e
      left
      exact ⟨am_up_at _ _ _ _, k, by omega, hv⟩
    · rw [am_up_nj _ _ _ _ e]
      rcases i2 w hw with ⟨x1, j, x2, x3⟩ | ⟨x1, x2⟩
      · exact Or.inl ⟨x1, j, by omega, x3⟩
      · right
        refine ⟨x1, ?_⟩
        rintro ⟨j, y1, y2⟩
        by_cases ej : j = k
        · subst ej; omega
        · exact x2 ⟨j, by omega, y2⟩) c 0 (by omega) none M ⟨fun _ _ => rfl, fun w hw => Or.inr ⟨rfl, fun ⟨k, hk, _⟩ => by omega⟩⟩
  refine ⟨M1, ?_, i1, i2⟩
  rw [e_Season_markOwn_55_13]
  refine h1.trans ?_
  rw [e_Season_markOwn_55_13_2, i1 13 (by decide), hc, if_neg (by omega)]
theorem p_markOwn_15 (M : am_M) (s : Nat → Int) (c : Nat) (hc : M 15 3 = (c : Int)) (hl : c ≤ 6) (hw : M 15 1 = 3) (hr : ∀ k : Nat, k < c → M 16 (3 * k + 0) = s (166 + 3 * k) ∧ 0 ≤ s (166 + 3 * k) ∧ s (166 + 3 * k) ≤ 51) : ∃ M', cY 229 [rV 55, rV 15] M = some (0, M') ∧ (∀ a, a ≠ 56 → M' a = M a) ∧ ∀ w, w < 52 → (M' 56 w = (w : Int) ∧ ∃ k : Nat, k < c ∧ s (166 + 3 * k) = (w : Int)) ∨ (M' 56 w = M 56 w ∧ ¬ ∃ k : Nat, k < c ∧ s (166 + 3 * k) = (w : Int)) := by
  obtain ⟨d, M1, h1, i1, i2⟩ := lp_up (α := Option am_V) (X := fun k d M => cX 229 2 [some (rV 55), some (rV 15), some (iV (k : Int)), d] [] M) (n := c) (I := fun K M' => (∀ a, a ≠ 56 → M' a = M a) ∧ ∀ w, w < 52 → (M' 56 w = (w : Int) ∧ ∃ k : Nat, k < K ∧ s (166 + 3 * k) = (w : Int)) ∨ (M' 56 w = M 56 w ∧ ¬ ∃ k : Nat, k < K ∧ s (166 + 3 * k) = (w : Int))) (by
    intro k hk d M' hI
    obtain ⟨i1, i2⟩ := hI
    have hh := e_Season_markOwn_55_15_2 (k : Int) d M'
    obtain ⟨r1, r2, r3⟩ := hr k hk
    obtain ⟨v, hv⟩ : ∃ v : Nat, s (166 + 3 * k) = (v : Int) := ⟨(s (166 + 3 * k)).toNat, by omega⟩
    have eR : M' 15 = M 15 := i1 15 (by decide)
    have hcell := p_cell_15 M' k 0 (by rw [eR]; exact hw) (by rw [eR, hc]; omega) (by rw [eR, hc]; omega) (by omega)
    rw [i1 16 (by decide), r1, hv] at hcell
    have hcell : cY 222 [rV 15, iV (k : Int), iV 0] M' = some ((v : Int), M') := hcell
    rw [eR, hc, if_pos (by omega), hcell, am_cb_s, r_bd_ok (by omega) (by omega), r_ck_ok (by omega) (by omega), Int.toNat_natCast] at hh
    refine ⟨_, _, hh, fun a ha => (am_up_ne _ _ _ _ ha).trans (i1 a ha), fun w hw => ?_⟩
    by_cases e : w = v
    · subst e
      left
      exact ⟨am_up_at _ _ _ _, k, by omega, hv⟩
    · rw [am_up_nj _ _ _ _ e]
      rcases i2 w hw with ⟨x1, j, x2, x3⟩ | ⟨x1, x2⟩
      · exact Or.inl ⟨x1, j, by omega, x3⟩
      · right
        refine ⟨x1, ?_⟩
        rintro ⟨j, y1, y2⟩
        by_cases ej : j = k
        · subst ej; omega
        · exact x2 ⟨j, by omega, y2⟩) c 0 (by omega) none M ⟨fun _ _ => rfl, fun w hw => Or.inr ⟨rfl, fun ⟨k, hk, _⟩ => by omega⟩⟩
  refine ⟨M1, ?_, i1, i2⟩
  rw [e_Season_markOwn_55_15]
  refine h1.trans ?_
  rw [e_Season_markOwn_55_15_2, i1 15 (by decide), hc, if_neg (by omega)]
theorem p_open (M : am_M) (s : Nat → Int) (n : Nat) (hv : vT s) (hn : s 1 = (n : Int)) (h1n : 1 ≤ n) (hQ : cQ s M) : ∃ M', cY 224 [rV 55, iV (s 10)] M = some (0, M') ∧ (∀ a, a ≠ 55 → a ≠ 56 → a ≠ 57 → M' a = M a) ∧ M' 55 6 = s 10 ∧ M' 55 7 = 0 ∧ AS s n M' := by
  have hb1 := hv.2.1
  have hb2 := hv.2.2.1
  have hb3 := hv.2.2.2.1
  have hb4 := hv.2.2.2.2.1
  obtain ⟨hC, hL, hE, -⟩ := id hQ
  obtain ⟨m2, hm2⟩ : ∃ m : Nat, s 2 = (m : Int) := ⟨(s 2).toNat, by omega⟩
  obtain ⟨m3, hm3⟩ : ∃ m : Nat, s 3 = (m : Int) := ⟨(s 3).toNat, by omega⟩
  obtain ⟨m4, hm4⟩ : ∃ m : Nat, s 4 = (m : Int) := ⟨(s 4).toNat, by omega⟩
  have u : ∀ a, a ≠ 55 → (am_up (am_up M 55 6 (s 10)) 55 7 0) a = M a := fun a ha => by rw [am_up_ne _ _ _ _ ha, am_up_ne _ _ _ _ ha]
  obtain ⟨Ma, a1, a2, a3⟩ := p_fill56 (am_up (am_up M 55 6 (s 10)) 55 7 0)
  have ka : ∀ a, a ≠ 55 → a ≠ 56 → Ma a = M a := fun a x1 x2 => by rw [a2 a x2, u a x1]
  obtain ⟨Mb, b1, b2, b3⟩ := p_markOwn_11 Ma s m2 (by rw [ka 11 (by decide) (by decide), hL.2.2.2.1.1, hm2]) (by omega) (by rw [ka 11 (by decide) (by decide)]; exact hL.2.2.2.2.1.1) (fun k hk => by
    rw [ka 12 (by decide) (by decide)]
    have := hv.2.2.2.2.2.2.2.2.2.1 k (by omega)
    exact ⟨hL.2.2.2.2.2.1 k (by omega) 0 (by omega), this.1⟩)
  have kb : ∀ a, a ≠ 55 → a ≠ 56 → Mb a = M a := fun a x1 x2 => by rw [b2 a x2, ka a x1 x2]
  obtain ⟨Mc, c1, c2, c3⟩ := p_markOwn_13 Mb s m3 (by rw [kb 13 (by decide) (by decide), hE.1, hm3]) (by omega) (by rw [kb 13 (by decide) (by decide)]; exact hE.2.1) (fun k hk => by
    rw [kb 14 (by decide) (by decide)]
    have := hv.2.2.2.2.2.2.2.2.2.2.1 k (by omega)
    exact ⟨hE.2.2 k (by omega) 0 (by omega), this.1⟩)
  have kc : ∀ a, a ≠ 55 → a ≠ 56 → Mc a = M a := fun a x1 x2 => by rw [c2 a x2, kb a x1 x2]
  obtain ⟨Md, d1, d2, d3⟩ := p_markOwn_15 Mc s m4 (by rw [kc 15 (by decide) (by decide), hL.2.2.2.1.2, hm4]) (by omega) (by rw [kc 15 (by decide) (by decide)]; exact hL.2.2.2.2.1.2) (fun k hk => by
    rw [kc 16 (by decide) (by decide)]
    have := hv.2.2.2.2.2.2.2.2.2.2.2 k (by omega)
    exact ⟨hL.2.2.2.2.2.2 k (by omega) 0 (by omega), this.1⟩)
  have kd : ∀ a, a ≠ 55 → a ≠ 56 → Md a = M a := fun a x1 x2 => by rw [d2 a x2, kc a x1 x2]
  have kd55 : Md 55 = (am_up (am_up M 55 6 (s 10)) 55 7 0) 55 := by rw [d2 55 (by decide), c2 55 (by decide), b2 55 (by decide), a2 55 (by decide)]
  have own3 : ∀ w, w < 52 → (Md 56 w = (w : Int) ∧ own s w) ∨ (Md 56 w = -1 ∧ ¬ own s w) := fun w hw => by
    have xa := a3 w hw
    unfold own
    rcases d3 w hw with ⟨x1, k, x2, x3⟩ | ⟨x1, x2⟩
    · exact Or.inl ⟨x1, Or.inr (Or.inr ⟨k, by omega, x3⟩)⟩
    · rcases c3 w hw with ⟨y1, k, y2, y3⟩ | ⟨y1, y2⟩
      · exact Or.inl ⟨by rw [x1, y1], Or.inr (Or.inl ⟨k, by omega, y3⟩)⟩
      · rcases b3 w hw with ⟨z1, k, z2, z3⟩ | ⟨z1, z2⟩
        · exact Or.inl ⟨by rw [x1, y1, z1], Or.inl ⟨k, by omega, z3⟩⟩
        · right
          refine ⟨by rw [x1, y1, z1, xa], ?_⟩
          rintro (⟨k, h1, h2⟩ | ⟨k, h1, h2⟩ | ⟨k, h1, h2⟩)
          · exact z2 ⟨k, by omega, h2⟩
          · exact y2 ⟨k, by omega, h2⟩
          · exact x2 ⟨k, by omega, h2⟩
  obtain ⟨Me, f1, f2, f3⟩ := p_fill57 Md (-1)
  obtain ⟨dd, M1, h1, i1, i2, i3, i4⟩ := lp_up (α := Option am_V) (X := fun k d M => cX 224 31 [some (rV 55), d, some (iV (k : Int))] [] M) (n := 52) (I := fun W M' => (∀ a, a ≠ 56 → a ≠ 57 → M' a = Me a) ∧ (∀ w, w < W → ∃ a : Nat, M' 56 w = (a : Int) ∧ a ≤ w ∧ M' 56 a = (a : Int) ∧ AL s n a w) ∧ (∀ w, W ≤ w → w < 52 → (M' 56 w = (w : Int) ∧ own s w) ∨ (M' 56 w = -1 ∧ ¬ own s w)) ∧ ∀ t, t < 8 → M' 57 t = -1 ∨ ∃ a : Nat, M' 57 t = (a : Int) ∧ a < W ∧ ¬ own s a ∧ tby s a % n = t ∧ M' 56 a = (a : Int)) (by
    intro W hW d M' hI
    obtain ⟨i1, i2, i3, i4⟩ := hI
    have hh := e_Season_open_31 (W : Int) d M'
    have k0 : ∀ a, a ≠ 55 → a ≠ 56 → a ≠ 57 → M' a = M a := fun a x1 x2 x3 => by rw [i1 a x2 x3, f2 a x3, kd a x1 x2]
    rw [if_pos (by omega), r_bd_ok (by omega) (by omega), Int.toNat_natCast] at hh
    rcases i3 W (by omega) hW with ⟨x1, x2⟩ | ⟨x1, x2⟩
    · rw [if_neg (by omega), r_ck_ok (by omega) (by omega)] at hh
      refine ⟨none, M', hh, i1, fun w hw => ?_, fun w hw => i3 w (by omega), fun t ht => ?_⟩
      · by_cases e : w = W
        · subst e; exact ⟨w, x1, by omega, x1, Or.inl rfl⟩
        · exact i2 w (by omega)
      · rcases i4 t ht with h | ⟨a, h1, h2, h3⟩
        · exact Or.inl h
        · exact Or.inr ⟨a, h1, by omega, h3⟩
    · have e556 : M' 55 6 = s 10 := by rw [i1 55 (by decide) (by decide), f2 55 (by decide), kd55, am_up_nj _ _ _ _ (by decide), am_up_at]
      have htb : cY 256 [rV 46, iV (W : Int), iV (s 10)] M' = some (((tby s W % n : Nat) : Int), M') := by
        rcases p_turnedBy M' s W n hv (cL_eq hL (fun a ha => k0 a (by omega) (by omega) (by omega))) hn (by omega) with h | ⟨h, -⟩
        · exact h
        · omega
      have ht : tby s W % n < n := Nat.mod_lt _ (by omega)
      have fl : ∀ v M2, cY 230 [rV 55, iV (W : Int)] M' = some (v, M2) → cX 224 31 [some (rV 55), d, some (iV (W : Int))] [] M' = cX 224 31 [some (rV 55), none, some (iV ((W : Int) + 1))] [] (am_up M2 56 W v) := fun v M2 hx => by
        rw [if_pos x1, hx, am_cb_s, r_bd_ok (by omega) (by omega), r_ck_ok (by omega) (by omega)] at hh
        exact hh
      rcases i4 (tby s W % n) (by omega) with h | ⟨a, h1, h2, h3, h4, h5⟩
      · have hx : cY 230 [rV 55, iV (W : Int)] M' = some ((W : Int), am_up M' 57 (tby s W % n) (W : Int)) := by
          rw [e_Season_firstLike, e556, htb, am_cb_s, r_bd_ok (by omega) (by omega), Int.toNat_natCast, if_pos h, r_bd_ok (by omega) (by omega), r_bd_ok (by omega) (by omega), am_up_at]
        refine ⟨none, _, fl _ _ hx, fun a y1 y2 => by rw [am_up_ne _ _ _ _ y1, am_up_ne _ _ _ _ y2, i1 a y1 y2], fun w hw => ?_, fun w y1 y2 => ?_, fun t ht' => ?_⟩
        · by_cases e : w = W
          · subst e; exact ⟨w, am_up_at _ _ _ _, by omega, am_up_at _ _ _ _, Or.inl rfl⟩
          · obtain ⟨a, z1, z2, z3, z4⟩ := i2 w (by omega)
            refine ⟨a, ?_, z2, ?_, z4⟩
            · rw [am_up_nj _ _ _ _ e, am_up_ne _ _ _ _ (by decide)]; exact z1
            · rw [am_up_nj _ _ _ _ (by omega), am_up_ne _ _ _ _ (by decide)]; exact z3
        · rw [am_up_nj _ _ _ _ (by omega), am_up_ne _ _ _ _ (by decide)]; exact i3 w (by omega) y2
        · rw [am_up_ne _ _ _ _ (show 57 ≠ 56 by decide)]
          by_cases e : t = tby s W % n
          · subst e
            right
            exact ⟨W, am_up_at _ _ _ _, by omega, x2, rfl, am_up_at _ _ _ _⟩
          · rw [am_up_nj _ _ _ _ e]
            rcases i4 t ht' with h | ⟨a, z1, z2, z3, z4, z5⟩
            · exact Or.inl h
            · right
              refine ⟨a, z1, by omega, z3, z4, ?_⟩
              rw [am_up_nj _ _ _ _ (by omega), am_up_ne _ _ _ _ (by decide)]; exact z5
      · have hx : cY 230 [rV 55, iV (W : Int)] M' = some ((a : Int), M') := by
          rw [e_Season_firstLike, e556, htb, am_cb_s, r_bd_ok (by omega) (by omega), Int.toNat_natCast, h1, if_neg (by omega), r_bd_ok (by omega) (by omega)]
        refine ⟨none, _, fl _ _ hx, fun b y1 y2 => by rw [am_up_ne _ _ _ _ y1, i1 b y1 y2], fun w hw => ?_, fun w y1 y2 => ?_, fun t ht' => ?_⟩
        · by_cases e : w = W
          · subst e
            refine ⟨a, am_up_at _ _ _ _, by omega, ?_, Or.inr ⟨h3, x2, h4⟩⟩
            rw [am_up_nj _ _ _ _ (by omega)]; exact h5
          · obtain ⟨b, z1, z2, z3, z4⟩ := i2 w (by omega)
            refine ⟨b, ?_, z2, ?_, z4⟩
            · rw [am_up_nj _ _ _ _ e]; exact z1
            · rw [am_up_nj _ _ _ _ (by omega)]; exact z3
        · rw [am_up_nj _ _ _ _ (by omega)]; exact i3 w (by omega) y2
        · rw [am_up_ne _ _ _ _ (show 57 ≠ 56 by decide)]
          rcases i4 t ht' with h | ⟨b, z1, z2, z3, z4, z5⟩
          · exact Or.inl h
          · right
            refine ⟨b, z1, by omega, z3, z4, ?_⟩
            rw [am_up_nj _ _ _ _ (by omega)]; exact z5) 52 0 rfl (some (iV (s 10))) Me ⟨fun _ _ _ => rfl, fun w hw => by omega, fun w _ hw => by rw [f2 56 (by decide)]; exact own3 w hw, fun t ht => Or.inl (f3 t ht)⟩
  have k1 : M1 55 = (am_up (am_up M 55 6 (s 10)) 55 7 0) 55 := by rw [i1 55 (by decide) (by decide), f2 55 (by decide), kd55]
  refine ⟨M1, ?_, fun a x1 x2 x3 => by rw [i1 a x2 x3, f2 a x3, kd a x1 x2], by rw [k1, am_up_nj _ _ _ _ (by decide), am_up_at], by rw [k1, am_up_at], i2⟩
  rw [e_Season_open, a1, am_cb_s, b1, am_cb_s, c1, am_cb_s, d1, am_cb_s, f1, am_cb_s]
  refine h1.trans ?_
  rw [e_Season_open_31, if_neg (by omega)]
-- weeks reckoned
theorem p_reckonOne (M : am_M) (s : Nat → Int) (n w : Nat) (hv : vT s) (hn : s 1 = (n : Int)) (hQ : cQ s M) (hN : CN s M) (h6 : M 55 6 = s 10) (hw : w ≤ 51) : ∃ M', cY 231 [rV 55, iV (w : Int)] M = some (0, M') ∧ (∀ a, a < 43 ∨ (54 < a ∧ a ≠ 58 ∧ a ≠ 59) → M' a = M a) ∧ (∀ i, i < 8 * w ∨ 8 * w + 8 ≤ i → M' 58 i = M 58 i ∧ M' 59 i = M 59 i) ∧ ∀ f, f < n → M' 58 (8 * w + f) = gnd s (rst s w) n w f ∧ M' 59 (8 * w + f) = ngt s (rst s w) n w f := by
  have hb1 := hv.2.1
  have hP := isP_rst hv hn w
  obtain ⟨M1, b1, b2, b3, b4, b5⟩ := p_lineUp M s w n hv hQ.2.1 hn hw
  have hQ1 : cQ s M1 := cQ_eq hQ (fun a ha => b2 a (by omega))
  have hN1 : CN s M1 := CN_eq hN (b2 40 (by omega)) (b2 41 (by omega)) (b2 42 (by omega))
  obtain ⟨M2, c1, c2, c3, c4⟩ := p_reckon M1 s (rst s w) n w hv hn hP hQ1 hN1 b3 b4
  have hX : CX s (rst s w) n w M2 := ⟨cQ_eq hQ1 (fun a ha => c2 a (by omega)), CN_eq hN1 (c2 40 (by omega)) (c2 41 (by omega)) (c2 42 (by omega)), CZ_eq b5 (c2 43 (by omega)) (c2 44 (by omega)) (c2 45 (by omega)), c4, fun p hp => by rw [c2 47 (by omega)]; exact b4 p hp⟩
  have CXe : ∀ M', (∀ a, a ≠ 58 → a ≠ 59 → M' a = M2 a) → CX s (rst s w) n w M' := fun M' e => by
    obtain ⟨x1, x2, x3, x4, x5⟩ := hX
    refine ⟨cQ_eq x1 (fun a ha => e a (by omega) (by omega)), CN_eq x2 (e 40 (by omega) (by omega)) (e 41 (by omega) (by omega)) (e 42 (by omega) (by omega)), CZ_eq x3 (e 43 (by omega) (by omega)) (e 44 (by omega) (by omega)) (e 45 (by omega) (by omega)), ?_, fun p hp => by rw [e 47 (by omega) (by omega)]; exact x5 p hp⟩
    unfold CW at x4 ⊢
    rw [e 48 (by omega) (by omega), e 49 (by omega) (by omega), e 50 (by omega) (by omega), e 52 (by omega) (by omega), e 46 (by omega) (by omega), e 53 (by omega) (by omega), e 54 (by omega) (by omega)]
    exact x4
  obtain ⟨-, M3, h1, i1, i2, i3⟩ := lp_up (α := Unit) (X := fun k _ M => cX 231 11 [some (rV 55), some (iV (w : Int)), some (iV (k : Int))] [] M) (n := n) (I := fun k M' => (∀ a, a ≠ 58 → a ≠ 59 → M' a = M2 a) ∧ (∀ i, i < 8 * w ∨ 8 * w + 8 ≤ i → M' 58 i = M2 58 i ∧ M' 59 i = M2 59 i) ∧ ∀ f, f < k → M' 58 (8 * w + f) = gnd s (rst s w) n w f ∧ M' 59 (8 * w + f) = ngt s (rst s w) n w f) (by
    intro k hk d M' hI
    obtain ⟨i1, i2, i3⟩ := hI
    have hh := e_Season_reckonOne_11 (w : Int) (k : Int) M'
    have hc := CXe M' i1
    have q1 := p_gainedOf hv hn hP hc hk
    have q2 := p_nightOf hv hn hP (CXe (am_up M' 58 (8 * w + k) (gnd s (rst s w) n w k)) (fun a x1 x2 => by rw [am_up_ne _ _ _ _ x1]; exact i1 a x1 x2)) hk
    have e04 : M' 0 4 = (n : Int) := by rw [hc.1.1.1, hn]
    rw [e04, if_pos (by omega), r_ck_ok (by omega) (by omega), r_ck_ok (by omega) (by omega), q1, am_cb_s, r_bd_ok (by omega) (by omega), r_ck_ok (by omega) (by omega), r_ck_ok (by omega) (by omega), show ((w : Int) * 8 + (k : Int)).toNat = 8 * w + k by omega, q2, am_cb_s, r_bd_ok (by omega) (by omega), r_ck_ok (by omega) (by omega)] at hh
    refine ⟨(), _, hh, fun a x1 x2 => by rw [am_up_ne _ _ _ _ x2, am_up_ne _ _ _ _ x1, i1 a x1 x2], fun i hi => ?_, fun f hf => ?_⟩
    · rw [am_up_ne _ _ _ _ (show 58 ≠ 59 by decide), am_up_nj _ _ _ _ (by omega), am_up_nj _ _ _ _ (by omega), am_up_ne _ _ _ _ (by decide)]
      exact i2 i hi
    · rw [am_up_ne _ _ _ _ (show 58 ≠ 59 by decide)]
      by_cases e : f = k
      · subst e; rw [am_up_at, am_up_at]; exact ⟨rfl, rfl⟩
      · rw [am_up_nj _ _ _ _ (by omega), am_up_nj _ _ _ _ (by omega), am_up_ne _ _ _ _ (by decide)]
        exact i3 f (by omega)) n 0 (by omega) () M2 ⟨fun _ _ _ => rfl, fun _ _ => ⟨rfl, rfl⟩, fun f hf => by omega⟩
  refine ⟨M3, ?_, fun a ha => by rw [i1 a (by omega) (by omega), c2 a (by omega), b2 a (by omega)], fun i hi => by rw [← b2 58 (by omega), ← b2 59 (by omega), ← c2 58 (by omega), ← c2 59 (by omega)]; exact i2 i hi, i3⟩
  rw [e_Season_reckonOne, h6, b1, am_cb_s, c1, am_cb_s]
  refine h1.trans ?_
  rw [e_Season_reckonOne_11, i1 0 (by decide) (by decide), hX.1.1.1, hn, if_neg (by omega)]
/-- the season holds the weeks below r -/
def SN (s : Nat → Int) (n r : Nat) (M : am_M) : Prop := M 55 6 = s 10 ∧ AS s n M ∧ M 55 7 = (r : Int) ∧ r ≤ 52 ∧ ∀ w, w < r → M 56 w = (w : Int) → ∀ f, f < n → M 58 (8 * w + f) = gnd s (rst s w) n w f ∧ M 59 (8 * w + f) = ngt s (rst s w) n w f
theorem SN_eq {s : Nat → Int} {n r : Nat} {M M' : am_M} (h : SN s n r M) (e5 : M' 55 = M 55) (e6 : M' 56 = M 56) (e8 : M' 58 = M 58) (e9 : M' 59 = M 59) : SN s n r M' := by
  unfold SN AS at h ⊢
  rw [e5, e6, e8, e9]
  exact h
theorem p_reckonTo (s : Nat → Int) (n wk : Nat) (hv : vT s) (hn : s 1 = (n : Int)) (hwk : wk ≤ 51) : ∀ (j r : Nat) (M : am_M), wk + 1 - r ≤ j → cQ s M → CN s M → SN s n r M → ∃ M' r', cX 226 0 [some (rV 55), some (iV (wk : Int))] [] M = some (0, M') ∧ (∀ a, a < 43 ∨ (55 < a ∧ a ≠ 58 ∧ a ≠ 59) → M' a = M a) ∧ SN s n r' M' ∧ wk < r' ∧ r ≤ r' := by
  intro j
  induction j with
  | zero =>
    intro r M hj hQ hN hS
    exact ⟨M, r, by rw [e_Season_reckonTo_0, hS.2.2.1, if_pos (by omega)], fun _ _ => rfl, hS, by omega, by omega⟩
  | succ j ih =>
    intro r M hj hQ hN hS
    by_cases c : wk < r
    · exact ⟨M, r, by rw [e_Season_reckonTo_0, hS.2.2.1, if_pos (by omega)], fun _ _ => rfl, hS, by omega, by omega⟩
    · obtain ⟨s1, s2, s3, s4, s5⟩ := id hS
      rw [e_Season_reckonTo_0, s3, if_neg (by omega), if_pos (by omega), r_bd_ok (by omega) (by omega), Int.toNat_natCast]
      by_cases q : M 56 r = (r : Int)
      · obtain ⟨M1, a1, a2, a3, a4⟩ := p_reckonOne M s n r hv hn hQ hN s1 (by omega)
        have e55 : M1 55 = M 55 := a2 55 (by omega)
        have e56 : M1 56 = M 56 := a2 56 (by omega)
        rw [if_pos q, a1, am_cb_s, e55, s3, r_ck_ok (by omega) (by omega)]
        have hS1 : SN s n (r + 1) (am_up M1 55 7 ((r : Int) + 1)) := by
          refine ⟨?_, ?_, am_up_at _ _ _ _, by omega, fun w hw hw2 f hf => ?_⟩
          · rw [am_up_nj _ _ _ _ (by decide), e55]; exact s1
          · unfold AS; rw [am_up_ne _ _ _ _ (by decide), e56]; exact s2
          · rw [am_up_ne _ _ _ _ (by decide)] at hw2
            rw [am_up_ne _ _ _ _ (by decide), am_up_ne _ _ _ _ (by decide)]
            by_cases e : w = r
            · subst e; exact a4 f hf
            · have hb1 := hv.2.1
              rw [(a3 (8 * w + f) (by omega)).1, (a3 (8 * w + f) (by omega)).2]
              rw [e56] at hw2
              exact s5 w (by omega) hw2 f hf
        obtain ⟨M2, r', b1, b2, b3, b4, b5⟩ := ih (r + 1) (am_up M1 55 7 ((r : Int) + 1)) (by omega) (cQ_eq hQ (fun a ha => by rw [am_up_ne _ _ _ _ (by omega), a2 a (by omega)])) (CN_eq hN (by rw [am_up_ne _ _ _ _ (by decide), a2 40 (by omega)]) (by rw [am_up_ne _ _ _ _ (by decide), a2 41 (by omega)]) (by rw [am_up_ne _ _ _ _ (by decide), a2 42 (by omega)])) hS1
        exact ⟨M2, r', b1, fun a ha => by rw [b2 a ha, am_up_ne _ _ _ _ (by omega), a2 a (by omega)], b3, b4, by omega⟩
      · rw [if_neg q, r_ck_ok (by omega) (by omega)]
        have hS1 : SN s n (r + 1) (am_up M 55 7 ((r : Int) + 1)) := by
          refine ⟨?_, ?_, am_up_at _ _ _ _, by omega, fun w hw hw2 f hf => ?_⟩
          · rw [am_up_nj _ _ _ _ (by decide)]; exact s1
          · unfold AS; rw [am_up_ne _ _ _ _ (by decide)]; exact s2
          · rw [am_up_ne _ _ _ _ (by decide)] at hw2
            rw [am_up_ne _ _ _ _ (by decide), am_up_ne _ _ _ _ (by decide)]
            by_cases e : w = r
            · subst e; exact absurd hw2 q
            · exact s5 w (by omega) hw2 f hf
        obtain ⟨M2, r', b1, b2, b3, b4, b5⟩ := ih (r + 1) (am_up M 55 7 ((r : Int) + 1)) (by omega) (cQ_eq hQ (fun a ha => am_up_ne _ _ _ _ (by omega))) (CN_eq hN (am_up_ne _ _ _ _ (by decide)) (am_up_ne _ _ _ _ (by decide)) (am_up_ne _ _ _ _ (by decide))) hS1
        exact ⟨M2, r', b1, fun a ha => by rw [b2 a ha, am_up_ne _ _ _ _ (by omega)], b3, b4, by omega⟩
theorem p_gainedIn {s : Nat → Int} {n r : Nat} {M : am_M} (hv : vT s) (hn : s 1 = (n : Int)) (h : SN s n r M) {w f : Nat} (hw : w < r) (hf : f < n) : cY 227 [rV 55, iV (w : Int), iV (f : Int)] M = some (gnd s (rst s w) n w f, M) := by
  have hb1 := hv.2.1
  obtain ⟨s1, s2, s3, s4, s5⟩ := h
  obtain ⟨a, a1, a2, a3, a4⟩ := s2 w (by omega)
  rw [e_Season_gainedIn, r_bd_ok (by omega) (by omega), Int.toNat_natCast, a1, r_ck_ok (by omega) (by omega), r_ck_ok (by omega) (by omega), r_bd_ok (by omega) (by omega), show ((a : Int) * 8 + (f : Int)).toNat = 8 * a + f by omega, (s5 a (by omega) a3 f hf).1, (AL_eq hv hn a4 f).1]
theorem p_nightIn {s : Nat → Int} {n r : Nat} {M : am_M} (hv : vT s) (hn : s 1 = (n : Int)) (h : SN s n r M) {w f : Nat} (hw : w < r) (hf : f < n) : cY 228 [rV 55, iV (w : Int), iV (f : Int)] M = some (ngt s (rst s w) n w f, M) := by
  have hb1 := hv.2.1
  obtain ⟨s1, s2, s3, s4, s5⟩ := h
  obtain ⟨a, a1, a2, a3, a4⟩ := s2 w (by omega)
  rw [e_Season_nightIn, r_bd_ok (by omega) (by omega), Int.toNat_natCast, a1, r_ck_ok (by omega) (by omega), r_ck_ok (by omega) (by omega), r_bd_ok (by omega) (by omega), show ((a : Int) * 8 + (f : Int)).toNat = 8 * a + f by omega, (s5 a (by omega) a3 f hf).2, (AL_eq hv hn a4 f).2]
/-- what a week leaves in a soil -/
def slb (s : Nat → Int) (n w f : Nat) (L : Int) : Int := min (L + dpt s (rst s w) n w f) (s (44 + 4 * f)) - s (45 + 4 * f)
theorem p_soilBehind {s : Nat → Int} {n r : Nat} {M : am_M} (hv : vT s) (hn : s 1 = (n : Int)) (hQ : cQ s M) (hN : CN s M) (h : SN s n r M) {w f : Nat} (hw : w < r) (hf : f < n) (L : Int) (hL : 0 ≤ L ∧ L ≤ 9999) : cY 36 [rV 70, iV (w : Int), iV (f : Int), iV L] M = some (slb s n w f L, M) := by
  have hb1 := hv.2.1
  have hP := isP_rst hv hn w
  obtain ⟨v1, v2, v3, v4⟩ := hv.2.2.2.2.2.2.2.1 f (by omega)
  obtain ⟨q6, q7, q8⟩ := hQ.2.2.2.1 f (by omega)
  have bw := wtr_bd hv hn hP w hf
  have bd := dpt_bd hv hn hP w hf
  rw [e_Desk_soilBehind, r_bd_ok (by omega) (by omega), Int.toNat_natCast, q6, if_pos (by omega), p_gainedIn hv hn h hw hf, am_cb_s, r_bd_ok (by omega) (by omega), hQ.1.2.2 f (by omega), p_flowOfF hv hn hN hf, am_cb_s, q7, q8]
  have e1 : gnd s (rst s w) n w f * fwl s ((s (42 + 4 * f)).toNat + 1) = wtr s (rst s w) n w f := rfl
  have e2 : Int.tdiv (wtr s (rst s w) n w f) (s (43 + 4 * f)) = dpt s (rst s w) n w f := rfl
  rw [e1, e2, r_ck_ok (by omega) (by omega), if_neg (by omega), r_ck_ok (by omega) (by omega), r_ck_ok (by omega) (by omega), r_bd_ok (by omega) (by omega), r_bd_ok (by omega) (by omega), r_ck_ok (by omega) (by omega)]
  rfl
theorem p_openSeason (M : am_M) (s : Nat → Int) (n : Nat) (hv : vT s) (hn : s 1 = (n : Int)) (h1n : 1 ≤ n) (hc : cT s M 0) (hk : kT M 0) : ∃ M', cY 35 [rV 70] M = some (0, M') ∧ (∀ a, a < 40 ∨ (42 < a ∧ a < 55) ∨ 57 < a → M' a = M a) ∧ cQ s M' ∧ CN s M' ∧ SN s n 0 M' := by
  obtain ⟨M1, a1, a2, a3⟩ := p_letIn0 M s hv hc
  have hQ1 : cQ s M1 := cQ_eq (cQ_of hv hc hk (md.rf s)) (fun a ha => a2 a (by omega) (by omega) (by omega))
  have e5 : M1 10 5 = s 10 := by rw [a2 10 (by decide) (by decide) (by decide)]; exact hc.2.2.2.2.2.1 5 (by omega)
  obtain ⟨M2, b1, b2, b3, b4, b5⟩ := p_open M1 s n hv hn h1n hQ1
  refine ⟨M2, by rw [e_Desk_openSeason, a1, am_cb_s, e5, b1, am_cb_s], fun a ha => by rw [b2 a (by omega) (by omega) (by omega), a2 a (by omega) (by omega) (by omega)], cQ_eq hQ1 (fun a ha => b2 a (by omega) (by omega) (by omega)), CN_eq a3 (b2 40 (by decide) (by decide) (by decide)) (b2 41 (by decide) (by decide) (by decide)) (b2 42 (by decide) (by decide) (by decide)), b3, b5, b4, by omega, fun w hw => by omega⟩
