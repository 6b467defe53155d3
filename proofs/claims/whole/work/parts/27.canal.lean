-- flows, weights
def fwl (s : Nat → Int) : Nat → Int
  | 0 => s 5
  | k + 1 => fwl s k - Int.tdiv (fwl s k * s (14 + 3 * k)) 1000
theorem fwl_bd {s : Nat → Int} (hv : vT s) : ∀ k : Nat, (k : Int) ≤ s 0 → 1 ≤ fwl s k ∧ fwl s k ≤ 999 := by
  intro k
  induction k with
  | zero => intro _; exact hv.2.2.2.2.2.1.1
  | succ k ih =>
    intro hk
    have h1 := ih (by omega)
    have h2 := (hv.2.2.2.2.2.2.1 k (by omega)).2.2
    obtain ⟨q1, q2, q3, q4⟩ := p_left (a := fwl s k) (b := s (14 + 3 * k)) (by omega) h2
    show 1 ≤ fwl s k - Int.tdiv (fwl s k * s (14 + 3 * k)) 1000 ∧ fwl s k - Int.tdiv (fwl s k * s (14 + 3 * k)) 1000 ≤ 999
    omega
def wt (s : Nat → Int) (f : Nat) : Int := if s 11 = 0 then s (43 + 4 * f) else Int.tdiv (s (43 + 4 * f) * 1000000) (fwl s ((s (42 + 4 * f)).toNat + 1))
def wsum (s : Nat → Int) : Nat → Int
  | 0 => 0
  | k + 1 => wsum s k + wt s k
theorem dv_bd {a b : Int} (ha : 1000000 ≤ a ∧ a ≤ 999000000) (hb : 1 ≤ b ∧ b ≤ 999) : 1 ≤ Int.tdiv a b ∧ Int.tdiv a b ≤ 999000000 := by
  rw [Int.tdiv_eq_ediv_of_nonneg (by omega)]
  constructor
  · exact Int.le_ediv_of_mul_le (by omega) (by omega)
  · have := Int.ediv_le_self b (show 0 ≤ a by omega)
    omega
theorem wt_bd {s : Nat → Int} (hv : vT s) {f : Nat} (hf : (f : Int) < s 1) : 1 ≤ wt s f ∧ wt s f ≤ 999000000 := by
  have h := hv.2.2.2.2.2.2.2.1 f hf
  have h1 := fwl_bd hv ((s (42 + 4 * f)).toNat + 1) (by omega)
  unfold wt
  split
  · omega
  · exact dv_bd (by omega) h1
theorem wsum_bd {s : Nat → Int} (hv : vT s) : ∀ k : Nat, (k : Int) ≤ s 1 → (k : Int) ≤ wsum s k ∧ wsum s k ≤ 999000000 * (k : Int) := by
  intro k
  induction k with
  | zero => intro _; exact ⟨by show (0 : Int) ≤ 0; omega, by show (0 : Int) ≤ 999000000 * 0; omega⟩
  | succ k ih =>
    intro hk
    have h1 := ih (by omega)
    have h2 := wt_bd hv (f := k) (by omega)
    show ((k + 1 : Nat) : Int) ≤ wsum s k + wt s k ∧ wsum s k + wt s k ≤ 999000000 * ((k + 1 : Nat) : Int)
    omega
theorem p_flowOf (M : am_M) (hv : vT (M 73)) (r : Nat) (hr : (r : Int) < M 73 0) : cY 99 [rV 72, iV (r : Int)] M = some (fwl (M 73) (r + 1), M) := by
  rw [e_Model_flowOf]
  have hb := hv.1
  have L : ∀ j k : Nat, k + j = r + 1 → cX 99 7 [some (rV 72), some (iV (r : Int)), some (iV (fwl (M 73) k)), some (iV (k : Int))] [] M = some (fwl (M 73) (r + 1), M) := by
    intro j
    induction j with
    | zero => intro k hk; have e : k = r + 1 := by omega
              subst e; rw [e_Model_flowOf_7, if_pos (by omega)]
    | succ j ih =>
      intro k hk
      have h1 := fwl_bd hv k (by omega)
      have h2 := (hv.2.2.2.2.2.2.1 k (by omega)).2.2
      obtain ⟨q1, q2, q3, q4⟩ := p_left (a := fwl (M 73) k) (b := M 73 (14 + 3 * k)) (by omega) h2
      rw [e_Model_flowOf_7, if_neg (by omega), r_ck_ok (by omega) (by omega), r_ck_ok (by omega) (by omega), r_ck_ok (by omega) (by omega), r_bd_ok (by omega) (by omega), show (12 + 3 * (k : Int) + 2).toNat = 14 + 3 * k by omega, r_ck_ok (by omega) (by omega), r_ck_ok (by omega) (by omega), r_ck_ok (by omega) (by omega), r_ck_ok (by omega) (by omega)]
      exact ih (k + 1) (by omega)
  exact L (r + 1) 0 (by omega)
theorem p_weightOf (M : am_M) (hv : vT (M 73)) (f : Nat) (hf : (f : Int) < M 73 1) : cY 106 [rV 72, iV (f : Int)] M = some (wt (M 73) f, M) := by
  have hb := hv.2.1
  have h := hv.2.2.2.2.2.2.2.1 f hf
  have h1 := fwl_bd hv ((M 73 (42 + 4 * f)).toNat + 1) (by omega)
  rw [e_Model_weightOf]
  unfold wt
  by_cases q : M 73 11 = 0
  · rw [if_pos q, if_pos q, p_of1 M f (by omega), am_cb_s]
  · obtain ⟨r, hr⟩ : ∃ r : Nat, M 73 (42 + 4 * f) = (r : Int) := ⟨(M 73 (42 + 4 * f)).toNat, by omega⟩
    rw [hr, Int.toNat_natCast] at h1
    have h3 := dv_bd (a := M 73 (43 + 4 * f) * 1000000) (by omega) h1
    rw [if_neg q, if_neg q, p_of1 M f (by omega), am_cb_s, r_cl_ok (by omega) (by omega), p_of0 M f (by omega), am_cb_s, hr, p_flowOf M hv r (by omega), am_cb_s, if_neg (by omega), Int.toNat_natCast, r_cl_ok (by omega) (by omega)]
/-- what the class's canal holds -/
def CN (s : Nat → Int) (M : am_M) : Prop := (∀ r : Nat, (r : Int) < s 0 → M 41 r = fwl s (r + 1)) ∧ (∀ f : Nat, (f : Int) < s 1 → M 42 f = wt s f) ∧ M 40 3 = wsum s (s 1).toNat
theorem CN_eq {s : Nat → Int} {M M' : am_M} (h : CN s M) (e0 : M' 40 = M 40) (e1 : M' 41 = M 41) (e2 : M' 42 = M 42) : CN s M' := by
  unfold CN at h ⊢
  rw [e0, e1, e2]
  exact h
theorem p_letIn (M : am_M) (s s' : Nat → Int) (flow lined : Int) (hv : vT s) (hv' : vT s') (hc : cT s M 0) (h5 : s' 5 = flow) (hs : ∀ r : Nat, (r : Int) < s 0 → s' (14 + 3 * r) = if (r : Int) = lined then 0 else s (14 + 3 * r)) (he : ∀ i, i ≠ 5 → (i < 12 ∨ 42 ≤ i) → s' i = s i) : ∃ M', cY 173 [rV 40, iV flow, iV lined] M = some (0, M') ∧ (∀ a, a ≠ 40 → a ≠ 41 → a ≠ 42 → M' a = M a) ∧ CN s' M' := by
  have hb0 := hv.1
  have hb1 := hv.2.1
  have e0 : s' 0 = s 0 := he 0 (by omega) (by omega)
  have e1 : s' 1 = s 1 := he 1 (by omega) (by omega)
  obtain ⟨m, hm⟩ : ∃ m : Nat, s 0 = (m : Int) := ⟨(s 0).toNat, by omega⟩
  obtain ⟨n, hn⟩ : ∃ n : Nat, s 1 = (n : Int) := ⟨(s 1).toNat, by omega⟩
  have c00 : M 0 0 = (m : Int) := by rw [← hm]; exact hc.1
  have c04 : M 0 4 = (n : Int) := by rw [← hn]; exact hc.2.1
  have c3 : ∀ r : Nat, r < m → M 3 r = s (14 + 3 * r) := fun r hr => (hc.2.2.2.2.2.2.2.1 r (by omega)).2.2
  obtain ⟨d1, M1, h1, i1, i2⟩ := lp_up (α := Option am_V) (X := fun k d M => cX 173 4 [some (rV 40), d, some (iV lined), some (iV (fwl s' k)), some (iV (k : Int))] [] M) (n := m) (I := fun k M' => (∀ a, a ≠ 41 → M' a = M a) ∧ ∀ r, r < k → M' 41 r = fwl s' (r + 1)) (by
    intro k hk d M' hI
    obtain ⟨i1, i2⟩ := hI
    have hfb := fwl_bd hv' k (by omega)
    have hh := e_Canal_letIn_4 lined (fwl s' k) (k : Int) d M'
    have es := hs k (by omega)
    have hsb := (hv.2.2.2.2.2.2.1 k (by omega)).2.2
    rw [i1 0 (by decide), c00, if_pos (by omega)] at hh
    have fin : ∀ d', cX 173 4 [some (rV 40), d, some (iV lined), some (iV (fwl s' k)), some (iV (k : Int))] [] M' = cX 173 4 [some (rV 40), d', some (iV lined), some (iV (fwl s' (k + 1))), some (iV ((k : Int) + 1))] [] (am_up M' 41 k (fwl s' (k + 1))) → ∃ d' M2, cX 173 4 [some (rV 40), d, some (iV lined), some (iV (fwl s' k)), some (iV (k : Int))] [] M' = cX 173 4 [some (rV 40), d', some (iV lined), some (iV (fwl s' (k + 1))), some (iV ((k + 1 : Nat) : Int))] [] M2 ∧ (∀ a, a ≠ 41 → M2 a = M a) ∧ ∀ r, r < k + 1 → M2 41 r = fwl s' (r + 1) := by
      intro d' hq
      refine ⟨d', _, hq, fun a ha => (am_up_ne _ _ _ _ ha).trans (i1 a ha), fun r hr => ?_⟩
      by_cases e : r = k
      · subst e; rw [am_up_at]
      · rw [am_up_nj _ _ _ _ e]; exact i2 r (by omega)
    by_cases q : (k : Int) = lined
    · rw [if_pos q] at es
      rw [if_pos q, p_leftBehind M' (by omega) (by omega), am_cb_s, r_bd_ok (by omega) (by omega), r_ck_ok (by omega) (by omega), Int.toNat_natCast] at hh
      refine fin none (hh.trans ?_)
      show _ = cX 173 4 [some (rV 40), none, some (iV lined), some (iV (fwl s' k - Int.tdiv (fwl s' k * s' (14 + 3 * k)) 1000)), some (iV ((k : Int) + 1))] [] (am_up M' 41 k (fwl s' k - Int.tdiv (fwl s' k * s' (14 + 3 * k)) 1000))
      rw [es]
    · rw [if_neg q] at es
      rw [if_neg q, r_bd_ok (by omega) (by omega), Int.toNat_natCast, i1 3 (by decide), c3 k hk, p_leftBehind M' (by omega) hsb, am_cb_s, r_bd_ok (by omega) (by omega), r_ck_ok (by omega) (by omega)] at hh
      refine fin none (hh.trans ?_)
      show _ = cX 173 4 [some (rV 40), none, some (iV lined), some (iV (fwl s' k - Int.tdiv (fwl s' k * s' (14 + 3 * k)) 1000)), some (iV ((k : Int) + 1))] [] (am_up M' 41 k (fwl s' k - Int.tdiv (fwl s' k * s' (14 + 3 * k)) 1000))
      rw [es]) m 0 (by omega) (some (iV flow)) M ⟨fun _ _ => rfl, fun r hr => by omega⟩
  have hM1 : ∀ a, a ≠ 40 → a ≠ 41 → (am_up M1 40 3 0) a = M a := fun a h40 h41 => by rw [am_up_ne _ _ _ _ h40, i1 a h41]
  obtain ⟨⟨da, db, dc⟩, M2, h2, j1, j2, j3⟩ := lp_up (α := Option am_V × Option am_V × Option am_V) (X := fun k d M => cX 173 34 [some (rV 40), d.1, d.2.1, d.2.2, some (iV (k : Int))] [] M) (n := n) (I := fun k M' => (∀ a, a ≠ 40 → a ≠ 42 → M' a = (am_up M1 40 3 0) a) ∧ M' 40 3 = wsum s' k ∧ ∀ f, f < k → M' 42 f = wt s' f) (by
    intro k hk d M' hI
    obtain ⟨j1, j2, j3⟩ := hI
    have hh := e_Canal_letIn_34 (k : Int) d.1 d.2.1 d.2.2 M'
    have hkf := hv.2.2.2.2.2.2.2.1 k (by omega)
    have hcf := hc.2.2.2.2.2.2.2.2.1 k (by omega)
    have q0 : M' 0 4 = (n : Int) := by rw [j1 0 (by decide) (by decide), hM1 0 (by decide) (by decide)]; exact c04
    have q5 : M' 5 k = s (42 + 4 * k) := by rw [j1 5 (by decide) (by decide), hM1 5 (by decide) (by decide)]; exact hcf.1
    have q6 : M' 6 k = s (43 + 4 * k) := by rw [j1 6 (by decide) (by decide), hM1 6 (by decide) (by decide)]; exact hcf.2.1
    have q10 : M' 10 6 = s' 11 := by rw [j1 10 (by decide) (by decide), hM1 10 (by decide) (by decide), he 11 (by omega) (by omega)]; exact hc.2.2.2.2.2.1 6 (by omega)
    obtain ⟨r, hr⟩ : ∃ r : Nat, s (42 + 4 * k) = (r : Int) := ⟨(s (42 + 4 * k)).toNat, by omega⟩
    have hfb := fwl_bd hv' (r + 1) (by omega)
    have q41 : M' 41 r = fwl s' (r + 1) := by rw [j1 41 (by decide) (by decide), am_up_ne _ _ _ _ (by decide)]; exact i2 r (by omega)
    have ew : wt s' k = if s' 11 = 0 then s (43 + 4 * k) else Int.tdiv (s (43 + 4 * k) * 1000000) (fwl s' (r + 1)) := by
      unfold wt
      rw [he (43 + 4 * k) (by omega) (by omega), he (42 + 4 * k) (by omega) (by omega), hr, Int.toNat_natCast]
    have hwb := wt_bd hv' (f := k) (by omega)
    have hsb := wsum_bd hv' k (by omega)
    have hflow : cY 175 [rV 40, iV (r : Int)] M' = some (fwl s' (r + 1), M') := by
      rw [e_Canal_flowAt, if_neg (by omega), if_pos (by omega), r_bd_ok (by omega) (by omega), Int.toNat_natCast, q41]
    have hwt : cY 174 [rV 40, iV (s (43 + 4 * k)), iV (fwl s' (r + 1))] M' = some (wt s' k, M') := by
      rw [e_Canal_weightBy, q10, ew]
      by_cases q : s' 11 = 0
      · rw [if_pos q, if_pos q]
      · have hd := dv_bd (a := s (43 + 4 * k) * 1000000) (by omega) hfb
        rw [if_neg q, if_neg q, if_pos (by omega), r_ck_ok (by omega) (by omega), if_neg (by omega), r_ck_ok (by omega) (by omega)]
    rw [q0, if_pos (by omega), r_bd_ok (by omega) (by omega), r_bd_ok (by omega) (by omega), Int.toNat_natCast, q5, q6, hr, hflow, am_cb_s, hwt, am_cb_s, r_bd_ok (by omega) (by omega), r_bd_ok (by omega) (by omega), am_up_at, j2, r_cl_ok (by omega) (by omega), r_ck_ok (by omega) (by omega)] at hh
    refine ⟨(none, none, none), _, hh, fun a h40 h42 => by rw [am_up_ne _ _ _ _ h40, am_up_ne _ _ _ _ h42, j1 a h40 h42], am_up_at _ _ _ _, fun f hf => ?_⟩
    rw [am_up_ne _ _ _ _ (by decide)]
    by_cases e : f = k
    · subst e; rw [am_up_at]
    · rw [am_up_nj _ _ _ _ e]; exact j3 f (by omega)) n 0 (by omega) (none, some (iV lined), some (iV (fwl s' m))) (am_up M1 40 3 0) ⟨fun _ _ _ => rfl, am_up_at _ _ _ _, fun f hf => by omega⟩
  refine ⟨M2, ?_, fun a h40 h41 h42 => by rw [j1 a h40 h42, hM1 a h40 h41], ⟨fun r hr => ?_, fun f hf => j3 f (by omega), by rw [j2, e1, hn, Int.toNat_natCast]⟩⟩
  · rw [e_Canal_letIn]
    have hx : fwl s' 0 = flow := h5
    have h1 : cX 173 4 [some (rV 40), some (iV flow), some (iV lined), some (iV (fwl s' 0)), some (iV 0)] [] M = _ := h1
    rw [hx] at h1
    refine h1.trans ?_
    rw [e_Canal_letIn_4, i1 0 (by decide), c00, if_neg (by omega)]
    refine h2.trans ?_
    rw [e_Canal_letIn_34, j1 0 (by decide) (by decide), hM1 0 (by decide) (by decide), c04, if_neg (by omega)]
  · rw [j1 41 (by decide) (by decide), am_up_ne _ _ _ _ (by decide)]; exact i2 r (by omega)
theorem p_letIn0 (M : am_M) (s : Nat → Int) (hv : vT s) (hc : cT s M 0) : ∃ M', cY 173 [rV 40, iV (M 10 0), iV (-1)] M = some (0, M') ∧ (∀ a, a ≠ 40 → a ≠ 41 → a ≠ 42 → M' a = M a) ∧ CN s M' := by
  have e : M 10 0 = s 5 := hc.2.2.2.2.2.1 0 (by omega)
  rw [e]
  exact p_letIn M s s (s 5) (-1) hv hv hc rfl (fun r hr => by rw [if_neg (by omega)]) (fun _ _ _ => rfl)
theorem p_flowAt (M : am_M) (s : Nat → Int) (h : CN s M) (hv : vT s) (r : Nat) (hr : (r : Int) < s 0) : cY 175 [rV 40, iV (r : Int)] M = some (fwl s (r + 1), M) := by
  have hb := hv.1
  rw [e_Canal_flowAt, if_neg (by omega), if_pos (by omega), r_bd_ok (by omega) (by omega), Int.toNat_natCast, h.1 r hr]
theorem o15 : lw_O15 RI := by
  intro a b ha hb M hR hM
  have hR2 : RI (am_up M 72 6 0) := RI_mf (mf_up (mf.rf M) (by omega)) hR
  obtain ⟨r1, r2, -⟩ := id hR
  have hb0 := r1.1
  have e0 : M 0 0 = M 73 0 := r2.1
  have e73 : (am_up M 72 6 0) 73 = M 73 := am_up_ne M 72 6 0 (by decide)
  by_cases h : 0 ≤ a ∧ a < M 73 0
  · obtain ⟨r, rfl⟩ : ∃ r : Nat, a = (r : Int) := ⟨a.toNat, by omega⟩
    obtain ⟨c1, c2, c3⟩ := r2.2.2.2.2.2.2.2.1 r h.2
    obtain ⟨v1, v2, v3⟩ := r1.2.2.2.2.2.2.1 r h.2
    have c1 : M 1 (r + 1) - M 1 r = M 73 (12 + 3 * r) := by have : M 1 (r + 1) = M 1 r + M 73 (12 + 3 * r) := c1; omega
    have c2 : M 2 (r + 1) - M 2 r = M 73 (13 + 3 * r) := by have : M 2 (r + 1) = M 2 r + M 73 (13 + 3 * r) := c2; omega
    have et : ((r : Int) + 1).toNat = r + 1 := by omega
    by_cases hb4 : 0 ≤ b ∧ b ≤ 3
    · by_cases b3 : b = 3
      · subst b3
        obtain ⟨M1, g1, g2, g3⟩ := p_letIn0 M (M 73) r1 r2
        have hR3 : RI M1 := RI_cf (fun x hx => g2 x (by omega) (by omega) (by omega)) hR
        have f73 : (am_up M1 72 6 0) 73 = M 73 := by rw [am_up_ne M1 72 6 0 (by decide), g2 73 (by decide) (by decide) (by decide)]
        refine ⟨fwl (M 73) (r + 1), M1, am_up M1 72 6 0, ?_, ?_, RI_mf (mf_up (mf.rf M1) (by omega)) hR3⟩
        · rw [e_Desk_reach, p_lacksReach, am_cb_s, e0, if_pos h, if_pos rfl, if_neg (by decide), if_neg (by decide), if_neg (by decide), if_pos rfl, g1, am_cb_s, p_flowAt M1 _ g3 r1 r h.2, am_cb_s]
        · have hv' : vT (am_up M1 72 6 0 73) := by rw [f73]; exact r1
          rw [e_Model_reach, p_isReach _ _ (by rw [f73]; omega), am_cb_s, f73, if_pos h, if_neg (by decide), p_isIn, am_cb_s, if_pos hb4, if_neg (by decide), if_neg (by decide), p_flowOf _ hv' r (by rw [f73]; exact h.2), am_cb_s, f73]
      · obtain ⟨w, rfl⟩ : ∃ w : Nat, b = (w : Int) := ⟨b.toNat, by omega⟩
        refine ⟨M 73 (12 + 3 * r + w), M, am_up M 72 6 0, ?_, ?_, hR2⟩
        · rw [e_Desk_reach, p_lacksReach, am_cb_s, e0, if_pos h, if_pos rfl]
          rcases (by omega : w = 0 ∨ w = 1 ∨ w = 2) with rfl | rfl | rfl
          · rw [if_pos (by decide), r_ck_ok (by omega) (by omega), r_bd_ok (by omega) (by omega), r_bd_ok (by omega) (by omega), et, Int.toNat_natCast, c1, r_ck_ok (by omega) (by omega)]; rfl
          · rw [if_neg (by decide), if_pos (by decide), r_ck_ok (by omega) (by omega), r_bd_ok (by omega) (by omega), r_bd_ok (by omega) (by omega), et, Int.toNat_natCast, c2, r_ck_ok (by omega) (by omega), show 12 + 3 * r + 1 = 13 + 3 * r by omega]
          · have c3 : M 3 r = M 73 (14 + 3 * r) := c3
            rw [if_neg (by decide), if_neg (by decide), if_pos (by decide), r_bd_ok (by omega) (by omega), Int.toNat_natCast, c3, show 12 + 3 * r + 2 = 14 + 3 * r by omega]
        · rw [e_Model_reach, p_isReach _ _ (by rw [e73]; omega), am_cb_s, e73, if_pos h, if_neg (by decide), p_isIn, am_cb_s, if_pos hb4, if_neg (by decide), if_pos (by omega), r_ck_ok (by omega) (by omega), r_ck_ok (by omega) (by omega), r_ck_ok (by omega) (by omega), r_bd_ok (by omega) (by omega), e73, show (12 + 3 * (r : Int) + (w : Int)).toNat = 12 + 3 * r + w by omega]
    · refine ⟨-2, M, am_up M 72 6 0, ?_, ?_, hR2⟩
      · rw [e_Desk_reach, p_lacksReach, am_cb_s, e0, if_pos h, if_pos rfl, if_neg (by omega), if_neg (by omega), if_neg (by omega), if_neg (by omega)]
      · rw [e_Model_reach, p_isReach _ _ (by rw [e73]; omega), am_cb_s, e73, if_pos h, if_neg (by decide), p_isIn, am_cb_s, if_neg hb4, if_pos rfl]
  · refine ⟨-2, M, am_up M 72 6 0, ?_, ?_, hR2⟩
    · rw [e_Desk_reach, p_lacksReach, am_cb_s, e0, if_neg h, if_neg (by decide)]
    · rw [e_Model_reach, p_isReach _ _ (by rw [e73]; omega), am_cb_s, e73, if_neg h, if_pos rfl]
theorem o20 : lw_O20 RI := by
  intro a ha M hR hM
  have hR2 : RI (am_up M 72 6 0) := RI_mf (mf_up (mf.rf M) (by omega)) hR
  obtain ⟨r1, r2, -⟩ := id hR
  have hb1 := r1.2.1
  have e0 : M 0 4 = M 73 1 := r2.2.1
  have e73 : (am_up M 72 6 0) 73 = M 73 := am_up_ne M 72 6 0 (by decide)
  by_cases h : 0 ≤ a ∧ a < M 73 1
  · obtain ⟨f, rfl⟩ : ∃ f : Nat, a = (f : Int) := ⟨a.toNat, by omega⟩
    obtain ⟨M1, g1, g2, g3⟩ := p_letIn0 M (M 73) r1 r2
    have hR3 : RI M1 := RI_cf (fun x hx => g2 x (by omega) (by omega) (by omega)) hR
    have f73 : (am_up M1 72 6 0) 73 = M 73 := by rw [am_up_ne M1 72 6 0 (by decide), g2 73 (by decide) (by decide) (by decide)]
    have hw := wt_bd r1 h.2
    refine ⟨wt (M 73) f, M1, am_up M1 72 6 0, ?_, ?_, RI_mf (mf_up (mf.rf M1) (by omega)) hR3⟩
    · rw [e_Desk_weight, p_lacksField, am_cb_s, e0, if_pos h, if_pos rfl, g1, am_cb_s, r_bd_ok (by omega) (by omega), Int.toNat_natCast, g3.2.1 f h.2]
    · have hv' : vT (am_up M1 72 6 0 73) := by rw [f73]; exact r1
      rw [e_Model_weight, p_isField _ _ (by rw [f73]; omega), am_cb_s, f73, if_pos h, if_neg (by decide), p_weightOf _ hv' f (by rw [f73]; exact h.2), am_cb_s, f73, b_l2i ⟨by omega, by omega⟩]
  · refine ⟨-2, M, am_up M 72 6 0, ?_, ?_, hR2⟩
    · rw [e_Desk_weight, p_lacksField, am_cb_s, e0, if_neg h, if_neg (by decide)]
    · rw [e_Model_weight, p_isField _ _ (by rw [e73]; omega), am_cb_s, e73, if_neg h, if_pos rfl]
