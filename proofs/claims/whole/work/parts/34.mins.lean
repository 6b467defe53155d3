-- night
def nB (s : Nat → Int) (m : Int) : Bool := if s 7 ≤ s 8 then decide (s 7 ≤ m / 60 % 24) && decide (m / 60 % 24 < s 8) else decide (s 7 ≤ m / 60 % 24) || decide (m / 60 % 24 < s 8)
theorem nB_1 {s : Nat → Int} {m : Int} (h : s 7 ≤ s 8) : nB s m = true ↔ s 7 ≤ m / 60 % 24 ∧ m / 60 % 24 < s 8 := by
  unfold nB
  rw [if_pos h, Bool.and_eq_true, decide_eq_true_iff, decide_eq_true_iff]
theorem nB_2 {s : Nat → Int} {m : Int} (h : s 8 < s 7) : nB s m = true ↔ s 7 ≤ m / 60 % 24 ∨ m / 60 % 24 < s 8 := by
  unfold nB
  rw [if_neg (by omega), Bool.or_eq_true, decide_eq_true_iff, decide_eq_true_iff]
theorem nB_per (s : Nat → Int) (m : Int) (w : Nat) : nB s (m + 10080 * (w : Int)) = nB s m := by
  unfold nB
  rw [show (m + 10080 * (w : Int)) / 60 % 24 = m / 60 % 24 by omega]
def nbf (s : Nat → Int) (x : Int) : Int := if s 8 < s 7 then x / 1440 * (1440 - s 7 * 60 + s 8 * 60) + (min (x % 1440) (s 8 * 60) + max (x % 1440 - s 7 * 60) 0) else x / 1440 * (s 8 * 60 - s 7 * 60) + max (min (x % 1440) (s 8 * 60) - s 7 * 60) 0
theorem nbf_s {s : Nat → Int} (hv : vT s) (x : Nat) : nbf s ((x : Int) + 1) = nbf s (x : Int) + if nB s (x : Int) = true then 1 else 0 := by
  have h7 := hv.2.2.2.2.2.1.2.2.1
  have h8 := hv.2.2.2.2.2.1.2.2.2.1
  unfold nbf
  by_cases c : s 8 < s 7
  · rw [if_pos c, if_pos c]
    have hb := nB_2 (m := (x : Int)) c
    by_cases e : (x : Int) % 1440 = 1439
    · rw [show ((x : Int) + 1) / 1440 = (x : Int) / 1440 + 1 by omega, show ((x : Int) + 1) % 1440 = 0 by omega, Int.add_mul, Int.one_mul, e]
      generalize (x : Int) / 1440 * (1440 - s 7 * 60 + s 8 * 60) = P
      by_cases q : nB s (x : Int) = true
      · have := hb.mp q
        rw [if_pos q]
        omega
      · have h1 : ¬ (s 7 ≤ (x : Int) / 60 % 24 ∨ (x : Int) / 60 % 24 < s 8) := fun h => q (hb.mpr h)
        omega
    · rw [show ((x : Int) + 1) / 1440 = (x : Int) / 1440 by omega, show ((x : Int) + 1) % 1440 = (x : Int) % 1440 + 1 by omega]
      generalize (x : Int) / 1440 * (1440 - s 7 * 60 + s 8 * 60) = P
      by_cases q : nB s (x : Int) = true
      · have := hb.mp q
        rw [if_pos q]
        omega
      · have h1 : ¬ (s 7 ≤ (x : Int) / 60 % 24 ∨ (x : Int) / 60 % 24 < s 8) := fun h => q (hb.mpr h)
        rw [if_neg q]
        omega
  · rw [if_neg c, if_neg c]
    have hb := nB_1 (m := (x : Int)) (show s 7 ≤ s 8 by omega)
    by_cases e : (x : Int) % 1440 = 1439
    · rw [show ((x : Int) + 1) / 1440 = (x : Int) / 1440 + 1 by omega, show ((x : Int) + 1) % 1440 = 0 by omega, Int.add_mul, Int.one_mul, e]
      generalize (x : Int) / 1440 * (s 8 * 60 - s 7 * 60) = P
      by_cases q : nB s (x : Int) = true
      · have := hb.mp q
        omega
      · have h1 : ¬ (s 7 ≤ (x : Int) / 60 % 24 ∧ (x : Int) / 60 % 24 < s 8) := fun h => q (hb.mpr h)
        rw [if_neg q]
        omega
    · rw [show ((x : Int) + 1) / 1440 = (x : Int) / 1440 by omega, show ((x : Int) + 1) % 1440 = (x : Int) % 1440 + 1 by omega]
      generalize (x : Int) / 1440 * (s 8 * 60 - s 7 * 60) = P
      by_cases q : nB s (x : Int) = true
      · have := hb.mp q
        rw [if_pos q]
        omega
      · have h1 : ¬ (s 7 ≤ (x : Int) / 60 % 24 ∧ (x : Int) / 60 % 24 < s 8) := fun h => q (hb.mpr h)
        rw [if_neg q]
        omega
theorem nbf_cnt {s : Nat → Int} (hv : vT s) : ∀ x : Nat, cnt (nB s) 0 x = nbf s (x : Int) := by
  have h7 := hv.2.2.2.2.2.1.2.2.1
  have h8 := hv.2.2.2.2.2.1.2.2.2.1
  intro x
  induction x with
  | zero =>
    show (0 : Int) = nbf s 0
    unfold nbf
    rw [show (0 : Int) / 1440 = 0 from rfl, show (0 : Int) % 1440 = 0 from rfl, Int.zero_mul, Int.zero_mul]
    split <;> omega
  | succ x ih =>
    show cnt (nB s) 0 x + (if nB s (0 + (x : Int)) = true then 1 else 0) = nbf s ((x : Int) + 1)
    rw [ih, nbf_s hv, Int.zero_add]
theorem p_nightBefore (M : am_M) (s : Nat → Int) (hv : vT s) (h2 : M 10 2 = s 7) (h3 : M 10 3 = s 8) (x : Nat) (hx : x ≤ 1000000) : cY 254 [rV 0, iV (x : Int)] M = some (cnt (nB s) 0 x, M) := by
  have h7 := hv.2.2.2.2.2.1.2.2.1
  have h8 := hv.2.2.2.2.2.1.2.2.2.1
  rw [nbf_cnt hv, e_Told_nightBefore, h2, h3, Int.tdiv_eq_ediv_of_nonneg (by omega), Int.tmod_eq_emod_of_nonneg (by omega)]
  unfold nbf
  by_cases c : s 8 < s 7
  · have p1 : 0 ≤ (x : Int) / 1440 * (1440 - s 7 * 60 + s 8 * 60) := Int.mul_nonneg (by omega) (by omega)
    have p2 : (x : Int) / 1440 * (1440 - s 7 * 60 + s 8 * 60) ≤ 1000 * 1440 := Int.mul_le_mul (by omega) (by omega) (by omega) (by omega)
    rw [if_pos c]
    repeat (first | rw [am_cb_s] | rw [if_pos (by omega)] | rw [if_neg (by omega)] | rw [r_ck_ok (by omega) (by omega)] | rw [r_bd_ok (by omega) (by omega)] | rw [r_cl_ok (by omega) (by omega)])
  · have p1 : 0 ≤ (x : Int) / 1440 * (s 8 * 60 - s 7 * 60) := Int.mul_nonneg (by omega) (by omega)
    have p2 : (x : Int) / 1440 * (s 8 * 60 - s 7 * 60) ≤ 1000 * 1440 := Int.mul_le_mul (by omega) (by omega) (by omega) (by omega)
    rw [if_neg c]
    repeat (first | rw [am_cb_s] | rw [if_pos (by omega)] | rw [if_neg (by omega)] | rw [r_ck_ok (by omega) (by omega)] | rw [r_bd_ok (by omega) (by omega)] | rw [r_cl_ok (by omega) (by omega)])
theorem p_isNight (M : am_M) (s : Nat → Int) (h2 : M 10 2 = s 7) (h3 : M 10 3 = s 8) (m : Int) (hm : 0 ≤ m) : cY 253 [rV 0, iV (Int.tmod (Int.tdiv m 60) 24)] M = some (if nB s m = true then 1 else 0, M) := by
  rw [e_Told_isNight, h2, h3, Int.tdiv_eq_ediv_of_nonneg hm, Int.tmod_eq_emod_of_nonneg (by omega)]
  by_cases c : s 8 < s 7
  · have hb := nB_2 (m := m) c
    rw [if_pos c]
    by_cases q : nB s m = true
    · rw [if_pos q]
      have := hb.mp q
      by_cases q1 : m / 60 % 24 < s 7
      · rw [if_pos q1, if_pos (by omega)]
      · rw [if_neg q1]
    · have h1 : ¬ (s 7 ≤ m / 60 % 24 ∨ m / 60 % 24 < s 8) := fun h => q (hb.mpr h)
      rw [if_neg q, if_pos (by omega), if_neg (by omega)]
  · have hb := nB_1 (m := m) (show s 7 ≤ s 8 by omega)
    rw [if_neg c]
    by_cases q : nB s m = true
    · rw [if_pos q]
      have := hb.mp q
      rw [if_neg (by omega), if_pos (by omega)]
    · have h1 : ¬ (s 7 ≤ m / 60 % 24 ∧ m / 60 % 24 < s 8) := fun h => q (hb.mpr h)
      rw [if_neg q]
      by_cases q1 : m / 60 % 24 < s 7
      · rw [if_pos q1]
      · rw [if_neg q1, if_neg (by omega)]
theorem p_misNight (M : am_M) (m : Int) (hm : 0 ≤ m ∧ m ≤ 2147483647) : cY 115 [rV 72, iV m] M = some (if nB (M 73) m = true then 1 else 0, M) := by
  rw [e_Model_isNight, Int.tdiv_eq_ediv_of_nonneg hm.1, Int.tdiv_eq_ediv_of_nonneg (by omega), Int.tmod_eq_emod_of_nonneg (by omega), r_ck_ok (by omega) (by omega), r_ck_ok (by omega) (by omega)]
  by_cases c : M 73 8 < M 73 7
  · have hb := nB_2 (m := m) c
    rw [if_neg (by omega), if_pos c]
    by_cases q : nB (M 73) m = true
    · rw [if_pos q]
      have := hb.mp q
      by_cases q1 : m / 60 % 24 < M 73 7
      · rw [if_pos q1, if_pos (by omega)]
      · rw [if_neg q1]
    · have h1 : ¬ (M 73 7 ≤ m / 60 % 24 ∨ m / 60 % 24 < M 73 8) := fun h => q (hb.mpr h)
      rw [if_neg q, if_pos (by omega), if_neg (by omega)]
  · have hb := nB_1 (m := m) (show M 73 7 ≤ M 73 8 by omega)
    by_cases q : nB (M 73) m = true
    · have := hb.mp q
      rw [if_pos q, if_pos (by omega), if_neg (by omega), if_pos (by omega)]
    · have h1 : ¬ (M 73 7 ≤ m / 60 % 24 ∧ m / 60 % 24 < M 73 8) := fun h => q (hb.mpr h)
      rw [if_neg q]
      by_cases q0 : M 73 7 < M 73 8
      · rw [if_pos q0]
        by_cases q1 : m / 60 % 24 < M 73 7
        · rw [if_pos q1]
        · rw [if_neg q1, if_neg (by omega)]
      · rw [if_neg q0, if_neg c]
-- what is shut, as the reference counts it
def nxo (m f t on : Int) : Int := if m < f ∧ f < on then f else if m < t ∧ t < on then t else on
theorem si_81 (M : am_M) (w to c m on is : Int) (k : Nat) (hk : k < 6) (d2 : Option am_V) : cX 111 81 [some (rV 72), some (iV w), d2, some (iV to), some (iV c), some (iV m), some (iV on), some (iV is), some (iV (k : Int)), some (iV (166 + 3 * (k : Int)))] [] M = cX 111 13 [some (rV 72), some (iV w), none, some (iV to), some (iV c), some (iV m), some (iV (if m < M 73 (168 + 3 * k) ∧ M 73 (168 + 3 * k) < on then M 73 (168 + 3 * k) else on)), some (iV is), some (iV ((k : Int) + 1)), some (iV (166 + 3 * (k : Int)))] [] M := by
  rw [e_Model_shutIn_81, r_ck_ok (by omega) (by omega), r_bd_ok (by omega) (by omega), show (166 + 3 * (k : Int) + 2).toNat = 168 + 3 * k by omega]
  by_cases q1 : m < M 73 (168 + 3 * k)
  · rw [if_pos q1, r_ck_ok (by omega) (by omega), r_bd_ok (by omega) (by omega)]
    by_cases q2 : M 73 (168 + 3 * k) < on
    · rw [if_pos q2, r_ck_ok (by omega) (by omega), r_bd_ok (by omega) (by omega), r_ck_ok (by omega) (by omega), if_pos ⟨q1, q2⟩]
    · rw [if_neg q2, r_ck_ok (by omega) (by omega), if_neg (fun h => q2 h.2)]
  · rw [if_neg q1, r_ck_ok (by omega) (by omega), if_neg (fun h => q1 h.1)]
theorem si_54 (M : am_M) (w to c m on : Int) (k : Nat) (hk : k < 6) (d2 d7 : Option am_V) (hft : M 73 (167 + 3 * k) < M 73 (168 + 3 * k)) : cX 111 54 [some (rV 72), some (iV w), d2, some (iV to), some (iV c), some (iV m), some (iV on), d7, some (iV (k : Int)), some (iV (166 + 3 * (k : Int)))] [] M = cX 111 13 [some (rV 72), some (iV w), none, some (iV to), some (iV c), some (iV m), some (iV (nxo m (M 73 (167 + 3 * k)) (M 73 (168 + 3 * k)) on)), some (iV 1), some (iV ((k : Int) + 1)), some (iV (166 + 3 * (k : Int)))] [] M := by
  unfold nxo
  rw [e_Model_shutIn_54, r_ck_ok (by omega) (by omega), r_bd_ok (by omega) (by omega), show (166 + 3 * (k : Int) + 1).toNat = 167 + 3 * k by omega, show (166 + 3 * (k : Int) + 2).toNat = 168 + 3 * k by omega]
  by_cases q1 : m < M 73 (167 + 3 * k)
  · rw [if_pos q1, r_ck_ok (by omega) (by omega), r_bd_ok (by omega) (by omega)]
    by_cases q2 : M 73 (167 + 3 * k) < on
    · rw [if_pos q2, r_ck_ok (by omega) (by omega), r_bd_ok (by omega) (by omega), r_ck_ok (by omega) (by omega), r_bd_ok (by omega) (by omega), if_pos (by omega), r_ck_ok (by omega) (by omega), r_bd_ok (by omega) (by omega), if_neg (by omega), r_ck_ok (by omega) (by omega), if_pos ⟨q1, q2⟩]
    · rw [if_neg q2, si_81 M w to c m on 1 k hk, if_neg (fun h : m < M 73 (167 + 3 * k) ∧ M 73 (167 + 3 * k) < on => q2 h.2)]
  · rw [if_neg q1, si_81 M w to c m on 1 k hk, if_neg (fun h : m < M 73 (167 + 3 * k) ∧ M 73 (167 + 3 * k) < on => q1 h.1)]
theorem si_13 (M : am_M) (w to c m on is : Int) (k : Nat) (hk : k < 6) (hH : (k : Int) < M 73 4) (d2 d9 : Option am_V) (hft : 0 ≤ M 73 (167 + 3 * k) ∧ M 73 (167 + 3 * k) < M 73 (168 + 3 * k) ∧ M 73 (168 + 3 * k) ≤ 10080) (hw : M 73 (166 + 3 * k) = w) (his : is = 0 ∨ is = 1) : cX 111 13 [some (rV 72), some (iV w), d2, some (iV to), some (iV c), some (iV m), some (iV on), some (iV is), some (iV (k : Int)), d9] [] M = cX 111 13 [some (rV 72), some (iV w), none, some (iV to), some (iV c), some (iV m), some (iV (nxo m (M 73 (167 + 3 * k)) (M 73 (168 + 3 * k)) on)), some (iV (if is = 0 ∧ ¬ (M 73 (167 + 3 * k) ≤ m ∧ m ≤ M 73 (168 + 3 * k) - 1) then 0 else 1)), some (iV ((k : Int) + 1)), some (iV (166 + 3 * (k : Int)))] [] M := by
  rw [e_Model_shutIn_13, if_pos hH, r_ck_ok (by omega) (by omega), r_ck_ok (by omega) (by omega), r_bd_ok (by omega) (by omega), show (166 + 3 * (k : Int)).toNat = 166 + 3 * k by omega, if_pos hw]
  by_cases q0 : is = 0
  · rw [if_pos q0, r_ck_ok (by omega) (by omega), r_bd_ok (by omega) (by omega), show (166 + 3 * (k : Int) + 1).toNat = 167 + 3 * k by omega, show (166 + 3 * (k : Int) + 2).toNat = 168 + 3 * k by omega, r_ck_ok (by omega) (by omega), r_bd_ok (by omega) (by omega), r_ck_ok (by omega) (by omega), p_isIn, am_cb_s]
    by_cases q1 : M 73 (167 + 3 * k) ≤ m ∧ m ≤ M 73 (168 + 3 * k) - 1
    · rw [if_pos q1, if_neg (by decide), si_54 M w to c m on k hk _ _ hft.2.1, if_neg (fun h => h.2 q1)]
    · rw [if_neg q1, if_pos rfl, if_pos (show is = 0 ∧ ¬ (M 73 (167 + 3 * k) ≤ m ∧ m ≤ M 73 (168 + 3 * k) - 1) from ⟨q0, q1⟩), r_ck_ok (by omega) (by omega), r_bd_ok (by omega) (by omega)]
      unfold nxo
      by_cases q3 : m < M 73 (167 + 3 * k)
      · rw [if_pos q3, r_ck_ok (by omega) (by omega), r_bd_ok (by omega) (by omega)]
        by_cases q2 : M 73 (167 + 3 * k) < on
        · rw [if_pos q2, r_ck_ok (by omega) (by omega), r_bd_ok (by omega) (by omega), r_ck_ok (by omega) (by omega), r_bd_ok (by omega) (by omega), if_pos (by omega), r_ck_ok (by omega) (by omega), r_bd_ok (by omega) (by omega), if_neg (by omega), r_ck_ok (by omega) (by omega), if_pos ⟨q3, q2⟩]
        · rw [if_neg q2, si_81 M w to c m on 0 k hk, if_neg (fun h : m < M 73 (167 + 3 * k) ∧ M 73 (167 + 3 * k) < on => q2 h.2)]
      · rw [if_neg q3, si_81 M w to c m on 0 k hk, if_neg (fun h : m < M 73 (167 + 3 * k) ∧ M 73 (167 + 3 * k) < on => q3 h.1)]
  · rw [if_neg q0, si_54 M w to c m on k hk _ _ hft.2.1, if_neg (fun h : is = 0 ∧ _ => q0 h.1)]
theorem si_in (M : am_M) (hv : vT (M 73)) (w : Nat) (to c m : Int) (h : Nat) (hh : M 73 4 = (h : Int)) (hm : 0 ≤ m) (hto : to ≤ 10080) (hc : 0 ≤ c ∧ c ≤ 10080) : ∀ (j k : Nat) (on is : Int) (d2 d9 : Option am_V), k + j = h → m < on → on ≤ to → (is = 0 ∨ is = 1) → (is = 1 ↔ shb (M 73) w m k = true) → (∀ x, m ≤ x → x < on → shb (M 73) w x k = shb (M 73) w m k) → ∃ (on' : Int) (d6 d7 d8 : Option am_V), m < on' ∧ on' ≤ to ∧ (∀ x, m ≤ x → x < on' → shB (M 73) w x = shB (M 73) w m) ∧ cX 111 13 [some (rV 72), some (iV (w : Int)), d2, some (iV to), some (iV c), some (iV m), some (iV on), some (iV is), some (iV (k : Int)), d9] [] M = cX 111 4 [some (rV 72), some (iV (w : Int)), none, some (iV to), some (iV (c + if shB (M 73) w m = true then on' - m else 0)), some (iV on'), d6, d7, d8, none] [] M := by
  have hb4 := hv.2.2.2.2.1
  intro j
  induction j with
  | zero =>
    intro k on is d2 d9 hk h1 h2 h3 h4 h5
    have e : k = h := by omega
    subst e
    have eB : ∀ x, shB (M 73) w x = shb (M 73) w x k := fun x => by unfold shB; rw [hh, Int.toNat_natCast]
    refine ⟨on, some (iV on), some (iV is), some (iV (k : Int)), h1, h2, fun x a b => by rw [eB, eB]; exact h5 x a b, ?_⟩
    rw [e_Model_shutIn_13, if_neg (by omega), eB]
    by_cases q : is = 0
    · rw [if_pos q, if_neg (fun h => by have := h4.mpr h; omega), r_ck_ok (by omega) (by omega)]
    · rw [if_neg q, if_pos (h4.mp (by omega)), r_ck_ok (by omega) (by omega), r_ck_ok (by omega) (by omega)]
  | succ j ih =>
    intro k on is d2 d9 hk h1 h2 h3 h4 h5
    obtain ⟨v1, v2, v3⟩ := hv.2.2.2.2.2.2.2.2.2.2.2 k (by omega)
    by_cases q : M 73 (166 + 3 * k) = (w : Int)
    · rw [si_13 M (w : Int) to c m on is k (by omega) (by omega) d2 d9 ⟨v2.1, v2.2, v3⟩ q h3]
      refine ih (k + 1) _ _ none _ (by omega) ?_ ?_ ?_ ?_ ?_
      · unfold nxo; split
        · omega
        · split <;> omega
      · unfold nxo; split
        · omega
        · split <;> omega
      · split
        · exact Or.inl rfl
        · exact Or.inr rfl
      · rw [shb_succ]
        by_cases c1 : is = 0 ∧ ¬ (M 73 (167 + 3 * k) ≤ m ∧ m ≤ M 73 (168 + 3 * k) - 1)
        · rw [if_pos c1]
          constructor
          · intro h; omega
          · rintro (h | h)
            · have := h4.mpr h; omega
            · exact absurd ⟨h.2.1, by omega⟩ c1.2
        · rw [if_neg c1]
          refine ⟨fun _ => ?_, fun _ => rfl⟩
          by_cases c2 : is = 1
          · exact Or.inl (h4.mp c2)
          · right
            refine ⟨q, ?_⟩
            have : M 73 (167 + 3 * k) ≤ m ∧ m ≤ M 73 (168 + 3 * k) - 1 := Classical.byContradiction (fun h => c1 ⟨by omega, h⟩)
            omega
      · intro x x1 x2
        have hx : x < on := by
          unfold nxo at x2
          split at x2
          · omega
          · split at x2 <;> omega
        have h6 := h5 x x1 hx
        apply b_ext
        rw [shb_succ, shb_succ, h6]
        have : (M 73 (167 + 3 * k) ≤ x ∧ x < M 73 (168 + 3 * k)) ↔ (M 73 (167 + 3 * k) ≤ m ∧ m < M 73 (168 + 3 * k)) := by
          unfold nxo at x2
          split at x2
          · omega
          · split at x2 <;> omega
        rw [this]
    · have hn := ih (k + 1) on is none (some (iV (166 + 3 * (k : Int)))) (by omega) h1 h2 h3 (by
        rw [shb_succ, h4]
        exact ⟨Or.inl, fun h => h.elim id (fun h => absurd h.1 q)⟩) (fun x x1 x2 => by
        apply b_ext
        rw [shb_succ, shb_succ, h5 x x1 x2]
        constructor
        · exact fun h => h.elim Or.inl (fun h => absurd h.1 q)
        · exact fun h => h.elim Or.inl (fun h => absurd h.1 q))
      rw [e_Model_shutIn_13, if_pos (by omega), r_ck_ok (by omega) (by omega), r_ck_ok (by omega) (by omega), r_bd_ok (by omega) (by omega), show (166 + 3 * (k : Int)).toNat = 166 + 3 * k by omega, if_neg q, r_ck_ok (by omega) (by omega)]
      exact hn
theorem p_shutIn (M : am_M) (hv : vT (M 73)) (w : Nat) (a : Int) (n : Nat) (ha : 0 ≤ a) (hn : a + (n : Int) ≤ 10080) : cY 111 [rV 72, iV (w : Int), iV a, iV (a + (n : Int))] M = some (cnt (shB (M 73) w) a n, M) := by
  have hb4 := hv.2.2.2.2.1
  obtain ⟨h, hh⟩ : ∃ h : Nat, M 73 4 = (h : Int) := ⟨(M 73 4).toNat, by omega⟩
  have L : ∀ (j i : Nat) (d2 d6 d7 d8 d9 : Option am_V), i ≤ n → n - i ≤ j → cX 111 4 [some (rV 72), some (iV (w : Int)), d2, some (iV (a + (n : Int))), some (iV (cnt (shB (M 73) w) a i)), some (iV (a + (i : Int))), d6, d7, d8, d9] [] M = some (cnt (shB (M 73) w) a n, M) := by
    intro j
    induction j with
    | zero =>
      intro i d2 d6 d7 d8 d9 h1 h2
      have e : i = n := by omega
      subst e
      rw [e_Model_shutIn_4, if_neg (by omega)]
    | succ j ih =>
      intro i d2 d6 d7 d8 d9 h1 h2
      by_cases e : i = n
      · subst e
        rw [e_Model_shutIn_4, if_neg (by omega)]
      · have hc := cnt_bd (shB (M 73) w) a i
        obtain ⟨on', e6, e7, e8, g1, g2, g3, g4⟩ := si_in M hv w (a + (n : Int)) (cnt (shB (M 73) w) a i) (a + (i : Int)) h hh (by omega) (by omega) (by omega) h 0 (a + (n : Int)) 0 none none (by omega) (by omega) (by omega) (Or.inl rfl) ⟨fun h => by omega, fun h => by cases h⟩ (fun x _ _ => rfl)
        rw [e_Model_shutIn_4, if_pos (by omega)]
        refine g4.trans ?_
        obtain ⟨t, ht⟩ : ∃ t : Nat, on' = a + (i : Int) + (t : Int) := ⟨(on' - (a + (i : Int))).toNat, by omega⟩
        have e1 : cnt (shB (M 73) w) a (i + t) = cnt (shB (M 73) w) a i + if shB (M 73) w (a + (i : Int)) = true then on' - (a + (i : Int)) else 0 := by
          rw [cnt_add, cnt_all (shB (M 73) w) (a + (i : Int)) (shB (M 73) w (a + (i : Int))) t (fun x x1 x2 => g3 x x1 (by omega))]
          split
          · omega
          · rfl
        rw [← e1, show on' = a + ((i + t : Nat) : Int) by omega]
        exact ih (i + t) none e6 e7 e8 none (by omega) (by omega)
  rw [e_Model_shutIn]
  have h0 := L n 0 (some (iV a)) none none none none (by omega) (by omega)
  rw [show a + ((0 : Nat) : Int) = a by omega] at h0
  exact h0
theorem p_isShut (M : am_M) (hv : vT (M 73)) (w : Nat) (m : Int) : cY 110 [rV 72, iV (w : Int), iV m] M = some (if shB (M 73) w m = true then 1 else 0, M) := by
  have hb4 := hv.2.2.2.2.1
  obtain ⟨h, hh⟩ : ∃ h : Nat, M 73 4 = (h : Int) := ⟨(M 73 4).toNat, by omega⟩
  have eB : shB (M 73) w m = shb (M 73) w m h := by unfold shB; rw [hh, Int.toNat_natCast]
  rw [e_Model_isShut, eB]
  have L : ∀ j k : Nat, k + j = h → shb (M 73) w m k = false → cX 110 2 [some (rV 72), some (iV (w : Int)), some (iV m), some (iV (k : Int))] [] M = some (if shb (M 73) w m h = true then 1 else 0, M) := by
    intro j
    induction j with
    | zero =>
      intro k hk hf
      have e : k = h := by omega
      subst e
      rw [e_Model_isShut_2, if_neg (by omega), hf]
      rfl
    | succ j ih =>
      intro k hk hf
      obtain ⟨v1, v2, v3⟩ := hv.2.2.2.2.2.2.2.2.2.2.2 k (by omega)
      rw [e_Model_isShut_2, if_pos (by omega), r_ck_ok (by omega) (by omega), r_ck_ok (by omega) (by omega), r_bd_ok (by omega) (by omega), show (166 + 3 * (k : Int)).toNat = 166 + 3 * k by omega, show (166 + 3 * (k : Int) + 1).toNat = 167 + 3 * k by omega, show (166 + 3 * (k : Int) + 2).toNat = 168 + 3 * k by omega]
      by_cases q : M 73 (166 + 3 * k) = (w : Int)
      · rw [if_pos q, r_ck_ok (by omega) (by omega), r_ck_ok (by omega) (by omega), r_ck_ok (by omega) (by omega), r_bd_ok (by omega) (by omega), r_ck_ok (by omega) (by omega), r_ck_ok (by omega) (by omega), r_ck_ok (by omega) (by omega), r_bd_ok (by omega) (by omega), r_ck_ok (by omega) (by omega), p_isIn, am_cb_s]
        by_cases q1 : M 73 (167 + 3 * k) ≤ m ∧ m ≤ M 73 (168 + 3 * k) - 1
        · have ht : shb (M 73) w m h = true := (shb_iff (M 73) w m h).mpr ⟨k, by omega, q, q1.1, by omega⟩
          rw [if_pos q1, if_neg (by decide), if_pos ht]
        · rw [if_neg q1, if_pos rfl, r_ck_ok (by omega) (by omega)]
          refine ih (k + 1) (by omega) ?_
          rw [← Bool.not_eq_true, shb_succ, hf]
          rintro (h | h)
          · cases h
          · exact q1 ⟨h.2.1, by omega⟩
      · rw [if_neg q, r_ck_ok (by omega) (by omega)]
        refine ih (k + 1) (by omega) ?_
        rw [← Bool.not_eq_true, shb_succ, hf]
        rintro (h | h)
        · cases h
        · exact q h.1
  exact L h 0 (by omega) rfl
