-- words and names, in both readers
theorem kd_0 (t : Nat → Int) (q : Nat) : kd t q 0 = -1 := by simp [kd, fkd, wln]
def lts (t : Nat → Int) (q : Nat) : Nat → List Nat
  | 0 => []
  | k + 1 => lts t q k ++ [(t (q + k) - 96).toNat]
theorem lts_len (t : Nat → Int) (q : Nat) : ∀ k, (lts t q k).length = k := by
  intro k
  induction k with
  | zero => rfl
  | succ k ih => show (lts t q k ++ [(t (q + k) - 96).toNat]).length = k + 1; rw [List.length_append, ih]; rfl
theorem lB_d {c : Int} (h : lB c = true) : 97 ≤ c ∧ c ≤ 122 := by unfold lB at h; rwa [decide_eq_true_iff] at h
theorem lts_ok {t : Nat → Int} {q : Nat} : ∀ k, (∀ i, i < k → lB (t (q + i)) = true) → ∀ c ∈ lts t q k, 1 ≤ c ∧ c ≤ 26 := by
  intro k
  induction k with
  | zero => intro _ c hc; exact absurd hc (List.not_mem_nil)
  | succ k ih =>
    intro h c hc
    have hc : c ∈ lts t q k ++ [(t (q + k) - 96).toNat] := hc
    rw [List.mem_append, List.mem_singleton] at hc
    have := lB_d (h k (by omega))
    cases hc with
    | inl hc => exact ih (fun i hi => h i (by omega)) c hc
    | inr hc => omega
theorem nmN_snoc : ∀ (l : List Nat) (c : Nat), nmN (l ++ [c]) = nmN l + c * 32 ^ l.length := by
  intro l
  induction l with
  | nil => intro c; show c + 32 * 0 = 0 + c * 32 ^ 0; rw [Nat.pow_zero]; omega
  | cons x l ih =>
    intro c
    show x + 32 * nmN (l ++ [c]) = x + 32 * nmN l + c * 32 ^ (l.length + 1)
    rw [ih c, Nat.pow_succ, Nat.mul_add, Nat.mul_comm (32 ^ l.length) 32, Nat.mul_left_comm c 32]
    omega
theorem nmM_snoc (l : List Nat) (c : Nat) : nmM (l ++ [c]) = 32 * nmM l + (c : Int) := by
  unfold nmM
  rw [List.foldl_append]
  rfl
theorem nmN_inj : ∀ (l l' : List Nat), (∀ c ∈ l, 1 ≤ c ∧ c ≤ 26) → (∀ c ∈ l', 1 ≤ c ∧ c ≤ 26) → nmN l = nmN l' → l = l' := by
  intro l
  induction l with
  | nil =>
    intro l' _ h' e
    cases l' with
    | nil => rfl
    | cons c l' => have := h' c (List.mem_cons_self ..); have e : 0 = c + 32 * nmN l' := e; omega
  | cons x l ih =>
    intro l' h h' e
    have hx := h x (List.mem_cons_self ..)
    cases l' with
    | nil => have e : x + 32 * nmN l = 0 := e; omega
    | cons c l' =>
      have hc := h' c (List.mem_cons_self ..)
      have e : x + 32 * nmN l = c + 32 * nmN l' := e
      rw [show x = c by omega, ih l' (fun c hc => h c (List.mem_cons_of_mem _ hc)) (fun c hc => h' c (List.mem_cons_of_mem _ hc)) (by omega)]
theorem nmC_inj {l l' : List Nat} (h : nmOk l) (h' : nmOk l') (e : nmC l = nmC l') : l = l' := by
  rw [nmC_N, nmC_N] at e
  exact nmN_inj l l' h.2.2 h'.2.2 (by omega)
theorem nmM_inj {l l' : List Nat} (h : nmOk l) (h' : nmOk l') (e : nmM l = nmM l') : l = l' := by
  rw [nmM_N, nmM_N] at e
  have := nmN_inj l.reverse l'.reverse (nmOk_rev h).2.2 (nmOk_rev h').2.2 (by omega)
  have := congrArg List.reverse this
  rwa [List.reverse_reverse, List.reverse_reverse] at this
def fdx (A : Nat → Int) (x : Int) : Nat → Nat → Int
  | 0, _ => -1
  | j + 1, k => if A k = x then (k : Int) else fdx A x j (k + 1)
theorem fdx_bd (A : Nat → Int) (x : Int) : ∀ j k, -1 ≤ fdx A x j k ∧ fdx A x j k < ((k + j : Nat) : Int) := by
  intro j
  induction j with
  | zero => intro k; show (-1 : Int) ≤ -1 ∧ (-1 : Int) < _; omega
  | succ j ih =>
    intro k
    show -1 ≤ (if A k = x then (k : Int) else fdx A x j (k + 1)) ∧ (if A k = x then (k : Int) else fdx A x j (k + 1)) < ((k + (j + 1) : Nat) : Int)
    have := ih (k + 1)
    split <;> omega
theorem fdx_eq {C R : Nat → Int} {n : Int} (hT : nT n C R) {l : List Nat} (hl : nmOk l) : ∀ j k : Nat, ((k + j : Nat) : Int) ≤ n → fdx C (nmC l) j k = fdx R (nmM l) j k := by
  intro j
  induction j with
  | zero => intro k _; rfl
  | succ j ih =>
    intro k hk
    show (if C k = nmC l then (k : Int) else fdx C (nmC l) j (k + 1)) = if R k = nmM l then (k : Int) else fdx R (nmM l) j (k + 1)
    obtain ⟨l', h1, h2, h3⟩ := hT k (by omega)
    rw [h2, h3]
    by_cases c : l' = l
    · rw [c, if_pos rfl, if_pos rfl]
    · rw [if_neg (fun h => c (nmC_inj h1 hl h)), if_neg (fun h => c (nmM_inj h1 hl h))]
      exact ih (k + 1) (by omega)
theorem p_fN_c (M : am_M) (x : Int) {n : Nat} (hn : M 17 4 = (n : Int)) (h8 : n ≤ 8) : cY 245 [rV 17, lV x] M = some (fdx (M 21) x n 0, M) := by
  rw [e_Told_fieldNamed]
  have L : ∀ (j k : Nat) (d : Option am_V), k + j = n → cX 245 2 [some (rV 17), some (lV x), d, some (iV (k : Int))] [] M = some (fdx (M 21) x j k, M) := by
    intro j
    induction j with
    | zero => intro k d hk; rw [e_Told_fieldNamed_2, hn, if_neg (by omega)]; rfl
    | succ j ih =>
      intro k d hk
      have ef : fdx (M 21) x (j + 1) k = if M 21 k = x then (k : Int) else fdx (M 21) x j (k + 1) := rfl
      rw [e_Told_fieldNamed_2, hn, if_pos (by omega), r_bd_ok (by omega) (by omega), Int.toNat_natCast, ef]
      by_cases c : M 21 k = x
      · rw [if_neg (by omega), if_pos c, if_pos c]
      · by_cases c2 : M 21 k < x
        · rw [if_pos c2, if_neg c, r_ck_ok (by omega) (by omega)]
          exact ih (k + 1) none (by omega)
        · rw [if_neg c2, if_neg c, if_neg c, r_ck_ok (by omega) (by omega)]
          exact ih (k + 1) none (by omega)
  exact L n 0 none (by omega)
theorem p_fN_m (M : am_M) (x : Int) {n : Nat} (hn : M 73 1 = (n : Int)) (h8 : n ≤ 8) : cY 65 [rV 72, lV x] M = some (fdx (M 76) x n 0, M) := by
  rw [e_Model_fieldNamed]
  have L : ∀ (j k : Nat) (d : Option am_V), k + j = n → cX 65 2 [some (rV 72), some (lV x), d, some (iV (k : Int))] [] M = some (fdx (M 76) x j k, M) := by
    intro j
    induction j with
    | zero => intro k d hk; rw [e_Model_fieldNamed_2, hn, if_neg (by omega)]; rfl
    | succ j ih =>
      intro k d hk
      have ef : fdx (M 76) x (j + 1) k = if M 76 k = x then (k : Int) else fdx (M 76) x j (k + 1) := rfl
      rw [e_Model_fieldNamed_2, hn, if_pos (by omega), r_bd_ok (by omega) (by omega), Int.toNat_natCast, ef]
      by_cases c : M 76 k = x
      · rw [if_neg (by omega), if_pos c, if_pos c]
      · by_cases c2 : M 76 k < x
        · rw [if_pos c2, if_neg c, r_ck_ok (by omega) (by omega)]
          exact ih (k + 1) none (by omega)
        · rw [if_neg c2, if_neg c, if_neg c, r_ck_ok (by omega) (by omega)]
          exact ih (k + 1) none (by omega)
  exact L n 0 none (by omega)
section
variable {N0 : am_M} {e : Nat} {t : Nat → Int}
theorem p_wordHere (he : N0 72 9 = (e : Int)) (h8 : e ≤ 800) (ht : ∀ i, i < e → N0 78 i = t i ∧ -128 ≤ t i ∧ t i ≤ 127) {p : Nat} {wa : Int} {N : am_M} (hp : p ≤ e) (hC : MS N0 p 0 wa N) (q : Nat) (hq : run bB t e p = q) : ∃ N', cY 62 [rV 72] N = some (kd t q (run lB t e q - q), N') ∧ MS N0 q 0 wa N' ∧ N' 72 13 = N 72 13 := by
  obtain ⟨N1, a1, a2, a3⟩ := p_peek he h8 ht hp hC
  rw [hq] at a1 a2
  have hqe : q ≤ e := by rw [← hq]; exact (run_ok bB t e (e - p) p (by omega)).2.1
  obtain ⟨d1, d2, d3, d4⟩ := run_ok lB t e (e - q) q (by omega)
  have ht2 : ∀ i, i < e → -128 ≤ t i ∧ t i ≤ 127 := fun i hi => (ht i hi).2
  rw [e_Model_wordHere, hC.2.2.2.1, if_pos rfl, a1, am_cb_s, p_mL, am_cb_s]
  by_cases c : run lB t e q = q
  · have hn : ¬ lB (pkv t e q) = true := by rw [pkv_l ht2]; exact (run_gt hqe).mp c
    rw [if_neg hn, if_pos rfl, c, Nat.sub_self, kd_0]
    exact ⟨N1, rfl, a2, a3⟩
  · have hn : lB (pkv t e q) = true := by
      rw [pkv_l ht2]
      exact Classical.byContradiction (fun h => c ((run_gt hqe).mpr h))
    rw [if_pos hn, if_neg (by decide), p_lettersHere he h8 ht hqe a2, am_cb_s]
    refine ⟨N1, ?_, a2, a3⟩
    obtain ⟨m, hm⟩ : ∃ m, run lB t e q - q = m := ⟨_, rfl⟩
    rw [hm]
    have hqm : q + m ≤ e := by omega
    have hm1 : 1 ≤ m := by omega
    have tx1 : ∀ i, i < 61 → am_n1 0 (am_tx 1) (i + 1) = tx0 i := fun i hi => tx_1 ⟨i, hi⟩
    have go0 : ∀ (k x3 x4 x6 : Int), cX 62 40 [some (rV 72), some (iV (m : Int)), some (iV k), some (iV x3), some (iV x4), some (iV 0), some (iV x6)] [] N1 = cX 62 64 [some (rV 72), some (iV (m : Int)), some (iV k), some (iV x3), some (iV x4), some (iV 0), some (iV x6)] [] N1 := fun k x3 x4 x6 => by
      rw [e_Model_wordHere_40]
      by_cases c : x6 < (m : Int)
      · rw [if_pos c, if_pos rfl]
      · rw [if_neg c]
    have cmp : ∀ k, k < 11 → wln.getD k 0 = m → ∀ (x4 : Int) (j i : Nat), i + j = m → eqw t q (wst.getD k 0) i = true → ∃ x6 : Int, cX 62 40 [some (rV 72), some (iV (m : Int)), some (iV (k : Int)), some (iV ((wst.getD k 0 + 1 : Nat) : Int)), some (iV x4), some (iV 1), some (iV (i : Int))] [] N1 = cX 62 64 [some (rV 72), some (iV (m : Int)), some (iV (k : Int)), some (iV ((wst.getD k 0 + 1 : Nat) : Int)), some (iV x4), some (iV (if eqw t q (wst.getD k 0) m = true then 1 else 0)), some (iV x6)] [] N1 := fun k hk hkm x4 j => by
      obtain ⟨t1, t2, t3, t4, t5, t6⟩ := tx_end ⟨k, hk⟩
      have t3 : wst.getD k 0 + wln.getD k 0 ≤ 60 := t3
      rw [hkm] at t3
      generalize wst.getD k 0 = s at t3 ⊢
      induction j with
      | zero =>
        intro i hi hb
        have e1 : i = m := by omega
        subst e1
        rw [e_Model_wordHere_40, if_neg (by omega), if_pos hb]
        exact ⟨_, rfl⟩
      | succ j ih =>
        intro i hi hb
        rw [e_Model_wordHere_40, if_pos (by omega), if_neg (by decide), a2.2.2.1, r_ck_ok (by omega) (by omega), if_pos (by omega), r_ck_ok (by omega) (by omega), r_bd_ok (by omega) (by omega), show (((s + 1 : Nat) : Int) + (i : Int)).toNat = (s + i) + 1 by omega, show ((q : Int) + (i : Int)).toNat = q + i by omega, a2.1 78 (by decide), (ht (q + i) (by omega)).1, tx1 (s + i) (by omega)]
        by_cases c : tx0 (s + i) = t (q + i)
        · rw [if_pos c, r_ck_ok (by omega) (by omega)]
          refine ih (i + 1) (by omega) ?_
          show (eqw t q s i && decide (tx0 (s + i) = t (q + i))) = true
          rw [hb, decide_eq_true c, Bool.and_self]
        · rw [if_neg c, r_ck_ok (by omega) (by omega), go0, eqw_f m i (by omega) c, if_neg (by decide)]
          exact ⟨_, rfl⟩
    have ovr : ∀ k, k < 11 → ∀ (j i : Nat), wst.getD k 0 ≤ i → i + j = wst.getD k 0 + wln.getD k 0 → ∀ d5 d6, ∃ d5' d6', cX 62 22 [some (rV 72), some (iV (m : Int)), some (iV (k : Int)), some (iV ((wst.getD k 0 + 1 : Nat) : Int)), some (iV ((i + 1 : Nat) : Int)), d5, d6] [] N1 = cX 62 22 [some (rV 72), some (iV (m : Int)), some (iV (k : Int)), some (iV ((wst.getD k 0 + 1 : Nat) : Int)), some (iV ((wst.getD k 0 + wln.getD k 0 + 1 : Nat) : Int)), d5', d6'] [] N1 := fun k hk j => by
      obtain ⟨t1, t2, t3, t4, t5, t6⟩ := tx_end ⟨k, hk⟩
      have t3 : wst.getD k 0 + wln.getD k 0 ≤ 60 := t3
      induction j with
      | zero => intro i h1 h2 d5 d6; rw [show i = wst.getD k 0 + wln.getD k 0 by omega]; exact ⟨_, _, rfl⟩
      | succ j ih =>
        intro i h1 h2 d5 d6
        have hne : ¬ tx0 i = 32 := tx_in ⟨k, hk⟩ ⟨i, by omega⟩ h1 (by show i < wst.getD k 0 + wln.getD k 0; omega)
        rw [e_Model_wordHere_22, if_pos (by omega), Int.toNat_natCast, tx1 i (by omega), if_neg hne, r_ck_ok (by omega) (by omega)]
        exact ih (i + 1) (by omega) (by omega) none none
    have L : ∀ (j k : Nat), k + j = 11 → 1 ≤ j → ∀ d4 d5 d6, cX 62 16 [some (rV 72), some (iV (m : Int)), some (iV (k : Int)), some (iV ((wst.getD k 0 + 1 : Nat) : Int)), d4, d5, d6] [] N1 = some (fkd t q m j k, N1) := by
      intro j
      induction j with
      | zero => intro k _ h; omega
      | succ j ih =>
        intro k hk _ d4 d5 d6
        obtain ⟨t1, t2, t3, t4, t5, t6⟩ := tx_end ⟨k, by omega⟩
        have t1 : tx0 (wst.getD k 0 + wln.getD k 0) = 32 := t1
        have t2 : k < 10 → wst.getD (k + 1) 0 = wst.getD k 0 + wln.getD k 0 + 1 := t2
        have t3 : wst.getD k 0 + wln.getD k 0 ≤ 60 := t3
        have t4 : k = 10 → wst.getD k 0 + wln.getD k 0 = 60 := t4
        have ef : fkd t q m (j + 1) k = if wln.getD k 0 = m ∧ eqw t q (wst.getD k 0) m = true then (k : Int) else fkd t q m j (k + 1) := rfl
        have nxt : ¬ (wln.getD k 0 = m ∧ eqw t q (wst.getD k 0) m = true) → ∀ d3 d6, cX 62 64 [some (rV 72), some (iV (m : Int)), some (iV (k : Int)), d3, some (iV ((wst.getD k 0 + wln.getD k 0 + 1 : Nat) : Int)), some (iV 0), d6] [] N1 = some (fkd t q m (j + 1) k, N1) := fun hno d3 d6 => by
          rw [e_Model_wordHere_64, if_pos rfl, r_ck_ok (by omega) (by omega), r_ck_ok (by omega) (by omega), ef, if_neg hno]
          by_cases hk10 : k = 10
          · have := t4 hk10
            have hj : j = 0 := by omega
            subst hj
            rw [e_Model_wordHere_16, if_neg (by omega)]
            rfl
          · have hi := ih (k + 1) (by omega) (by omega) (some (iV ((wst.getD k 0 + wln.getD k 0 + 1 : Nat) : Int))) (some (iV 0)) none
            rw [t2 (by omega)] at hi
            exact hi
        obtain ⟨d5', d6', ho⟩ := ovr k (by omega) (wln.getD k 0) (wst.getD k 0) (by omega) (by omega) none none
        rw [e_Model_wordHere_16, if_pos (by omega), ho, e_Model_wordHere_22, if_pos (by omega), Int.toNat_natCast, tx1 _ (by omega), if_pos t1, r_ck_ok (by omega) (by omega)]
        by_cases c : wln.getD k 0 = m
        · obtain ⟨x6, hx⟩ := cmp k (by omega) c ((wst.getD k 0 + wln.getD k 0 + 1 : Nat) : Int) m 0 (by omega) rfl
          have hx : cX 62 40 [some (rV 72), some (iV (m : Int)), some (iV (k : Int)), some (iV ((wst.getD k 0 + 1 : Nat) : Int)), some (iV ((wst.getD k 0 + wln.getD k 0 + 1 : Nat) : Int)), some (iV 1), some (iV 0)] [] N1 = _ := hx
          rw [if_pos (by omega), hx]
          by_cases d : eqw t q (wst.getD k 0) m = true
          · rw [if_pos d, e_Model_wordHere_64, if_neg (by decide), ef, if_pos ⟨c, d⟩]
          · rw [if_neg d]
            exact nxt (fun h => d h.2) _ _
        · rw [if_neg (by omega), go0]
          exact nxt (fun h => c h.1) _ _
    exact L 11 0 (by omega) (by omega) none none none
end
