-- what is shut
def ivb (F T : Nat → Int) (m : Int) : Nat → Bool
  | 0 => false
  | k + 1 => ivb F T m k || (decide (F k ≤ m) && decide (m < T k))
theorem ivb_iff (F T : Nat → Int) (m : Int) : ∀ c, ivb F T m c = true ↔ ∃ k, k < c ∧ F k ≤ m ∧ m < T k := by
  intro c
  induction c with
  | zero => constructor
            · intro h; cases h
            · rintro ⟨k, hk, -⟩; omega
  | succ c ih =>
    show (ivb F T m c || (decide (F c ≤ m) && decide (m < T c))) = true ↔ _
    rw [Bool.or_eq_true, ih, Bool.and_eq_true, decide_eq_true_iff, decide_eq_true_iff]
    constructor
    · rintro (⟨k, hk, h⟩ | h)
      · exact ⟨k, by omega, h⟩
      · exact ⟨c, by omega, h⟩
    · rintro ⟨k, hk, h⟩
      by_cases e : k = c
      · subst e; exact Or.inr h
      · exact Or.inl ⟨k, by omega, h⟩
theorem ivb_false (F T : Nat → Int) (m : Int) (c : Nat) : ivb F T m c = false ↔ ∀ k, k < c → ¬ (F k ≤ m ∧ m < T k) := by
  rw [Bool.eq_false_iff, Ne, ivb_iff]
  constructor
  · intro h k hk hq; exact h ⟨k, hk, hq⟩
  · rintro h ⟨k, hk, hq⟩; exact h k hk hq
theorem b_ext {a b : Bool} (h : a = true ↔ b = true) : a = b := by
  cases a <;> cases b <;> simp at h ⊢
/-- whether a minute of a week is shut, by the first k rows -/
def shb (s : Nat → Int) (w : Nat) (m : Int) : Nat → Bool
  | 0 => false
  | k + 1 => shb s w m k || (decide (s (166 + 3 * k) = (w : Int)) && (decide (s (167 + 3 * k) ≤ m) && decide (m < s (168 + 3 * k))))
def shB (s : Nat → Int) (w : Nat) (m : Int) : Bool := shb s w m (s 4).toNat
theorem shb_succ (s : Nat → Int) (w : Nat) (m : Int) (k : Nat) : shb s w m (k + 1) = true ↔ shb s w m k = true ∨ (s (166 + 3 * k) = (w : Int) ∧ s (167 + 3 * k) ≤ m ∧ m < s (168 + 3 * k)) := by
  show (shb s w m k || (decide (s (166 + 3 * k) = (w : Int)) && (decide (s (167 + 3 * k) ≤ m) && decide (m < s (168 + 3 * k))))) = true ↔ _
  rw [Bool.or_eq_true, Bool.and_eq_true, Bool.and_eq_true, decide_eq_true_iff, decide_eq_true_iff, decide_eq_true_iff]
theorem shb_iff (s : Nat → Int) (w : Nat) (m : Int) : ∀ c, shb s w m c = true ↔ ∃ k, k < c ∧ s (166 + 3 * k) = (w : Int) ∧ s (167 + 3 * k) ≤ m ∧ m < s (168 + 3 * k) := by
  intro c
  induction c with
  | zero => constructor
            · intro h; cases h
            · rintro ⟨k, hk, -⟩; omega
  | succ c ih =>
    rw [shb_succ, ih]
    constructor
    · rintro (⟨k, hk, h⟩ | h)
      · exact ⟨k, by omega, h⟩
      · exact ⟨c, by omega, h⟩
    · rintro ⟨k, hk, h⟩
      by_cases e : k = c
      · subst e; exact Or.inr h
      · exact Or.inl ⟨k, by omega, h⟩
/-- how many of n from a on -/
def cnt (P : Int → Bool) (a : Int) : Nat → Int
  | 0 => 0
  | n + 1 => cnt P a n + (if P (a + (n : Int)) then 1 else 0)
theorem cnt_bd (P : Int → Bool) (a : Int) : ∀ n, 0 ≤ cnt P a n ∧ cnt P a n ≤ (n : Int) := by
  intro n
  induction n with
  | zero => exact ⟨by show (0 : Int) ≤ 0; omega, by show (0 : Int) ≤ 0; omega⟩
  | succ n ih =>
    show 0 ≤ cnt P a n + (if P (a + (n : Int)) then 1 else 0) ∧ cnt P a n + (if P (a + (n : Int)) then 1 else 0) ≤ ((n + 1 : Nat) : Int)
    split <;> omega
theorem cnt_eq {P Q : Int → Bool} {a : Int} : ∀ n : Nat, (∀ m, a ≤ m → m < a + (n : Int) → P m = Q m) → cnt P a n = cnt Q a n := by
  intro n
  induction n with
  | zero => intro _; rfl
  | succ n ih =>
    intro h
    show cnt P a n + (if P (a + (n : Int)) then 1 else 0) = cnt Q a n + (if Q (a + (n : Int)) then 1 else 0)
    rw [ih (fun m h1 h2 => h m h1 (by omega)), h (a + (n : Int)) (by omega) (by omega)]
theorem cnt_add (P : Int → Bool) (a : Int) (n : Nat) : ∀ k, cnt P a (n + k) = cnt P a n + cnt P (a + (n : Int)) k := by
  intro k
  induction k with
  | zero => show cnt P a n = cnt P a n + 0; omega
  | succ k ih =>
    show cnt P a (n + k) + (if P (a + ((n + k : Nat) : Int)) then 1 else 0) = cnt P a n + (cnt P (a + (n : Int)) k + (if P (a + (n : Int) + (k : Int)) then 1 else 0))
    rw [ih, show a + ((n + k : Nat) : Int) = a + (n : Int) + (k : Int) by omega]
    omega
theorem cnt_or {P Q R : Int → Bool} {a : Int} : ∀ n : Nat, (∀ m, a ≤ m → m < a + (n : Int) → R m = (P m || Q m) ∧ ¬ (P m = true ∧ Q m = true)) → cnt R a n = cnt P a n + cnt Q a n := by
  intro n
  induction n with
  | zero => intro _; rfl
  | succ n ih =>
    intro h
    have h1 := ih (fun m h1 h2 => h m h1 (by omega))
    obtain ⟨h2, h3⟩ := h (a + (n : Int)) (by omega) (by omega)
    show cnt R a n + (if R (a + (n : Int)) then 1 else 0) = cnt P a n + (if P (a + (n : Int)) then 1 else 0) + (cnt Q a n + (if Q (a + (n : Int)) then 1 else 0))
    rw [h1, h2]
    cases hp : P (a + (n : Int)) <;> cases hq : Q (a + (n : Int))
    · simp
    · simp; omega
    · simp; omega
    · exact absurd ⟨hp, hq⟩ h3
theorem cnt_all (P : Int → Bool) (a : Int) (b : Bool) : ∀ n : Nat, (∀ m, a ≤ m → m < a + (n : Int) → P m = b) → cnt P a n = if b then (n : Int) else 0 := by
  intro n
  induction n with
  | zero => intro _; show (0 : Int) = _; cases b <;> rfl
  | succ n ih =>
    intro h
    show cnt P a n + (if P (a + (n : Int)) then 1 else 0) = _
    rw [ih (fun m h1 h2 => h m h1 (by omega)), h (a + (n : Int)) (by omega) (by omega)]
    cases b
    · rfl
    · simp
theorem cnt_iv (f t a : Int) (hft : f ≤ t) : ∀ n : Nat, cnt (fun m => decide (f ≤ m) && decide (m < t)) a n = max (min t (a + (n : Int)) - max f a) 0 := by
  intro n
  induction n with
  | zero => show (0 : Int) = _; omega
  | succ n ih =>
    show cnt (fun m => decide (f ≤ m) && decide (m < t)) a n + (if (decide (f ≤ a + (n : Int)) && decide (a + (n : Int) < t)) then 1 else 0) = _
    rw [ih]
    by_cases h1 : f ≤ a + (n : Int)
    · by_cases h2 : a + (n : Int) < t
      · rw [if_pos (by simp [h1, h2])]; omega
      · rw [if_neg (by simp [h1, h2])]; omega
    · rw [if_neg (by simp [h1])]; omega
/-- stretches one behind the other -/
def srt (F T : Nat → Int) (c : Nat) : Prop := (∀ k, k < c → 0 ≤ F k ∧ F k < T k ∧ T k ≤ 10080) ∧ ∀ k, k + 1 < c → T k < F (k + 1)
theorem srt_lt {F T : Nat → Int} {c : Nat} (h : srt F T c) : ∀ k, k < c → ∀ j, j < k → T j < F k := by
  intro k
  induction k with
  | zero => intro _ j hj; omega
  | succ k ih =>
    intro hk j hj
    have h1 := h.2 k hk
    by_cases e : j = k
    · subst e; exact h1
    · have h2 := ih (by omega) j (by omega)
      have h3 := h.1 k (by omega)
      omega
def ivs (F T : Nat → Int) (b e : Int) : Nat → Int
  | 0 => 0
  | k + 1 => ivs F T b e k + max (min (T k) e - max (F k) b) 0
theorem ivs_cnt {F T : Nat → Int} {c : Nat} (h : srt F T c) (a : Int) (n : Nat) : ∀ k, k ≤ c → ivs F T a (a + (n : Int)) k = cnt (fun m => ivb F T m k) a n := by
  intro k
  induction k with
  | zero =>
    intro _
    show (0 : Int) = _
    exact (cnt_all (fun m => ivb F T m 0) a false n (fun _ _ _ => rfl)).symm
  | succ k ih =>
    intro hk
    have h1 := h.1 k (by omega)
    rw [cnt_or (R := fun m => ivb F T m (k + 1)) (P := fun m => ivb F T m k) (Q := fun m => decide (F k ≤ m) && decide (m < T k)) n (fun m h2 h3 => ⟨rfl, fun hq => by
      obtain ⟨j, hj, hq1⟩ := (ivb_iff F T m k).mp hq.1
      have hq2 : (decide (F k ≤ m) && decide (m < T k)) = true := hq.2
      rw [Bool.and_eq_true, decide_eq_true_iff, decide_eq_true_iff] at hq2
      have := srt_lt h k (by omega) j hj
      omega⟩), ← ih (by omega), cnt_iv _ _ _ (by omega)]
    rfl
/-- the class's Closed holds what is shut in a week -/
def CZ (s : Nat → Int) (w : Nat) (M : am_M) : Prop := ∃ c : Nat, M 43 3 = (c : Int) ∧ c ≤ 6 ∧ srt (M 44) (M 45) c ∧ ∀ m, ivb (M 44) (M 45) m c = shB s w m
theorem CZ_eq {s : Nat → Int} {w : Nat} {M M' : am_M} (h : CZ s w M) (e3 : M' 43 = M 43) (e4 : M' 44 = M 44) (e5 : M' 45 = M 45) : CZ s w M' := by
  unfold CZ at h ⊢
  rw [e3, e4, e5]
  exact h
theorem p_minutesWithin (M : am_M) (s : Nat → Int) (w : Nat) (h : CZ s w M) (a : Int) (n : Nat) (ha : 0 ≤ a ∧ a ≤ 100000) (hn : n ≤ 100000) : cY 180 [rV 43, iV a, iV (a + (n : Int))] M = some (cnt (shB s w) a n, M) := by
  obtain ⟨c, hc, hc6, hs, hU⟩ := h
  have e1 : cnt (shB s w) a n = ivs (M 44) (M 45) a (a + (n : Int)) c := by
    rw [ivs_cnt hs a n c (by omega)]
    exact cnt_eq n (fun m _ _ => (hU m).symm)
  have hb : ∀ k, k ≤ c → 0 ≤ ivs (M 44) (M 45) a (a + (n : Int)) k ∧ ivs (M 44) (M 45) a (a + (n : Int)) k ≤ (n : Int) := fun k hk => by
    rw [ivs_cnt hs a n k hk]
    exact cnt_bd _ _ _
  rw [e1, e_Closed_minutesWithin]
  have L : ∀ j k : Nat, k + j = c → cX 180 4 [some (rV 43), some (iV a), some (iV (a + (n : Int))), some (iV (ivs (M 44) (M 45) a (a + (n : Int)) k)), some (iV (k : Int))] [] M = some (ivs (M 44) (M 45) a (a + (n : Int)) c, M) := by
    intro j
    induction j with
    | zero => intro k hk; have e : k = c := by omega
              subst e; rw [e_Closed_minutesWithin_4, hc, if_neg (by omega)]
    | succ j ih =>
      intro k hk
      have h1 := hs.1 k (by omega)
      have h2 := hb k (by omega)
      have h3 := hb (k + 1) (by omega)
      have e2 : ivs (M 44) (M 45) a (a + (n : Int)) (k + 1) = ivs (M 44) (M 45) a (a + (n : Int)) k + max (min (M 45 k) (a + (n : Int)) - max (M 44 k) a) 0 := rfl
      rw [e_Closed_minutesWithin_4, hc, if_pos (by omega), r_bd_ok (by omega) (by omega), r_bd_ok (by omega) (by omega), Int.toNat_natCast, r_ck_ok (by omega) (by omega), ← e2, r_ck_ok (by omega) (by omega), r_ck_ok (by omega) (by omega)]
      exact ih (k + 1) (by omega)
  exact L c 0 (by omega)
/-- the first minute from one on that isn't shut -/
def opn (P : Int → Bool) (a r : Int) : Prop := a ≤ r ∧ (∀ m, a ≤ m → m < r → P m = true) ∧ P r = false
theorem p_openFrom (M : am_M) (s : Nat → Int) (w : Nat) (h : CZ s w M) (a : Int) : ∃ r, cY 181 [rV 43, iV a] M = some (r, M) ∧ opn (shB s w) a r ∧ (r = a ∨ r ≤ 10080) := by
  obtain ⟨c, hc, hc6, hs, hU⟩ := h
  rw [e_Closed_openFrom]
  have L : ∀ (j k : Nat) (d : Option am_V) (f : Int), k + j = c → (a ≤ f ∧ (∀ m, a ≤ m → m < f → ivb (M 44) (M 45) m c = true) ∧ (∀ i, i < k → ¬ (M 44 i ≤ f ∧ f < M 45 i)) ∧ (f = a ∨ f ≤ 10080)) → ∃ r, cX 181 4 [some (rV 43), d, some (iV f), some (iV (k : Int))] [] M = some (r, M) ∧ (a ≤ r ∧ (∀ m, a ≤ m → m < r → ivb (M 44) (M 45) m c = true) ∧ (∀ i, i < c → ¬ (M 44 i ≤ r ∧ r < M 45 i)) ∧ (r = a ∨ r ≤ 10080)) := by
    intro j
    induction j with
    | zero => intro k d f hk hI
              have e : k = c := by omega
              subst e; exact ⟨f, by rw [e_Closed_openFrom_4, hc, if_neg (by omega)], hI⟩
    | succ j ih =>
      intro k d f hk hI
      obtain ⟨h1, h2, h3, h4⟩ := hI
      have hk1 := hs.1 k (by omega)
      rw [e_Closed_openFrom_4, hc, if_pos (by omega), r_bd_ok (by omega) (by omega), Int.toNat_natCast]
      by_cases q1 : f < M 44 k
      · rw [if_pos q1, r_ck_ok (by omega) (by omega)]
        refine ih (k + 1) none f (by omega) ⟨h1, h2, fun i hi => ?_, h4⟩
        by_cases e : i = k
        · subst e; omega
        · exact h3 i (by omega)
      · rw [if_neg q1, r_bd_ok (by omega) (by omega)]
        by_cases q2 : f < M 45 k
        · rw [if_pos q2, r_bd_ok (by omega) (by omega), r_ck_ok (by omega) (by omega)]
          refine ih (k + 1) none (M 45 k) (by omega) ⟨by omega, fun m m1 m2 => ?_, fun i hi => ?_, Or.inr hk1.2.2⟩
          · by_cases q3 : m < f
            · exact h2 m m1 q3
            · exact (ivb_iff _ _ _ _).mpr ⟨k, by omega, by omega, m2⟩
          · by_cases e : i = k
            · subst e; omega
            · have := srt_lt hs k (by omega) i (by omega); omega
        · rw [if_neg q2, r_ck_ok (by omega) (by omega)]
          refine ih (k + 1) none f (by omega) ⟨h1, h2, fun i hi => ?_, h4⟩
          by_cases e : i = k
          · subst e; omega
          · exact h3 i (by omega)
  obtain ⟨r, g1, g2, g3, g4, g5⟩ := L c 0 (some (iV a)) a (by omega) ⟨by omega, fun m h1 h2 => by omega, fun i hi => by omega, Or.inl rfl⟩
  refine ⟨r, g1, ⟨g2, fun m h1 h2 => ?_, ?_⟩, g5⟩
  · rw [← hU]; exact g3 m h1 h2
  · rw [← hU]; exact (ivb_false _ _ _ _).mpr g4
theorem p_insertStretch (M : am_M) (c : Nat) (b e : Int) (hc : M 43 3 = (c : Int)) (h6 : c < 6) (hbe : 0 ≤ b ∧ b < e ∧ e ≤ 10080) (hv : ∀ k, k < c → 0 ≤ M 44 k ∧ M 44 k < M 45 k ∧ M 45 k ≤ 10080) (hs : ∀ i j, i ≤ j → j < c → M 44 i ≤ M 44 j) : ∃ M', cY 178 [rV 43, iV b, iV e] M = some (0, M') ∧ (∀ a, a ≠ 43 → a ≠ 44 → a ≠ 45 → M' a = M a) ∧ M' 43 3 = ((c + 1 : Nat) : Int) ∧ (∀ k, k < c + 1 → 0 ≤ M' 44 k ∧ M' 44 k < M' 45 k ∧ M' 45 k ≤ 10080) ∧ (∀ i j, i ≤ j → j < c + 1 → M' 44 i ≤ M' 44 j) ∧ ∀ m, ivb (M' 44) (M' 45) m (c + 1) = true ↔ ivb (M 44) (M 45) m c = true ∨ (b ≤ m ∧ m < e) := by
  rw [e_Closed_insertStretch, hc, if_pos (by omega)]
  have L : ∀ (p : Nat) (M' : am_M), p ≤ c → (∀ a, a ≠ 44 → a ≠ 45 → M' a = M a) → (∀ j, j < p → M' 44 j = M 44 j ∧ M' 45 j = M 45 j) → (∀ j, p < j → j ≤ c → M' 44 j = M 44 (j - 1) ∧ M' 45 j = M 45 (j - 1)) → (∀ j, p ≤ j → j < c → b < M 44 j) → ∃ q M2, q ≤ c ∧ cX 178 8 [some (rV 43), some (iV b), some (iV e), some (iV (p : Int))] [] M' = cX 178 40 [some (rV 43), some (iV b), some (iV e), some (iV (q : Int))] [] M2 ∧ (∀ a, a ≠ 44 → a ≠ 45 → M2 a = M a) ∧ (∀ j, j < q → M2 44 j = M 44 j ∧ M2 45 j = M 45 j) ∧ (∀ j, q < j → j ≤ c → M2 44 j = M 44 (j - 1) ∧ M2 45 j = M 45 (j - 1)) ∧ (∀ j, q ≤ j → j < c → b < M 44 j) ∧ ∀ j, j < q → M 44 j ≤ b := by
    intro p
    induction p with
    | zero =>
      intro M' hp h1 h2 h3 h4
      exact ⟨0, M', by omega, by rw [e_Closed_insertStretch_8, if_neg (by omega)], h1, h2, h3, h4, fun j hj => by omega⟩
    | succ p ih =>
      intro M' hp h1 h2 h3 h4
      have hh := e_Closed_insertStretch_8 b e ((p + 1 : Nat) : Int) M'
      have ep : ((p + 1 : Nat) : Int) - 1 = (p : Int) := by omega
      rw [if_pos (by omega), ep, r_ck_ok (by omega) (by omega), r_bd_ok (by omega) (by omega), Int.toNat_natCast, Int.toNat_natCast] at hh
      by_cases q : b < M' 44 p
      · rw [if_pos q, r_ck_ok (by omega) (by omega), r_bd_ok (by omega) (by omega), r_bd_ok (by omega) (by omega), r_ck_ok (by omega) (by omega), r_bd_ok (by omega) (by omega), r_bd_ok (by omega) (by omega), r_ck_ok (by omega) (by omega), show ((p + 1 : Nat) : Int) + -1 = (p : Int) by omega] at hh
        rw [(h2 p (by omega)).1] at q
        obtain ⟨q', M2, g0, g1, g2⟩ := ih (am_up (am_up M' 44 (p + 1) (M' 44 p)) 45 (p + 1) (M' 45 p)) (by omega) (fun a ha hb => by rw [am_up_ne _ _ _ _ hb, am_up_ne _ _ _ _ ha, h1 a ha hb]) (fun j hj => by
          rw [am_up_ne _ _ _ _ (by decide), am_up_nj _ _ _ _ (by omega), am_up_nj _ _ _ _ (by omega), am_up_ne _ _ _ _ (by decide)]; exact h2 j (by omega)) (fun j hj hjc => by
          by_cases ej : j = p + 1
          · subst ej
            rw [am_up_ne _ _ _ _ (by decide), am_up_at, am_up_at]
            exact h2 p (by omega)
          · rw [am_up_ne _ _ _ _ (by decide), am_up_nj _ _ _ _ ej, am_up_nj _ _ _ _ ej, am_up_ne _ _ _ _ (by decide)]; exact h3 j (by omega) hjc) (fun j hj hjc => by
          by_cases ej : j = p
          · subst ej; exact q
          · exact h4 j (by omega) hjc)
        exact ⟨q', M2, g0, hh.trans g1, g2⟩
      · rw [if_neg q] at hh
        rw [(h2 p (by omega)).1] at q
        exact ⟨p + 1, M', hp, hh, h1, h2, h3, h4, fun j hj => by have := hs j p (by omega) (by omega); omega⟩
  obtain ⟨q, M2, g0, g1, g2, g3, g4, g5, g6⟩ := L c M (by omega) (fun _ _ _ => rfl) (fun _ _ => ⟨rfl, rfl⟩) (fun j h1 h2 => by omega) (fun j h1 h2 => by omega)
  have e43 : M2 43 3 = (c : Int) := by rw [g2 43 (by decide) (by decide)]; exact hc
  refine ⟨am_up (am_up (am_up M2 44 q b) 45 q e) 43 3 ((c : Int) + 1), ?_, ?_, am_up_at _ _ _ _, ?_, ?_, ?_⟩
  · rw [g1, e_Closed_insertStretch_40, r_bd_ok (by omega) (by omega), r_bd_ok (by omega) (by omega), e43, r_ck_ok (by omega) (by omega), Int.toNat_natCast]
  · intro a h3 h4 h5; rw [am_up_ne _ _ _ _ h3, am_up_ne _ _ _ _ h5, am_up_ne _ _ _ _ h4, g2 a h4 h5]
  all_goals
    have k44 : ∀ j, (am_up (am_up (am_up M2 44 q b) 45 q e) 43 3 ((c : Int) + 1)) 44 j = if j = q then b else M2 44 j := fun j => by
      rw [am_up_ne _ _ _ _ (by decide), am_up_ne _ _ _ _ (by decide)]
      by_cases ej : j = q
      · subst ej; rw [am_up_at, if_pos rfl]
      · rw [am_up_nj _ _ _ _ ej, if_neg ej]
    have k45 : ∀ j, (am_up (am_up (am_up M2 44 q b) 45 q e) 43 3 ((c : Int) + 1)) 45 j = if j = q then e else M2 45 j := fun j => by
      rw [am_up_ne _ _ _ _ (by decide)]
      by_cases ej : j = q
      · subst ej; rw [am_up_at, if_pos rfl]
      · rw [am_up_nj _ _ _ _ ej, if_neg ej, am_up_ne _ _ _ _ (by decide)]
  · intro k hk
    rw [k44, k45]
    by_cases ek : k = q
    · rw [if_pos ek, if_pos ek]; exact hbe
    · rw [if_neg ek, if_neg ek]
      by_cases c1 : k < q
      · rw [(g3 k c1).1, (g3 k c1).2]; exact hv k (by omega)
      · rw [(g4 k (by omega) (by omega)).1, (g4 k (by omega) (by omega)).2]; exact hv (k - 1) (by omega)
  · intro i j hij hj
    rw [k44, k44]
    have val : ∀ x, x ≠ q → x < c + 1 → (x < q ∧ M2 44 x = M 44 x) ∨ (q < x ∧ M2 44 x = M 44 (x - 1)) := fun x hx hc1 => by
      by_cases c1 : x < q
      · exact Or.inl ⟨c1, (g3 x c1).1⟩
      · exact Or.inr ⟨by omega, (g4 x (by omega) (by omega)).1⟩
    by_cases ei : i = q
    · rw [if_pos ei]
      by_cases ej : j = q
      · rw [if_pos ej]; omega
      · rw [if_neg ej]
        rcases val j ej hj with ⟨h1, h2⟩ | ⟨h1, h2⟩
        · omega
        · rw [h2]; have := g5 (j - 1) (by omega) (by omega); omega
    · rw [if_neg ei]
      by_cases ej : j = q
      · rw [if_pos ej]
        rcases val i ei (by omega) with ⟨h1, h2⟩ | ⟨h1, h2⟩
        · rw [h2]; exact g6 i h1
        · omega
      · rw [if_neg ej]
        rcases val i ei (by omega) with ⟨h1, h2⟩ | ⟨h1, h2⟩ <;> rcases val j ej hj with ⟨h3, h4⟩ | ⟨h3, h4⟩
        · rw [h2, h4]; exact hs i j hij (by omega)
        · rw [h2, h4]; exact hs i (j - 1) (by omega) (by omega)
        · omega
        · rw [h2, h4]; exact hs (i - 1) (j - 1) (by omega) (by omega)
  · intro m
    rw [ivb_iff, ivb_iff]
    constructor
    · rintro ⟨k, hk, h1, h2⟩
      rw [k44] at h1
      rw [k45] at h2
      by_cases ek : k = q
      · rw [if_pos ek] at h1 h2; exact Or.inr ⟨h1, h2⟩
      · rw [if_neg ek] at h1 h2
        by_cases c1 : k < q
        · rw [(g3 k c1).1] at h1; rw [(g3 k c1).2] at h2; exact Or.inl ⟨k, by omega, h1, h2⟩
        · rw [(g4 k (by omega) (by omega)).1] at h1; rw [(g4 k (by omega) (by omega)).2] at h2; exact Or.inl ⟨k - 1, by omega, h1, h2⟩
    · rintro (⟨k, hk, h1, h2⟩ | ⟨h1, h2⟩)
      · by_cases c1 : k < q
        · refine ⟨k, by omega, ?_, ?_⟩
          · rw [k44, if_neg (by omega), (g3 k c1).1]; exact h1
          · rw [k45, if_neg (by omega), (g3 k c1).2]; exact h2
        · refine ⟨k + 1, by omega, ?_, ?_⟩
          · rw [k44, if_neg (by omega), (g4 (k + 1) (by omega) (by omega)).1]; exact h1
          · rw [k45, if_neg (by omega), (g4 (k + 1) (by omega) (by omega)).2]; exact h2
      · exact ⟨q, by omega, by rw [k44, if_pos rfl]; exact h1, by rw [k45, if_pos rfl]; exact h2⟩
theorem p_joinStretches (M : am_M) (c : Nat) (hc : M 43 3 = (c : Int)) (h6 : c ≤ 6) (hv : ∀ k, k < c → 0 ≤ M 44 k ∧ M 44 k < M 45 k ∧ M 45 k ≤ 10080) (hs : ∀ i j, i ≤ j → j < c → M 44 i ≤ M 44 j) : ∃ (M' : am_M) (c' : Nat), cY 179 [rV 43] M = some (0, M') ∧ (∀ a, a ≠ 43 → a ≠ 44 → a ≠ 45 → M' a = M a) ∧ M' 43 3 = (c' : Int) ∧ c' ≤ 6 ∧ srt (M' 44) (M' 45) c' ∧ ∀ m, ivb (M' 44) (M' 45) m c' = ivb (M 44) (M 45) m c := by
  rw [e_Closed_joinStretches]
  have L : ∀ (j k : Nat) (x : Nat) (M' : am_M), k + j = c → x ≤ k → (∀ a, a ≠ 44 → a ≠ 45 → M' a = M a) → (∀ i, k ≤ i → M' 44 i = M 44 i ∧ M' 45 i = M 45 i) → srt (M' 44) (M' 45) x → (1 ≤ x → k < c → M' 44 (x - 1) ≤ M 44 k) → (1 ≤ x → ∃ i, i < k ∧ M' 44 (x - 1) = M 44 i) → (∀ m, ivb (M' 44) (M' 45) m x = ivb (M 44) (M 45) m k) → ∃ (M2 : am_M) (c' : Nat), cX 179 4 [some (rV 43), some (iV (x : Int)), some (iV (k : Int))] [] M' = some (0, M2) ∧ (∀ a, a ≠ 43 → a ≠ 44 → a ≠ 45 → M2 a = M a) ∧ M2 43 3 = (c' : Int) ∧ c' ≤ 6 ∧ srt (M2 44) (M2 45) c' ∧ ∀ m, ivb (M2 44) (M2 45) m c' = ivb (M 44) (M 45) m c := by
    intro j
    induction j with
    | zero =>
      intro k x M' hk hx h1 h2 h3 h4 h5 h7
      have e : k = c := by omega
      subst e
      refine ⟨am_up M' 43 3 (x : Int), x, ?_, ?_, am_up_at _ _ _ _, by omega, ?_, ?_⟩
      · rw [e_Closed_joinStretches_4, h1 43 (by decide) (by decide), hc, if_neg (by omega)]
      · intro a g3 g4 g5; rw [am_up_ne _ _ _ _ g3, h1 a g4 g5]
      · rw [am_up_ne _ _ _ _ (by decide), am_up_ne _ _ _ _ (by decide)]; exact h3
      · rw [am_up_ne _ _ _ _ (by decide), am_up_ne _ _ _ _ (by decide)]; exact h7
    | succ j ih =>
      intro k x M' hk hx h1 h2 h3 h4 h5 h7
      have hvk := hv k (by omega)
      obtain ⟨e44, e45⟩ := h2 k (by omega)
      have app : (1 ≤ x → M' 45 (x - 1) < M 44 k) → ∃ (M2 : am_M) (c' : Nat), cX 179 39 [some (rV 43), some (iV (x : Int)), some (iV (k : Int))] [] M' = some (0, M2) ∧ (∀ a, a ≠ 43 → a ≠ 44 → a ≠ 45 → M2 a = M a) ∧ M2 43 3 = (c' : Int) ∧ c' ≤ 6 ∧ srt (M2 44) (M2 45) c' ∧ ∀ m, ivb (M2 44) (M2 45) m c' = ivb (M 44) (M 45) m c := by
        intro hgap
        have hh := e_Closed_joinStretches_39 (x : Int) (k : Int) M'
        rw [r_bd_ok (by omega) (by omega), r_bd_ok (by omega) (by omega), r_bd_ok (by omega) (by omega), r_bd_ok (by omega) (by omega), r_ck_ok (by omega) (by omega), r_ck_ok (by omega) (by omega), Int.toNat_natCast, Int.toNat_natCast, e44, e45] at hh
        have k44 : ∀ i, (am_up (am_up M' 44 x (M 44 k)) 45 x (M 45 k)) 44 i = if i = x then M 44 k else M' 44 i := fun i => by
          rw [am_up_ne _ _ _ _ (by decide)]
          by_cases ei : i = x
          · subst ei; rw [am_up_at, if_pos rfl]
          · rw [am_up_nj _ _ _ _ ei, if_neg ei]
        have k45 : ∀ i, (am_up (am_up M' 44 x (M 44 k)) 45 x (M 45 k)) 45 i = if i = x then M 45 k else M' 45 i := fun i => by
          by_cases ei : i = x
          · subst ei; rw [am_up_at, if_pos rfl]
          · rw [am_up_nj _ _ _ _ ei, if_neg ei, am_up_ne _ _ _ _ (by decide)]
        obtain ⟨M2, c', q1, q2⟩ := ih (k + 1) (x + 1) (am_up (am_up M' 44 x (M 44 k)) 45 x (M 45 k)) (by omega) (by omega) (fun a g4 g5 => by rw [am_up_ne _ _ _ _ g5, am_up_ne _ _ _ _ g4, h1 a g4 g5]) (fun i hi => by rw [k44, k45, if_neg (by omega), if_neg (by omega)]; exact h2 i (by omega)) ⟨fun i hi => by
            rw [k44, k45]
            by_cases ei : i = x
            · rw [if_pos ei, if_pos ei]; exact hvk
            · rw [if_neg ei, if_neg ei]; exact h3.1 i (by omega), fun i hi => by
            rw [k44, k45, if_neg (by omega : i ≠ x)]
            by_cases ei : i + 1 = x
            · rw [if_pos ei]
              have := hgap (by omega)
              rw [show x - 1 = i by omega] at this
              exact this
            · rw [if_neg ei]; exact h3.2 i (by omega)⟩ (fun _ hkc => by rw [show x + 1 - 1 = x by omega, k44, if_pos rfl]; exact hs k (k + 1) (by omega) hkc) (fun _ => ⟨k, by omega, by rw [show x + 1 - 1 = x by omega, k44, if_pos rfl]⟩) (fun m => by
            apply b_ext
            rw [ivb_iff]
            show _ ↔ (ivb (M 44) (M 45) m k || (decide (M 44 k ≤ m) && decide (m < M 45 k))) = true
            rw [Bool.or_eq_true, ← h7 m, ivb_iff, Bool.and_eq_true, decide_eq_true_iff, decide_eq_true_iff]
            constructor
            · rintro ⟨i, hi, g1, g2⟩
              rw [k44] at g1
              rw [k45] at g2
              by_cases ei : i = x
              · rw [if_pos ei] at g1 g2; exact Or.inr ⟨g1, g2⟩
              · rw [if_neg ei] at g1 g2; exact Or.inl ⟨i, by omega, g1, g2⟩
            · rintro (⟨i, hi, g1, g2⟩ | ⟨g1, g2⟩)
              · exact ⟨i, by omega, by rw [k44, if_neg (by omega)]; exact g1, by rw [k45, if_neg (by omega)]; exact g2⟩
              · exact ⟨x, by omega, by rw [k44, if_pos rfl]; exact g1, by rw [k45, if_pos rfl]; exact g2⟩)
        exact ⟨M2, c', hh.trans q1, q2⟩
      have hh := e_Closed_joinStretches_4 (x : Int) (k : Int) M'
      rw [h1 43 (by decide) (by decide), hc, if_pos (by omega)] at hh
      by_cases hx0 : x = 0
      · rw [if_neg (by omega)] at hh
        obtain ⟨M2, c', q1, q2⟩ := app (fun h => by omega)
        exact ⟨M2, c', hh.trans q1, q2⟩
      · rw [if_pos (by omega), r_bd_ok (by omega) (by omega), r_ck_ok (by omega) (by omega), r_bd_ok (by omega) (by omega), Int.toNat_natCast, show ((x : Int) - 1).toNat = x - 1 by omega, e44] at hh
        by_cases hg : M' 45 (x - 1) < M 44 k
        · rw [if_pos hg] at hh
          obtain ⟨M2, c', q1, q2⟩ := app (fun _ => hg)
          exact ⟨M2, c', hh.trans q1, q2⟩
        · rw [if_neg hg, r_ck_ok (by omega) (by omega), r_ck_ok (by omega) (by omega), r_bd_ok (by omega) (by omega), r_bd_ok (by omega) (by omega), r_bd_ok (by omega) (by omega), r_ck_ok (by omega) (by omega), e45] at hh
          have hl := h4 (by omega) (by omega)
          have hlx := h3.1 (x - 1) (by omega)
          have k44 : (am_up M' 45 (x - 1) (max (M' 45 (x - 1)) (M 45 k))) 44 = M' 44 := am_up_ne _ _ _ _ (by decide)
          have k45 : ∀ i, (am_up M' 45 (x - 1) (max (M' 45 (x - 1)) (M 45 k))) 45 i = if i = x - 1 then max (M' 45 (x - 1)) (M 45 k) else M' 45 i := fun i => by
            by_cases ei : i = x - 1
            · rw [if_pos ei, ei, am_up_at]
            · rw [am_up_nj _ _ _ _ ei, if_neg ei]
          obtain ⟨M2, c', q1, q2⟩ := ih (k + 1) x (am_up M' 45 (x - 1) (max (M' 45 (x - 1)) (M 45 k))) (by omega) (by omega) (fun a g4 g5 => by rw [am_up_ne _ _ _ _ g5, h1 a g4 g5]) (fun i hi => by rw [k44, k45, if_neg (by omega)]; exact h2 i (by omega)) ⟨fun i hi => by
              rw [k44, k45]
              have := h3.1 i hi
              by_cases ei : i = x - 1
              · rw [if_pos ei]; subst ei; omega
              · rw [if_neg ei]; exact this, fun i hi => by
              rw [k44, k45, if_neg (by omega)]; exact h3.2 i hi⟩ (fun _ hkc => by rw [k44]; have := hs k (k + 1) (by omega) hkc; omega) (fun _ => by
              obtain ⟨i, hi, ei⟩ := h5 (by omega)
              exact ⟨i, by omega, by rw [k44]; exact ei⟩) (fun m => by
              apply b_ext
              rw [ivb_iff]
              show _ ↔ (ivb (M 44) (M 45) m k || (decide (M 44 k ≤ m) && decide (m < M 45 k))) = true
              rw [Bool.or_eq_true, ← h7 m, ivb_iff, Bool.and_eq_true, decide_eq_true_iff, decide_eq_true_iff, k44]
              constructor
              · rintro ⟨i, hi, g1, g2⟩
                rw [k45] at g2
                by_cases ei : i = x - 1
                · rw [if_pos ei] at g2
                  by_cases c1 : m < M' 45 (x - 1)
                  · exact Or.inl ⟨x - 1, by omega, by rw [← ei]; exact g1, c1⟩
                  · exact Or.inr (by omega)
                · rw [if_neg ei] at g2; exact Or.inl ⟨i, hi, g1, g2⟩
              · rintro (⟨i, hi, g1, g2⟩ | ⟨g1, g2⟩)
                · refine ⟨i, hi, g1, ?_⟩
                  rw [k45]
                  by_cases ei : i = x - 1
                  · rw [if_pos ei]; subst ei; omega
                  · rw [if_neg ei]; exact g2
                · exact ⟨x - 1, by omega, by omega, by rw [k45, if_pos rfl]; omega⟩)
          exact ⟨M2, c', hh.trans q1, q2⟩
  exact L c 0 0 M (by omega) (by omega) (fun _ _ _ => rfl) (fun _ _ => ⟨rfl, rfl⟩) ⟨fun k hk => by omega, fun k hk => by omega⟩ (fun h => by omega) (fun h => by omega) (fun m => rfl)
theorem p_cell_11 (M : am_M) (k c : Nat) (hw : M 11 1 = 3) (hk : (k : Int) < M 11 3) (hl : M 11 3 ≤ 12) (hc : c < 3) : cY 222 [rV 11, iV (k : Int), iV (c : Int)] M = some (M 12 (3 * k + c), M) := by
  rw [e_Rows_cell_11, if_neg (by omega), if_pos hk, if_neg (by omega), hw, if_pos (by omega), r_ck_ok (by omega) (by omega), r_ck_ok (by omega) (by omega), r_bd_ok (by omega) (by omega), show ((k : Int) * 3 + (c : Int)).toNat = 3 * k + c by omega]
theorem p_cell_13 (M : am_M) (k c : Nat) (hw : M 13 1 = 4) (hk : (k : Int) < M 13 3) (hl : M 13 3 ≤ 12) (hc : c < 4) : cY 222 [rV 13, iV (k : Int), iV (c : Int)] M = some (M 14 (4 * k + c), M) := by
  rw [e_Rows_cell_13, if_neg (by omega), if_pos hk, if_neg (by omega), hw, if_pos (by omega), r_ck_ok (by omega) (by omega), r_ck_ok (by omega) (by omega), r_bd_ok (by omega) (by omega), show ((k : Int) * 4 + (c : Int)).toNat = 4 * k + c by omega]
theorem p_cell_15 (M : am_M) (k c : Nat) (hw : M 15 1 = 3) (hk : (k : Int) < M 15 3) (hl : M 15 3 ≤ 6) (hc : c < 3) : cY 222 [rV 15, iV (k : Int), iV (c : Int)] M = some (M 16 (3 * k + c), M) := by
  rw [e_Rows_cell_15, if_neg (by omega), if_pos hk, if_neg (by omega), hw, if_pos (by omega), r_ck_ok (by omega) (by omega), r_ck_ok (by omega) (by omega), r_bd_ok (by omega) (by omega), show ((k : Int) * 3 + (c : Int)).toNat = 3 * k + c by omega]
/-- what lineUp needs of the class's Told -/
def cL (s : Nat → Int) (M : am_M) : Prop := M 0 4 = s 1 ∧ M 10 4 = s 9 ∧ (∀ p : Nat, (p : Int) < s 1 → M 9 p = s (74 + p)) ∧ (M 11 3 = s 2 ∧ M 15 3 = s 4) ∧ (M 11 1 = 3 ∧ M 15 1 = 3) ∧
  (∀ k : Nat, (k : Int) < s 2 → ∀ j : Nat, j < 3 → M 12 (3 * k + j) = s (82 + 3 * k + j)) ∧ ∀ k : Nat, (k : Int) < s 4 → ∀ j : Nat, j < 3 → M 16 (3 * k + j) = s (166 + 3 * k + j)
theorem cL_of {s s' : Nat → Int} {M : am_M} (hv : vT s) (hc : cT s M 0) (hk : kT M 0) (he : ∀ i, i ≠ 5 → i ≠ 10 → (i < 12 ∨ 42 ≤ i) → s' i = s i) : cL s' M := by
  obtain ⟨b0, b1, b2, b3, b4, -⟩ := hv
  obtain ⟨c0, c1, c2, c3, c4, hset, hz, hr, hf, ho, hs, hl', hh⟩ := hc
  have e1 : s' 1 = s 1 := he 1 (by omega) (by omega) (by omega)
  have e2 : s' 2 = s 2 := he 2 (by omega) (by omega) (by omega)
  have e4 : s' 4 = s 4 := he 4 (by omega) (by omega) (by omega)
  refine ⟨by rw [e1]; exact c1, by rw [he 9 (by omega) (by omega) (by omega)]; exact hset 4 (by omega), fun p hp => by rw [he _ (by omega) (by omega) (by omega)]; rw [e1] at hp; exact ho p hp, ⟨by rw [e2]; exact c2, by rw [e4]; exact c4⟩, ⟨hk.1.2, hk.2.2.2⟩, fun k hk j hj => by rw [he _ (by omega) (by omega) (by omega)]; rw [e2] at hk; exact hs k hk j hj, fun k hk j hj => by rw [he _ (by omega) (by omega) (by omega)]; rw [e4] at hk; exact hh k hk j hj⟩
theorem cL_eq {s : Nat → Int} {M M' : am_M} (h : cL s M) (e : ∀ a, a ≤ 16 → M' a = M a) : cL s M' := by
  unfold cL at h ⊢
  rw [e 0 (by omega), e 10 (by omega), e 9 (by omega), e 11 (by omega), e 15 (by omega), e 12 (by omega), e 16 (by omega)]
  exact h
theorem p_gather (M : am_M) (s : Nat → Int) (w : Nat) (hv : vT s) (hc : cL s M) : ∃ M', cY 177 [rV 43, iV (w : Int)] M = some (0, M') ∧ (∀ a, a ≠ 43 → a ≠ 44 → a ≠ 45 → M' a = M a) ∧ CZ s w M' := by
  have hb4 := hv.2.2.2.2.1
  obtain ⟨m, hm⟩ : ∃ m : Nat, s 4 = (m : Int) := ⟨(s 4).toNat, by omega⟩
  rw [e_Closed_gather]
  obtain ⟨-, M1, h1, i1, ⟨c, i2, i3, i4, i5, i6⟩⟩ := lp_up (α := Unit) (X := fun k _ M => cX 177 5 [some (rV 43), some (iV (w : Int)), some (iV (k : Int))] [] M) (n := m) (I := fun k M' => (∀ a, a ≠ 43 → a ≠ 44 → a ≠ 45 → M' a = M a) ∧ ∃ c : Nat, M' 43 3 = (c : Int) ∧ c ≤ k ∧ (∀ i, i < c → 0 ≤ M' 44 i ∧ M' 44 i < M' 45 i ∧ M' 45 i ≤ 10080) ∧ (∀ i j, i ≤ j → j < c → M' 44 i ≤ M' 44 j) ∧ ∀ x, ivb (M' 44) (M' 45) x c = shb s w x k) (by
    intro k hk d M' hI
    obtain ⟨i1, c, i2, i3, i4, i5, i6⟩ := hI
    have hL : cL s M' := cL_eq hc (fun a ha => i1 a (by omega) (by omega) (by omega))
    have hvr := hv.2.2.2.2.2.2.2.2.2.2.2 k (by omega)
    have hh := e_Closed_gather_5 (w : Int) (k : Int) M'
    have cc : ∀ j : Nat, j < 3 → cY 222 [rV 15, iV (k : Int), iV (j : Int)] M' = some (s (166 + 3 * k + j), M') := fun j hj => by
      rw [p_cell_15 M' k j hL.2.2.2.2.1.2 (by rw [hL.2.2.2.1.2]; omega) (by rw [hL.2.2.2.1.2]; omega) hj, hL.2.2.2.2.2.2 k (by omega) j hj]
    have c0 : cY 222 [rV 15, iV (k : Int), iV 0] M' = some (s (166 + 3 * k), M') := cc 0 (by omega)
    have c1 : cY 222 [rV 15, iV (k : Int), iV 1] M' = some (s (167 + 3 * k), M') := (cc 1 (by omega)).trans (by rw [show 166 + 3 * k + 1 = 167 + 3 * k by omega])
    have c2 : cY 222 [rV 15, iV (k : Int), iV 2] M' = some (s (168 + 3 * k), M') := (cc 2 (by omega)).trans (by rw [show 166 + 3 * k + 2 = 168 + 3 * k by omega])
    rw [hL.2.2.2.1.2, if_pos (by omega), c0, am_cb_s] at hh
    by_cases q : s (166 + 3 * k) = (w : Int)
    · obtain ⟨M2, g1, g2, g3, g4, g5, g6⟩ := p_insertStretch M' c (s (167 + 3 * k)) (s (168 + 3 * k)) i2 (by omega) (by omega) i4 i5
      rw [if_pos q, c1, am_cb_s, c2, am_cb_s, g1, am_cb_s, r_ck_ok (by omega) (by omega)] at hh
      refine ⟨(), M2, hh, fun a x1 x2 x3 => by rw [g2 a x1 x2 x3, i1 a x1 x2 x3], c + 1, g3, by omega, g4, g5, fun x => b_ext ?_⟩
      rw [g6, i6, shb_succ]
      constructor
      · rintro (h | h)
        · exact Or.inl h
        · exact Or.inr ⟨q, h⟩
      · rintro (h | h)
        · exact Or.inl h
        · exact Or.inr h.2
    · rw [if_neg q, r_ck_ok (by omega) (by omega)] at hh
      refine ⟨(), M', hh, i1, c, i2, by omega, i4, i5, fun x => b_ext ?_⟩
      rw [i6, shb_succ]
      constructor
      · exact Or.inl
      · rintro (h | h)
        · exact h
        · exact absurd h.1 q) m 0 (by omega) () (am_up M 43 3 0) ⟨fun a h3 _ _ => am_up_ne _ _ _ _ h3, 0, am_up_at _ _ _ _, by omega, fun i hi => by omega, fun i j _ hj => by omega, fun _ => rfl⟩
  obtain ⟨M2, c', g1, g2, g3, g4, g5, g6⟩ := p_joinStretches M1 c i2 (by omega) i4 i5
  refine ⟨M2, ?_, fun a x1 x2 x3 => by rw [g2 a x1 x2 x3, i1 a x1 x2 x3], c', g3, g4, g5, fun x => ?_⟩
  · refine h1.trans ?_
    rw [e_Closed_gather_5, i1 15 (by decide) (by decide) (by decide), hc.2.2.2.1.2, if_neg (by omega), g1, am_cb_s]
  · rw [g6, i6]
    unfold shB
    rw [hm, Int.toNat_natCast]
