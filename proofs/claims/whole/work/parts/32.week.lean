-- a week, reckoned
def pl (o : Nat → Int) (n f : Nat) : Nat := plc o (f : Int) n 0
theorem pl_at {n : Nat} {o : Nat → Int} (hP : isP n o) {p : Nat} (hp : p < n) : pl o n (o p).toNat = p := by
  have h := hP.1 p hp
  unfold pl
  exact (isP_plc hP hp (show o p = ((o p).toNat : Int) by omega)).1
theorem pl_o {n : Nat} {o : Nat → Int} (hP : isP n o) {f : Nat} (hf : f < n) : pl o n f < n ∧ o (pl o n f) = (f : Int) := by
  obtain ⟨p, hp, h⟩ := isP_sur hP (f := (f : Int)) (by omega)
  have e : pl o n f = p := (isP_plc hP hp h).1
  rw [e]
  exact ⟨hp, h⟩
/-- of a field: its fill, its drain, its turn -/
def fF (s o : Nat → Int) (n f : Nat) : Int := fil s o (pl o n f)
def dF (s o : Nat → Int) (n f : Nat) : Int := drn s o n (pl o n f)
def trn (s o : Nat → Int) (n f : Nat) : Int := shr s o n f + fF s o n f - dF s o n f
theorem fF_bd {s o : Nat → Int} (hv : vT s) {n : Nat} (hn : s 1 = (n : Int)) (hP : isP n o) {f : Nat} (hf : f < n) : 0 ≤ fF s o n f ∧ fF s o n f ≤ 600 := fil_bd hv hn hP (pl_o hP hf).1
theorem dF_bd {s o : Nat → Int} (hv : vT s) {n : Nat} (hn : s 1 = (n : Int)) (hP : isP n o) {f : Nat} (hf : f < n) : 0 ≤ dF s o n f ∧ dF s o n f ≤ 600 := drn_bd hv hn hP (pl_o hP hf).1
theorem trn_bd {s o : Nat → Int} (hv : vT s) {n : Nat} (hn : s 1 = (n : Int)) (hP : isP n o) {f : Nat} (hf : f < n) : -600 ≤ trn s o n f ∧ trn s o n f ≤ 15600 := by
  have h1 := fF_bd hv hn hP hf
  have h2 := dF_bd hv hn hP hf
  have h3 := shr_bd hv hn hP hf
  unfold trn
  omega
def fls (s o : Nat → Int) (n : Nat) : Nat → Int
  | 0 => 0
  | k + 1 => if trn s o n k < 0 then 1 else fls s o n k
theorem fls_01 (s o : Nat → Int) (n : Nat) : ∀ k, fls s o n k = 0 ∨ fls s o n k = 1 := by
  intro k
  induction k with
  | zero => exact Or.inl rfl
  | succ k ih =>
    show (if trn s o n k < 0 then (1 : Int) else fls s o n k) = 0 ∨ (if trn s o n k < 0 then (1 : Int) else fls s o n k) = 1
    split
    · exact Or.inr rfl
    · exact ih
theorem fls_0 {s o : Nat → Int} {n : Nat} : ∀ k, fls s o n k = 0 → ∀ f, f < k → 0 ≤ trn s o n f := by
  intro k
  induction k with
  | zero => intro _ f hf; omega
  | succ k ih =>
    intro h f hf
    have h : (if trn s o n k < 0 then (1 : Int) else fls s o n k) = 0 := h
    by_cases q : trn s o n k < 0
    · rw [if_pos q] at h; omega
    · rw [if_neg q] at h
      by_cases e : f = k
      · subst e; omega
      · exact ih h f (by omega)
-- sums
theorem sm_lin (a b c : Nat → Int) : ∀ k, sm (fun f => a f + b f - c f) k = sm a k + sm b k - sm c k := by
  intro k
  induction k with
  | zero => rfl
  | succ k ih =>
    show sm (fun f => a f + b f - c f) k + (a k + b k - c k) = sm a k + a k + (sm b k + b k) - (sm c k + c k)
    rw [ih]; omega
theorem sm_nn {g : Nat → Int} : ∀ n, (∀ f, f < n → 0 ≤ g f) → 0 ≤ sm g n := by
  intro n
  induction n with
  | zero => intro _; exact Int.le_refl 0
  | succ n ih =>
    intro h
    have h1 := ih (fun f hf => h f (by omega))
    have h2 := h n (by omega)
    show 0 ≤ sm g n + g n
    omega
theorem sm_le {g : Nat → Int} : ∀ n, (∀ f, f < n → 0 ≤ g f) → ∀ f, f < n → g f ≤ sm g n := by
  intro n
  induction n with
  | zero => intro _ f hf; omega
  | succ n ih =>
    intro h f hf
    have h2 := h n (by omega)
    have h3 := sm_nn n (fun f hf => h f (by omega))
    show g f ≤ sm g n + g n
    by_cases e : f = n
    · subst e; omega
    · have h1 := ih (fun f hf => h f (by omega)) f (by omega)
      omega
theorem sm_mono {g : Nat → Int} {n : Nat} (h : ∀ f, f < n → 0 ≤ g f) (k : Nat) : ∀ j, k + j ≤ n → sm g k ≤ sm g (k + j) := by
  intro j
  induction j with
  | zero => intro _; exact Int.le_refl _
  | succ j ih =>
    intro hj
    have h1 := ih (by omega)
    have h2 := h (k + j) (by omega)
    show sm g k ≤ sm g (k + j) + g (k + j)
    omega
/-- a sum by fields is that by places -/
theorem sm_pl {n : Nat} {o : Nat → Int} (hP : isP n o) (g : Nat → Int) : sm (fun f => g (pl o n f)) n = sm g n := by
  have L : ∀ k, k ≤ n → sm (fun f => if pl o n f < k then g (pl o n f) else 0) n = sm g k := by
    intro k
    induction k with
    | zero =>
      intro _
      have : ∀ j, sm (fun f => if pl o n f < 0 then g (pl o n f) else 0) j = 0 := by
        intro j
        induction j with
        | zero => rfl
        | succ j ih =>
          show sm (fun f => if pl o n f < 0 then g (pl o n f) else 0) j + (if pl o n j < 0 then g (pl o n j) else 0) = 0
          rw [ih, if_neg (by omega)]; rfl
      exact this n
    | succ k ih =>
      intro hk
      have hok := hP.1 k (by omega)
      have e : ∀ f, f < n → (if pl o n f < k + 1 then g (pl o n f) else 0) = us (fun f => if pl o n f < k then g (pl o n f) else 0) (o k).toNat (g k) f := by
        intro f hf
        obtain ⟨h1, h2⟩ := pl_o hP hf
        by_cases c : f = (o k).toNat
        · have ep : pl o n f = k := by rw [c]; exact pl_at hP (by omega)
          rw [c, us_at, ← c, ep, if_pos (by omega)]
        · rw [us_ne _ _ _ c]
          have : pl o n f ≠ k := fun h => c (by rw [h] at h2; omega)
          show _ = if pl o n f < k then g (pl o n f) else 0
          by_cases c2 : pl o n f < k
          · rw [if_pos c2, if_pos (by omega)]
          · rw [if_neg c2, if_neg (by omega)]
      have e2 : sm (fun f => if pl o n f < k + 1 then g (pl o n f) else 0) n = sm (us (fun f => if pl o n f < k then g (pl o n f) else 0) (o k).toNat (g k)) n := sm_eq n e
      rw [e2, sm_us, if_pos (by omega), ih (by omega)]
      show sm g k - (if pl o n (o k).toNat < k then g (pl o n (o k).toNat) else 0) + g k = sm g k + g k
      rw [pl_at hP (by omega), if_neg (by omega)]
      omega
  rw [← L n (by omega)]
  exact sm_eq n (fun f hf => by rw [if_pos (pl_o hP hf).1])
theorem sm_o {n : Nat} {o : Nat → Int} (hP : isP n o) (g : Nat → Int) : sm (fun p => g (o p).toNat) n = sm g n := by
  rw [← sm_pl hP (fun p => g (o p).toNat)]
  exact sm_eq n (fun f hf => by show g (o (pl o n f)).toNat = g f; rw [(pl_o hP hf).2, Int.toNat_natCast])
theorem nets_sm (s o : Nat → Int) (n : Nat) : ∀ k, nets s o n k = 10080 + sm (drn s o n) k - sm (fil s o) k := by
  intro k
  induction k with
  | zero => rfl
  | succ k ih =>
    show nets s o n k + (drn s o n k - fil s o k) = 10080 + (sm (drn s o n) k + drn s o n k) - (sm (fil s o) k + fil s o k)
    rw [ih]; omega
theorem trn_sm {s o : Nat → Int} (hv : vT s) {n : Nat} (hn : s 1 = (n : Int)) (hP : isP n o) (h1 : 1 ≤ n) : sm (trn s o n) n = 10080 := by
  have e : sm (trn s o n) n = sm (shr s o n) n + sm (fF s o n) n - sm (dF s o n) n := sm_lin (shr s o n) (fF s o n) (dF s o n) n
  have e1 : sm (fF s o n) n = sm (fil s o) n := sm_pl hP (fil s o)
  have e2 : sm (dF s o n) n = sm (drn s o n) n := sm_pl hP (drn s o n)
  rw [e, shr_sm hv hn hP h1, e1, e2, nets_sm]
  omega
-- rows of bits
def bts (B : Nat → Bool) : Nat → Nat
  | 0 => 0
  | k + 1 => if B k = true then bts B k ||| 2 ^ k else bts B k
theorem bts_lt (B : Nat → Bool) : ∀ k, bts B k < 2 ^ k := by
  intro k
  induction k with
  | zero => show 0 < 1; omega
  | succ k ih =>
    have h1 : 2 ^ k < 2 ^ (k + 1) := Nat.pow_lt_pow_right (by omega) (by omega)
    show (if B k = true then bts B k ||| 2 ^ k else bts B k) < 2 ^ (k + 1)
    split
    · exact Nat.or_lt_two_pow (by omega) h1
    · omega
theorem bts_lt31 (B : Nat → Bool) {k : Nat} (h : k ≤ 31) : bts B k < 2147483648 := by
  have h1 := bts_lt B k
  have h2 : 2 ^ k ≤ 2 ^ 31 := Nat.pow_le_pow_right (by omega) h
  omega
theorem bts_bit (B : Nat → Bool) : ∀ K k, (bts B K).testBit k = (decide (k < K) && B k) := by
  intro K
  induction K with
  | zero => intro k; show (0 : Nat).testBit k = _; rw [Nat.zero_testBit]; simp
  | succ K ih =>
    intro k
    show (if B K = true then bts B K ||| 2 ^ K else bts B K).testBit k = _
    by_cases e : k = K
    · subst e
      by_cases q : B k = true
      · rw [if_pos q, Nat.testBit_or, Nat.testBit_two_pow, q]; simp
      · rw [if_neg q, ih k]; simp at q; simp [q]
    · have h1 : decide (k < K + 1) = decide (k < K) := by
        by_cases c : k < K
        · rw [decide_eq_true c, decide_eq_true (by omega)]
        · rw [decide_eq_false c, decide_eq_false (by omega)]
      rw [h1, ← ih k]
      split
      · rw [Nat.testBit_or, Nat.testBit_two_pow, decide_eq_false (by omega), Bool.or_false]
      · rfl
-- lends
def lcn (s o : Nat → Int) (n w : Nat) (g : Nat → Int) (k : Nat) : Bool := decide (s (118 + 4 * k) = (w : Int)) && decide (s (121 + 4 * k) ≤ g (s (119 + 4 * k)).toNat - fF s o n (s (119 + 4 * k)).toNat)
def lst (s g : Nat → Int) (k : Nat) : Nat → Int := us (us g (s (119 + 4 * k)).toNat (g (s (119 + 4 * k)).toNat - s (121 + 4 * k))) (s (120 + 4 * k)).toNat (g (s (120 + 4 * k)).toNat + s (121 + 4 * k))
def lns (s o : Nat → Int) (n w : Nat) : Nat → Nat → Int
  | 0 => trn s o n
  | k + 1 => if lcn s o n w (lns s o n w k) k = true then lst s (lns s o n w k) k else lns s o n w k
def lnt (s o : Nat → Int) (n w k : Nat) : Bool := lcn s o n w (lns s o n w k) k
def vnt (s o : Nat → Int) (n w k : Nat) : Bool := decide (s (118 + 4 * k) = (w : Int)) && !lnt s o n w k
def lF (s o : Nat → Int) (n w : Nat) : Nat → Int := lns s o n w (s 3).toNat
theorem lcn_t {s o : Nat → Int} {n w : Nat} {g : Nat → Int} {k a : Nat} (ha : s (119 + 4 * k) = (a : Int)) : lcn s o n w g k = true ↔ s (118 + 4 * k) = (w : Int) ∧ s (121 + 4 * k) ≤ g a - fF s o n a := by
  unfold lcn
  rw [Bool.and_eq_true, decide_eq_true_iff, decide_eq_true_iff, ha, Int.toNat_natCast]
theorem lns_ok {s o : Nat → Int} (hv : vT s) {n : Nat} (hn : s 1 = (n : Int)) (hP : isP n o) (w : Nat) (h0 : ∀ f, f < n → 0 ≤ trn s o n f) : ∀ k : Nat, (k : Int) ≤ s 3 → (∀ f, f < n → 0 ≤ lns s o n w k f) ∧ sm (lns s o n w k) n = sm (trn s o n) n := by
  intro k
  induction k with
  | zero => intro _; exact ⟨h0, rfl⟩
  | succ k ih =>
    intro hk
    obtain ⟨i1, i2⟩ := ih (by omega)
    obtain ⟨r0, r1, r2, r3, r4⟩ := hv.2.2.2.2.2.2.2.2.2.2.1 k (by omega)
    obtain ⟨a, ha⟩ : ∃ a : Nat, s (119 + 4 * k) = (a : Int) := ⟨(s (119 + 4 * k)).toNat, by omega⟩
    obtain ⟨b, hb⟩ : ∃ b : Nat, s (120 + 4 * k) = (b : Int) := ⟨(s (120 + 4 * k)).toNat, by omega⟩
    have hab : b ≠ a := by omega
    have hfa := fF_bd hv hn hP (f := a) (by omega)
    show (∀ f, f < n → 0 ≤ (if lcn s o n w (lns s o n w k) k = true then lst s (lns s o n w k) k else lns s o n w k) f) ∧ sm (if lcn s o n w (lns s o n w k) k = true then lst s (lns s o n w k) k else lns s o n w k) n = _
    split
    · rename_i q
      obtain ⟨q1, q2⟩ := (lcn_t ha).mp q
      have ga := i1 a (by omega)
      have gb := i1 b (by omega)
      unfold lst
      rw [ha, hb, Int.toNat_natCast, Int.toNat_natCast]
      constructor
      · intro f hf
        have gf := i1 f hf
        by_cases c1 : f = b
        · subst c1; rw [us_at]; omega
        · rw [us_ne _ _ _ c1]
          by_cases c2 : f = a
          · subst c2; rw [us_at]; omega
          · rw [us_ne _ _ _ c2]; exact gf
      · rw [sm_us, if_pos (by omega), us_ne _ _ _ hab, sm_us, if_pos (by omega), i2]
        omega
    · exact ⟨i1, i2⟩
theorem lns_bd {s o : Nat → Int} (hv : vT s) {n : Nat} (hn : s 1 = (n : Int)) (hP : isP n o) (w : Nat) (h0 : ∀ f, f < n → 0 ≤ trn s o n f) {k : Nat} (hk : (k : Int) ≤ s 3) {f : Nat} (hf : f < n) : 0 ≤ lns s o n w k f ∧ lns s o n w k f ≤ 10080 := by
  obtain ⟨i1, i2⟩ := lns_ok hv hn hP w h0 k hk
  have h1 := sm_le n i1 f hf
  rw [i2, trn_sm hv hn hP (by omega)] at h1
  exact ⟨i1 f hf, h1⟩
/-- where each begins -/
def bgn (o g : Nat → Int) : Nat → Int
  | 0 => 0
  | p + 1 => bgn o g p + g (o p).toNat
def bF (s o : Nat → Int) (n w f : Nat) : Int := bgn o (lF s o n w) (pl o n f)
theorem bgn_sm (o g : Nat → Int) : ∀ k, bgn o g k = sm (fun p => g (o p).toNat) k := by
  intro k
  induction k with
  | zero => rfl
  | succ k ih => show bgn o g k + g (o k).toNat = sm (fun p => g (o p).toNat) k + g (o k).toNat; rw [ih]
theorem bgn_bd {n : Nat} {o g : Nat → Int} (hP : isP n o) (B : Int) (h : ∀ f, f < n → -B ≤ g f ∧ g f ≤ B) : ∀ k : Nat, k ≤ n → -(B * (k : Int)) ≤ bgn o g k ∧ bgn o g k ≤ B * (k : Int) := by
  intro k
  induction k with
  | zero => intro _; show -(B * ((0 : Nat) : Int)) ≤ 0 ∧ (0 : Int) ≤ B * ((0 : Nat) : Int); rw [show ((0 : Nat) : Int) = 0 from rfl, Int.mul_zero]; omega
  | succ k ih =>
    intro hk
    have h1 := ih (by omega)
    have h2 := hP.1 k (by omega)
    have h3 := h (o k).toNat (by omega)
    show -(B * ((k + 1 : Nat) : Int)) ≤ bgn o g k + g (o k).toNat ∧ bgn o g k + g (o k).toNat ≤ B * ((k + 1 : Nat) : Int)
    rw [show ((k + 1 : Nat) : Int) = (k : Int) + 1 from rfl, Int.mul_add, Int.mul_one]
    omega
/-- what holds of a week that doesn't fail -/
theorem week_ok {s o : Nat → Int} (hv : vT s) {n : Nat} (hn : s 1 = (n : Int)) (hP : isP n o) (w : Nat) (h0 : fls s o n n = 0) {f : Nat} (hf : f < n) : 0 ≤ lF s o n w f ∧ 0 ≤ bF s o n w f ∧ bF s o n w f + lF s o n w f ≤ 10080 := by
  have hb3 := hv.2.2.2.1
  have h1 := fls_0 n h0
  have h2 := fun f hf => lns_bd hv hn hP w h1 (k := (s 3).toNat) (by omega) (f := f) hf
  obtain ⟨p1, p2⟩ := pl_o hP hf
  have nn : ∀ p, p < n → 0 ≤ (fun p => lF s o n w (o p).toNat) p := fun p hp => (h2 (o p).toNat (by have := hP.1 p hp; omega)).1
  have e1 := bgn_sm o (lF s o n w) (pl o n f)
  have e2 := bgn_sm o (lF s o n w) (pl o n f + 1)
  have e3 : bgn o (lF s o n w) (pl o n f + 1) = bF s o n w f + lF s o n w f := by
    show bgn o (lF s o n w) (pl o n f) + lF s o n w (o (pl o n f)).toNat = _
    rw [p2, Int.toNat_natCast]; rfl
  have m1 := sm_mono nn (pl o n f + 1) (n - (pl o n f + 1)) (by omega)
  rw [show pl o n f + 1 + (n - (pl o n f + 1)) = n by omega, sm_o hP] at m1
  have m2 : sm (lF s o n w) n = 10080 := by
    have := (lns_ok hv hn hP w h1 (s 3).toNat (by omega)).2
    rw [trn_sm hv hn hP (by omega)] at this
    exact this
  have m3 := sm_nn (pl o n f) (fun p hp => nn p (by omega))
  refine ⟨(h2 f hf).1, ?_, ?_⟩
  · show 0 ≤ bgn o (lF s o n w) (pl o n f); omega
  · omega
-- the class
def cE (s : Nat → Int) (M : am_M) : Prop := M 13 3 = s 3 ∧ M 13 1 = 4 ∧ ∀ k : Nat, (k : Int) < s 3 → ∀ j : Nat, j < 4 → M 14 (4 * k + j) = s (118 + 4 * k + j)
theorem cE_eq {s : Nat → Int} {M M' : am_M} (h : cE s M) (e : ∀ a, a ≤ 16 → M' a = M a) : cE s M' := by
  unfold cE at h ⊢
  rw [e 13 (by omega), e 14 (by omega)]
  exact h
theorem p_lcell (M : am_M) (s : Nat → Int) (h : cE s M) (hv : vT s) (k : Nat) (hk : (k : Int) < s 3) : cY 222 [rV 13, iV (k : Int), iV 0] M = some (s (118 + 4 * k), M) ∧ cY 222 [rV 13, iV (k : Int), iV 1] M = some (s (119 + 4 * k), M) ∧ cY 222 [rV 13, iV (k : Int), iV 2] M = some (s (120 + 4 * k), M) ∧ cY 222 [rV 13, iV (k : Int), iV 3] M = some (s (121 + 4 * k), M) := by
  have hb3 := hv.2.2.2.1
  have cc : ∀ j : Nat, j < 4 → cY 222 [rV 13, iV (k : Int), iV (j : Int)] M = some (s (118 + 4 * k + j), M) := fun j hj => by
    rw [p_cell_13 M k j h.2.1 (by rw [h.1]; omega) (by rw [h.1]; omega) hj, h.2.2 k hk j hj]
  exact ⟨cc 0 (by omega), (cc 1 (by omega)).trans (by rw [show 118 + 4 * k + 1 = 119 + 4 * k by omega]), (cc 2 (by omega)).trans (by rw [show 118 + 4 * k + 2 = 120 + 4 * k by omega]), (cc 3 (by omega)).trans (by rw [show 118 + 4 * k + 3 = 121 + 4 * k by omega])⟩
theorem or01 : am_or 0 1 = 1 ∧ am_or 1 1 = 1 ∧ am_or 0 0 = 0 ∧ am_or 1 0 = 1 := by decide +kernel
theorem p_takeTurns (M : am_M) (s o : Nat → Int) (n : Nat) (hv : vT s) (hn : s 1 = (n : Int)) (hP : isP n o) (hc : M 0 4 = (n : Int)) (hf : ∀ f, f < n → M 48 f = fF s o n f ∧ M 49 f = dF s o n f ∧ M 50 f = shr s o n f) : ∃ M', cY 263 [rV 46] M = some (0, M') ∧ (∀ a, a ≠ 46 → a ≠ 52 → a ≠ 53 → M' a = M a) ∧ (∀ j, j ≠ 14 → M' 46 j = M 46 j) ∧ M' 46 14 = fls s o n n ∧ ∀ f, f < n → M' 52 f = trn s o n f ∧ M' 53 f = trn s o n f := by
  have hb1 := hv.2.1
  obtain ⟨-, M1, h1, i1, i2, i3, i4⟩ := lp_up (α := Unit) (X := fun k _ M => cX 263 5 [some (rV 46), some (iV (k : Int))] [] M) (n := n) (I := fun k M' => (∀ a, a ≠ 46 → a ≠ 52 → a ≠ 53 → M' a = M a) ∧ (∀ j, j ≠ 14 → M' 46 j = M 46 j) ∧ M' 46 14 = fls s o n k ∧ ∀ f, f < k → M' 52 f = trn s o n f ∧ M' 53 f = trn s o n f) (by
    intro k hk d M' hI
    obtain ⟨i1, i2, i3, i4⟩ := hI
    have hh := e_WeekPlan_takeTurns_5 (k : Int) M'
    obtain ⟨f1, f2, f3⟩ := hf k hk
    have b1 := fF_bd hv hn hP hk
    have b2 := dF_bd hv hn hP hk
    have b3 := shr_bd hv hn hP hk
    have et : shr s o n k + fF s o n k - dF s o n k = trn s o n k := rfl
    have ef : fls s o n (k + 1) = if trn s o n k < 0 then 1 else fls s o n k := rfl
    have e01 := fls_01 s o n k
    have fin : ∀ v, v = fls s o n (k + 1) → (cX 263 5 [some (rV 46), some (iV (k : Int))] [] M' = cX 263 5 [some (rV 46), some (iV ((k : Int) + 1))] [] (am_up (am_up (am_up M' 52 k (trn s o n k)) 53 k (trn s o n k)) 46 14 v)) → ∃ (d' : Unit) (M2 : am_M), cX 263 5 [some (rV 46), some (iV (k : Int))] [] M' = cX 263 5 [some (rV 46), some (iV ((k + 1 : Nat) : Int))] [] M2 ∧ (∀ a, a ≠ 46 → a ≠ 52 → a ≠ 53 → M2 a = M a) ∧ (∀ j, j ≠ 14 → M2 46 j = M 46 j) ∧ M2 46 14 = fls s o n (k + 1) ∧ ∀ f, f < k + 1 → M2 52 f = trn s o n f ∧ M2 53 f = trn s o n f := by
      intro v hvv hq
      refine ⟨(), _, hq, fun a x1 x2 x3 => by rw [am_up_ne _ _ _ _ x1, am_up_ne _ _ _ _ x3, am_up_ne _ _ _ _ x2, i1 a x1 x2 x3], fun j hj => by rw [am_up_nj _ _ _ _ hj, am_up_ne _ _ _ _ (by decide), am_up_ne _ _ _ _ (by decide), i2 j hj], by rw [am_up_at, hvv], fun f hf => ?_⟩
      rw [am_up_ne _ _ _ _ (show 52 ≠ 46 by decide), am_up_ne _ _ _ _ (show 52 ≠ 53 by decide), am_up_ne _ _ _ _ (show 53 ≠ 46 by decide)]
      by_cases e : f = k
      · subst e; rw [am_up_at, am_up_at]; exact ⟨rfl, rfl⟩
      · rw [am_up_nj _ _ _ _ e, am_up_nj _ _ _ _ e, am_up_ne _ _ _ _ (by decide)]; exact i4 f (by omega)
    rw [i1 0 (by decide) (by decide) (by decide), hc, if_pos (by omega), r_bd_ok (by omega) (by omega), r_bd_ok (by omega) (by omega), Int.toNat_natCast, i1 48 (by decide) (by decide) (by decide), i1 49 (by decide) (by decide) (by decide), i1 50 (by decide) (by decide) (by decide), f1, f2, f3, r_ck_ok (by omega) (by omega), r_bd_ok (by omega) (by omega), r_ck_ok (by omega) (by omega), r_bd_ok (by omega) (by omega), r_bd_ok (by omega) (by omega), r_bd_ok (by omega) (by omega), r_bd_ok (by omega) (by omega), et, am_up_at, i3] at hh
    by_cases q : trn s o n k < 0
    · rw [if_pos q] at ef
      rw [if_pos q] at hh
      rcases e01 with e | e
      · rw [e, or01.1, if_pos (Or.inr rfl), r_ck_ok (by omega) (by omega)] at hh
        exact fin 1 ef.symm hh
      · rw [e, or01.2.1, if_pos (Or.inr rfl), r_ck_ok (by omega) (by omega)] at hh
        exact fin 1 ef.symm hh
    · rw [if_neg q] at ef
      rw [if_neg q] at hh
      rcases e01 with e | e
      · rw [e, or01.2.2.1, if_pos (Or.inl rfl), r_ck_ok (by omega) (by omega)] at hh
        exact fin 0 (by rw [ef, e]) hh
      · rw [e, or01.2.2.2, if_pos (Or.inr rfl), r_ck_ok (by omega) (by omega)] at hh
        exact fin 1 (by rw [ef, e]) hh) n 0 (by omega) () (am_up M 46 14 0) ⟨fun a x1 _ _ => am_up_ne _ _ _ _ x1, fun j hj => am_up_nj _ _ _ _ hj, am_up_at _ _ _ _, fun f hf => by omega⟩
  refine ⟨M1, ?_, i1, i2, i3, i4⟩
  rw [e_WeekPlan_takeTurns]
  refine h1.trans ?_
  rw [e_WeekPlan_takeTurns_5, i1 0 (by decide) (by decide) (by decide), hc, if_neg (by omega)]
theorem p_passLends (M : am_M) (s o : Nat → Int) (n w : Nat) (hv : vT s) (hn : s 1 = (n : Int)) (hP : isP n o) (hE : cE s M) (hw : M 46 3 = (w : Int)) (hf : ∀ f, f < n → M 48 f = fF s o n f ∧ M 53 f = trn s o n f) (h0 : ∀ f, f < n → 0 ≤ trn s o n f) (h12 : M 46 12 = 0) : ∃ M', cY 264 [rV 46] M = some (0, M') ∧ (∀ a, a ≠ 46 → a ≠ 53 → M' a = M a) ∧ (∀ j, j ≠ 12 → M' 46 j = M 46 j) ∧ M' 46 12 = ((bts (lnt s o n w) (s 3).toNat : Nat) : Int) ∧ ∀ f, f < n → M' 53 f = lF s o n w f := by
  have hb1 := hv.2.1
  have hb3 := hv.2.2.2.1
  obtain ⟨m, hm⟩ : ∃ m : Nat, s 3 = (m : Int) := ⟨(s 3).toNat, by omega⟩
  obtain ⟨⟨d2, d3, d4⟩, M1, h1, i1, i2, i3, i4⟩ := lp_up (α := Option am_V × Option am_V × Option am_V) (X := fun k d M => cX 264 2 [some (rV 46), some (iV (k : Int)), d.1, d.2.1, d.2.2] [] M) (n := m) (I := fun k M' => (∀ a, a ≠ 46 → a ≠ 53 → M' a = M a) ∧ (∀ j, j ≠ 12 → M' 46 j = M 46 j) ∧ M' 46 12 = ((bts (lnt s o n w) k : Nat) : Int) ∧ ∀ f, f < n → M' 53 f = lns s o n w k f) (by
    intro k hk d M' hI
    obtain ⟨i1, i2, i3, i4⟩ := hI
    have hE1 : cE s M' := cE_eq hE (fun a ha => i1 a (by omega) (by omega))
    obtain ⟨r0, r1, r2, r3, r4⟩ := hv.2.2.2.2.2.2.2.2.2.2.1 k (by omega)
    obtain ⟨a, ha⟩ : ∃ a : Nat, s (119 + 4 * k) = (a : Int) := ⟨(s (119 + 4 * k)).toNat, by omega⟩
    obtain ⟨b, hb⟩ : ∃ b : Nat, s (120 + 4 * k) = (b : Int) := ⟨(s (120 + 4 * k)).toNat, by omega⟩
    have hab : b ≠ a := by omega
    have hfa := fF_bd hv hn hP (f := a) (by omega)
    have la := lns_bd hv hn hP w h0 (k := k) (by omega) (f := a) (by omega)
    have lb := lns_bd hv hn hP w h0 (k := k) (by omega) (f := b) (by omega)
    obtain ⟨c0, c1, c2, c3⟩ := p_lcell M' s hE1 hv k (by omega)
    have hh := e_WeekPlan_passLends_2 (k : Int) d.1 d.2.1 d.2.2 M'
    have e463 : M' 46 3 = (w : Int) := by rw [i2 3 (by decide)]; exact hw
    have e48 : M' 48 a = fF s o n a := by rw [i1 48 (by decide) (by decide)]; exact (hf a (by omega)).1
    have el : lns s o n w (k + 1) = if lcn s o n w (lns s o n w k) k = true then lst s (lns s o n w k) k else lns s o n w k := rfl
    have eb : bts (lnt s o n w) (k + 1) = if lnt s o n w k = true then bts (lnt s o n w) k ||| 2 ^ k else bts (lnt s o n w) k := rfl
    have en : lnt s o n w k = lcn s o n w (lns s o n w k) k := rfl
    have lc := lcn_t (s := s) (o := o) (n := n) (w := w) (g := lns s o n w k) ha
    rw [hE1.1, if_pos (by omega), c1, am_cb_s, c3, am_cb_s, c0, am_cb_s, e463] at hh
    have no : lcn s o n w (lns s o n w k) k ≠ true → ∀ d' : Option am_V × Option am_V × Option am_V, (cX 264 2 [some (rV 46), some (iV (k : Int)), d.1, d.2.1, d.2.2] [] M' = cX 264 2 [some (rV 46), some (iV ((k : Int) + 1)), d'.1, d'.2.1, d'.2.2] [] M') → ∃ (d' : Option am_V × Option am_V × Option am_V) (M2 : am_M), cX 264 2 [some (rV 46), some (iV (k : Int)), d.1, d.2.1, d.2.2] [] M' = cX 264 2 [some (rV 46), some (iV ((k + 1 : Nat) : Int)), d'.1, d'.2.1, d'.2.2] [] M2 ∧ (∀ a, a ≠ 46 → a ≠ 53 → M2 a = M a) ∧ (∀ j, j ≠ 12 → M2 46 j = M 46 j) ∧ M2 46 12 = ((bts (lnt s o n w) (k + 1) : Nat) : Int) ∧ ∀ f, f < n → M2 53 f = lns s o n w (k + 1) f := by
      intro hc d' hq
      rw [if_neg hc] at el
      rw [en, if_neg hc] at eb
      exact ⟨d', M', hq, i1, i2, by rw [eb]; exact i3, fun f hf => by rw [el]; exact i4 f hf⟩
    by_cases q : s (118 + 4 * k) = (w : Int)
    · rw [if_pos q, ha, r_bd_ok (by omega) (by omega), r_bd_ok (by omega) (by omega), Int.toNat_natCast, i4 a (by omega), e48, r_ck_ok (by omega) (by omega)] at hh
      by_cases q2 : lns s o n w k a - fF s o n a < s (121 + 4 * k)
      · rw [if_pos q2, r_ck_ok (by omega) (by omega)] at hh
        exact no (fun h => by have := (lc.mp h).2; omega) (_, _, _) hh
      · have hcn : lcn s o n w (lns s o n w k) k = true := lc.mpr ⟨q, by omega⟩
        rw [if_pos hcn] at el
        rw [en, if_pos hcn] at eb
        have c2' := (p_lcell (am_up M' 53 a (lns s o n w k a - s (121 + 4 * k))) s (cE_eq hE1 (fun x hx => am_up_ne _ _ _ _ (by omega))) hv k (by omega)).2.2.1
        have hbk := bts_lt31 (lnt s o n w) (k := k) (by omega)
        rw [if_neg q2, r_bd_ok (by omega) (by omega), r_ck_ok (by omega) (by omega), r_bd_ok (by omega) (by omega), c2', am_cb_s, hb, r_bd_ok (by omega) (by omega), Int.toNat_natCast, am_up_nj _ _ _ _ hab, i4 b (by omega), r_ck_ok (by omega) (by omega), r_bd_ok (by omega) (by omega), r_ck_ok (by omega) (by omega), am_up_ne _ _ _ _ (show 46 ≠ 53 by decide), i3, b_set hbk (by omega)] at hh
        refine ⟨(_, _, _), _, hh, fun x x1 x2 => by rw [am_up_ne _ _ _ _ x1, am_up_ne _ _ _ _ x2, am_up_ne _ _ _ _ x2, i1 x x1 x2], fun j hj => by rw [am_up_nj _ _ _ _ hj, am_up_ne _ _ _ _ (by decide), am_up_ne _ _ _ _ (by decide), i2 j hj], by rw [am_up_at, eb], fun f hf => ?_⟩
        rw [el]
        unfold lst
        rw [ha, hb, Int.toNat_natCast, Int.toNat_natCast, am_up_ne _ _ _ _ (by decide)]
        by_cases x1 : f = b
        · subst x1; rw [am_up_at, us_at]
        · rw [am_up_nj _ _ _ _ x1, us_ne _ _ _ x1]
          by_cases x2 : f = a
          · subst x2; rw [am_up_at, us_at]
          · rw [am_up_nj _ _ _ _ x2, us_ne _ _ _ x2]; exact i4 f hf
    · rw [if_neg q, r_ck_ok (by omega) (by omega)] at hh
      exact no (fun h => q (lc.mp h).1) (_, _, _) hh) m 0 (by omega) (none, none, none) M ⟨fun _ _ _ => rfl, fun _ _ => rfl, h12, fun f hx => (hf f hx).2⟩
  refine ⟨M1, ?_, i1, i2, by rw [hm, Int.toNat_natCast]; exact i3, fun f hf => by unfold lF; rw [hm, Int.toNat_natCast]; exact i4 f hf⟩
  rw [e_WeekPlan_passLends]
  refine h1.trans ?_
  rw [e_WeekPlan_passLends_2, i1 13 (by decide) (by decide), hE.1, if_neg (by omega)]
theorem p_followOn (M : am_M) (o g : Nat → Int) (n : Nat) (h8 : n ≤ 8) (hP : isP n o) (hc : M 0 4 = (n : Int)) (ho : ∀ p, p < n → M 47 p = o p) (hg : ∀ f, f < n → M 53 f = g f ∧ -20000 ≤ g f ∧ g f ≤ 20000) : ∃ M', cY 265 [rV 46] M = some (0, M') ∧ (∀ a, a ≠ 54 → M' a = M a) ∧ ∀ f, f < n → M' 54 f = bgn o g (pl o n f) := by
  obtain ⟨-, M1, h1, i1, i2⟩ := lp_up (α := Unit) (X := fun k _ M => cX 265 4 [some (rV 46), some (iV (bgn o g k)), some (iV (k : Int))] [] M) (n := n) (I := fun k M' => (∀ a, a ≠ 54 → M' a = M a) ∧ ∀ p, p < k → M' 54 (o p).toNat = bgn o g p) (by
    intro k hk d M' hI
    obtain ⟨i1, i2⟩ := hI
    have hok := hP.1 k hk
    obtain ⟨f, hf⟩ : ∃ f : Nat, o k = (f : Int) := ⟨(o k).toNat, by omega⟩
    have hh := e_WeekPlan_followOn_4 (bgn o g k) (k : Int) M'
    have hb := bgn_bd hP 20000 (fun f hf => ⟨(hg f hf).2.1, (hg f hf).2.2⟩) k (by omega)
    obtain ⟨g1, g2, g3⟩ := hg f (by omega)
    have eg : bgn o g (k + 1) = bgn o g k + g f := by show bgn o g k + g (o k).toNat = _; rw [hf, Int.toNat_natCast]
    rw [i1 0 (by decide), hc, if_pos (by omega), Int.toNat_natCast, i1 47 (by decide), ho k hk, hf, Int.toNat_natCast, i1 53 (by decide), g1, r_bd_ok (by omega) (by omega), r_bd_ok (by omega) (by omega), r_bd_ok (by omega) (by omega), r_bd_ok (by omega) (by omega), r_ck_ok (by omega) (by omega), r_ck_ok (by omega) (by omega), ← eg] at hh
    refine ⟨(), _, hh, fun a ha => (am_up_ne _ _ _ _ ha).trans (i1 a ha), fun p hp => ?_⟩
    by_cases e : p = k
    · subst e; rw [hf, Int.toNat_natCast, am_up_at]
    · have hne : o p ≠ o k := fun h => e (hP.2 p k (by omega) hk h)
      have hop := hP.1 p (by omega)
      rw [am_up_nj _ _ _ _ (by omega)]; exact i2 p (by omega)) n 0 (by omega) () M ⟨fun _ _ => rfl, fun p hp => by omega⟩
  refine ⟨M1, ?_, i1, fun f hf => ?_⟩
  · rw [e_WeekPlan_followOn]
    refine h1.trans ?_
    rw [e_WeekPlan_followOn_4, i1 0 (by decide), hc, if_neg (by omega)]
  · obtain ⟨p1, p2⟩ := pl_o hP hf
    have := i2 (pl o n f) p1
    rw [p2, Int.toNat_natCast] at this
    exact this
/-- what the class's Told must hold for a week -/
def cQ (s : Nat → Int) (M : am_M) : Prop := cC s M ∧ cL s M ∧ cE s M ∧ (∀ f : Nat, (f : Int) < s 1 → M 6 f = s (43 + 4 * f) ∧ M 7 f = s (44 + 4 * f) ∧ M 8 f = s (45 + 4 * f)) ∧ (M 10 1 = s 6 ∧ M 10 2 = s 7 ∧ M 10 3 = s 8 ∧ M 10 6 = s 11)
theorem cQ_of {s s' : Nat → Int} {M : am_M} (hv : vT s) (hc : cT s M 0) (hk : kT M 0) (he : md s s') : cQ s' M := by
  have e1 : s' 1 = s 1 := he 1 (by omega) (by omega) (by omega)
  have e3 : s' 3 = s 3 := he 3 (by omega) (by omega) (by omega)
  refine ⟨cC_of hv hc he, cL_of hv hc hk (fun i h1 h2 h3 => he i h1 h2 (by omega)), ?_, ?_, ?_⟩
  · obtain ⟨c0, c1, c2, c3, c4, hset, hz, hr, hf, ho, hs, hl', hh⟩ := hc
    exact ⟨by rw [e3]; exact c3, hk.2.1.2, fun k hk j hj => by rw [he _ (by omega) (by omega) (by omega)]; rw [e3] at hk; exact hl' k hk j hj⟩
  · obtain ⟨c0, c1, c2, c3, c4, hset, hz, hr, hf, -⟩ := hc
    intro f hf'
    rw [e1] at hf'
    rw [he _ (by omega) (by omega) (by omega), he _ (by omega) (by omega) (by omega), he _ (by omega) (by omega) (by omega)]
    exact (hf f hf').2
  · have hset := hc.2.2.2.2.2.1
    rw [he 6 (by omega) (by omega) (by omega), he 7 (by omega) (by omega) (by omega), he 8 (by omega) (by omega) (by omega), he 11 (by omega) (by omega) (by omega)]
    exact ⟨hset 1 (by omega), hset 2 (by omega), hset 3 (by omega), hset 6 (by omega)⟩
theorem cQ_eq {s : Nat → Int} {M M' : am_M} (h : cQ s M) (e : ∀ a, a ≤ 16 → M' a = M a) : cQ s M' := by
  refine ⟨cC_eq h.1 (e 0 (by omega)) (e 1 (by omega)) (e 2 (by omega)) (e 5 (by omega)), cL_eq h.2.1 e, cE_eq h.2.2.1 e, ?_, ?_⟩
  · rw [e 6 (by omega), e 7 (by omega), e 8 (by omega)]; exact h.2.2.2.1
  · rw [e 10 (by omega)]; exact h.2.2.2.2
/-- the class has a week reckoned -/
def CW (s o : Nat → Int) (n w : Nat) (M : am_M) : Prop := (∀ f, f < n → M 48 f = fF s o n f ∧ M 49 f = dF s o n f ∧ M 50 f = shr s o n f ∧ M 52 f = trn s o n f) ∧ M 46 13 = nets s o n n ∧ M 46 14 = fls s o n n ∧ (fls s o n n = 0 → (∀ f, f < n → M 53 f = lF s o n w f ∧ M 54 f = bF s o n w f) ∧ M 46 12 = ((bts (lnt s o n w) (s 3).toNat : Nat) : Int))
theorem p_reckon (M : am_M) (s o : Nat → Int) (n w : Nat) (hv : vT s) (hn : s 1 = (n : Int)) (hP : isP n o) (hQ : cQ s M) (hN : CN s M) (hw : M 46 3 = (w : Int)) (ho : ∀ p, p < n → M 47 p = o p) : ∃ M', cY 259 [rV 46] M = some (0, M') ∧ (∀ a, a < 46 ∨ a = 47 ∨ 54 < a → M' a = M a) ∧ M' 46 3 = (w : Int) ∧ CW s o n w M' := by
  have hb1 := hv.2.1
  have hb3 := hv.2.2.2.1
  have e04 : M 0 4 = (n : Int) := by rw [hQ.1.1, hn]
  obtain ⟨M1, a1, a2, a3, a4, a5⟩ := p_fitCourse M s o n hv hn hQ.1 ho hP
  obtain ⟨M2, b1, b2, b3⟩ := p_shareOut M1 s o n hv hn (by rw [a2 0 (by decide) (by decide) (by decide)]; exact e04) (CN_eq hN (a2 40 (by decide) (by decide) (by decide)) (a2 41 (by decide) (by decide) (by decide)) (a2 42 (by decide) (by decide) (by decide))) (fun p hp => by rw [a2 47 (by decide) (by decide) (by decide)]; exact ho p hp) hP a4
  have hf2 : ∀ f, f < n → M2 48 f = fF s o n f ∧ M2 49 f = dF s o n f ∧ M2 50 f = shr s o n f := fun f hf => by
    obtain ⟨p1, p2⟩ := pl_o hP hf
    have := a5 (pl o n f) p1
    rw [p2, Int.toNat_natCast] at this
    rw [b2 48 (by decide) (by decide), b2 49 (by decide) (by decide)]
    exact ⟨this.1, this.2, b3 f hf⟩
  obtain ⟨M3, c1, c2, c3, c4, c5⟩ := p_takeTurns M2 s o n hv hn hP (by rw [b2 0 (by decide) (by decide), a2 0 (by decide) (by decide) (by decide)]; exact e04) hf2
  have k3 : ∀ a, a < 46 ∨ a = 47 ∨ 54 < a → M3 a = M a := fun a ha => by rw [c2 a (by omega) (by omega) (by omega), b2 a (by omega) (by omega), a2 a (by omega) (by omega) (by omega)]
  have k46 : ∀ j, j ≠ 13 → j ≠ 14 → M3 46 j = M 46 j := fun j x1 x2 => by rw [c3 j x2, b2 46 (by decide) (by decide), a3 j x1]
  have hf3 : ∀ f, f < n → M3 48 f = fF s o n f ∧ M3 49 f = dF s o n f ∧ M3 50 f = shr s o n f ∧ M3 52 f = trn s o n f := fun f hf => by
    rw [c2 48 (by decide) (by decide) (by decide), c2 49 (by decide) (by decide) (by decide), c2 50 (by decide) (by decide) (by decide)]
    obtain ⟨x1, x2, x3⟩ := hf2 f hf
    exact ⟨x1, x2, x3, (c5 f hf).1⟩
  have e13 : M3 46 13 = nets s o n n := by rw [c3 13 (by decide), b2 46 (by decide) (by decide), a4]
  rw [e_WeekPlan_reckon, a1, am_cb_s, b1, am_cb_s, c1, am_cb_s, c4]
  have u : ∀ a, a ≠ 46 → (am_up M3 46 12 0) a = M3 a := fun a ha => am_up_ne _ _ _ _ ha
  by_cases q : fls s o n n = 0
  · have h0 := fls_0 n q
    obtain ⟨M4, d1, d2, d3, d4, d5⟩ := p_passLends (am_up M3 46 12 0) s o n w hv hn hP (cE_eq hQ.2.2.1 (fun a ha => by rw [u a (by omega), k3 a (by omega)])) (by rw [am_up_nj _ _ _ _ (by decide), k46 3 (by decide) (by decide)]; exact hw) (fun f hf => by rw [u 48 (by decide), u 53 (by decide)]; exact ⟨(hf3 f hf).1, (c5 f hf).2⟩) h0 (am_up_at _ _ _ _)
    have k4 : ∀ a, a < 46 ∨ a = 47 ∨ 54 < a → M4 a = M a := fun a ha => by rw [d2 a (by omega) (by omega), u a (by omega), k3 a ha]
    obtain ⟨M5, f1, f2, f3⟩ := p_followOn M4 o (lF s o n w) n (by omega) hP (by rw [k4 0 (by omega)]; exact e04) (fun p hp => by rw [k4 47 (by omega)]; exact ho p hp) (fun f hf => ⟨d5 f hf, by have := lns_bd hv hn hP w h0 (k := (s 3).toNat) (by omega) hf; unfold lF; omega⟩)
    refine ⟨M5, by rw [if_pos q, d1, am_cb_s, f1, am_cb_s], fun a ha => by rw [f2 a (by omega), k4 a ha], ?_, fun f hf => ?_, ?_, ?_, fun _ => ⟨fun f hf => ⟨?_, f3 f hf⟩, ?_⟩⟩
    · rw [f2 46 (by decide), d3 3 (by decide), am_up_nj _ _ _ _ (by decide), k46 3 (by decide) (by decide)]; exact hw
    · rw [f2 48 (by decide), f2 49 (by decide), f2 50 (by decide), f2 52 (by decide), d2 48 (by decide) (by decide), d2 49 (by decide) (by decide), d2 50 (by decide) (by decide), d2 52 (by decide) (by decide), u 48 (by decide), u 49 (by decide), u 50 (by decide), u 52 (by decide)]
      exact hf3 f hf
    · rw [f2 46 (by decide), d3 13 (by decide), am_up_nj _ _ _ _ (by decide)]; exact e13
    · rw [f2 46 (by decide), d3 14 (by decide), am_up_nj _ _ _ _ (by decide)]; exact c4
    · rw [f2 53 (by decide)]; exact d5 f hf
    · rw [f2 46 (by decide)]; exact d4
  · refine ⟨am_up M3 46 12 0, by rw [if_neg q], fun a ha => by rw [u a (by omega), k3 a ha], ?_, fun f hf => ?_, ?_, ?_, fun h => absurd h q⟩
    · rw [am_up_nj _ _ _ _ (by decide), k46 3 (by decide) (by decide)]; exact hw
    · rw [u 48 (by decide), u 49 (by decide), u 50 (by decide), u 52 (by decide)]; exact hf3 f hf
    · rw [am_up_nj _ _ _ _ (by decide)]; exact e13
    · rw [am_up_nj _ _ _ _ (by decide)]; exact c4
