-- how few payments settle
def ssm (g : Nat → Int) (S : Nat) : Nat → Int
  | 0 => 0
  | f + 1 => ssm g S f + if S.testBit f = true then g f else 0
def mxg (T : Nat → Int) (S : Nat) : Nat → Int
  | 0 => 0
  | f + 1 => if S.testBit f = true then max (mxg T S f) (T (S ^^^ 2 ^ f)) else mxg T S f
def tbs (m : Nat) (g : Nat → Int) : Nat → Nat → Int
  | 0 => fun _ => 0
  | K + 1 => us (tbs m g K) K (if K = 0 then 0 else mxg (tbs m g K) K m + if ssm g K m = 0 then 1 else 0)
def gps (m : Nat) (g : Nat → Int) (S : Nat) : Int := tbs m g (S + 1) S
theorem x_lt : ∀ (S : Fin 256) (f : Fin 8), S.val.testBit f.val = true → S.val ^^^ 2 ^ f.val < S.val := by decide +kernel
theorem tbs_st (m : Nat) (g : Nat → Int) (S : Nat) : ∀ j, tbs m g (S + 1 + j) S = gps m g S := by
  intro j
  induction j with
  | zero => rfl
  | succ j ih =>
    show us (tbs m g (S + 1 + j)) (S + 1 + j) _ S = _
    rw [us_ne _ _ _ (by omega)]
    exact ih
theorem mxg_eq {T U : Nat → Int} {S : Nat} : ∀ m, (∀ f, f < m → S.testBit f = true → T (S ^^^ 2 ^ f) = U (S ^^^ 2 ^ f)) → mxg T S m = mxg U S m := by
  intro m
  induction m with
  | zero => intro _; rfl
  | succ m ih =>
    intro h
    show (if S.testBit m = true then max (mxg T S m) (T (S ^^^ 2 ^ m)) else mxg T S m) = if S.testBit m = true then max (mxg U S m) (U (S ^^^ 2 ^ m)) else mxg U S m
    rw [ih (fun f hf => h f (by omega))]
    by_cases c : S.testBit m = true
    · rw [if_pos c, if_pos c, h m (by omega) c]
    · rw [if_neg c, if_neg c]
theorem gps_0 (m : Nat) (g : Nat → Int) : gps m g 0 = 0 := by
  have h : gps m g 0 = us (tbs m g 0) 0 (if (0 : Nat) = 0 then 0 else mxg (tbs m g 0) 0 m + if ssm g 0 m = 0 then 1 else 0) 0 := rfl
  rw [h, us_at]
  rfl
theorem gps_s {m : Nat} (hm : m ≤ 8) (g : Nat → Int) {S : Nat} (h0 : S ≠ 0) (hS : S < 256) : gps m g S = mxg (gps m g) S m + if ssm g S m = 0 then 1 else 0 := by
  show us (tbs m g S) S _ S = _
  rw [us_at, if_neg h0]
  rw [mxg_eq (U := gps m g) m (fun f hf hb => by
    have hx := x_lt ⟨S, hS⟩ ⟨f, by omega⟩ hb
    have hx : S ^^^ 2 ^ f < S := hx
    have := tbs_st m g (S ^^^ 2 ^ f) (S - ((S ^^^ 2 ^ f) + 1))
    rw [show (S ^^^ 2 ^ f) + 1 + (S - ((S ^^^ 2 ^ f) + 1)) = S by omega] at this
    exact this)]
/-- mxg is the most of them, or 0 -/
theorem mxg_ge {T : Nat → Int} {S : Nat} : ∀ m, 0 ≤ mxg T S m ∧ ∀ f, f < m → S.testBit f = true → T (S ^^^ 2 ^ f) ≤ mxg T S m := by
  intro m
  induction m with
  | zero => exact ⟨Int.le_refl 0, fun f hf => by omega⟩
  | succ m ih =>
    obtain ⟨i1, i2⟩ := ih
    show 0 ≤ (if S.testBit m = true then max (mxg T S m) (T (S ^^^ 2 ^ m)) else mxg T S m) ∧ ∀ f, f < m + 1 → S.testBit f = true → T (S ^^^ 2 ^ f) ≤ (if S.testBit m = true then max (mxg T S m) (T (S ^^^ 2 ^ m)) else mxg T S m)
    by_cases c : S.testBit m = true
    · rw [if_pos c]
      refine ⟨by omega, fun f hf hb => ?_⟩
      by_cases e : f = m
      · subst e; omega
      · have := i2 f (by omega) hb; omega
    · rw [if_neg c]
      refine ⟨i1, fun f hf hb => ?_⟩
      by_cases e : f = m
      · subst e; exact absurd hb c
      · exact i2 f (by omega) hb
theorem mxg_at {T : Nat → Int} {S : Nat} : ∀ m, mxg T S m = 0 ∨ ∃ f, f < m ∧ S.testBit f = true ∧ mxg T S m = T (S ^^^ 2 ^ f) := by
  intro m
  induction m with
  | zero => exact Or.inl rfl
  | succ m ih =>
    show (if S.testBit m = true then max (mxg T S m) (T (S ^^^ 2 ^ m)) else mxg T S m) = 0 ∨ ∃ f, f < m + 1 ∧ S.testBit f = true ∧ (if S.testBit m = true then max (mxg T S m) (T (S ^^^ 2 ^ m)) else mxg T S m) = T (S ^^^ 2 ^ f)
    by_cases c : S.testBit m = true
    · rw [if_pos c]
      by_cases d : mxg T S m ≤ T (S ^^^ 2 ^ m)
      · exact Or.inr ⟨m, by omega, c, by omega⟩
      · rcases ih with h | ⟨f, f1, f2, f3⟩
        · left; omega
        · exact Or.inr ⟨f, by omega, f2, by omega⟩
    · rw [if_neg c]
      rcases ih with h | ⟨f, f1, f2, f3⟩
      · exact Or.inl h
      · exact Or.inr ⟨f, by omega, f2, f3⟩
theorem gps_bd {m : Nat} (hm : m ≤ 8) (g : Nat → Int) : ∀ B S : Nat, S ≤ B → S < 256 → 0 ≤ gps m g S ∧ gps m g S ≤ (S : Int) := by
  intro B
  induction B with
  | zero =>
    intro S h1 h2
    have e : S = 0 := by omega
    subst e
    rw [gps_0]
    omega
  | succ B ih =>
    intro S h1 h2
    by_cases e : S = 0
    · subst e
      rw [gps_0]
      omega
    · rw [gps_s hm g e h2]
      have h3 := (mxg_ge (T := gps m g) (S := S) m).1
      have h4 : mxg (gps m g) S m ≤ (S : Int) - 1 := by
        rcases mxg_at (T := gps m g) (S := S) m with h | ⟨f, f1, f2, f3⟩
        · omega
        · have hx : S ^^^ 2 ^ f < S := x_lt ⟨S, h2⟩ ⟨f, by omega⟩ f2
          have := (ih (S ^^^ 2 ^ f) (by omega) (by omega)).2
          omega
      split <;> omega
theorem ssm_x {g : Nat → Int} {S f : Nat} (hb : S.testBit f = true) : ∀ m, ssm g (S ^^^ 2 ^ f) m + (if f < m then g f else 0) = ssm g S m := by
  intro m
  induction m with
  | zero => rw [if_neg (by omega)]; rfl
  | succ m ih =>
    show ssm g (S ^^^ 2 ^ f) m + (if (S ^^^ 2 ^ f).testBit m = true then g m else 0) + (if f < m + 1 then g f else 0) = ssm g S m + (if S.testBit m = true then g m else 0)
    rw [← ih, Nat.testBit_xor, Nat.testBit_two_pow]
    by_cases e : f = m
    · subst e
      rw [hb, decide_eq_true rfl, if_neg (by decide), if_pos (by omega), if_neg (by omega), if_pos rfl]
    · rw [decide_eq_false e, Bool.xor_false]
      generalize (if S.testBit m = true then g m else (0 : Int)) = z
      by_cases c : f < m
      · rw [if_pos c, if_pos (by omega)]; omega
      · rw [if_neg c, if_neg (by omega)]; omega
theorem ssm_bd {g : Nat → Int} {S : Nat} {B : Int} (hB : 0 ≤ B) : ∀ m : Nat, (∀ f, f < m → -B ≤ g f ∧ g f ≤ B) → -(B * (m : Int)) ≤ ssm g S m ∧ ssm g S m ≤ B * (m : Int) := by
  intro m
  induction m with
  | zero => intro _; show -(B * ((0 : Nat) : Int)) ≤ 0 ∧ (0 : Int) ≤ B * ((0 : Nat) : Int); rw [show ((0 : Nat) : Int) = 0 from rfl, Int.mul_zero]; omega
  | succ m ih =>
    intro h
    have h1 := ih (fun f hf => h f (by omega))
    have h2 := h m (by omega)
    show -(B * ((m + 1 : Nat) : Int)) ≤ ssm g S m + (if S.testBit m = true then g m else 0) ∧ ssm g S m + (if S.testBit m = true then g m else 0) ≤ B * ((m + 1 : Nat) : Int)
    rw [show ((m + 1 : Nat) : Int) = (m : Int) + 1 from rfl, Int.mul_add, Int.mul_one]
    split <;> omega
theorem ssm_low {g : Nat → Int} {n : Nat} (h0 : ∀ f, n ≤ f → g f = 0) (S : Nat) : ∀ j, ssm g S (n + j) = ssm g (S % 2 ^ n) n := by
  have L : ∀ m, m ≤ n → ssm g S m = ssm g (S % 2 ^ n) m := by
    intro m
    induction m with
    | zero => intro _; rfl
    | succ m ih =>
      intro hm
      show ssm g S m + (if S.testBit m = true then g m else 0) = ssm g (S % 2 ^ n) m + (if (S % 2 ^ n).testBit m = true then g m else 0)
      rw [ih (by omega), Nat.testBit_mod_two_pow, decide_eq_true (show m < n by omega), Bool.true_and]
  intro j
  induction j with
  | zero => exact L n (by omega)
  | succ j ih =>
    show ssm g S (n + j) + (if S.testBit (n + j) = true then g (n + j) else 0) = _
    rw [ih, h0 (n + j) (by omega)]
    split <;> omega
def pct (S : Nat) : Nat := S % 2 + S / 2 % 2 + S / 4 % 2 + S / 8 % 2 + S / 16 % 2 + S / 32 % 2 + S / 64 % 2 + S / 128 % 2
theorem f_low : ∀ (n : Fin 9) (S : Fin 256) (f : Fin 8), S.val.testBit f.val = true → f.val < n.val → (S.val ^^^ 2 ^ f.val) % 2 ^ n.val = (S.val % 2 ^ n.val) ^^^ 2 ^ f.val ∧ (S.val % 2 ^ n.val).testBit f.val = true ∧ pct ((S.val ^^^ 2 ^ f.val) / 2 ^ n.val) = pct (S.val / 2 ^ n.val) := by decide +kernel
theorem f_high : ∀ (n : Fin 9) (S : Fin 256) (f : Fin 8), S.val.testBit f.val = true → n.val ≤ f.val → (S.val ^^^ 2 ^ f.val) % 2 ^ n.val = S.val % 2 ^ n.val ∧ pct ((S.val ^^^ 2 ^ f.val) / 2 ^ n.val) + 1 = pct (S.val / 2 ^ n.val) := by decide +kernel
theorem f_lowx : ∀ (n : Fin 9) (S : Fin 256) (f : Fin 8), (S.val % 2 ^ n.val).testBit f.val = true → S.val.testBit f.val = true ∧ f.val < n.val := by decide +kernel
theorem f_one : ∀ (n : Fin 9) (S : Fin 256), S.val ≠ 0 → S.val % 2 ^ n.val = 0 → 1 ≤ pct (S.val / 2 ^ n.val) := by decide +kernel
theorem f_ex : ∀ (n : Fin 9) (S : Fin 256), 1 ≤ pct (S.val / 2 ^ n.val) → ∃ f : Fin 8, n.val ≤ f.val ∧ S.val.testBit f.val = true := by decide +kernel
theorem f_bit : ∀ (S : Fin 256), S.val ≠ 0 → ∃ f : Fin 8, S.val.testBit f.val = true := by decide +kernel
theorem f_top : ∀ n : Fin 9, 255 % 2 ^ n.val = 2 ^ n.val - 1 ∧ pct (255 / 2 ^ n.val) = 8 - n.val ∧ 2 ^ n.val - 1 < 256 := by decide +kernel
theorem f_hi : ∀ (n : Fin 9) (S : Fin 256) (f : Fin 8), S.val < 2 ^ n.val → S.val.testBit f.val = true → f.val < n.val := by decide +kernel
/-- those that owe nothing are a group each -/
theorem gps_8 {g : Nat → Int} {n : Nat} (hn : n ≤ 8) (h0 : ∀ f, n ≤ f → g f = 0) : ∀ B S : Nat, S ≤ B → S < 256 → gps 8 g S = gps n g (S % 2 ^ n) + (pct (S / 2 ^ n) : Int) := by
  intro B
  induction B with
  | zero =>
    intro S h1 h2
    have e : S = 0 := by omega
    subst e
    rw [gps_0, Nat.zero_mod, gps_0, Nat.zero_div]
    rfl
  | succ B ih =>
    intro S h1 h2
    by_cases e : S = 0
    · subst e
      rw [gps_0, Nat.zero_mod, gps_0, Nat.zero_div]
      rfl
    · have hlo : S % 2 ^ n < 256 := Nat.lt_of_le_of_lt (Nat.mod_le _ _) h2
      have hs : ssm g S 8 = ssm g (S % 2 ^ n) n := by
        have := ssm_low h0 S (8 - n)
        rw [show n + (8 - n) = 8 by omega] at this
        exact this
      have lowf : ∀ f, f < 8 → S.testBit f = true → f < n → gps 8 g (S ^^^ 2 ^ f) = gps n g ((S % 2 ^ n) ^^^ 2 ^ f) + (pct (S / 2 ^ n) : Int) ∧ (S % 2 ^ n).testBit f = true := fun f hf hb hfn => by
        obtain ⟨x1, x2, x3⟩ := f_low ⟨n, by omega⟩ ⟨S, h2⟩ ⟨f, hf⟩ hb hfn
        have hx : S ^^^ 2 ^ f < S := x_lt ⟨S, h2⟩ ⟨f, hf⟩ hb
        have x1 : (S ^^^ 2 ^ f) % 2 ^ n = (S % 2 ^ n) ^^^ 2 ^ f := x1
        have x3 : pct ((S ^^^ 2 ^ f) / 2 ^ n) = pct (S / 2 ^ n) := x3
        rw [ih (S ^^^ 2 ^ f) (by omega) (by omega), x1, x3]
        exact ⟨rfl, x2⟩
      have highf : ∀ f, f < 8 → S.testBit f = true → n ≤ f → gps 8 g (S ^^^ 2 ^ f) + 1 = gps n g (S % 2 ^ n) + (pct (S / 2 ^ n) : Int) := fun f hf hb hfn => by
        obtain ⟨x1, x2⟩ := f_high ⟨n, by omega⟩ ⟨S, h2⟩ ⟨f, hf⟩ hb hfn
        have hx : S ^^^ 2 ^ f < S := x_lt ⟨S, h2⟩ ⟨f, hf⟩ hb
        have x1 : (S ^^^ 2 ^ f) % 2 ^ n = S % 2 ^ n := x1
        have x2 : pct ((S ^^^ 2 ^ f) / 2 ^ n) + 1 = pct (S / 2 ^ n) := x2
        rw [ih (S ^^^ 2 ^ f) (by omega) (by omega), x1]
        omega
      obtain ⟨u1, u2⟩ := mxg_ge (T := gps 8 g) (S := S) 8
      have u3 := mxg_at (T := gps 8 g) (S := S) 8
      have hex : ∃ f, f < 8 ∧ S.testBit f = true := by
        obtain ⟨f, hf⟩ := f_bit ⟨S, h2⟩ e
        exact ⟨f.val, f.isLt, hf⟩
      have gl := (gps_bd hn g _ (S % 2 ^ n) (Nat.le_refl _) hlo).1
      rw [gps_s (Nat.le_refl 8) g e h2, hs]
      by_cases q : S % 2 ^ n = 0
      · have p1 : 1 ≤ pct (S / 2 ^ n) := f_one ⟨n, by omega⟩ ⟨S, h2⟩ e q
        have all : ∀ f, f < 8 → S.testBit f = true → gps 8 g (S ^^^ 2 ^ f) + 1 = (pct (S / 2 ^ n) : Int) := fun f hf hb => by
          have : n ≤ f := by
            rcases (by omega : f < n ∨ n ≤ f) with c | c
            · have := (lowf f hf hb c).2
              rw [q, Nat.zero_testBit] at this
              cases this
            · exact c
          have h3 := highf f hf hb this
          rw [q, gps_0] at h3
          omega
        rw [q, gps_0]
        have z : ssm g 0 n = 0 := by
          have L : ∀ m, ssm g 0 m = 0 := by
            intro m
            induction m with
            | zero => rfl
            | succ m ih =>
              show ssm g 0 m + (if (0 : Nat).testBit m = true then g m else 0) = 0
              rw [ih, Nat.zero_testBit, if_neg (by decide)]
              rfl
          exact L n
        rw [z, if_pos rfl]
        obtain ⟨f0, f1, f2⟩ := hex
        have h4 := all f0 f1 f2
        have h5 := u2 f0 f1 f2
        rcases u3 with h | ⟨f, f3, f4, f5⟩
        · omega
        · have := all f f3 f4; omega
      · obtain ⟨v1, v2⟩ := mxg_ge (T := gps n g) (S := S % 2 ^ n) n
        have v3 := mxg_at (T := gps n g) (S := S % 2 ^ n) n
        have hT := gps_s hn g q hlo
        have lowx : ∀ f, f < n → (S % 2 ^ n).testBit f = true → gps 8 g (S ^^^ 2 ^ f) = gps n g ((S % 2 ^ n) ^^^ 2 ^ f) + (pct (S / 2 ^ n) : Int) ∧ S.testBit f = true := fun f hf hb => by
          obtain ⟨y1, y2⟩ := f_lowx ⟨n, by omega⟩ ⟨S, h2⟩ ⟨f, by omega⟩ hb
          exact ⟨(lowf f (by omega) y1 hf).1, y1⟩
        have hexl : ∃ f, f < n ∧ (S % 2 ^ n).testBit f = true := by
          obtain ⟨f, hf⟩ := f_bit ⟨S % 2 ^ n, hlo⟩ q
          obtain ⟨y1, y2⟩ := f_lowx ⟨n, by omega⟩ ⟨S, h2⟩ f hf
          exact ⟨f.val, y2, hf⟩
        -- the most of the low ones
        have eq1 : mxg (gps 8 g) S 8 = mxg (gps n g) (S % 2 ^ n) n + (pct (S / 2 ^ n) : Int) := by
          have up : mxg (gps 8 g) S 8 ≤ mxg (gps n g) (S % 2 ^ n) n + (pct (S / 2 ^ n) : Int) := by
            rcases u3 with h | ⟨f, f3, f4, f5⟩
            · omega
            · rcases (by omega : f < n ∨ n ≤ f) with c | c
              · obtain ⟨w1, w2⟩ := lowf f f3 f4 c
                have := v2 f c w2
                omega
              · have h6 := highf f f3 f4 c
                rw [hT] at h6
                split at h6 <;> omega
          have dn : mxg (gps n g) (S % 2 ^ n) n + (pct (S / 2 ^ n) : Int) ≤ mxg (gps 8 g) S 8 := by
            rcases v3 with h | ⟨f, f3, f4, f5⟩
            · obtain ⟨f, f3, f4⟩ := hexl
              obtain ⟨w1, w2⟩ := lowx f f3 f4
              have h6 := u2 f (by omega) w2
              have hx : (S % 2 ^ n) ^^^ 2 ^ f < S % 2 ^ n := x_lt ⟨S % 2 ^ n, hlo⟩ ⟨f, by omega⟩ f4
              have h7 := (gps_bd hn g _ ((S % 2 ^ n) ^^^ 2 ^ f) (Nat.le_refl _) (by omega)).1
              omega
            · obtain ⟨w1, w2⟩ := lowx f f3 f4
              have h6 := u2 f (by omega) w2
              omega
          omega
        rw [eq1, hT]
        omega
theorem settle_eq {g : Nat → Int} {n : Nat} (hn : n ≤ 8) (h0 : ∀ f, n ≤ f → g f = 0) : 8 - gps 8 g 255 = (n : Int) - gps n g (2 ^ n - 1) := by
  obtain ⟨t1, t2, t3⟩ := f_top ⟨n, by omega⟩
  have t1 : 255 % 2 ^ n = 2 ^ n - 1 := t1
  have t2 : pct (255 / 2 ^ n) = 8 - n := t2
  rw [gps_8 hn h0 255 255 (by omega) (by omega), t1, t2]
  omega
-- the programs
theorem b_xorf : ∀ (S : Fin 256) (f : Fin 8), am_xor (S.val : Int) (am_shl 1 (f.val : Int)) = ((S.val ^^^ 2 ^ f.val : Nat) : Int) := by decide +kernel
theorem b_andn : ∀ (S : Fin 256) (f : Fin 8), S.val.testBit f.val = true → am_and (S.val : Int) (am_xor (am_shl 1 (f.val : Int)) (-1)) = ((S.val ^^^ 2 ^ f.val : Nat) : Int) := by decide +kernel
theorem ssm_0 (g : Nat → Int) : ∀ m, ssm g 0 m = 0 := by
  intro m
  induction m with
  | zero => rfl
  | succ m ih =>
    show ssm g 0 m + (if (0 : Nat).testBit m = true then g m else 0) = 0
    rw [ih, Nat.zero_testBit, if_neg (by decide)]
    rfl
theorem p_fewest (M : am_M) (g : Nat → Int) (n : Nat) (hn : n ≤ 8) (hg : ∀ f, f < n → M 71 f = g f ∧ -12000 ≤ g f ∧ g f ≤ 12000) : ∃ M', cY 237 [rV 67, rV 71, iV (n : Int)] M = some ((n : Int) - gps n g (2 ^ n - 1), M') ∧ ∀ a, a ≠ 68 → a ≠ 69 → M' a = M a := by
  have hsh : am_shl 1 (n : Int) = ((2 ^ n : Nat) : Int) := b_shl ⟨n, by omega⟩
  have hp1 : 1 ≤ 2 ^ n := Nat.one_le_two_pow
  have hp2 : 2 ^ n ≤ 2 ^ 8 := Nat.pow_le_pow_right (by omega) hn
  have hhi : ∀ S f, S < 2 ^ n → f < 8 → S.testBit f = true → f < n := fun S f h1 h2 h3 => f_hi ⟨n, by omega⟩ ⟨S, by omega⟩ ⟨f, h2⟩ h1 h3
  generalize 2 ^ n = P at hsh hp1 hp2 hhi ⊢
  have hsb : ∀ S, -96000 ≤ ssm g S n ∧ ssm g S n ≤ 96000 := fun S => by
    have := ssm_bd (g := g) (S := S) (B := 12000) (by omega) n (fun f hf => (hg f hf).2)
    omega
  have e0 : ∀ a, a ≠ 68 → a ≠ 69 → (am_up (am_up M 68 0 0) 69 0 0) a = M a := fun a x1 x2 => by rw [am_up_ne _ _ _ _ x2, am_up_ne _ _ _ _ x1]
  obtain ⟨d', M1, h1, i1, i2⟩ := lp_up (α := Option am_V × Option am_V × Option am_V) (X := fun K d M => cX 237 18 [some (rV 67), some (rV 71), some (iV (n : Int)), some (iV ((P : Int) - 1)), some (iV ((K + 1 : Nat) : Int)), d.1, d.2.1, d.2.2] [] M) (n := P - 1) (I := fun K M' => (∀ a, a ≠ 68 → a ≠ 69 → M' a = M a) ∧ ∀ S, S < K + 1 → M' 68 S = ssm g S n ∧ M' 69 S = gps n g S) (by
    intro K hK d M' hI
    obtain ⟨i1, i2⟩ := hI
    obtain ⟨S, hS⟩ : ∃ S, K + 1 = S := ⟨_, rfl⟩
    rw [hS] at i2 ⊢
    have hSb : ∃ f, f < n ∧ S.testBit f = true := by
      obtain ⟨f, hf⟩ := f_bit ⟨S, by omega⟩ (by show S ≠ 0; omega)
      exact ⟨f.val, hhi S f.val (by omega) f.isLt hf, hf⟩
    have hgb := fun x (hx : x < 256) => gps_bd hn g x x (Nat.le_refl _) hx
    obtain ⟨d7, M2, h2, j1, j2, j3⟩ := lp_up (α := Option am_V) (X := fun f d M => cX 237 25 [some (rV 67), some (rV 71), some (iV (n : Int)), some (iV ((P : Int) - 1)), some (iV (S : Int)), some (iV (mxg (gps n g) S f)), some (iV (f : Int)), d] [] M) (n := n) (I := fun k M2 => (∀ a, a ≠ 68 → M2 a = M' a) ∧ (∀ x, x ≠ S → M2 68 x = M' 68 x) ∧ ((∃ f, f < k ∧ S.testBit f = true) → M2 68 S = ssm g S n)) (by
      intro f hf d M2 hI
      obtain ⟨j1, j2, j3⟩ := hI
      have hh := e_Settler_fewestPayments_25 (n : Int) ((P : Int) - 1) (S : Int) (mxg (gps n g) S f) (f : Int) d M2
      rw [if_pos (by omega), b_bit (by omega) (by omega)] at hh
      by_cases hb : S.testBit f = true
      · have hx : am_xor (S : Int) (am_shl 1 (f : Int)) = ((S ^^^ 2 ^ f : Nat) : Int) := b_xorf ⟨S, by omega⟩ ⟨f, by omega⟩
        have hlt : S ^^^ 2 ^ f < S := x_lt ⟨S, by omega⟩ ⟨f, by omega⟩ hb
        have es := ssm_x (g := g) hb n
        rw [if_pos hf] at es
        have em : mxg (gps n g) S (f + 1) = max (mxg (gps n g) S f) (gps n g (S ^^^ 2 ^ f)) := if_pos hb
        have q1 : M2 68 (S ^^^ 2 ^ f) = ssm g (S ^^^ 2 ^ f) n := by rw [j2 _ (by omega)]; exact (i2 _ hlt).1
        have q2 : M2 69 (S ^^^ 2 ^ f) = gps n g (S ^^^ 2 ^ f) := by rw [j1 69 (by decide)]; exact (i2 _ hlt).2
        have q3 : M2 71 f = g f := by rw [j1 71 (by decide), i1 71 (by decide) (by decide)]; exact (hg f hf).1
        have bS := hsb S
        rw [if_pos hb, if_pos rfl, hx, r_bd_ok (by omega) (by omega), r_bd_ok (by omega) (by omega), r_bd_ok (by omega) (by omega), Int.toNat_natCast, Int.toNat_natCast, q1, q2, q3, es, r_ck_ok (by omega) (by omega), r_bd_ok (by omega) (by omega), r_ck_ok (by omega) (by omega), Int.toNat_natCast, ← em] at hh
        exact ⟨_, _, hh, fun a ha => (am_up_ne _ _ _ _ ha).trans (j1 a ha), fun x hx => by rw [am_up_nj _ _ _ _ hx]; exact j2 x hx, fun _ => am_up_at _ _ _ _⟩
      · have em : mxg (gps n g) S (f + 1) = mxg (gps n g) S f := if_neg hb
        rw [if_neg hb, if_neg (by decide), r_ck_ok (by omega) (by omega)] at hh
        refine ⟨none, M2, by show _ = cX 237 25 [some (rV 67), some (rV 71), some (iV (n : Int)), some (iV ((P : Int) - 1)), some (iV (S : Int)), some (iV (mxg (gps n g) S (f + 1))), some (iV ((f + 1 : Nat) : Int)), none] [] M2; rw [em]; exact hh, j1, j2, fun hx => j3 ?_⟩
        obtain ⟨f', x1, x2⟩ := hx
        by_cases e : f' = f
        · subst e; exact absurd x2 hb
        · exact ⟨f', by omega, x2⟩) n 0 (by omega) none M' ⟨fun _ _ => rfl, fun _ _ => rfl, fun ⟨f, x1, _⟩ => by omega⟩
    have hh := e_Settler_fewestPayments_18 (n : Int) ((P : Int) - 1) (S : Int) d.1 d.2.1 d.2.2 M'
    rw [if_neg (by omega)] at hh
    have hh2 := hh.trans h2
    have q68 := j3 hSb
    have eT := gps_s hn g (show S ≠ 0 by omega) (show S < 256 by omega)
    have bT := hgb S (by omega)
    have bm := (mxg_ge (T := gps n g) (S := S) n).1
    have hh3 := e_Settler_fewestPayments_25 (n : Int) ((P : Int) - 1) (S : Int) (mxg (gps n g) S n) (n : Int) d7 M2
    rw [if_neg (by omega), r_bd_ok (by omega) (by omega), Int.toNat_natCast, q68] at hh3
    have fin : ∀ v, v = gps n g S → ∀ d : Option am_V × Option am_V × Option am_V, (cX 237 25 [some (rV 67), some (rV 71), some (iV (n : Int)), some (iV ((P : Int) - 1)), some (iV (S : Int)), some (iV (mxg (gps n g) S n)), some (iV (n : Int)), d7] [] M2 = cX 237 18 [some (rV 67), some (rV 71), some (iV (n : Int)), some (iV ((P : Int) - 1)), some (iV ((S : Int) + 1)), d.1, d.2.1, d.2.2] [] (am_up M2 69 S v)) → ∃ (d1 : Option am_V × Option am_V × Option am_V) (M3 : am_M), cX 237 18 [some (rV 67), some (rV 71), some (iV (n : Int)), some (iV ((P : Int) - 1)), some (iV (S : Int)), d1.1, d1.2.1, d1.2.2] [] M3 = cX 237 18 [some (rV 67), some (rV 71), some (iV (n : Int)), some (iV ((P : Int) - 1)), some (iV (S : Int)), d1.1, d1.2.1, d1.2.2] [] M3 := fun _ _ d _ => ⟨d, M2, rfl⟩
    have last : ∀ v, v = gps n g S → (∀ a, a ≠ 68 → a ≠ 69 → (am_up M2 69 S v) a = M a) ∧ ∀ x, x < S + 1 → (am_up M2 69 S v) 68 x = ssm g x n ∧ (am_up M2 69 S v) 69 x = gps n g x := fun v hv => by
      refine ⟨fun a x1 x2 => by rw [am_up_ne _ _ _ _ x2, j1 a x1, i1 a x1 x2], fun x hx => ?_⟩
      rw [am_up_ne _ _ _ _ (show 68 ≠ 69 by decide)]
      by_cases e : x = S
      · subst e; rw [am_up_at, q68, hv]; exact ⟨rfl, rfl⟩
      · rw [am_up_nj _ _ _ _ e, j2 x e, j1 69 (by decide)]; exact i2 x (by omega)
    by_cases q : ssm g S n = 0
    · rw [if_pos q] at eT
      rw [if_pos q, r_ck_ok (by omega) (by omega), r_bd_ok (by omega) (by omega), r_ck_ok (by omega) (by omega)] at hh3
      exact ⟨(_, _, _), _, hh2.trans hh3, last _ eT.symm⟩
    · rw [if_neg q] at eT
      rw [if_neg q, r_bd_ok (by omega) (by omega), r_ck_ok (by omega) (by omega)] at hh3
      exact ⟨(_, _, _), _, hh2.trans hh3, last _ (by omega)⟩) (P - 1) 0 (by omega) (none, none, none) (am_up (am_up M 68 0 0) 69 0 0) ⟨e0, fun S hS => by
      have e : S = 0 := by omega
      subst e
      rw [am_up_ne _ _ _ _ (show 68 ≠ 69 by decide), am_up_at, am_up_at, ssm_0, gps_0]
      exact ⟨rfl, rfl⟩⟩
  have b1 := gps_bd hn g (P - 1) (P - 1) (Nat.le_refl _) (by omega)
  refine ⟨M1, ?_, i1⟩
  rw [e_Settler_fewestPayments, hsh, r_ck_ok (by omega) (by omega)]
  refine h1.trans ?_
  rw [e_Settler_fewestPayments_18, if_pos (by omega), r_bd_ok (by omega) (by omega), show ((P : Int) - 1).toNat = P - 1 by omega, (i2 (P - 1) (by omega)).2, r_ck_ok (by omega) (by omega)]
/-- what each is owed -/
def owd (s : Nat → Int) (n Wk : Nat) : Nat → Nat → Int
  | 0 => fun _ => 0
  | k + 1 => us (us (owd s n Wk k) (s (119 + 4 * k)).toNat (owd s n Wk k (s (119 + 4 * k)).toNat + lby s n Wk k)) (s (120 + 4 * k)).toNat (owd s n Wk k (s (120 + 4 * k)).toNat - lby s n Wk k)
theorem owd_bd {s : Nat → Int} (hv : vT s) {n : Nat} (hn : s 1 = (n : Int)) (Wk : Nat) : ∀ k : Nat, (k : Int) ≤ s 3 → ∀ f, (-(999 * (k : Int)) ≤ owd s n Wk k f ∧ owd s n Wk k f ≤ 999 * (k : Int)) ∧ (n ≤ f → owd s n Wk k f = 0) := by
  intro k
  induction k with
  | zero => intro _ f; exact ⟨by show -(999 * ((0 : Nat) : Int)) ≤ 0 ∧ (0 : Int) ≤ 999 * ((0 : Nat) : Int); omega, fun _ => rfl⟩
  | succ k ih =>
    intro hk f
    have hi := ih (by omega)
    have lb := lby_bd hv (n := n) (Wk := Wk) (k := k) (by omega)
    obtain ⟨a0, a1, a2, a3, a4⟩ := hv.2.2.2.2.2.2.2.2.2.2.1 k (by omega)
    show (-(999 * ((k + 1 : Nat) : Int)) ≤ us (us (owd s n Wk k) (s (119 + 4 * k)).toNat (owd s n Wk k (s (119 + 4 * k)).toNat + lby s n Wk k)) (s (120 + 4 * k)).toNat (owd s n Wk k (s (120 + 4 * k)).toNat - lby s n Wk k) f ∧ us (us (owd s n Wk k) (s (119 + 4 * k)).toNat (owd s n Wk k (s (119 + 4 * k)).toNat + lby s n Wk k)) (s (120 + 4 * k)).toNat (owd s n Wk k (s (120 + 4 * k)).toNat - lby s n Wk k) f ≤ 999 * ((k + 1 : Nat) : Int)) ∧ (n ≤ f → us (us (owd s n Wk k) (s (119 + 4 * k)).toNat (owd s n Wk k (s (119 + 4 * k)).toNat + lby s n Wk k)) (s (120 + 4 * k)).toNat (owd s n Wk k (s (120 + 4 * k)).toNat - lby s n Wk k) f = 0)
    by_cases c1 : f = (s (120 + 4 * k)).toNat
    · rw [← c1, us_at]
      have := (hi f).1
      exact ⟨by omega, fun h => by omega⟩
    · rw [us_ne _ _ _ c1]
      by_cases c2 : f = (s (119 + 4 * k)).toNat
      · rw [← c2, us_at]
        have := (hi f).1
        exact ⟨by omega, fun h => by omega⟩
      · rw [us_ne _ _ _ c2]
        have := (hi f).1
        exact ⟨by omega, (hi f).2⟩
theorem p_evens (M : am_M) (g : Nat → Int) (h0 : M 94 0 = 0) (hg : ∀ f, f < 8 → M 93 f = g f ∧ -12000 ≤ g f ∧ g f ≤ 12000) (d1 d3 d4 d5 d6 : Option am_V) : ∃ M', cX 169 90 [some (rV 72), d1, some (iV 1), d3, d4, d5, d6] [] M = some (8 - gps 8 g 255, M') ∧ (∀ a, a ≠ 94 → M' a = M a) ∧ M' 94 0 = 0 := by
  have hsb : ∀ S k, k ≤ 8 → -96000 ≤ ssm g S k ∧ ssm g S k ≤ 96000 := fun S k hk => by
    have := ssm_bd (g := g) (S := S) (B := 12000) (by omega) k (fun f hf => (hg f (by omega)).2)
    omega
  obtain ⟨d', M1, h1, i1, i2⟩ := lp_up (α := Option am_V × Option am_V × Option am_V × Option am_V × Option am_V) (X := fun K d M => cX 169 90 [some (rV 72), d.1, some (iV ((K + 1 : Nat) : Int)), d.2.1, d.2.2.1, d.2.2.2.1, d.2.2.2.2] [] M) (n := 255) (I := fun K M' => (∀ a, a ≠ 94 → M' a = M a) ∧ ∀ S, S < K + 1 → M' 94 S = gps 8 g S) (by
    intro K hK d M' hI
    obtain ⟨i1, i2⟩ := hI
    obtain ⟨S, hS⟩ : ∃ S, K + 1 = S := ⟨_, rfl⟩
    rw [hS] at i2 ⊢
    have hgb := fun x (hx : x < 256) => gps_bd (Nat.le_refl 8) g x x (Nat.le_refl _) hx
    have Li : ∀ (j f : Nat) (d1 d6 : Option am_V), f + j = 8 → ∃ d1' d6', cX 169 99 [some (rV 72), d1, some (iV (S : Int)), some (iV (ssm g S f)), some (iV (mxg (gps 8 g) S f)), some (iV (f : Int)), d6] [] M' = cX 169 99 [some (rV 72), d1', some (iV (S : Int)), some (iV (ssm g S 8)), some (iV (mxg (gps 8 g) S 8)), some (iV 8), d6'] [] M' := by
      intro j
      induction j with
      | zero => intro f d1 d6 hf; have e : f = 8 := by omega
                subst e; exact ⟨d1, d6, rfl⟩
      | succ j ih =>
        intro f d1 d6 hf
        have hh := e_Model_settles_99 (S : Int) (ssm g S f) (mxg (gps 8 g) S f) (f : Int) d1 d6 M'
        rw [if_pos (by omega), b_bit (by omega) (by omega)] at hh
        by_cases hb : S.testBit f = true
        · have hx : am_and (S : Int) (am_xor (am_shl 1 (f : Int)) (-1)) = ((S ^^^ 2 ^ f : Nat) : Int) := b_andn ⟨S, by omega⟩ ⟨f, by omega⟩ hb
          have hlt : S ^^^ 2 ^ f < S := x_lt ⟨S, by omega⟩ ⟨f, by omega⟩ hb
          have es : ssm g S (f + 1) = ssm g S f + g f := by show ssm g S f + (if S.testBit f = true then g f else 0) = _; rw [if_pos hb]
          have em : mxg (gps 8 g) S (f + 1) = max (mxg (gps 8 g) S f) (gps 8 g (S ^^^ 2 ^ f)) := if_pos hb
          have q3 : M' 93 f = g f := by rw [i1 93 (by decide)]; exact (hg f (by omega)).1
          have b1 := hsb S (f + 1) (by omega)
          rw [if_pos hb, if_neg (by decide), r_bd_ok (by omega) (by omega), Int.toNat_natCast, q3, ← es, r_ck_ok (by omega) (by omega), hx, r_bd_ok (by omega) (by omega), Int.toNat_natCast, i2 _ hlt] at hh
          by_cases q : mxg (gps 8 g) S f < gps 8 g (S ^^^ 2 ^ f)
          · obtain ⟨a, b, hi⟩ := ih (f + 1) none (some (iV (gps 8 g (S ^^^ 2 ^ f)))) (by omega)
            rw [em, show max (mxg (gps 8 g) S f) (gps 8 g (S ^^^ 2 ^ f)) = gps 8 g (S ^^^ 2 ^ f) by omega] at hi
            rw [if_pos q, r_ck_ok (by omega) (by omega)] at hh
            exact ⟨a, b, hh.trans hi⟩
          · obtain ⟨a, b, hi⟩ := ih (f + 1) none (some (iV (gps 8 g (S ^^^ 2 ^ f)))) (by omega)
            rw [em, show max (mxg (gps 8 g) S f) (gps 8 g (S ^^^ 2 ^ f)) = mxg (gps 8 g) S f by omega] at hi
            rw [if_neg q, r_ck_ok (by omega) (by omega)] at hh
            exact ⟨a, b, hh.trans hi⟩
        · have es : ssm g S (f + 1) = ssm g S f := by show ssm g S f + (if S.testBit f = true then g f else 0) = _; rw [if_neg hb, Int.add_zero]
          have em : mxg (gps 8 g) S (f + 1) = mxg (gps 8 g) S f := if_neg hb
          obtain ⟨a, b, hi⟩ := ih (f + 1) none none (by omega)
          rw [es, em] at hi
          rw [if_neg hb, if_pos rfl, r_ck_ok (by omega) (by omega)] at hh
          exact ⟨a, b, hh.trans hi⟩
    have hh := e_Model_settles_90 (S : Int) d.1 d.2.1 d.2.2.1 d.2.2.2.1 d.2.2.2.2 M'
    rw [if_pos (by omega)] at hh
    obtain ⟨a, b, hl⟩ := Li 8 0 none none (by omega)
    have eT := gps_s (Nat.le_refl 8) g (show S ≠ 0 by omega) (show S < 256 by omega)
    have bT := hgb S (by omega)
    have bm := (mxg_ge (T := gps 8 g) (S := S) 8).1
    have hh3 := e_Model_settles_99 (S : Int) (ssm g S 8) (mxg (gps 8 g) S 8) 8 a b M'
    rw [if_neg (by omega)] at hh3
    have last : ∀ v, v = gps 8 g S → (∀ a, a ≠ 94 → (am_up M' 94 S v) a = M a) ∧ ∀ x, x < S + 1 → (am_up M' 94 S v) 94 x = gps 8 g x := fun v hv => by
      refine ⟨fun a x1 => by rw [am_up_ne _ _ _ _ x1, i1 a x1], fun x hx => ?_⟩
      by_cases e : x = S
      · subst e; rw [am_up_at, hv]
      · rw [am_up_nj _ _ _ _ e]; exact i2 x (by omega)
    by_cases q : ssm g S 8 = 0
    · rw [if_pos q] at eT
      rw [if_pos q, r_ck_ok (by omega) (by omega), r_bd_ok (by omega) (by omega), r_ck_ok (by omega) (by omega), Int.toNat_natCast] at hh3
      exact ⟨(_, _, _, _, _), _, hh.trans (hl.trans hh3), last _ eT.symm⟩
    · rw [if_neg q] at eT
      rw [if_neg q, r_ck_ok (by omega) (by omega), r_bd_ok (by omega) (by omega), r_ck_ok (by omega) (by omega), Int.toNat_natCast] at hh3
      exact ⟨(_, _, _, _, _), _, hh.trans (hl.trans hh3), last _ eT.symm⟩) 255 0 rfl (d1, d3, d4, d5, d6) M ⟨fun _ _ => rfl, fun S hS => by
      have e : S = 0 := by omega
      subst e
      rw [gps_0]; exact h0⟩
  have b1 := gps_bd (Nat.le_refl 8) g 255 255 (Nat.le_refl _) (by omega)
  refine ⟨M1, ?_, i1, by rw [i2 0 (by omega), gps_0]⟩
  refine h1.trans ?_
  rw [e_Model_settles_90, if_neg (by omega), i2 255 (by omega), r_ck_ok (by omega) (by omega)]
theorem o42 : lw_O42 RI := by
  intro a ha M hR hM
  have hR2 : RI (am_up M 72 6 0) := RI_mf (mf_up (mf.rf M) (by omega)) hR
  obtain ⟨r1, r2, r3, r4, r5, r6, r7, r8, r9, r10, r11⟩ := id hR
  have hb1 := r1.2.1
  obtain ⟨n, hn⟩ : ∃ n : Nat, M 73 1 = (n : Int) := ⟨(M 73 1).toNat, by omega⟩
  have e0 : M 0 4 = (n : Int) := by rw [← hn]; exact r2.2.1
  have e73 : (am_up M 72 6 0) 73 = M 73 := am_up_ne M 72 6 0 (by decide)
  have hb3 := r1.2.2.2.1
  by_cases hw : 0 ≤ a ∧ a ≤ 51
  · obtain ⟨w, rfl⟩ : ∃ w : Nat, a = (w : Int) := ⟨a.toNat, by omega⟩
    obtain ⟨s, hs⟩ : ∃ s, M 73 = s := ⟨_, rfl⟩
    rw [hs] at r1 r2 r11 hn hb1 hb3
    obtain ⟨m, hm⟩ : ∃ m : Nat, s 3 = (m : Int) := ⟨(s 3).toNat, by omega⟩
    obtain ⟨Ma, a1, a2, a3⟩ := p_fill71 M 0
    obtain ⟨d, M1, h1, i1, i2⟩ := lp_up (α := Option am_V) (X := fun k d M => cX 47 11 [some (rV 70), some (iV (w : Int)), some (iV (k : Int)), d] [] M) (n := m) (I := fun k M' => (∀ a, a < 40 ∨ (54 < a ∧ a ≠ 71) → M' a = M a) ∧ ∀ f, f < 8 → M' 71 f = owd s n w k f) (by
      intro k hk d M' hI
      obtain ⟨i1, i2⟩ := hI
      obtain ⟨q0, q1, q2, q3, q4⟩ := r1.2.2.2.2.2.2.2.2.2.2.1 k (by omega)
      have hT : cT s M' 0 := cT_eq (fun a _ h2 => i1 a (by omega)) r2
      have hkT : kT M' 0 := kT_eq (fun a _ h2 => i1 a (by omega)) r3
      obtain ⟨M2, l1, l2⟩ := p_lentBy M' s n k w r1 hn hT hkT (by omega) (by omega)
      have hE : ∀ Mx : am_M, (∀ a, a ≤ 16 → Mx a = M' a) → cE s Mx := fun Mx hx => cE_eq (cQ_of r1 hT hkT (md.rf s)).2.2.1 hx
      have hE2 := hE M2 (fun a ha => l2 a (by omega))
      obtain ⟨c0, c1, c2, c3⟩ := p_lcell M2 s hE2 r1 k (by omega)
      obtain ⟨x, hx⟩ : ∃ x : Nat, s (119 + 4 * k) = (x : Int) := ⟨(s (119 + 4 * k)).toNat, by omega⟩
      obtain ⟨y, hy⟩ : ∃ y : Nat, s (120 + 4 * k) = (y : Int) := ⟨(s (120 + 4 * k)).toNat, by omega⟩
      have hxy : y ≠ x := by omega
      have bx := (owd_bd r1 hn w k (by omega) x).1
      have bz := (owd_bd r1 hn w k (by omega) y).1
      have lb := lby_bd r1 (n := n) (Wk := w) (k := k) (by omega)
      have e3 : M' 13 3 = (m : Int) := by rw [← hm]; exact hT.2.2.2.1
      have d71 : ∀ f, f < 8 → M2 71 f = owd s n w k f := fun f hf => by rw [l2 71 (by omega)]; exact i2 f hf
      have c2' := (p_lcell (am_up M2 71 x (owd s n w k x + lby s n w k)) s (hE _ (fun a ha => by rw [am_up_ne _ _ _ _ (by omega), l2 a (by omega)])) r1 k (by omega)).2.2.1
      have hh := e_Desk_settles_11 (w : Int) (k : Int) d M'
      rw [hx] at c1
      rw [hy] at c2'
      rw [e3, if_pos (by omega), l1, am_cb_s, c1, am_cb_s, r_bd_ok (by omega) (by omega), Int.toNat_natCast, d71 x (by omega), r_ck_ok (by omega) (by omega), r_bd_ok (by omega) (by omega), c2', am_cb_s, r_bd_ok (by omega) (by omega), Int.toNat_natCast, am_up_nj _ _ _ _ hxy, d71 y (by omega), r_ck_ok (by omega) (by omega), r_bd_ok (by omega) (by omega), r_ck_ok (by omega) (by omega)] at hh
      refine ⟨_, _, hh, fun a ha => by rw [am_up_ne _ _ _ _ (by omega), am_up_ne _ _ _ _ (by omega), l2 a (by omega), i1 a ha], fun f hf => ?_⟩
      show _ = us (us (owd s n w k) (s (119 + 4 * k)).toNat (owd s n w k (s (119 + 4 * k)).toNat + lby s n w k)) (s (120 + 4 * k)).toNat (owd s n w k (s (120 + 4 * k)).toNat - lby s n w k) f
      rw [hx, hy, Int.toNat_natCast, Int.toNat_natCast]
      by_cases z1 : f = y
      · subst z1; rw [am_up_at, us_at]
      · rw [am_up_nj _ _ _ _ z1, us_ne _ _ _ z1]
        by_cases z2 : f = x
        · subst z2; rw [am_up_at, us_at]
        · rw [am_up_nj _ _ _ _ z2, us_ne _ _ _ z2]; exact d71 f hf) m 0 (by omega) none Ma ⟨fun a ha => a2 a (by omega), fun f hf => a3 f hf⟩
    have hob := owd_bd r1 hn w m (by omega)
    obtain ⟨M2, b1, b2⟩ := p_fewest M1 (owd s n w m) n (by omega) (fun f hf => ⟨i2 f (by omega), by have := (hob f).1; omega⟩)
    have k2 : ∀ a, a < 40 ∨ 71 < a → M2 a = M a := fun a ha => by rw [b2 a (by omega) (by omega), i1 a (by omega)]
    have hR1 : RI M2 := RI_cf (fun x hx => k2 x (by omega)) hR
    have hR3 : RI (am_up M2 72 6 0) := RI_mf (mf_up (mf.rf M2) (by omega)) hR1
    have f73 : (am_up M2 72 6 0) 73 = s := by rw [am_up_ne _ _ _ _ (by decide), k2 73 (by omega), hs]
    -- the reference
    obtain ⟨e1, M3, h3, j1, j2⟩ := lp_up (α := Option am_V × Option am_V × Option am_V × Option am_V) (X := fun k d M => cX 169 10 [some (rV 72), some (iV (w : Int)), some (iV (k : Int)), d.1, d.2.1, d.2.2.1, d.2.2.2] [] M) (n := 8) (I := fun k M' => (∀ a, a ≠ 93 → M' a = (am_up M2 72 6 0) a) ∧ ∀ f, f < k → M' 93 f = 0) (by
      intro k hk d M' hI
      obtain ⟨j1, j2⟩ := hI
      have hh := e_Model_settles_10 (w : Int) (k : Int) d.1 d.2.1 d.2.2.1 d.2.2.2 M'
      rw [if_pos (by omega), r_bd_ok (by omega) (by omega), r_ck_ok (by omega) (by omega), Int.toNat_natCast] at hh
      refine ⟨(_, _, _, _), _, hh, fun a ha => (am_up_ne _ _ _ _ ha).trans (j1 a ha), fun f hf => ?_⟩
      by_cases e : f = k
      · subst e; rw [am_up_at]
      · rw [am_up_nj _ _ _ _ e]; exact j2 f (by omega)) 8 0 rfl (none, none, none, none) (am_up M2 72 6 0) ⟨fun _ _ => rfl, fun f hf => by omega⟩
    have mf3 : mf (am_up M2 72 6 0) M3 := ⟨fun a _ y => j1 a (by omega), by rw [j1 72 (by decide)], by rw [j1 72 (by decide)], by rw [j1 72 (by decide)], by rw [j1 72 (by decide)]⟩
    obtain ⟨e2, M4, h4, l1, l2⟩ := lp_up (α := Option am_V × Option am_V × Option am_V × Option am_V) (X := fun k d M => cX 169 22 [some (rV 72), some (iV (w : Int)), some (iV (k : Int)), d.1, d.2.1, d.2.2.1, d.2.2.2] [] M) (n := m) (I := fun k M' => mf (am_up M2 72 6 0) M' ∧ ∀ f, f < 8 → M' 93 f = owd s n w k f) (by
      intro k hk d M' hI
      obtain ⟨l1, l2⟩ := hI
      obtain ⟨q0, q1, q2, q3, q4⟩ := r1.2.2.2.2.2.2.2.2.2.2.1 k (by omega)
      have s1 : M' 73 = s := by rw [l1.1 73 (by decide) (by omega), f73]
      obtain ⟨M5, c1, c2⟩ := p_counts M' n k w (by rw [s1]; exact r1) (by rw [s1]; exact hn) (fun i hi => by rw [l1.1 88 (by decide) (by omega), am_up_ne _ _ _ _ (by decide), k2 88 (by omega)]; exact r10 i hi) (by rw [s1]; omega) (by omega)
      rw [s1] at c1
      have s5 : M5 73 = s := by rw [c2.1 73 (by omega), s1]
      obtain ⟨x, hx⟩ : ∃ x : Nat, s (119 + 4 * k) = (x : Int) := ⟨(s (119 + 4 * k)).toNat, by omega⟩
      obtain ⟨y, hy⟩ : ∃ y : Nat, s (120 + 4 * k) = (y : Int) := ⟨(s (120 + 4 * k)).toNat, by omega⟩
      have hxy : y ≠ x := by omega
      have bx := (owd_bd r1 hn w k (by omega) x).1
      have bz := (owd_bd r1 hn w k (by omega) y).1
      have d93 : ∀ f, f < 8 → M5 93 f = owd s n w k f := fun f hf => by rw [c2.1 93 (by omega)]; exact l2 f hf
      have hh := e_Model_settles_22 (w : Int) (k : Int) d.1 d.2.1 d.2.2.1 d.2.2.2 M'
      have eo : ∀ f, owd s n w (k + 1) f = us (us (owd s n w k) x (owd s n w k x + lby s n w k)) y (owd s n w k y - lby s n w k) f := fun f => by
        show us (us (owd s n w k) (s (119 + 4 * k)).toNat (owd s n w k (s (119 + 4 * k)).toNat + lby s n w k)) (s (120 + 4 * k)).toNat (owd s n w k (s (120 + 4 * k)).toNat - lby s n w k) f = _
        rw [hx, hy, Int.toNat_natCast, Int.toNat_natCast]
      rw [s1, hm, if_pos (by omega), c1, am_cb_s] at hh
      by_cases z0 : cnb s n w k = true
      · have el : lby s n w k = s (121 + 4 * k) := by unfold lby; rw [if_pos z0]
        rw [if_pos z0, if_neg (by decide), s5, show (118 + 4 * (k : Int) + 1).toNat = 119 + 4 * k by omega, show (118 + 4 * (k : Int) + 2).toNat = 120 + 4 * k by omega, show (118 + 4 * (k : Int) + 3).toNat = 121 + 4 * k by omega, hx, hy, Int.toNat_natCast, Int.toNat_natCast, d93 x (by omega), am_up_nj _ _ _ _ hxy, d93 y (by omega)] at hh
        repeat (first | rw [am_cb_s] at hh | rw [if_pos (by omega)] at hh | rw [if_neg (by omega)] at hh | rw [r_ck_ok (by omega) (by omega)] at hh | rw [r_bd_ok (by omega) (by omega)] at hh | rw [r_cl_ok (by omega) (by omega)] at hh)
        refine ⟨(_, _, _, _), _, hh, (l1.tr c2.mf).tr (mf_ua (mf_ua (mf.rf M5) (by omega)) (by omega)), fun f hf => ?_⟩
        rw [eo f, el]
        by_cases z1 : f = y
        · subst z1; rw [am_up_at, us_at]
        · rw [am_up_nj _ _ _ _ z1, us_ne _ _ _ z1]
          by_cases z2 : f = x
          · subst z2; rw [am_up_at, us_at]
          · rw [am_up_nj _ _ _ _ z2, us_ne _ _ _ z2]; exact d93 f hf
      · have el : lby s n w k = 0 := by unfold lby; rw [if_neg z0]
        rw [if_neg z0, if_pos rfl, r_ck_ok (by omega) (by omega)] at hh
        refine ⟨(_, _, _, _), _, hh, l1.tr c2.mf, fun f hf => ?_⟩
        rw [eo f, el, d93 f hf, Int.add_zero, Int.sub_zero]
        by_cases z1 : f = y
        · subst z1; rw [us_at]
        · rw [us_ne _ _ _ z1]
          by_cases z2 : f = x
          · subst z2; rw [us_at]
          · rw [us_ne _ _ _ z2]) m 0 (by omega) (none, none, none, none) M3 ⟨mf3, fun f hf => j2 f hf⟩
    have s4 : M4 73 = s := by rw [l1.1 73 (by decide) (by omega), f73]
    have z4 : M4 94 0 = 0 := by rw [l1.1 94 (by decide) (by omega), am_up_ne _ _ _ _ (by decide), k2 94 (by omega)]; exact r9.2.2
    obtain ⟨M5, c1, c2, c3⟩ := p_evens M4 (owd s n w m) z4 (fun f hf => ⟨l2 f hf, by have := (hob f).1; omega⟩) (some (iV (w : Int))) none none none none
    have eq := settle_eq (g := owd s n w m) (n := n) (by omega) (fun f hf => (hob f).2 hf)
    refine ⟨(n : Int) - gps n (owd s n w m) (2 ^ n - 1), M2, M5, ?_, ?_, ?_⟩
    · rw [e_Desk_settles, p_isNoWeek, am_cb_s, if_pos hw, if_pos rfl, a1, am_cb_s]
      refine h1.trans ?_
      have e3 : M1 13 3 = (m : Int) := by rw [i1 13 (by omega), ← hm]; exact r2.2.2.2.1
      have e4 : M1 0 4 = (n : Int) := by rw [i1 0 (by omega)]; exact e0
      rw [e_Desk_settles_11, e3, if_neg (by omega), e4, b1, am_cb_s]
    · rw [e_Model_settles, p_isWeek, am_cb_s, if_pos hw, if_neg (by decide)]
      refine h3.trans ?_
      rw [e_Model_settles_10, if_neg (by omega)]
      refine h4.trans ?_
      rw [e_Model_settles_22, s4, hm, if_neg (by omega), ← eq]
      exact c1
    · refine RI_keep (fun a ha => ?_) (by rw [c2 72 (by decide)]) (by rw [c2 72 (by decide)]) (by rw [c2 72 (by decide)]) (by rw [c2 72 (by decide)]) (by rw [c3, z4]) (RI_mf l1 hR3)
      refine c2 a ?_
      simp only [kS, Bool.or_eq_true, Nat.ble_eq, Nat.beq_eq] at ha
      omega
  · refine ⟨-3, M, am_up M 72 6 0, ?_, ?_, hR2⟩
    · rw [e_Desk_settles, p_isNoWeek, am_cb_s, if_neg hw, if_neg (by decide)]
    · rw [e_Model_settles, p_isWeek, am_cb_s, if_neg hw, if_pos rfl]
