-- the order that loses least
def ndx (s : Nat → Int) (a : Int) : Int := if a = -1 then -1 else s (42 + 4 * a.toNat)
def stp (s : Nat → Int) (a b : Int) : Int := mns s 13 (ndx s b) (ndx s a) - mns s 12 (ndx s a) (ndx s b)
def bnp (g : Nat → Int) (S : Nat) : Nat → Int × Int
  | 0 => (-1, 0)
  | k + 1 => if S.testBit k = true then bnp g S k else if (bnp g S k).1 = -1 ∨ (bnp g S k).2 < g k then ((k : Int), g k) else bnp g S k
theorem bnp_ok (g : Nat → Int) (S : Nat) : ∀ k, ((bnp g S k).1 = -1 ∧ (bnp g S k).2 = 0 ∧ ∀ f, f < k → S.testBit f = true) ∨ ∃ f : Nat, f < k ∧ S.testBit f = false ∧ (bnp g S k).1 = (f : Int) ∧ (bnp g S k).2 = g f := by
  intro k
  induction k with
  | zero => exact Or.inl ⟨rfl, rfl, fun f hf => by omega⟩
  | succ k ih =>
    have es : bnp g S (k + 1) = if S.testBit k = true then bnp g S k else if (bnp g S k).1 = -1 ∨ (bnp g S k).2 < g k then ((k : Int), g k) else bnp g S k := rfl
    rw [es]
    by_cases c : S.testBit k = true
    · rw [if_pos c]
      rcases ih with ⟨h1, h2, h3⟩ | ⟨f, h1, h2, h3, h4⟩
      · exact Or.inl ⟨h1, h2, fun f hf => by
          by_cases e : f = k
          · rw [e]; exact c
          · exact h3 f (by omega)⟩
      · exact Or.inr ⟨f, by omega, h2, h3, h4⟩
    · rw [if_neg c]
      by_cases d : (bnp g S k).1 = -1 ∨ (bnp g S k).2 < g k
      · rw [if_pos d]
        exact Or.inr ⟨k, by omega, by simpa using c, rfl, rfl⟩
      · rw [if_neg d]
        rcases ih with ⟨h1, h2, h3⟩ | ⟨f, h1, h2, h3, h4⟩
        · exact absurd (Or.inl h1) d
        · exact Or.inr ⟨f, by omega, h2, h3, h4⟩
def RV (s : Nat → Int) (n : Nat) : Nat → Nat → Int → Int
  | 0, _, l => stp s l (-1)
  | j + 1, S, l => (bnp (fun f => stp s l (f : Int) + RV s n j (S ||| 2 ^ f) (f : Int)) S n).2
def wth (s : Nat → Int) (n j S : Nat) (l : Int) (f : Nat) : Int := stp s l (f : Int) + RV s n j (S ||| 2 ^ f) (f : Int)
def NX (s : Nat → Int) (n j S : Nat) (l : Int) : Int := (bnp (wth s n j S l) S n).1
theorem RV_s (s : Nat → Int) (n j S : Nat) (l : Int) : RV s n (j + 1) S l = (bnp (wth s n j S l) S n).2 := rfl
def gp (s : Nat → Int) (n : Nat) : Nat → Nat → Int → Nat → Int
  | 0, _, _ => fun _ => 0
  | j + 1, S, l => fun i => if i = 0 then NX s n j S l else gp s n j (S ||| 2 ^ (NX s n j S l).toNat) (NX s n j S l) (i - 1)
section
variable {s : Nat → Int} {n : Nat}
theorem ndx_bd (hv : vT s) (hn : s 1 = (n : Int)) {a : Int} (ha : -1 ≤ a ∧ a < (n : Int)) : -1 ≤ ndx s a ∧ ndx s a < s 0 := by
  have h0 := hv.1
  unfold ndx
  by_cases c : a = -1
  · rw [if_pos c]; omega
  · rw [if_neg c]
    have := (hv.2.2.2.2.2.2.2.1 a.toNat (by omega)).1
    omega
theorem stp_bd (hv : vT s) (hn : s 1 = (n : Int)) {a b : Int} (ha : -1 ≤ a ∧ a < (n : Int)) (hb : -1 ≤ b ∧ b < (n : Int)) : -600 ≤ stp s a b ∧ stp s a b ≤ 600 := by
  have h1 := ndx_bd hv hn ha
  have h2 := ndx_bd hv hn hb
  have h3 := mns_bd hv (b := 13) (Or.inr rfl) (a := ndx s b) (c := ndx s a) h2.1 h1.2
  have h4 := mns_bd hv (b := 12) (Or.inl rfl) (a := ndx s a) (c := ndx s b) h1.1 h2.2
  unfold stp
  omega
theorem RV_bd (hv : vT s) (hn : s 1 = (n : Int)) : ∀ (j S : Nat) (l : Int), -1 ≤ l ∧ l < (n : Int) → -600 * ((j : Int) + 1) ≤ RV s n j S l ∧ RV s n j S l ≤ 600 * ((j : Int) + 1) := by
  intro j
  induction j with
  | zero =>
    intro S l hl
    have := stp_bd hv hn hl (b := -1) (by omega)
    show -600 * (((0 : Nat) : Int) + 1) ≤ stp s l (-1) ∧ stp s l (-1) ≤ 600 * (((0 : Nat) : Int) + 1)
    omega
  | succ j ih =>
    intro S l hl
    rw [RV_s]
    rcases bnp_ok (wth s n j S l) S n with ⟨-, h2, -⟩ | ⟨f, h1, -, -, h4⟩
    · rw [h2]; omega
    · rw [h4]
      have h5 := ih (S ||| 2 ^ f) (f : Int) (by omega)
      have h6 := stp_bd hv hn hl (b := (f : Int)) (by omega)
      unfold wth
      omega
theorem wth_bd (hv : vT s) (hn : s 1 = (n : Int)) {j S : Nat} {l : Int} (hl : -1 ≤ l ∧ l < (n : Int)) {f : Nat} (hf : f < n) : -600 * ((j : Int) + 2) ≤ wth s n j S l f ∧ wth s n j S l f ≤ 600 * ((j : Int) + 2) := by
  have h5 := RV_bd hv hn j (S ||| 2 ^ f) (f : Int) (by omega)
  have h6 := stp_bd hv hn hl (b := (f : Int)) (by omega)
  unfold wth
  omega
end
-- sets
theorem f_add : ∀ (n : Fin 9) (S : Fin 256) (f : Fin 8), S.val.testBit f.val = false → f.val < n.val → S.val < 2 ^ n.val → pct (S.val ||| 2 ^ f.val) = pct S.val + 1 ∧ (S.val ||| 2 ^ f.val) < 2 ^ n.val ∧ S.val < (S.val ||| 2 ^ f.val) ∧ (S.val ||| 2 ^ f.val).testBit f.val = true := by decide +kernel
theorem f_full : ∀ (n : Fin 9) (S : Fin 256), S.val < 2 ^ n.val → pct S.val ≤ n.val ∧ (pct S.val < n.val → ∃ f : Fin 8, f.val < n.val ∧ S.val.testBit f.val = false) := by decide +kernel
theorem f_all : ∀ (n : Fin 9) (S : Fin 256) (f : Fin 8), S.val < 2 ^ n.val → pct S.val = n.val → f.val < n.val → S.val.testBit f.val = true := by decide +kernel
theorem b_setf : ∀ (S : Fin 256) (f : Fin 8), am_or (S.val : Int) (am_shl 1 (f.val : Int)) = ((S.val ||| 2 ^ f.val : Nat) : Int) := by decide +kernel
-- the class
theorem p_step (M : am_M) (s : Nat → Int) (n : Nat) (hv : vT s) (hn : s 1 = (n : Int)) (hc : cC s M) {a b : Int} (ha : -1 ≤ a ∧ a < (n : Int)) (hb : -1 ≤ b ∧ b < (n : Int)) : cY 236 [rV 60, iV a, iV b] M = some (stp s a b, M) := by
  have hb1 := hv.2.1
  have h1 := ndx_bd hv hn ha
  have h2 := ndx_bd hv hn hb
  have h3 := mns_bd hv (b := 13) (Or.inr rfl) (a := ndx s b) (c := ndx s a) h2.1 h1.2
  have h4 := mns_bd hv (b := 12) (Or.inl rfl) (a := ndx s a) (c := ndx s b) h1.1 h2.2
  have d1 := p_drainBehind M s hv hc (ndx s b) (ndx s a) h2.1 h1.2
  have d2 := p_fillBehind M s hv hc (ndx s a) (ndx s b) h1.1 h2.2
  have en : ∀ x : Int, -1 ≤ x → x < (n : Int) → x ≠ -1 → M 5 x.toNat = ndx s x := fun x y1 y2 y3 => by
    unfold ndx
    rw [if_neg y3]
    exact hc.2.2 x.toNat (by omega)
  have em : ndx s (-1) = -1 := if_pos rfl
  rw [e_Sequencer_step]
  unfold stp
  by_cases ca : a = -1
  · rw [if_pos ca]
    by_cases cb : b = -1
    · rw [ca, cb, em] at d1 d2
      rw [ca, cb, em] at h3 h4
      rw [if_pos cb, d1, am_cb_s, d2, am_cb_s, ca, cb, em, r_ck_ok (by omega) (by omega)]
    · rw [ca, em] at d1 d2
      rw [ca, em] at h3 h4
      rw [if_neg cb, r_bd_ok (by omega) (by omega), en b hb.1 hb.2 cb, d1, am_cb_s, d2, am_cb_s, ca, em, r_ck_ok (by omega) (by omega)]
  · rw [if_neg ca, r_bd_ok (by omega) (by omega), en a ha.1 ha.2 ca]
    by_cases cb : b = -1
    · rw [cb, em] at d1 d2
      rw [cb, em] at h3 h4
      rw [if_pos cb, d1, am_cb_s, d2, am_cb_s, cb, em, r_ck_ok (by omega) (by omega)]
    · rw [if_neg cb, r_bd_ok (by omega) (by omega), en b hb.1 hb.2 cb, d1, am_cb_s, d2, am_cb_s, r_ck_ok (by omega) (by omega)]
/-- the table of what is still to come, for the sets from K on -/
def TB (s : Nat → Int) (n K : Nat) (M : am_M) : Prop := ∀ S, K ≤ S → S < 2 ^ n → ∀ l, l < n → S.testBit l = true → M 61 (8 * S + l) = RV s n (n - pct S) S (l : Int)
theorem p_bestNext (M : am_M) (s : Nat → Int) (n : Nat) (hv : vT s) (hn : s 1 = (n : Int)) (hc : cC s M) (S : Nat) (hS : S < 2 ^ n) (hT : TB s n (S + 1) M) (l : Int) (hl : -1 ≤ l ∧ l < (n : Int)) : cY 234 [rV 60, iV (S : Int), iV l] M = some (NX s n (n - pct S - 1) S l, M) ∧ ∀ f, f < n → S.testBit f = false → cY 235 [rV 60, iV (S : Int), iV l, iV (f : Int)] M = some (wth s n (n - pct S - 1) S l f, M) := by
  have hb1 := hv.2.1
  have hp2 : 2 ^ n ≤ 2 ^ 8 := Nat.pow_le_pow_right (by omega) (by omega)
  have e04 : M 0 4 = (n : Int) := by rw [hc.1, hn]
  have hw : ∀ f, f < n → S.testBit f = false → cY 235 [rV 60, iV (S : Int), iV l, iV (f : Int)] M = some (wth s n (n - pct S - 1) S l f, M) := fun f hf hb => by
    obtain ⟨x1, x2, x3, x4⟩ := f_add ⟨n, by omega⟩ ⟨S, by omega⟩ ⟨f, by omega⟩ hb hf hS
    have x1 : pct (S ||| 2 ^ f) = pct S + 1 := x1
    have x2 : S ||| 2 ^ f < 2 ^ n := x2
    have x3 : S < (S ||| 2 ^ f) := x3
    have x4 : (S ||| 2 ^ f).testBit f = true := x4
    have eo : am_or (S : Int) (am_shl 1 (f : Int)) = ((S ||| 2 ^ f : Nat) : Int) := b_setf ⟨S, by omega⟩ ⟨f, by omega⟩
    have et := hT (S ||| 2 ^ f) (by omega) x2 f hf x4
    rw [x1] at et
    have hb2 := RV_bd hv hn (n - (pct S + 1)) (S ||| 2 ^ f) (f : Int) (by omega)
    have hs := stp_bd hv hn hl (b := (f : Int)) (by omega)
    rw [e_Sequencer_worthOf, p_step M s n hv hn hc hl (b := (f : Int)) (by omega), am_cb_s, eo, r_ck_ok (by omega) (by omega), r_ck_ok (by omega) (by omega), r_bd_ok (by omega) (by omega), show (((S ||| 2 ^ f : Nat) : Int) * 8 + (f : Int)).toNat = 8 * (S ||| 2 ^ f) + f by omega, et, r_ck_ok (by omega) (by omega)]
    rfl
  refine ⟨?_, hw⟩
  have L : ∀ (j k : Nat) (d : Option am_V), k + j = n → cX 234 6 [some (rV 60), some (iV (S : Int)), some (iV l), some (iV (bnp (wth s n (n - pct S - 1) S l) S k).1), some (iV (bnp (wth s n (n - pct S - 1) S l) S k).2), some (iV (k : Int)), d] [] M = some (NX s n (n - pct S - 1) S l, M) := by
    intro j
    induction j with
    | zero => intro k d hk; have e : k = n := by omega
              subst e; rw [e_Sequencer_bestNext_6, e04, if_neg (by omega)]; rfl
    | succ j ih =>
      intro k d hk
      have es : bnp (wth s n (n - pct S - 1) S l) S (k + 1) = if S.testBit k = true then bnp (wth s n (n - pct S - 1) S l) S k else if (bnp (wth s n (n - pct S - 1) S l) S k).1 = -1 ∨ (bnp (wth s n (n - pct S - 1) S l) S k).2 < wth s n (n - pct S - 1) S l k then ((k : Int), wth s n (n - pct S - 1) S l k) else bnp (wth s n (n - pct S - 1) S l) S k := rfl
      have hi := fun d => ih (k + 1) d (by omega)
      rw [es] at hi
      rw [e_Sequencer_bestNext_6, e04, if_pos (by omega), b_bit (by omega) (by omega)]
      by_cases c : S.testBit k = true
      · simp only [if_pos c] at hi
        rw [if_pos c, if_neg (by decide), r_ck_ok (by omega) (by omega)]
        exact hi _
      · simp only [if_neg c] at hi
        rw [if_neg c, if_pos rfl, hw k (by omega) (by simpa using c), am_cb_s]
        by_cases d1 : (bnp (wth s n (n - pct S - 1) S l) S k).1 = -1
        · simp only [if_pos (Or.inl d1 : (bnp (wth s n (n - pct S - 1) S l) S k).1 = -1 ∨ (bnp (wth s n (n - pct S - 1) S l) S k).2 < wth s n (n - pct S - 1) S l k)] at hi
          rw [if_pos d1, r_ck_ok (by omega) (by omega)]
          exact hi _
        · rw [if_neg d1]
          by_cases d2 : (bnp (wth s n (n - pct S - 1) S l) S k).2 < wth s n (n - pct S - 1) S l k
          · simp only [if_pos (Or.inr d2 : (bnp (wth s n (n - pct S - 1) S l) S k).1 = -1 ∨ (bnp (wth s n (n - pct S - 1) S l) S k).2 < wth s n (n - pct S - 1) S l k)] at hi
            rw [if_pos d2, r_ck_ok (by omega) (by omega)]
            exact hi _
          · have hno : ¬ ((bnp (wth s n (n - pct S - 1) S l) S k).1 = -1 ∨ (bnp (wth s n (n - pct S - 1) S l) S k).2 < wth s n (n - pct S - 1) S l k) := fun h => h.elim d1 d2
            simp only [if_neg hno] at hi
            rw [if_neg d2, r_ck_ok (by omega) (by omega)]
            exact hi _
  rw [e_Sequencer_bestNext]
  exact L n 0 none (by omega)
theorem NX_ok {s : Nat → Int} {n j S : Nat} {l : Int} (h : ∃ f, f < n ∧ S.testBit f = false) : ∃ f : Nat, f < n ∧ S.testBit f = false ∧ NX s n j S l = (f : Int) ∧ RV s n (j + 1) S l = wth s n j S l f := by
  rcases bnp_ok (wth s n j S l) S n with ⟨h1, h2, h3⟩ | ⟨f, h1, h2, h3, h4⟩
  · obtain ⟨f, f1, f2⟩ := h
    rw [h3 f f1] at f2
    cases f2
  · exact ⟨f, h1, h2, h3, by rw [RV_s]; exact h4⟩
theorem p_search (M : am_M) (s : Nat → Int) (n : Nat) (hv : vT s) (hn : s 1 = (n : Int)) (h1n : 1 ≤ n) (hc : cC s M) : ∃ M', cY 232 [rV 60] M = some (0, M') ∧ (∀ a, a ≠ 60 → a ≠ 61 → a ≠ 62 → M' a = M a) ∧ M' 60 3 = 10080 + RV s n n 0 (-1) ∧ ∀ p, p < n → M' 62 p = gp s n n 0 (-1) p := by
  have hb1 := hv.2.1
  have hp1 : 1 ≤ 2 ^ n := Nat.one_le_two_pow
  have hp2 : 2 ^ n ≤ 2 ^ 8 := Nat.pow_le_pow_right (by omega) (by omega)
  have hsh : am_shl 1 (n : Int) = ((2 ^ n : Nat) : Int) := b_shl ⟨n, by omega⟩
  have e04 : M 0 4 = (n : Int) := by rw [hc.1, hn]
  have cCe : ∀ M' : am_M, (∀ a, a ≠ 61 → M' a = M a) → cC s M' := fun M' h => cC_eq hc (h 0 (by decide)) (h 1 (by decide)) (h 2 (by decide)) (h 5 (by decide))
  -- the table
  have Lt : ∀ (S : Nat) (M' : am_M) (d1 d3 d4 d5 : Option am_V), S < 2 ^ n → (∀ a, a ≠ 61 → M' a = M a) → TB s n (S + 1) M' → ∃ (M2 : am_M), cX 232 10 [some (rV 60), d1, some (iV (S : Int)), d3, d4, d5] [] M' = cX 232 51 [some (rV 60), none, some (iV 0), some (iV (-1)), some (iV 0), none] [] (am_up M2 60 3 10080) ∧ (∀ a, a ≠ 61 → M2 a = M a) ∧ TB s n 1 M2 := by
    intro S
    induction S with
    | zero =>
      intro M' d1 d3 d4 d5 hS hM hT
      exact ⟨M', by rw [e_Sequencer_search_10, if_neg (by decide)], hM, hT⟩
    | succ S ih =>
      intro M' d1 d3 d4 d5 hS hM hT
      obtain ⟨⟨a1, a4, a5⟩, M2, h2, i1, i2, i3⟩ := lp_up (α := Option am_V × Option am_V × Option am_V) (X := fun k d M => cX 232 14 [some (rV 60), d.1, some (iV ((S + 1 : Nat) : Int)), some (iV (k : Int)), d.2.1, d.2.2] [] M) (n := n) (I := fun k M2 => (∀ a, a ≠ 61 → M2 a = M a) ∧ TB s n (S + 2) M2 ∧ ∀ l, l < k → (S + 1).testBit l = true → M2 61 (8 * (S + 1) + l) = RV s n (n - pct (S + 1)) (S + 1) (l : Int)) (by
        intro k hk d M2 hI
        obtain ⟨i1, i2, i3⟩ := hI
        have hh := e_Sequencer_search_14 ((S + 1 : Nat) : Int) (k : Int) d.1 d.2.1 d.2.2 M2
        rw [i1 0 (by decide), e04, if_pos (by omega), b_bit (by omega) (by omega)] at hh
        by_cases c : (S + 1).testBit k = true
        · obtain ⟨q1, q2⟩ := p_bestNext M2 s n hv hn (cCe M2 i1) (S + 1) hS i2 (k : Int) (by omega)
          obtain ⟨g1, g2⟩ := f_full ⟨n, by omega⟩ ⟨S + 1, by omega⟩ hS
          have g1 : pct (S + 1) ≤ n := g1
          have br : cY 233 [rV 60, iV ((S + 1 : Nat) : Int), iV (k : Int)] M2 = some (RV s n (n - pct (S + 1)) (S + 1) (k : Int), M2) := by
            rw [e_Sequencer_bestRest, q1, am_cb_s]
            by_cases z : pct (S + 1) = n
            · have hall : ∀ f, f < n → (S + 1).testBit f = true := fun f hf => f_all ⟨n, by omega⟩ ⟨S + 1, by omega⟩ ⟨f, by omega⟩ hS z hf
              have hno : NX s n (n - pct (S + 1) - 1) (S + 1) (k : Int) = -1 := by
                rcases bnp_ok (wth s n (n - pct (S + 1) - 1) (S + 1) (k : Int)) (S + 1) n with ⟨h1, -, -⟩ | ⟨f, h1, h2, -, -⟩
                · exact h1
                · rw [hall f h1] at h2; cases h2
              rw [if_pos hno, p_step M2 s n hv hn (cCe M2 i1) (a := (k : Int)) (b := -1) (by omega) (by omega), am_cb_s, z, Nat.sub_self]
              rfl
            · obtain ⟨f, hf⟩ := g2 (show pct (S + 1) < n by omega)
              obtain ⟨f0, y1, y2, y3, y4⟩ := NX_ok (s := s) (n := n) (j := n - pct (S + 1) - 1) (S := S + 1) (l := (k : Int)) ⟨f.val, hf⟩
              rw [y3, if_neg (by omega), q2 f0 y1 y2, am_cb_s, show n - pct (S + 1) = n - pct (S + 1) - 1 + 1 by omega, y4, show n - pct (S + 1) - 1 + 1 - 1 = n - pct (S + 1) - 1 by omega]
          rw [if_pos c, if_pos rfl, r_ck_ok (by omega) (by omega), r_ck_ok (by omega) (by omega), br, am_cb_s, r_bd_ok (by omega) (by omega), r_ck_ok (by omega) (by omega), show (((S + 1 : Nat) : Int) * 8 + (k : Int)).toNat = 8 * (S + 1) + k by omega] at hh
          refine ⟨(none, none, none), _, hh, fun a ha => (am_up_ne _ _ _ _ ha).trans (i1 a ha), fun S' h1 h2 l hl hb => ?_, fun l hl hb => ?_⟩
          · rw [am_up_nj _ _ _ _ (by omega)]; exact i2 S' h1 h2 l hl hb
          · by_cases e : l = k
            · subst e; rw [am_up_at]
            · rw [am_up_nj _ _ _ _ (by omega)]; exact i3 l (by omega) hb
        · rw [if_neg c, if_neg (by decide), r_ck_ok (by omega) (by omega)] at hh
          refine ⟨(none, none, none), M2, hh, i1, i2, fun l hl hb => ?_⟩
          by_cases e : l = k
          · subst e; exact absurd hb c
          · exact i3 l (by omega) hb) n 0 (by omega) (none, none, none) M' ⟨hM, hT, fun l hl => by omega⟩
      have hT2 : TB s n (S + 1) M2 := fun S' h1 h2 l hl hb => by
        by_cases e : S' = S + 1
        · subst e; exact i3 l hl hb
        · exact i2 S' (by omega) h2 l hl hb
      obtain ⟨M3, b1, b2, b3⟩ := ih M2 none (some (iV (n : Int))) none none (by omega) i1 hT2
      refine ⟨M3, ?_, b2, b3⟩
      rw [e_Sequencer_search_10, if_pos (by omega)]
      refine h2.trans ?_
      rw [e_Sequencer_search_14, i1 0 (by decide), e04, if_neg (by omega), r_ck_ok (by omega) (by omega), show ((S + 1 : Nat) : Int) + -1 = (S : Int) by omega]
      exact b1
  obtain ⟨M1, t1, t2, t3⟩ := Lt (2 ^ n - 1) M (some (iV (((2 ^ n : Nat) : Int) - 1))) none none none (by omega) (fun _ _ => rfl) (fun S h1 h2 => by omega)
  -- the path
  have Lp : ∀ (j p S : Nat) (l : Int) (M' : am_M) (d1 d5 : Option am_V), p + j = n → S < 2 ^ n → pct S = p → (-1 ≤ l ∧ l < (n : Int)) → (∀ a, a ≠ 60 → a ≠ 62 → M' a = M1 a) → (10080 - 600 * (p : Int) ≤ M' 60 3 ∧ M' 60 3 ≤ 10080 + 600 * (p : Int)) → ∃ M2, cX 232 51 [some (rV 60), d1, some (iV (S : Int)), some (iV l), some (iV (p : Int)), d5] [] M' = some (0, M2) ∧ (∀ a, a ≠ 60 → a ≠ 62 → M2 a = M1 a) ∧ M2 60 3 = M' 60 3 + RV s n j S l ∧ (∀ q, q < p → M2 62 q = M' 62 q) ∧ ∀ q, p ≤ q → q < n → M2 62 q = gp s n j S l (q - p) := by
    intro j
    induction j with
    | zero =>
      intro p S l M' d1 d5 hp hS hpc hl hM hb
      have hc' : cC s M' := cC_eq hc (by rw [hM 0 (by decide) (by decide), t2 0 (by decide)]) (by rw [hM 1 (by decide) (by decide), t2 1 (by decide)]) (by rw [hM 2 (by decide) (by decide), t2 2 (by decide)]) (by rw [hM 5 (by decide) (by decide), t2 5 (by decide)])
      have hs := stp_bd hv hn hl (b := -1) (by omega)
      refine ⟨am_up M' 60 3 (M' 60 3 + stp s l (-1)), ?_, fun a x1 x2 => by rw [am_up_ne _ _ _ _ x1, hM a x1 x2], am_up_at _ _ _ _, fun q hq => by rw [am_up_ne _ _ _ _ (by decide)], fun q h1 h2 => by omega⟩
      rw [e_Sequencer_search_51, hc'.1, hn, if_neg (by omega), p_step M' s n hv hn hc' hl (b := -1) (by omega), am_cb_s, r_ck_ok (by omega) (by omega)]
    | succ j ih =>
      intro p S l M' d1 d5 hp hS hpc hl hM hb
      have hc' : cC s M' := cC_eq hc (by rw [hM 0 (by decide) (by decide), t2 0 (by decide)]) (by rw [hM 1 (by decide) (by decide), t2 1 (by decide)]) (by rw [hM 2 (by decide) (by decide), t2 2 (by decide)]) (by rw [hM 5 (by decide) (by decide), t2 5 (by decide)])
      have hT' : TB s n (S + 1) M' := fun S' h1 h2 l' hl' hb' => by rw [hM 61 (by decide) (by decide)]; exact t3 S' (by omega) h2 l' hl' hb'
      obtain ⟨q1, q2⟩ := p_bestNext M' s n hv hn hc' S hS hT' l hl
      obtain ⟨g1, g2⟩ := f_full ⟨n, by omega⟩ ⟨S, by omega⟩ hS
      obtain ⟨f', hf'⟩ := g2 (show pct S < n by omega)
      rw [hpc, show n - p - 1 = j by omega] at q1
      obtain ⟨f, y1, y2, y3, y4⟩ := NX_ok (s := s) (n := n) (j := j) (S := S) (l := l) ⟨f'.val, hf'⟩
      obtain ⟨x1, x2, x3, x4⟩ := f_add ⟨n, by omega⟩ ⟨S, by omega⟩ ⟨f, by omega⟩ y2 y1 hS
      have x1 : pct (S ||| 2 ^ f) = pct S + 1 := x1
      have eo : am_or (S : Int) (am_shl 1 (f : Int)) = ((S ||| 2 ^ f : Nat) : Int) := b_setf ⟨S, by omega⟩ ⟨f, by omega⟩
      have hs := stp_bd hv hn hl (b := (f : Int)) (by omega)
      rw [y3] at q1
      obtain ⟨M2, b1, b2, b3, b4, b5⟩ := ih (p + 1) (S ||| 2 ^ f) (f : Int) (am_up (am_up M' 60 3 (M' 60 3 + stp s l (f : Int))) 62 p (f : Int)) none (some (iV (f : Int))) (by omega) x2 (by omega) (by omega) (fun a x1 x2 => by rw [am_up_ne _ _ _ _ x2, am_up_ne _ _ _ _ x1, hM a x1 x2]) (by rw [am_up_ne _ _ _ _ (by decide), am_up_at]; omega)
      refine ⟨M2, ?_, b2, ?_, fun q hq => ?_, fun q h1 h2 => ?_⟩
      · rw [e_Sequencer_search_51, hc'.1, hn, if_pos (by omega), q1, am_cb_s, p_step M' s n hv hn hc' hl (b := (f : Int)) (by omega), am_cb_s, r_ck_ok (by omega) (by omega), r_bd_ok (by omega) (by omega), r_ck_ok (by omega) (by omega), eo, Int.toNat_natCast]
        exact b1
      · rw [b3, am_up_ne _ _ _ _ (by decide), am_up_at, y4]
        unfold wth
        omega
      · rw [b4 q (by omega), am_up_nj _ _ _ _ (by omega), am_up_ne _ _ _ _ (by decide)]
      · show _ = if q - p = 0 then NX s n j S l else gp s n j (S ||| 2 ^ (NX s n j S l).toNat) (NX s n j S l) (q - p - 1)
        by_cases e : q = p
        · subst e
          rw [Nat.sub_self, if_pos rfl, y3, b4 q (by omega), am_up_at]
        · rw [if_neg (by omega), y3, Int.toNat_natCast, b5 q (by omega) h2, show q - (p + 1) = q - p - 1 by omega]
  obtain ⟨M2, b1, b2, b3, b4, b5⟩ := Lp n 0 0 (-1) (am_up M1 60 3 10080) none none (by omega) (by omega) rfl (by omega) (fun a x1 _ => am_up_ne _ _ _ _ x1) (by rw [am_up_at]; omega)
  refine ⟨M2, ?_, fun a x1 x2 x3 => by rw [b2 a x1 x3, t2 a x2], by rw [b3, am_up_at], fun p hp => b5 p (by omega) hp⟩
  rw [e_Sequencer_search, e04, hsh, r_ck_ok (by omega) (by omega)]
  have t1 := t1
  rw [show ((2 ^ n - 1 : Nat) : Int) = ((2 ^ n : Nat) : Int) - 1 by omega] at t1
  refine t1.trans ?_
  exact b1
-- the reference
def acc (s o : Nat → Int) : Nat → Int
  | 0 => 10080
  | k + 1 => acc s o k + stp s (if k = 0 then -1 else o (k - 1)) (o k)
theorem acc_eq {s o o' : Nat → Int} : ∀ k, (∀ p, p < k → o' p = o p) → acc s o' k = acc s o k := by
  intro k
  induction k with
  | zero => intro _; rfl
  | succ k ih =>
    intro h
    show acc s o' k + stp s (if k = 0 then -1 else o' (k - 1)) (o' k) = acc s o k + stp s (if k = 0 then -1 else o (k - 1)) (o k)
    rw [ih (fun p hp => h p (by omega)), h k (by omega)]
    by_cases c : k = 0
    · rw [if_pos c, if_pos c]
    · rw [if_neg c, if_neg c, h (k - 1) (by omega)]
theorem ndx_nd {s o : Nat → Int} {n p : Nat} (hP : isP n o) (hp : p < n) : ndx s (o p) = nd s o p := by
  have := hP.1 p hp
  unfold ndx nd
  rw [if_neg (by omega)]
theorem acc_nets {s o : Nat → Int} {n : Nat} (hv : vT s) (hn : s 1 = (n : Int)) (hP : isP n o) : ∀ k, k + 1 ≤ n → acc s o (k + 1) = 10080 + sm (drn s o n) k - sm (fil s o) (k + 1) := by
  intro k
  induction k with
  | zero =>
    intro hk
    show 10080 + stp s (if 0 = 0 then -1 else o (0 - 1)) (o 0) = 10080 + 0 - (0 + fil s o 0)
    have h1 := nd_bd hv hn hP (p := 0) (by omega)
    rw [if_pos rfl]
    unfold stp fil
    rw [ndx_nd hP (by omega), show ndx s (-1) = -1 from if_pos rfl, if_pos rfl]
    have : mns s 13 (nd s o 0) (-1) = 0 := by unfold mns; rw [if_neg (by omega)]
    omega
  | succ k ih =>
    intro hk
    have h1 := ih (by omega)
    show acc s o (k + 1) + stp s (if k + 1 = 0 then -1 else o (k + 1 - 1)) (o (k + 1)) = 10080 + (sm (drn s o n) k + drn s o n k) - (sm (fil s o) (k + 1) + fil s o (k + 1))
    rw [h1, if_neg (by omega), show k + 1 - 1 = k by omega]
    unfold stp
    have e1 : drn s o n k = mns s 13 (nd s o (k + 1)) (nd s o k) := by unfold drn; rw [if_neg (by omega)]
    have e2 : fil s o (k + 1) = mns s 12 (nd s o k) (nd s o (k + 1)) := by unfold fil; rw [if_neg (by omega), show k + 1 - 1 = k by omega]
    rw [ndx_nd hP (by omega), ndx_nd hP (by omega), e1, e2]
    omega
theorem nets_acc {s o : Nat → Int} {n : Nat} (hv : vT s) (hn : s 1 = (n : Int)) (hP : isP n o) (h1 : 1 ≤ n) : nets s o n n = acc s o n + stp s (o (n - 1)) (-1) := by
  obtain ⟨k, rfl⟩ : ∃ k, n = k + 1 := ⟨n - 1, by omega⟩
  have h2 := acc_nets hv hn hP k (by omega)
  have hb := nd_bd hv hn hP (p := k) (by omega)
  rw [nets_sm, h2, show k + 1 - 1 = k by omega]
  show 10080 + (sm (drn s o (k + 1)) k + drn s o (k + 1) k) - sm (fil s o) (k + 1) = _
  have e1 : drn s o (k + 1) k = mns s 13 (-1) (nd s o k) := by unfold drn; rw [if_pos rfl]
  have e2 : mns s 12 (nd s o k) (-1) = 0 := by unfold mns; rw [if_neg (by omega)]
  unfold stp
  rw [show ndx s (-1) = -1 from if_pos rfl, ndx_nd hP (by omega), e1, e2]
  omega
/-- a row begun: k fields, S is their set -/
def PX (n k S : Nat) (o : Nat → Int) : Prop := S < 2 ^ n ∧ (∀ p, p < k → ∃ f : Nat, o p = (f : Int) ∧ f < n ∧ S.testBit f = true) ∧ (∀ f, S.testBit f = true → ∃ p, p < k ∧ o p = (f : Int)) ∧ ∀ p q, p < k → q < k → o p = o q → p = q
theorem PX_add {n k S f : Nat} {o : Nat → Int} (h8 : n ≤ 8) (h : PX n k S o) (hf : f < n) (hb : S.testBit f = false) : PX n (k + 1) (S ||| 2 ^ f) (us o k (f : Int)) := by
  obtain ⟨p1, p2, p3, p4⟩ := h
  have hp2 : 2 ^ n ≤ 2 ^ 8 := Nat.pow_le_pow_right (by omega) h8
  obtain ⟨x1, x2, x3, x4⟩ := f_add ⟨n, by omega⟩ ⟨S, by omega⟩ ⟨f, by omega⟩ hb hf p1
  have hne : ∀ p, p < k → o p ≠ (f : Int) := fun p hp e => by
    obtain ⟨g, g1, g2, g3⟩ := p2 p hp
    have : g = f := by omega
    rw [this, hb] at g3
    cases g3
  refine ⟨x2, fun p hp => ?_, fun g hg => ?_, fun p q hp hq e => ?_⟩
  · by_cases e : p = k
    · subst e; exact ⟨f, us_at _ _ _, hf, x4⟩
    · obtain ⟨g, g1, g2, g3⟩ := p2 p (by omega)
      exact ⟨g, by rw [us_ne _ _ _ e]; exact g1, g2, by rw [Nat.testBit_or, g3, Bool.true_or]⟩
  · rw [Nat.testBit_or, Nat.testBit_two_pow, Bool.or_eq_true, decide_eq_true_iff] at hg
    rcases hg with hg | hg
    · obtain ⟨p, y1, y2⟩ := p3 g hg
      exact ⟨p, by omega, by rw [us_ne _ _ _ (by omega)]; exact y2⟩
    · exact ⟨k, by omega, by rw [us_at, hg]⟩
  · by_cases e1 : p = k
    · by_cases e2 : q = k
      · omega
      · rw [e1, us_at, us_ne _ _ _ e2] at e
        exact absurd e.symm (hne q (by omega))
    · by_cases e2 : q = k
      · rw [e2, us_at, us_ne _ _ _ e1] at e
        exact absurd e (hne p (by omega))
      · rw [us_ne _ _ _ e1, us_ne _ _ _ e2] at e
        exact p4 p q (by omega) (by omega) e
/-- what a best so far becomes -/
def UP (b V : Int) : Prop := b = -1 ∨ b < V
def OU (n k : Nat) (o : Nat → Int) (V : Int) (tl : Nat → Int) (M M' : am_M) : Prop := (UP (M 72 32) V → M' 72 32 = V ∧ ∀ p, p < n → M' 90 p = if p < k then o p else tl (p - k)) ∧ (¬ UP (M 72 32) V → M' 72 32 = M 72 32 ∧ ∀ p, p < n → M' 90 p = M 90 p)
def lst1 (k : Nat) (o : Nat → Int) : Int := if k = 0 then -1 else o (k - 1)
/-- what trying orders may change -/
def tf (k : Nat) (M M' : am_M) : Prop := (∀ a, a ≠ 72 → a ≠ 79 → a ≠ 81 → a ≠ 82 → a ≠ 90 → M' a = M a) ∧ (∀ j, j ≠ 32 → M' 72 j = M 72 j) ∧ ∀ p, p < k → M' 79 p = M 79 p
def TFc (s : Nat → Int) (n y k : Nat) : Prop := ∀ (S : Nat) (M : am_M), M 73 = s → PX n k S (M 79) → ∃ M', cY y [rV 72, iV (k : Int), iV (S : Int)] M = some (0, M') ∧ tf k M M' ∧ OU n k (M 79) (acc s (M 79) k + RV s n (n - k) S (lst1 k (M 79))) (gp s n (n - k) S (lst1 k (M 79))) M M'
theorem PX_isP {n S : Nat} {o : Nat → Int} (h : PX n n S o) : isP n o := by
  refine ⟨fun p hp => ?_, h.2.2.2⟩
  obtain ⟨g, g1, g2, g3⟩ := h.2.1 p hp
  omega
theorem tf_leaf {s : Nat → Int} {n y : Nat} (hv : vT s) (hn : s 1 = (n : Int)) (h1 : 1 ≤ n)
    (E1 : ∀ (x1 x2 : Int) (M : am_M), x1 = M 73 1 → cY y [rV 72, iV x1, iV x2] M = am_cb (cY 105 [rV 72] M) (fun v1 M2 => if (M2 72 32) = ((-1)) then (cX y 23 [some (rV 72), some (iV x1), some (iV x2), some (iV v1), some (iV 0)] [] (am_up M2 72 32 v1)) else (if (M2 72 32) < v1 then (cX y 23 [some (rV 72), some (iV x1), some (iV x2), some (iV v1), some (iV 0)] [] (am_up M2 72 32 v1)) else (some (0, M2)))))
    (E23 : ∀ (x1 x4 : Int) (d2 d3 : Option am_V) (M : am_M), cX y 23 [some (rV 72), some (iV x1), d2, d3, some (iV x4)] [] M = if x4 < x1 then (r_bd 8 x4 (r_bd 8 x4 (r_ck (x4 + 1) (cX y 23 [some (rV 72), some (iV x1), none, none, some (iV (x4 + 1))] [] (am_up M 90 (Int.toNat x4) (M 79 (Int.toNat x4))))))) else (some (0, M))) : TFc s n y n := by
  have hb1 := hv.2.1
  intro S M hs hX
  have hP := PX_isP hX
  obtain ⟨M2, a1, a2, a3⟩ := p_laysNet M (M 79) n (by rw [hs]; exact hv) (by rw [hs]; exact hn) (fun _ _ => rfl) hP
  rw [hs] at a1
  have hnb := nets_bd hv hn hP n (by omega)
  have ev : acc s (M 79) n + RV s n (n - n) S (lst1 n (M 79)) = nets s (M 79) n n := by
    rw [Nat.sub_self, nets_acc hv hn hP h1]
    show acc s (M 79) n + stp s (lst1 n (M 79)) (-1) = _
    unfold lst1
    rw [if_neg (by omega)]
  rw [ev]
  have tk : ∃ M', cX y 23 [some (rV 72), some (iV (n : Int)), some (iV (S : Int)), some (iV (nets s (M 79) n n)), some (iV 0)] [] (am_up M2 72 32 (nets s (M 79) n n)) = some (0, M') ∧ tf n M M' ∧ M' 72 32 = nets s (M 79) n n ∧ ∀ p, p < n → M' 90 p = M 79 p := by
    have u : ∀ x, x ≠ 72 → (am_up M2 72 32 (nets s (M 79) n n)) x = M2 x := fun x hx => am_up_ne _ _ _ _ hx
    obtain ⟨d', M3, h3, i1, i2⟩ := lp_up (α := Option am_V × Option am_V) (X := fun k d M => cX y 23 [some (rV 72), some (iV (n : Int)), d.1, d.2, some (iV (k : Int))] [] M) (n := n) (I := fun k M' => (∀ x, x ≠ 90 → M' x = (am_up M2 72 32 (nets s (M 79) n n)) x) ∧ ∀ p, p < k → M' 90 p = M 79 p) (by
      intro k hk d M' hI
      obtain ⟨i1, i2⟩ := hI
      have hh := E23 (n : Int) (k : Int) d.1 d.2 M'
      have e79 : M' 79 k = M 79 k := by rw [i1 79 (by decide), u 79 (by decide), a2 79 (by decide) (by decide)]
      rw [if_pos (by omega), r_bd_ok (by omega) (by omega), r_bd_ok (by omega) (by omega), r_ck_ok (by omega) (by omega), Int.toNat_natCast, e79] at hh
      refine ⟨(none, none), _, hh, fun x hx => (am_up_ne _ _ _ _ hx).trans (i1 x hx), fun p hp => ?_⟩
      by_cases e : p = k
      · subst e; rw [am_up_at]
      · rw [am_up_nj _ _ _ _ e]; exact i2 p (by omega)) n 0 (by omega) (some (iV (S : Int)), some (iV (nets s (M 79) n n))) (am_up M2 72 32 (nets s (M 79) n n)) ⟨fun _ _ => rfl, fun p hp => by omega⟩
    refine ⟨M3, ?_, ⟨fun a x1 x2 x3 x4 x5 => by rw [i1 a x5, u a x1, a2 a x3 x4], fun j hj => by rw [i1 72 (by decide), am_up_nj _ _ _ _ hj, a2 72 (by decide) (by decide)], fun p hp => by rw [i1 79 (by decide), u 79 (by decide), a2 79 (by decide) (by decide)]⟩, by rw [i1 72 (by decide), am_up_at], i2⟩
    refine h3.trans ?_
    rw [E23, if_neg (by omega)]
  have e32 : M2 72 32 = M 72 32 := by rw [a2 72 (by decide) (by decide)]
  have up : UP (M 72 32) (nets s (M 79) n n) → ∃ M', (if (M2 72 32) = ((-1)) then (cX y 23 [some (rV 72), some (iV (n : Int)), some (iV (S : Int)), some (iV (nets s (M 79) n n)), some (iV 0)] [] (am_up M2 72 32 (nets s (M 79) n n))) else (if (M2 72 32) < nets s (M 79) n n then (cX y 23 [some (rV 72), some (iV (n : Int)), some (iV (S : Int)), some (iV (nets s (M 79) n n)), some (iV 0)] [] (am_up M2 72 32 (nets s (M 79) n n))) else (some (0, M2)))) = some (0, M') ∧ tf n M M' ∧ M' 72 32 = nets s (M 79) n n ∧ ∀ p, p < n → M' 90 p = M 79 p := by
    intro hu
    rw [e32]
    by_cases c : M 72 32 = -1
    · rw [if_pos c]; exact tk
    · rw [if_neg c, if_pos (hu.elim (fun x => absurd x c) id)]; exact tk
  rw [E1 (n : Int) (S : Int) M (by rw [hs, hn]), a1, am_cb_s]
  by_cases hu : UP (M 72 32) (nets s (M 79) n n)
  · obtain ⟨M', b1, b2, b3, b4⟩ := up hu
    exact ⟨M', b1, b2, fun _ => ⟨b3, fun p hp => by rw [if_pos hp]; exact b4 p hp⟩, fun h => absurd hu h⟩
  · have c1 : ¬ M 72 32 = -1 := fun h => hu (Or.inl h)
    have c2 : ¬ M 72 32 < nets s (M 79) n n := fun h => hu (Or.inr h)
    refine ⟨M2, by rw [e32, if_neg c1, if_neg c2], ⟨fun a x1 x2 x3 x4 x5 => a2 a x3 x4, fun j hj => by rw [a2 72 (by decide) (by decide)], fun p hp => by rw [a2 79 (by decide) (by decide)]⟩, fun h => absurd h hu, fun _ => ⟨e32, fun p hp => by rw [a2 90 (by decide) (by decide)]⟩⟩
theorem tf_step {s : Nat → Int} {n y y' k : Nat} (hv : vT s) (hn : s 1 = (n : Int)) (hk : k < n)
    (E1 : ∀ (x1 x2 : Int) (M : am_M), ¬ x1 = M 73 1 → cY y [rV 72, iV x1, iV x2] M = cX y 39 [some (rV 72), some (iV x1), some (iV x2), some (iV 0), none] [] M)
    (E39 : ∀ (x1 x2 x3 : Int) (d4 : Option am_V) (M : am_M), cX y 39 [some (rV 72), some (iV x1), some (iV x2), some (iV x3), d4] [] M = if x3 < (M 73 1) then (if (am_and (am_shr x2 x3) 1) = 1 then (r_ck (x3 + 1) (cX y 39 [some (rV 72), some (iV x1), some (iV x2), some (iV (x3 + 1)), none] [] M)) else (r_bd 8 x1 (r_ck (x1 + 1) (am_cb (cY y' [rV 72, iV (x1 + 1), iV (am_or x2 (am_shl 1 x3))] (am_up M 79 (Int.toNat x1) x3)) (fun _ M2 => r_ck (x3 + 1) (cX y 39 [some (rV 72), some (iV x1), some (iV x2), some (iV (x3 + 1)), none] [] M2)))))) else (some (0, M)))
    (ih : TFc s n y' (k + 1)) : TFc s n y k := by
  have hb1 := hv.2.1
  have hp2 : 2 ^ n ≤ 2 ^ 8 := Nat.pow_le_pow_right (by omega) (by omega)
  intro S M hs hX
  obtain ⟨o, ho⟩ : ∃ o, M 79 = o := ⟨_, rfl⟩
  rw [ho] at hX ⊢
  have hl : -1 ≤ lst1 k o ∧ lst1 k o < (n : Int) := by
    unfold lst1
    by_cases c : k = 0
    · rw [if_pos c]; omega
    · rw [if_neg c]
      obtain ⟨f, f1, f2, f3⟩ := hX.2.1 (k - 1) (by omega)
      omega
  have hab : ∀ q : Nat, q ≤ k → 10080 - 600 * (q : Int) ≤ acc s o q ∧ acc s o q ≤ 10080 + 600 * (q : Int) := by
    intro q
    induction q with
    | zero => intro _; show _ ≤ (10080 : Int) ∧ (10080 : Int) ≤ _; omega
    | succ q ihq =>
      intro hq
      have h1 := ihq (by omega)
      obtain ⟨f, f1, f2, f3⟩ := hX.2.1 q (by omega)
      have h2 : -1 ≤ (if q = 0 then -1 else o (q - 1)) ∧ (if q = 0 then -1 else o (q - 1)) < (n : Int) := by
        by_cases c : q = 0
        · rw [if_pos c]; omega
        · rw [if_neg c]
          obtain ⟨f, f1, f2, f3⟩ := hX.2.1 (q - 1) (by omega)
          omega
      have h3 := stp_bd hv hn h2 (b := o q) (by omega)
      show _ ≤ acc s o q + stp s (if q = 0 then -1 else o (q - 1)) (o q) ∧ acc s o q + stp s (if q = 0 then -1 else o (q - 1)) (o q) ≤ _
      omega
  have hA := hab k (Nat.le_refl k)
  obtain ⟨j, hj⟩ : ∃ j, n - k = j + 1 := ⟨n - k - 1, by omega⟩
  have ej : n - (k + 1) = j := by omega
  obtain ⟨g, hg⟩ : ∃ g, wth s n j S (lst1 k o) = g := ⟨_, rfl⟩
  have hgb : ∀ f, f < n → -5400 ≤ g f ∧ g f ≤ 5400 := fun f hf => by
    have := wth_bd hv hn (j := j) (S := S) hl hf
    rw [hg] at this
    omega
  obtain ⟨d', M1, h1, i1, i2⟩ := lp_up (α := Option am_V) (X := fun m d M => cX y 39 [some (rV 72), some (iV (k : Int)), some (iV (S : Int)), some (iV (m : Int)), d] [] M) (n := n) (I := fun m M' => tf k M M' ∧ (((bnp g S m).1 = -1 ∧ M' 72 32 = M 72 32 ∧ ∀ p, p < n → M' 90 p = M 90 p) ∨ ∃ f : Nat, f < n ∧ (bnp g S m).1 = (f : Int) ∧ OU n k o (acc s o k + (bnp g S m).2) (fun i => if i = 0 then (f : Int) else gp s n j (S ||| 2 ^ f) (f : Int) (i - 1)) M M')) (by
    intro m hm d M' hI
    obtain ⟨i1, i2⟩ := hI
    have s1 : M' 73 = s := by rw [i1.1 73 (by decide) (by decide) (by decide) (by decide) (by decide), hs]
    have hh := E39 (k : Int) (S : Int) (m : Int) d M'
    have es : bnp g S (m + 1) = if S.testBit m = true then bnp g S m else if (bnp g S m).1 = -1 ∨ (bnp g S m).2 < g m then ((m : Int), g m) else bnp g S m := rfl
    rw [s1, hn, if_pos (by omega), b_bit (by have := hX.1; omega) (by omega)] at hh
    by_cases c : S.testBit m = true
    · rw [if_pos c] at es
      rw [if_pos c, if_pos rfl, r_ck_ok (by omega) (by omega)] at hh
      refine ⟨none, M', hh, i1, ?_⟩
      rw [es]
      exact i2
    · have cb : S.testBit m = false := by simpa using c
      rw [if_neg c] at es
      have eo : am_or (S : Int) (am_shl 1 (m : Int)) = ((S ||| 2 ^ m : Nat) : Int) := b_setf ⟨S, by have := hX.1; omega⟩ ⟨m, by omega⟩
      have o79 : ∀ p, p < k → M' 79 p = o p := fun p hp => by rw [i1.2.2 p hp, ho]
      have eu : (am_up M' 79 k (m : Int)) 79 = us (M' 79) k (m : Int) := up_us _ _ _ _
      have hPX' : PX n k S (M' 79) := ⟨hX.1, fun p hp => by rw [o79 p hp]; exact hX.2.1 p hp, fun f hf => by
        obtain ⟨p, p1, p2⟩ := hX.2.2.1 f hf
        exact ⟨p, p1, by rw [o79 p p1]; exact p2⟩, fun p q hp hq e => hX.2.2.2 p q hp hq (by rw [← o79 p hp, ← o79 q hq]; exact e)⟩
      obtain ⟨M2, b1, b2, b3⟩ := ih (S ||| 2 ^ m) (am_up M' 79 k (m : Int)) (by rw [am_up_ne _ _ _ _ (by decide)]; exact s1) (by rw [eu]; exact PX_add (by omega) hPX' hm cb)
      have b1 : cY y' [rV 72, iV ((k : Int) + 1), iV ((S ||| 2 ^ m : Nat) : Int)] (am_up M' 79 k (m : Int)) = some (0, M2) := b1
      rw [if_neg c, if_neg (by decide), r_bd_ok (by omega) (by omega), r_ck_ok (by omega) (by omega), eo, Int.toNat_natCast, b1, am_cb_s, r_ck_ok (by omega) (by omega)] at hh
      -- the value of this branch
      have eL : lst1 (k + 1) ((am_up M' 79 k (m : Int)) 79) = (m : Int) := by
        unfold lst1
        rw [if_neg (by omega), show k + 1 - 1 = k by omega, eu, us_at]
      have eA : acc s ((am_up M' 79 k (m : Int)) 79) (k + 1) = acc s o k + stp s (lst1 k o) (m : Int) := by
        show acc s ((am_up M' 79 k (m : Int)) 79) k + stp s (if k = 0 then -1 else (am_up M' 79 k (m : Int)) 79 (k - 1)) ((am_up M' 79 k (m : Int)) 79 k) = _
        rw [eu, us_at, acc_eq (o := o) k (fun p hp => by rw [us_ne _ _ _ (by omega)]; exact o79 p hp)]
        unfold lst1
        by_cases z : k = 0
        · rw [if_pos z, if_pos z]
        · rw [if_neg z, if_neg z, us_ne _ _ _ (by omega), o79 (k - 1) (by omega)]
      have eV : acc s ((am_up M' 79 k (m : Int)) 79) (k + 1) + RV s n (n - (k + 1)) (S ||| 2 ^ m) (lst1 (k + 1) ((am_up M' 79 k (m : Int)) 79)) = acc s o k + g m := by
        rw [eL, eA, ej, ← hg]
        unfold wth
        omega
      rw [eV, eL, ej] at b3
      have e32 : (am_up M' 79 k (m : Int)) 72 32 = M' 72 32 := by rw [am_up_ne _ _ _ _ (by decide)]
      have e90 : (am_up M' 79 k (m : Int)) 90 = M' 90 := am_up_ne _ _ _ _ (by decide)
      have tf2 : tf k M M2 := by
        refine ⟨fun a x1 x2 x3 x4 x5 => by rw [b2.1 a x1 x2 x3 x4 x5, am_up_ne _ _ _ _ x2, i1.1 a x1 x2 x3 x4 x5], fun q hq => by rw [b2.2.1 q hq, am_up_ne _ _ _ _ (by decide), i1.2.1 q hq], fun p hp => by rw [b2.2.2 p (by omega), eu, us_ne _ _ _ (by omega), i1.2.2 p hp]⟩
      -- what this branch does to the best
      have upd : UP (M' 72 32) (acc s o k + g m) → M2 72 32 = acc s o k + g m ∧ ∀ p, p < n → M2 90 p = if p < k then o p else (fun i => if i = 0 then (m : Int) else gp s n j (S ||| 2 ^ m) (m : Int) (i - 1)) (p - k) := fun hu => by
        obtain ⟨y1, y2⟩ := b3.1 (by rw [e32]; exact hu)
        refine ⟨y1, fun p hp => ?_⟩
        rw [y2 p hp]
        by_cases z1 : p < k
        · rw [if_pos (by omega), if_pos z1, eu, us_ne _ _ _ (by omega), o79 p z1]
        · rw [if_neg z1]
          by_cases z2 : p = k
          · rw [if_pos (by omega), eu, z2, us_at]
            show _ = if k - k = 0 then (m : Int) else _
            rw [if_pos (by omega)]
          · rw [if_neg (by omega)]
            show _ = if p - k = 0 then (m : Int) else gp s n j (S ||| 2 ^ m) (m : Int) (p - k - 1)
            rw [if_neg (by omega), show p - (k + 1) = p - k - 1 by omega]
      have nop : ¬ UP (M' 72 32) (acc s o k + g m) → M2 72 32 = M' 72 32 ∧ ∀ p, p < n → M2 90 p = M' 90 p := fun hu => by
        obtain ⟨y1, y2⟩ := b3.2 (by rw [e32]; exact hu)
        rw [e32] at y1
        rw [e90] at y2
        exact ⟨y1, y2⟩
      have hgm := hgb m hm
      refine ⟨none, M2, hh, tf2, Or.inr ?_⟩
      rcases i2 with ⟨q1, q2, q3⟩ | ⟨f, q0, q1, q2, q3⟩
      · rw [if_pos (Or.inl q1)] at es
        refine ⟨m, hm, by rw [es], ?_⟩
        rw [es]
        refine ⟨fun hu => upd (by rw [q2]; exact hu), fun hu => ?_⟩
        obtain ⟨y1, y2⟩ := nop (by rw [q2]; exact hu)
        exact ⟨by rw [y1, q2], fun p hp => by rw [y2 p hp, q3 p hp]⟩
      · by_cases c2 : (bnp g S m).2 < g m
        · rw [if_pos (Or.inr c2)] at es
          refine ⟨m, hm, by rw [es], ?_⟩
          rw [es]
          by_cases hu0 : UP (M 72 32) (acc s o k + (bnp g S m).2)
          · obtain ⟨z1, z2⟩ := q2 hu0
            refine ⟨fun _ => upd (Or.inr (by rw [z1]; show acc s o k + (bnp g S m).2 < acc s o k + g m; omega)), fun hu => absurd (hu0.elim Or.inl (fun x => Or.inr (by show M 72 32 < acc s o k + g m; omega))) hu⟩
          · obtain ⟨z1, z2⟩ := q3 hu0
            refine ⟨fun hu => upd (by rw [z1]; exact hu), fun hu => ?_⟩
            obtain ⟨y1, y2⟩ := nop (by rw [z1]; exact hu)
            exact ⟨by rw [y1, z1], fun p hp => by rw [y2 p hp, z2 p hp]⟩
        · rw [if_neg (fun h => h.elim (fun x => by omega) c2)] at es
          refine ⟨f, q0, by rw [es]; exact q1, ?_⟩
          rw [es]
          have hfv : (bnp g S m).2 = g f := by
            rcases bnp_ok g S m with ⟨h1, -, -⟩ | ⟨f', h1, -, h3, h4⟩
            · omega
            · have : f' = f := by omega
              rw [h4, this]
          have hgf := hgb f q0
          by_cases hu0 : UP (M 72 32) (acc s o k + (bnp g S m).2)
          · obtain ⟨z1, z2⟩ := q2 hu0
            obtain ⟨y1, y2⟩ := nop (by rw [z1]; rintro (h | h); omega; omega)
            exact ⟨fun _ => ⟨by rw [y1, z1], fun p hp => by rw [y2 p hp, z2 p hp]⟩, fun hu => absurd hu0 hu⟩
          · obtain ⟨z1, z2⟩ := q3 hu0
            obtain ⟨y1, y2⟩ := nop (by
              rw [z1]
              rintro (h | h)
              · exact hu0 (Or.inl h)
              · exact hu0 (Or.inr (by show M 72 32 < acc s o k + (bnp g S m).2; omega)))
            exact ⟨fun hu => absurd hu hu0, fun _ => ⟨by rw [y1, z1], fun p hp => by rw [y2 p hp, z2 p hp]⟩⟩) n 0 (by omega) none M ⟨⟨fun _ _ _ _ _ _ => rfl, fun _ _ => rfl, fun _ _ => rfl⟩, Or.inl ⟨rfl, rfl, fun _ _ => rfl⟩⟩
  -- some field is left
  have hex : ∃ f, f < n ∧ S.testBit f = false := by
    refine Classical.byContradiction (fun hno => ?_)
    have hall : ∀ f, f < n → S.testBit f = true := fun f hf => by
      cases hb : S.testBit f with
      | true => rfl
      | false => exact absurd ⟨f, hf, hb⟩ hno
    -- n fields at k places
    have hsur : ∀ f, f < n → ∃ p, p < k ∧ o p = (f : Int) := fun f hf => hX.2.2.1 f (hall f hf)
    have hPk : isP k o := by
      refine ⟨fun p hp => ?_, hX.2.2.2⟩
      obtain ⟨f, f1, f2, f3⟩ := hX.2.1 p hp
      refine ⟨by omega, ?_⟩
      refine Classical.byContradiction (fun hge => ?_)
      -- the places of 0 .. k, k + 1 fields, are k
      obtain ⟨pl0, hpl⟩ : ∃ pl0 : Nat → Nat, ∀ f, f < n → pl0 f < k ∧ o (pl0 f) = (f : Int) := ⟨fun f => if h : f < n then Classical.choose (hsur f h) else 0, fun f hf => by
        have := Classical.choose_spec (hsur f hf)
        simp only [dif_pos hf]
        exact this⟩
      obtain ⟨q, q1, q2⟩ := inj_sur k pl0 (fun p hp => (hpl p (by omega)).1) (fun a b ha hb hab => by
        have h1 := (hpl a (by omega)).2
        have h2 := (hpl b (by omega)).2
        rw [hab] at h1
        omega) (pl0 f) (hpl f f2).1
      have h1 := (hpl q (by omega)).2
      have h2 := (hpl f f2).2
      rw [q2] at h1
      omega
    obtain ⟨p, p1, p2⟩ := hsur k hk
    have := hPk.1 p p1
    omega
  obtain ⟨f, y1, y2, y3, y4⟩ := NX_ok (s := s) (n := n) (j := j) (S := S) (l := lst1 k o) hex
  have y3' : (bnp g S n).1 = (f : Int) := by rw [← hg]; exact y3
  rcases i2 with ⟨q1, -⟩ | ⟨f', q0, q1, q2⟩
  · omega
  · have ef : f' = f := by omega
    subst ef
    refine ⟨M1, ?_, i1, ?_⟩
    · rw [E1 (k : Int) (S : Int) M (by rw [hs, hn]; omega)]
      refine h1.trans ?_
      rw [E39, i1.1 73 (by decide) (by decide) (by decide) (by decide) (by decide), hs, hn, if_neg (by omega)]
    · rw [hj]
      have e1 : RV s n (j + 1) S (lst1 k o) = (bnp g S n).2 := by rw [← hg]; exact RV_s s n j S (lst1 k o)
      have e2 : gp s n (j + 1) S (lst1 k o) = fun i => if i = 0 then (f' : Int) else gp s n j (S ||| 2 ^ f') (f' : Int) (i - 1) := by
        funext i
        show (if i = 0 then NX s n j S (lst1 k o) else gp s n j (S ||| 2 ^ (NX s n j S (lst1 k o)).toNat) (NX s n j S (lst1 k o)) (i - 1)) = _
        rw [y3, Int.toNat_natCast]
      rw [e1, e2]
      exact q2
theorem tf_0 {s : Nat → Int} {n : Nat} (hv : vT s) (hn : s 1 = (n : Int)) (h1 : 1 ≤ n) : TFc s n 140 0 := by
  have hb1 := hv.2.1
  have lf : ∀ k y, k = n → TFc s n y n → TFc s n y k := fun k y e h => by rw [e]; exact h
  have c8 : 8 ≤ n → TFc s n 148 8 := fun h => lf 8 148 (by omega) (tf_leaf hv hn h1 (fun x1 x2 M hx => by rw [e_Model_tries_8, if_pos hx]) e_Model_tries_8_23)
  have c7 : 7 ≤ n → TFc s n 147 7 := fun h => by
    by_cases e : 7 = n
    · exact lf 7 147 e (tf_leaf hv hn h1 (fun x1 x2 M hx => by rw [e_Model_tries_7, if_pos hx]) e_Model_tries_7_23)
    · exact tf_step hv hn (by omega) (fun x1 x2 M hx => by rw [e_Model_tries_7, if_neg hx]) e_Model_tries_7_39 (c8 (by omega))
  have c6 : 6 ≤ n → TFc s n 146 6 := fun h => by
    by_cases e : 6 = n
    · exact lf 6 146 e (tf_leaf hv hn h1 (fun x1 x2 M hx => by rw [e_Model_tries_6, if_pos hx]) e_Model_tries_6_23)
    · exact tf_step hv hn (by omega) (fun x1 x2 M hx => by rw [e_Model_tries_6, if_neg hx]) e_Model_tries_6_39 (c7 (by omega))
  have c5 : 5 ≤ n → TFc s n 145 5 := fun h => by
    by_cases e : 5 = n
    · exact lf 5 145 e (tf_leaf hv hn h1 (fun x1 x2 M hx => by rw [e_Model_tries_5, if_pos hx]) e_Model_tries_5_23)
    · exact tf_step hv hn (by omega) (fun x1 x2 M hx => by rw [e_Model_tries_5, if_neg hx]) e_Model_tries_5_39 (c6 (by omega))
  have c4 : 4 ≤ n → TFc s n 144 4 := fun h => by
    by_cases e : 4 = n
    · exact lf 4 144 e (tf_leaf hv hn h1 (fun x1 x2 M hx => by rw [e_Model_tries_4, if_pos hx]) e_Model_tries_4_23)
    · exact tf_step hv hn (by omega) (fun x1 x2 M hx => by rw [e_Model_tries_4, if_neg hx]) e_Model_tries_4_39 (c5 (by omega))
  have c3 : 3 ≤ n → TFc s n 143 3 := fun h => by
    by_cases e : 3 = n
    · exact lf 3 143 e (tf_leaf hv hn h1 (fun x1 x2 M hx => by rw [e_Model_tries_3, if_pos hx]) e_Model_tries_3_23)
    · exact tf_step hv hn (by omega) (fun x1 x2 M hx => by rw [e_Model_tries_3, if_neg hx]) e_Model_tries_3_39 (c4 (by omega))
  have c2 : 2 ≤ n → TFc s n 142 2 := fun h => by
    by_cases e : 2 = n
    · exact lf 2 142 e (tf_leaf hv hn h1 (fun x1 x2 M hx => by rw [e_Model_tries_2, if_pos hx]) e_Model_tries_2_23)
    · exact tf_step hv hn (by omega) (fun x1 x2 M hx => by rw [e_Model_tries_2, if_neg hx]) e_Model_tries_2_39 (c3 (by omega))
  have c1 : 1 ≤ n → TFc s n 141 1 := fun h => by
    by_cases e : 1 = n
    · exact lf 1 141 e (tf_leaf hv hn h1 (fun x1 x2 M hx => by rw [e_Model_tries_1, if_pos hx]) e_Model_tries_1_23)
    · exact tf_step hv hn (by omega) (fun x1 x2 M hx => by rw [e_Model_tries_1, if_neg hx]) e_Model_tries_1_39 (c2 (by omega))
  exact tf_step hv hn (by omega) (fun x1 x2 M hx => by rw [e_Model_tries_0, if_neg hx]) e_Model_tries_0_39 (c1 (by omega))
theorem o34 : lw_O34 RI := by
  intro a ha M hR hM
  have hR2 : RI (am_up M 72 6 0) := RI_mf (mf_up (mf.rf M) (by omega)) hR
  obtain ⟨r1, r2, r3, r4, r5, r6, r7, r8, r9, r10, r11⟩ := id hR
  have hb1 := r1.2.1
  obtain ⟨n, hn⟩ : ∃ n : Nat, M 73 1 = (n : Int) := ⟨(M 73 1).toNat, by omega⟩
  have e0 : M 0 4 = (n : Int) := by rw [← hn]; exact r2.2.1
  have e73 : (am_up M 72 6 0) 73 = M 73 := am_up_ne M 72 6 0 (by decide)
  by_cases h1 : a < -1
  · refine ⟨-3, M, am_up M 72 6 0, ?_, ?_, hR2⟩
    · rw [e_Desk_order, if_pos h1]
    · rw [e_Model_order, if_pos h1]
  · by_cases h0 : n = 0
    · refine ⟨-5, M, am_up M 72 6 0, ?_, ?_, hR2⟩
      · rw [e_Desk_order, if_neg h1, e0, if_pos (by omega)]
      · rw [e_Model_order, if_neg h1, hn, if_pos (by omega)]
    · by_cases h2 : a < (n : Int)
      · obtain ⟨s, hs⟩ : ∃ s, M 73 = s := ⟨_, rfl⟩
        rw [hs] at r1 r2 r11 hn hb1
        obtain ⟨M1, a1, a2, a3, a4⟩ := p_search M s n r1 hn (by omega) (cC_of r1 r2 (md.rf s))
        have k1 : ∀ x, x < 60 ∨ 62 < x → M1 x = M x := fun x hx => a2 x (by omega) (by omega) (by omega)
        have hR1 : RI M1 := RI_cf (fun x hx => k1 x (by omega)) hR
        have hR3 : RI (am_up M1 72 6 0) := RI_mf (mf_up (mf.rf M1) (by omega)) hR1
        have u : ∀ x, x ≠ 72 → (am_up (am_up M1 72 6 0) 72 32 (-1)) x = M1 x := fun x hx => by rw [am_up_ne _ _ _ _ hx, am_up_ne _ _ _ _ hx]
        obtain ⟨M2, b1, b2, b3⟩ := tf_0 r1 hn (by omega) 0 (am_up (am_up M1 72 6 0) 72 32 (-1)) (by rw [u 73 (by decide), k1 73 (by omega), hs]) ⟨Nat.one_le_two_pow, fun p hp => by omega, fun f hf => (by rw [Nat.zero_testBit] at hf; cases hf), fun p q hp => by omega⟩
        have b1 : cY 140 [rV 72, iV 0, iV 0] (am_up (am_up M1 72 6 0) 72 32 (-1)) = some (0, M2) := b1
        obtain ⟨y1, y2⟩ := b3.1 (Or.inl (am_up_at _ _ _ _))
        rw [Nat.sub_zero] at y1 y2
        have y1 : M2 72 32 = 10080 + RV s n n 0 (-1) := y1
        have y2 : ∀ p, p < n → M2 90 p = gp s n n 0 (-1) p := fun p hp => by
          have := y2 p hp
          rw [if_neg (by omega), Nat.sub_zero] at this
          exact this
        have mfe : mf (am_up M1 72 6 0) M2 := by
          refine (mf_up (mf.rf _) (j := 32) (v := -1) (by omega)).tr ⟨fun x x1 x2 => b2.1 x x1 (by omega) (by omega) (by omega) (by omega), b2.2.1 5 (by decide), b2.2.1 8 (by decide), b2.2.1 11 (by decide), b2.2.1 12 (by decide)⟩
        refine ⟨if a = -1 then 10080 + RV s n n 0 (-1) else gp s n n 0 (-1) a.toNat, M1, M2, ?_, ?_, RI_mf mfe hR3⟩
        · rw [e_Desk_order, if_neg h1, e0, if_neg (by omega), if_pos h2, a1, am_cb_s]
          by_cases z : a = -1
          · rw [if_pos z, if_pos z, a3]
          · rw [if_neg z, if_neg z, r_bd_ok (by omega) (by omega), a4 a.toNat (by omega)]
        · rw [e_Model_order, if_neg h1, k1 73 (by omega), hs, hn, if_neg (by omega), if_pos h2, b1, am_cb_s]
          by_cases z : a = -1
          · rw [if_pos z, if_pos z, y1]
          · rw [if_neg z, if_neg z, r_bd_ok (by omega) (by omega), y2 a.toNat (by omega)]
      · refine ⟨-1, M, am_up M 72 6 0, ?_, ?_, hR2⟩
        · rw [e_Desk_order, if_neg h1, e0, if_neg (by omega), if_neg h2]
        · rw [e_Model_order, if_neg h1, hn, if_neg (by omega), if_neg h2]
