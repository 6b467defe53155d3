-- reading: runs of a text
def rnn (P : Int → Bool) (t : Nat → Int) : Nat → Nat → Nat
  | 0, p => p
  | k + 1, p => if P (t p) = true then rnn P t k (p + 1) else p
def run (P : Int → Bool) (t : Nat → Int) (e p : Nat) : Nat := rnn P t (e - p) p
theorem run_s (P : Int → Bool) (t : Nat → Int) {e p : Nat} (h : p < e) : run P t e p = if P (t p) = true then run P t e (p + 1) else p := by
  unfold run
  rw [show e - p = (e - (p + 1)) + 1 by omega]
  rfl
theorem run_e (P : Int → Bool) (t : Nat → Int) {e p : Nat} (h : e ≤ p) : run P t e p = p := by
  unfold run
  rw [show e - p = 0 by omega]
  rfl
theorem run_ok (P : Int → Bool) (t : Nat → Int) (e : Nat) : ∀ k p, p + k = e → p ≤ run P t e p ∧ run P t e p ≤ e ∧ (∀ i, p ≤ i → i < run P t e p → P (t i) = true) ∧ (run P t e p < e → P (t (run P t e p)) = false) := by
  intro k
  induction k with
  | zero =>
    intro p hp
    rw [run_e P t (by omega)]
    exact ⟨by omega, by omega, fun i h1 h2 => by omega, fun h => by omega⟩
  | succ k ih =>
    intro p hp
    rw [run_s P t (by omega)]
    by_cases c : P (t p) = true
    · rw [if_pos c]
      obtain ⟨a1, a2, a3, a4⟩ := ih (p + 1) (by omega)
      exact ⟨by omega, a2, fun i h1 h2 => by
        by_cases e1 : i = p
        · rw [e1]; exact c
        · exact a3 i (by omega) h2, a4⟩
    · rw [if_neg c]
      exact ⟨by omega, by omega, fun i h1 h2 => by omega, fun _ => by simpa using c⟩
theorem run_id (P : Int → Bool) (t : Nat → Int) {e p : Nat} (h : p ≤ e) : run P t e (run P t e p) = run P t e p := by
  obtain ⟨a1, a2, a3, a4⟩ := run_ok P t e (e - p) p (by omega)
  by_cases c : run P t e p < e
  · rw [run_s P t c, a4 c, if_neg (by decide)]
  · exact run_e P t (by omega)
def bB (c : Int) : Bool := decide (c = 32)
def dB (c : Int) : Bool := decide (48 ≤ c ∧ c ≤ 57)
def lB (c : Int) : Bool := decide (97 ≤ c ∧ c ≤ 122)
/-- a number's value: five digits at most -/
def nvl (t : Nat → Int) (q : Nat) : Nat → Int
  | 0 => 0
  | k + 1 => if k < 5 then nvl t q k * 10 + t (q + k) - 48 else nvl t q k
theorem nvl_bd {t : Nat → Int} {q : Nat} : ∀ k, (∀ i, i < k → dB (t (q + i)) = true) → 0 ≤ nvl t q k ∧ nvl t q k ≤ 99999 ∧ (k ≤ 5 → nvl t q k < 10 ^ k) := by
  intro k
  induction k with
  | zero => intro _; exact ⟨Int.le_refl 0, by show (0 : Int) ≤ 99999; omega, fun _ => by show (0 : Int) < 1; omega⟩
  | succ k ih =>
    intro h
    obtain ⟨h1, h2, h3⟩ := ih (fun i hi => h i (by omega))
    have hd : 48 ≤ t (q + k) ∧ t (q + k) ≤ 57 := by have := h k (by omega); unfold dB at this; rwa [decide_eq_true_iff] at this
    show 0 ≤ (if k < 5 then nvl t q k * 10 + t (q + k) - 48 else nvl t q k) ∧ (if k < 5 then nvl t q k * 10 + t (q + k) - 48 else nvl t q k) ≤ 99999 ∧ (k + 1 ≤ 5 → (if k < 5 then nvl t q k * 10 + t (q + k) - 48 else nvl t q k) < 10 ^ (k + 1))
    by_cases c : k < 5
    · have h4 := h3 (by omega)
      have h5 : (10 : Int) ^ k ≤ 10000 := by
        have := Nat.pow_le_pow_right (show 1 ≤ 10 by omega) (show k ≤ 4 by omega)
        have e : ((10 ^ k : Nat) : Int) = (10 : Int) ^ k := by rw [Int.natCast_pow]; rfl
        omega
      rw [if_pos c, Int.pow_succ]
      exact ⟨by omega, by omega, fun _ => by omega⟩
    · rw [if_neg c]
      exact ⟨h1, h2, fun h => by omega⟩
def nce (t : Nat → Int) (e q : Nat) (lo hi : Int) : Int := if run dB t e q = q then 1 else if 5 < run dB t e q - q ∨ nvl t q (run dB t e q - q) < lo ∨ hi < nvl t q (run dB t e q - q) then 2 else 0
def rwc (w c : Int) : Int := if w = 0 then c else w
def rac (w wa c pl : Int) : Int := if w = 0 ∧ c ≠ 0 then pl else wa
-- the class's reader
def CS (M0 : am_M) (p : Nat) (w wa : Int) (M : am_M) : Prop := (∀ a, a ≠ 34 → M a = M0 a) ∧ (∀ j, j ≠ 4 → j ≠ 5 → j ≠ 6 → j ≠ 7 → j ≠ 8 → M 34 j = M0 34 j) ∧ M 34 4 = (p : Int) ∧ M 34 7 = w ∧ M 34 8 = wa
theorem CS_4 {M0 M : am_M} {p q : Nat} {w wa : Int} (h : CS M0 p w wa M) : CS M0 q w wa (am_up M 34 4 (q : Int)) := ⟨fun a ha => (am_up_ne _ _ _ _ ha).trans (h.1 a ha), fun j x1 x2 x3 x4 x5 => (am_up_nj _ _ _ _ x1).trans (h.2.1 j x1 x2 x3 x4 x5), am_up_at _ _ _ _, (am_up_nj _ _ _ _ (by decide)).trans h.2.2.2.1, (am_up_nj _ _ _ _ (by decide)).trans h.2.2.2.2⟩
theorem CS_56 {M0 M : am_M} {p j : Nat} {w wa v : Int} (h : CS M0 p w wa M) (hj : j = 5 ∨ j = 6) : CS M0 p w wa (am_up M 34 j v) := ⟨fun a ha => (am_up_ne _ _ _ _ ha).trans (h.1 a ha), fun i x1 x2 x3 x4 x5 => (am_up_nj _ _ _ _ (by omega)).trans (h.2.1 i x1 x2 x3 x4 x5), (am_up_nj _ _ _ _ (by omega)).trans h.2.2.1, (am_up_nj _ _ _ _ (by omega)).trans h.2.2.2.1, (am_up_nj _ _ _ _ (by omega)).trans h.2.2.2.2⟩
section
variable {M0 : am_M} {e : Nat}
theorem p_skip (he : M0 34 3 = (e : Int)) (h8 : e ≤ 800) : ∀ (k p : Nat) (w wa : Int) (M : am_M), p + k = e → CS M0 p w wa M → ∃ M', cX 212 0 [some (rV 34)] [] M = some (0, M') ∧ CS M0 (run bB (M0 35) e p) w wa M' ∧ M' 34 5 = M 34 5 ∧ M' 34 6 = M 34 6 := by
  intro k
  induction k with
  | zero =>
    intro p w wa M hp hC
    rw [run_e bB _ (by omega)]
    have e3 : M 34 3 = (e : Int) := by rw [hC.2.1 3 (by decide) (by decide) (by decide) (by decide) (by decide)]; exact he
    exact ⟨M, by rw [e_Reader_skipBlanks_0, hC.2.2.1, e3, if_neg (by omega)], hC, rfl, rfl⟩
  | succ k ih =>
    intro p w wa M hp hC
    have e3 : M 34 3 = (e : Int) := by rw [hC.2.1 3 (by decide) (by decide) (by decide) (by decide) (by decide)]; exact he
    rw [run_s bB _ (by omega), e_Reader_skipBlanks_0, hC.2.2.1, e3, if_pos (by omega), r_bd_ok (by omega) (by omega), Int.toNat_natCast, hC.1 35 (by decide)]
    by_cases c : M0 35 p = 32
    · have cb : bB (M0 35 p) = true := by unfold bB; rw [decide_eq_true c]
      rw [if_pos c, if_pos cb, r_ck_ok (by omega) (by omega)]
      obtain ⟨M', a1, a2, a3, a4⟩ := ih (p + 1) w wa (am_up M 34 4 ((p + 1 : Nat) : Int)) (by omega) (CS_4 hC)
      exact ⟨M', a1, a2, by rw [a3, am_up_nj _ _ _ _ (by decide)], by rw [a4, am_up_nj _ _ _ _ (by decide)]⟩
    · have cb : ¬ bB (M0 35 p) = true := by unfold bB; rw [decide_eq_true_iff]; exact c
      rw [if_neg c, if_neg cb]
      exact ⟨M, rfl, hC, rfl, rfl⟩
theorem p_skipBlanks (he : M0 34 3 = (e : Int)) (h8 : e ≤ 800) {p : Nat} {w wa : Int} {M : am_M} (hp : p ≤ e) (hC : CS M0 p w wa M) : ∃ M', cY 212 [rV 34] M = some (0, M') ∧ CS M0 (run bB (M0 35) e p) w wa M' ∧ M' 34 5 = M 34 5 ∧ M' 34 6 = M 34 6 := by
  rw [e_Reader_skipBlanks]
  exact p_skip he h8 (e - p) p w wa M (by omega) hC
theorem p_refuse {p : Nat} {w wa c pl : Int} {M : am_M} (hc : c ≠ 0) (hC : CS M0 p w wa M) : ∃ M', cY 213 [rV 34, iV c, iV pl] M = some (0, M') ∧ CS M0 p (rwc w c) (rac w wa c pl) M' ∧ M' 34 5 = M 34 5 ∧ M' 34 6 = M 34 6 := by
  unfold rwc rac
  rw [e_Reader_refuse, hC.2.2.2.1]
  by_cases z : w = 0
  · rw [if_pos z, if_pos z, if_pos ⟨z, hc⟩]
    refine ⟨_, rfl, ⟨fun a ha => by rw [am_up_ne _ _ _ _ ha, am_up_ne _ _ _ _ ha, hC.1 a ha], fun j x1 x2 x3 x4 x5 => by rw [am_up_nj _ _ _ _ x5, am_up_nj _ _ _ _ x4, hC.2.1 j x1 x2 x3 x4 x5], by rw [am_up_nj _ _ _ _ (by decide), am_up_nj _ _ _ _ (by decide)]; exact hC.2.2.1, by rw [am_up_nj _ _ _ _ (by decide), am_up_at], am_up_at _ _ _ _⟩, by rw [am_up_nj _ _ _ _ (by decide), am_up_nj _ _ _ _ (by decide)], by rw [am_up_nj _ _ _ _ (by decide), am_up_nj _ _ _ _ (by decide)]⟩
  · rw [if_neg z, if_neg z, if_neg (fun h => z h.1)]
    exact ⟨M, rfl, hC, rfl, rfl⟩
theorem p_num (he : M0 34 3 = (e : Int)) (h8 : e ≤ 800) (lo hi : Int) {p : Nat} {w wa : Int} {M : am_M} (hp : p ≤ e) (hC : CS M0 p w wa M) (q : Nat) (hq : run bB (M0 35) e p = q) : ∃ M', cY 206 [rV 34, iV lo, iV hi] M = some (nvl (M0 35) q (run dB (M0 35) e q - q), M') ∧ CS M0 (run dB (M0 35) e q) (rwc w (nce (M0 35) e q lo hi)) (rac w wa (nce (M0 35) e q lo hi) (q : Int)) M' := by
  obtain ⟨M1, a1, a2, a3, a4⟩ := p_skipBlanks he h8 hp hC
  rw [hq] at a2
  have hqe : q ≤ e := by rw [← hq]; exact (run_ok bB (M0 35) e (e - p) p (by omega)).2.1
  obtain ⟨d1, d2, d3, d4⟩ := run_ok dB (M0 35) e (e - q) q (by omega)
  rw [e_Reader_readNumber, a1, am_cb_s, a2.2.2.1]
  have L : ∀ (j k : Nat) (M : am_M), q + k ≤ run dB (M0 35) e q → q + k + j = e → CS M0 (q + k) w wa M → ∃ M', cX 206 7 [some (rV 34), some (iV lo), some (iV hi), some (iV (q : Int)), some (iV (nvl (M0 35) q k))] [] M = cX 206 44 [some (rV 34), some (iV lo), some (iV hi), some (iV (q : Int)), some (iV (nvl (M0 35) q (run dB (M0 35) e q - q)))] [] M' ∧ CS M0 (run dB (M0 35) e q) w wa M' := by
    intro j
    induction j with
    | zero =>
      intro k M h1 h2 hC
      have e3 : M 34 3 = (e : Int) := by rw [hC.2.1 3 (by decide) (by decide) (by decide) (by decide) (by decide)]; exact he
      have ek : run dB (M0 35) e q = q + k := by omega
      rw [ek, show q + k - q = k by omega, e_Reader_readNumber_7, hC.2.2.1, e3, if_neg (by omega)]
      exact ⟨M, rfl, hC⟩
    | succ j ih =>
      intro k M h1 h2 hC
      have e3 : M 34 3 = (e : Int) := by rw [hC.2.1 3 (by decide) (by decide) (by decide) (by decide) (by decide)]; exact he
      have hb := nvl_bd (t := M0 35) (q := q) k (fun i hi => d3 (q + i) (by omega) (by omega))
      rw [e_Reader_readNumber_7, hC.2.2.1, e3, if_pos (by omega), r_bd_ok (by omega) (by omega), Int.toNat_natCast, hC.1 35 (by decide), e_Reader_isDigit]
      by_cases c : q + k < run dB (M0 35) e q
      · have hd : 48 ≤ M0 35 (q + k) ∧ M0 35 (q + k) ≤ 57 := by have := d3 (q + k) (by omega) c; unfold dB at this; rwa [decide_eq_true_iff] at this
        have es : nvl (M0 35) q (k + 1) = if k < 5 then nvl (M0 35) q k * 10 + M0 35 (q + k) - 48 else nvl (M0 35) q k := rfl
        obtain ⟨M', b1, b2⟩ := ih (k + 1) (am_up M 34 4 ((q + (k + 1) : Nat) : Int)) (by omega) (by omega) (CS_4 hC)
        rw [es] at b1
        rw [if_neg (by omega), if_neg (by omega), am_cb_s, if_neg (by decide), hC.2.2.1, r_ck_ok (by omega) (by omega), Int.toNat_natCast, hC.1 35 (by decide), show ((q + k : Nat) : Int) + 1 = ((q + (k + 1) : Nat) : Int) by omega]
        by_cases c5 : k < 5
        · rw [if_pos c5] at b1
          rw [if_pos (by omega), r_ck_ok (by omega) (by omega), r_bd_ok (by omega) (by omega), r_ck_ok (by omega) (by omega), r_ck_ok (by omega) (by omega), r_ck_ok (by omega) (by omega)]
          exact ⟨M', b1, b2⟩
        · rw [if_neg c5] at b1
          rw [if_neg (by omega), r_ck_ok (by omega) (by omega)]
          exact ⟨M', b1, b2⟩
      · have ek : run dB (M0 35) e q = q + k := by omega
        have hnd : ¬ (48 ≤ M0 35 (q + k) ∧ M0 35 (q + k) ≤ 57) := by
          have := d4 (by omega)
          rw [ek] at this
          unfold dB at this
          rwa [decide_eq_false_iff_not] at this
        rw [ek, show q + k - q = k by omega]
        by_cases c1 : M0 35 (q + k) < 48
        · rw [if_pos c1, am_cb_s, if_pos rfl]
          exact ⟨M, rfl, hC⟩
        · rw [if_neg c1, if_pos (by omega), am_cb_s, if_pos rfl]
          exact ⟨M, rfl, hC⟩
  obtain ⟨M2, b1, b2⟩ := L (e - q) 0 M1 (by omega) (by omega) a2
  have b1 : cX 206 7 [some (rV 34), some (iV lo), some (iV hi), some (iV (q : Int)), some (iV 0)] [] M1 = _ := b1
  rw [b1, e_Reader_readNumber_44, b2.2.2.1]
  unfold nce
  by_cases c : run dB (M0 35) e q = q
  · obtain ⟨M3, f1, f2, f3, f4⟩ := p_refuse (c := 1) (pl := (q : Int)) (by decide) b2
    rw [if_pos (by omega), f1, am_cb_s, if_pos c]
    exact ⟨M3, rfl, f2⟩
  · rw [if_neg (by omega), if_neg c, r_ck_ok (by omega) (by omega)]
    obtain ⟨M3, f1, f2, f3, f4⟩ := p_refuse (c := 2) (pl := (q : Int)) (by decide) b2
    by_cases c1 : 5 < run dB (M0 35) e q - q
    · rw [if_pos (by omega), f1, am_cb_s, if_pos (Or.inl c1)]
      exact ⟨M3, rfl, f2⟩
    · rw [if_neg (by omega)]
      by_cases c2 : nvl (M0 35) q (run dB (M0 35) e q - q) < lo
      · rw [if_pos c2, f1, am_cb_s, if_pos (Or.inr (Or.inl c2))]
        exact ⟨M3, rfl, f2⟩
      · rw [if_neg c2]
        by_cases c3 : hi < nvl (M0 35) q (run dB (M0 35) e q - q)
        · rw [if_pos c3, f1, am_cb_s, if_pos (Or.inr (Or.inr c3))]
          exact ⟨M3, rfl, f2⟩
        · rw [if_neg c3, if_neg (by rintro (h | h | h); exact c1 h; exact c2 h; exact c3 h)]
          refine ⟨M2, rfl, ?_⟩
          have e1 : rwc w 0 = w := by unfold rwc; split <;> omega
          have e2 : rac w wa 0 (q : Int) = wa := if_neg (fun h => h.2 rfl)
          rw [e1, e2]
          exact b2
end
-- the reference's reader
def MS (N0 : am_M) (p : Nat) (w wa : Int) (N : am_M) : Prop := (∀ a, a ≠ 72 → N a = N0 a) ∧ (∀ j, j ≠ 10 → j ≠ 11 → j ≠ 12 → j ≠ 13 → N 72 j = N0 72 j) ∧ N 72 10 = (p : Int) ∧ N 72 11 = w ∧ N 72 12 = wa
theorem MS_10 {N0 N : am_M} {p q : Nat} {w wa : Int} (h : MS N0 p w wa N) : MS N0 q w wa (am_up N 72 10 (q : Int)) := ⟨fun a ha => (am_up_ne _ _ _ _ ha).trans (h.1 a ha), fun j x1 x2 x3 x4 => (am_up_nj _ _ _ _ x1).trans (h.2.1 j x1 x2 x3 x4), am_up_at _ _ _ _, (am_up_nj _ _ _ _ (by decide)).trans h.2.2.2.1, (am_up_nj _ _ _ _ (by decide)).trans h.2.2.2.2⟩
theorem MS_13 {N0 N : am_M} {p : Nat} {w wa v : Int} (h : MS N0 p w wa N) : MS N0 p w wa (am_up N 72 13 v) := ⟨fun a ha => (am_up_ne _ _ _ _ ha).trans (h.1 a ha), fun i x1 x2 x3 x4 => (am_up_nj _ _ _ _ x4).trans (h.2.1 i x1 x2 x3 x4), (am_up_nj _ _ _ _ (by decide)).trans h.2.2.1, (am_up_nj _ _ _ _ (by decide)).trans h.2.2.2.1, (am_up_nj _ _ _ _ (by decide)).trans h.2.2.2.2⟩
theorem b_255 : ∀ c : Fin 256, am_and ((c.val : Int) - 128) 255 = if c.val < 128 then (c.val : Int) + 128 else (c.val : Int) - 128 := by decide +kernel
theorem b_255' {c : Int} (h : -128 ≤ c ∧ c ≤ 127) : am_and c 255 = if c < 0 then c + 256 else c := by
  obtain ⟨k, hk⟩ : ∃ k : Nat, c = (k : Int) - 128 := ⟨(c + 128).toNat, by omega⟩
  have := b_255 ⟨k, by omega⟩
  rw [hk]
  refine this.trans ?_
  show (if k < 128 then (k : Int) + 128 else (k : Int) - 128) = _
  by_cases z : k < 128
  · rw [if_pos z, if_pos (by omega)]; omega
  · rw [if_neg z, if_neg (by omega)]
/-- what stands at a place, as the reference sees it -/
def pkv (t : Nat → Int) (e q : Nat) : Int := if q < e then (if t q < 0 then t q + 256 else t q) else -1
section
variable {N0 : am_M} {e : Nat} {t : Nat → Int}
theorem p_peek (he : N0 72 9 = (e : Int)) (h8 : e ≤ 800) (ht : ∀ i, i < e → N0 78 i = t i ∧ -128 ≤ t i ∧ t i ≤ 127) {p : Nat} {w wa : Int} {N : am_M} (hp : p ≤ e) (hC : MS N0 p w wa N) : ∃ N', cY 57 [rV 72] N = some (pkv t e (run bB t e p), N') ∧ MS N0 (run bB t e p) w wa N' ∧ N' 72 13 = N 72 13 := by
  rw [e_Model_peek]
  have L : ∀ (k p : Nat) (N : am_M), p + k = e → MS N0 p w wa N → ∃ N', cX 57 0 [some (rV 72)] [] N = cX 57 19 [some (rV 72)] [] N' ∧ MS N0 (run bB t e p) w wa N' ∧ N' 72 13 = N 72 13 := by
    intro k
    induction k with
    | zero =>
      intro p N hp hC
      have e9 : N 72 9 = (e : Int) := by rw [hC.2.1 9 (by decide) (by decide) (by decide) (by decide)]; exact he
      rw [run_e bB _ (by omega), e_Model_peek_0, hC.2.2.1, e9, if_neg (by omega)]
      exact ⟨N, rfl, hC, rfl⟩
    | succ k ih =>
      intro p N hp hC
      have e9 : N 72 9 = (e : Int) := by rw [hC.2.1 9 (by decide) (by decide) (by decide) (by decide)]; exact he
      rw [run_s bB _ (by omega), e_Model_peek_0, hC.2.2.1, e9, if_pos (by omega), r_bd_ok (by omega) (by omega), Int.toNat_natCast, hC.1 78 (by decide), (ht p (by omega)).1]
      by_cases c : t p = 32
      · have cb : bB (t p) = true := by unfold bB; rw [decide_eq_true c]
        rw [if_pos c, if_pos cb, r_ck_ok (by omega) (by omega)]
        obtain ⟨N', a1, a2, a3⟩ := ih (p + 1) (am_up N 72 10 ((p + 1 : Nat) : Int)) (by omega) (MS_10 hC)
        exact ⟨N', a1, a2, by rw [a3, am_up_nj _ _ _ _ (by decide)]⟩
      · have cb : ¬ bB (t p) = true := by unfold bB; rw [decide_eq_true_iff]; exact c
        rw [if_neg c, if_neg cb]
        exact ⟨N, rfl, hC, rfl⟩
  obtain ⟨N1, a1, a2, a3⟩ := L (e - p) p N (by omega) hC
  have e9 : N1 72 9 = (e : Int) := by rw [a2.2.1 9 (by decide) (by decide) (by decide) (by decide)]; exact he
  refine ⟨N1, ?_, a2, a3⟩
  rw [a1, e_Model_peek_19, a2.2.2.1, e9]
  unfold pkv
  by_cases c : run bB t e p < e
  · obtain ⟨x1, x2, x3⟩ := ht _ c
    rw [if_pos (by omega), if_pos c, r_bd_ok (by omega) (by omega), Int.toNat_natCast, a2.1 78 (by decide), x1, b_255' ⟨x2, x3⟩]
  · rw [if_neg (by omega), if_neg c]
theorem p_errs {p : Nat} {wa c pl : Int} {N : am_M} (hC : MS N0 p 0 wa N) : ∃ N', cY 58 [rV 72, iV c, iV pl] N = some (0, N') ∧ MS N0 p c pl N' ∧ N' 72 13 = N 72 13 := by
  rw [e_Model_errs, hC.2.2.2.1, if_pos rfl]
  exact ⟨_, rfl, ⟨fun a ha => by rw [am_up_ne _ _ _ _ ha, am_up_ne _ _ _ _ ha, hC.1 a ha], fun j x1 x2 x3 x4 => by rw [am_up_nj _ _ _ _ x3, am_up_nj _ _ _ _ x2, hC.2.1 j x1 x2 x3 x4], by rw [am_up_nj _ _ _ _ (by decide), am_up_nj _ _ _ _ (by decide)]; exact hC.2.2.1, by rw [am_up_nj _ _ _ _ (by decide), am_up_at], am_up_at _ _ _ _⟩, by rw [am_up_nj _ _ _ _ (by decide), am_up_nj _ _ _ _ (by decide)]⟩
theorem p_mL (c : Int) (N : am_M) : cY 59 [iV c] N = some (if lB c = true then 1 else 0, N) := by
  rw [e_Model_isLetter, p_isIn, am_cb_s]
  unfold lB
  by_cases z : 97 ≤ c ∧ c ≤ 122
  · rw [if_pos z, if_pos (Or.inr rfl), decide_eq_true z, if_pos rfl]
  · rw [if_neg z, if_pos (Or.inl rfl), decide_eq_false z, if_neg (by decide)]
theorem p_mD (c : Int) (N : am_M) : cY 60 [iV c] N = some (if dB c = true then 1 else 0, N) := by
  rw [e_Model_isDigit, p_isIn, am_cb_s]
  unfold dB
  by_cases z : 48 ≤ c ∧ c ≤ 57
  · rw [if_pos z, if_pos (Or.inr rfl), decide_eq_true z, if_pos rfl]
  · rw [if_neg z, if_pos (Or.inl rfl), decide_eq_false z, if_neg (by decide)]
theorem pkv_d {q : Nat} (ht : ∀ i, i < e → -128 ≤ t i ∧ t i ≤ 127) : dB (pkv t e q) = true ↔ q < e ∧ dB (t q) = true := by
  unfold pkv dB
  by_cases c : q < e
  · have h := ht q c
    rw [if_pos c, decide_eq_true_iff, decide_eq_true_iff]
    by_cases z : t q < 0
    · rw [if_pos z]; omega
    · rw [if_neg z]; omega
  · rw [if_neg c, decide_eq_true_iff]; omega
theorem pkv_l {q : Nat} (ht : ∀ i, i < e → -128 ≤ t i ∧ t i ≤ 127) : lB (pkv t e q) = true ↔ q < e ∧ lB (t q) = true := by
  unfold pkv lB
  by_cases c : q < e
  · have h := ht q c
    rw [if_pos c, decide_eq_true_iff, decide_eq_true_iff]
    by_cases z : t q < 0
    · rw [if_pos z]; omega
    · rw [if_neg z]; omega
  · rw [if_neg c, decide_eq_true_iff]; omega
theorem pkv_x {q : Nat} (ht : ∀ i, i < e → -128 ≤ t i ∧ t i ≤ 127) : (pkv t e q = 59 ↔ q < e ∧ t q = 59) ∧ (pkv t e q = -1 ↔ ¬ q < e) := by
  unfold pkv
  by_cases c : q < e
  · have h := ht q c
    rw [if_pos c]
    by_cases z : t q < 0
    · rw [if_pos z]; omega
    · rw [if_neg z]; omega
  · rw [if_neg c]; omega
theorem run_gt {P : Int → Bool} {t : Nat → Int} {e q : Nat} (hq : q ≤ e) : run P t e q = q ↔ ¬ (q < e ∧ P (t q) = true) := by
  by_cases c : q < e
  · rw [run_s P t c]
    by_cases z : P (t q) = true
    · rw [if_pos z]
      have := (run_ok P t e (e - (q + 1)) (q + 1) (by omega)).1
      exact ⟨fun h => by omega, fun h => absurd ⟨c, z⟩ h⟩
    · rw [if_neg z]
      exact ⟨fun _ h => z h.2, fun _ => rfl⟩
  · rw [run_e P t (by omega)]
    exact ⟨fun _ h => c h.1, fun _ => rfl⟩
/-- a number, read as long as nothing is wrong -/
theorem p_mnum (he : N0 72 9 = (e : Int)) (h8 : e ≤ 800) (ht : ∀ i, i < e → N0 78 i = t i ∧ -128 ≤ t i ∧ t i ≤ 127) (lo hi : Int) {p : Nat} {wa : Int} {N : am_M} (hp : p ≤ e) (hC : MS N0 p 0 wa N) (q : Nat) (hq : run bB t e p = q) : (nce t e q lo hi = 0 → ∃ N', cY 63 [rV 72, iV lo, iV hi] N = some (nvl t q (run dB t e q - q), N') ∧ MS N0 (run dB t e q) 0 wa N') ∧ (nce t e q lo hi ≠ 0 → ∃ N' p', cY 63 [rV 72, iV lo, iV hi] N = some (lo, N') ∧ MS N0 p' (nce t e q lo hi) (q : Int) N' ∧ p' ≤ e) := by
  obtain ⟨N1, a1, a2, a3⟩ := p_peek he h8 ht hp hC
  rw [hq] at a1 a2
  have hqe : q ≤ e := by rw [← hq]; exact (run_ok bB t e (e - p) p (by omega)).2.1
  obtain ⟨d1, d2, d3, d4⟩ := run_ok dB t e (e - q) q (by omega)
  have ht2 : ∀ i, i < e → -128 ≤ t i ∧ t i ≤ 127 := fun i hi => (ht i hi).2
  have st := e_Model_numeral lo hi N
  rw [hC.2.2.2.1, if_pos rfl, a1, am_cb_s, p_mD, am_cb_s] at st
  by_cases c : run dB t e q = q
  · have hn : ¬ dB (pkv t e q) = true := by rw [pkv_d ht2]; exact (run_gt hqe).mp c
    have en : nce t e q lo hi = 1 := by unfold nce; rw [if_pos c]
    rw [if_neg hn, if_pos rfl, a2.2.2.1] at st
    obtain ⟨N2, b1, b2, b3⟩ := p_errs (c := 1) (pl := (q : Int)) a2
    rw [b1, am_cb_s] at st
    rw [en]
    exact ⟨fun h => absurd h (by decide), fun _ => ⟨N2, q, st, b2, hqe⟩⟩
  · have hn : dB (pkv t e q) = true := by
      rw [pkv_d ht2]
      exact Classical.byContradiction (fun h => c ((run_gt hqe).mpr h))
    rw [if_pos hn, if_neg (by decide), a2.2.2.1] at st
    have L : ∀ (j k : Nat) (N : am_M), q + k ≤ run dB t e q → q + k + j = e → MS N0 (q + k) 0 wa N → ∃ N', cX 63 21 [some (rV 72), some (iV lo), some (iV hi), some (iV (q : Int)), some (iV (nvl t q k))] [] N = cX 63 58 [some (rV 72), some (iV lo), some (iV hi), some (iV (q : Int)), some (iV (nvl t q (run dB t e q - q)))] [] N' ∧ MS N0 (run dB t e q) 0 wa N' := by
      intro j
      induction j with
      | zero =>
        intro k N h1 h2 hC
        have e9 : N 72 9 = (e : Int) := by rw [hC.2.1 9 (by decide) (by decide) (by decide) (by decide)]; exact he
        have ek : run dB t e q = q + k := by omega
        rw [ek, show q + k - q = k by omega, e_Model_numeral_21, hC.2.2.1, e9, if_neg (by omega)]
        exact ⟨N, rfl, hC⟩
      | succ j ih =>
        intro k N h1 h2 hC
        have e9 : N 72 9 = (e : Int) := by rw [hC.2.1 9 (by decide) (by decide) (by decide) (by decide)]; exact he
        have hb := nvl_bd (t := t) (q := q) k (fun i hi => d3 (q + i) (by omega) (by omega))
        rw [e_Model_numeral_21, hC.2.2.1, e9, if_pos (by omega), r_bd_ok (by omega) (by omega), Int.toNat_natCast, hC.1 78 (by decide), (ht (q + k) (by omega)).1, p_mD, am_cb_s]
        by_cases c : q + k < run dB t e q
        · have hd0 := d3 (q + k) (by omega) c
          have hd : 48 ≤ t (q + k) ∧ t (q + k) ≤ 57 := by have := hd0; unfold dB at this; rwa [decide_eq_true_iff] at this
          have es : nvl t q (k + 1) = if k < 5 then nvl t q k * 10 + t (q + k) - 48 else nvl t q k := rfl
          obtain ⟨N', b1, b2⟩ := ih (k + 1) (am_up N 72 10 ((q + (k + 1) : Nat) : Int)) (by omega) (by omega) (MS_10 hC)
          rw [es] at b1
          rw [if_pos hd0, if_neg (by decide), hC.2.2.1, r_ck_ok (by omega) (by omega), Int.toNat_natCast, hC.1 78 (by decide), (ht (q + k) (by omega)).1, show ((q + k : Nat) : Int) + 1 = ((q + (k + 1) : Nat) : Int) by omega]
          by_cases c5 : k < 5
          · rw [if_pos c5] at b1
            rw [if_pos (by omega), r_ck_ok (by omega) (by omega), r_bd_ok (by omega) (by omega), r_ck_ok (by omega) (by omega), r_ck_ok (by omega) (by omega), r_ck_ok (by omega) (by omega), Int.mul_comm 10]
            exact ⟨N', b1, b2⟩
          · rw [if_neg c5] at b1
            rw [if_neg (by omega), r_ck_ok (by omega) (by omega)]
            exact ⟨N', b1, b2⟩
        · have ek : run dB t e q = q + k := by omega
          have hnd : ¬ dB (t (q + k)) = true := by
            have := d4 (by omega)
            rw [ek] at this
            rw [this]
            decide
          rw [if_neg hnd, if_pos rfl, ek, show q + k - q = k by omega]
          exact ⟨N, rfl, hC⟩
    obtain ⟨N2, b1, b2⟩ := L (e - q) 0 N1 (by omega) (by omega) a2
    have b1 : cX 63 21 [some (rV 72), some (iV lo), some (iV hi), some (iV (q : Int)), some (iV 0)] [] N1 = _ := b1
    rw [b1, e_Model_numeral_58, b2.2.2.1, r_ck_ok (by omega) (by omega)] at st
    have er : cX 63 72 [some (rV 72), some (iV lo), some (iV hi), some (iV (q : Int)), some (iV (nvl t q (run dB t e q - q)))] [] N2 = cX 63 72 [some (rV 72), some (iV lo), some (iV hi), some (iV (q : Int)), some (iV (nvl t q (run dB t e q - q)))] [] N2 := rfl
    obtain ⟨N3, f1, f2, f3⟩ := p_errs (c := 2) (pl := (q : Int)) b2
    have err : cX 63 72 [some (rV 72), some (iV lo), some (iV hi), some (iV (q : Int)), some (iV (nvl t q (run dB t e q - q)))] [] N2 = some (lo, N3) := by
      rw [e_Model_numeral_72, f1, am_cb_s, f2.2.2.2.1, if_neg (by decide)]
    by_cases c1 : 5 < run dB t e q - q
    · have en : nce t e q lo hi = 2 := by unfold nce; rw [if_neg c, if_pos (Or.inl c1)]
      rw [if_pos (by omega), err] at st
      rw [en]
      exact ⟨fun h => absurd h (by decide), fun _ => ⟨N3, _, st, f2, d2⟩⟩
    · rw [if_neg (by omega), p_isIn, am_cb_s] at st
      by_cases c2 : lo ≤ nvl t q (run dB t e q - q) ∧ nvl t q (run dB t e q - q) ≤ hi
      · have en : nce t e q lo hi = 0 := by unfold nce; rw [if_neg c, if_neg (by rintro (h | h | h); exact c1 h; omega; omega)]
        rw [if_pos c2, if_neg (by decide), b2.2.2.2.1, if_pos rfl] at st
        exact ⟨fun _ => ⟨N2, st, b2⟩, fun h => absurd en h⟩
      · have en : nce t e q lo hi = 2 := by unfold nce; rw [if_neg c, if_pos (by omega)]
        rw [if_neg c2, if_pos rfl, err] at st
        rw [en]
        exact ⟨fun h => absurd h (by decide), fun _ => ⟨N3, _, st, f2, d2⟩⟩
theorem p_lettersHere (he : N0 72 9 = (e : Int)) (h8 : e ≤ 800) (ht : ∀ i, i < e → N0 78 i = t i ∧ -128 ≤ t i ∧ t i ≤ 127) {q : Nat} {w wa : Int} {N : am_M} (hq : q ≤ e) (hC : MS N0 q w wa N) : cY 61 [rV 72] N = some (((run lB t e q - q : Nat) : Int), N) := by
  obtain ⟨d1, d2, d3, d4⟩ := run_ok lB t e (e - q) q (by omega)
  have e9 : N 72 9 = (e : Int) := by rw [hC.2.1 9 (by decide) (by decide) (by decide) (by decide)]; exact he
  rw [e_Model_lettersHere]
  have L : ∀ (j k : Nat), q + k ≤ run lB t e q → q + k + j = e → cX 61 2 [some (rV 72), some (iV (k : Int))] [] N = some (((run lB t e q - q : Nat) : Int), N) := by
    intro j
    induction j with
    | zero =>
      intro k h1 h2
      rw [e_Model_lettersHere_2, hC.2.2.1, e9, r_ck_ok (by omega) (by omega), if_neg (by omega), show run lB t e q - q = k by omega]
    | succ j ih =>
      intro k h1 h2
      rw [e_Model_lettersHere_2, hC.2.2.1, e9, r_ck_ok (by omega) (by omega), if_pos (by omega), r_ck_ok (by omega) (by omega), r_bd_ok (by omega) (by omega), show ((q : Int) + (k : Int)).toNat = q + k by omega, hC.1 78 (by decide), (ht (q + k) (by omega)).1, p_mL, am_cb_s]
      by_cases c : q + k < run lB t e q
      · rw [if_pos (d3 (q + k) (by omega) c), if_neg (by decide), r_ck_ok (by omega) (by omega)]
        exact ih (k + 1) (by omega) (by omega)
      · have ek : run lB t e q = q + k := by omega
        have hnd : ¬ lB (t (q + k)) = true := by
          have := d4 (by omega)
          rw [ek] at this
          rw [this]
          decide
        rw [if_neg hnd, if_pos rfl, show run lB t e q - q = k by omega]
  exact L (e - q) 0 (by omega) (by omega)
end
-- words
def wst : List Nat := [0, 6, 12, 17, 22, 28, 34, 41, 46, 51, 56]
def wln : List Nat := [5, 5, 4, 4, 5, 5, 6, 4, 4, 4, 4]
def tx0 (i : Nat) : Int := am_n1 0 (am_tx 0) i
theorem tx_1 : ∀ i : Fin 61, am_n1 0 (am_tx 1) (i.val + 1) = tx0 i.val := by decide +kernel
theorem tx_in : ∀ (k : Fin 11) (i : Fin 61), wst.getD k.val 0 ≤ i.val → i.val < wst.getD k.val 0 + wln.getD k.val 0 → tx0 i.val ≠ 32 := by decide +kernel
theorem tx_end : ∀ k : Fin 11, tx0 (wst.getD k.val 0 + wln.getD k.val 0) = 32 ∧ (k.val < 10 → wst.getD (k.val + 1) 0 = wst.getD k.val 0 + wln.getD k.val 0 + 1) ∧ wst.getD k.val 0 + wln.getD k.val 0 ≤ 60 ∧ (k.val = 10 → wst.getD k.val 0 + wln.getD k.val 0 = 60) ∧ 1 ≤ wln.getD k.val 0 ∧ wln.getD k.val 0 ≤ 6 := by decide +kernel
def eqw (t : Nat → Int) (q s : Nat) : Nat → Bool
  | 0 => true
  | i + 1 => eqw t q s i && decide (tx0 (s + i) = t (q + i))
def fkd (t : Nat → Int) (q m : Nat) : Nat → Nat → Int
  | 0, _ => -1
  | j + 1, k => if wln.getD k 0 = m ∧ eqw t q (wst.getD k 0) m = true then (k : Int) else fkd t q m j (k + 1)
def kd (t : Nat → Int) (q m : Nat) : Int := fkd t q m 11 0
theorem fkd_bd (t : Nat → Int) (q m : Nat) : ∀ j k, -1 ≤ fkd t q m j k ∧ fkd t q m j k < ((k + j : Nat) : Int) := by
  intro j
  induction j with
  | zero => intro k; show (-1 : Int) ≤ -1 ∧ (-1 : Int) < _; omega
  | succ j ih =>
    intro k
    show -1 ≤ (if wln.getD k 0 = m ∧ eqw t q (wst.getD k 0) m = true then (k : Int) else fkd t q m j (k + 1)) ∧ (if wln.getD k 0 = m ∧ eqw t q (wst.getD k 0) m = true then (k : Int) else fkd t q m j (k + 1)) < ((k + (j + 1) : Nat) : Int)
    have := ih (k + 1)
    split <;> omega
theorem eqw_f {t : Nat → Int} {q s : Nat} : ∀ m i, i < m → tx0 (s + i) ≠ t (q + i) → eqw t q s m = false := by
  intro m
  induction m with
  | zero => intro i hi; omega
  | succ m ih =>
    intro i hi h
    show (eqw t q s m && decide (tx0 (s + m) = t (q + m))) = false
    by_cases e : i = m
    · subst e; rw [decide_eq_false h, Bool.and_false]
    · rw [ih i (by omega) h, Bool.false_and]
theorem p_wordKind {M0 : am_M} {e : Nat} (he : M0 34 3 = (e : Int)) (h8 : e ≤ 800) {p : Nat} {w wa : Int} {M : am_M} (hC : CS M0 p w wa M) (q m : Nat) (hqm : q + m ≤ e) (h5 : M 34 5 = (q : Int)) (h6 : M 34 6 = (m : Int)) : cY 210 [rV 34] M = some (kd (M0 35) q m, M) := by
  have e3 : M 34 3 = (e : Int) := by rw [hC.2.1 3 (by decide) (by decide) (by decide) (by decide) (by decide)]; exact he
  have isW : ∀ k, k < 11 → wln.getD k 0 = m → cY 211 [rV 34, iV ((wst.getD k 0 : Nat) : Int)] M = some (if eqw (M0 35) q (wst.getD k 0) m = true then 1 else 0, M) := fun k hk hm => by
    obtain ⟨t1, t2, t3, t4, t5, t6⟩ := tx_end ⟨k, hk⟩
    have t3 : wst.getD k 0 + wln.getD k 0 ≤ 60 := t3
    generalize wst.getD k 0 = s at t3 ⊢
    rw [hm] at t3
    rw [e_Reader_isWordAt]
    have L : ∀ j i : Nat, i + j = m → eqw (M0 35) q s i = true → cX 211 2 [some (rV 34), some (iV (s : Int)), some (iV (i : Int))] [] M = some (if eqw (M0 35) q s m = true then 1 else 0, M) := by
      intro j
      induction j with
      | zero => intro i hi ht; have e1 : i = m := by omega
                subst e1; rw [e_Reader_isWordAt_2, h6, if_neg (by omega), if_pos ht]
      | succ j ih =>
        intro i hi ht
        rw [e_Reader_isWordAt_2, h6, h5, e3, if_pos (by omega), r_ck_ok (by omega) (by omega), if_pos (by omega), r_ck_ok (by omega) (by omega), if_pos (by omega), r_ck_ok (by omega) (by omega), if_pos (by omega), r_ck_ok (by omega) (by omega), r_bd_ok (by omega) (by omega), show ((s : Int) + (i : Int)).toNat = s + i by omega, show ((q : Int) + (i : Int)).toNat = q + i by omega, hC.1 35 (by decide)]
        by_cases c : tx0 (s + i) = M0 35 (q + i)
        · have c' : am_n1 0 (am_tx 0) (s + i) = M0 35 (q + i) := c
          rw [if_pos c', r_ck_ok (by omega) (by omega)]
          refine ih (i + 1) (by omega) ?_
          show (eqw (M0 35) q s i && decide (tx0 (s + i) = M0 35 (q + i))) = true
          rw [ht, decide_eq_true c, Bool.and_self]
        · have c' : ¬ am_n1 0 (am_tx 0) (s + i) = M0 35 (q + i) := c
          rw [if_neg c', eqw_f m i (by omega) c, if_neg (by decide)]
    exact L m 0 (by omega) rfl
  rw [e_Reader_wordKind]
  -- over one word
  have ovr : ∀ k, k < 11 → ∀ (j i : Nat), wst.getD k 0 ≤ i → i + j = wst.getD k 0 + wln.getD k 0 → cX 210 6 [some (rV 34), some (iV (k : Int)), some (iV ((wst.getD k 0 : Nat) : Int)), some (iV (i : Int))] [] M = cX 210 6 [some (rV 34), some (iV (k : Int)), some (iV ((wst.getD k 0 : Nat) : Int)), some (iV ((wst.getD k 0 + wln.getD k 0 : Nat) : Int))] [] M := fun k hk j => by
    obtain ⟨t1, t2, t3, t4, t5, t6⟩ := tx_end ⟨k, hk⟩
    have t3 : wst.getD k 0 + wln.getD k 0 ≤ 60 := t3
    induction j with
    | zero => intro i h1 h2; rw [show i = wst.getD k 0 + wln.getD k 0 by omega]
    | succ j ih =>
      intro i h1 h2
      have hne : ¬ am_n1 0 (am_tx 0) i = 32 := tx_in ⟨k, hk⟩ ⟨i, by omega⟩ h1 (by show i < wst.getD k 0 + wln.getD k 0; omega)
      rw [e_Reader_wordKind_6, if_pos (by omega), if_pos (by omega), Int.toNat_natCast, if_neg hne, r_ck_ok (by omega) (by omega)]
      exact ih (i + 1) (by omega) (by omega)
  have L : ∀ (j k : Nat), k + j = 11 → 1 ≤ j → cX 210 6 [some (rV 34), some (iV (k : Int)), some (iV ((wst.getD k 0 : Nat) : Int)), some (iV ((wst.getD k 0 : Nat) : Int))] [] M = some (fkd (M0 35) q m j k, M) := by
    intro j
    induction j with
    | zero => intro k _ h; omega
    | succ j ih =>
      intro k hk _
      obtain ⟨t1, t2, t3, t4, t5, t6⟩ := tx_end ⟨k, by omega⟩
      have t1 : am_n1 0 (am_tx 0) (wst.getD k 0 + wln.getD k 0) = 32 := t1
      have t2 : k < 10 → wst.getD (k + 1) 0 = wst.getD k 0 + wln.getD k 0 + 1 := t2
      have t3 : wst.getD k 0 + wln.getD k 0 ≤ 60 := t3
      have t4 : k = 10 → wst.getD k 0 + wln.getD k 0 = 60 := t4
      have ef : fkd (M0 35) q m (j + 1) k = if wln.getD k 0 = m ∧ eqw (M0 35) q (wst.getD k 0) m = true then (k : Int) else fkd (M0 35) q m j (k + 1) := rfl
      have nxt : ¬ (wln.getD k 0 = m ∧ eqw (M0 35) q (wst.getD k 0) m = true) → cX 210 6 [some (rV 34), some (iV ((k : Int) + 1)), some (iV (((wst.getD k 0 + wln.getD k 0 : Nat) : Int) + 1)), some (iV (((wst.getD k 0 + wln.getD k 0 : Nat) : Int) + 1))] [] M = some (fkd (M0 35) q m (j + 1) k, M) := fun hno => by
        rw [ef, if_neg hno]
        by_cases hk10 : k = 10
        · have := t4 hk10
          have hj : j = 0 := by omega
          subst hj
          rw [e_Reader_wordKind_6, if_neg (by omega)]
          rfl
        · have hi := ih (k + 1) (by omega) (by omega)
          rw [t2 (by omega)] at hi
          exact hi
      rw [ovr k (by omega) (wln.getD k 0) (wst.getD k 0) (by omega) (by omega), e_Reader_wordKind_6, if_pos (by omega), if_pos (by omega), Int.toNat_natCast, if_pos t1, r_ck_ok (by omega) (by omega), h6]
      by_cases c : wln.getD k 0 = m
      · rw [if_pos (by omega), isW k (by omega) c, am_cb_s]
        by_cases d : eqw (M0 35) q (wst.getD k 0) m = true
        · rw [if_pos d, if_neg (by decide), ef, if_pos ⟨c, d⟩]
        · rw [if_neg d, if_pos rfl, r_ck_ok (by omega) (by omega), r_ck_ok (by omega) (by omega), r_ck_ok (by omega) (by omega)]
          exact nxt (fun h => d h.2)
      · rw [if_neg (by omega), r_ck_ok (by omega) (by omega), r_ck_ok (by omega) (by omega), r_ck_ok (by omega) (by omega)]
        exact nxt (fun h => c h.1)
  exact L 11 0 (by omega) (by omega)
