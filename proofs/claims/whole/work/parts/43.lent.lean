-- lends that count
def cnb (s : Nat → Int) (n Wk k : Nat) : Bool := decide (s (118 + 4 * k) ≤ (Wk : Int)) && (decide (fls s (rst s (s (118 + 4 * k)).toNat) n n = 0) && lnt s (rst s (s (118 + 4 * k)).toNat) n (s (118 + 4 * k)).toNat k)
def lby (s : Nat → Int) (n Wk k : Nat) : Int := if cnb s n Wk k = true then s (121 + 4 * k) else 0
theorem lby_bd {s : Nat → Int} (hv : vT s) {n Wk k : Nat} (hk : (k : Int) < s 3) : 0 ≤ lby s n Wk k ∧ lby s n Wk k ≤ 999 := by
  obtain ⟨a0, a1, a2, a3, a4⟩ := hv.2.2.2.2.2.2.2.2.2.2.1 k hk
  unfold lby
  split <;> omega
theorem cnb_t {s : Nat → Int} {n Wk k w : Nat} (hw : s (118 + 4 * k) = (w : Int)) : cnb s n Wk k = (decide (w ≤ Wk) && (decide (fls s (rst s w) n n = 0) && lnt s (rst s w) n w k)) := by
  unfold cnb
  rw [hw, Int.toNat_natCast]
  congr 1
  by_cases c : w ≤ Wk
  · rw [decide_eq_true c, decide_eq_true (by omega)]
  · rw [decide_eq_false c, decide_eq_false (by omega)]
theorem p_lentBy (M : am_M) (s : Nat → Int) (n k Wk : Nat) (hv : vT s) (hn : s 1 = (n : Int)) (hc : cT s M 0) (hkT : kT M 0) (hk : (k : Int) < s 3) (hW : Wk ≤ 51) : ∃ M', cY 51 [rV 70, iV (k : Int), iV (Wk : Int)] M = some (lby s n Wk k, M') ∧ ∀ a, a < 40 ∨ 54 < a → M' a = M a := by
  obtain ⟨a0, a1, a2, a3, a4⟩ := hv.2.2.2.2.2.2.2.2.2.2.1 k hk
  obtain ⟨w, hw⟩ : ∃ w : Nat, s (118 + 4 * k) = (w : Int) := ⟨(s (118 + 4 * k)).toNat, by omega⟩
  have hQ : cQ s M := cQ_of hv hc hkT (md.rf s)
  obtain ⟨c0, c1, c2, c3⟩ := p_lcell M s hQ.2.2.1 hv k hk
  rw [hw] at c0
  unfold lby
  rw [cnb_t hw, e_Desk_lentBy, c0, am_cb_s]
  by_cases q1 : w ≤ Wk
  · obtain ⟨M1, b1, b2, b3⟩ := p_planWeek M s n w hv hn hc hkT (by omega)
    rw [if_neg (by omega), b1, am_cb_s, b3.2.2.2.1.2.2.1, decide_eq_true q1, Bool.true_and]
    by_cases q2 : fls s (rst s w) n n = 0
    · have hl := p_isLent hv b3 q2 hk
      rw [if_pos q2, hl, am_cb_s, decide_eq_true q2, Bool.true_and]
      by_cases q3 : lnt s (rst s w) n w k = true
      · have d3 := (p_lcell M1 s b3.1.2.2.1 hv k hk).2.2.2
        rw [if_pos q3, if_neg (by decide), d3, am_cb_s, if_pos q3]
        exact ⟨M1, rfl, b2⟩
      · rw [if_neg q3, if_pos rfl, if_neg q3]
        exact ⟨M1, rfl, b2⟩
    · rw [if_neg q2, decide_eq_false q2, Bool.false_and, if_neg (by decide)]
      exact ⟨M1, rfl, b2⟩
  · rw [if_pos (by omega), decide_eq_false q1, Bool.false_and, if_neg (by decide)]
    exact ⟨M, rfl, fun _ _ => rfl⟩
theorem p_counts (M : am_M) (n k Wk : Nat) (hv : vT (M 73)) (hn : M 73 1 = (n : Int)) (h88 : ∀ i, i < 8 → M 88 i = -1) (hk : (k : Int) < M 73 3) (hW : Wk ≤ 51) : ∃ M', cY 167 [rV 72, iV (k : Int), iV (Wk : Int)] M = some (if cnb (M 73) n Wk k = true then 1 else 0, M') ∧ wf M M' := by
  have hb3 := hv.2.2.2.1
  obtain ⟨a0, a1, a2, a3, a4⟩ := hv.2.2.2.2.2.2.2.2.2.2.1 k hk
  obtain ⟨w, hw⟩ : ∃ w : Nat, M 73 (118 + 4 * k) = (w : Int) := ⟨(M 73 (118 + 4 * k)).toNat, by omega⟩
  rw [cnb_t hw, e_Model_counts, r_ck_ok (by omega) (by omega), r_ck_ok (by omega) (by omega), r_bd_ok (by omega) (by omega), show (118 + 4 * (k : Int)).toNat = 118 + 4 * k by omega, hw]
  by_cases q1 : w ≤ Wk
  · obtain ⟨M1, b1, b2, b3⟩ := p_lays0 M n w hv hn (by omega) h88
    have s1 : M1 73 = M 73 := b2.1 73 (by omega)
    have hW1 := b3.2.2.2.2
    rw [s1] at hW1
    rw [if_neg (by omega), b1, am_cb_s, hW1.2.2.2.1, decide_eq_true q1, Bool.true_and]
    by_cases q2 : fls (M 73) (rst (M 73) w) n n = 0
    · have hl := p_voidBit b3 (by rw [s1]; exact q2) (k := k) (by rw [s1]; exact hk) (by rw [s1]; exact hw)
      rw [s1] at hl
      rw [if_pos q2, hl, decide_eq_true q2, Bool.true_and]
      by_cases q3 : lnt (M 73) (rst (M 73) w) n w k = true
      · rw [if_pos q3, if_pos q3, if_pos rfl]
        exact ⟨M1, rfl, b2⟩
      · rw [if_neg q3, if_neg q3, if_neg (by decide)]
        exact ⟨M1, rfl, b2⟩
    · rw [if_neg q2, decide_eq_false q2, Bool.false_and, if_neg (by decide)]
      exact ⟨M1, rfl, b2⟩
  · rw [if_pos (by omega), decide_eq_false q1, Bool.false_and, if_neg (by decide)]
    exact ⟨M, rfl, wf.rf M⟩
-- the balance of two
def bsm (s : Nat → Int) (n Wk : Nat) (a b : Int) : Nat → Int
  | 0 => 0
  | k + 1 => bsm s n Wk a b k + (if s (119 + 4 * k) = a ∧ s (120 + 4 * k) = b then lby s n Wk k else if s (119 + 4 * k) = b ∧ s (120 + 4 * k) = a then -(lby s n Wk k) else 0)
theorem bsm_bd {s : Nat → Int} (hv : vT s) (n Wk : Nat) (a b : Int) : ∀ k : Nat, (k : Int) ≤ s 3 → -(999 * (k : Int)) ≤ bsm s n Wk a b k ∧ bsm s n Wk a b k ≤ 999 * (k : Int) := by
  intro k
  induction k with
  | zero => intro _; show -(999 * ((0 : Nat) : Int)) ≤ 0 ∧ (0 : Int) ≤ 999 * ((0 : Nat) : Int); omega
  | succ k ih =>
    intro hk
    have h1 := ih (by omega)
    have h2 := lby_bd hv (n := n) (Wk := Wk) (k := k) (by omega)
    show -(999 * ((k + 1 : Nat) : Int)) ≤ bsm s n Wk a b k + (if s (119 + 4 * k) = a ∧ s (120 + 4 * k) = b then lby s n Wk k else if s (119 + 4 * k) = b ∧ s (120 + 4 * k) = a then -(lby s n Wk k) else 0) ∧ bsm s n Wk a b k + (if s (119 + 4 * k) = a ∧ s (120 + 4 * k) = b then lby s n Wk k else if s (119 + 4 * k) = b ∧ s (120 + 4 * k) = a then -(lby s n Wk k) else 0) ≤ 999 * ((k + 1 : Nat) : Int)
    split
    · omega
    · split <;> omega
theorem o41 : lw_O41 RI := by
  intro a b c ha hb hc M hR hM
  have hR2 : RI (am_up M 72 6 0) := RI_mf (mf_up (mf.rf M) (by omega)) hR
  obtain ⟨r1, r2, r3, r4, r5, r6, r7, r8, r9, r10, r11⟩ := id hR
  have hb1 := r1.2.1
  obtain ⟨n, hn⟩ : ∃ n : Nat, M 73 1 = (n : Int) := ⟨(M 73 1).toNat, by omega⟩
  have e0 : M 0 4 = (n : Int) := by rw [← hn]; exact r2.2.1
  have e73 : (am_up M 72 6 0) 73 = M 73 := am_up_ne M 72 6 0 (by decide)
  have hb3 := r1.2.2.2.1
  by_cases h : 0 ≤ b ∧ b < (n : Int)
  · by_cases h2 : 0 ≤ c ∧ c < (n : Int)
    · by_cases hw : 0 ≤ a ∧ a ≤ 51
      · obtain ⟨w, rfl⟩ : ∃ w : Nat, a = (w : Int) := ⟨a.toNat, by omega⟩
        obtain ⟨s, hs⟩ : ∃ s, M 73 = s := ⟨_, rfl⟩
        rw [hs] at r1 r2 r11 hn hb1 hb3
        obtain ⟨m, hm⟩ : ∃ m : Nat, s 3 = (m : Int) := ⟨(s 3).toNat, by omega⟩
        have Lc : ∀ (j k : Nat) (M' : am_M) (d6 d7 : Option am_V), k + j = m → cT s M' 0 → kT M' 0 → ∃ M2, cX 46 21 [some (rV 70), some (iV (w : Int)), some (iV b), some (iV c), some (iV (100000 + bsm s n w b c k)), some (iV (k : Int)), d6, d7] [] M' = some (100000 + bsm s n w b c m, M2) ∧ ∀ a, a < 40 ∨ 54 < a → M2 a = M' a := by
          intro j
          induction j with
          | zero =>
            intro k M' d6 d7 hk hT hkT
            have e : k = m := by omega
            subst e
            have e3 : M' 13 3 = (k : Int) := by rw [← hm]; exact hT.2.2.2.1
            exact ⟨M', by rw [e_Desk_balance_21, e3, if_neg (by omega)], fun _ _ => rfl⟩
          | succ j ih =>
            intro k M' d6 d7 hk hT hkT
            obtain ⟨q0, q1, q2, q3, q4⟩ := r1.2.2.2.2.2.2.2.2.2.2.1 k (by omega)
            have e3 : M' 13 3 = (m : Int) := by rw [← hm]; exact hT.2.2.2.1
            have hQ : cQ s M' := cQ_of r1 hT hkT (md.rf s)
            obtain ⟨c0, c1, c2, c3⟩ := p_lcell M' s hQ.2.2.1 r1 k (by omega)
            have bb := bsm_bd r1 n w b c k (by omega)
            have lb := lby_bd r1 (n := n) (Wk := w) (k := k) (by omega)
            obtain ⟨M2, l1, l2⟩ := p_lentBy M' s n k w r1 hn hT hkT (by omega) (by omega)
            have es : bsm s n w b c (k + 1) = bsm s n w b c k + (if s (119 + 4 * k) = b ∧ s (120 + 4 * k) = c then lby s n w k else if s (119 + 4 * k) = c ∧ s (120 + 4 * k) = b then -(lby s n w k) else 0) := rfl
            have nx : ∀ (Mx : am_M) (d6 d7 : Option am_V), (∀ a, a < 40 ∨ 54 < a → Mx a = M' a) → ∀ v, v = 100000 + bsm s n w b c (k + 1) → ∃ M2, cX 46 68 [some (rV 70), some (iV (w : Int)), some (iV b), some (iV c), some (iV v), some (iV (k : Int)), d6, d7] [] Mx = some (100000 + bsm s n w b c m, M2) ∧ ∀ a, a < 40 ∨ 54 < a → M2 a = M' a := fun Mx d6 d7 hx v hv => by
              obtain ⟨M3, y1, y2⟩ := ih (k + 1) Mx none none (by omega) (cT_eq (fun a _ h2 => hx a (by omega)) hT) (kT_eq (fun a _ h2 => hx a (by omega)) hkT)
              rw [e_Desk_balance_68, r_ck_ok (by omega) (by omega), hv]
              exact ⟨M3, y1, fun a ha => by rw [y2 a ha, hx a ha]⟩
            have n55 : ¬ (s (119 + 4 * k) = b ∧ s (120 + 4 * k) = c) → ∃ M2, cX 46 55 [some (rV 70), some (iV (w : Int)), some (iV b), some (iV c), some (iV (100000 + bsm s n w b c k)), some (iV (k : Int)), some (iV (s (119 + 4 * k))), some (iV (s (120 + 4 * k)))] [] M' = some (100000 + bsm s n w b c m, M2) ∧ ∀ a, a < 40 ∨ 54 < a → M2 a = M' a := fun hno => by
              rw [if_neg hno] at es
              rw [e_Desk_balance_55]
              by_cases z1 : s (119 + 4 * k) = c
              · by_cases z2 : s (120 + 4 * k) = b
                · rw [if_pos ⟨z1, z2⟩] at es
                  rw [if_pos z1, if_pos z2, l1, am_cb_s, r_ck_ok (by omega) (by omega)]
                  exact nx M2 _ _ l2 _ (by omega)
                · rw [if_neg (fun h => z2 h.2)] at es
                  rw [if_pos z1, if_neg z2]
                  exact nx M' _ _ (fun _ _ => rfl) _ (by omega)
              · rw [if_neg (fun h => z1 h.1)] at es
                rw [if_neg z1]
                exact nx M' _ _ (fun _ _ => rfl) _ (by omega)
            rw [e_Desk_balance_21, e3, if_pos (by omega), c1, am_cb_s, c2, am_cb_s]
            by_cases z1 : s (119 + 4 * k) = b
            · rw [if_pos z1]
              by_cases z2 : s (120 + 4 * k) = c
              · rw [if_pos ⟨z1, z2⟩] at es
                rw [if_pos z2, l1, am_cb_s, r_ck_ok (by omega) (by omega)]
                exact nx M2 _ _ l2 _ (by omega)
              · rw [if_neg z2]
                exact n55 (fun h => z2 h.2)
            · rw [if_neg z1]
              exact n55 (fun h => z1 h.1)
        obtain ⟨M2, c1, c2⟩ := Lc m 0 M none none (by omega) r2 r3
        have hR1 : RI M2 := RI_cf (fun x hx => c2 x (by omega)) hR
        have hR3 : RI (am_up M2 72 6 0) := RI_mf (mf_up (mf.rf M2) (by omega)) hR1
        have f73 : (am_up M2 72 6 0) 73 = s := by rw [am_up_ne _ _ _ _ (by decide), c2 73 (by omega), hs]
        have Lm : ∀ (j k : Nat) (M' : am_M) (d6 : Option am_V), k + j = m → mf (am_up M2 72 6 0) M' → ∃ M3, cX 168 22 [some (rV 72), some (iV (w : Int)), some (iV b), some (iV c), some (iV (bsm s n w b c k)), some (iV (k : Int)), d6] [] M' = some (100000 + bsm s n w b c m, M3) ∧ mf (am_up M2 72 6 0) M3 := by
          intro j
          induction j with
          | zero =>
            intro k M' d6 hk hmf
            have e : k = m := by omega
            subst e
            have bb := bsm_bd r1 n w b c k (by omega)
            exact ⟨M', by rw [e_Model_balance_22, hmf.1 73 (by decide) (by omega), f73, hm, if_neg (by omega), r_ck_ok (by omega) (by omega)], hmf⟩
          | succ j ih =>
            intro k M' d6 hk hmf
            have s1 : M' 73 = s := by rw [hmf.1 73 (by decide) (by omega), f73]
            obtain ⟨q0, q1, q2, q3, q4⟩ := r1.2.2.2.2.2.2.2.2.2.2.1 k (by omega)
            obtain ⟨M3, b1, b2⟩ := p_counts M' n k w (by rw [s1]; exact r1) (by rw [s1]; exact hn) (fun i hi => by rw [hmf.1 88 (by decide) (by omega), am_up_ne _ _ _ _ (by decide), c2 88 (by omega)]; exact r10 i hi) (by rw [s1]; omega) (by omega)
            rw [s1] at b1
            have s3 : M3 73 = s := by rw [b2.1 73 (by omega), s1]
            have bb := bsm_bd r1 n w b c k (by omega)
            have lb := lby_bd r1 (n := n) (Wk := w) (k := k) (by omega)
            have es : bsm s n w b c (k + 1) = bsm s n w b c k + (if s (119 + 4 * k) = b ∧ s (120 + 4 * k) = c then lby s n w k else if s (119 + 4 * k) = c ∧ s (120 + 4 * k) = b then -(lby s n w k) else 0) := rfl
            have nx : ∀ (d6 : Option am_V) v, v = bsm s n w b c (k + 1) → ∃ M4, cX 168 22 [some (rV 72), some (iV (w : Int)), some (iV b), some (iV c), some (iV v), some (iV ((k : Int) + 1)), d6] [] M3 = some (100000 + bsm s n w b c m, M4) ∧ mf (am_up M2 72 6 0) M4 := fun d6 v hv => by
              rw [hv]
              exact ih (k + 1) M3 d6 (by omega) (hmf.tr b2.mf)
            have hh := e_Model_balance_22 (w : Int) b c (bsm s n w b c k) (k : Int) d6 M'
            rw [s1, hm, if_pos (by omega), r_ck_ok (by omega) (by omega), r_ck_ok (by omega) (by omega), b1, am_cb_s, s3, show (118 + 4 * (k : Int) + 1).toNat = 119 + 4 * k by omega, show (118 + 4 * (k : Int) + 2).toNat = 120 + 4 * k by omega, show (118 + 4 * (k : Int) + 3).toNat = 121 + 4 * k by omega] at hh
            by_cases z0 : cnb s n w k = true
            · have el : lby s n w k = s (121 + 4 * k) := by unfold lby; rw [if_pos z0]
              rw [el] at es
              rw [if_pos z0, if_neg (by decide)] at hh
              by_cases z1 : s (119 + 4 * k) = b
              · by_cases z2 : s (120 + 4 * k) = c
                · rw [if_pos ⟨z1, z2⟩] at es
                  by_cases z3 : s (119 + 4 * k) = c
                  · by_cases z4 : s (120 + 4 * k) = b
                    · exact absurd (z1.trans z4.symm) q3
                    · repeat (first | rw [am_cb_s] at hh | rw [if_pos (by omega)] at hh | rw [if_neg (by omega)] at hh | rw [r_ck_ok (by omega) (by omega)] at hh | rw [r_bd_ok (by omega) (by omega)] at hh | rw [r_cl_ok (by omega) (by omega)] at hh)
                      rw [hh]
                      exact nx _ _ (by omega)
                  · repeat (first | rw [am_cb_s] at hh | rw [if_pos (by omega)] at hh | rw [if_neg (by omega)] at hh | rw [r_ck_ok (by omega) (by omega)] at hh | rw [r_bd_ok (by omega) (by omega)] at hh | rw [r_cl_ok (by omega) (by omega)] at hh)
                    rw [hh]
                    exact nx _ _ (by omega)
                · rw [if_neg (fun h => z2 h.2)] at es
                  by_cases z3 : s (119 + 4 * k) = c
                  · by_cases z4 : s (120 + 4 * k) = b
                    · rw [if_pos ⟨z3, z4⟩] at es
                      repeat (first | rw [am_cb_s] at hh | rw [if_pos (by omega)] at hh | rw [if_neg (by omega)] at hh | rw [r_ck_ok (by omega) (by omega)] at hh | rw [r_bd_ok (by omega) (by omega)] at hh | rw [r_cl_ok (by omega) (by omega)] at hh)
                      rw [hh]
                      exact nx _ _ (by omega)
                    · rw [if_neg (fun h => z4 h.2)] at es
                      repeat (first | rw [am_cb_s] at hh | rw [if_pos (by omega)] at hh | rw [if_neg (by omega)] at hh | rw [r_ck_ok (by omega) (by omega)] at hh | rw [r_bd_ok (by omega) (by omega)] at hh | rw [r_cl_ok (by omega) (by omega)] at hh)
                      rw [hh]
                      exact nx _ _ (by omega)
                  · rw [if_neg (fun h => z3 h.1)] at es
                    repeat (first | rw [am_cb_s] at hh | rw [if_pos (by omega)] at hh | rw [if_neg (by omega)] at hh | rw [r_ck_ok (by omega) (by omega)] at hh | rw [r_bd_ok (by omega) (by omega)] at hh | rw [r_cl_ok (by omega) (by omega)] at hh)
                    rw [hh]
                    exact nx _ _ (by omega)
              · rw [if_neg (fun h => z1 h.1)] at es
                by_cases z3 : s (119 + 4 * k) = c
                · by_cases z4 : s (120 + 4 * k) = b
                  · rw [if_pos ⟨z3, z4⟩] at es
                    repeat (first | rw [am_cb_s] at hh | rw [if_pos (by omega)] at hh | rw [if_neg (by omega)] at hh | rw [r_ck_ok (by omega) (by omega)] at hh | rw [r_bd_ok (by omega) (by omega)] at hh | rw [r_cl_ok (by omega) (by omega)] at hh)
                    rw [hh]
                    exact nx _ _ (by omega)
                  · rw [if_neg (fun h => z4 h.2)] at es
                    repeat (first | rw [am_cb_s] at hh | rw [if_pos (by omega)] at hh | rw [if_neg (by omega)] at hh | rw [r_ck_ok (by omega) (by omega)] at hh | rw [r_bd_ok (by omega) (by omega)] at hh | rw [r_cl_ok (by omega) (by omega)] at hh)
                    rw [hh]
                    exact nx _ _ (by omega)
                · rw [if_neg (fun h => z3 h.1)] at es
                  repeat (first | rw [am_cb_s] at hh | rw [if_pos (by omega)] at hh | rw [if_neg (by omega)] at hh | rw [r_ck_ok (by omega) (by omega)] at hh | rw [r_bd_ok (by omega) (by omega)] at hh | rw [r_cl_ok (by omega) (by omega)] at hh)
                  rw [hh]
                  exact nx _ _ (by omega)
            · have el : lby s n w k = 0 := by unfold lby; rw [if_neg z0]
              rw [el] at es
              rw [if_neg z0, if_pos rfl, r_ck_ok (by omega) (by omega)] at hh
              rw [hh]
              refine nx _ _ ?_
              rw [es]
              split
              · omega
              · split <;> omega
        obtain ⟨M3, m1, m2⟩ := Lm m 0 (am_up M2 72 6 0) none (by omega) (mf.rf _)
        refine ⟨100000 + bsm s n w b c m, M2, M3, ?_, ?_, RI_mf m2 hR3⟩
        · rw [e_Desk_balance, p_lacksField, am_cb_s, e0, if_pos h, if_pos rfl, p_lacksField, am_cb_s, e0, if_pos h2, if_pos rfl, p_isNoWeek, am_cb_s, if_pos hw, if_pos rfl]
          exact c1
        · have hn0 : M 73 1 = (n : Int) := by rw [hs]; exact hn
          rw [e_Model_balance, p_isF M M2 _ n (by omega) hn0 c2, am_cb_s, if_pos h, if_neg (by decide), p_isF M M2 _ n (by omega) hn0 c2, am_cb_s, if_pos h2, if_neg (by decide), p_isWeek, am_cb_s, if_pos hw, if_neg (by decide)]
          exact m1
      · refine ⟨-3, M, am_up M 72 6 0, ?_, ?_, hR2⟩
        · rw [e_Desk_balance, p_lacksField, am_cb_s, e0, if_pos h, if_pos rfl, p_lacksField, am_cb_s, e0, if_pos h2, if_pos rfl, p_isNoWeek, am_cb_s, if_neg hw, if_neg (by decide)]
        · rw [e_Model_balance, p_isF0 M _ n (by omega) hn, am_cb_s, if_pos h, if_neg (by decide), p_isF0 M _ n (by omega) hn, am_cb_s, if_pos h2, if_neg (by decide), p_isWeek, am_cb_s, if_neg hw, if_pos rfl]
    · refine ⟨-2, M, am_up M 72 6 0, ?_, ?_, hR2⟩
      · rw [e_Desk_balance, p_lacksField, am_cb_s, e0, if_pos h, if_pos rfl, p_lacksField, am_cb_s, e0, if_neg h2, if_neg (by decide)]
      · rw [e_Model_balance, p_isF0 M _ n (by omega) hn, am_cb_s, if_pos h, if_neg (by decide), p_isF0 M _ n (by omega) hn, am_cb_s, if_neg h2, if_pos rfl]
  · refine ⟨-2, M, am_up M 72 6 0, ?_, ?_, hR2⟩
    · rw [e_Desk_balance, p_lacksField, am_cb_s, e0, if_neg h, if_neg (by decide)]
    · rw [e_Model_balance, p_isF0 M _ n (by omega) hn, am_cb_s, if_neg h, if_pos rfl]
