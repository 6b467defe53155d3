-- feed
def byt (v : Int) (j : Nat) : Int := am_i2b (am_shr v (24 - 8 * (j : Int)))
theorem p_takeInt (M : am_M) (v : Int) (t : Nat) (ht : M 34 2 = (t : Int)) (h8 : t + 4 ≤ 800) : ∃ M', cY 193 [rV 34, iV v] M = some (0, M') ∧ (∀ a, a ≠ 34 → a ≠ 35 → M' a = M a) ∧ (∀ j, j ≠ 2 → M' 34 j = M 34 j) ∧ M' 34 2 = ((t + 4 : Nat) : Int) ∧ (∀ i, i < t → M' 35 i = M 35 i) ∧ ∀ j, j < 4 → M' 35 (t + j) = byt v j := by
  obtain ⟨-, M1, h1, i1, i2, i3, i4, i5⟩ := lp_up (α := Unit) (X := fun k _ M => cX 193 2 [some (rV 34), some (iV v), some (iV (24 - 8 * (k : Int)))] [] M) (n := 4) (I := fun k M' => (∀ a, a ≠ 34 → a ≠ 35 → M' a = M a) ∧ (∀ j, j ≠ 2 → M' 34 j = M 34 j) ∧ M' 34 2 = ((t + k : Nat) : Int) ∧ (∀ i, i < t → M' 35 i = M 35 i) ∧ ∀ j, j < k → M' 35 (t + j) = byt v j) (by
    intro k hk d M' hI
    obtain ⟨i1, i2, i3, i4, i5⟩ := hI
    have hh := e_Reader_takeInt_2 v (24 - 8 * (k : Int)) M'
    rw [if_neg (by omega), i3, if_pos (by omega), r_bd_ok (by omega) (by omega), if_pos (b_i2b _), r_ck_ok (by omega) (by omega), r_ck_ok (by omega) (by omega), Int.toNat_natCast, show 24 - 8 * (k : Int) + -8 = 24 - 8 * ((k + 1 : Nat) : Int) by omega] at hh
    refine ⟨(), _, hh, fun a h4 h5 => by rw [am_up_ne _ _ _ _ h4, am_up_ne _ _ _ _ h5, i1 a h4 h5], fun j hj => by rw [am_up_nj _ _ _ _ hj, am_up_ne _ _ _ _ (by decide), i2 j hj], am_up_at _ _ _ _, fun i hi => by rw [am_up_ne _ _ _ _ (by decide), am_up_nj _ _ _ _ (by omega), i4 i hi], fun j hj => ?_⟩
    rw [am_up_ne _ _ _ _ (by decide)]
    by_cases e : j = k
    · subst e; rw [am_up_at]; rfl
    · rw [am_up_nj _ _ _ _ (by omega)]; exact i5 j (by omega)) 4 0 rfl () M ⟨fun _ _ _ => rfl, fun _ _ => rfl, ht, fun _ _ => rfl, fun j hj => by omega⟩
  refine ⟨M1, ?_, i1, i2, i3, i4, i5⟩
  rw [e_Reader_takeInt]
  refine h1.trans ?_
  rw [e_Reader_takeInt_2, if_pos (by omega)]
def fdv (a b c d e : Int) (k : Nat) : Int := if k < 4 then a else if k < 8 then b else if k < 12 then c else if k < 16 then d else e
theorem p_mfeed (M : am_M) (a b c d e : Int) (t : Nat) (ht : M 72 8 = (t : Int)) (h8 : t + 20 ≤ 800) : ∃ M', cX 56 13 [some (rV 72), some (iV a), some (iV b), some (iV c), some (iV d), some (iV e), some (iV 0), none] [] M = some (((t + 20 : Nat) : Int), M') ∧ (∀ x, x ≠ 72 → x ≠ 78 → M' x = M x) ∧ (∀ j, j ≠ 8 → M' 72 j = M 72 j) ∧ M' 72 8 = ((t + 20 : Nat) : Int) ∧ (∀ i, i < t → M' 78 i = M 78 i) ∧ ∀ j, j < 20 → M' 78 (t + j) = byt (fdv a b c d e j) (j % 4) := by
  obtain ⟨d7, M1, h1, i1, i2, i3, i4, i5⟩ := lp_up (α := Option am_V) (X := fun k d7 M => cX 56 13 [some (rV 72), some (iV a), some (iV b), some (iV c), some (iV d), some (iV e), some (iV (k : Int)), d7] [] M) (n := 20) (I := fun k M' => (∀ x, x ≠ 72 → x ≠ 78 → M' x = M x) ∧ (∀ j, j ≠ 8 → M' 72 j = M 72 j) ∧ M' 72 8 = ((t + k : Nat) : Int) ∧ (∀ i, i < t → M' 78 i = M 78 i) ∧ ∀ j, j < k → M' 78 (t + j) = byt (fdv a b c d e j) (j % 4)) (by
    intro k hk d7 M' hI
    obtain ⟨i1, i2, i3, i4, i5⟩ := hI
    have hh := e_Model_feed_13 a b c d e (k : Int) d7 M'
    have em : Int.tmod (k : Int) 4 = ((k % 4 : Nat) : Int) := by rw [Int.tmod_eq_emod_of_nonneg (by omega)]; rfl
    have ed : Int.tdiv (k : Int) 4 = ((k / 4 : Nat) : Int) := by rw [Int.tdiv_eq_ediv_of_nonneg (by omega)]; rfl
    rw [if_pos (by omega), em, ed] at hh
    have fin : ∀ (v : Int) (d' : Option am_V), v = fdv a b c d e k → (cX 56 13 [some (rV 72), some (iV a), some (iV b), some (iV c), some (iV d), some (iV e), some (iV (k : Int)), d7] [] M' = cX 56 13 [some (rV 72), some (iV a), some (iV b), some (iV c), some (iV d), some (iV e), some (iV ((k : Int) + 1)), d'] [] (am_up (am_up M' 78 (t + k) (am_i2b (am_shr v (24 - 8 * ((k % 4 : Nat) : Int))))) 72 8 (((t + k : Nat) : Int) + 1))) → ∃ d' M2, cX 56 13 [some (rV 72), some (iV a), some (iV b), some (iV c), some (iV d), some (iV e), some (iV (k : Int)), d7] [] M' = cX 56 13 [some (rV 72), some (iV a), some (iV b), some (iV c), some (iV d), some (iV e), some (iV ((k + 1 : Nat) : Int)), d'] [] M2 ∧ (∀ x, x ≠ 72 → x ≠ 78 → M2 x = M x) ∧ (∀ j, j ≠ 8 → M2 72 j = M 72 j) ∧ M2 72 8 = ((t + (k + 1) : Nat) : Int) ∧ (∀ i, i < t → M2 78 i = M 78 i) ∧ ∀ j, j < k + 1 → M2 78 (t + j) = byt (fdv a b c d e j) (j % 4) := by
      intro v d' hv hq
      refine ⟨d', _, hq, fun x h4 h5 => by rw [am_up_ne _ _ _ _ h4, am_up_ne _ _ _ _ h5, i1 x h4 h5], fun j hj => by rw [am_up_nj _ _ _ _ hj, am_up_ne _ _ _ _ (by decide), i2 j hj], am_up_at _ _ _ _, fun i hi => by rw [am_up_ne _ _ _ _ (by decide), am_up_nj _ _ _ _ (by omega), i4 i hi], fun j hj => ?_⟩
      rw [am_up_ne _ _ _ _ (by decide)]
      by_cases ej : j = k
      · subst ej; rw [am_up_at, hv]; rfl
      · rw [am_up_nj _ _ _ _ (by omega)]; exact i5 j (by omega)
    rw [i3, Int.toNat_natCast] at hh
    by_cases c1 : k < 4
    · rw [if_pos (by omega), r_ck_ok (by omega) (by omega), r_ck_ok (by omega) (by omega), r_ck_ok (by omega) (by omega), r_bd_ok (by omega) (by omega), if_pos (b_i2b _), r_ck_ok (by omega) (by omega), r_ck_ok (by omega) (by omega)] at hh
      exact fin a _ (by unfold fdv; rw [if_pos c1]) hh
    · rw [if_neg (by omega)] at hh
      by_cases c2 : k < 8
      · rw [if_pos (by omega), r_ck_ok (by omega) (by omega), r_ck_ok (by omega) (by omega), r_ck_ok (by omega) (by omega), r_bd_ok (by omega) (by omega), if_pos (b_i2b _), r_ck_ok (by omega) (by omega), r_ck_ok (by omega) (by omega)] at hh
        exact fin b _ (by unfold fdv; rw [if_neg c1, if_pos c2]) hh
      · rw [if_neg (by omega)] at hh
        by_cases c3 : k < 12
        · rw [if_pos (by omega), r_ck_ok (by omega) (by omega), r_ck_ok (by omega) (by omega), r_ck_ok (by omega) (by omega), r_bd_ok (by omega) (by omega), if_pos (b_i2b _), r_ck_ok (by omega) (by omega), r_ck_ok (by omega) (by omega)] at hh
          exact fin c _ (by unfold fdv; rw [if_neg c1, if_neg c2, if_pos c3]) hh
        · rw [if_neg (by omega)] at hh
          by_cases c4 : k < 16
          · rw [if_pos (by omega), r_ck_ok (by omega) (by omega), r_ck_ok (by omega) (by omega), r_ck_ok (by omega) (by omega), r_bd_ok (by omega) (by omega), if_pos (b_i2b _), r_ck_ok (by omega) (by omega), r_ck_ok (by omega) (by omega)] at hh
            exact fin d _ (by unfold fdv; rw [if_neg c1, if_neg c2, if_neg c3, if_pos c4]) hh
          · rw [if_neg (by omega), r_ck_ok (by omega) (by omega), r_ck_ok (by omega) (by omega), r_ck_ok (by omega) (by omega), r_bd_ok (by omega) (by omega), if_pos (b_i2b _), r_ck_ok (by omega) (by omega), r_ck_ok (by omega) (by omega)] at hh
            exact fin e _ (by unfold fdv; rw [if_neg c1, if_neg c2, if_neg c3, if_neg c4]) hh) 20 0 rfl none M ⟨fun _ _ _ => rfl, fun _ _ => rfl, ht, fun _ _ => rfl, fun j hj => by omega⟩
  refine ⟨M1, ?_, i1, i2, i3, i4, i5⟩
  refine h1.trans ?_
  rw [e_Model_feed_13, if_neg (by omega), i3]
theorem RI_tape {M M' : am_M} (hR : RI M) (h : ∀ a, kS a = true → a ≠ 34 → a ≠ 35 → a ≠ 78 → M' a = M a) (h34 : ∀ j, j ≠ 2 → M' 34 j = M 34 j) (h5 : M' 72 5 = M 72 5) (h11 : M' 72 11 = M 72 11) (h12 : M' 72 12 = M 72 12) (h94 : M' 94 0 = M 94 0) (ht : M' 34 2 = M' 72 8 ∧ (0 ≤ M' 34 2 ∧ M' 34 2 ≤ 800) ∧ ∀ i : Nat, (i : Int) < M' 34 2 → M' 35 i = M' 78 i ∧ (-128 ≤ M' 35 i ∧ M' 35 i ≤ 127)) : RI M' := by
  obtain ⟨r1, r2, r3, r4, r5, r6, r7, r8, r9, r10, r11⟩ := hR
  have low : ∀ a, a ≤ 39 → a ≠ 34 → a ≠ 35 → M' a = M a := fun a ha h4 h5 => h a (by simp [kS, ha]) h4 h5 (by omega)
  have e73 : M' 73 = M 73 := h 73 rfl (by decide) (by decide) (by decide)
  have e75 : M' 75 = M 75 := h 75 rfl (by decide) (by decide) (by decide)
  have es : ∀ k, snp M' k = snp M k := fun k => by unfold snp; rw [e75]
  have eb : ∀ n k, beh M' n k = beh M n k := fun n k => by unfold beh; rw [e73, es]
  refine ⟨by rw [e73]; exact r1, by rw [e73]; exact cT_eq (fun a _ h2 => low a (by omega) (by omega) (by omega)) r2, kT_eq (fun a _ h2 => low a (by omega) (by omega) (by omega)) r3, kT_eq (fun a _ h2 => low a (by omega) (by omega) (by omega)) r4, ?_, ht, ?_, ?_, ?_, ?_, by rw [e73]; exact r11⟩
  · rw [e73, low 4 (by omega) (by omega) (by omega), h 76 rfl (by decide) (by decide) (by decide)]; exact r5
  · rw [h34 7 (by decide), h34 8 (by decide), h11, h12]; exact r7
  · unfold aT at r8 ⊢
    rw [low 36 (by omega) (by omega) (by omega), h5, low 37 (by omega) (by omega) (by omega), low 38 (by omega) (by omega) (by omega), low 39 (by omega) (by omega) (by omega)]
    refine ⟨r8.1, r8.2.1, fun k hk => ?_⟩
    rw [es, eb]
    exact r8.2.2 k hk
  · rw [low 18 (by omega) (by omega) (by omega), low 19 (by omega) (by omega) (by omega), h94]; exact r9
  · rw [h 88 rfl (by decide) (by decide) (by decide)]; exact r10
theorem o0 : lw_O0 RI := by
  intro a b c d e ha hb hc hd he M hR hM
  obtain ⟨-, -, -, -, -, ⟨t1, t2, t3⟩, -⟩ := id hR
  obtain ⟨t, ht⟩ : ∃ t : Nat, M 34 2 = (t : Int) := ⟨(M 34 2).toNat, by omega⟩
  by_cases h : 800 < t + 20
  · refine ⟨-4, M, am_up M 72 6 0, ?_, ?_, RI_mf (mf_up (mf.rf M) (by omega)) hR⟩
    · rw [e_Desk_feed, ht, r_ck_ok (by omega) (by omega), if_pos (by omega)]
    · rw [e_Model_feed, ← t1, ht, r_ck_ok (by omega) (by omega), if_pos (by omega)]
  · obtain ⟨M1, a1, a2, a3, a4, a5, a6⟩ := p_takeInt M a t ht (by omega)
    obtain ⟨M2, b1, b2, b3, b4, b5, b6⟩ := p_takeInt M1 b (t + 4) a4 (by omega)
    obtain ⟨M3, c1, c2, c3, c4, c5, c6⟩ := p_takeInt M2 c (t + 4 + 4) b4 (by omega)
    obtain ⟨M4, d1, d2, d3, d4, d5, d6⟩ := p_takeInt M3 d (t + 4 + 4 + 4) c4 (by omega)
    obtain ⟨M5, e1, e2, e3, e4, e5, e6⟩ := p_takeInt M4 e (t + 4 + 4 + 4 + 4) d4 (by omega)
    have eq5 : ∀ x, x ≠ 34 → x ≠ 35 → M5 x = M x := fun x h4 h5 => by rw [e2 x h4 h5, d2 x h4 h5, c2 x h4 h5, b2 x h4 h5, a2 x h4 h5]
    obtain ⟨M6, f1, f2, f3, f4, f5, f6⟩ := p_mfeed (am_up M5 72 6 0) a b c d e t (by rw [am_up_nj _ _ _ _ (by decide), eq5 72 (by decide) (by decide), ← t1, ht]) (by omega)
    refine ⟨((t + 20 : Nat) : Int), M5, M6, ?_, ?_, ?_⟩
    · rw [e_Desk_feed, ht, r_ck_ok (by omega) (by omega), if_neg (by omega), a1, am_cb_s, b1, am_cb_s, c1, am_cb_s, d1, am_cb_s, e1, am_cb_s, e4]
    · rw [e_Model_feed, eq5 72 (by decide) (by decide), ← t1, ht, r_ck_ok (by omega) (by omega), if_neg (by omega)]
      exact f1
    · have g : ∀ x, x ≠ 72 → x ≠ 78 → M6 x = M5 x := fun x h4 h5 => by rw [f2 x h4 h5, am_up_ne _ _ _ _ h4]
      have g72 : ∀ j, j ≠ 8 → j ≠ 6 → M6 72 j = M 72 j := fun j h8 h6 => by rw [f3 j h8, am_up_nj _ _ _ _ h6, eq5 72 (by decide) (by decide)]
      have e342 : M6 34 2 = ((t + 20 : Nat) : Int) := by rw [g 34 (by decide) (by decide), e4]
      refine RI_tape hR (fun x _ h4 h5 h6 => by
          by_cases h7 : x = 72
          · rename_i hk; subst h7; exact absurd hk (by decide)
          · rw [g x h7 h6, eq5 x h4 h5]) (fun j hj => by rw [g 34 (by decide) (by decide), e3 j hj, d3 j hj, c3 j hj, b3 j hj, a3 j hj]) (g72 5 (by decide) (by decide)) (g72 11 (by decide) (by decide)) (g72 12 (by decide) (by decide)) (by rw [g 94 (by decide) (by decide), eq5 94 (by decide) (by decide)]) ⟨by rw [e342, f4], by rw [e342]; omega, fun i hi => ?_⟩
      rw [e342] at hi
      have key : M6 35 i = M6 78 i := by
        rw [g 35 (by decide) (by decide)]
        by_cases q0 : i < t
        · rw [f5 i q0, am_up_ne _ _ _ _ (by decide), eq5 78 (by decide) (by decide), e5 i (by omega), d5 i (by omega), c5 i (by omega), b5 i (by omega), a5 i q0]
          exact (t3 i (by omega)).1
        · obtain ⟨j, rfl⟩ : ∃ j, i = t + j := ⟨i - t, by omega⟩
          rw [f6 j (by omega)]
          unfold fdv
          by_cases q1 : j < 4
          · rw [if_pos q1, e5 _ (by omega), d5 _ (by omega), c5 _ (by omega), b5 _ (by omega), a6 j q1, show j % 4 = j by omega]
          · rw [if_neg q1]
            by_cases q2 : j < 8
            · rw [if_pos q2, e5 _ (by omega), d5 _ (by omega), c5 _ (by omega), show t + j = t + 4 + (j - 4) by omega, b6 (j - 4) (by omega), show j % 4 = j - 4 by omega]
            · rw [if_neg q2]
              by_cases q3 : j < 12
              · rw [if_pos q3, e5 _ (by omega), d5 _ (by omega), show t + j = t + 4 + 4 + (j - 8) by omega, c6 (j - 8) (by omega), show j % 4 = j - 8 by omega]
              · rw [if_neg q3]
                by_cases q4 : j < 16
                · rw [if_pos q4, e5 _ (by omega), show t + j = t + 4 + 4 + 4 + (j - 12) by omega, d6 (j - 12) (by omega), show j % 4 = j - 12 by omega]
                · rw [if_neg q4, show t + j = t + 4 + 4 + 4 + 4 + (j - 16) by omega, e6 (j - 16) (by omega), show j % 4 = j - 16 by omega]
      refine ⟨key, ?_⟩
      rw [key]
      by_cases q0 : i < t
      · have h3 := t3 i (by omega)
        rw [f5 i q0, am_up_ne _ _ _ _ (by decide), eq5 78 (by decide) (by decide), ← h3.1]
        exact h3.2
      · obtain ⟨j, rfl⟩ : ∃ j, i = t + j := ⟨i - t, by omega⟩
        rw [f6 j (by omega)]
        exact b_i2b _
-- field
theorem p_of (M : am_M) (f w : Nat) (hf : f < 8) (hw : w < 4) : cY 96 [rV 72, iV (f : Int), iV (w : Int)] M = some (M 73 (42 + 4 * f + w), M) := by
  rw [e_Model_of, r_ck_ok (by omega) (by omega), r_ck_ok (by omega) (by omega), r_ck_ok (by omega) (by omega), r_bd_ok (by omega) (by omega), show (42 + 4 * (f : Int) + (w : Int)).toNat = 42 + 4 * f + w by omega]
theorem p_of0 (M : am_M) (f : Nat) (hf : f < 8) : cY 96 [rV 72, iV (f : Int), iV 0] M = some (M 73 (42 + 4 * f), M) := p_of M f 0 hf (by omega)
theorem p_of1 (M : am_M) (f : Nat) (hf : f < 8) : cY 96 [rV 72, iV (f : Int), iV 1] M = some (M 73 (43 + 4 * f), M) := (p_of M f 1 hf (by omega)).trans (by rw [show 42 + 4 * f + 1 = 43 + 4 * f by omega])
theorem p_of2 (M : am_M) (f : Nat) (hf : f < 8) : cY 96 [rV 72, iV (f : Int), iV 2] M = some (M 73 (44 + 4 * f), M) := (p_of M f 2 hf (by omega)).trans (by rw [show 42 + 4 * f + 2 = 44 + 4 * f by omega])
theorem p_of3 (M : am_M) (f : Nat) (hf : f < 8) : cY 96 [rV 72, iV (f : Int), iV 3] M = some (M 73 (45 + 4 * f), M) := (p_of M f 3 hf (by omega)).trans (by rw [show 42 + 4 * f + 3 = 45 + 4 * f by omega])
theorem o13 : lw_O13 RI := by
  intro a b ha hb M hR hM
  have hR2 : RI (am_up M 72 6 0) := RI_mf (mf_up (mf.rf M) (by omega)) hR
  obtain ⟨r1, r2, -⟩ := id hR
  have hb1 := r1.2.1
  obtain ⟨n, hn⟩ : ∃ n : Nat, M 73 1 = (n : Int) := ⟨(M 73 1).toNat, by omega⟩
  have e0 : M 0 4 = M 73 1 := r2.2.1
  have e73 : (am_up M 72 6 0) 73 = M 73 := am_up_ne M 72 6 0 (by decide)
  by_cases h : 0 ≤ a ∧ a < M 73 1
  · obtain ⟨f, rfl⟩ : ∃ f : Nat, a = (f : Int) := ⟨a.toNat, by omega⟩
    have hf8 : f < 8 := by omega
    have hcf := r2.2.2.2.2.2.2.2.2.1 f h.2
    by_cases hb4 : 0 ≤ b ∧ b ≤ 4
    · by_cases b4 : b = 4
      · subst b4
        have hP : isP n (fun p => M 73 (74 + p)) := vT_isP r1 hn
        obtain ⟨p0, hp, hf⟩ := isP_sur hP (f := (f : Int)) (by omega)
        have hf : M 73 (74 + p0) = (f : Int) := hf
        have e9 : ∀ p, p < n → M 9 p = M 73 (74 + p) := fun p hp => r2.2.2.2.2.2.2.2.2.2.1 p (by omega)
        have hf9 : M 9 p0 = (f : Int) := by rw [e9 p0 hp]; exact hf
        have hpl := p_placeInOrder M (f : Int) n p0 (by rw [e0, hn]) (by omega) hp hf9 (fun x hx => (isP_plc (isP_eq hP e9) hp hf9).2 x (by omega) (by omega))
        have hpi := p_placeIn (am_up M 72 6 0) (f : Int) p0 (by omega) (by rw [e73]; exact hf) (fun x hx => by rw [e73]; exact (isP_plc hP hp hf).2 x (by omega) (by omega))
        refine ⟨(p0 : Int), M, am_up M 72 6 0, ?_, ?_, hR2⟩
        · rw [e_Desk_field, p_lacksField, am_cb_s, e0, if_pos h, if_pos rfl, if_neg (by decide), if_neg (by decide), if_neg (by decide), if_neg (by decide), if_pos rfl, hpl, am_cb_s]
        · rw [e_Model_field, p_isField _ _ (by rw [e73]; omega), am_cb_s, e73, if_pos h, if_neg (by decide), p_isIn, am_cb_s, if_pos hb4, if_neg (by decide), if_neg (by decide), hpi, am_cb_s]
      · obtain ⟨w, rfl⟩ : ∃ w : Nat, b = (w : Int) := ⟨b.toNat, by omega⟩
        refine ⟨M 73 (42 + 4 * f + w), M, am_up M 72 6 0, ?_, ?_, hR2⟩
        · rw [e_Desk_field, p_lacksField, am_cb_s, e0, if_pos h, if_pos rfl]
          rcases (by omega : w = 0 ∨ w = 1 ∨ w = 2 ∨ w = 3) with rfl | rfl | rfl | rfl
          · rw [if_pos (by decide), r_bd_ok (by omega) (by omega), Int.toNat_natCast, hcf.1]; rfl
          · rw [if_neg (by decide), if_pos (by decide), r_bd_ok (by omega) (by omega), Int.toNat_natCast, hcf.2.1, show 42 + 4 * f + 1 = 43 + 4 * f by omega]
          · rw [if_neg (by decide), if_neg (by decide), if_pos (by decide), r_bd_ok (by omega) (by omega), Int.toNat_natCast, hcf.2.2.1, show 42 + 4 * f + 2 = 44 + 4 * f by omega]
          · rw [if_neg (by decide), if_neg (by decide), if_neg (by decide), if_pos (by decide), r_bd_ok (by omega) (by omega), Int.toNat_natCast, hcf.2.2.2, show 42 + 4 * f + 3 = 45 + 4 * f by omega]
        · rw [e_Model_field, p_isField _ _ (by rw [e73]; omega), am_cb_s, e73, if_pos h, if_neg (by decide), p_isIn, am_cb_s, if_pos hb4, if_neg (by decide), if_pos (by omega), p_of _ _ _ hf8 (by omega), am_cb_s, e73]
    · refine ⟨-2, M, am_up M 72 6 0, ?_, ?_, hR2⟩
      · rw [e_Desk_field, p_lacksField, am_cb_s, e0, if_pos h, if_pos rfl, if_neg (by omega), if_neg (by omega), if_neg (by omega), if_neg (by omega), if_neg (by omega)]
      · rw [e_Model_field, p_isField _ _ (by rw [e73]; omega), am_cb_s, e73, if_pos h, if_neg (by decide), p_isIn, am_cb_s, if_neg hb4, if_pos rfl]
  · refine ⟨-2, M, am_up M 72 6 0, ?_, ?_, hR2⟩
    · rw [e_Desk_field, p_lacksField, am_cb_s, e0, if_neg h, if_neg (by decide)]
    · rw [e_Model_field, p_isField _ _ (by rw [e73]; omega), am_cb_s, e73, if_neg h, if_pos rfl]
