-- the kinds of line
section
variable {C0 N0 C N : am_M} {e p : Nat} {w wa : Int}
theorem j_num2 (hT : TX C0 N0 e) (lo lo' hi : Int) (hlo : w = 0 → lo' = lo) (h : S2 C0 N0 e p w wa C N) : ∃ p' w' wa' vc vm C' N', cY 206 [rV 34, iV lo, iV hi] C = some (vc, C') ∧ cY 63 [rV 72, iV lo', iV hi] N = some (vm, N') ∧ S2 C0 N0 e p' w' wa' C' N' ∧ p ≤ p' ∧ (0 ≤ vc ∧ vc ≤ 99999) ∧ (vm = lo' ∨ lo' ≤ vm ∧ vm ≤ hi) ∧ (w' = 0 → w = 0 ∧ vc = vm ∧ lo ≤ vc ∧ vc ≤ hi) ∧ (w ≠ 0 → w' = w ∧ wa' = wa) := by
  by_cases z : w = 0
  · rw [hlo z]; exact j_num hT lo hi h
  · obtain ⟨p', w', wa', vc, vm, C', N', a1, a2, a3, a4, a5, a6, a7, a8⟩ := j_num hT lo hi h
    have hw := S2_mw h
    have en : ∀ l : Int, cY 63 [rV 72, iV l, iV hi] N = some (l, N) := fun l => by rw [e_Model_numeral, hw, if_neg z]
    rw [en lo] at a2
    have e2 : N = N' := by injection a2 with a2; injection a2
    rw [← e2] at a3
    exact ⟨p', w', wa', vc, lo', C', N, a1, en lo', a3, a4, a5, Or.inl rfl, fun z' => absurd (a7 z').1 z, a8⟩
theorem psum (hD : DR C0 N0) : ∀ r : Nat, (r : Int) ≤ N0 73 0 → (0 ≤ C0 18 r ∧ C0 18 r ≤ 60 * (r : Int)) ∧ (0 ≤ C0 19 r ∧ C0 19 r ≤ 60 * (r : Int)) := by
  intro r
  induction r with
  | zero => intro _; have := hD.2.1.2.2.2.2.2.2.1; have h1 : C0 18 0 = 0 := this.1; have h2 : C0 19 0 = 0 := this.2; omega
  | succ r ih =>
    intro hr
    have h := ih (by omega)
    obtain ⟨h1, h2, h3⟩ := hD.2.1.2.2.2.2.2.2.2.1 r (by omega)
    have h1 : C0 18 (r + 1) = C0 18 r + N0 73 (12 + 3 * r) := h1
    have h2 : C0 19 (r + 1) = C0 19 r + N0 73 (13 + 3 * r) := h2
    have h4 := hD.1.2.2.2.2.2.2.1 r (by omega)
    omega
theorem l_reach (hT : TX C0 N0 e) (hD : DR C0 N0) (h : S2 C0 N0 e p w wa C N) (X : Nat) (hX : 12 ≤ X ∧ X ≤ 180) (hx : w = 0 → ∃ r : Nat, N0 73 0 = (r : Int) ∧ r < 10 ∧ X = 12 + 3 * r) (d1 d2 d3 : Option am_V) : ∃ C' N', cX 197 10 [some (rV 34), d1, d2, d3] [] C = some (0, C') ∧ cY 71 [rV 72, iV (X : Int)] N = some (0, N') ∧ T2 C0 N0 e p w wa C' N' := by
  obtain ⟨p1, w1, wa1, v1, u1, C1, N1, a1, a2, a3, a4, a5, a6, a7, a8⟩ := j_num hT 0 60 h
  obtain ⟨hT1, a3'⟩ := jn_up hT a3 73 X u1 (Or.inl rfl)
  obtain ⟨p2, w2, wa2, v2, u2, C2, N2, b1, b2, b3, b4, b5, b6, b7, b8⟩ := j_num hT1 0 60 a3'
  obtain ⟨hT2, b3'⟩ := jn_up hT1 b3 73 (X + 1) u2 (Or.inl rfl)
  obtain ⟨p3, w3, wa3, v3, u3, C3, N3, c1, c2, c3, c4, c5, c6, c7, c8⟩ := j_num hT2 0 500 b3'
  obtain ⟨hT3, c3'⟩ := jn_up hT2 c3 73 (X + 2) u3 (Or.inl rfl)
  have e0 : (am_up N3 73 (X + 2) u3) 73 0 = N0 73 0 := by rw [am_up_nj _ _ _ _ (by omega), S2_m c3 (by decide), am_up_nj _ _ _ _ (by omega), am_up_nj _ _ _ _ (by omega)]
  obtain ⟨hT4, c4'⟩ := jn_up hT3 c3' 73 0 (N0 73 0 + 1) (Or.inl rfl)
  have hb := hD.1.1
  have mEq : cY 71 [rV 72, iV (X : Int)] N = some (0, am_up (am_up N3 73 (X + 2) u3) 73 0 (N0 73 0 + 1)) := by
    rw [e_Model_reachRead, a2, am_cb_s, r_bd_ok (by omega) (by omega), r_ck_ok (by omega) (by omega), Int.toNat_natCast, b2, am_cb_s, r_bd_ok (by omega) (by omega), r_ck_ok (by omega) (by omega), show ((X : Int) + 1).toNat = X + 1 by omega, c2, am_cb_s, r_bd_ok (by omega) (by omega), show ((X : Int) + 2).toNat = X + 2 by omega, e0, r_ck_ok (by omega) (by omega)]
  rw [mEq, e_Reader_readReach_10, a1, am_cb_s, b1, am_cb_s, c1, am_cb_s, S2_w c3]
  have FNs : FN N0 (am_up (am_up (am_up (am_up N0 73 X u1) 73 (X + 1) u2) 73 (X + 2) u3) 73 0 (N0 73 0 + 1)) := FN_up (FN_up (FN_up (FN_up (FN_rf N0) _ _ _ (Or.inl rfl)) _ _ _ (Or.inl rfl)) _ _ _ (Or.inl rfl)) _ _ _ (Or.inl rfl)
  have ww : w ≠ 0 → w3 = w ∧ wa3 = wa := fun z => by
    obtain ⟨x1, x2⟩ := a8 z
    obtain ⟨y1, y2⟩ := b8 (by rw [x1]; exact z)
    obtain ⟨z1, z2⟩ := c8 (by rw [y1, x1]; exact z)
    exact ⟨by rw [z1, y1, x1], by rw [z2, y2, x2]⟩
  by_cases z : w3 = 0
  · obtain ⟨z2, q1, q2, q3⟩ := c7 z
    obtain ⟨z1, q4, q5, q6⟩ := b7 z2
    obtain ⟨z0, q7, q8, q9⟩ := a7 z1
    obtain ⟨r, hr0, hr, rfl⟩ := hx z0
    have ps := psum hD r (by omega)
    have k0 : C0 17 0 = (r : Int) := hD.2.1.1.trans hr0
    rw [if_pos z, e_Told_addReach, S2_c c3 (show 17 ≠ 34 by decide), S2_c c3 (show 18 ≠ 34 by decide), S2_c c3 (show 19 ≠ 34 by decide), k0, if_pos (by omega), r_bd_ok (by omega) (by omega), r_ck_ok (by omega) (by omega), r_bd_ok (by omega) (by omega), Int.toNat_natCast, r_ck_ok (by omega) (by omega), r_bd_ok (by omega) (by omega), r_ck_ok (by omega) (by omega), r_bd_ok (by omega) (by omega), r_ck_ok (by omega) (by omega), r_bd_ok (by omega) (by omega), r_ck_ok (by omega) (by omega), am_cb_s, show ((r : Int) + 1).toNat = r + 1 by omega]
    obtain ⟨hT5, s5⟩ := jc_up hT4 c4' 20 r v3 (by omega)
    obtain ⟨hT6, s6⟩ := jc_up hT5 s5 18 (r + 1) (C0 18 r + v1) (by omega)
    obtain ⟨hT7, s7⟩ := jc_up hT6 s6 19 (r + 1) (C0 19 r + v2) (by omega)
    obtain ⟨hT8, s8⟩ := jc_up hT7 s7 17 0 ((r : Int) + 1) (by omega)
    refine ⟨_, _, rfl, rfl, _, _, p3, w3, wa3, hT8, s8, by omega, FC_up (FC_up (FC_up (FC_up (FC_rf C0) _ _ _ (by omega)) _ _ _ (by omega)) _ _ _ (by omega)) _ _ _ (by omega), FNs, ?_⟩
    have hDR : DR (am_up (am_up (am_up (am_up C0 20 r v3) 18 (r + 1) (C0 18 r + v1)) 19 (r + 1) (C0 19 r + v2)) 17 0 ((r : Int) + 1)) (am_up (am_up (am_up (am_up N0 73 (12 + 3 * r) u1) 73 (12 + 3 * r + 1) u2) 73 (12 + 3 * r + 2) u3) 73 0 (N0 73 0 + 1)) := by
      have en : ∀ i, i ≠ 0 → (i < 12 + 3 * r ∨ 12 + 3 * r + 3 ≤ i) → (am_up (am_up (am_up (am_up N0 73 (12 + 3 * r) u1) 73 (12 + 3 * r + 1) u2) 73 (12 + 3 * r + 2) u3) 73 0 (N0 73 0 + 1)) 73 i = N0 73 i := fun i h0 h1 => by rw [am_up_nj _ _ _ _ h0, am_up_nj _ _ _ _ (by omega), am_up_nj _ _ _ _ (by omega), am_up_nj _ _ _ _ (by omega)]
      have en0 : (am_up (am_up (am_up (am_up N0 73 (12 + 3 * r) u1) 73 (12 + 3 * r + 1) u2) 73 (12 + 3 * r + 2) u3) 73 0 (N0 73 0 + 1)) 73 0 = (r : Int) + 1 := by rw [am_up_at, hr0]
      have g1 : (am_up (am_up (am_up (am_up N0 73 (12 + 3 * r) u1) 73 (12 + 3 * r + 1) u2) 73 (12 + 3 * r + 2) u3) 73 0 (N0 73 0 + 1)) 73 (12 + 3 * r) = v1 := by rw [am_up_nj _ _ _ _ (by omega), am_up_nj _ _ _ _ (by omega), am_up_nj _ _ _ _ (by omega), am_up_at, q7]
      have g2 : (am_up (am_up (am_up (am_up N0 73 (12 + 3 * r) u1) 73 (12 + 3 * r + 1) u2) 73 (12 + 3 * r + 2) u3) 73 0 (N0 73 0 + 1)) 73 (13 + 3 * r) = v2 := by rw [show 13 + 3 * r = 12 + 3 * r + 1 by omega, am_up_nj _ _ _ _ (by omega), am_up_nj _ _ _ _ (by omega), am_up_at, q4]
      have g3 : (am_up (am_up (am_up (am_up N0 73 (12 + 3 * r) u1) 73 (12 + 3 * r + 1) u2) 73 (12 + 3 * r + 2) u3) 73 0 (N0 73 0 + 1)) 73 (14 + 3 * r) = v3 := by rw [show 14 + 3 * r = 12 + 3 * r + 2 by omega, am_up_nj _ _ _ _ (by omega), am_up_at, q1]
      have n76 : (am_up (am_up (am_up (am_up N0 73 (12 + 3 * r) u1) 73 (12 + 3 * r + 1) u2) 73 (12 + 3 * r + 2) u3) 73 0 (N0 73 0 + 1)) 76 = N0 76 := by rw [am_up_ne _ _ _ _ (by decide), am_up_ne _ _ _ _ (by decide), am_up_ne _ _ _ _ (by decide), am_up_ne _ _ _ _ (by decide)]
      have n1 := en 1 (by omega) (by omega)
      generalize (am_up (am_up (am_up (am_up N0 73 (12 + 3 * r) u1) 73 (12 + 3 * r + 1) u2) 73 (12 + 3 * r + 2) u3) 73 0 (N0 73 0 + 1)) = Nn at en en0 g1 g2 g3 n76 n1
      have eM : ∀ a, a ≠ 17 → a ≠ 18 → a ≠ 19 → a ≠ 20 → (am_up (am_up (am_up (am_up C0 20 r v3) 18 (r + 1) (C0 18 r + v1)) 19 (r + 1) (C0 19 r + v2)) 17 0 ((r : Int) + 1)) a = C0 a := fun a x1 x2 x3 x4 => by rw [am_up_ne _ _ _ _ x1, am_up_ne _ _ _ _ x3, am_up_ne _ _ _ _ x2, am_up_ne _ _ _ _ x4]
      refine ⟨vT_reach hD.1 hr0 hr en en0 (by rw [g1, g2, g3]; omega), cT_reach hD.1 hD.2.1 hr0 hr en en0 eM ⟨am_up_at _ _ _ _, ?_⟩ (fun i hi => ⟨?_, ?_⟩) (fun i hi => ?_) ⟨?_, ?_, ?_⟩, kT_of (eM _ (by decide) (by decide) (by decide) (by decide)) (eM _ (by decide) (by decide) (by decide) (by decide)) (eM _ (by decide) (by decide) (by decide) (by decide)) hD.2.2.1, ?_, ?_⟩
      · rw [am_up_nj _ _ _ _ (by decide), am_up_ne _ _ _ _ (by decide), am_up_ne _ _ _ _ (by decide), am_up_ne _ _ _ _ (by decide)]
      · rw [am_up_ne _ _ _ _ (by decide), am_up_ne _ _ _ _ (by decide), am_up_nj _ _ _ _ (by omega), am_up_ne _ _ _ _ (by decide)]
      · rw [am_up_ne _ _ _ _ (by decide), am_up_nj _ _ _ _ (by omega), am_up_ne _ _ _ _ (by decide), am_up_ne _ _ _ _ (by decide)]
      · rw [am_up_ne _ _ _ _ (by decide), am_up_ne _ _ _ _ (by decide), am_up_ne _ _ _ _ (by decide), am_up_nj _ _ _ _ (by omega)]
      · rw [am_up_ne _ _ _ _ (by decide), am_up_ne _ _ _ _ (by decide), am_up_at, g1]
      · rw [am_up_ne _ _ _ _ (by decide), am_up_at, g2]
      · rw [am_up_ne _ _ _ _ (by decide), am_up_ne _ _ _ _ (by decide), am_up_ne _ _ _ _ (by decide), am_up_at, g3]
      · rw [n1, n76, eM 21 (by decide) (by decide) (by decide) (by decide)]; exact hD.2.2.2.1
      · intro f hf hf8
        rw [n1] at hf
        rw [en _ (by omega) (by omega), en _ (by omega) (by omega)]
        exact hD.2.2.2.2 f hf hf8
    exact ⟨DR_G hDR, fun _ => hDR, ww⟩
  · rw [if_neg z]
    exact ⟨_, _, rfl, rfl, C0, _, p3, w3, wa3, hT4, c4', by omega, FC_rf C0, FNs, DR_G hD, fun h => absurd h z, ww⟩
theorem l_field (hT : TX C0 N0 e) (hD : DR C0 N0) (h : S2 C0 N0 e p w wa C N) (hx : w = 0 → N0 73 1 < 8) (d1 d2 d3 d4 : Option am_V) : ∃ C' N', cX 198 10 [some (rV 34), d1, d2, d3, d4] [] C = some (0, C') ∧ cY 72 [rV 72] N = some (0, N') ∧ T2 C0 N0 e p w wa C' N' := by
  have hb := hD.1.1
  have hb1 := hD.1.2.1
  obtain ⟨n, hn⟩ : ∃ n : Nat, N0 73 1 = (n : Int) := ⟨(N0 73 1).toNat, by omega⟩
  have hn17 : C0 17 4 = (n : Int) := hD.2.1.2.1.trans hn
  have h170 : C0 17 0 = N0 73 0 := hD.2.1.1
  have hNT := hD.2.2.2.1
  rw [hn] at hNT
  obtain ⟨p1, w1, wa1, v1, u1, C1, N1, a1, a2, a3, a4, a5, a6⟩ := j_name hT h
  have mid : ∃ C2 N2 w2 wa2, cX 198 10 [some (rV 34), d1, d2, d3, d4] [] C = cX 198 24 [some (rV 34), some (lV v1), none, none, none] [] C2 ∧ cY 72 [rV 72] N = cX 72 16 [some (rV 72), some (lV u1), none, none, none, none] [] N2 ∧ S2 C0 N0 e p1 w2 wa2 C2 N2 ∧ (w2 = 0 → w1 = 0) ∧ (w1 ≠ 0 → w2 = w1 ∧ wa2 = wa1) := by
    rw [e_Reader_readField_10, a1, am_cb_s, p_fN_c C1 v1 ((congrFun (S2_c a3 (show 17 ≠ 34 by decide)) 4).trans hn17) (by omega), am_cb_s, S2_c a3 (show 21 ≠ 34 by decide), e_Model_namedRead, a2, am_cb_s, S2_mw a3]
    by_cases z : w1 = 0
    · obtain ⟨z0, ⟨l, hl, hv1, hv2⟩, h13⟩ := a5 z
      subst z
      have ef := fdx_eq hNT hl n 0 (by omega)
      rw [if_pos rfl, p_fN_m N1 u1 ((congrFun (S2_m a3 (show 73 ≠ 72 by decide)) 1).trans hn) (by omega), am_cb_s, S2_m a3 (show 76 ≠ 72 by decide)]
      have ef' : fdx (C0 21) v1 n 0 = fdx (N0 76) u1 n 0 := by rw [hv1, hv2]; exact ef
      rw [← ef']
      obtain ⟨C2, N2, b1, b2, b3⟩ := j_ref (c := 3) (pl := C1 34 5) (by omega) a3
      by_cases c1 : fdx (C0 21) v1 n 0 = -1
      · rw [if_pos c1, if_pos c1]
        exact ⟨C1, N1, 0, wa1, rfl, rfl, a3, fun _ => rfl, fun h => absurd rfl h⟩
      · rw [if_neg c1, if_neg c1, b1, am_cb_s, ← h13, b2, am_cb_s]
        exact ⟨C2, N2, 3, _, rfl, rfl, b3, fun h => absurd h (by decide), fun h => absurd rfl h⟩
    · rw [if_neg z]
      obtain ⟨C2, b1, b2⟩ := j_refx (c := 3) (pl := C1 34 5) (by decide) z a3
      rw [b1, am_cb_s]
      by_cases c1 : fdx (C0 21) v1 n 0 = -1
      · rw [if_pos c1]
        exact ⟨C1, N1, w1, wa1, rfl, rfl, a3, fun h => h, fun h => ⟨rfl, rfl⟩⟩
      · rw [if_neg c1]
        exact ⟨C2, N1, w1, wa1, rfl, rfl, b2, fun h => h, fun h => ⟨rfl, rfl⟩⟩
  obtain ⟨C2, N2, w2, wa2, m1, m2, m3, m4, m5⟩ := mid
  rw [m1, m2, e_Reader_readField_24, e_Model_namedRead_16, S2_c m3 (show 17 ≠ 34 by decide), S2_m m3 (show 73 ≠ 72 by decide), h170, r_ck_ok (by omega) (by omega), r_ck_ok (by omega) (by omega)]
  obtain ⟨p3, w3, wa3, v3, u3, C3, N3, b1, b2, b3, b4, b5, b6, b7, b8⟩ := j_num hT 0 (N0 73 0 - 1) m3
  obtain ⟨p4, w4, wa4, v4, u4, C4, N4, c1, c2, c3, c4, c5, c6, c7, c8⟩ := j_num hT 1 999 b3
  rw [b1, am_cb_s, c1, am_cb_s, b2, am_cb_s, c2, am_cb_s, S2_w c3, S2_mw c3]
  have ww : w ≠ 0 → w4 = w ∧ wa4 = wa := fun z => by
    obtain ⟨x1, x2⟩ := a6 z
    obtain ⟨y1, y2⟩ := m5 (by rw [x1]; exact z)
    obtain ⟨z1, z2⟩ := b8 (by rw [y1, x1]; exact z)
    obtain ⟨t1, t2⟩ := c8 (by rw [z1, y1, x1]; exact z)
    exact ⟨by rw [t1, z1, y1, x1], by rw [t2, z2, y2, x2]⟩
  by_cases z : w4 = 0
  · obtain ⟨z2, q1, q2, q3⟩ := c7 z
    obtain ⟨z1, q4, q5, q6⟩ := b7 z2
    have z0 := m4 z1
    obtain ⟨z00, ⟨l, hl, hv1, hv2⟩, -⟩ := a5 z0
    have hn8 := hx z00
    rw [if_pos z, if_pos z, e_Told_addField, S2_c c3 (show 17 ≠ 34 by decide), hn17, if_pos (by omega)]
    iterate 6 rw [r_bd_ok (by omega) (by omega)]
    rw [r_ck_ok (by omega) (by omega), am_cb_s, Int.toNat_natCast, S2_m c3 (show 73 ≠ 72 by decide), hn, r_bd_ok (by omega) (by omega), r_ck_ok (by omega) (by omega), r_ck_ok (by omega) (by omega), r_ck_ok (by omega) (by omega), r_bd_ok (by omega) (by omega), r_ck_ok (by omega) (by omega), r_ck_ok (by omega) (by omega), r_ck_ok (by omega) (by omega), r_bd_ok (by omega) (by omega), r_ck_ok (by omega) (by omega), r_bd_ok (by omega) (by omega), Int.toNat_natCast, show (42 + 4 * (n : Int) + 0).toNat = 42 + 4 * n by omega, show (42 + 4 * (n : Int) + 1).toNat = 43 + 4 * n by omega, show (74 + (n : Int)).toNat = 74 + n by omega]
    have e1 : (am_up (am_up (am_up (am_up N4 76 n u1) 73 (42 + 4 * n) u3) 73 (43 + 4 * n) u4) 73 (74 + n) (n : Int)) 73 1 = (n : Int) := by rw [am_up_nj _ _ _ _ (by omega), am_up_nj _ _ _ _ (by omega), am_up_nj _ _ _ _ (by omega), am_up_ne _ _ _ _ (by decide), S2_m c3 (show 73 ≠ 72 by decide)]; exact hn
    rw [e1, r_ck_ok (by omega) (by omega)]
    obtain ⟨hT1, s1⟩ := jn_up hT c3 76 n u1 (Or.inr rfl)
    obtain ⟨hT2, s2⟩ := jn_up hT1 s1 73 (42 + 4 * n) u3 (Or.inl rfl)
    obtain ⟨hT3, s3⟩ := jn_up hT2 s2 73 (43 + 4 * n) u4 (Or.inl rfl)
    obtain ⟨hT4, s4⟩ := jn_up hT3 s3 73 (74 + n) (n : Int) (Or.inl rfl)
    obtain ⟨hT5, s5⟩ := jn_up hT4 s4 73 1 ((n : Int) + 1) (Or.inl rfl)
    obtain ⟨hU1, t1⟩ := jc_up hT5 s5 21 n v1 (by omega)
    obtain ⟨hU2, t2⟩ := jc_up hU1 t1 22 n v3 (by omega)
    obtain ⟨hU3, t3⟩ := jc_up hU2 t2 23 n v4 (by omega)
    obtain ⟨hU4, t4⟩ := jc_up hU3 t3 24 n 0 (by omega)
    obtain ⟨hU5, t5⟩ := jc_up hU4 t4 25 n 0 (by omega)
    obtain ⟨hU6, t6⟩ := jc_up hU5 t5 26 n (n : Int) (by omega)
    obtain ⟨hU7, t7⟩ := jc_up hU6 t6 17 4 ((n : Int) + 1) (by omega)
    have FNs := FN_up (FN_up (FN_up (FN_up (FN_up (FN_rf N0) 76 n u1 (Or.inr rfl)) 73 (42 + 4 * n) u3 (Or.inl rfl)) 73 (43 + 4 * n) u4 (Or.inl rfl)) 73 (74 + n) (n : Int) (Or.inl rfl)) 73 1 ((n : Int) + 1) (Or.inl rfl)
    have FCs := FC_up (FC_up (FC_up (FC_up (FC_up (FC_up (FC_up (FC_rf C0) 21 n v1 (by omega)) 22 n v3 (by omega)) 23 n v4 (by omega)) 24 n 0 (by omega)) 25 n 0 (by omega)) 26 n (n : Int) (by omega)) 17 4 ((n : Int) + 1) (by omega)
    refine ⟨_, _, rfl, rfl, _, _, p4, w4, wa4, hU7, t7, by omega, FCs, FNs, ?_⟩
    have hDR : DR (am_up (am_up (am_up (am_up (am_up (am_up (am_up C0 21 n v1) 22 n v3) 23 n v4) 24 n 0) 25 n 0) 26 n (n : Int)) 17 4 ((n : Int) + 1)) (am_up (am_up (am_up (am_up (am_up N0 76 n u1) 73 (42 + 4 * n) u3) 73 (43 + 4 * n) u4) 73 (74 + n) (n : Int)) 73 1 ((n : Int) + 1)) := by
      have en : ∀ i, i ≠ 1 → i ≠ 42 + 4 * n → i ≠ 43 + 4 * n → i ≠ 74 + n → (am_up (am_up (am_up (am_up (am_up N0 76 n u1) 73 (42 + 4 * n) u3) 73 (43 + 4 * n) u4) 73 (74 + n) (n : Int)) 73 1 ((n : Int) + 1)) 73 i = N0 73 i := fun i h0 h1 h2 h3 => by rw [am_up_nj _ _ _ _ h0, am_up_nj _ _ _ _ h3, am_up_nj _ _ _ _ h2, am_up_nj _ _ _ _ h1, am_up_ne _ _ _ _ (by decide)]
      have en1 : (am_up (am_up (am_up (am_up (am_up N0 76 n u1) 73 (42 + 4 * n) u3) 73 (43 + 4 * n) u4) 73 (74 + n) (n : Int)) 73 1 ((n : Int) + 1)) 73 1 = (n : Int) + 1 := am_up_at _ _ _ _
      have g1 : (am_up (am_up (am_up (am_up (am_up N0 76 n u1) 73 (42 + 4 * n) u3) 73 (43 + 4 * n) u4) 73 (74 + n) (n : Int)) 73 1 ((n : Int) + 1)) 73 (42 + 4 * n) = v3 := by rw [am_up_nj _ _ _ _ (by omega), am_up_nj _ _ _ _ (by omega), am_up_nj _ _ _ _ (by omega), am_up_at, q4]
      have g2 : (am_up (am_up (am_up (am_up (am_up N0 76 n u1) 73 (42 + 4 * n) u3) 73 (43 + 4 * n) u4) 73 (74 + n) (n : Int)) 73 1 ((n : Int) + 1)) 73 (43 + 4 * n) = v4 := by rw [am_up_nj _ _ _ _ (by omega), am_up_nj _ _ _ _ (by omega), am_up_at, q1]
      have g3 : (am_up (am_up (am_up (am_up (am_up N0 76 n u1) 73 (42 + 4 * n) u3) 73 (43 + 4 * n) u4) 73 (74 + n) (n : Int)) 73 1 ((n : Int) + 1)) 73 (74 + n) = (n : Int) := by rw [am_up_nj _ _ _ _ (by omega), am_up_at]
      have n76 : ∀ i, (am_up (am_up (am_up (am_up (am_up N0 76 n u1) 73 (42 + 4 * n) u3) 73 (43 + 4 * n) u4) 73 (74 + n) (n : Int)) 73 1 ((n : Int) + 1)) 76 i = if i = n then u1 else N0 76 i := fun i => by
        rw [am_up_ne _ _ _ _ (by decide), am_up_ne _ _ _ _ (by decide), am_up_ne _ _ _ _ (by decide), am_up_ne _ _ _ _ (by decide)]
        by_cases ei : i = n
        · subst ei; rw [am_up_at, if_pos rfl]
        · rw [am_up_nj _ _ _ _ ei, if_neg ei]
      generalize (am_up (am_up (am_up (am_up (am_up N0 76 n u1) 73 (42 + 4 * n) u3) 73 (43 + 4 * n) u4) 73 (74 + n) (n : Int)) 73 1 ((n : Int) + 1)) = Nn at en en1 g1 g2 g3 n76
      have eM : ∀ a, a ≠ 17 → a ≠ 21 → a ≠ 22 → a ≠ 23 → a ≠ 24 → a ≠ 25 → a ≠ 26 → (am_up (am_up (am_up (am_up (am_up (am_up (am_up C0 21 n v1) 22 n v3) 23 n v4) 24 n 0) 25 n 0) 26 n (n : Int)) 17 4 ((n : Int) + 1)) a = C0 a := fun a x1 x2 x3 x4 x5 x6 x7 => by rw [am_up_ne _ _ _ _ x1, am_up_ne _ _ _ _ x7, am_up_ne _ _ _ _ x6, am_up_ne _ _ _ _ x5, am_up_ne _ _ _ _ x4, am_up_ne _ _ _ _ x3, am_up_ne _ _ _ _ x2]
      have hz := hD.2.2.2.2 n (by omega) (by omega)
      refine ⟨vT_field hD.1 hn (by omega) hz en en1 g3 (by rw [g1, g2]; omega), cT_field hD.1 hD.2.1 hn (by omega) hz en en1 g3 eM ⟨am_up_at _ _ _ _, ?_⟩ (fun a i h1 h2 h3 => ?_) ⟨?_, ?_, ?_, ?_, ?_⟩, kT_of (eM _ (by decide) (by decide) (by decide) (by decide) (by decide) (by decide) (by decide)) (eM _ (by decide) (by decide) (by decide) (by decide) (by decide) (by decide) (by decide)) (eM _ (by decide) (by decide) (by decide) (by decide) (by decide) (by decide) (by decide)) hD.2.2.1, ?_, ?_⟩
      · rw [am_up_nj _ _ _ _ (by decide), am_up_ne _ _ _ _ (by decide), am_up_ne _ _ _ _ (by decide), am_up_ne _ _ _ _ (by decide), am_up_ne _ _ _ _ (by decide), am_up_ne _ _ _ _ (by decide), am_up_ne _ _ _ _ (by decide)]
      · rw [am_up_ne _ _ _ _ (by omega), am_up_nj _ _ _ _ h3, am_up_nj _ _ _ _ h3, am_up_nj _ _ _ _ h3, am_up_nj _ _ _ _ h3, am_up_nj _ _ _ _ h3, am_up_nj _ _ _ _ h3]
      · rw [am_up_ne _ _ _ _ (by decide), am_up_ne _ _ _ _ (by decide), am_up_ne _ _ _ _ (by decide), am_up_ne _ _ _ _ (by decide), am_up_ne _ _ _ _ (by decide), am_up_at, g1]
      · rw [am_up_ne _ _ _ _ (by decide), am_up_ne _ _ _ _ (by decide), am_up_ne _ _ _ _ (by decide), am_up_ne _ _ _ _ (by decide), am_up_at, g2]
      · rw [am_up_ne _ _ _ _ (by decide), am_up_ne _ _ _ _ (by decide), am_up_ne _ _ _ _ (by decide), am_up_at]
      · rw [am_up_ne _ _ _ _ (by decide), am_up_ne _ _ _ _ (by decide), am_up_at]
      · rw [am_up_ne _ _ _ _ (by decide), am_up_at]
      · rw [en1]
        intro f hf
        have e21 : (am_up (am_up (am_up (am_up (am_up (am_up (am_up C0 21 n v1) 22 n v3) 23 n v4) 24 n 0) 25 n 0) 26 n (n : Int)) 17 4 ((n : Int) + 1)) 21 f = if f = n then v1 else C0 21 f := by
          rw [am_up_ne _ _ _ _ (by decide), am_up_ne _ _ _ _ (by decide), am_up_ne _ _ _ _ (by decide), am_up_ne _ _ _ _ (by decide), am_up_ne _ _ _ _ (by decide), am_up_ne _ _ _ _ (by decide)]
          by_cases ei : f = n
          · subst ei; rw [am_up_at, if_pos rfl]
          · rw [am_up_nj _ _ _ _ ei, if_neg ei]
        rw [e21, n76]
        by_cases ei : f = n
        · rw [if_pos ei, if_pos ei]; exact ⟨l, hl, hv1, hv2⟩
        · rw [if_neg ei, if_neg ei]; exact hNT f (by omega)
      · intro f hf hf8
        rw [en1] at hf
        rw [en _ (by omega) (by omega) (by omega) (by omega), en _ (by omega) (by omega) (by omega) (by omega)]
        exact hD.2.2.2.2 f (by omega) hf8
    exact ⟨DR_G hDR, fun _ => hDR, ww⟩
  · rw [if_neg z, if_neg z]
    exact ⟨_, _, rfl, rfl, C0, N0, p4, w4, wa4, hT, c3, by omega, FC_rf C0, FN_rf N0, DR_G hD, fun h => absurd h z, ww⟩
theorem l_crop (hT : TX C0 N0 e) (hD : DR C0 N0) (h : S2 C0 N0 e p w wa C N) : ∃ C' N', cY 199 [rV 34] C = some (0, C') ∧ cY 73 [rV 72] N = some (0, N') ∧ T2 C0 N0 e p w wa C' N' := by
  have hb1 := hD.1.2.1
  obtain ⟨n, hn⟩ : ∃ n : Nat, N0 73 1 = (n : Int) := ⟨(N0 73 1).toNat, by omega⟩
  have hn17 : C0 17 4 = (n : Int) := hD.2.1.2.1.trans hn
  have hNT := hD.2.2.2.1
  rw [hn] at hNT
  obtain ⟨p1, w1, wa1, v1, u1, C1, N1, a1, a2, a3, a4, a5, a6⟩ := j_field hT hn17 (by omega) hn hNT h (-1) (-1) (fun _ => rfl)
  obtain ⟨p3, w3, wa3, v3, u3, C3, N3, b1, b2, b3, b4, b5, b6, b7, b8⟩ := j_num hT 0 9999 a3
  obtain ⟨p4, w4, wa4, v4, u4, C4, N4, c1, c2, c3, c4, c5, c6, c7, c8⟩ := j_num hT 0 9999 b3
  rw [e_Reader_readCrop, a1, am_cb_s, b1, am_cb_s, c1, am_cb_s, S2_w c3, e_Model_cropRead, a2, am_cb_s, b2, am_cb_s, c2, am_cb_s, S2_mw c3]
  have ww : w ≠ 0 → w4 = w ∧ wa4 = wa := fun z => by
    obtain ⟨x1, x2⟩ := a6 z
    obtain ⟨z1, z2⟩ := b8 (by rw [x1]; exact z)
    obtain ⟨t1, t2⟩ := c8 (by rw [z1, x1]; exact z)
    exact ⟨by rw [t1, z1, x1], by rw [t2, z2, x2]⟩
  by_cases z : w4 = 0
  · obtain ⟨z2, q1, q2, q3⟩ := c7 z
    obtain ⟨z1, q4, q5, q6⟩ := b7 z2
    obtain ⟨z0, q7, q8, q9, q10⟩ := a5 z1
    obtain ⟨f, rfl⟩ : ∃ f : Nat, v1 = (f : Int) := ⟨v1.toNat, by omega⟩
    rw [if_pos z, if_pos z, e_Told_lacksField_17, S2_c c3 (show 17 ≠ 34 by decide), hn17, if_neg (by omega), if_pos q9, am_cb_s, if_pos rfl, r_bd_ok (by omega) (by omega), r_bd_ok (by omega) (by omega), Int.toNat_natCast, ← q7, r_ck_ok (by omega) (by omega), r_ck_ok (by omega) (by omega), r_ck_ok (by omega) (by omega), r_bd_ok (by omega) (by omega), r_ck_ok (by omega) (by omega), r_ck_ok (by omega) (by omega), r_ck_ok (by omega) (by omega), r_bd_ok (by omega) (by omega), show (42 + 4 * (f : Int) + 2).toNat = 44 + 4 * f by omega, show (42 + 4 * (f : Int) + 3).toNat = 45 + 4 * f by omega]
    obtain ⟨hT1, s1⟩ := jn_up hT c3 73 (44 + 4 * f) u3 (Or.inl rfl)
    obtain ⟨hT2, s2⟩ := jn_up hT1 s1 73 (45 + 4 * f) u4 (Or.inl rfl)
    obtain ⟨hU1, t1⟩ := jc_up hT2 s2 24 f v3 (by omega)
    obtain ⟨hU2, t2⟩ := jc_up hU1 t1 25 f v4 (by omega)
    refine ⟨_, _, rfl, rfl, _, _, p4, w4, wa4, hU2, t2, by omega, FC_up (FC_up (FC_rf C0) _ _ _ (by omega)) _ _ _ (by omega), FN_up (FN_up (FN_rf N0) _ _ _ (Or.inl rfl)) _ _ _ (Or.inl rfl), ?_⟩
    have hDR : DR (am_up (am_up C0 24 f v3) 25 f v4) (am_up (am_up N0 73 (44 + 4 * f) u3) 73 (45 + 4 * f) u4) := by
      have en : ∀ i, i ≠ 44 + 4 * f → i ≠ 45 + 4 * f → (am_up (am_up N0 73 (44 + 4 * f) u3) 73 (45 + 4 * f) u4) 73 i = N0 73 i := fun i h0 h1 => by rw [am_up_nj _ _ _ _ h1, am_up_nj _ _ _ _ h0]
      have g1 : (am_up (am_up N0 73 (44 + 4 * f) u3) 73 (45 + 4 * f) u4) 73 (44 + 4 * f) = v3 := by rw [am_up_nj _ _ _ _ (by omega), am_up_at, q4]
      have g2 : (am_up (am_up N0 73 (44 + 4 * f) u3) 73 (45 + 4 * f) u4) 73 (45 + 4 * f) = v4 := by rw [am_up_at, q1]
      have n76 : (am_up (am_up N0 73 (44 + 4 * f) u3) 73 (45 + 4 * f) u4) 76 = N0 76 := by rw [am_up_ne _ _ _ _ (by decide), am_up_ne _ _ _ _ (by decide)]
      have n1 := en 1 (by omega) (by omega)
      generalize (am_up (am_up N0 73 (44 + 4 * f) u3) 73 (45 + 4 * f) u4) = Nn at en g1 g2 n76 n1
      have eM : ∀ a, a ≠ 24 → a ≠ 25 → (am_up (am_up C0 24 f v3) 25 f v4) a = C0 a := fun a x1 x2 => by rw [am_up_ne _ _ _ _ x2, am_up_ne _ _ _ _ x1]
      refine ⟨vT_crop hD.1 (by omega) en (by rw [g1, g2]; omega), cT_crop hD.1 hD.2.1 (by omega) en eM (fun i hi => ⟨by rw [am_up_nj _ _ _ _ hi, am_up_nj _ _ _ _ hi], by rw [am_up_nj _ _ _ _ hi, am_up_nj _ _ _ _ hi]⟩) ⟨by rw [am_up_ne _ _ _ _ (by decide), am_up_at, g1], by rw [am_up_at, g2]⟩, kT_of (eM _ (by decide) (by decide)) (eM _ (by decide) (by decide)) (eM _ (by decide) (by decide)) hD.2.2.1, ?_, ?_⟩
      · rw [n1, n76, eM 21 (by decide) (by decide)]; exact hD.2.2.2.1
      · intro g hg hg8
        rw [n1] at hg
        rw [en _ (by omega) (by omega), en _ (by omega) (by omega)]
        exact hD.2.2.2.2 g hg hg8
    exact ⟨DR_G hDR, fun _ => hDR, ww⟩
  · rw [if_neg z, if_neg z]
    exact ⟨_, _, rfl, rfl, C0, N0, p4, w4, wa4, hT, c3, by omega, FC_rf C0, FN_rf N0, DR_G hD, fun h => absurd h z, ww⟩
theorem l_one (hT : TX C0 N0 e) (hG : GC C0) (hD : w = 0 → DR C0 N0) (h : S2 C0 N0 e p w wa C N) (i : Nat) (lo hi : Int) (hi7 : i < 7) (hr : (i = 0 → lo = 1 ∧ hi = 999) ∧ (i = 1 → lo = 0 ∧ hi = 10079) ∧ (i = 2 → lo = 0 ∧ hi = 23) ∧ (i = 3 → lo = 0 ∧ hi = 23) ∧ (i = 4 → lo = 1 ∧ hi = 52) ∧ (i = 5 → lo = 0 ∧ hi = 7) ∧ (i = 6 → lo = 0 ∧ hi = 1)) : ∃ vc vm C' N' p' w' wa', cY 206 [rV 34, iV lo, iV hi] C = some (vc, C') ∧ cY 63 [rV 72, iV lo, iV hi] N = some (vm, N') ∧ TX (am_up C0 27 i vc) (am_up N0 73 (5 + i) vm) e ∧ S2 (am_up C0 27 i vc) (am_up N0 73 (5 + i) vm) e p' w' wa' (am_up C' 27 i vc) (am_up N' 73 (5 + i) vm) ∧ p ≤ p' ∧ GC (am_up C0 27 i vc) ∧ (w' = 0 → DR (am_up C0 27 i vc) (am_up N0 73 (5 + i) vm)) ∧ (w ≠ 0 → w' = w ∧ wa' = wa) := by
  obtain ⟨p1, w1, wa1, v1, u1, C1, N1, a1, a2, a3, a4, a5, a6, a7, a8⟩ := j_num hT lo hi h
  obtain ⟨hT1, s1⟩ := jn_up hT a3 73 (5 + i) u1 (Or.inl rfl)
  obtain ⟨hU1, t1⟩ := jc_up hT1 s1 27 i v1 (by omega)
  refine ⟨v1, u1, C1, N1, p1, w1, wa1, a1, a2, hU1, t1, a4, ⟨kT_of (am_up_ne _ _ _ _ (by decide)) (am_up_ne _ _ _ _ (by decide)) (am_up_ne _ _ _ _ (by decide)) hG.1, by rw [am_up_ne _ _ _ _ (by decide)]; exact hG.2.1, by rw [am_up_ne _ _ _ _ (by decide)]; exact hG.2.2⟩, fun z => ?_, a8⟩
  obtain ⟨z0, q1, q2, q3⟩ := a7 z
  rw [← q1]
  exact DR_set (hD z0) hi7 ⟨fun h => by have := hr.1 h; omega, fun h => by have := hr.2.1 h; omega, fun h => by have := hr.2.2.1 h; omega, fun h => by have := hr.2.2.2.1 h; omega, fun h => by have := hr.2.2.2.2.1 h; omega, fun h => by have := hr.2.2.2.2.2.1 h; omega, fun h => by have := hr.2.2.2.2.2.2 h; omega⟩
end
