-- lines that add a row
section
variable {C0 N0 C N : am_M} {e p : Nat} {w wa : Int}
theorem l_couple (hT : TX C0 N0 e) (hD : DR C0 N0) (h : S2 C0 N0 e p w wa C N) (X : Nat) (hX : 12 ≤ X ∧ X ≤ 180) : ∃ v1 v3 v5 u1 u3 u5 C1 C2 C3 N' p' w' wa', cY 206 [rV 34, iV 0, iV 51] C = some (v1, C1) ∧ cY 209 [rV 34, iV (-1)] C1 = some (v3, C2) ∧ cY 209 [rV 34, iV v3] C2 = some (v5, C3) ∧ cY 74 [rV 72, iV (X : Int)] N = some (0, N') ∧ TX C0 (am_up (am_up (am_up N0 73 X u1) 73 (X + 1) u3) 73 (X + 2) u5) e ∧ S2 C0 (am_up (am_up (am_up N0 73 X u1) 73 (X + 1) u3) 73 (X + 2) u5) e p' w' wa' C3 N' ∧ p ≤ p' ∧ (w' = 0 → w = 0 ∧ v1 = u1 ∧ v3 = u3 ∧ v5 = u5 ∧ (0 ≤ v1 ∧ v1 ≤ 51) ∧ (0 ≤ v3 ∧ v3 < N0 73 1) ∧ (0 ≤ v5 ∧ v5 < N0 73 1) ∧ v5 ≠ v3) ∧ (w ≠ 0 → w' = w ∧ wa' = wa) := by
  have hb1 := hD.1.2.1
  obtain ⟨n, hn⟩ : ∃ n : Nat, N0 73 1 = (n : Int) := ⟨(N0 73 1).toNat, by omega⟩
  have hn17 : C0 17 4 = (n : Int) := hD.2.1.2.1.trans hn
  have hNT := hD.2.2.2.1
  rw [hn] at hNT
  obtain ⟨p1, w1, wa1, v1, u1, C1, N1, a1, a2, a3, a4, a5, a6, a7, a8⟩ := j_num hT 0 51 h
  obtain ⟨hT1, s1⟩ := jn_up hT a3 73 X u1 (Or.inl rfl)
  obtain ⟨p2, w2, wa2, v3, u3, C2, N2, b1, b2, b3, b4, b5, b6⟩ := j_field hT1 hn17 (by omega) (by rw [am_up_nj _ _ _ _ (by omega)]; exact hn) (by rw [am_up_ne _ _ _ _ (by decide)]; exact hNT) s1 (-1) (-1) (fun _ => rfl)
  obtain ⟨hT2, s2⟩ := jn_up hT1 b3 73 (X + 1) u3 (Or.inl rfl)
  obtain ⟨p3, w3, wa3, v5, u5, C3, N3, c1, c2, c3, c4, c5, c6⟩ := j_field hT2 hn17 (by omega) (by rw [am_up_nj _ _ _ _ (by omega), am_up_nj _ _ _ _ (by omega)]; exact hn) (by rw [am_up_ne _ _ _ _ (by decide), am_up_ne _ _ _ _ (by decide)]; exact hNT) s2 v3 u3 (fun z => (b5 z).2.1.symm)
  obtain ⟨hT3, s3⟩ := jn_up hT2 c3 73 (X + 2) u5 (Or.inl rfl)
  refine ⟨v1, v3, v5, u1, u3, u5, C1, C2, C3, _, p3, w3, wa3, a1, b1, c1, ?_, hT3, s3, by omega, fun z => ?_, fun z => ?_⟩
  · rw [e_Model_coupleRead, a2, am_cb_s, r_bd_ok (by omega) (by omega), r_ck_ok (by omega) (by omega), Int.toNat_natCast, b2, am_cb_s, r_bd_ok (by omega) (by omega), r_ck_ok (by omega) (by omega), r_ck_ok (by omega) (by omega), r_bd_ok (by omega) (by omega), show ((X : Int) + 1).toNat = X + 1 by omega, am_up_at, c2, am_cb_s, r_bd_ok (by omega) (by omega), show ((X : Int) + 2).toNat = X + 2 by omega]
  · obtain ⟨z2, q1, q2, q3, q4⟩ := c5 z
    obtain ⟨z1, q5, q6, q7, q8⟩ := b5 z2
    obtain ⟨z0, q9, q10, q11⟩ := a7 z1
    exact ⟨z0, q9, q5, q1, ⟨q10, q11⟩, ⟨q6, by omega⟩, ⟨q2, by omega⟩, q4⟩
  · obtain ⟨x1, x2⟩ := a8 z
    obtain ⟨z1, z2⟩ := b6 (by rw [x1]; exact z)
    obtain ⟨t1, t2⟩ := c6 (by rw [z1, x1]; exact z)
    exact ⟨by rw [t1, z1, x1], by rw [t2, z2, x2]⟩
theorem l_swap (hT : TX C0 N0 e) (hD : DR C0 N0) {Cx : am_M} (hx0 : cY 204 [rV 34, rV 28] Cx = some (0, C)) (h : S2 C0 N0 e p w wa C N) (X : Nat) (hX : 12 ≤ X ∧ X ≤ 180) (hx : w = 0 → ∃ k : Nat, N0 73 2 = (k : Int) ∧ k < 12 ∧ X = 82 + 3 * k) : ∃ C' N', cY 200 [rV 34] Cx = some (0, C') ∧ cY 74 [rV 72, iV (X : Int)] N = some (0, N') ∧ N' 73 2 = N0 73 2 ∧ T2 C0 N0 e p w wa C' (am_up N' 73 2 (N0 73 2 + 1)) := by
  obtain ⟨v1, v3, v5, u1, u3, u5, C1, C2, C3, N', p', w', wa', a1, a2, a3, a4, hT', hS, hp, a5, a6⟩ := l_couple hT hD h X hX
  have e2 : N' 73 2 = N0 73 2 := by rw [S2_m hS (by decide), am_up_nj _ _ _ _ (by omega), am_up_nj _ _ _ _ (by omega), am_up_nj _ _ _ _ (by omega)]
  obtain ⟨hT4, s4⟩ := jn_up hT' hS 73 2 (N0 73 2 + 1) (Or.inl rfl)
  have FNs := FN_up (FN_up (FN_up (FN_up (FN_rf N0) 73 X u1 (Or.inl rfl)) 73 (X + 1) u3 (Or.inl rfl)) 73 (X + 2) u5 (Or.inl rfl)) 73 2 (N0 73 2 + 1) (Or.inl rfl)
  rw [e_Reader_readSwap, hx0, am_cb_s, a1, am_cb_s, a2, am_cb_s, a3, am_cb_s, S2_w hS]
  by_cases z : w' = 0
  · obtain ⟨z0, q1, q3, q5, r1, r3, r5, r6⟩ := a5 z
    obtain ⟨k, hk, hk12, rfl⟩ := hx z0
    have k3 : C3 28 3 = (k : Int) := (congrFun (S2_c hS (by decide)) 3).trans (hD.2.1.2.2.1.trans hk)
    have k0 : C3 28 0 = 12 := (congrFun (S2_c hS (by decide)) 0).trans hD.2.2.1.1.1
    have k1 : C3 28 1 = 3 := (congrFun (S2_c hS (by decide)) 1).trans hD.2.2.1.1.2
    rw [if_pos z, p_addRow_28 C3 v1 v3 v5 0 k k3 k0 k1 hk12, am_cb_s]
    obtain ⟨hU1, t1⟩ := jc_up hT4 s4 29 (3 * k) v1 (by omega)
    obtain ⟨hU2, t2⟩ := jc_up hU1 t1 29 (3 * k + 1) v3 (by omega)
    obtain ⟨hU3, t3⟩ := jc_up hU2 t2 29 (3 * k + 2) v5 (by omega)
    obtain ⟨hU4, t4⟩ := jc_up hU3 t3 28 3 ((k : Int) + 1) (by omega)
    refine ⟨_, _, rfl, a4, e2, _, _, p', w', wa', hU4, t4, hp, FC_up (FC_up (FC_up (FC_up (FC_rf C0) _ _ _ (by omega)) _ _ _ (by omega)) _ _ _ (by omega)) _ _ _ (by omega), FNs, ?_⟩
    have hDR : DR (am_up (am_up (am_up (am_up C0 29 (3 * k) v1) 29 (3 * k + 1) v3) 29 (3 * k + 2) v5) 28 3 ((k : Int) + 1)) (am_up (am_up (am_up (am_up N0 73 (82 + 3 * k) u1) 73 (82 + 3 * k + 1) u3) 73 (82 + 3 * k + 2) u5) 73 2 (N0 73 2 + 1)) := by
      have en : ∀ i, i ≠ 2 → (i < 82 + 3 * k ∨ 82 + 3 * k + 3 ≤ i) → (am_up (am_up (am_up (am_up N0 73 (82 + 3 * k) u1) 73 (82 + 3 * k + 1) u3) 73 (82 + 3 * k + 2) u5) 73 2 (N0 73 2 + 1)) 73 i = N0 73 i := fun i h0 h1 => by rw [am_up_nj _ _ _ _ h0, am_up_nj _ _ _ _ (by omega), am_up_nj _ _ _ _ (by omega), am_up_nj _ _ _ _ (by omega)]
      have en0 : (am_up (am_up (am_up (am_up N0 73 (82 + 3 * k) u1) 73 (82 + 3 * k + 1) u3) 73 (82 + 3 * k + 2) u5) 73 2 (N0 73 2 + 1)) 73 2 = (k : Int) + 1 := by rw [am_up_at, hk]
      have g0 : (am_up (am_up (am_up (am_up N0 73 (82 + 3 * k) u1) 73 (82 + 3 * k + 1) u3) 73 (82 + 3 * k + 2) u5) 73 2 (N0 73 2 + 1)) 73 (82 + 3 * k) = v1 := by rw [am_up_nj _ _ _ _ (by omega), am_up_nj _ _ _ _ (by omega), am_up_nj _ _ _ _ (by omega), am_up_at, ← q1]
      have g1 : (am_up (am_up (am_up (am_up N0 73 (82 + 3 * k) u1) 73 (82 + 3 * k + 1) u3) 73 (82 + 3 * k + 2) u5) 73 2 (N0 73 2 + 1)) 73 (83 + 3 * k) = v3 := by rw [show 83 + 3 * k = 82 + 3 * k + 1 by omega, am_up_nj _ _ _ _ (by omega), am_up_nj _ _ _ _ (by omega), am_up_at, ← q3]
      have g2 : (am_up (am_up (am_up (am_up N0 73 (82 + 3 * k) u1) 73 (82 + 3 * k + 1) u3) 73 (82 + 3 * k + 2) u5) 73 2 (N0 73 2 + 1)) 73 (84 + 3 * k) = v5 := by rw [show 84 + 3 * k = 82 + 3 * k + 2 by omega, am_up_nj _ _ _ _ (by omega), am_up_at, ← q5]
      have n76 : (am_up (am_up (am_up (am_up N0 73 (82 + 3 * k) u1) 73 (82 + 3 * k + 1) u3) 73 (82 + 3 * k + 2) u5) 73 2 (N0 73 2 + 1)) 76 = N0 76 := by rw [am_up_ne _ _ _ _ (by decide), am_up_ne _ _ _ _ (by decide), am_up_ne _ _ _ _ (by decide), am_up_ne _ _ _ _ (by decide)]
      have n1 := en 1 (by omega) (by omega)
      generalize (am_up (am_up (am_up (am_up N0 73 (82 + 3 * k) u1) 73 (82 + 3 * k + 1) u3) 73 (82 + 3 * k + 2) u5) 73 2 (N0 73 2 + 1)) = Nn at en en0 g0 g1 g2 n76 n1
      have eM : ∀ a, a ≠ 28 → a ≠ 29 → (am_up (am_up (am_up (am_up C0 29 (3 * k) v1) 29 (3 * k + 1) v3) 29 (3 * k + 2) v5) 28 3 ((k : Int) + 1)) a = C0 a := fun a x1 x2 => by rw [am_up_ne _ _ _ _ x1, am_up_ne _ _ _ _ x2, am_up_ne _ _ _ _ x2, am_up_ne _ _ _ _ x2]
      have e3 : (am_up (am_up (am_up (am_up C0 29 (3 * k) v1) 29 (3 * k + 1) v3) 29 (3 * k + 2) v5) 28 3 ((k : Int) + 1)) 28 3 = (k : Int) + 1 := am_up_at _ _ _ _
      have e4 : ∀ i, i < 3 * k → (am_up (am_up (am_up (am_up C0 29 (3 * k) v1) 29 (3 * k + 1) v3) 29 (3 * k + 2) v5) 28 3 ((k : Int) + 1)) 29 i = C0 29 i := fun i hi => by rw [am_up_ne _ _ _ _ (by decide), am_up_nj _ _ _ _ (by omega), am_up_nj _ _ _ _ (by omega), am_up_nj _ _ _ _ (by omega)]
      have h0 : (am_up (am_up (am_up (am_up C0 29 (3 * k) v1) 29 (3 * k + 1) v3) 29 (3 * k + 2) v5) 28 3 ((k : Int) + 1)) 29 (3 * k) = v1 := by rw [am_up_ne _ _ _ _ (by decide), am_up_nj _ _ _ _ (by omega), am_up_nj _ _ _ _ (by omega), am_up_at]
      have h1 : (am_up (am_up (am_up (am_up C0 29 (3 * k) v1) 29 (3 * k + 1) v3) 29 (3 * k + 2) v5) 28 3 ((k : Int) + 1)) 29 (3 * k + 1) = v3 := by rw [am_up_ne _ _ _ _ (by decide), am_up_nj _ _ _ _ (by omega), am_up_at]
      have h2 : (am_up (am_up (am_up (am_up C0 29 (3 * k) v1) 29 (3 * k + 1) v3) 29 (3 * k + 2) v5) 28 3 ((k : Int) + 1)) 29 (3 * k + 2) = v5 := by rw [am_up_ne _ _ _ _ (by decide), am_up_at]
      have e0 : ∀ j, j ≠ 3 → (am_up (am_up (am_up (am_up C0 29 (3 * k) v1) 29 (3 * k + 1) v3) 29 (3 * k + 2) v5) 28 3 ((k : Int) + 1)) 28 j = C0 28 j := fun j hj => by rw [am_up_nj _ _ _ _ hj, am_up_ne _ _ _ _ (by decide), am_up_ne _ _ _ _ (by decide), am_up_ne _ _ _ _ (by decide)]
      generalize (am_up (am_up (am_up (am_up C0 29 (3 * k) v1) 29 (3 * k + 1) v3) 29 (3 * k + 2) v5) 28 3 ((k : Int) + 1)) = Cn at eM e3 e4 e0 h0 h1 h2
      have e5 : ∀ j, j < 3 → Cn 29 (3 * k + j) = Nn 73 (82 + 3 * k + j) := fun j hj => by
        rcases (show j = 0 ∨ j = 1 ∨ j = 2 by omega) with rfl | rfl | rfl
        · exact h0.trans g0.symm
        · rw [h1, show 82 + 3 * k + 1 = 83 + 3 * k by omega, g1]
        · rw [h2, show 82 + 3 * k + 2 = 84 + 3 * k by omega, g2]
      refine ⟨vT_row2 hD.1 hk hk12 en en0 (fun _ => by rw [g0, g1, g2, n1]; omega) (fun h => absurd h (by decide)) (fun h => absurd h (by decide)), cT_row2 hD.1 hD.2.1 hk hk12 en en0 eM e3 e4 e5, ?_, ?_, ?_⟩
      · obtain ⟨⟨y1, y2⟩, ⟨y3, y4⟩, ⟨y5, y6⟩⟩ := hD.2.2.1
        exact ⟨⟨(e0 0 (by decide)).trans y1, (e0 1 (by decide)).trans y2⟩, ⟨(congrFun (eM 30 (by decide) (by decide)) 0).trans y3, (congrFun (eM 30 (by decide) (by decide)) 1).trans y4⟩, ⟨(congrFun (eM 32 (by decide) (by decide)) 0).trans y5, (congrFun (eM 32 (by decide) (by decide)) 1).trans y6⟩⟩
      · rw [n1, n76, eM 21 (by decide) (by decide)]; exact hD.2.2.2.1
      · intro g hg hg8
        rw [n1] at hg
        rw [en _ (by omega) (by omega), en _ (by omega) (by omega)]
        exact hD.2.2.2.2 g hg hg8
    exact ⟨DR_G hDR, fun _ => hDR, a6⟩
  · rw [if_neg z]
    exact ⟨_, _, rfl, a4, e2, C0, _, p', w', wa', hT4, s4, hp, FC_rf C0, FNs, DR_G hD, fun h => absurd h z, a6⟩
theorem l_lend (hT : TX C0 N0 e) (hD : DR C0 N0) {Cx : am_M} (hx0 : cY 204 [rV 34, rV 30] Cx = some (0, C)) (h : S2 C0 N0 e p w wa C N) (X : Nat) (hX : 12 ≤ X ∧ X ≤ 180) (hx : w = 0 → ∃ k : Nat, N0 73 3 = (k : Int) ∧ k < 12 ∧ X = 118 + 4 * k) : ∃ C' N' u7 N7, cY 201 [rV 34] Cx = some (0, C') ∧ cY 74 [rV 72, iV (X : Int)] N = some (0, N') ∧ N' 73 3 = N0 73 3 ∧ cY 63 [rV 72, iV 1, iV 999] N' = some (u7, N7) ∧ N7 73 3 = N0 73 3 ∧ T2 C0 N0 e p w wa C' (am_up (am_up N7 73 (X + 3) u7) 73 3 (N0 73 3 + 1)) := by
  obtain ⟨v1, v3, v5, u1, u3, u5, C1, C2, C3, N', p', w', wa', a1, a2, a3, a4, hT', hS, hp, a5, a6⟩ := l_couple hT hD h X hX
  have e2 : N' 73 3 = N0 73 3 := by rw [S2_m hS (by decide), am_up_nj _ _ _ _ (by omega), am_up_nj _ _ _ _ (by omega), am_up_nj _ _ _ _ (by omega)]
  obtain ⟨p7, w7, wa7, v7, u7, C7, N7, b1, b2, b3, b4, b5, b6, b7, b8⟩ := j_num hT' 1 999 hS
  have e3 : N7 73 3 = N0 73 3 := by rw [S2_m b3 (by decide), am_up_nj _ _ _ _ (by omega), am_up_nj _ _ _ _ (by omega), am_up_nj _ _ _ _ (by omega)]
  obtain ⟨hT3, s3⟩ := jn_up hT' b3 73 (X + 3) u7 (Or.inl rfl)
  obtain ⟨hT4, s4⟩ := jn_up hT3 s3 73 3 (N0 73 3 + 1) (Or.inl rfl)
  have FNs := FN_up (FN_up (FN_up (FN_up (FN_up (FN_rf N0) 73 X u1 (Or.inl rfl)) 73 (X + 1) u3 (Or.inl rfl)) 73 (X + 2) u5 (Or.inl rfl)) 73 (X + 3) u7 (Or.inl rfl)) 73 3 (N0 73 3 + 1) (Or.inl rfl)
  have a6 : w ≠ 0 → w7 = w ∧ wa7 = wa := fun z => by
    obtain ⟨x1, x2⟩ := a6 z
    obtain ⟨t1, t2⟩ := b8 (by rw [x1]; exact z)
    exact ⟨by rw [t1, x1], by rw [t2, x2]⟩
  rw [e_Reader_readLend, hx0, am_cb_s, a1, am_cb_s, a2, am_cb_s, a3, am_cb_s, b1, am_cb_s, S2_w b3]
  by_cases z : w7 = 0
  · obtain ⟨z1, q7, q8, q9⟩ := b7 z
    obtain ⟨z0, q1, q3, q5, r1, r3, r5, r6⟩ := a5 z1
    obtain ⟨k, hk, hk12, rfl⟩ := hx z0
    have k3 : C7 30 3 = (k : Int) := (congrFun (S2_c b3 (by decide)) 3).trans (hD.2.1.2.2.2.1.trans hk)
    have k0 : C7 30 0 = 12 := (congrFun (S2_c b3 (by decide)) 0).trans hD.2.2.1.2.1.1
    have k1 : C7 30 1 = 4 := (congrFun (S2_c b3 (by decide)) 1).trans hD.2.2.1.2.1.2
    rw [if_pos z, p_addRow_30 C7 v1 v3 v5 v7 k k3 k0 k1 hk12, am_cb_s]
    obtain ⟨hU1, t1⟩ := jc_up hT4 s4 31 (4 * k) v1 (by omega)
    obtain ⟨hU2, t2⟩ := jc_up hU1 t1 31 (4 * k + 1) v3 (by omega)
    obtain ⟨hU3, t3⟩ := jc_up hU2 t2 31 (4 * k + 2) v5 (by omega)
    obtain ⟨hU4, t4⟩ := jc_up hU3 t3 31 (4 * k + 3) v7 (by omega)
    obtain ⟨hU5, t5⟩ := jc_up hU4 t4 30 3 ((k : Int) + 1) (by omega)
    refine ⟨_, _, _, _, rfl, a4, e2, b2, e3, _, _, p7, w7, wa7, hU5, t5, by omega, FC_up (FC_up (FC_up (FC_up (FC_up (FC_rf C0) _ _ _ (by omega)) _ _ _ (by omega)) _ _ _ (by omega)) _ _ _ (by omega)) _ _ _ (by omega), FNs, ?_⟩
    have hDR : DR (am_up (am_up (am_up (am_up (am_up C0 31 (4 * k) v1) 31 (4 * k + 1) v3) 31 (4 * k + 2) v5) 31 (4 * k + 3) v7) 30 3 ((k : Int) + 1)) (am_up (am_up (am_up (am_up (am_up N0 73 (118 + 4 * k) u1) 73 (118 + 4 * k + 1) u3) 73 (118 + 4 * k + 2) u5) 73 (118 + 4 * k + 3) u7) 73 3 (N0 73 3 + 1)) := by
      have en : ∀ i, i ≠ 3 → (i < 118 + 4 * k ∨ 118 + 4 * k + 4 ≤ i) → (am_up (am_up (am_up (am_up (am_up N0 73 (118 + 4 * k) u1) 73 (118 + 4 * k + 1) u3) 73 (118 + 4 * k + 2) u5) 73 (118 + 4 * k + 3) u7) 73 3 (N0 73 3 + 1)) 73 i = N0 73 i := fun i h0 h1 => by rw [am_up_nj _ _ _ _ h0, am_up_nj _ _ _ _ (by omega), am_up_nj _ _ _ _ (by omega), am_up_nj _ _ _ _ (by omega), am_up_nj _ _ _ _ (by omega)]
      have en0 : (am_up (am_up (am_up (am_up (am_up N0 73 (118 + 4 * k) u1) 73 (118 + 4 * k + 1) u3) 73 (118 + 4 * k + 2) u5) 73 (118 + 4 * k + 3) u7) 73 3 (N0 73 3 + 1)) 73 3 = (k : Int) + 1 := by rw [am_up_at, hk]
      have g0 : (am_up (am_up (am_up (am_up (am_up N0 73 (118 + 4 * k) u1) 73 (118 + 4 * k + 1) u3) 73 (118 + 4 * k + 2) u5) 73 (118 + 4 * k + 3) u7) 73 3 (N0 73 3 + 1)) 73 (118 + 4 * k) = v1 := by rw [am_up_nj _ _ _ _ (by omega), am_up_nj _ _ _ _ (by omega), am_up_nj _ _ _ _ (by omega), am_up_nj _ _ _ _ (by omega), am_up_at, ← q1]
      have g1 : (am_up (am_up (am_up (am_up (am_up N0 73 (118 + 4 * k) u1) 73 (118 + 4 * k + 1) u3) 73 (118 + 4 * k + 2) u5) 73 (118 + 4 * k + 3) u7) 73 3 (N0 73 3 + 1)) 73 (119 + 4 * k) = v3 := by rw [show 119 + 4 * k = 118 + 4 * k + 1 by omega, am_up_nj _ _ _ _ (by omega), am_up_nj _ _ _ _ (by omega), am_up_nj _ _ _ _ (by omega), am_up_at, ← q3]
      have g2 : (am_up (am_up (am_up (am_up (am_up N0 73 (118 + 4 * k) u1) 73 (118 + 4 * k + 1) u3) 73 (118 + 4 * k + 2) u5) 73 (118 + 4 * k + 3) u7) 73 3 (N0 73 3 + 1)) 73 (120 + 4 * k) = v5 := by rw [show 120 + 4 * k = 118 + 4 * k + 2 by omega, am_up_nj _ _ _ _ (by omega), am_up_nj _ _ _ _ (by omega), am_up_at, ← q5]
      have g3 : (am_up (am_up (am_up (am_up (am_up N0 73 (118 + 4 * k) u1) 73 (118 + 4 * k + 1) u3) 73 (118 + 4 * k + 2) u5) 73 (118 + 4 * k + 3) u7) 73 3 (N0 73 3 + 1)) 73 (121 + 4 * k) = v7 := by rw [show 121 + 4 * k = 118 + 4 * k + 3 by omega, am_up_nj _ _ _ _ (by omega), am_up_at, ← q7]
      have n76 : (am_up (am_up (am_up (am_up (am_up N0 73 (118 + 4 * k) u1) 73 (118 + 4 * k + 1) u3) 73 (118 + 4 * k + 2) u5) 73 (118 + 4 * k + 3) u7) 73 3 (N0 73 3 + 1)) 76 = N0 76 := by rw [am_up_ne _ _ _ _ (by decide), am_up_ne _ _ _ _ (by decide), am_up_ne _ _ _ _ (by decide), am_up_ne _ _ _ _ (by decide), am_up_ne _ _ _ _ (by decide)]
      have n1 := en 1 (by omega) (by omega)
      generalize (am_up (am_up (am_up (am_up (am_up N0 73 (118 + 4 * k) u1) 73 (118 + 4 * k + 1) u3) 73 (118 + 4 * k + 2) u5) 73 (118 + 4 * k + 3) u7) 73 3 (N0 73 3 + 1)) = Nn at en en0 g0 g1 g2 g3 n76 n1
      have eM : ∀ a, a ≠ 30 → a ≠ 31 → (am_up (am_up (am_up (am_up (am_up C0 31 (4 * k) v1) 31 (4 * k + 1) v3) 31 (4 * k + 2) v5) 31 (4 * k + 3) v7) 30 3 ((k : Int) + 1)) a = C0 a := fun a x1 x2 => by rw [am_up_ne _ _ _ _ x1, am_up_ne _ _ _ _ x2, am_up_ne _ _ _ _ x2, am_up_ne _ _ _ _ x2, am_up_ne _ _ _ _ x2]
      have e3 : (am_up (am_up (am_up (am_up (am_up C0 31 (4 * k) v1) 31 (4 * k + 1) v3) 31 (4 * k + 2) v5) 31 (4 * k + 3) v7) 30 3 ((k : Int) + 1)) 30 3 = (k : Int) + 1 := am_up_at _ _ _ _
      have e4 : ∀ i, i < 4 * k → (am_up (am_up (am_up (am_up (am_up C0 31 (4 * k) v1) 31 (4 * k + 1) v3) 31 (4 * k + 2) v5) 31 (4 * k + 3) v7) 30 3 ((k : Int) + 1)) 31 i = C0 31 i := fun i hi => by rw [am_up_ne _ _ _ _ (by decide), am_up_nj _ _ _ _ (by omega), am_up_nj _ _ _ _ (by omega), am_up_nj _ _ _ _ (by omega), am_up_nj _ _ _ _ (by omega)]
      have h0 : (am_up (am_up (am_up (am_up (am_up C0 31 (4 * k) v1) 31 (4 * k + 1) v3) 31 (4 * k + 2) v5) 31 (4 * k + 3) v7) 30 3 ((k : Int) + 1)) 31 (4 * k) = v1 := by rw [am_up_ne _ _ _ _ (by decide), am_up_nj _ _ _ _ (by omega), am_up_nj _ _ _ _ (by omega), am_up_nj _ _ _ _ (by omega), am_up_at]
      have h1 : (am_up (am_up (am_up (am_up (am_up C0 31 (4 * k) v1) 31 (4 * k + 1) v3) 31 (4 * k + 2) v5) 31 (4 * k + 3) v7) 30 3 ((k : Int) + 1)) 31 (4 * k + 1) = v3 := by rw [am_up_ne _ _ _ _ (by decide), am_up_nj _ _ _ _ (by omega), am_up_nj _ _ _ _ (by omega), am_up_at]
      have h2 : (am_up (am_up (am_up (am_up (am_up C0 31 (4 * k) v1) 31 (4 * k + 1) v3) 31 (4 * k + 2) v5) 31 (4 * k + 3) v7) 30 3 ((k : Int) + 1)) 31 (4 * k + 2) = v5 := by rw [am_up_ne _ _ _ _ (by decide), am_up_nj _ _ _ _ (by omega), am_up_at]
      have h3 : (am_up (am_up (am_up (am_up (am_up C0 31 (4 * k) v1) 31 (4 * k + 1) v3) 31 (4 * k + 2) v5) 31 (4 * k + 3) v7) 30 3 ((k : Int) + 1)) 31 (4 * k + 3) = v7 := by rw [am_up_ne _ _ _ _ (by decide), am_up_at]
      have e0 : ∀ j, j ≠ 3 → (am_up (am_up (am_up (am_up (am_up C0 31 (4 * k) v1) 31 (4 * k + 1) v3) 31 (4 * k + 2) v5) 31 (4 * k + 3) v7) 30 3 ((k : Int) + 1)) 30 j = C0 30 j := fun j hj => by rw [am_up_nj _ _ _ _ hj, am_up_ne _ _ _ _ (by decide), am_up_ne _ _ _ _ (by decide), am_up_ne _ _ _ _ (by decide), am_up_ne _ _ _ _ (by decide)]
      generalize (am_up (am_up (am_up (am_up (am_up C0 31 (4 * k) v1) 31 (4 * k + 1) v3) 31 (4 * k + 2) v5) 31 (4 * k + 3) v7) 30 3 ((k : Int) + 1)) = Cn at eM e3 e4 e0 h0 h1 h2 h3
      have e5 : ∀ j, j < 4 → Cn 31 (4 * k + j) = Nn 73 (118 + 4 * k + j) := fun j hj => by
        rcases (show j = 0 ∨ j = 1 ∨ j = 2 ∨ j = 3 by omega) with rfl | rfl | rfl | rfl
        · exact h0.trans g0.symm
        · rw [h1, show 118 + 4 * k + 1 = 119 + 4 * k by omega, g1]
        · rw [h2, show 118 + 4 * k + 2 = 120 + 4 * k by omega, g2]
        · rw [h3, show 118 + 4 * k + 3 = 121 + 4 * k by omega, g3]
      refine ⟨vT_row3 hD.1 hk hk12 en en0 (fun h => absurd h (by decide)) (fun _ => by rw [g0, g1, g2, g3, n1]; omega) (fun h => absurd h (by decide)), cT_row3 hD.1 hD.2.1 hk hk12 en en0 eM e3 e4 e5, ?_, ?_, ?_⟩
      · obtain ⟨⟨y1, y2⟩, ⟨y3, y4⟩, ⟨y5, y6⟩⟩ := hD.2.2.1
        exact ⟨⟨(congrFun (eM 28 (by decide) (by decide)) 0).trans y1, (congrFun (eM 28 (by decide) (by decide)) 1).trans y2⟩, ⟨(e0 0 (by decide)).trans y3, (e0 1 (by decide)).trans y4⟩, ⟨(congrFun (eM 32 (by decide) (by decide)) 0).trans y5, (congrFun (eM 32 (by decide) (by decide)) 1).trans y6⟩⟩
      · rw [n1, n76, eM 21 (by decide) (by decide)]; exact hD.2.2.2.1
      · intro g hg hg8
        rw [n1] at hg
        rw [en _ (by omega) (by omega), en _ (by omega) (by omega)]
        exact hD.2.2.2.2 g hg hg8
    exact ⟨DR_G hDR, fun _ => hDR, a6⟩
  · rw [if_neg z]
    exact ⟨_, _, _, _, rfl, a4, e2, b2, e3, C0, _, p7, w7, wa7, hT4, s4, by omega, FC_rf C0, FNs, DR_G hD, fun h => absurd h z, a6⟩
theorem l_shut (hT : TX C0 N0 e) (hD : DR C0 N0) {Cx : am_M} (hx0 : cY 204 [rV 34, rV 32] Cx = some (0, C)) (h : S2 C0 N0 e p w wa C N) (X : Nat) (hX : 12 ≤ X ∧ X ≤ 181) (hx : w = 0 → ∃ k : Nat, N0 73 4 = (k : Int) ∧ k < 6 ∧ X = 166 + 3 * k) : ∃ C' N', cY 202 [rV 34] Cx = some (0, C') ∧ cY 75 [rV 72, iV (X : Int)] N = some (0, N') ∧ T2 C0 N0 e p w wa C' N' := by
  have hb := hD.1.2.2.2.2.1
  obtain ⟨p1, w1, wa1, v1, u1, C1, N1, a1, a2, a3, a4, a5, a6, a7, a8⟩ := j_num hT 0 51 h
  obtain ⟨hT1, s1⟩ := jn_up hT a3 73 X u1 (Or.inl rfl)
  obtain ⟨p2, w2, wa2, v3, u3, C2, N2, b1, b2, b3, b4, b5, b6, b7, b8⟩ := j_num hT1 0 10079 s1
  obtain ⟨hT2, s2⟩ := jn_up hT1 b3 73 (X + 1) u3 (Or.inl rfl)
  obtain ⟨p3, w3, wa3, v5, u5, C3, N3, c1, c2, c3, c4, c5, c6, c7, c8⟩ := j_num2 hT2 (v3 + 1) (u3 + 1) 10080 (fun z => by rw [(b7 z).2.1]) s2
  obtain ⟨hT3, s3⟩ := jn_up hT2 c3 73 (X + 2) u5 (Or.inl rfl)
  have e0 : (am_up N3 73 (X + 2) u5) 73 4 = N0 73 4 := by rw [am_up_nj _ _ _ _ (by omega), S2_m c3 (by decide), am_up_nj _ _ _ _ (by omega), am_up_nj _ _ _ _ (by omega)]
  obtain ⟨hT4, s4⟩ := jn_up hT3 s3 73 4 (N0 73 4 + 1) (Or.inl rfl)
  have mEq : cY 75 [rV 72, iV (X : Int)] N = some (0, am_up (am_up N3 73 (X + 2) u5) 73 4 (N0 73 4 + 1)) := by
    rw [e_Model_shutRead, a2, am_cb_s, r_bd_ok (by omega) (by omega), r_ck_ok (by omega) (by omega), Int.toNat_natCast, b2, am_cb_s, r_bd_ok (by omega) (by omega), r_ck_ok (by omega) (by omega), r_ck_ok (by omega) (by omega), r_bd_ok (by omega) (by omega), show ((X : Int) + 1).toNat = X + 1 by omega, am_up_at, r_ck_ok (by omega) (by omega), c2, am_cb_s, r_bd_ok (by omega) (by omega), show ((X : Int) + 2).toNat = X + 2 by omega, e0, r_ck_ok (by omega) (by omega)]
  have FNs := FN_up (FN_up (FN_up (FN_up (FN_rf N0) 73 X u1 (Or.inl rfl)) 73 (X + 1) u3 (Or.inl rfl)) 73 (X + 2) u5 (Or.inl rfl)) 73 4 (N0 73 4 + 1) (Or.inl rfl)
  have ww : w ≠ 0 → w3 = w ∧ wa3 = wa := fun z => by
    obtain ⟨x1, x2⟩ := a8 z
    obtain ⟨y1, y2⟩ := b8 (by rw [x1]; exact z)
    obtain ⟨z1, z2⟩ := c8 (by rw [y1, x1]; exact z)
    exact ⟨by rw [z1, y1, x1], by rw [z2, y2, x2]⟩
  rw [mEq, e_Reader_readShut, hx0, am_cb_s, a1, am_cb_s, b1, am_cb_s, r_ck_ok (by omega) (by omega), c1, am_cb_s, S2_w c3]
  by_cases z : w3 = 0
  · obtain ⟨z2, q5, r5, r6⟩ := c7 z
    obtain ⟨z1, q3, r3, r4⟩ := b7 z2
    obtain ⟨z0, q1, r1, r2⟩ := a7 z1
    obtain ⟨k, hk, hk12, rfl⟩ := hx z0
    have k3 : C3 32 3 = (k : Int) := (congrFun (S2_c c3 (by decide)) 3).trans (hD.2.1.2.2.2.2.1.trans hk)
    have k0 : C3 32 0 = 6 := (congrFun (S2_c c3 (by decide)) 0).trans hD.2.2.1.2.2.1
    have k1 : C3 32 1 = 3 := (congrFun (S2_c c3 (by decide)) 1).trans hD.2.2.1.2.2.2
    rw [if_pos z, p_addRow_32 C3 v1 v3 v5 0 k k3 k0 k1 hk12, am_cb_s]
    obtain ⟨hU1, t1⟩ := jc_up hT4 s4 33 (3 * k) v1 (by omega)
    obtain ⟨hU2, t2⟩ := jc_up hU1 t1 33 (3 * k + 1) v3 (by omega)
    obtain ⟨hU3, t3⟩ := jc_up hU2 t2 33 (3 * k + 2) v5 (by omega)
    obtain ⟨hU4, t4⟩ := jc_up hU3 t3 32 3 ((k : Int) + 1) (by omega)
    refine ⟨_, _, rfl, rfl, _, _, p3, w3, wa3, hU4, t4, by omega, FC_up (FC_up (FC_up (FC_up (FC_rf C0) _ _ _ (by omega)) _ _ _ (by omega)) _ _ _ (by omega)) _ _ _ (by omega), FNs, ?_⟩
    have hDR : DR (am_up (am_up (am_up (am_up C0 33 (3 * k) v1) 33 (3 * k + 1) v3) 33 (3 * k + 2) v5) 32 3 ((k : Int) + 1)) (am_up (am_up (am_up (am_up N0 73 (166 + 3 * k) u1) 73 (166 + 3 * k + 1) u3) 73 (166 + 3 * k + 2) u5) 73 4 (N0 73 4 + 1)) := by
      have en : ∀ i, i ≠ 4 → (i < 166 + 3 * k ∨ 166 + 3 * k + 3 ≤ i) → (am_up (am_up (am_up (am_up N0 73 (166 + 3 * k) u1) 73 (166 + 3 * k + 1) u3) 73 (166 + 3 * k + 2) u5) 73 4 (N0 73 4 + 1)) 73 i = N0 73 i := fun i h0 h1 => by rw [am_up_nj _ _ _ _ h0, am_up_nj _ _ _ _ (by omega), am_up_nj _ _ _ _ (by omega), am_up_nj _ _ _ _ (by omega)]
      have en0 : (am_up (am_up (am_up (am_up N0 73 (166 + 3 * k) u1) 73 (166 + 3 * k + 1) u3) 73 (166 + 3 * k + 2) u5) 73 4 (N0 73 4 + 1)) 73 4 = (k : Int) + 1 := by rw [am_up_at, hk]
      have g0 : (am_up (am_up (am_up (am_up N0 73 (166 + 3 * k) u1) 73 (166 + 3 * k + 1) u3) 73 (166 + 3 * k + 2) u5) 73 4 (N0 73 4 + 1)) 73 (166 + 3 * k) = v1 := by rw [am_up_nj _ _ _ _ (by omega), am_up_nj _ _ _ _ (by omega), am_up_nj _ _ _ _ (by omega), am_up_at, ← q1]
      have g1 : (am_up (am_up (am_up (am_up N0 73 (166 + 3 * k) u1) 73 (166 + 3 * k + 1) u3) 73 (166 + 3 * k + 2) u5) 73 4 (N0 73 4 + 1)) 73 (167 + 3 * k) = v3 := by rw [show 167 + 3 * k = 166 + 3 * k + 1 by omega, am_up_nj _ _ _ _ (by omega), am_up_nj _ _ _ _ (by omega), am_up_at, ← q3]
      have g2 : (am_up (am_up (am_up (am_up N0 73 (166 + 3 * k) u1) 73 (166 + 3 * k + 1) u3) 73 (166 + 3 * k + 2) u5) 73 4 (N0 73 4 + 1)) 73 (168 + 3 * k) = v5 := by rw [show 168 + 3 * k = 166 + 3 * k + 2 by omega, am_up_nj _ _ _ _ (by omega), am_up_at, ← q5]
      have n76 : (am_up (am_up (am_up (am_up N0 73 (166 + 3 * k) u1) 73 (166 + 3 * k + 1) u3) 73 (166 + 3 * k + 2) u5) 73 4 (N0 73 4 + 1)) 76 = N0 76 := by rw [am_up_ne _ _ _ _ (by decide), am_up_ne _ _ _ _ (by decide), am_up_ne _ _ _ _ (by decide), am_up_ne _ _ _ _ (by decide)]
      have n1 := en 1 (by omega) (by omega)
      generalize (am_up (am_up (am_up (am_up N0 73 (166 + 3 * k) u1) 73 (166 + 3 * k + 1) u3) 73 (166 + 3 * k + 2) u5) 73 4 (N0 73 4 + 1)) = Nn at en en0 g0 g1 g2 n76 n1
      have eM : ∀ a, a ≠ 32 → a ≠ 33 → (am_up (am_up (am_up (am_up C0 33 (3 * k) v1) 33 (3 * k + 1) v3) 33 (3 * k + 2) v5) 32 3 ((k : Int) + 1)) a = C0 a := fun a x1 x2 => by rw [am_up_ne _ _ _ _ x1, am_up_ne _ _ _ _ x2, am_up_ne _ _ _ _ x2, am_up_ne _ _ _ _ x2]
      have e3 : (am_up (am_up (am_up (am_up C0 33 (3 * k) v1) 33 (3 * k + 1) v3) 33 (3 * k + 2) v5) 32 3 ((k : Int) + 1)) 32 3 = (k : Int) + 1 := am_up_at _ _ _ _
      have e4 : ∀ i, i < 3 * k → (am_up (am_up (am_up (am_up C0 33 (3 * k) v1) 33 (3 * k + 1) v3) 33 (3 * k + 2) v5) 32 3 ((k : Int) + 1)) 33 i = C0 33 i := fun i hi => by rw [am_up_ne _ _ _ _ (by decide), am_up_nj _ _ _ _ (by omega), am_up_nj _ _ _ _ (by omega), am_up_nj _ _ _ _ (by omega)]
      have h0 : (am_up (am_up (am_up (am_up C0 33 (3 * k) v1) 33 (3 * k + 1) v3) 33 (3 * k + 2) v5) 32 3 ((k : Int) + 1)) 33 (3 * k) = v1 := by rw [am_up_ne _ _ _ _ (by decide), am_up_nj _ _ _ _ (by omega), am_up_nj _ _ _ _ (by omega), am_up_at]
      have h1 : (am_up (am_up (am_up (am_up C0 33 (3 * k) v1) 33 (3 * k + 1) v3) 33 (3 * k + 2) v5) 32 3 ((k : Int) + 1)) 33 (3 * k + 1) = v3 := by rw [am_up_ne _ _ _ _ (by decide), am_up_nj _ _ _ _ (by omega), am_up_at]
      have h2 : (am_up (am_up (am_up (am_up C0 33 (3 * k) v1) 33 (3 * k + 1) v3) 33 (3 * k + 2) v5) 32 3 ((k : Int) + 1)) 33 (3 * k + 2) = v5 := by rw [am_up_ne _ _ _ _ (by decide), am_up_at]
      have e0 : ∀ j, j ≠ 3 → (am_up (am_up (am_up (am_up C0 33 (3 * k) v1) 33 (3 * k + 1) v3) 33 (3 * k + 2) v5) 32 3 ((k : Int) + 1)) 32 j = C0 32 j := fun j hj => by rw [am_up_nj _ _ _ _ hj, am_up_ne _ _ _ _ (by decide), am_up_ne _ _ _ _ (by decide), am_up_ne _ _ _ _ (by decide)]
      generalize (am_up (am_up (am_up (am_up C0 33 (3 * k) v1) 33 (3 * k + 1) v3) 33 (3 * k + 2) v5) 32 3 ((k : Int) + 1)) = Cn at eM e3 e4 e0 h0 h1 h2
      have e5 : ∀ j, j < 3 → Cn 33 (3 * k + j) = Nn 73 (166 + 3 * k + j) := fun j hj => by
        rcases (show j = 0 ∨ j = 1 ∨ j = 2 by omega) with rfl | rfl | rfl
        · exact h0.trans g0.symm
        · rw [h1, show 166 + 3 * k + 1 = 167 + 3 * k by omega, g1]
        · rw [h2, show 166 + 3 * k + 2 = 168 + 3 * k by omega, g2]
      refine ⟨vT_row4 hD.1 hk hk12 en en0 (fun h => absurd h (by decide)) (fun h => absurd h (by decide)) (fun _ => by rw [g0, g1, g2]; omega), cT_row4 hD.1 hD.2.1 hk hk12 en en0 eM e3 e4 e5, ?_, ?_, ?_⟩
      · obtain ⟨⟨y1, y2⟩, ⟨y3, y4⟩, ⟨y5, y6⟩⟩ := hD.2.2.1
        exact ⟨⟨(congrFun (eM 28 (by decide) (by decide)) 0).trans y1, (congrFun (eM 28 (by decide) (by decide)) 1).trans y2⟩, ⟨(congrFun (eM 30 (by decide) (by decide)) 0).trans y3, (congrFun (eM 30 (by decide) (by decide)) 1).trans y4⟩, ⟨(e0 0 (by decide)).trans y5, (e0 1 (by decide)).trans y6⟩⟩
      · rw [n1, n76, eM 21 (by decide) (by decide)]; exact hD.2.2.2.1
      · intro g hg hg8
        rw [n1] at hg
        rw [en _ (by omega) (by omega), en _ (by omega) (by omega)]
        exact hD.2.2.2.2 g hg hg8
    exact ⟨DR_G hDR, fun _ => hDR, ww⟩
  · rw [if_neg z]
    exact ⟨_, _, rfl, rfl, C0, _, p3, w3, wa3, hT4, s4, by omega, FC_rf C0, FNs, DR_G hD, fun h => absurd h z, ww⟩
end
