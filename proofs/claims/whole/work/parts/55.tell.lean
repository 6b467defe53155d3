-- the text, line by line
theorem PF_c {C0 N0 C N C' : am_M} {pc : Nat} (h : PF C0 N0 C N) (hz : C 34 7 ≠ 0) (hC : CS C pc (C 34 7) (C 34 8) C') : PF C0 N0 C' N := by
  obtain ⟨a1, a2, a3, a4, a5, ⟨g1, g2, g3⟩, a6, a7, a8, a9⟩ := h
  exact ⟨fun a ha => (hC.1 a (by omega)).trans (a1 a ha), fun j x1 x2 x3 x4 x5 => (hC.2.1 j x1 x2 x3 x4 x5).trans (a2 j x1 x2 x3 x4 x5), a3, a4, a5, ⟨kT_eq (fun a _ _ => hC.1 a (by omega)) g1, by rw [hC.1 18 (by decide)]; exact g2, by rw [hC.1 19 (by decide)]; exact g3⟩, by rw [hC.2.2.2.1]; exact a6, by rw [hC.2.2.2.1]; exact a7, by rw [hC.2.2.2.2]; exact a8, fun z => absurd (hC.2.2.2.1.symm.trans z) hz⟩
theorem t_loop {C0 N0 : am_M} {e : Nat} (hT : TX C0 N0 e) : ∀ (j p L : Nat) (C N : am_M) (d1 d2 d3 : Option am_V), e ≤ p + j → p ≤ e → L ≤ p → PF C0 N0 C N → C 34 7 = 0 → C 34 4 = (p : Int) → N 72 10 = (p : Int) → ∃ (L' : Nat) (C' N' : am_M), L' ≤ 801 ∧ cX 1 15 [some (rV 70), d1, some (iV (L : Int))] [] C = cX 1 27 [some (rV 70), none, some (iV (L' : Int))] [] C' ∧ cX 76 62 [some (rV 72), d2, some (iV (L : Int)), d3] [] N = cX 76 73 [some (rV 72), none, some (iV (L' : Int)), none] [] N' ∧ PF C0 N0 C' N' := by
  intro j
  induction j with
  | zero =>
    intro p L C N d1 d2 d3 hj hp hL hF h7 h4 h10
    obtain ⟨he, he2, h8, ht⟩ := id hT
    obtain ⟨f1, f2, f3, f4, f5, g, fw, fa, fb, fd⟩ := id hF
    have hD := fd h7
    have hT1 : TX C N e := ⟨by rw [f2 3 (by decide) (by decide) (by decide) (by decide) (by decide)]; exact he, by rw [f4 9 (by decide) (by decide) (by decide) (by decide)]; exact he2, h8, by rw [f3 78 (by decide) (by decide) (by decide), f1 35 (by omega)]; exact ht⟩
    obtain ⟨ke, ke2, -, kt⟩ := id hT1
    have hC : CS C p 0 (C 34 8) C := ⟨fun _ _ => rfl, fun _ _ _ _ _ _ => rfl, h4, h7, rfl⟩
    have hN : MS N p 0 (C 34 8) N := ⟨fun _ _ => rfl, fun _ _ _ _ _ => rfl, h10, by rw [fa, h7], fb⟩
    obtain ⟨C2, a1, a2, -, -⟩ := p_skipBlanks ke h8 hp hC
    obtain ⟨N2, b1, b2, -⟩ := p_peek ke2 h8 kt hp hN
    have hq : run bB (C 35) e p = p := run_e bB _ (by omega)
    rw [hq] at a2 b1 b2
    have hF2 : PF C0 N0 C2 N2 := PF_tr hF (PF_of (FC_rf C) (FN_rf N) g a2 b2 (by omega) (fun _ => hD))
    have hm : cX 76 62 [some (rV 72), d2, some (iV (L : Int)), d3] [] N = cX 76 73 [some (rV 72), none, some (iV (L : Int)), none] [] N2 := by
      rw [e_Model_tell_62, fa, h7, if_pos rfl, b1, am_cb_s, if_pos ((pkv_x (fun i hi => (kt i hi).2)).2.mpr (by omega))]
    by_cases hl : L < 800
    · refine ⟨L, C2, N2, by omega, ?_, hm, hF2⟩
      rw [e_Desk_tell_15, if_pos (by omega), e_Reader_hasMore, a1, am_cb_s, a2.2.2.2.1, if_pos rfl, a2.2.2.1, a2.2.1 3 (by decide) (by decide) (by decide) (by decide) (by decide), ke, if_neg (by omega), am_cb_s, if_pos rfl]
    · refine ⟨L, C, N2, by omega, ?_, hm, PF_tr hF (PF_of (FC_rf C) (FN_rf N) g hC b2 (by omega) (fun _ => hD))⟩
      rw [e_Desk_tell_15, if_neg (by omega)]
  | succ j ih =>
    intro p L C N d1 d2 d3 hj hp hL hF h7 h4 h10
    obtain ⟨he, he2, h8, ht⟩ := id hT
    obtain ⟨f1, f2, f3, f4, f5, g, fw, fa, fb, fd⟩ := id hF
    have hD := fd h7
    have hT1 : TX C N e := ⟨by rw [f2 3 (by decide) (by decide) (by decide) (by decide) (by decide)]; exact he, by rw [f4 9 (by decide) (by decide) (by decide) (by decide)]; exact he2, h8, by rw [f3 78 (by decide) (by decide) (by decide), f1 35 (by omega)]; exact ht⟩
    obtain ⟨ke, ke2, -, kt⟩ := id hT1
    have hC : CS C p 0 (C 34 8) C := ⟨fun _ _ => rfl, fun _ _ _ _ _ _ => rfl, h4, h7, rfl⟩
    have hN : MS N p 0 (C 34 8) N := ⟨fun _ _ => rfl, fun _ _ _ _ _ => rfl, h10, by rw [fa, h7], fb⟩
    obtain ⟨C2, a1, a2, -, -⟩ := p_skipBlanks ke h8 hp hC
    obtain ⟨N2, b1, b2, -⟩ := p_peek ke2 h8 kt hp hN
    obtain ⟨q, hq⟩ : ∃ q, run bB (C 35) e p = q := ⟨_, rfl⟩
    have hr := run_ok bB (C 35) e (e - p) p (by omega)
    rw [hq] at a2 b1 b2 hr
    have hF2 : PF C N C2 N2 := PF_of (FC_rf C) (FN_rf N) g a2 b2 (by omega) (fun _ => hD)
    have e3 : C2 34 3 = (e : Int) := by rw [a2.2.1 3 (by decide) (by decide) (by decide) (by decide) (by decide)]; exact ke
    by_cases c : q < e
    · have hS2 : S2 C N e q 0 (C 34 8) C2 N2 := ⟨by omega, by omega, a2, q, by omega, b2, fun _ => rfl⟩
      obtain ⟨C3, N3, l1, l2, l3, ⟨pc, l4, l5⟩, l6⟩ := l_line hT1 hD hS2
      have hF3 := PF_tr hF l3
      have sc : cX 1 15 [some (rV 70), d1, some (iV (L : Int))] [] C = cX 1 15 [some (rV 70), none, some (iV ((L + 1 : Nat) : Int))] [] C3 := by
        rw [e_Desk_tell_15, if_pos (by omega), e_Reader_hasMore, a1, am_cb_s, a2.2.2.2.1, if_pos rfl, a2.2.2.1, e3, if_pos (by omega), am_cb_s, if_neg (by decide), l1, am_cb_s, r_ck_ok (by omega) (by omega), show (L : Int) + 1 = ((L + 1 : Nat) : Int) by omega]
      have sm : cX 76 62 [some (rV 72), d2, some (iV (L : Int)), d3] [] N = cX 76 62 [some (rV 72), none, some (iV ((L + 1 : Nat) : Int)), none] [] N3 := by
        rw [e_Model_tell_62, fa, h7, if_pos rfl, b1, am_cb_s, if_neg (fun h => (pkv_x (fun i hi => (kt i hi).2)).2.mp h c), l2, am_cb_s, r_ck_ok (by omega) (by omega), show (L : Int) + 1 = ((L + 1 : Nat) : Int) by omega]
      rw [sc, sm]
      by_cases z : C3 34 7 = 0
      · obtain ⟨p', x1, x2, x3, x4⟩ := l6 z
        exact ih p' (L + 1) C3 N3 none none none (by omega) x2 (by omega) hF3 z x3 x4
      · have hm : cX 76 62 [some (rV 72), none, some (iV ((L + 1 : Nat) : Int)), none] [] N3 = cX 76 73 [some (rV 72), none, some (iV ((L + 1 : Nat) : Int)), none] [] N3 := by
          rw [e_Model_tell_62, l3.2.2.2.2.2.2.2.1, if_neg z]
        by_cases hl : L + 1 < 800
        · have hC3 : CS C3 pc (C3 34 7) (C3 34 8) C3 := ⟨fun _ _ => rfl, fun _ _ _ _ _ _ => rfl, l4, rfl, rfl⟩
          have ke3 : C3 34 3 = (e : Int) := by rw [hF3.2.1 3 (by decide) (by decide) (by decide) (by decide) (by decide)]; exact he
          obtain ⟨C4, m1, m2, -, -⟩ := p_skipBlanks ke3 h8 l5 hC3
          refine ⟨L + 1, C4, N3, by omega, ?_, hm, PF_c hF3 z m2⟩
          rw [e_Desk_tell_15, if_pos (by omega), e_Reader_hasMore, m1, am_cb_s, m2.2.2.2.1, if_neg z, am_cb_s, if_pos rfl]
        · refine ⟨L + 1, C3, N3, by omega, ?_, hm, hF3⟩
          rw [e_Desk_tell_15, if_neg (by omega)]
    · have hm : cX 76 62 [some (rV 72), d2, some (iV (L : Int)), d3] [] N = cX 76 73 [some (rV 72), none, some (iV (L : Int)), none] [] N2 := by
        rw [e_Model_tell_62, fa, h7, if_pos rfl, b1, am_cb_s, if_pos ((pkv_x (fun i hi => (kt i hi).2)).2.mpr c)]
      by_cases hl : L < 800
      · refine ⟨L, C2, N2, by omega, ?_, hm, PF_tr hF hF2⟩
        rw [e_Desk_tell_15, if_pos (by omega), e_Reader_hasMore, a1, am_cb_s, a2.2.2.2.1, if_pos rfl, a2.2.2.1, e3, if_neg (by omega), am_cb_s, if_pos rfl]
      · refine ⟨L, C, N2, by omega, ?_, hm, PF_tr hF (PF_of (FC_rf C) (FN_rf N) g hC b2 (by omega) (fun _ => hD))⟩
        rw [e_Desk_tell_15, if_neg (by omega)]
-- the reference keeps what stood, and starts plain
def pln (j : Nat) : Int := if j = 5 then 60 else if j = 7 then 18 else if j = 8 then 6 else if j = 9 then 1 else 0
theorem t_start (X : am_M) (e : Nat) (he : (e : Int) ≤ X 72 8) : ∃ N0, cY 76 [rV 72, iV (e : Int)] X = cX 76 62 [some (rV 72), none, some (iV 0), none] [] N0 ∧ (∀ a, a ≠ 72 → a ≠ 73 → a ≠ 74 → a ≠ 77 → N0 a = X a) ∧ (N0 72 5 = X 72 5 ∧ N0 72 8 = 0 ∧ N0 72 9 = (e : Int) ∧ N0 72 10 = 0 ∧ N0 72 11 = 0 ∧ N0 72 12 = -1) ∧ (∀ i, i < 184 → N0 74 i = X 73 i) ∧ (∀ i, i < 8 → N0 77 i = X 76 i) ∧ (∀ i, 184 ≤ i → N0 73 i = X 73 i) ∧ ∀ i, i < 184 → N0 73 i = pln i := by
  rw [e_Model_tell, p_isIn, am_cb_s, if_pos (show 0 ≤ (e : Int) ∧ (e : Int) ≤ X 72 8 from ⟨by omega, he⟩), if_neg (by decide)]
  have q1 : ∀ a, a ≠ 72 → (am_up (am_up (am_up (am_up (am_up (am_up X 72 6 0) 72 8 0) 72 9 (e : Int)) 72 10 0) 72 11 0) 72 12 (-1)) a = X a := fun a ha => by rw [am_up_ne _ _ _ _ ha, am_up_ne _ _ _ _ ha, am_up_ne _ _ _ _ ha, am_up_ne _ _ _ _ ha, am_up_ne _ _ _ _ ha, am_up_ne _ _ _ _ ha]
  have q2 : (am_up (am_up (am_up (am_up (am_up (am_up X 72 6 0) 72 8 0) 72 9 (e : Int)) 72 10 0) 72 11 0) 72 12 (-1)) 72 5 = X 72 5 ∧ (am_up (am_up (am_up (am_up (am_up (am_up X 72 6 0) 72 8 0) 72 9 (e : Int)) 72 10 0) 72 11 0) 72 12 (-1)) 72 8 = 0 ∧ (am_up (am_up (am_up (am_up (am_up (am_up X 72 6 0) 72 8 0) 72 9 (e : Int)) 72 10 0) 72 11 0) 72 12 (-1)) 72 9 = (e : Int) ∧ (am_up (am_up (am_up (am_up (am_up (am_up X 72 6 0) 72 8 0) 72 9 (e : Int)) 72 10 0) 72 11 0) 72 12 (-1)) 72 10 = 0 ∧ (am_up (am_up (am_up (am_up (am_up (am_up X 72 6 0) 72 8 0) 72 9 (e : Int)) 72 10 0) 72 11 0) 72 12 (-1)) 72 11 = 0 ∧ (am_up (am_up (am_up (am_up (am_up (am_up X 72 6 0) 72 8 0) 72 9 (e : Int)) 72 10 0) 72 11 0) 72 12 (-1)) 72 12 = -1 := by
    refine ⟨?_, ?_, ?_, ?_, ?_, ?_⟩ <;> simp [am_up]
  generalize (am_up (am_up (am_up (am_up (am_up (am_up X 72 6 0) 72 8 0) 72 9 (e : Int)) 72 10 0) 72 11 0) 72 12 (-1)) = Y at q1 q2
  have L1 : ∀ (j k : Nat) (N : am_M) (d1 d3 : Option am_V), k + j = 184 → (∀ a, a ≠ 74 → N a = Y a) → (∀ i, i < k → N 74 i = Y 73 i) → ∃ N', cX 76 30 [some (rV 72), d1, some (iV (k : Int)), d3] [] N = cX 76 45 [some (rV 72), none, some (iV 0), none] [] N' ∧ (∀ a, a ≠ 74 → N' a = Y a) ∧ (∀ i, i < 184 → N' 74 i = Y 73 i) := by
    intro j
    induction j with
    | zero => intro k N d1 d3 hk h1 h2; rw [e_Model_tell_30, if_neg (by omega)]; exact ⟨N, rfl, h1, fun i hi => h2 i (by omega)⟩
    | succ j ih =>
      intro k N d1 d3 hk h1 h2
      rw [e_Model_tell_30, if_pos (by omega), r_bd_ok (by omega) (by omega), r_bd_ok (by omega) (by omega), r_ck_ok (by omega) (by omega), Int.toNat_natCast]
      refine ih (k + 1) _ none none (by omega) (fun a ha => by rw [am_up_ne _ _ _ _ ha]; exact h1 a ha) (fun i hi => ?_)
      by_cases ei : i = k
      · rw [ei, am_up_at, h1 73 (by decide)]
      · rw [am_up_nj _ _ _ _ ei]; exact h2 i (by omega)
  obtain ⟨N1, a1, a2, a3⟩ := L1 184 0 Y (some (iV (e : Int))) none (by omega) (fun _ _ => rfl) (fun i hi => by omega)
  have a1 : cX 76 30 [some (rV 72), some (iV (e : Int)), some (iV 0), none] [] Y = _ := a1
  have L2 : ∀ (j k : Nat) (N : am_M) (d1 d3 : Option am_V), k + j = 8 → (∀ a, a ≠ 77 → N a = N1 a) → (∀ i, i < k → N 77 i = N1 76 i) → ∃ N', cX 76 45 [some (rV 72), d1, some (iV (k : Int)), d3] [] N = am_cb (cY 55 [rV 72] N') (fun _ M2 => cX 76 62 [some (rV 72), none, some (iV 0), none] [] M2) ∧ (∀ a, a ≠ 77 → N' a = N1 a) ∧ (∀ i, i < 8 → N' 77 i = N1 76 i) := by
    intro j
    induction j with
    | zero => intro k N d1 d3 hk h1 h2; rw [e_Model_tell_45, if_neg (by omega)]; exact ⟨N, rfl, h1, fun i hi => h2 i (by omega)⟩
    | succ j ih =>
      intro k N d1 d3 hk h1 h2
      rw [e_Model_tell_45, if_pos (by omega), r_bd_ok (by omega) (by omega), r_bd_ok (by omega) (by omega), r_ck_ok (by omega) (by omega), Int.toNat_natCast]
      refine ih (k + 1) _ none none (by omega) (fun a ha => by rw [am_up_ne _ _ _ _ ha]; exact h1 a ha) (fun i hi => ?_)
      by_cases ei : i = k
      · rw [ei, am_up_at, h1 76 (by decide)]
      · rw [am_up_nj _ _ _ _ ei]; exact h2 i (by omega)
  obtain ⟨N2, b1, b2, b3⟩ := L2 8 0 N1 none none (by omega) (fun _ _ => rfl) (fun i hi => by omega)
  have b1 : cX 76 45 [some (rV 72), none, some (iV 0), none] [] N1 = _ := b1
  have L3 : ∀ (j k : Nat) (N : am_M), k + j = 184 → (∀ a, a ≠ 73 → N a = N2 a) → (∀ i, i < k → N 73 i = 0) → (∀ i, 184 ≤ i → N 73 i = N2 73 i) → ∃ N', cX 55 2 [some (rV 72), some (iV (k : Int))] [] N = some (0, am_up (am_up (am_up (am_up N' 73 5 60) 73 7 18) 73 8 6) 73 9 1) ∧ (∀ a, a ≠ 73 → N' a = N2 a) ∧ (∀ i, i < 184 → N' 73 i = 0) ∧ (∀ i, 184 ≤ i → N' 73 i = N2 73 i) := by
    intro j
    induction j with
    | zero => intro k N hk h1 h2 h3; rw [e_Model_plain_2, if_neg (by omega)]; exact ⟨N, rfl, h1, fun i hi => h2 i (by omega), h3⟩
    | succ j ih =>
      intro k N hk h1 h2 h3
      rw [e_Model_plain_2, if_pos (by omega), r_bd_ok (by omega) (by omega), r_ck_ok (by omega) (by omega), Int.toNat_natCast]
      refine ih (k + 1) _ (by omega) (fun a ha => by rw [am_up_ne _ _ _ _ ha]; exact h1 a ha) (fun i hi => ?_) (fun i hi => by rw [am_up_nj _ _ _ _ (by omega)]; exact h3 i hi)
      by_cases ei : i = k
      · rw [ei, am_up_at]
      · rw [am_up_nj _ _ _ _ ei]; exact h2 i (by omega)
  obtain ⟨N3, c1, c2, c3, c4⟩ := L3 184 0 N2 (by omega) (fun _ _ => rfl) (fun i hi => by omega) (fun _ _ => rfl)
  have c1 : cX 55 2 [some (rV 72), some (iV 0)] [] N2 = _ := c1
  refine ⟨am_up (am_up (am_up (am_up N3 73 5 60) 73 7 18) 73 8 6) 73 9 1, ?_, ?_, ?_, ?_, ?_, ?_, ?_⟩
  · rw [a1, b1, e_Model_plain, c1, am_cb_s]
  · intro a x1 x2 x3 x4
    rw [am_up_ne _ _ _ _ x2, am_up_ne _ _ _ _ x2, am_up_ne _ _ _ _ x2, am_up_ne _ _ _ _ x2, c2 a x2, b2 a x4, a2 a x3, q1 a x1]
  · rw [am_up_ne _ _ _ _ (show 72 ≠ 73 by decide), am_up_ne _ _ _ _ (show 72 ≠ 73 by decide), am_up_ne _ _ _ _ (show 72 ≠ 73 by decide), am_up_ne _ _ _ _ (show 72 ≠ 73 by decide), c2 72 (by decide), b2 72 (by decide), a2 72 (by decide)]
    exact q2
  · intro i hi
    rw [am_up_ne _ _ _ _ (show 74 ≠ 73 by decide), am_up_ne _ _ _ _ (show 74 ≠ 73 by decide), am_up_ne _ _ _ _ (show 74 ≠ 73 by decide), am_up_ne _ _ _ _ (show 74 ≠ 73 by decide), c2 74 (by decide), b2 74 (by decide), a3 i hi, q1 73 (by decide)]
  · intro i hi
    rw [am_up_ne _ _ _ _ (show 77 ≠ 73 by decide), am_up_ne _ _ _ _ (show 77 ≠ 73 by decide), am_up_ne _ _ _ _ (show 77 ≠ 73 by decide), am_up_ne _ _ _ _ (show 77 ≠ 73 by decide), c2 77 (by decide), b3 i hi, a2 76 (by decide), q1 76 (by decide)]
  · intro i hi
    rw [am_up_nj _ _ _ _ (by omega), am_up_nj _ _ _ _ (by omega), am_up_nj _ _ _ _ (by omega), am_up_nj _ _ _ _ (by omega), c4 i hi, b2 73 (by decide), a2 73 (by decide), q1 73 (by decide)]
  · intro i hi
    unfold pln
    by_cases i9 : i = 9
    · subst i9; rw [am_up_at]; rfl
    · rw [am_up_nj _ _ _ _ i9]
      by_cases i8 : i = 8
      · subst i8; rw [am_up_at]; rfl
      · rw [am_up_nj _ _ _ _ i8]
        by_cases i7 : i = 7
        · subst i7; rw [am_up_at]; rfl
        · rw [am_up_nj _ _ _ _ i7]
          by_cases i5 : i = 5
          · subst i5; rw [am_up_at]; rfl
          · rw [am_up_nj _ _ _ _ i5, if_neg i5, if_neg i7, if_neg i8, if_neg i9]; exact c3 i hi
theorem t_back (N : am_M) (x : Int) (hw : 0 ≤ N 72 11 ∧ N 72 11 ≤ 4) (hz : N 72 11 ≠ 0) : ∃ N', cX 76 73 [some (rV 72), none, some (iV x), none] [] N = some (-30 - N 72 11, N') ∧ (∀ a, a ≠ 73 → a ≠ 76 → N' a = N a) ∧ (∀ i, i < 184 → N' 73 i = N 74 i) ∧ (∀ i, 184 ≤ i → N' 73 i = N 73 i) ∧ (∀ i, i < 8 → N' 76 i = N 77 i) := by
  have L1 : ∀ (j k : Nat) (N' : am_M) (d1 d2 : Option am_V), k + j = 184 → (∀ a, a ≠ 73 → N' a = N a) → (∀ i, i < k → N' 73 i = N 74 i) → (∀ i, 184 ≤ i → N' 73 i = N 73 i) → ∃ N'', cX 76 83 [some (rV 72), d1, d2, some (iV (k : Int))] [] N' = cX 76 98 [some (rV 72), none, none, some (iV 0)] [] N'' ∧ (∀ a, a ≠ 73 → N'' a = N a) ∧ (∀ i, i < 184 → N'' 73 i = N 74 i) ∧ (∀ i, 184 ≤ i → N'' 73 i = N 73 i) := by
    intro j
    induction j with
    | zero => intro k N' d1 d2 hk h1 h2 h3; rw [e_Model_tell_83, if_neg (by omega)]; exact ⟨N', rfl, h1, fun i hi => h2 i (by omega), h3⟩
    | succ j ih =>
      intro k N' d1 d2 hk h1 h2 h3
      rw [e_Model_tell_83, if_pos (by omega), r_bd_ok (by omega) (by omega), r_bd_ok (by omega) (by omega), r_ck_ok (by omega) (by omega), Int.toNat_natCast]
      refine ih (k + 1) _ none none (by omega) (fun a ha => by rw [am_up_ne _ _ _ _ ha]; exact h1 a ha) (fun i hi => ?_) (fun i hi => by rw [am_up_nj _ _ _ _ (by omega)]; exact h3 i hi)
      by_cases ei : i = k
      · rw [ei, am_up_at, h1 74 (by decide)]
      · rw [am_up_nj _ _ _ _ ei]; exact h2 i (by omega)
  obtain ⟨N1, a1, a2, a3, a4⟩ := L1 184 0 N none (some (iV x)) (by omega) (fun _ _ => rfl) (fun i hi => by omega) (fun _ _ => rfl)
  have a1 : cX 76 83 [some (rV 72), none, some (iV x), some (iV 0)] [] N = _ := a1
  have L2 : ∀ (j k : Nat) (N' : am_M) (d1 d2 : Option am_V), k + j = 8 → (∀ a, a ≠ 76 → N' a = N1 a) → (∀ i, i < k → N' 76 i = N1 77 i) → ∃ N'', cX 76 98 [some (rV 72), d1, d2, some (iV (k : Int))] [] N' = some (-30 - N 72 11, N'') ∧ (∀ a, a ≠ 76 → N'' a = N1 a) ∧ (∀ i, i < 8 → N'' 76 i = N1 77 i) := by
    intro j
    induction j with
    | zero =>
      intro k N' d1 d2 hk h1 h2
      rw [e_Model_tell_98, if_neg (by omega), h1 72 (by decide), a2 72 (by decide), r_ck_ok (by omega) (by omega)]
      exact ⟨N', rfl, h1, fun i hi => h2 i (by omega)⟩
    | succ j ih =>
      intro k N' d1 d2 hk h1 h2
      rw [e_Model_tell_98, if_pos (by omega), r_bd_ok (by omega) (by omega), r_bd_ok (by omega) (by omega), r_ck_ok (by omega) (by omega), Int.toNat_natCast]
      refine ih (k + 1) _ none none (by omega) (fun a ha => by rw [am_up_ne _ _ _ _ ha]; exact h1 a ha) (fun i hi => ?_)
      by_cases ei : i = k
      · rw [ei, am_up_at, h1 77 (by decide)]
      · rw [am_up_nj _ _ _ _ ei]; exact h2 i (by omega)
  obtain ⟨N2, b1, b2, b3⟩ := L2 8 0 N1 none none (by omega) (fun _ _ => rfl) (fun i hi => by omega)
  have b1 : cX 76 98 [some (rV 72), none, none, some (iV 0)] [] N1 = _ := b1
  refine ⟨N2, by rw [e_Model_tell_73, if_neg hz, a1, b1], fun a x1 x2 => by rw [b2 a x2, a2 a x1], fun i hi => by rw [b2 73 (by decide)]; exact a3 i hi, fun i hi => by rw [b2 73 (by decide)]; exact a4 i hi, fun i hi => by rw [b3 i hi, a2 77 (by decide)]⟩
