-- swap, lend, shut
theorem o4 : lw_O4 RI := by
  intro a b c ha hb hc M hR hM
  have hR2 : RI (am_up M 72 6 0) := RI_mf (mf_up (mf.rf M) (by omega)) hR
  obtain ⟨r1, r2, r3, r4, r5, r6, r7, r8, r9, r10, r11⟩ := id hR
  obtain ⟨b0, b1, b2, -⟩ := id r1
  have e04 : M 0 4 = M 73 1 := r2.2.1
  have e11 : M 11 3 = M 73 2 := r2.2.2.1
  have k0 : M 11 0 = 12 := r3.1.1
  have k1 : M 11 1 = 3 := r3.1.2
  obtain ⟨k, hk⟩ : ∃ k : Nat, M 73 2 = (k : Int) := ⟨(M 73 2).toNat, by omega⟩
  have e73 : (am_up M 72 6 0) 73 = M 73 := am_up_ne M 72 6 0 (by decide)
  have hm := p_areTwo b c (am_up M 72 6 0) (by rw [e73]; omega)
  rw [e73] at hm
  have hp := p_lacksPair b c M
  rw [e04] at hp
  by_cases h : (0 ≤ b ∧ b < M 73 1) ∧ (0 ≤ c ∧ c < M 73 1) ∧ b ≠ c
  · rw [if_pos h] at hm hp
    by_cases hw : 0 ≤ a ∧ a ≤ 51
    · by_cases hf : M 73 2 = 12
      · refine ⟨-4, M, _, ?_, ?_, hR2⟩
        · rw [e_Desk_swap, hp, am_cb_s, if_pos rfl, p_isNoWeek, am_cb_s, if_pos hw, if_pos rfl, e_Rows_isFull_11, k0, e11, if_neg (by omega), am_cb_s, if_neg (by decide)]
        · rw [e_Model_swap, hm, am_cb_s, if_neg (by decide), p_isWeek, am_cb_s, if_pos hw, if_neg (by decide), e73, if_pos hf]
      · have ha1 := p_addRow_11 M a b c 0 k (by rw [e11, hk]) k0 k1 (by omega)
        generalize hMa : am_up (am_up (am_up (am_up M 12 (3 * k) a) 12 (3 * k + 1) b) 12 (3 * k + 2) c) 11 3 ((k : Int) + 1) = Ma at ha1
        have eMa : ∀ x, x ≠ 11 → x ≠ 12 → Ma x = M x := fun x h1 h2 => by rw [← hMa, am_up_ne _ _ _ _ h1, am_up_ne _ _ _ _ h2, am_up_ne _ _ _ _ h2, am_up_ne _ _ _ _ h2]
        obtain ⟨M1, g1, g2⟩ := p_keep Ma 1 0 0 (by rw [eMa 36 (by decide) (by decide)]; exact r8.2.1.1) (by rw [eMa 36 (by decide) (by decide)]; exact r8.2.1.2)
        have e11' : M1 11 3 = (k : Int) + 1 := by rw [g2.1 11 (by decide) (by decide) (by decide) (by decide), ← hMa, am_up_at]
        have f725 : (am_up M1 72 6 0) 72 5 = M 72 5 := by rw [am_up_nj M1 72 6 0 (by decide), g2.1 72 (by decide) (by decide) (by decide) (by decide), eMa 72 (by decide) (by decide)]
        have f73 : (am_up M1 72 6 0) 73 = M 73 := by rw [am_up_ne M1 72 6 0 (by decide), g2.1 73 (by decide) (by decide) (by decide) (by decide), eMa 73 (by decide) (by decide)]
        have haa := r8.2.1
        rw [r8.1] at haa
        obtain ⟨M3, g3, g4⟩ := p_remembers (am_up M1 72 6 0) (by rw [f725]; exact haa.1) (by rw [f725]; exact haa.2)
        have e3 : M3 73 = M 73 := by rw [g4.1 73 (by decide) (by decide), f73]
        have hl := p_laysThree M3 (82 + 3 * k) a b c (by omega)
        have hm1 := p_areTwo b c (am_up M1 72 6 0) (by rw [f73]; omega)
        rw [f73, if_pos h] at hm1
        refine ⟨(k : Int) + 1, M1, am_up (am_up (am_up (am_up M3 73 (82 + 3 * k) a) 73 (82 + 3 * k + 1) b) 73 (82 + 3 * k + 2) c) 73 2 ((k : Int) + 1), ?_, ?_, ?_⟩
        · rw [e_Desk_swap, hp, am_cb_s, if_pos rfl, p_isNoWeek, am_cb_s, if_pos hw, if_pos rfl, e_Rows_isFull_11, k0, e11, if_pos (by omega), am_cb_s, if_pos rfl, ha1, am_cb_s, g1, am_cb_s, e11']
        · rw [e_Model_swap, hm1, am_cb_s, if_neg (by decide), p_isWeek, am_cb_s, if_pos hw, if_neg (by decide), f73, if_neg hf, g3, am_cb_s, e3, hk, r_ck_ok (by omega) (by omega), r_ck_ok (by omega) (by omega), show (82 + 3 * (k : Int)) = ((82 + 3 * k : Nat) : Int) by omega, hl, am_cb_s]
          rw [show (am_up (am_up (am_up M3 73 (82 + 3 * k) a) 73 (82 + 3 * k + 1) b) 73 (82 + 3 * k + 2) c) 73 2 = (k : Int) by rw [am_up_nj _ _ _ _ (by omega), am_up_nj _ _ _ _ (by omega), am_up_nj _ _ _ _ (by omega), e3, hk], r_ck_ok (by omega) (by omega)]
        · have eN : (am_up (am_up (am_up (am_up M3 73 (82 + 3 * k) a) 73 (82 + 3 * k + 1) b) 73 (82 + 3 * k + 2) c) 73 2 ((k : Int) + 1)) 73 = us (us (us (us (M 73) (82 + 3 * k) a) (82 + 3 * k + 1) b) (82 + 3 * k + 2) c) 2 ((k : Int) + 1) := by rw [up_us, up_us, up_us, up_us, e3]
          have ee : ∀ i, i ≠ 2 → (i < 82 + 3 * k ∨ 82 + 3 * k + 3 ≤ i) → us (us (us (us (M 73) (82 + 3 * k) a) (82 + 3 * k + 1) b) (82 + 3 * k + 2) c) 2 ((k : Int) + 1) i = M 73 i := fun i h1 h2 => by rw [us_ne _ _ _ h1, us_ne _ _ _ (by omega), us_ne _ _ _ (by omega), us_ne _ _ _ (by omega)]
          have n0 : us (us (us (us (M 73) (82 + 3 * k) a) (82 + 3 * k + 1) b) (82 + 3 * k + 2) c) 2 ((k : Int) + 1) (82 + 3 * k) = a := by rw [us_ne _ _ _ (by omega), us_ne _ _ _ (by omega), us_ne _ _ _ (by omega), us_at]
          have n1 : us (us (us (us (M 73) (82 + 3 * k) a) (82 + 3 * k + 1) b) (82 + 3 * k + 2) c) 2 ((k : Int) + 1) (82 + 3 * k + 1) = b := by rw [us_ne _ _ _ (by omega), us_ne _ _ _ (by omega), us_at]
          have n2 : us (us (us (us (M 73) (82 + 3 * k) a) (82 + 3 * k + 1) b) (82 + 3 * k + 2) c) 2 ((k : Int) + 1) (82 + 3 * k + 2) = c := by rw [us_ne _ _ _ (by omega), us_at]
          have n3 : us (us (us (us (M 73) (82 + 3 * k) a) (82 + 3 * k + 1) b) (82 + 3 * k + 2) c) 2 ((k : Int) + 1) 2 = (k : Int) + 1 := us_at _ _ _
          generalize us (us (us (us (M 73) (82 + 3 * k) a) (82 + 3 * k + 1) b) (82 + 3 * k + 2) c) 2 ((k : Int) + 1) = s' at eN ee n0 n1 n2 n3
          have v' : vT s' := vT_row2 r1 hk (by omega) ee n3 (fun _ => by rw [show 83 + 3 * k = 82 + 3 * k + 1 by omega, show 84 + 3 * k = 82 + 3 * k + 2 by omega, n0, n1, n2, ee 1 (by omega) (by omega)]; exact ⟨hw, h.1, h.2.1, h.2.2⟩) (fun q => by omega) (fun q => by omega)
          refine act_g (kd := 1) (tg := 0) (bf := 0) hR (fun x hx => eMa x (by omega) (by omega)) ?_ g2 g4 (fun x hx => by rw [am_up_ne _ _ _ _ hx, am_up_ne _ _ _ _ hx, am_up_ne _ _ _ _ hx, am_up_ne _ _ _ _ hx]) (by rw [eN]; exact v') ?_ (by rw [eN]; exact ee 1 (by omega) (by omega)) (by rw [eN]; exact Or.inr (Or.inl ⟨rfl, by omega⟩)) (by rw [eN]; exact Rl_row2 r1 hk (by omega) ee n3) (fun j hj => by rw [eN, ee j (by omega) (by omega)]; exact r11 j hj)
          · refine ⟨⟨?_, ?_⟩, ?_, ?_⟩
            · show Ma 11 0 = 12; rw [← hMa]; rw [am_up_nj _ _ _ _ (by decide), am_up_ne _ _ _ _ (by decide), am_up_ne _ _ _ _ (by decide), am_up_ne _ _ _ _ (by decide)]; exact k0
            · show Ma 11 1 = 3; rw [← hMa]; rw [am_up_nj _ _ _ _ (by decide), am_up_ne _ _ _ _ (by decide), am_up_ne _ _ _ _ (by decide), am_up_ne _ _ _ _ (by decide)]; exact k1
            · rw [eMa _ (by decide) (by decide)]; exact r3.2.1
            · rw [eMa _ (by decide) (by decide)]; exact r3.2.2
          · rw [eN]
            refine cT_row2 r1 r2 hk (by omega) ee n3 (fun x h1 h2 => eMa x (by omega) (by omega)) ?_ ?_ ?_
            · show Ma 11 3 = _; rw [← hMa, am_up_at]
            · intro i hi; show Ma 12 i = M 12 i; rw [← hMa, am_up_ne _ _ _ _ (by decide), am_up_nj _ _ _ _ (by omega), am_up_nj _ _ _ _ (by omega), am_up_nj _ _ _ _ (by omega)]
            · intro j hj; show Ma 12 (3 * k + j) = _
              rw [← hMa, am_up_ne _ _ _ _ (by decide)]
              rcases (by omega : j = 0 ∨ j = 1 ∨ j = 2) with rfl | rfl | rfl
              · rw [am_up_nj _ _ _ _ (by omega), am_up_nj _ _ _ _ (by omega)]; exact (am_up_at _ _ _ _).trans n0.symm
              · rw [am_up_nj _ _ _ _ (by omega), am_up_at, n1]
              · rw [am_up_at, n2]
    · refine ⟨-3, M, _, ?_, ?_, hR2⟩
      · rw [e_Desk_swap, hp, am_cb_s, if_pos rfl, p_isNoWeek, am_cb_s, if_neg hw, if_neg (by decide)]
      · rw [e_Model_swap, hm, am_cb_s, if_neg (by decide), p_isWeek, am_cb_s, if_neg hw, if_pos rfl]
  · rw [if_neg h] at hm hp
    refine ⟨-2, M, _, ?_, ?_, hR2⟩
    · rw [e_Desk_swap, hp, am_cb_s, if_neg (by decide)]
    · rw [e_Model_swap, hm, am_cb_s, if_pos rfl]
theorem o5 : lw_O5 RI := by
  intro a b c d ha hb hc hd M hR hM
  have hR2 : RI (am_up M 72 6 0) := RI_mf (mf_up (mf.rf M) (by omega)) hR
  obtain ⟨r1, r2, r3, r4, r5, r6, r7, r8, r9, r10, r11⟩ := id hR
  obtain ⟨b0, b1, b2, b3, -⟩ := id r1
  have e04 : M 0 4 = M 73 1 := r2.2.1
  have e13 : M 13 3 = M 73 3 := r2.2.2.2.1
  have k0 : M 13 0 = 12 := r3.2.1.1
  have k1 : M 13 1 = 4 := r3.2.1.2
  obtain ⟨k, hk⟩ : ∃ k : Nat, M 73 3 = (k : Int) := ⟨(M 73 3).toNat, by omega⟩
  have e73 : (am_up M 72 6 0) 73 = M 73 := am_up_ne M 72 6 0 (by decide)
  have hm := p_areTwo b c (am_up M 72 6 0) (by rw [e73]; omega)
  rw [e73] at hm
  have hp := p_lacksPair b c M
  rw [e04] at hp
  by_cases h : (0 ≤ b ∧ b < M 73 1) ∧ (0 ≤ c ∧ c < M 73 1) ∧ b ≠ c
  · rw [if_pos h] at hm hp
    by_cases hw : 0 ≤ a ∧ a ≤ 51
    · by_cases hd2 : 1 ≤ d ∧ d ≤ 999
      · by_cases hf : M 73 3 = 12
        · refine ⟨-4, M, _, ?_, ?_, hR2⟩
          · rw [e_Desk_lend, hp, am_cb_s, if_pos rfl, p_isNoWeek, am_cb_s, if_pos hw, if_pos rfl, if_neg (by omega), if_neg (by omega), e_Rows_isFull_13, k0, e13, if_neg (by omega), am_cb_s, if_neg (by decide)]
          · rw [e_Model_lend, hm, am_cb_s, if_neg (by decide), p_isWeek, am_cb_s, if_pos hw, if_neg (by decide), p_isIn, am_cb_s, if_pos hd2, if_neg (by decide), e73, if_pos hf]
        · have ha1 := p_addRow_13 M a b c d k (by rw [e13, hk]) k0 k1 (by omega)
          generalize hMa : am_up (am_up (am_up (am_up (am_up M 14 (4 * k) a) 14 (4 * k + 1) b) 14 (4 * k + 2) c) 14 (4 * k + 3) d) 13 3 ((k : Int) + 1) = Ma at ha1
          have eMa : ∀ x, x ≠ 13 → x ≠ 14 → Ma x = M x := fun x h1 h2 => by rw [← hMa, am_up_ne _ _ _ _ h1, am_up_ne _ _ _ _ h2, am_up_ne _ _ _ _ h2, am_up_ne _ _ _ _ h2, am_up_ne _ _ _ _ h2]
          obtain ⟨M1, g1, g2⟩ := p_keep Ma 2 0 0 (by rw [eMa 36 (by decide) (by decide)]; exact r8.2.1.1) (by rw [eMa 36 (by decide) (by decide)]; exact r8.2.1.2)
          have e13' : M1 13 3 = (k : Int) + 1 := by rw [g2.1 13 (by decide) (by decide) (by decide) (by decide), ← hMa, am_up_at]
          have f725 : (am_up M1 72 6 0) 72 5 = M 72 5 := by rw [am_up_nj M1 72 6 0 (by decide), g2.1 72 (by decide) (by decide) (by decide) (by decide), eMa 72 (by decide) (by decide)]
          have f73 : (am_up M1 72 6 0) 73 = M 73 := by rw [am_up_ne M1 72 6 0 (by decide), g2.1 73 (by decide) (by decide) (by decide) (by decide), eMa 73 (by decide) (by decide)]
          have haa := r8.2.1
          rw [r8.1] at haa
          obtain ⟨M3, g3, g4⟩ := p_remembers (am_up M1 72 6 0) (by rw [f725]; exact haa.1) (by rw [f725]; exact haa.2)
          have e3 : M3 73 = M 73 := by rw [g4.1 73 (by decide) (by decide), f73]
          have hl := p_laysThree M3 (118 + 4 * k) a b c (by omega)
          have hm1 := p_areTwo b c (am_up M1 72 6 0) (by rw [f73]; omega)
          rw [f73, if_pos h] at hm1
          refine ⟨(k : Int) + 1, M1, am_up (am_up (am_up (am_up (am_up M3 73 (118 + 4 * k) a) 73 (118 + 4 * k + 1) b) 73 (118 + 4 * k + 2) c) 73 (118 + 4 * k + 3) d) 73 3 ((k : Int) + 1), ?_, ?_, ?_⟩
          · rw [e_Desk_lend, hp, am_cb_s, if_pos rfl, p_isNoWeek, am_cb_s, if_pos hw, if_pos rfl, if_neg (by omega), if_neg (by omega), e_Rows_isFull_13, k0, e13, if_pos (by omega), am_cb_s, if_pos rfl, ha1, am_cb_s, g1, am_cb_s, e13']
          · rw [e_Model_lend, hm1, am_cb_s, if_neg (by decide), p_isWeek, am_cb_s, if_pos hw, if_neg (by decide), p_isIn, am_cb_s, if_pos hd2, if_neg (by decide), f73, if_neg hf, g3, am_cb_s, e3, hk, r_ck_ok (by omega) (by omega), r_ck_ok (by omega) (by omega), show (118 + 4 * (k : Int)) = ((118 + 4 * k : Nat) : Int) by omega, hl, am_cb_s]
            have eq3 : (am_up (am_up (am_up M3 73 (118 + 4 * k) a) 73 (118 + 4 * k + 1) b) 73 (118 + 4 * k + 2) c) 73 3 = (k : Int) := by rw [am_up_nj _ _ _ _ (by omega), am_up_nj _ _ _ _ (by omega), am_up_nj _ _ _ _ (by omega), e3, hk]
            rw [eq3, r_ck_ok (by omega) (by omega), r_ck_ok (by omega) (by omega), r_ck_ok (by omega) (by omega), r_bd_ok (by omega) (by omega), show (118 + 4 * (k : Int) + 3).toNat = 118 + 4 * k + 3 by omega, am_up_nj _ 73 (118 + 4 * k + 3) d (show 3 ≠ 118 + 4 * k + 3 by omega), eq3, r_ck_ok (by omega) (by omega)]
          · have eN : (am_up (am_up (am_up (am_up (am_up M3 73 (118 + 4 * k) a) 73 (118 + 4 * k + 1) b) 73 (118 + 4 * k + 2) c) 73 (118 + 4 * k + 3) d) 73 3 ((k : Int) + 1)) 73 = us (us (us (us (us (M 73) (118 + 4 * k) a) (118 + 4 * k + 1) b) (118 + 4 * k + 2) c) (118 + 4 * k + 3) d) 3 ((k : Int) + 1) := by rw [up_us, up_us, up_us, up_us, up_us, e3]
            have ee : ∀ i, i ≠ 3 → (i < 118 + 4 * k ∨ 118 + 4 * k + 4 ≤ i) → us (us (us (us (us (M 73) (118 + 4 * k) a) (118 + 4 * k + 1) b) (118 + 4 * k + 2) c) (118 + 4 * k + 3) d) 3 ((k : Int) + 1) i = M 73 i := fun i h1 h2 => by rw [us_ne _ _ _ h1, us_ne _ _ _ (by omega), us_ne _ _ _ (by omega), us_ne _ _ _ (by omega), us_ne _ _ _ (by omega)]
            have n0 : us (us (us (us (us (M 73) (118 + 4 * k) a) (118 + 4 * k + 1) b) (118 + 4 * k + 2) c) (118 + 4 * k + 3) d) 3 ((k : Int) + 1) (118 + 4 * k) = a := by rw [us_ne _ _ _ (by omega), us_ne _ _ _ (by omega), us_ne _ _ _ (by omega), us_ne _ _ _ (by omega), us_at]
            have n1 : us (us (us (us (us (M 73) (118 + 4 * k) a) (118 + 4 * k + 1) b) (118 + 4 * k + 2) c) (118 + 4 * k + 3) d) 3 ((k : Int) + 1) (118 + 4 * k + 1) = b := by rw [us_ne _ _ _ (by omega), us_ne _ _ _ (by omega), us_ne _ _ _ (by omega), us_at]
            have n2 : us (us (us (us (us (M 73) (118 + 4 * k) a) (118 + 4 * k + 1) b) (118 + 4 * k + 2) c) (118 + 4 * k + 3) d) 3 ((k : Int) + 1) (118 + 4 * k + 2) = c := by rw [us_ne _ _ _ (by omega), us_ne _ _ _ (by omega), us_at]
            have n4 : us (us (us (us (us (M 73) (118 + 4 * k) a) (118 + 4 * k + 1) b) (118 + 4 * k + 2) c) (118 + 4 * k + 3) d) 3 ((k : Int) + 1) (118 + 4 * k + 3) = d := by rw [us_ne _ _ _ (by omega), us_at]
            have n3 : us (us (us (us (us (M 73) (118 + 4 * k) a) (118 + 4 * k + 1) b) (118 + 4 * k + 2) c) (118 + 4 * k + 3) d) 3 ((k : Int) + 1) 3 = (k : Int) + 1 := us_at _ _ _
            generalize us (us (us (us (us (M 73) (118 + 4 * k) a) (118 + 4 * k + 1) b) (118 + 4 * k + 2) c) (118 + 4 * k + 3) d) 3 ((k : Int) + 1) = s' at eN ee n0 n1 n2 n3 n4
            have v' : vT s' := vT_row3 r1 hk (by omega) ee n3 (fun q => by omega) (fun _ => by rw [show 119 + 4 * k = 118 + 4 * k + 1 by omega, show 120 + 4 * k = 118 + 4 * k + 2 by omega, show 121 + 4 * k = 118 + 4 * k + 3 by omega, n0, n1, n2, n4, ee 1 (by omega) (by omega)]; exact ⟨hw, h.1, h.2.1, h.2.2, hd2⟩) (fun q => by omega)
            refine act_g (kd := 2) (tg := 0) (bf := 0) hR (fun x hx => eMa x (by omega) (by omega)) ?_ g2 g4 (fun x hx => by rw [am_up_ne _ _ _ _ hx, am_up_ne _ _ _ _ hx, am_up_ne _ _ _ _ hx, am_up_ne _ _ _ _ hx, am_up_ne _ _ _ _ hx]) (by rw [eN]; exact v') ?_ (by rw [eN]; exact ee 1 (by omega) (by omega)) (by rw [eN]; exact Or.inr (Or.inr (Or.inl ⟨rfl, by omega⟩))) (by rw [eN]; exact Rl_row3 r1 hk (by omega) ee n3) (fun j hj => by rw [eN, ee j (by omega) (by omega)]; exact r11 j hj)
            · refine ⟨?_, ⟨?_, ?_⟩, ?_⟩
              · rw [eMa _ (by decide) (by decide)]; exact r3.1
              · show Ma 13 0 = 12; rw [← hMa]; rw [am_up_nj _ _ _ _ (by decide), am_up_ne _ _ _ _ (by decide), am_up_ne _ _ _ _ (by decide), am_up_ne _ _ _ _ (by decide), am_up_ne _ _ _ _ (by decide)]; exact k0
              · show Ma 13 1 = 4; rw [← hMa]; rw [am_up_nj _ _ _ _ (by decide), am_up_ne _ _ _ _ (by decide), am_up_ne _ _ _ _ (by decide), am_up_ne _ _ _ _ (by decide), am_up_ne _ _ _ _ (by decide)]; exact k1
              · rw [eMa _ (by decide) (by decide)]; exact r3.2.2
            · rw [eN]
              refine cT_row3 r1 r2 hk (by omega) ee n3 (fun x h1 h2 => eMa x (by omega) (by omega)) ?_ ?_ ?_
              · show Ma 13 3 = _; rw [← hMa, am_up_at]
              · intro i hi; show Ma 14 i = M 14 i; rw [← hMa, am_up_ne _ _ _ _ (by decide), am_up_nj _ _ _ _ (by omega), am_up_nj _ _ _ _ (by omega), am_up_nj _ _ _ _ (by omega), am_up_nj _ _ _ _ (by omega)]
              · intro j hj; show Ma 14 (4 * k + j) = _
                rw [← hMa, am_up_ne _ _ _ _ (by decide)]
                rcases (by omega : j = 0 ∨ j = 1 ∨ j = 2 ∨ j = 3) with rfl | rfl | rfl | rfl
                · rw [am_up_nj _ _ _ _ (by omega), am_up_nj _ _ _ _ (by omega), am_up_nj _ _ _ _ (by omega)]; exact (am_up_at _ _ _ _).trans n0.symm
                · rw [am_up_nj _ _ _ _ (by omega), am_up_nj _ _ _ _ (by omega), am_up_at, n1]
                · rw [am_up_nj _ _ _ _ (by omega), am_up_at, n2]
                · rw [am_up_at, n4]
      · refine ⟨-3, M, _, ?_, ?_, hR2⟩
        · rw [e_Desk_lend, hp, am_cb_s, if_pos rfl, p_isNoWeek, am_cb_s, if_pos hw, if_pos rfl]
          by_cases q : d < 1
          · rw [if_pos q]
          · rw [if_neg q, if_pos (by omega)]
        · rw [e_Model_lend, hm, am_cb_s, if_neg (by decide), p_isWeek, am_cb_s, if_pos hw, if_neg (by decide), p_isIn, am_cb_s, if_neg hd2, if_pos rfl]
    · refine ⟨-3, M, _, ?_, ?_, hR2⟩
      · rw [e_Desk_lend, hp, am_cb_s, if_pos rfl, p_isNoWeek, am_cb_s, if_neg hw, if_neg (by decide)]
      · rw [e_Model_lend, hm, am_cb_s, if_neg (by decide), p_isWeek, am_cb_s, if_neg hw, if_pos rfl]
  · rw [if_neg h] at hm hp
    refine ⟨-2, M, _, ?_, ?_, hR2⟩
    · rw [e_Desk_lend, hp, am_cb_s, if_neg (by decide)]
    · rw [e_Model_lend, hm, am_cb_s, if_pos rfl]
theorem o6 : lw_O6 RI := by
  intro a b c ha hb hc M hR hM
  have hb' : -2147483648 ≤ b ∧ b ≤ 2147483647 := hb
  have hR2 : RI (am_up M 72 6 0) := RI_mf (mf_up (mf.rf M) (by omega)) hR
  obtain ⟨r1, r2, r3, r4, r5, r6, r7, r8, r9, r10, r11⟩ := id hR
  obtain ⟨b0, b1, b2, b3, b4, -⟩ := id r1
  have e15 : M 15 3 = M 73 4 := r2.2.2.2.2.1
  have k0 : M 15 0 = 6 := r3.2.2.1
  have k1 : M 15 1 = 3 := r3.2.2.2
  obtain ⟨k, hk⟩ : ∃ k : Nat, M 73 4 = (k : Int) := ⟨(M 73 4).toNat, by omega⟩
  have e73 : (am_up M 72 6 0) 73 = M 73 := am_up_ne M 72 6 0 (by decide)
  by_cases hw : 0 ≤ a ∧ a ≤ 51
  · by_cases hd2 : 0 ≤ b ∧ b < c ∧ c ≤ 10080
    · by_cases hf : M 73 4 = 6
      · refine ⟨-4, M, _, ?_, ?_, hR2⟩
        · rw [e_Desk_shut, p_isNoWeek, am_cb_s, if_pos hw, if_pos rfl, if_neg (by omega), if_pos (by omega), if_pos (by omega), if_neg (by omega), e_Rows_isFull_15, k0, e15, if_neg (by omega), am_cb_s, if_neg (by decide)]
        · rw [e_Model_shut, p_isWeek, am_cb_s, if_pos hw, if_neg (by decide), p_isIn, am_cb_s, if_pos (show 0 ≤ b ∧ b ≤ 10079 by omega), if_neg (by decide), r_ck_ok (by omega) (by omega), p_isIn, am_cb_s, if_pos (show b + 1 ≤ c ∧ c ≤ 10080 by omega), if_neg (by decide), e73, if_pos hf]
      · have ha1 := p_addRow_15 M a b c 0 k (by rw [e15, hk]) k0 k1 (by omega)
        generalize hMa : am_up (am_up (am_up (am_up M 16 (3 * k) a) 16 (3 * k + 1) b) 16 (3 * k + 2) c) 15 3 ((k : Int) + 1) = Ma at ha1
        have eMa : ∀ x, x ≠ 15 → x ≠ 16 → Ma x = M x := fun x h1 h2 => by rw [← hMa, am_up_ne _ _ _ _ h1, am_up_ne _ _ _ _ h2, am_up_ne _ _ _ _ h2, am_up_ne _ _ _ _ h2]
        obtain ⟨M1, g1, g2⟩ := p_keep Ma 3 0 0 (by rw [eMa 36 (by decide) (by decide)]; exact r8.2.1.1) (by rw [eMa 36 (by decide) (by decide)]; exact r8.2.1.2)
        have e15' : M1 15 3 = (k : Int) + 1 := by rw [g2.1 15 (by decide) (by decide) (by decide) (by decide), ← hMa, am_up_at]
        have f725 : (am_up M1 72 6 0) 72 5 = M 72 5 := by rw [am_up_nj M1 72 6 0 (by decide), g2.1 72 (by decide) (by decide) (by decide) (by decide), eMa 72 (by decide) (by decide)]
        have f73 : (am_up M1 72 6 0) 73 = M 73 := by rw [am_up_ne M1 72 6 0 (by decide), g2.1 73 (by decide) (by decide) (by decide) (by decide), eMa 73 (by decide) (by decide)]
        have haa := r8.2.1
        rw [r8.1] at haa
        obtain ⟨M3, g3, g4⟩ := p_remembers (am_up M1 72 6 0) (by rw [f725]; exact haa.1) (by rw [f725]; exact haa.2)
        have e3 : M3 73 = M 73 := by rw [g4.1 73 (by decide) (by decide), f73]
        have hl := p_laysThree M3 (166 + 3 * k) a b c (by omega)
        refine ⟨(k : Int) + 1, M1, am_up (am_up (am_up (am_up M3 73 (166 + 3 * k) a) 73 (166 + 3 * k + 1) b) 73 (166 + 3 * k + 2) c) 73 4 ((k : Int) + 1), ?_, ?_, ?_⟩
        · rw [e_Desk_shut, p_isNoWeek, am_cb_s, if_pos hw, if_pos rfl, if_neg (by omega), if_pos (by omega), if_pos (by omega), if_neg (by omega), e_Rows_isFull_15, k0, e15, if_pos (by omega), am_cb_s, if_pos rfl, ha1, am_cb_s, g1, am_cb_s, e15']
        · rw [e_Model_shut, p_isWeek, am_cb_s, if_pos hw, if_neg (by decide), p_isIn, am_cb_s, if_pos (show 0 ≤ b ∧ b ≤ 10079 by omega), if_neg (by decide), r_ck_ok (by omega) (by omega), p_isIn, am_cb_s, if_pos (show b + 1 ≤ c ∧ c ≤ 10080 by omega), if_neg (by decide), f73, if_neg hf, g3, am_cb_s, e3, hk, r_ck_ok (by omega) (by omega), r_ck_ok (by omega) (by omega), show (166 + 3 * (k : Int)) = ((166 + 3 * k : Nat) : Int) by omega, hl, am_cb_s]
          rw [show (am_up (am_up (am_up M3 73 (166 + 3 * k) a) 73 (166 + 3 * k + 1) b) 73 (166 + 3 * k + 2) c) 73 4 = (k : Int) by rw [am_up_nj _ _ _ _ (by omega), am_up_nj _ _ _ _ (by omega), am_up_nj _ _ _ _ (by omega), e3, hk], r_ck_ok (by omega) (by omega)]
        · have eN : (am_up (am_up (am_up (am_up M3 73 (166 + 3 * k) a) 73 (166 + 3 * k + 1) b) 73 (166 + 3 * k + 2) c) 73 4 ((k : Int) + 1)) 73 = us (us (us (us (M 73) (166 + 3 * k) a) (166 + 3 * k + 1) b) (166 + 3 * k + 2) c) 4 ((k : Int) + 1) := by rw [up_us, up_us, up_us, up_us, e3]
          have ee : ∀ i, i ≠ 4 → (i < 166 + 3 * k ∨ 166 + 3 * k + 3 ≤ i) → us (us (us (us (M 73) (166 + 3 * k) a) (166 + 3 * k + 1) b) (166 + 3 * k + 2) c) 4 ((k : Int) + 1) i = M 73 i := fun i h1 h2 => by rw [us_ne _ _ _ h1, us_ne _ _ _ (by omega), us_ne _ _ _ (by omega), us_ne _ _ _ (by omega)]
          have n0 : us (us (us (us (M 73) (166 + 3 * k) a) (166 + 3 * k + 1) b) (166 + 3 * k + 2) c) 4 ((k : Int) + 1) (166 + 3 * k) = a := by rw [us_ne _ _ _ (by omega), us_ne _ _ _ (by omega), us_ne _ _ _ (by omega), us_at]
          have n1 : us (us (us (us (M 73) (166 + 3 * k) a) (166 + 3 * k + 1) b) (166 + 3 * k + 2) c) 4 ((k : Int) + 1) (166 + 3 * k + 1) = b := by rw [us_ne _ _ _ (by omega), us_ne _ _ _ (by omega), us_at]
          have n2 : us (us (us (us (M 73) (166 + 3 * k) a) (166 + 3 * k + 1) b) (166 + 3 * k + 2) c) 4 ((k : Int) + 1) (166 + 3 * k + 2) = c := by rw [us_ne _ _ _ (by omega), us_at]
          have n3 : us (us (us (us (M 73) (166 + 3 * k) a) (166 + 3 * k + 1) b) (166 + 3 * k + 2) c) 4 ((k : Int) + 1) 4 = (k : Int) + 1 := us_at _ _ _
          generalize us (us (us (us (M 73) (166 + 3 * k) a) (166 + 3 * k + 1) b) (166 + 3 * k + 2) c) 4 ((k : Int) + 1) = s' at eN ee n0 n1 n2 n3
          have v' : vT s' := vT_row4 r1 hk (by omega) ee n3 (fun q => by omega) (fun q => by omega) (fun _ => by rw [show 167 + 3 * k = 166 + 3 * k + 1 by omega, show 168 + 3 * k = 166 + 3 * k + 2 by omega, n0, n1, n2]; exact ⟨hw, ⟨hd2.1, hd2.2.1⟩, hd2.2.2⟩)
          refine act_g (kd := 3) (tg := 0) (bf := 0) hR (fun x hx => eMa x (by omega) (by omega)) ?_ g2 g4 (fun x hx => by rw [am_up_ne _ _ _ _ hx, am_up_ne _ _ _ _ hx, am_up_ne _ _ _ _ hx, am_up_ne _ _ _ _ hx]) (by rw [eN]; exact v') ?_ (by rw [eN]; exact ee 1 (by omega) (by omega)) (by rw [eN]; exact Or.inr (Or.inr (Or.inr (Or.inl ⟨rfl, by omega⟩)))) (by rw [eN]; exact Rl_row4 r1 hk (by omega) ee n3) (fun j hj => by rw [eN, ee j (by omega) (by omega)]; exact r11 j hj)
          · refine ⟨?_, ?_, ?_, ?_⟩
            · rw [eMa _ (by decide) (by decide)]; exact r3.1
            · rw [eMa _ (by decide) (by decide)]; exact r3.2.1
            · show Ma 15 0 = 6; rw [← hMa]; rw [am_up_nj _ _ _ _ (by decide), am_up_ne _ _ _ _ (by decide), am_up_ne _ _ _ _ (by decide), am_up_ne _ _ _ _ (by decide)]; exact k0
            · show Ma 15 1 = 3; rw [← hMa]; rw [am_up_nj _ _ _ _ (by decide), am_up_ne _ _ _ _ (by decide), am_up_ne _ _ _ _ (by decide), am_up_ne _ _ _ _ (by decide)]; exact k1
          · rw [eN]
            refine cT_row4 r1 r2 hk (by omega) ee n3 (fun x h1 h2 => eMa x (by omega) (by omega)) ?_ ?_ ?_
            · show Ma 15 3 = _; rw [← hMa, am_up_at]
            · intro i hi; show Ma 16 i = M 16 i; rw [← hMa, am_up_ne _ _ _ _ (by decide), am_up_nj _ _ _ _ (by omega), am_up_nj _ _ _ _ (by omega), am_up_nj _ _ _ _ (by omega)]
            · intro j hj; show Ma 16 (3 * k + j) = _
              rw [← hMa, am_up_ne _ _ _ _ (by decide)]
              rcases (by omega : j = 0 ∨ j = 1 ∨ j = 2) with rfl | rfl | rfl
              · rw [am_up_nj _ _ _ _ (by omega), am_up_nj _ _ _ _ (by omega)]; exact (am_up_at _ _ _ _).trans n0.symm
              · rw [am_up_nj _ _ _ _ (by omega), am_up_at, n1]
              · rw [am_up_at, n2]
    · refine ⟨-3, M, _, ?_, ?_, hR2⟩
      · rw [e_Desk_shut, p_isNoWeek, am_cb_s, if_pos hw, if_pos rfl]
        simp only [e_Desk_shut_14]
        split
        · rfl
        · split
          · split
            · split
              · rfl
              · omega
            · rfl
          · rfl
      · rw [e_Model_shut, p_isWeek, am_cb_s, if_pos hw, if_neg (by decide), p_isIn, am_cb_s]
        by_cases q : 0 ≤ b ∧ b ≤ 10079
        · rw [if_pos q, if_neg (by decide), r_ck_ok (by omega) (by omega), p_isIn, am_cb_s, if_neg (show ¬ (b + 1 ≤ c ∧ c ≤ 10080) by omega), if_pos rfl]
        · rw [if_neg q, if_pos rfl]
  · refine ⟨-3, M, _, ?_, ?_, hR2⟩
    · rw [e_Desk_shut, p_isNoWeek, am_cb_s, if_neg hw, if_neg (by decide), e_Desk_shut_14]
    · rw [e_Model_shut, p_isWeek, am_cb_s, if_neg hw, if_pos rfl]
