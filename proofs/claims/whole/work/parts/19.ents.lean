theorem bk6 (s : Nat → Int) (x y : Int) (h9 : 0 ≤ s 9) (h10 : 0 ≤ s 10 ∧ s 10 ≤ 7) : bk 6 0 (100 * s 9 + s 10) (us (us s 9 x) 10 y) = s := by
  have e1 : Int.tdiv (100 * s 9 + s 10) 100 = s 9 := by rw [Int.tdiv_eq_ediv_of_nonneg (by omega)]; omega
  have e2 : Int.tmod (100 * s 9 + s 10) 100 = s 10 := by rw [Int.tmod_eq_emod_of_nonneg (by omega)]; omega
  funext j
  show (if (6 : Int) = 0 then _ else _) = _
  rw [if_neg (by decide), if_neg (by decide), if_neg (by decide), if_neg (by decide), if_neg (by decide), if_neg (by decide), if_pos rfl, e1, e2]
  by_cases h : j = 9
  · rw [if_pos h, h]
  · rw [if_neg h]
    by_cases h' : j = 10
    · rw [if_pos h', h']
    · rw [if_neg h', us_ne _ _ _ h', us_ne _ _ _ h]
theorem o9 : lw_O9 RI := by
  intro a b ha hb M hR hM
  have hR2 : RI (am_up M 72 6 0) := RI_mf (mf_up (mf.rf M) (by omega)) hR
  obtain ⟨r1, r2, r3, r4, r5, r6, r7, r8, r9, r10, r11⟩ := id hR
  by_cases h : (1 ≤ a ∧ a ≤ 52) ∧ (0 ≤ b ∧ b ≤ 7)
  · have e4 : M 10 4 = M 73 9 := r2.2.2.2.2.2.1 4 (by omega)
    have e5 : M 10 5 = M 73 10 := r2.2.2.2.2.2.1 5 (by omega)
    have hs := r1.2.2.2.2.2.1
    have eMa : ∀ c, c ≠ 10 → (am_up (am_up M 10 4 a) 10 5 b) c = M c := fun c hc => by rw [am_up_ne _ 10 5 b hc, am_up_ne M 10 4 a hc]
    obtain ⟨M1, g1, g2⟩ := p_keep (am_up (am_up M 10 4 a) 10 5 b) 6 0 (100 * M 73 9 + M 73 10) (by rw [eMa 36 (by decide)]; exact r8.2.1.1) (by rw [eMa 36 (by decide)]; exact r8.2.1.2)
    have e725 : (am_up M1 72 6 0) 72 5 = M 72 5 := by rw [am_up_nj M1 72 6 0 (by decide), g2.1 72 (by decide) (by decide) (by decide) (by decide), eMa 72 (by decide)]
    have e73 : (am_up M1 72 6 0) 73 = M 73 := by rw [am_up_ne M1 72 6 0 (by decide), g2.1 73 (by decide) (by decide) (by decide) (by decide), eMa 73 (by decide)]
    have ha' := r8.2.1
    rw [r8.1] at ha'
    obtain ⟨M3, g3, g4⟩ := p_becomes (am_up M1 72 6 0) 9 a (by rw [e725]; exact ha'.1) (by rw [e725]; exact ha'.2) (by omega)
    rw [show (9 : Int).toNat = 9 from rfl, e73] at g3
    have e3 : M3 73 = M 73 := by rw [g4.1 73 (by decide) (by decide), e73]
    have eN : (am_up (am_up M3 73 9 a) 73 10 b) 73 = us (us (M 73) 9 a) 10 b := by rw [up_us, up_us, e3]
    refine ⟨100 * M 73 9 + M 73 10, M1, am_up (am_up M3 73 9 a) 73 10 b, ?_, ?_, ?_⟩
    · rw [e_Desk_turn, if_neg (by omega), if_neg (by omega), if_neg (by omega), if_neg (by omega), e4, e5, r_ck_ok (by omega) (by omega), r_ck_ok (by omega) (by omega), g1, am_cb_s]
    · rw [e_Model_turn, p_isIn, am_cb_s, if_pos h.1, if_neg (by decide), p_isIn, am_cb_s, if_pos h.2, if_neg (by decide), g3, am_cb_s, e73, r_ck_ok (by omega) (by omega), r_ck_ok (by omega) (by omega)]
    · refine act_g (kd := 6) (tg := 0) (bf := 100 * M 73 9 + M 73 10) hR (fun c hc => eMa c (by omega)) ?_ g2 g4 (fun c hc => by rw [am_up_ne _ 73 10 b hc, am_up_ne _ 73 9 a hc]) ?_ ?_ ?_ ?_ ?_ ?_
      · exact kT_of (eMa _ (by decide)) (eMa _ (by decide)) (eMa _ (by decide)) r3
      · rw [eN]
        exact vT_set (vT_set r1 (by omega) ⟨fun q => by omega, fun q => by omega, fun q => by omega, fun q => by omega, fun _ => h.1, fun q => by omega, fun q => by omega⟩) (by omega) ⟨fun q => by omega, fun q => by omega, fun q => by omega, fun q => by omega, fun q => by omega, fun _ => h.2, fun q => by omega⟩
      · rw [eN]; exact cT_set (i := 5) (cT_set (i := 4) r2 (by omega)) (by omega)
      · rw [eN, us_ne _ _ _ (by decide), us_ne _ _ _ (by decide)]
      · rw [eN]; exact Or.inr (Or.inr (Or.inr (Or.inr (Or.inr (Or.inr (Or.inl ⟨rfl, by omega⟩))))))
      · rw [eN, bk6 _ _ _ (by omega) hs.2.2.2.2.2.1]; exact Rl.rf _
      · intro j hj; rw [eN, us_ne _ _ _ (by omega), us_ne _ _ _ (by omega)]; exact r11 j hj
  · refine ⟨-3, M, am_up M 72 6 0, ?_, ?_, hR2⟩
    · rw [e_Desk_turn]
      by_cases q1 : a < 1
      · rw [if_pos q1, e_Desk_turn_11]
      · by_cases q2 : 52 < a
        · rw [if_neg q1, if_pos q2, e_Desk_turn_11]
        · by_cases q3 : b < 0
          · rw [if_neg q1, if_neg q2, if_pos q3, e_Desk_turn_11]
          · rw [if_neg q1, if_neg q2, if_neg q3, if_pos (by omega), e_Desk_turn_11]
    · rw [e_Model_turn, p_isIn, am_cb_s]
      by_cases q : 1 ≤ a ∧ a ≤ 52
      · rw [if_pos q, if_neg (by decide), p_isIn, am_cb_s, if_neg (show ¬ (0 ≤ b ∧ b ≤ 7) by omega), if_pos rfl]
      · rw [if_neg q, if_pos rfl]
-- entries of reaches and fields
theorem vT_soak {s : Nat → Int} (h : vT s) {r0 : Nat} (h0 : (r0 : Int) < s 0) : vT (us s (14 + 3 * r0) 0) := by
  obtain ⟨h0', h1, h2, h3, h4, hset, hr, hf, ho, hs, hl, hh⟩ := h
  have e : ∀ i, i < 12 ∨ 42 ≤ i → us s (14 + 3 * r0) 0 i = s i := fun i hi => us_ne _ _ _ (by omega)
  refine ⟨by rw [e 0 (by omega)]; exact h0', by rw [e 1 (by omega)]; exact h1, by rw [e 2 (by omega)]; exact h2, by rw [e 3 (by omega)]; exact h3, by rw [e 4 (by omega)]; exact h4, by rw [e 5 (by omega), e 6 (by omega), e 7 (by omega), e 8 (by omega), e 9 (by omega), e 10 (by omega), e 11 (by omega)]; exact hset, ?_, ?_, ?_, ?_, ?_, ?_⟩
  · intro r hr'; rw [e 0 (by omega)] at hr'
    obtain ⟨q1, q2, q3⟩ := hr r hr'
    rw [us_ne _ _ _ (show 12 + 3 * r ≠ 14 + 3 * r0 by omega), us_ne _ _ _ (show 13 + 3 * r ≠ 14 + 3 * r0 by omega)]
    refine ⟨q1, q2, ?_⟩
    by_cases er : r = r0
    · subst er; rw [us_at]; omega
    · rw [us_ne _ _ _ (by omega)]; exact q3
  · intro r hr'; rw [e 1 (by omega)] at hr'; rw [e (42 + 4 * r) (by omega), e 0 (by omega), e (43 + 4 * r) (by omega), e (44 + 4 * r) (by omega), e (45 + 4 * r) (by omega)]; exact hf r hr'
  · rw [e 1 (by omega)]
    exact ⟨fun p hp => by rw [e _ (by omega)]; exact ho.1 p hp, fun p q hp hq h => by rw [e _ (by omega), e _ (by omega)] at h; exact ho.2 p q hp hq h⟩
  · rw [e 1 (by omega), e 2 (by omega)]
    intro k hk; rw [e _ (by omega), e _ (by omega), e _ (by omega)]; exact hs k hk
  · rw [e 1 (by omega), e 3 (by omega)]
    intro k hk; rw [e _ (by omega), e _ (by omega), e _ (by omega), e _ (by omega)]; exact hl k hk
  · rw [e 4 (by omega)]
    intro k hk; rw [e _ (by omega), e _ (by omega), e _ (by omega)]; exact hh k hk
theorem vT_land {s : Nat → Int} (h : vT s) {f0 : Nat} {v : Int} (h0 : (f0 : Int) < s 1) (hv : 1 ≤ v ∧ v ≤ 999) : vT (us s (43 + 4 * f0) v) := by
  obtain ⟨h0', h1, h2, h3, h4, hset, hr, hf, ho, hs, hl, hh⟩ := h
  have e : ∀ i, i < 42 ∨ 74 ≤ i → us s (43 + 4 * f0) v i = s i := fun i hi => us_ne _ _ _ (by omega)
  refine ⟨by rw [e 0 (by omega)]; exact h0', by rw [e 1 (by omega)]; exact h1, by rw [e 2 (by omega)]; exact h2, by rw [e 3 (by omega)]; exact h3, by rw [e 4 (by omega)]; exact h4, by rw [e 5 (by omega), e 6 (by omega), e 7 (by omega), e 8 (by omega), e 9 (by omega), e 10 (by omega), e 11 (by omega)]; exact hset, ?_, ?_, ?_, ?_, ?_, ?_⟩
  · intro r hr'; rw [e 0 (by omega)] at hr'; rw [e (12 + 3 * r) (by omega), e (13 + 3 * r) (by omega), e (14 + 3 * r) (by omega)]; exact hr r hr'
  · intro r hr'; rw [e 1 (by omega)] at hr'
    obtain ⟨q1, q2, q3, q4⟩ := hf r hr'
    rw [us_ne _ _ _ (show 42 + 4 * r ≠ 43 + 4 * f0 by omega), us_ne _ _ _ (show 44 + 4 * r ≠ 43 + 4 * f0 by omega), us_ne _ _ _ (show 45 + 4 * r ≠ 43 + 4 * f0 by omega), e 0 (by omega)]
    refine ⟨q1, ?_, q3, q4⟩
    by_cases er : r = f0
    · subst er; rw [us_at]; exact hv
    · rw [us_ne _ _ _ (by omega)]; exact q2
  · rw [e 1 (by omega)]
    exact ⟨fun p hp => by rw [e _ (by omega)]; exact ho.1 p hp, fun p q hp hq h => by rw [e _ (by omega), e _ (by omega)] at h; exact ho.2 p q hp hq h⟩
  · rw [e 1 (by omega), e 2 (by omega)]
    intro k hk; rw [e _ (by omega), e _ (by omega), e _ (by omega)]; exact hs k hk
  · rw [e 1 (by omega), e 3 (by omega)]
    intro k hk; rw [e _ (by omega), e _ (by omega), e _ (by omega), e _ (by omega)]; exact hl k hk
  · rw [e 4 (by omega)]
    intro k hk; rw [e _ (by omega), e _ (by omega), e _ (by omega)]; exact hh k hk
theorem cT_soak {s : Nat → Int} {M : am_M} (h : cT s M 0) (hv : vT s) {r0 : Nat} (h0 : (r0 : Int) < s 0) : cT (us s (14 + 3 * r0) 0) (am_up M 3 r0 0) 0 := by
  have hb := hv.1
  have e : ∀ k, k < 12 ∨ 42 ≤ k → us s (14 + 3 * r0) 0 k = s k := fun k hk => us_ne _ _ _ (by omega)
  have eM : ∀ a, a ≠ 3 → am_up M 3 r0 0 a = M a := fun a ha => am_up_ne M 3 r0 0 ha
  obtain ⟨c0, c1, c2, c3, c4, hset, hz, hr, hf, ho, hs, hl, hh⟩ := h
  simp only [Nat.zero_add] at *
  refine ⟨?_, ?_, ?_, ?_, ?_, ?_, ?_, ?_, ?_, ?_, ?_, ?_, ?_⟩
  · rw [eM 0 (by decide), e 0 (by omega)]; exact c0
  · rw [eM 0 (by decide), e 1 (by omega)]; exact c1
  · rw [eM _ (by decide), e 2 (by omega)]; exact c2
  · rw [eM _ (by decide), e 3 (by omega)]; exact c3
  · rw [eM _ (by decide), e 4 (by omega)]; exact c4
  · intro k hk; rw [eM _ (by decide), e _ (by omega)]; exact hset k hk
  · rw [eM _ (by decide), eM _ (by decide)]; exact hz
  · intro r hr'; rw [e 0 (by omega)] at hr'
    obtain ⟨q1, q2, q3⟩ := hr r hr'
    rw [eM (0 + 1) (by decide), eM (0 + 2) (by decide), us_ne _ _ _ (show 12 + 3 * r ≠ 14 + 3 * r0 by omega), us_ne _ _ _ (show 13 + 3 * r ≠ 14 + 3 * r0 by omega)]
    refine ⟨q1, q2, ?_⟩
    by_cases er : r = r0
    · subst er; show am_up M 3 r 0 3 r = _; rw [am_up_at, us_at]
    · show am_up M 3 r0 0 3 r = _; rw [am_up_nj M 3 r0 0 er, us_ne _ _ _ (by omega)]; exact q3
  · intro r hr'; rw [e 1 (by omega)] at hr'; rw [eM _ (by decide), eM _ (by decide), eM _ (by decide), eM _ (by decide), e _ (by omega), e _ (by omega), e _ (by omega), e _ (by omega)]; exact hf r hr'
  · intro r hr'; rw [e 1 (by omega)] at hr'; rw [eM _ (by decide), e _ (by omega)]; exact ho r hr'
  · intro k hk j hj; rw [e 2 (by omega)] at hk; rw [eM _ (by decide), e _ (by omega)]; exact hs k hk j hj
  · intro k hk j hj; rw [e 3 (by omega)] at hk; rw [eM _ (by decide), e _ (by omega)]; exact hl k hk j hj
  · intro k hk j hj; rw [e 4 (by omega)] at hk; rw [eM _ (by decide), e _ (by omega)]; exact hh k hk j hj
theorem cT_land {s : Nat → Int} {M : am_M} (h : cT s M 0) (hv : vT s) {f0 : Nat} {v : Int} (h0 : (f0 : Int) < s 1) : cT (us s (43 + 4 * f0) v) (am_up M 6 f0 v) 0 := by
  have hb := hv.2.1
  have e : ∀ k, k < 42 ∨ 74 ≤ k → us s (43 + 4 * f0) v k = s k := fun k hk => us_ne _ _ _ (by omega)
  have eM : ∀ a, a ≠ 6 → am_up M 6 f0 v a = M a := fun a ha => am_up_ne M 6 f0 v ha
  have hr0 := hv.1
  obtain ⟨c0, c1, c2, c3, c4, hset, hz, hr, hf, ho, hs, hl, hh⟩ := h
  simp only [Nat.zero_add] at *
  refine ⟨?_, ?_, ?_, ?_, ?_, ?_, ?_, ?_, ?_, ?_, ?_, ?_, ?_⟩
  · rw [eM 0 (by decide), e 0 (by omega)]; exact c0
  · rw [eM 0 (by decide), e 1 (by omega)]; exact c1
  · rw [eM _ (by decide), e 2 (by omega)]; exact c2
  · rw [eM _ (by decide), e 3 (by omega)]; exact c3
  · rw [eM _ (by decide), e 4 (by omega)]; exact c4
  · intro k hk; rw [eM _ (by decide), e _ (by omega)]; exact hset k hk
  · rw [eM _ (by decide), eM _ (by decide)]; exact hz
  · intro r hr'; rw [e 0 (by omega)] at hr'; rw [eM _ (by decide), eM _ (by decide), eM _ (by decide), e _ (by omega), e _ (by omega), e _ (by omega)]; exact hr r hr'
  · intro r hr'; rw [e 1 (by omega)] at hr'
    obtain ⟨q1, q2, q3, q4⟩ := hf r hr'
    rw [eM (0 + 5) (by decide), eM (0 + 7) (by decide), eM (0 + 8) (by decide), us_ne _ _ _ (show 42 + 4 * r ≠ 43 + 4 * f0 by omega), us_ne _ _ _ (show 44 + 4 * r ≠ 43 + 4 * f0 by omega), us_ne _ _ _ (show 45 + 4 * r ≠ 43 + 4 * f0 by omega)]
    refine ⟨q1, ?_, q3, q4⟩
    by_cases er : r = f0
    · subst er; show am_up M 6 r v 6 r = _; rw [am_up_at, us_at]
    · show am_up M 6 f0 v 6 r = _; rw [am_up_nj M 6 f0 v er, us_ne _ _ _ (by omega)]; exact q2
  · intro r hr'; rw [e 1 (by omega)] at hr'; rw [eM _ (by decide), e _ (by omega)]; exact ho r hr'
  · intro k hk j hj; rw [e 2 (by omega)] at hk; rw [eM _ (by decide), e _ (by omega)]; exact hs k hk j hj
  · intro k hk j hj; rw [e 3 (by omega)] at hk; rw [eM _ (by decide), e _ (by omega)]; exact hl k hk j hj
  · intro k hk j hj; rw [e 4 (by omega)] at hk; rw [eM _ (by decide), e _ (by omega)]; exact hh k hk j hj
theorem bk4 (s : Nat → Int) (i : Nat) (v : Int) : bk 4 (i : Int) (s (14 + 3 * i)) (us s (14 + 3 * i) v) = s := by
  funext j
  show (if (4 : Int) = 0 then _ else _) = _
  rw [if_neg (by decide), if_neg (by decide), if_neg (by decide), if_neg (by decide), if_pos rfl, Int.toNat_natCast]
  by_cases h : j = 14 + 3 * i
  · rw [if_pos h, h]
  · rw [if_neg h, us_ne _ _ _ h]
theorem bk7 (s : Nat → Int) (i : Nat) (v : Int) : bk 7 (i : Int) (s (43 + 4 * i)) (us s (43 + 4 * i) v) = s := by
  funext j
  show (if (7 : Int) = 0 then _ else _) = _
  rw [if_neg (by decide), if_neg (by decide), if_neg (by decide), if_neg (by decide), if_neg (by decide), if_neg (by decide), if_neg (by decide), Int.toNat_natCast]
  by_cases h : j = 43 + 4 * i
  · rw [if_pos h, h]
  · rw [if_neg h, us_ne _ _ _ h]
/-- an entry of the reference's row that the class holds at (ca, i), changed on both sides -/
theorem act_ent {M : am_M} (hR : RI M) {ca i j : Nat} {v kd : Int} (hca : ca ≠ 4 ∧ ca < 11) (hj : 12 ≤ j ∧ j < 184) (e1 : M ca i = M 73 j) (hv : vT (us (M 73) j v)) (hc : cT (us (M 73) j v) (am_up M ca i v) 0) (hok : acOk kd (i : Int) (M 73 j) (us (M 73) j v)) (hb : bk kd (i : Int) (M 73 j) (us (M 73) j v) = M 73) : ∃ M1 M3, cY 171 [rV 36, iV kd, iV (i : Int), iV (M ca i)] (am_up M ca i v) = some (0, M1) ∧ (am_up M1 72 6 0) 73 = M 73 ∧ cY 89 [rV 72, iV (j : Int), iV v] (am_up M1 72 6 0) = some (M ca i, am_up M3 73 j v) ∧ RI (am_up M3 73 j v) := by
  obtain ⟨r1, r2, r3, r4, r5, r6, r7, r8, r9, r10, r11⟩ := id hR
  have eMa : ∀ c, c ≠ ca → am_up M ca i v c = M c := fun c hc => am_up_ne M ca i v hc
  obtain ⟨M1, g1, g2⟩ := p_keep (am_up M ca i v) kd (i : Int) (M ca i) (by rw [eMa 36 (by omega)]; exact r8.2.1.1) (by rw [eMa 36 (by omega)]; exact r8.2.1.2)
  have e725 : (am_up M1 72 6 0) 72 5 = M 72 5 := by rw [am_up_nj M1 72 6 0 (by decide), g2.1 72 (by decide) (by decide) (by decide) (by decide), eMa 72 (by omega)]
  have e73 : (am_up M1 72 6 0) 73 = M 73 := by rw [am_up_ne M1 72 6 0 (by decide), g2.1 73 (by decide) (by decide) (by decide) (by decide), eMa 73 (by omega)]
  have ha := r8.2.1
  rw [r8.1] at ha
  obtain ⟨M3, g3, g4⟩ := p_becomes (am_up M1 72 6 0) (j : Int) v (by rw [e725]; exact ha.1) (by rw [e725]; exact ha.2) (by omega)
  rw [Int.toNat_natCast, e73, ← e1] at g3
  have e3 : M3 73 = M 73 := by rw [g4.1 73 (by decide) (by decide), e73]
  have eN : am_up M3 73 j v 73 = us (M 73) j v := by rw [up_us, e3]
  refine ⟨M1, M3, g1, e73, g3, ?_⟩
  rw [e1] at g2
  refine act_g hR (fun a ha => eMa a (by omega)) (kT_of (eMa _ (by omega)) (eMa _ (by omega)) (eMa _ (by omega)) r3) g2 g4 (fun a ha => am_up_ne M3 73 _ _ ha) ?_ ?_ ?_ ?_ ?_ ?_
  · rw [eN]; exact hv
  · rw [eN]; exact hc
  · rw [eN, us_ne _ _ _ (by omega)]
  · rw [eN]; exact hok
  · rw [eN, hb]; exact Rl.rf _
  · intro k hk; rw [eN, us_ne _ _ _ (by omega)]; exact r11 k hk
theorem o7 : lw_O7 RI := by
  intro a ha M hR hM
  have hR2 : RI (am_up M 72 6 0) := RI_mf (mf_up (mf.rf M) (by omega)) hR
  obtain ⟨r1, r2, -⟩ := id hR
  have hb := r1.1
  have e0 : M 0 0 = M 73 0 := r2.1
  by_cases h : 0 ≤ a ∧ a < M 73 0
  · obtain ⟨i, rfl⟩ : ∃ i : Nat, a = (i : Int) := ⟨a.toNat, by omega⟩
    have e1 : M 3 i = M 73 (14 + 3 * i) := (r2.2.2.2.2.2.2.2.1 i h.2).2.2
    obtain ⟨M1, M3, g1, g2, g3, g4⟩ := act_ent (kd := 4) hR (ca := 3) (i := i) (j := 14 + 3 * i) (v := 0) (by decide) (by omega) e1 (vT_soak r1 h.2) (cT_soak r2 r1 h.2) (Or.inr (Or.inr (Or.inr (Or.inr (Or.inl ⟨rfl, by omega, by rw [us_ne _ _ _ (by omega)]; exact h.2⟩))))) (bk4 _ _ _)
    refine ⟨M 3 i, M1, _, ?_, ?_, g4⟩
    · rw [e_Desk_line, p_lacksReach, am_cb_s, e0, if_pos h, if_pos rfl, r_bd_ok (by omega) (by omega), r_bd_ok (by omega) (by omega), Int.toNat_natCast, g1, am_cb_s]
    · rw [e_Model_line, p_isReach _ _ (by rw [g2]; omega), am_cb_s, g2, if_pos h, if_neg (by decide), r_ck_ok (by omega) (by omega), r_ck_ok (by omega) (by omega), r_ck_ok (by omega) (by omega), show (12 + 3 * (i : Int) + 2) = ((14 + 3 * i : Nat) : Int) by omega, g3, am_cb_s]
  · refine ⟨-2, M, am_up M 72 6 0, ?_, ?_, hR2⟩
    · rw [e_Desk_line, p_lacksReach, am_cb_s, e0, if_neg h, if_neg (by decide)]
    · have e73 : (am_up M 72 6 0) 73 = M 73 := am_up_ne M 72 6 0 (by decide)
      rw [e_Model_line, p_isReach _ _ (by rw [e73]; omega), am_cb_s, e73, if_neg h, if_pos rfl]
theorem o11 : lw_O11 RI := by
  intro a b ha hb M hR hM
  have hR2 : RI (am_up M 72 6 0) := RI_mf (mf_up (mf.rf M) (by omega)) hR
  obtain ⟨r1, r2, -⟩ := id hR
  have hb1 := r1.2.1
  have e0 : M 0 4 = M 73 1 := r2.2.1
  have e73 : (am_up M 72 6 0) 73 = M 73 := am_up_ne M 72 6 0 (by decide)
  by_cases h : 0 ≤ a ∧ a < M 73 1
  · obtain ⟨i, rfl⟩ : ∃ i : Nat, a = (i : Int) := ⟨a.toNat, by omega⟩
    by_cases hv : 1 ≤ b ∧ b ≤ 999
    · have e1 : M 6 i = M 73 (43 + 4 * i) := (r2.2.2.2.2.2.2.2.2.1 i h.2).2.1
      obtain ⟨M1, M3, g1, g2, g3, g4⟩ := act_ent (kd := 7) hR (ca := 6) (i := i) (j := 43 + 4 * i) (v := b) (by decide) (by omega) e1 (vT_land r1 h.2 hv) (cT_land r2 r1 h.2) (Or.inr (Or.inr (Or.inr (Or.inr (Or.inr (Or.inr (Or.inr ⟨rfl, by omega, by rw [us_ne _ _ _ (by omega)]; exact h.2⟩))))))) (bk7 _ _ _)
      refine ⟨M 6 i, M1, _, ?_, ?_, g4⟩
      · rw [e_Desk_land, p_lacksField, am_cb_s, e0, if_pos h, if_pos rfl, if_neg (by omega), if_neg (by omega), r_bd_ok (by omega) (by omega), r_bd_ok (by omega) (by omega), Int.toNat_natCast, g1, am_cb_s]
      · rw [e_Model_land, p_isField _ _ (by rw [g2]; omega), am_cb_s, g2, if_pos h, if_neg (by decide), p_isIn, am_cb_s, if_pos hv, if_neg (by decide), r_ck_ok (by omega) (by omega), r_ck_ok (by omega) (by omega), r_ck_ok (by omega) (by omega), show (42 + 4 * (i : Int) + 1) = ((43 + 4 * i : Nat) : Int) by omega, g3, am_cb_s]
    · refine ⟨-3, M, am_up M 72 6 0, ?_, ?_, hR2⟩
      · rw [e_Desk_land, p_lacksField, am_cb_s, e0, if_pos h, if_pos rfl]
        by_cases q : b < 1
        · rw [if_pos q]
        · rw [if_neg q, if_pos (by omega)]
      · rw [e_Model_land, p_isField _ _ (by rw [e73]; omega), am_cb_s, e73, if_pos h, if_neg (by decide), p_isIn, am_cb_s, if_neg hv, if_pos rfl]
  · refine ⟨-2, M, am_up M 72 6 0, ?_, ?_, hR2⟩
    · rw [e_Desk_land, p_lacksField, am_cb_s, e0, if_neg h, if_neg (by decide)]
    · rw [e_Model_land, p_isField _ _ (by rw [e73]; omega), am_cb_s, e73, if_neg h, if_pos rfl]
