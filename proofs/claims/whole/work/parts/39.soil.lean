-- soils
def sol (s : Nat → Int) (n f : Nat) : Nat → Int
  | 0 => s (44 + 4 * f)
  | w + 1 => max (slb s n w f (sol s n f w)) 0
def drM (s : Nat → Int) (n f : Nat) : Nat → Int
  | 0 => 0
  | w + 1 => if slb s n w f (sol s n f w) < 0 then drM s n f w + 1 else drM s n f w
def drF (s : Nat → Int) (n f : Nat) : Nat → Int
  | 0 => -1
  | w + 1 => if slb s n w f (sol s n f w) < 0 then (if drF s n f w = -1 then (w : Int) else drF s n f w) else drF s n f w
theorem sol_bd {s : Nat → Int} (hv : vT s) {n : Nat} (hn : s 1 = (n : Int)) {f : Nat} (hf : f < n) : ∀ w, 0 ≤ sol s n f w ∧ sol s n f w ≤ 9999 := by
  obtain ⟨v1, v2, v3, v4⟩ := hv.2.2.2.2.2.2.2.1 f (by omega)
  intro w
  induction w with
  | zero => exact v3
  | succ w ih =>
    show 0 ≤ max (slb s n w f (sol s n f w)) 0 ∧ max (slb s n w f (sol s n f w)) 0 ≤ 9999
    unfold slb
    omega
theorem drMF (s : Nat → Int) (n f : Nat) : ∀ w : Nat, (0 ≤ drM s n f w ∧ drM s n f w ≤ (w : Int)) ∧ (-1 ≤ drF s n f w ∧ drF s n f w < (w : Int)) ∧ (drM s n f w = 0 ↔ drF s n f w = -1) := by
  intro w
  induction w with
  | zero => exact ⟨⟨Int.le_refl 0, Int.le_refl 0⟩, ⟨Int.le_refl (-1), by show (-1 : Int) < 0; omega⟩, ⟨fun _ => rfl, fun _ => rfl⟩⟩
  | succ w ih =>
    show (0 ≤ (if slb s n w f (sol s n f w) < 0 then drM s n f w + 1 else drM s n f w) ∧ (if slb s n w f (sol s n f w) < 0 then drM s n f w + 1 else drM s n f w) ≤ ((w + 1 : Nat) : Int)) ∧ (-1 ≤ (if slb s n w f (sol s n f w) < 0 then (if drF s n f w = -1 then (w : Int) else drF s n f w) else drF s n f w) ∧ (if slb s n w f (sol s n f w) < 0 then (if drF s n f w = -1 then (w : Int) else drF s n f w) else drF s n f w) < ((w + 1 : Nat) : Int)) ∧ ((if slb s n w f (sol s n f w) < 0 then drM s n f w + 1 else drM s n f w) = 0 ↔ (if slb s n w f (sol s n f w) < 0 then (if drF s n f w = -1 then (w : Int) else drF s n f w) else drF s n f w) = -1)
    obtain ⟨i1, i2, i3⟩ := ih
    split
    · split
      · omega
      · omega
    · omega
theorem p_laysSoil (s : Nat → Int) (n f Wk : Nat) (hv : vT s) (hn : s 1 = (n : Int)) (hf : f < n) (hW : Wk ≤ 51) : ∀ (j w : Nat) (M : am_M) (d4 d5 : Option am_V), w + j = Wk + 1 → M 73 = s → (∀ i, i < 8 → M 88 i = -1) → M 72 27 = sol s n f w → M 72 28 = drM s n f w → M 72 29 = drF s n f w → ∃ M', cX 132 14 [some (rV 72), some (iV (Wk : Int)), some (iV (f : Int)), some (iV (w : Int)), d4, d5] [] M = some (0, M') ∧ mf M M' ∧ M' 72 27 = sol s n f (Wk + 1) ∧ M' 72 28 = drM s n f (Wk + 1) ∧ M' 72 29 = drF s n f (Wk + 1) := by
  have hb1 := hv.2.1
  obtain ⟨v1, v2, v3, v4⟩ := hv.2.2.2.2.2.2.2.1 f (by omega)
  intro j
  induction j with
  | zero =>
    intro w M d4 d5 hw hs h88 h27 h28 h29
    have e : w = Wk + 1 := by omega
    subst e
    exact ⟨M, by rw [e_Model_laysSoil_14, if_pos (by omega)], mf.rf M, h27, h28, h29⟩
  | succ j ih =>
    intro w M d4 d5 hw hs h88 h27 h28 h29
    obtain ⟨M2, a1, a2, a3⟩ := p_lays0 M n w (by rw [hs]; exact hv) (by rw [hs]; exact hn) (by omega) h88
    rw [hs] at a3
    have s2 : M2 73 = s := by rw [a2.1 73 (by omega), hs]
    have hP := isP_rst hv hn w
    have hd := p_mdepthOf a3 hf
    rw [s2] at hd
    have bd := dpt_bd hv hn hP w hf
    have bs := sol_bd hv hn hf w
    obtain ⟨dm1, dm2, dm3⟩ := drMF s n f w
    have g27 : M2 72 27 = sol s n f w := by rw [a2.2 27 (by decide) (by decide) (by decide), h27]
    have g28 : M2 72 28 = drM s n f w := by rw [a2.2 28 (by decide) (by decide) (by decide), h28]
    have g29 : M2 72 29 = drF s n f w := by rw [a2.2 29 (by decide) (by decide) (by decide), h29]
    have o2 := p_of2 M2 f (by omega)
    have o3 := p_of3 M2 f (by omega)
    rw [s2] at o2 o3
    have es : sol s n f (w + 1) = max (slb s n w f (sol s n f w)) 0 := rfl
    have eM : drM s n f (w + 1) = if slb s n w f (sol s n f w) < 0 then drM s n f w + 1 else drM s n f w := rfl
    have eF : drF s n f (w + 1) = if slb s n w f (sol s n f w) < 0 then (if drF s n f w = -1 then (w : Int) else drF s n f w) else drF s n f w := rfl
    have ev : slb s n w f (sol s n f w) = min (sol s n f w + dpt s (rst s w) n w f) (s (44 + 4 * f)) - s (45 + 4 * f) := rfl
    generalize slb s n w f (sol s n f w) = v at es eM eF ev
    have hh := e_Model_laysSoil_14 (Wk : Int) (f : Int) (w : Int) d4 d5 M
    rw [if_neg (by omega), a1, am_cb_s, hd, am_cb_s, g27, r_cl_ok (by omega) (by omega), o2, am_cb_s] at hh
    have fin : ∀ (d : Option am_V) (M3 : am_M), cX 132 14 [some (rV 72), some (iV (Wk : Int)), some (iV (f : Int)), some (iV (w : Int)), d4, d5] [] M = cX 132 14 [some (rV 72), some (iV (Wk : Int)), some (iV (f : Int)), some (iV ((w : Int) + 1)), d, none] [] M3 → mf M2 M3 → M3 72 27 = sol s n f (w + 1) → M3 72 28 = drM s n f (w + 1) → M3 72 29 = drF s n f (w + 1) → ∃ M', cX 132 14 [some (rV 72), some (iV (Wk : Int)), some (iV (f : Int)), some (iV (w : Int)), d4, d5] [] M = some (0, M') ∧ mf M M' ∧ M' 72 27 = sol s n f (Wk + 1) ∧ M' 72 28 = drM s n f (Wk + 1) ∧ M' 72 29 = drF s n f (Wk + 1) := by
      intro d M3 x0 x1 x2 x3 x4
      obtain ⟨M', y1, y2, y3⟩ := ih (w + 1) M3 d none (by omega) (by rw [x1.1 73 (by decide) (by omega), s2]) (fun i hi => by rw [x1.1 88 (by decide) (by omega), a2.1 88 (by omega)]; exact h88 i hi) x2 x3 x4
      exact ⟨M', x0.trans y1, (a2.mf.tr x1).tr y2, y3⟩
    have finN : ∀ (d : Option am_V), v < 0 → (cX 132 14 [some (rV 72), some (iV (Wk : Int)), some (iV (f : Int)), some (iV (w : Int)), d4, d5] [] M = cX 132 14 [some (rV 72), some (iV (Wk : Int)), some (iV (f : Int)), some (iV ((w : Int) + 1)), d, none] [] (am_up (am_up (am_up M2 72 27 0) 72 29 (if drM s n f w = 0 then (w : Int) else drF s n f w)) 72 28 (drM s n f w + 1))) → ∃ M', cX 132 14 [some (rV 72), some (iV (Wk : Int)), some (iV (f : Int)), some (iV (w : Int)), d4, d5] [] M = some (0, M') ∧ mf M M' ∧ M' 72 27 = sol s n f (Wk + 1) ∧ M' 72 28 = drM s n f (Wk + 1) ∧ M' 72 29 = drF s n f (Wk + 1) := by
      intro d hv0 x0
      refine fin d _ x0 (mf_up (mf_up (mf_up (mf.rf M2) (by omega)) (by omega)) (by omega)) ?_ ?_ ?_
      · rw [am_up_nj _ _ _ _ (by decide), am_up_nj _ _ _ _ (by decide), am_up_at, es]; omega
      · rw [am_up_at, eM, if_pos hv0]
      · rw [am_up_nj _ _ _ _ (by decide), am_up_at, eF, if_pos hv0]
        by_cases c : drM s n f w = 0
        · rw [if_pos c, if_pos (dm3.mp c)]
        · rw [if_neg c, if_neg (fun h => c (dm3.mpr h))]
    have finP : ∀ (d : Option am_V), ¬ v < 0 → (cX 132 14 [some (rV 72), some (iV (Wk : Int)), some (iV (f : Int)), some (iV (w : Int)), d4, d5] [] M = cX 132 14 [some (rV 72), some (iV (Wk : Int)), some (iV (f : Int)), some (iV ((w : Int) + 1)), d, none] [] (am_up M2 72 27 v)) → ∃ M', cX 132 14 [some (rV 72), some (iV (Wk : Int)), some (iV (f : Int)), some (iV (w : Int)), d4, d5] [] M = some (0, M') ∧ mf M M' ∧ M' 72 27 = sol s n f (Wk + 1) ∧ M' 72 28 = drM s n f (Wk + 1) ∧ M' 72 29 = drF s n f (Wk + 1) := by
      intro d hv0 x0
      refine fin d _ x0 (mf_up (mf.rf M2) (by omega)) ?_ ?_ ?_
      · rw [am_up_at, es]; omega
      · rw [am_up_nj _ _ _ _ (by decide), g28, eM, if_neg hv0]
      · rw [am_up_nj _ _ _ _ (by decide), g29, eF, if_neg hv0]
    by_cases q1 : sol s n f w + dpt s (rst s w) n w f < s (44 + 4 * f)
    · rw [if_pos q1, o3, am_cb_s, r_cl_ok (by omega) (by omega), show sol s n f w + dpt s (rst s w) n w f - s (45 + 4 * f) = v by omega] at hh
      by_cases q3 : v < 0
      · rw [if_pos q3, if_pos q3, g28, g29] at hh
        refine finN (some (lV v)) q3 (hh.trans ?_)
        by_cases q4 : drM s n f w = 0
        · rw [if_pos q4, if_pos q4, r_ck_ok (by omega) (by omega), r_ck_ok (by omega) (by omega)]
        · rw [if_neg q4, if_neg q4, r_ck_ok (by omega) (by omega), r_ck_ok (by omega) (by omega)]
      · by_cases q4 : v = 0
        · rw [if_neg q3, if_pos q4, if_neg q3, if_pos q4, r_ck_ok (by omega) (by omega), b_l2i ⟨by omega, by omega⟩] at hh
          exact finP _ q3 hh
        · rw [if_neg q3, if_neg q4, if_neg q3, if_neg q4, r_ck_ok (by omega) (by omega), b_l2i ⟨by omega, by omega⟩] at hh
          exact finP _ q3 hh
    · by_cases q2 : sol s n f w + dpt s (rst s w) n w f = s (44 + 4 * f)
      · rw [if_neg q1, if_pos q2, o3, am_cb_s, r_cl_ok (by omega) (by omega), show sol s n f w + dpt s (rst s w) n w f - s (45 + 4 * f) = v by omega] at hh
        by_cases q3 : v < 0
        · rw [if_pos q3, if_pos q3, g28, g29] at hh
          refine finN (some (lV v)) q3 (hh.trans ?_)
          by_cases q4 : drM s n f w = 0
          · rw [if_pos q4, if_pos q4, r_ck_ok (by omega) (by omega), r_ck_ok (by omega) (by omega)]
          · rw [if_neg q4, if_neg q4, r_ck_ok (by omega) (by omega), r_ck_ok (by omega) (by omega)]
        · by_cases q4 : v = 0
          · rw [if_neg q3, if_pos q4, if_neg q3, if_pos q4, r_ck_ok (by omega) (by omega), b_l2i ⟨by omega, by omega⟩] at hh
            exact finP _ q3 hh
          · rw [if_neg q3, if_neg q4, if_neg q3, if_neg q4, r_ck_ok (by omega) (by omega), b_l2i ⟨by omega, by omega⟩] at hh
            exact finP _ q3 hh
      · rw [if_neg q1, if_neg q2, o2, am_cb_s, o3, am_cb_s, r_cl_ok (by omega) (by omega), show s (44 + 4 * f) - s (45 + 4 * f) = v by omega] at hh
        by_cases q3 : v < 0
        · rw [if_pos q3, if_pos q3, g28, g29] at hh
          refine finN (some (lV v)) q3 (hh.trans ?_)
          by_cases q4 : drM s n f w = 0
          · rw [if_pos q4, if_pos q4, r_ck_ok (by omega) (by omega), r_ck_ok (by omega) (by omega)]
          · rw [if_neg q4, if_neg q4, r_ck_ok (by omega) (by omega), r_ck_ok (by omega) (by omega)]
        · by_cases q4 : v = 0
          · rw [if_neg q3, if_pos q4, if_neg q3, if_pos q4, r_ck_ok (by omega) (by omega), b_l2i ⟨by omega, by omega⟩] at hh
            exact finP _ q3 hh
          · rw [if_neg q3, if_neg q4, if_neg q3, if_neg q4, r_ck_ok (by omega) (by omega), b_l2i ⟨by omega, by omega⟩] at hh
            exact finP _ q3 hh
/-- both have gone over the weeks of a soil -/
theorem both_soil {M : am_M} (hR : RI M) {n f Wk : Nat} (hn : M 73 1 = (n : Int)) (hf : f < n) (hW : Wk ≤ 51) : ∃ M1 M2 M3 r, cY 35 [rV 70] M = some (0, M1) ∧ M1 7 = M 7 ∧ cY 226 [rV 55, iV (Wk : Int)] M1 = some (0, M2) ∧ cQ (M 73) M2 ∧ CN (M 73) M2 ∧ SN (M 73) n r M2 ∧ Wk < r ∧ (∀ a, a < 40 ∨ 59 < a → M2 a = M a) ∧ cY 132 [rV 72, iV (Wk : Int), iV (f : Int)] (am_up M2 72 6 0) = some (0, M3) ∧ RI M3 ∧ M3 72 27 = sol (M 73) n f (Wk + 1) ∧ M3 72 28 = drM (M 73) n f (Wk + 1) ∧ M3 72 29 = drF (M 73) n f (Wk + 1) := by
  obtain ⟨r1, r2, r3, r4, r5, r6, r7, r8, r9, r10, r11⟩ := id hR
  have hb1 := r1.2.1
  obtain ⟨M1, a1, a2, a3, a4, a5⟩ := p_openSeason M (M 73) n r1 hn (by omega) r2 r3
  obtain ⟨M2, r, b1, b2, b3, b4, b5⟩ := p_reckonTo (M 73) n Wk r1 hn hW (Wk + 1) 0 M1 (by omega) a3 a4 a5
  have k2 : ∀ a, a < 40 ∨ 59 < a → M2 a = M a := fun a ha => by rw [b2 a (by omega), a2 a (by omega)]
  have hR1 : RI M2 := RI_cf (fun x hx => k2 x (by omega)) hR
  have hR3 : RI (am_up M2 72 6 0) := RI_mf (mf_up (mf.rf M2) (by omega)) hR1
  have e73 : (am_up M2 72 6 0) 73 = M 73 := by rw [am_up_ne _ _ _ _ (by decide), k2 73 (by omega)]
  have o2 := p_of2 (am_up M2 72 6 0) f (by omega)
  rw [e73] at o2
  have u : ∀ a, a ≠ 72 → (am_up (am_up (am_up (am_up M2 72 6 0) 72 27 (M 73 (44 + 4 * f))) 72 28 0) 72 29 (-1)) a = M2 a := fun a ha => by rw [am_up_ne _ _ _ _ ha, am_up_ne _ _ _ _ ha, am_up_ne _ _ _ _ ha, am_up_ne _ _ _ _ ha]
  obtain ⟨M3, c1, c2, c3, c4, c5⟩ := p_laysSoil (M 73) n f Wk r1 hn hf hW (Wk + 1) 0 (am_up (am_up (am_up (am_up M2 72 6 0) 72 27 (M 73 (44 + 4 * f))) 72 28 0) 72 29 (-1)) none none (by omega) (by rw [u 73 (by decide), k2 73 (by omega)]) (fun i hi => by rw [u 88 (by decide), k2 88 (by omega)]; exact r10 i hi) (by rw [am_up_nj _ _ _ _ (by decide), am_up_nj _ _ _ _ (by decide), am_up_at]; rfl) (by rw [am_up_nj _ _ _ _ (by decide), am_up_at]; rfl) (by rw [am_up_at]; rfl)
  refine ⟨M1, M2, M3, r, a1, a2 7 (by omega), by rw [e_Season_reckonTo]; exact b1, cQ_eq a3 (fun a ha => b2 a (by omega)), CN_eq a4 (b2 40 (by omega)) (b2 41 (by omega)) (b2 42 (by omega)), b3, b4, k2, ?_, ?_, c3, c4, c5⟩
  · rw [e_Model_laysSoil, o2, am_cb_s]
    exact c1
  · exact RI_mf ((mf_up (mf_up (mf_up (mf.rf (am_up M2 72 6 0)) (by omega)) (by omega)) (by omega)).tr c2) hR3
theorem p_isF' (M M1 : am_M) (a : Int) (n : Nat) (h8 : n ≤ 8) (hn : M 73 1 = (n : Int)) (h : M1 73 = M 73) : cY 78 [rV 72, iV a] (am_up M1 72 6 0) = some (if 0 ≤ a ∧ a < (n : Int) then 1 else 0, am_up M1 72 6 0) := by
  have e : (am_up M1 72 6 0) 73 = M 73 := by rw [am_up_ne _ _ _ _ (by decide), h]
  rw [p_isField _ _ (by rw [e, hn]; omega), e, hn]
theorem o29 : lw_O29 RI := by
  intro a b ha hb M hR hM
  have hR2 : RI (am_up M 72 6 0) := RI_mf (mf_up (mf.rf M) (by omega)) hR
  obtain ⟨r1, r2, r3, r4, r5, r6, r7, r8, r9, r10, r11⟩ := id hR
  have hb1 := r1.2.1
  obtain ⟨n, hn⟩ : ∃ n : Nat, M 73 1 = (n : Int) := ⟨(M 73 1).toNat, by omega⟩
  have e0 : M 0 4 = (n : Int) := by rw [← hn]; exact r2.2.1
  have e73 : (am_up M 72 6 0) 73 = M 73 := am_up_ne M 72 6 0 (by decide)
  by_cases h : 0 ≤ b ∧ b < (n : Int)
  · by_cases hw : 0 ≤ a ∧ a ≤ 51
    · obtain ⟨w, rfl⟩ : ∃ w : Nat, a = (w : Int) := ⟨a.toNat, by omega⟩
      obtain ⟨f, rfl⟩ : ∃ f : Nat, b = (f : Int) := ⟨b.toNat, by omega⟩
      obtain ⟨M1, M2, M3, r, g1, g2, g3, g4, g5, g6, g7, g8, g9, g10, g11, g12, g13⟩ := both_soil hR hn (f := f) (Wk := w) (by omega) (by omega)
      have e7 : M1 7 f = M 73 (44 + 4 * f) := by rw [g2]; exact (r2.2.2.2.2.2.2.2.2.1 f (by omega)).2.2.1
      refine ⟨sol (M 73) n f (w + 1), M2, M3, ?_, ?_, g10⟩
      · rw [e_Desk_soil, p_lacksField, am_cb_s, e0, if_pos h, if_pos rfl, p_isNoWeek, am_cb_s, if_pos hw, if_pos rfl, g1, am_cb_s, r_bd_ok (by omega) (by omega), Int.toNat_natCast, e7, g3, am_cb_s]
        have L : ∀ j x : Nat, x + j = w + 1 → cX 31 26 [some (rV 70), some (iV (w : Int)), some (iV (f : Int)), some (iV (sol (M 73) n f x)), some (iV (x : Int))] [] M2 = some (sol (M 73) n f (w + 1), M2) := by
          intro j
          induction j with
          | zero => intro x hx; have e : x = w + 1 := by omega
                    subst e; rw [e_Desk_soil_26, if_pos (by omega)]
          | succ j ih =>
            intro x hx
            rw [e_Desk_soil_26, if_neg (by omega), p_soilBehind r1 hn g4 g5 g6 (w := x) (f := f) (by omega) (by omega) _ (sol_bd r1 hn (by omega) x), am_cb_s, r_ck_ok (by omega) (by omega)]
            exact ih (x + 1) (by omega)
        exact L (w + 1) 0 (by omega)
      · rw [e_Model_soil, p_isF' M M2 _ n (by omega) hn (g8 73 (by omega)), am_cb_s, if_pos h, if_neg (by decide), p_isWeek, am_cb_s, if_pos hw, if_neg (by decide), g9, am_cb_s, g11]
    · refine ⟨-3, M, am_up M 72 6 0, ?_, ?_, hR2⟩
      · rw [e_Desk_soil, p_lacksField, am_cb_s, e0, if_pos h, if_pos rfl, p_isNoWeek, am_cb_s, if_neg hw, if_neg (by decide)]
      · rw [e_Model_soil, p_isF0 M _ n (by omega) hn, am_cb_s, if_pos h, if_neg (by decide), p_isWeek, am_cb_s, if_neg hw, if_pos rfl]
  · refine ⟨-2, M, am_up M 72 6 0, ?_, ?_, hR2⟩
    · rw [e_Desk_soil, p_lacksField, am_cb_s, e0, if_neg h, if_neg (by decide)]
    · rw [e_Model_soil, p_isF0 M _ n (by omega) hn, am_cb_s, if_neg h, if_pos rfl]
theorem o30 : lw_O30 RI := by
  intro a b c ha hb hc M hR hM
  have hR2 : RI (am_up M 72 6 0) := RI_mf (mf_up (mf.rf M) (by omega)) hR
  obtain ⟨r1, r2, r3, r4, r5, r6, r7, r8, r9, r10, r11⟩ := id hR
  have hb1 := r1.2.1
  obtain ⟨n, hn⟩ : ∃ n : Nat, M 73 1 = (n : Int) := ⟨(M 73 1).toNat, by omega⟩
  have e0 : M 0 4 = (n : Int) := by rw [← hn]; exact r2.2.1
  have e73 : (am_up M 72 6 0) 73 = M 73 := am_up_ne M 72 6 0 (by decide)
  by_cases h : 0 ≤ b ∧ b < (n : Int)
  · by_cases hcc : 0 ≤ c ∧ c ≤ 1
    · by_cases hw : 0 ≤ a ∧ a ≤ 51
      · obtain ⟨w, rfl⟩ : ∃ w : Nat, a = (w : Int) := ⟨a.toNat, by omega⟩
        obtain ⟨f, rfl⟩ : ∃ f : Nat, b = (f : Int) := ⟨b.toNat, by omega⟩
        obtain ⟨M1, M2, M3, r, g1, g2, g3, g4, g5, g6, g7, g8, g9, g10, g11, g12, g13⟩ := both_soil hR hn (f := f) (Wk := w) (by omega) (by omega)
        have e7 : M1 7 f = M 73 (44 + 4 * f) := by rw [g2]; exact (r2.2.2.2.2.2.2.2.2.1 f (by omega)).2.2.1
        refine ⟨if c = 0 then drM (M 73) n f (w + 1) else drF (M 73) n f (w + 1), M2, M3, ?_, ?_, g10⟩
        · rw [e_Desk_dry, p_lacksField, am_cb_s, e0, if_pos h, if_pos rfl, if_neg (by omega), if_neg (by omega), p_isNoWeek, am_cb_s, if_pos hw, if_pos rfl, g1, am_cb_s, r_bd_ok (by omega) (by omega), Int.toNat_natCast, e7, g3, am_cb_s]
          have L : ∀ j x : Nat, x + j = w + 1 → cX 32 35 [some (rV 70), some (iV (w : Int)), some (iV (f : Int)), some (iV c), some (iV (sol (M 73) n f x)), some (iV (drM (M 73) n f x)), some (iV (drF (M 73) n f x)), some (iV (x : Int))] [] M2 = some (if c = 0 then drM (M 73) n f (w + 1) else drF (M 73) n f (w + 1), M2) := by
            intro j
            induction j with
            | zero =>
              intro x hx
              have e : x = w + 1 := by omega
              subst e
              rw [e_Desk_dry_35, if_pos (by omega)]
              split <;> rfl
            | succ j ih =>
              intro x hx
              have bs := sol_bd r1 hn (f := f) (by omega) x
              obtain ⟨dm1, dm2, dm3⟩ := drMF (M 73) n f x
              have es : sol (M 73) n f (x + 1) = max (slb (M 73) n x f (sol (M 73) n f x)) 0 := rfl
              have eM : drM (M 73) n f (x + 1) = if slb (M 73) n x f (sol (M 73) n f x) < 0 then drM (M 73) n f x + 1 else drM (M 73) n f x := rfl
              have eF : drF (M 73) n f (x + 1) = if slb (M 73) n x f (sol (M 73) n f x) < 0 then (if drF (M 73) n f x = -1 then (x : Int) else drF (M 73) n f x) else drF (M 73) n f x := rfl
              have hi := ih (x + 1) (by omega)
              rw [es, eM, eF] at hi
              rw [e_Desk_dry_35, if_neg (by omega), p_soilBehind r1 hn g4 g5 g6 (w := x) (f := f) (by omega) (by omega) _ bs, am_cb_s]
              generalize slb (M 73) n x f (sol (M 73) n f x) = v at hi
              by_cases q : v < 0
              · rw [if_pos q, if_pos q, show max v 0 = 0 by omega] at hi
                rw [if_pos q, r_ck_ok (by omega) (by omega)]
                by_cases q2 : drF (M 73) n f x = -1
                · rw [if_pos q2] at hi
                  rw [if_pos q2, r_ck_ok (by omega) (by omega)]
                  exact hi
                · rw [if_neg q2] at hi
                  rw [if_neg q2, r_ck_ok (by omega) (by omega)]
                  exact hi
              · rw [if_neg q, if_neg q, show max v 0 = v by omega] at hi
                rw [if_neg q, r_ck_ok (by omega) (by omega)]
                exact hi
          exact L (w + 1) 0 (by omega)
        · rw [e_Model_dry, p_isF' M M2 _ n (by omega) hn (g8 73 (by omega)), am_cb_s, if_pos h, if_neg (by decide), p_isIn, am_cb_s, if_pos hcc, if_neg (by decide), p_isWeek, am_cb_s, if_pos hw, if_neg (by decide), g9, am_cb_s, g12, g13]
          split <;> rfl
      · refine ⟨-3, M, am_up M 72 6 0, ?_, ?_, hR2⟩
        · rw [e_Desk_dry, p_lacksField, am_cb_s, e0, if_pos h, if_pos rfl, if_neg (by omega), if_neg (by omega), p_isNoWeek, am_cb_s, if_neg hw, if_neg (by decide)]
        · rw [e_Model_dry, p_isF0 M _ n (by omega) hn, am_cb_s, if_pos h, if_neg (by decide), p_isIn, am_cb_s, if_pos hcc, if_neg (by decide), p_isWeek, am_cb_s, if_neg hw, if_pos rfl]
    · refine ⟨-2, M, am_up M 72 6 0, ?_, ?_, hR2⟩
      · rw [e_Desk_dry, p_lacksField, am_cb_s, e0, if_pos h, if_pos rfl]
        by_cases q : c < 0
        · rw [if_pos q]
        · rw [if_neg q, if_pos (by omega)]
      · rw [e_Model_dry, p_isF0 M _ n (by omega) hn, am_cb_s, if_pos h, if_neg (by decide), p_isIn, am_cb_s, if_neg hcc, if_pos rfl]
  · refine ⟨-2, M, am_up M 72 6 0, ?_, ?_, hR2⟩
    · rw [e_Desk_dry, p_lacksField, am_cb_s, e0, if_neg h, if_neg (by decide)]
    · rw [e_Model_dry, p_isF0 M _ n (by omega) hn, am_cb_s, if_neg h, if_pos rfl]
-- nights of weeks
def nsm (s : Nat → Int) (n f x : Nat) : Nat → Int := sm (fun i => ngt s (rst s (x + i)) n (x + i) f)
theorem nsm_bd {s : Nat → Int} (hv : vT s) {n : Nat} (hn : s 1 = (n : Int)) {f : Nat} (hf : f < n) (x k : Nat) : 0 ≤ nsm s n f x k ∧ nsm s n f x k ≤ 10080 * (k : Int) := sm_bd k (fun i _ => ngt_bd hv hn (isP_rst hv hn (x + i)) (x + i) hf)
theorem o38 : lw_O38 RI := by
  intro a b c ha hb hc M hR hM
  have hR2 : RI (am_up M 72 6 0) := RI_mf (mf_up (mf.rf M) (by omega)) hR
  obtain ⟨r1, r2, r3, r4, r5, r6, r7, r8, r9, r10, r11⟩ := id hR
  have hb1 := r1.2.1
  obtain ⟨n, hn⟩ : ∃ n : Nat, M 73 1 = (n : Int) := ⟨(M 73 1).toNat, by omega⟩
  have e0 : M 0 4 = (n : Int) := by rw [← hn]; exact r2.2.1
  have e73 : (am_up M 72 6 0) 73 = M 73 := am_up_ne M 72 6 0 (by decide)
  by_cases h : 0 ≤ c ∧ c < (n : Int)
  · by_cases hwa : 0 ≤ a ∧ a ≤ 51
    · by_cases hwb : 0 ≤ b ∧ b ≤ 51
      · by_cases hab : b < a
        · refine ⟨-3, M, am_up M 72 6 0, ?_, ?_, hR2⟩
          · rw [e_Desk_nights, p_lacksField, am_cb_s, e0, if_pos h, if_pos rfl, p_isNoWeek, am_cb_s, if_pos hwa, if_pos rfl, p_isNoWeek, am_cb_s, if_pos hwb, if_pos rfl, if_pos hab]
          · rw [e_Model_nights, p_isF0 M _ n (by omega) hn, am_cb_s, if_pos h, if_neg (by decide), p_isWeek, am_cb_s, if_pos hwa, if_neg (by decide), p_isWeek, am_cb_s, if_pos hwb, if_neg (by decide), if_pos hab]
        · obtain ⟨x, rfl⟩ : ∃ x : Nat, a = (x : Int) := ⟨a.toNat, by omega⟩
          obtain ⟨y, rfl⟩ : ∃ y : Nat, b = (y : Int) := ⟨b.toNat, by omega⟩
          obtain ⟨f, rfl⟩ : ∃ f : Nat, c = (f : Int) := ⟨c.toNat, by omega⟩
          obtain ⟨M1, a1, a2, a3, a4, a5⟩ := p_openSeason M (M 73) n r1 hn (by omega) r2 r3
          obtain ⟨M2, r, b1, b2, b3, b4, b5⟩ := p_reckonTo (M 73) n y r1 hn (by omega) (y + 1) 0 M1 (by omega) a3 a4 a5
          have k2 : ∀ a, a < 40 ∨ 59 < a → M2 a = M a := fun a ha => by rw [b2 a (by omega), a2 a (by omega)]
          have hR1 : RI M2 := RI_cf (fun x hx => k2 x (by omega)) hR
          have hR3 : RI (am_up M2 72 6 0) := RI_mf (mf_up (mf.rf M2) (by omega)) hR1
          have f73 : (am_up M2 72 6 0) 73 = M 73 := by rw [am_up_ne _ _ _ _ (by decide), k2 73 (by omega)]
          have Lc : ∀ (j k : Nat) (d : Option am_V), x + k + j = y + 1 → cX 43 28 [some (rV 70), d, some (iV (y : Int)), some (iV (f : Int)), some (iV (nsm (M 73) n f x k)), some (iV ((x + k : Nat) : Int))] [] M2 = some (nsm (M 73) n f x (y + 1 - x), M2) := by
            intro j
            induction j with
            | zero =>
              intro k d hk
              have e : k = y + 1 - x := by omega
              subst e
              rw [e_Desk_nights_28, if_pos (by omega)]
            | succ j ih =>
              intro k d hk
              have bn := nsm_bd r1 hn (f := f) (by omega) x k
              have bg := ngt_bd r1 hn (isP_rst r1 hn (x + k)) (x + k) (f := f) (by omega)
              have hi := ih (k + 1) none (by omega)
              rw [e_Desk_nights_28, if_neg (by omega), p_nightIn r1 hn b3 (w := x + k) (f := f) (by omega) (by omega), am_cb_s, r_ck_ok (by omega) (by omega), r_ck_ok (by omega) (by omega)]
              exact hi
          have Lm : ∀ (j k : Nat) (M' : am_M) (d : Option am_V), x + k + j = y + 1 → mf (am_up M2 72 6 0) M' → ∃ M3, cX 164 24 [some (rV 72), d, some (iV (y : Int)), some (iV (f : Int)), some (iV (nsm (M 73) n f x k)), some (iV ((x + k : Nat) : Int))] [] M' = some (nsm (M 73) n f x (y + 1 - x), M3) ∧ mf (am_up M2 72 6 0) M3 := by
            intro j
            induction j with
            | zero =>
              intro k M' d hk hm
              have e : k = y + 1 - x := by omega
              subst e
              exact ⟨M', by rw [e_Model_nights_24, if_pos (by omega)], hm⟩
            | succ j ih =>
              intro k M' d hk hm
              have bn := nsm_bd r1 hn (f := f) (by omega) x k
              have bg := ngt_bd r1 hn (isP_rst r1 hn (x + k)) (x + k) (f := f) (by omega)
              have g73 : M' 73 = M 73 := by rw [hm.1 73 (by decide) (by omega), f73]
              obtain ⟨M4, c1, c2, c3⟩ := p_lays0 M' n (x + k) (by rw [g73]; exact r1) (by rw [g73]; exact hn) (by omega) (fun i hi => by rw [hm.1 88 (by decide) (by omega), am_up_ne _ _ _ _ (by decide), k2 88 (by omega)]; exact r10 i hi)
              rw [g73] at c3
              have hng := p_mnightOf c3 (f := f) (by omega)
              rw [c2.1 73 (by omega), g73] at hng
              obtain ⟨M3, d1, d2⟩ := ih (k + 1) M4 none (by omega) (hm.tr c2.mf)
              rw [e_Model_nights_24, if_neg (by omega), c1, am_cb_s, hng, am_cb_s, r_ck_ok (by omega) (by omega), r_ck_ok (by omega) (by omega)]
              exact ⟨M3, d1, d2⟩
          obtain ⟨M3, m1, m2⟩ := Lm (y + 1 - x) 0 (am_up M2 72 6 0) (some (iV (x : Int))) (by omega) (mf.rf _)
          refine ⟨nsm (M 73) n f x (y + 1 - x), M2, M3, ?_, ?_, RI_mf m2 hR3⟩
          · rw [e_Desk_nights, p_lacksField, am_cb_s, e0, if_pos h, if_pos rfl, p_isNoWeek, am_cb_s, if_pos hwa, if_pos rfl, p_isNoWeek, am_cb_s, if_pos hwb, if_pos rfl, if_neg hab, a1, am_cb_s, e_Season_reckonTo, b1, am_cb_s]
            exact Lc (y + 1 - x) 0 _ (by omega)
          · rw [e_Model_nights, p_isF' M M2 _ n (by omega) hn (k2 73 (by omega)), am_cb_s, if_pos h, if_neg (by decide), p_isWeek, am_cb_s, if_pos hwa, if_neg (by decide), p_isWeek, am_cb_s, if_pos hwb, if_neg (by decide), if_neg hab]
            exact m1
      · refine ⟨-3, M, am_up M 72 6 0, ?_, ?_, hR2⟩
        · rw [e_Desk_nights, p_lacksField, am_cb_s, e0, if_pos h, if_pos rfl, p_isNoWeek, am_cb_s, if_pos hwa, if_pos rfl, p_isNoWeek, am_cb_s, if_neg hwb, if_neg (by decide)]
        · rw [e_Model_nights, p_isF0 M _ n (by omega) hn, am_cb_s, if_pos h, if_neg (by decide), p_isWeek, am_cb_s, if_pos hwa, if_neg (by decide), p_isWeek, am_cb_s, if_neg hwb, if_pos rfl]
    · refine ⟨-3, M, am_up M 72 6 0, ?_, ?_, hR2⟩
      · rw [e_Desk_nights, p_lacksField, am_cb_s, e0, if_pos h, if_pos rfl, p_isNoWeek, am_cb_s, if_neg hwa, if_neg (by decide)]
      · rw [e_Model_nights, p_isF0 M _ n (by omega) hn, am_cb_s, if_pos h, if_neg (by decide), p_isWeek, am_cb_s, if_neg hwa, if_pos rfl]
  · refine ⟨-2, M, am_up M 72 6 0, ?_, ?_, hR2⟩
    · rw [e_Desk_nights, p_lacksField, am_cb_s, e0, if_neg h, if_neg (by decide)]
    · rw [e_Model_nights, p_isF0 M _ n (by omega) hn, am_cb_s, if_neg h, if_pos rfl]
