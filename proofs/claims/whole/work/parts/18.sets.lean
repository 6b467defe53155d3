-- small questions
theorem p_lacksField (a : Int) (M : am_M) : cY 243 [rV 0, iV a] M = some (if 0 ≤ a ∧ a < M 0 4 then 0 else 1, M) := by
  rw [e_Told_lacksField_0]
  split
  · rw [if_neg (by omega)]
  · split
    · rw [if_pos (by omega)]
    · rw [if_neg (by omega)]
theorem p_lacksReach (a : Int) (M : am_M) : cY 242 [rV 0, iV a] M = some (if 0 ≤ a ∧ a < M 0 0 then 0 else 1, M) := by
  rw [e_Told_lacksReach]
  split
  · rw [if_neg (by omega)]
  · split
    · rw [if_pos (by omega)]
    · rw [if_neg (by omega)]
theorem p_isNoWeek (a : Int) (M : am_M) : cY 53 [iV a] M = some (if 0 ≤ a ∧ a ≤ 51 then 0 else 1, M) := by
  rw [e_Desk_isNoWeek]
  split
  · rw [if_neg (by omega)]
  · split
    · rw [if_pos (by omega)]
    · rw [if_neg (by omega)]
theorem p_isWeek (a : Int) (M : am_M) : cY 80 [iV a] M = some (if 0 ≤ a ∧ a ≤ 51 then 1 else 0, M) := by
  rw [e_Model_isWeek, p_isIn, am_cb_s]
  split <;> simp
theorem p_isField (a : Int) (M : am_M) (h : -1000 ≤ M 73 1 ∧ M 73 1 ≤ 1000) : cY 78 [rV 72, iV a] M = some (if 0 ≤ a ∧ a < M 73 1 then 1 else 0, M) := by
  rw [e_Model_isField, r_ck_ok (by omega) (by omega), p_isIn, am_cb_s]
  by_cases q : 0 ≤ a ∧ a < M 73 1
  · rw [if_pos q, if_pos (show 0 ≤ a ∧ a ≤ M 73 1 - 1 by omega)]; simp
  · rw [if_neg q, if_neg (show ¬ (0 ≤ a ∧ a ≤ M 73 1 - 1) by omega)]; simp
theorem p_isReach (a : Int) (M : am_M) (h : -1000 ≤ M 73 0 ∧ M 73 0 ≤ 1000) : cY 79 [rV 72, iV a] M = some (if 0 ≤ a ∧ a < M 73 0 then 1 else 0, M) := by
  rw [e_Model_isReach, r_ck_ok (by omega) (by omega), p_isIn, am_cb_s]
  by_cases q : 0 ≤ a ∧ a < M 73 0
  · rw [if_pos q, if_pos (show 0 ≤ a ∧ a ≤ M 73 0 - 1 by omega)]; simp
  · rw [if_neg q, if_neg (show ¬ (0 ≤ a ∧ a ≤ M 73 0 - 1) by omega)]; simp
theorem kT_of {M M' : am_M} {b : Nat} (h1 : M' (b + 11) = M (b + 11)) (h2 : M' (b + 13) = M (b + 13)) (h3 : M' (b + 15) = M (b + 15)) (hc : kT M b) : kT M' b := by
  unfold kT at hc ⊢
  rw [h1, h2, h3]
  exact hc
-- a row with one entry changed
def us (s : Nat → Int) (j : Nat) (v : Int) : Nat → Int := fun i => if i = j then v else s i
theorem us_at (s : Nat → Int) (j : Nat) (v : Int) : us s j v j = v := if_pos rfl
theorem us_ne (s : Nat → Int) (j : Nat) (v : Int) {i : Nat} (h : i ≠ j) : us s j v i = s i := if_neg h
theorem up_us (M : am_M) (a j : Nat) (v : Int) : am_up M a j v a = us (M a) j v := by
  funext i
  simp [am_up, us]
/-- an act on both sides -/
theorem act_g {M Ma M1 M3 M2 : am_M} {kd tg bf : Int} (hR : RI M) (hMa : ∀ a, 17 ≤ a ∨ a = 4 → Ma a = M a) (hkT : kT Ma 0) (hk : kpt Ma M1 kd tg bf) (hr : rmb (am_up M1 72 6 0) M3) (h2 : ∀ a, a ≠ 73 → M2 a = M3 a) (hv : vT (M2 73)) (hc : cT (M2 73) Ma 0) (h1 : M2 73 1 = M 73 1) (hok : acOk kd tg bf (M2 73)) (hrl : Rl (M 73) (bk kd tg bf (M2 73))) (hz : ∀ j : Nat, 184 ≤ j → M2 73 j = 0) : RI M2 := by
  obtain ⟨r1, r2, r3, r4, r5, r6, r7, r8, r9, r10, r11⟩ := hR
  obtain ⟨k0, k1, k2, k3⟩ := hk
  obtain ⟨m0, m0', m1, m2, m3⟩ := hr
  have eM : ∀ a, a ≠ 72 → a ≠ 73 → a ≠ 75 → a ≠ 36 → a ≠ 37 → a ≠ 38 → a ≠ 39 → M2 a = Ma a := fun a x2 x3 x5 x6 x7 x8 x9 => by
    rw [h2 a x3, m0 a x2 x5, am_up_ne M1 72 6 0 x2, k0 a x6 x7 x8 x9]
  have eA : ∀ a, 36 ≤ a ∧ a ≤ 39 → M2 a = M1 a := fun a ha => by
    rw [h2 a (by omega), m0 a (by omega) (by omega), am_up_ne M1 72 6 0 (by omega)]
  have e72 : ∀ j, j ≠ 5 → j ≠ 6 → M2 72 j = M 72 j := fun j x5 x6 => by
    rw [h2 72 (by decide), m0' j x5, am_up_nj M1 72 6 0 x6, k0 72 (by decide) (by decide) (by decide) (by decide), hMa 72 (by omega)]
  have e725 : (am_up M1 72 6 0) 72 5 = M 72 5 := by rw [am_up_nj M1 72 6 0 (by decide), k0 72 (by decide) (by decide) (by decide) (by decide), hMa 72 (by omega)]
  have e75 : (am_up M1 72 6 0) 75 = M 75 := by rw [am_up_ne M1 72 6 0 (by decide), k0 75 (by decide) (by decide) (by decide) (by decide), hMa 75 (by omega)]
  have e73 : (am_up M1 72 6 0) 73 = M 73 := by rw [am_up_ne M1 72 6 0 (by decide), k0 73 (by decide) (by decide) (by decide) (by decide), hMa 73 (by omega)]
  have es : ∀ k, snp (am_up M1 72 6 0) k = snp M k := fun k => by unfold snp; rw [e75]
  have es2 : ∀ k, snp M2 k = snp M3 k := fun k => by unfold snp; rw [h2 75 (by decide)]
  have a36 : ∀ a, 36 ≤ a ∧ a ≤ 39 → Ma a = M a := fun a ha => hMa a (by omega)
  refine ⟨hv, cT_eq (fun a _ h => eM a (by omega) (by omega) (by omega) (by omega) (by omega) (by omega) (by omega)) hc, kT_eq (fun a _ h => eM a (by omega) (by omega) (by omega) (by omega) (by omega) (by omega) (by omega)) hkT, kT_eq (fun a h h' => by rw [eM a (by omega) (by omega) (by omega) (by omega) (by omega) (by omega) (by omega), hMa a (by omega)]) r4, ?_, ?_, ?_, ?_, ?_, ?_, hz⟩
  · rw [h1, eM 4 (by decide) (by decide) (by decide) (by decide) (by decide) (by decide) (by decide), hMa 4 (by omega), eM 76 (by decide) (by decide) (by decide) (by decide) (by decide) (by decide) (by decide), hMa 76 (by omega)]; exact r5
  · rw [eM 34 (by decide) (by decide) (by decide) (by decide) (by decide) (by decide) (by decide), hMa 34 (by omega), e72 8 (by decide) (by decide), eM 35 (by decide) (by decide) (by decide) (by decide) (by decide) (by decide) (by decide), hMa 35 (by omega), eM 78 (by decide) (by decide) (by decide) (by decide) (by decide) (by decide) (by decide), hMa 78 (by omega)]; exact r6
  · rw [eM 34 (by decide) (by decide) (by decide) (by decide) (by decide) (by decide) (by decide), hMa 34 (by omega), e72 11 (by decide) (by decide), e72 12 (by decide) (by decide)]; exact r7
  · refine aT_push (kd := kd) (tg := tg) (bf := bf) r8 r1 r11 ?_ ?_ ?_ ?_ ?_ ?_ hok hrl
    · rw [eA 36 (by omega), k1, a36 36 (by omega)]
    · rw [eA 36 (by omega), eA 37 (by omega), eA 38 (by omega), eA 39 (by omega)]
      rw [a36 36 (by omega), a36 37 (by omega), a36 38 (by omega), a36 39 (by omega)] at k2
      exact k2
    · rw [eA 36 (by omega), eA 37 (by omega), eA 38 (by omega), eA 39 (by omega)]
      exact k3
    · rw [h2 72 (by decide), m1, e725]
    · intro k hk
      rw [es2, ← es, ← e725]
      exact m2 k (by rw [← h2 72 (by decide)]; exact hk)
    · intro k hk j hj
      rw [es2, ← e73]
      exact m3 k (by rw [← h2 72 (by decide)]; exact hk) j hj
  · rw [eM 18 (by decide) (by decide) (by decide) (by decide) (by decide) (by decide) (by decide), hMa 18 (by omega), eM 19 (by decide) (by decide) (by decide) (by decide) (by decide) (by decide) (by decide), hMa 19 (by omega), eM 94 (by decide) (by decide) (by decide) (by decide) (by decide) (by decide) (by decide), hMa 94 (by omega)]; exact r9
  · rw [eM 88 (by decide) (by decide) (by decide) (by decide) (by decide) (by decide) (by decide), hMa 88 (by omega)]; exact r10
/-- what the reference's remembers needs, and that its row is there -/
theorem p_becomes (M : am_M) (j v : Int) (h0 : 0 ≤ M 72 5) (h1 : M 72 5 ≤ 10) (hj : 0 ≤ j ∧ j < 184) : ∃ M3, cY 89 [rV 72, iV j, iV v] M = some (M 73 j.toNat, am_up M3 73 j.toNat v) ∧ rmb M M3 := by
  obtain ⟨M3, g1, g2⟩ := p_remembers M h0 h1
  refine ⟨M3, ?_, g2⟩
  rw [e_Model_becomes, g1, am_cb_s, r_bd_ok (by omega) (by omega), r_bd_ok (by omega) (by omega), g2.1 73 (by decide) (by decide)]
-- settings
theorem vT_set {s : Nat → Int} (h : vT s) {j : Nat} {v : Int} (hj : 5 ≤ j ∧ j ≤ 11) (hv : (j = 5 → 1 ≤ v ∧ v ≤ 999) ∧ (j = 6 → 0 ≤ v ∧ v ≤ 10079) ∧ (j = 7 → 0 ≤ v ∧ v ≤ 23) ∧ (j = 8 → 0 ≤ v ∧ v ≤ 23) ∧ (j = 9 → 1 ≤ v ∧ v ≤ 52) ∧ (j = 10 → 0 ≤ v ∧ v ≤ 7) ∧ (j = 11 → 0 ≤ v ∧ v ≤ 1)) : vT (us s j v) := by
  have e : ∀ i, i ≠ j → us s j v i = s i := fun i hi => us_ne s j v hi
  obtain ⟨h0, h1, h2, h3, h4, ⟨s5, s6, s7, s8, s9, s10, s11⟩, hr, hf, ho, hs, hl, hh⟩ := h
  have one : ∀ i (P : Int → Prop), P (s i) → (j = i → P v) → P (us s j v i) := fun i P p q => by
    by_cases ei : i = j
    · subst ei; rw [us_at]; exact q rfl
    · rw [e i ei]; exact p
  refine ⟨by rw [e 0 (by omega)]; exact h0, by rw [e 1 (by omega)]; exact h1, by rw [e 2 (by omega)]; exact h2, by rw [e 3 (by omega)]; exact h3, by rw [e 4 (by omega)]; exact h4, ⟨one 5 (fun x => 1 ≤ x ∧ x ≤ 999) s5 hv.1, one 6 (fun x => 0 ≤ x ∧ x ≤ 10079) s6 hv.2.1, one 7 (fun x => 0 ≤ x ∧ x ≤ 23) s7 hv.2.2.1, one 8 (fun x => 0 ≤ x ∧ x ≤ 23) s8 hv.2.2.2.1, one 9 (fun x => 1 ≤ x ∧ x ≤ 52) s9 hv.2.2.2.2.1, one 10 (fun x => 0 ≤ x ∧ x ≤ 7) s10 hv.2.2.2.2.2.1, one 11 (fun x => 0 ≤ x ∧ x ≤ 1) s11 hv.2.2.2.2.2.2⟩, ?_, ?_, ?_, ?_, ?_, ?_⟩
  · intro r hr'; rw [e 0 (by omega)] at hr'; rw [e _ (by omega), e _ (by omega), e _ (by omega)]; exact hr r hr'
  · intro r hr'; rw [e 1 (by omega)] at hr'; rw [e (42 + 4 * r) (by omega), e 0 (by omega), e (43 + 4 * r) (by omega), e (44 + 4 * r) (by omega), e (45 + 4 * r) (by omega)]; exact hf r hr'
  · rw [e 1 (by omega)]
    exact ⟨fun p hp => by rw [e _ (by omega)]; exact ho.1 p hp, fun p q hp hq h => by rw [e _ (by omega), e _ (by omega)] at h; exact ho.2 p q hp hq h⟩
  · rw [e 1 (by omega), e 2 (by omega)]
    intro k hk; rw [e _ (by omega), e _ (by omega), e _ (by omega)]; exact hs k hk
  · rw [e 1 (by omega), e 3 (by omega)]
    intro k hk; rw [e _ (by omega), e _ (by omega), e _ (by omega), e _ (by omega)]; exact hl k hk
  · rw [e 4 (by omega)]
    intro k hk; rw [e _ (by omega), e _ (by omega), e _ (by omega)]; exact hh k hk
theorem cT_set {s : Nat → Int} {M : am_M} (h : cT s M 0) {i : Nat} {v : Int} (hi : i < 7) : cT (us s (5 + i) v) (am_up M 10 i v) 0 := by
  have e : ∀ k, k < 5 ∨ 12 ≤ k → us s (5 + i) v k = s k := fun k hk => us_ne s (5 + i) v (by omega)
  have eM : ∀ a, a ≠ 10 → am_up M 10 i v a = M a := fun a ha => am_up_ne M 10 i v ha
  obtain ⟨h0, h1, h2, h3, h4, hset, hz, hr, hf, ho, hs, hl, hh⟩ := h
  simp only [Nat.zero_add] at *
  refine ⟨?_, ?_, ?_, ?_, ?_, ?_, ?_, ?_, ?_, ?_, ?_, ?_, ?_⟩
  · rw [eM 0 (by decide), e 0 (by omega)]; exact h0
  · rw [eM 0 (by decide), e 1 (by omega)]; exact h1
  · rw [eM _ (by decide), e 2 (by omega)]; exact h2
  · rw [eM _ (by decide), e 3 (by omega)]; exact h3
  · rw [eM _ (by decide), e 4 (by omega)]; exact h4
  · intro k hk
    by_cases ek : k = i
    · subst ek; show am_up M 10 k v 10 k = _; rw [am_up_at, us_at]
    · show am_up M 10 i v 10 k = _; rw [am_up_nj M 10 i v ek, us_ne s (5 + i) v (by omega)]; exact hset k hk
  · rw [eM _ (by decide), eM _ (by decide)]; exact hz
  · intro r hr'; rw [e 0 (by omega)] at hr'; rw [eM _ (by decide), eM _ (by decide), eM _ (by decide), e _ (by omega), e _ (by omega), e _ (by omega)]; exact hr r hr'
  · intro r hr'; rw [e 1 (by omega)] at hr'; rw [eM _ (by decide), eM _ (by decide), eM _ (by decide), eM _ (by decide), e _ (by omega), e _ (by omega), e _ (by omega), e _ (by omega)]; exact hf r hr'
  · intro r hr'; rw [e 1 (by omega)] at hr'; rw [eM _ (by decide), e _ (by omega)]; exact ho r hr'
  · intro k hk j hj; rw [e 2 (by omega)] at hk; rw [eM _ (by decide), e _ (by omega)]; exact hs k hk j hj
  · intro k hk j hj; rw [e 3 (by omega)] at hk; rw [eM _ (by decide), e _ (by omega)]; exact hl k hk j hj
  · intro k hk j hj; rw [e 4 (by omega)] at hk; rw [eM _ (by decide), e _ (by omega)]; exact hh k hk j hj
theorem Rl.rf (s : Nat → Int) : Rl s s := ⟨fun _ _ => rfl, fun _ _ _ _ => rfl, fun _ _ _ _ => rfl, fun _ _ => rfl, fun _ _ _ _ => rfl, fun _ _ _ _ => rfl, fun _ _ _ _ => rfl⟩
theorem bk5 (s : Nat → Int) (i : Nat) (v : Int) : bk 5 (i : Int) (s (5 + i)) (us s (5 + i) v) = s := by
  funext j
  show (if (5 : Int) = 0 then _ else _) = _
  rw [if_neg (by decide), if_neg (by decide), if_neg (by decide), if_neg (by decide), if_neg (by decide), if_pos rfl, Int.toNat_natCast]
  by_cases h : j = 5 + i
  · rw [if_pos h, h]
  · rw [if_neg h, us_ne _ _ _ h]
/-- changeSetting and becomes on a setting -/
theorem act_set {M : am_M} (hR : RI M) {i : Nat} {v : Int} (hi : i < 7) (hv : vT (us (M 73) (5 + i) v)) : ∃ M1 M3, cY 13 [rV 70, iV (i : Int), iV v] M = some (M 73 (5 + i), M1) ∧ (am_up M1 72 6 0) 73 = M 73 ∧ cY 89 [rV 72, iV (5 + (i : Int)), iV v] (am_up M1 72 6 0) = some (M 73 (5 + i), am_up M3 73 (5 + i) v) ∧ RI (am_up M3 73 (5 + i) v) := by
  obtain ⟨r1, r2, r3, r4, r5, r6, r7, r8, r9, r10, r11⟩ := id hR
  obtain ⟨M1, g1, g2⟩ := p_keep (am_up M 10 i v) 5 (i : Int) (M 73 (5 + i)) (by rw [am_up_ne M 10 i v (by decide)]; exact r8.2.1.1) (by rw [am_up_ne M 10 i v (by decide)]; exact r8.2.1.2)
  have e1 : M 10 i = M 73 (5 + i) := r2.2.2.2.2.2.1 i hi
  have e725 : (am_up M1 72 6 0) 72 5 = M 72 5 := by rw [am_up_nj M1 72 6 0 (by decide), g2.1 72 (by decide) (by decide) (by decide) (by decide), am_up_ne M 10 i v (by decide)]
  have e73 : (am_up M1 72 6 0) 73 = M 73 := by rw [am_up_ne M1 72 6 0 (by decide), g2.1 73 (by decide) (by decide) (by decide) (by decide), am_up_ne M 10 i v (by decide)]
  have ha := r8.2.1
  rw [r8.1] at ha
  obtain ⟨M3, g3, g4⟩ := p_becomes (am_up M1 72 6 0) (5 + (i : Int)) v (by rw [e725]; exact ha.1) (by rw [e725]; exact ha.2) (by omega)
  have et : (5 + (i : Int)).toNat = 5 + i := by omega
  rw [et, e73] at g3
  have e3 : M3 73 = M 73 := by rw [g4.1 73 (by decide) (by decide), e73]
  have eN : am_up M3 73 (5 + i) v 73 = us (M 73) (5 + i) v := by rw [up_us, e3]
  refine ⟨M1, M3, ?_, e73, g3, ?_⟩
  · rw [e_Desk_changeSetting, r_bd_ok (by omega) (by omega), r_bd_ok (by omega) (by omega), Int.toNat_natCast, e1, g1, am_cb_s]
  · refine act_g (kd := 5) (tg := (i : Int)) (bf := M 73 (5 + i)) hR (fun a ha => am_up_ne M 10 i v (by omega)) ?_ g2 g4 (fun a ha => am_up_ne M3 73 _ _ ha) ?_ ?_ ?_ ?_ ?_ ?_
    · exact kT_of (am_up_ne M 10 i v (by decide)) (am_up_ne M 10 i v (by decide)) (am_up_ne M 10 i v (by decide)) r3
    · rw [eN]; exact hv
    · rw [eN]; exact cT_set r2 hi
    · rw [eN, us_ne _ _ _ (by omega)]
    · rw [eN]; exact Or.inr (Or.inr (Or.inr (Or.inr (Or.inr (Or.inl ⟨rfl, by omega, by omega⟩)))))
    · rw [eN, bk5]; exact Rl.rf _
    · intro j hj; rw [eN, us_ne _ _ _ (by omega)]; exact r11 j hj
theorem o8 : lw_O8 RI := by
  intro a ha M hR hM
  have hR2 : RI (am_up M 72 6 0) := RI_mf (mf_up (mf.rf M) (by omega)) hR
  rw [e_Desk_flow]
  by_cases h : 1 ≤ a ∧ a ≤ 999
  · obtain ⟨M1, M3, g1, g2, g3, g4⟩ := act_set hR (i := 0) (v := a) (by omega) (vT_set hR.1 (by omega) ⟨fun _ => h, fun q => by omega, fun q => by omega, fun q => by omega, fun q => by omega, fun q => by omega, fun q => by omega⟩)
    refine ⟨M 73 5, M1, _, ?_, ?_, g4⟩
    · rw [if_neg (by omega), if_neg (by omega)]
      exact (congrArg (fun r => am_cb r _) g1).trans rfl
    · rw [e_Model_flow, p_isIn, am_cb_s, if_pos h, if_neg (by decide)]
      exact (congrArg (fun r => am_cb r _) g3).trans rfl
  · refine ⟨-3, M, _, ?_, by rw [e_Model_flow, p_isIn, am_cb_s, if_neg h, if_pos rfl], hR2⟩
    by_cases h1 : a < 1
    · rw [if_pos h1]
    · rw [if_neg h1, if_pos (by omega)]
theorem o10 : lw_O10 RI := by
  intro a ha M hR hM
  have hR2 : RI (am_up M 72 6 0) := RI_mf (mf_up (mf.rf M) (by omega)) hR
  rw [e_Desk_mode]
  by_cases h : 0 ≤ a ∧ a ≤ 1
  · obtain ⟨M1, M3, g1, g2, g3, g4⟩ := act_set hR (i := 6) (v := a) (by omega) (vT_set hR.1 (by omega) ⟨fun q => by omega, fun q => by omega, fun q => by omega, fun q => by omega, fun q => by omega, fun q => by omega, fun _ => h⟩)
    refine ⟨M 73 11, M1, _, ?_, ?_, g4⟩
    · rw [if_neg (by omega), if_neg (by omega)]
      exact (congrArg (fun r => am_cb r _) g1).trans rfl
    · rw [e_Model_mode, p_isIn, am_cb_s, if_pos h, if_neg (by decide)]
      exact (congrArg (fun r => am_cb r _) g3).trans rfl
  · refine ⟨-3, M, _, ?_, by rw [e_Model_mode, p_isIn, am_cb_s, if_neg h, if_pos rfl], hR2⟩
    by_cases h1 : a < 0
    · rw [if_pos h1]
    · rw [if_neg h1, if_pos (by omega)]
