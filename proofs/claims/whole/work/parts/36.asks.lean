-- asked of one week
theorem parts_eq {s o : Nat → Int} {n w : Nat} {M1 M2 : am_M} (hv : vT s) (hn : s 1 = (n : Int)) (hP : isP n o) (h : CX s o n w M1) (h' : MX o n w M2) (e : M2 73 = s) {f : Nat} (hf : f < n) (c : Int) (hc : 0 ≤ c ∧ c ≤ 9) (hq : c < 4 ∨ fls s o n n = 0) : ∃ r, cY 275 [rV 46, iV (f : Int), iV c] M1 = some (r, M1) ∧ cX 118 31 [some (rV 72), some (iV (w : Int)), some (iV (f : Int)), some (iV c)] [] M2 = some (r, M2) := by
  have hb1 := hv.2.1
  obtain ⟨hQ, hN, hZ, hW, ho⟩ := id h
  obtain ⟨-, -, -, hw, hM⟩ := id h'
  rw [e] at hM
  obtain ⟨p1, p2⟩ := pl_o hP hf
  obtain ⟨c1, c2, c3, c4⟩ := hW.1 f hf
  obtain ⟨m1, m2, m3, m4⟩ := hM.2.1 f hf
  rcases (by omega : c = 0 ∨ c = 1 ∨ c = 2 ∨ c = 3 ∨ c = 4 ∨ c = 5 ∨ c = 6 ∨ c = 7 ∨ c = 8 ∨ c = 9) with rfl | rfl | rfl | rfl | rfl | rfl | rfl | rfl | rfl | rfl
  · have hpl := p_placeOf' M1 o (f : Int) n (pl o n f) (by rw [hQ.1.1, hn]) (by omega) ho hP p1 p2
    have hm := hM.1.2 (pl o n f) p1
    rw [p2, Int.toNat_natCast] at hm
    exact ⟨(pl o n f : Int), by rw [e_WeekPlan_partOf, if_pos rfl, hpl, am_cb_s], by rw [e_Model_inTurn_31, if_pos rfl, r_bd_ok (by omega) (by omega), Int.toNat_natCast, hm]⟩
  · exact ⟨fF s o n f, by rw [e_WeekPlan_partOf, if_neg (by decide), if_pos rfl, r_bd_ok (by omega) (by omega), Int.toNat_natCast, c1], by rw [e_Model_inTurn_31, if_neg (by decide), if_pos rfl, r_bd_ok (by omega) (by omega), Int.toNat_natCast, m1]⟩
  · exact ⟨dF s o n f, by rw [e_WeekPlan_partOf, if_neg (by decide), if_neg (by decide), if_pos rfl, r_bd_ok (by omega) (by omega), Int.toNat_natCast, c2], by rw [e_Model_inTurn_31, if_neg (by decide), if_neg (by decide), if_pos rfl, r_bd_ok (by omega) (by omega), Int.toNat_natCast, m2]⟩
  · exact ⟨shr s o n f, by rw [e_WeekPlan_partOf, if_neg (by decide), if_neg (by decide), if_neg (by decide), if_pos rfl, r_bd_ok (by omega) (by omega), Int.toNat_natCast, c3], by rw [e_Model_inTurn_31, if_neg (by decide), if_neg (by decide), if_neg (by decide), if_pos rfl, r_bd_ok (by omega) (by omega), Int.toNat_natCast, m3]⟩
  · exact ⟨trn s o n f, by rw [e_WeekPlan_partOf, if_neg (by decide), if_neg (by decide), if_neg (by decide), if_neg (by decide), if_pos rfl, r_bd_ok (by omega) (by omega), Int.toNat_natCast, c4], by rw [e_Model_inTurn_31, if_neg (by decide), if_neg (by decide), if_neg (by decide), if_neg (by decide), if_pos rfl, r_bd_ok (by omega) (by omega), Int.toNat_natCast, m4]⟩
  · have h0 : fls s o n n = 0 := hq.elim (fun h => absurd h (by decide)) id
    exact ⟨lF s o n w f, by rw [e_WeekPlan_partOf, if_neg (by decide), if_neg (by decide), if_neg (by decide), if_neg (by decide), if_neg (by decide), if_pos rfl, r_bd_ok (by omega) (by omega), Int.toNat_natCast, ((hW.2.2.2 h0).1 f hf).1], by rw [e_Model_inTurn_31, if_neg (by decide), if_neg (by decide), if_neg (by decide), if_neg (by decide), if_neg (by decide), if_pos rfl, r_bd_ok (by omega) (by omega), Int.toNat_natCast, ((hM.2.2.2.2.1 h0).1 f hf).1]⟩
  · have h0 : fls s o n n = 0 := hq.elim (fun h => absurd h (by decide)) id
    exact ⟨bF s o n w f, by rw [e_WeekPlan_partOf, if_neg (by decide), if_neg (by decide), if_neg (by decide), if_neg (by decide), if_neg (by decide), if_neg (by decide), if_pos rfl, r_bd_ok (by omega) (by omega), Int.toNat_natCast, ((hW.2.2.2 h0).1 f hf).2], by rw [e_Model_inTurn_31, if_neg (by decide), if_neg (by decide), if_neg (by decide), if_neg (by decide), if_neg (by decide), if_neg (by decide), if_pos rfl, r_bd_ok (by omega) (by omega), Int.toNat_natCast, ((hM.2.2.2.2.1 h0).1 f hf).2]⟩
  · have hm := p_mnightOf h' hf
    rw [e] at hm
    exact ⟨ngt s o n w f, by rw [e_WeekPlan_partOf, if_neg (by decide), if_neg (by decide), if_neg (by decide), if_neg (by decide), if_neg (by decide), if_neg (by decide), if_neg (by decide), if_pos rfl, p_nightOf hv hn hP h hf, am_cb_s], by rw [e_Model_inTurn_31, if_neg (by decide), if_neg (by decide), if_neg (by decide), if_neg (by decide), if_neg (by decide), if_neg (by decide), if_neg (by decide), if_pos rfl, hm, am_cb_s]⟩
  · have h0 : fls s o n n = 0 := hq.elim (fun h => absurd h (by decide)) id
    have hm := p_filling h' (by rw [e]; exact h0) hf
    rw [e] at hm
    exact ⟨flg s o n w f, by rw [e_WeekPlan_partOf, if_neg (by decide), if_neg (by decide), if_neg (by decide), if_neg (by decide), if_neg (by decide), if_neg (by decide), if_neg (by decide), if_neg (by decide), if_pos rfl, p_fillingOf hv hn h h0 hf, am_cb_s], by rw [e_Model_inTurn_31, if_neg (by decide), if_neg (by decide), if_neg (by decide), if_neg (by decide), if_neg (by decide), if_neg (by decide), if_neg (by decide), if_neg (by decide), if_pos rfl, hm, am_cb_s]⟩
  · have h0 : fls s o n n = 0 := hq.elim (fun h => absurd h (by decide)) id
    have hm := p_mshutOf h' (by rw [e]; exact h0) hf
    rw [e] at hm
    exact ⟨sho s o n w f, by rw [e_WeekPlan_partOf, if_neg (by decide), if_neg (by decide), if_neg (by decide), if_neg (by decide), if_neg (by decide), if_neg (by decide), if_neg (by decide), if_neg (by decide), if_neg (by decide), p_shutOf hv hn hP h h0 hf, am_cb_s], by rw [e_Model_inTurn_31, if_neg (by decide), if_neg (by decide), if_neg (by decide), if_neg (by decide), if_neg (by decide), if_neg (by decide), if_neg (by decide), if_neg (by decide), if_neg (by decide), hm, am_cb_s]⟩
theorem p_isF (M M1 : am_M) (a : Int) (n : Nat) (h8 : n ≤ 8) (hn : M 73 1 = (n : Int)) (h : ∀ a, a < 40 ∨ 54 < a → M1 a = M a) : cY 78 [rV 72, iV a] (am_up M1 72 6 0) = some (if 0 ≤ a ∧ a < (n : Int) then 1 else 0, am_up M1 72 6 0) := by
  have e : (am_up M1 72 6 0) 73 = M 73 := by rw [am_up_ne _ _ _ _ (by decide), h 73 (by omega)]
  rw [p_isField _ _ (by rw [e, hn]; omega), e, hn]
theorem p_isF0 (M : am_M) (a : Int) (n : Nat) (h8 : n ≤ 8) (hn : M 73 1 = (n : Int)) : cY 78 [rV 72, iV a] (am_up M 72 6 0) = some (if 0 ≤ a ∧ a < (n : Int) then 1 else 0, am_up M 72 6 0) := p_isF M M a n h8 hn (fun _ _ => rfl)
theorem o18 : lw_O18 RI := by
  intro a b c ha hb hc M hR hM
  have hR2 : RI (am_up M 72 6 0) := RI_mf (mf_up (mf.rf M) (by omega)) hR
  obtain ⟨r1, r2, r3, r4, r5, r6, r7, r8, r9, r10, r11⟩ := id hR
  have hb1 := r1.2.1
  obtain ⟨n, hn⟩ : ∃ n : Nat, M 73 1 = (n : Int) := ⟨(M 73 1).toNat, by omega⟩
  have e0 : M 0 4 = (n : Int) := by rw [← hn]; exact r2.2.1
  have e73 : (am_up M 72 6 0) 73 = M 73 := am_up_ne M 72 6 0 (by decide)
  by_cases h : 0 ≤ b ∧ b < (n : Int)
  · by_cases hcc : 0 ≤ c ∧ c ≤ 9
    · by_cases hw : 0 ≤ a ∧ a ≤ 51
      · obtain ⟨w, rfl⟩ : ∃ w : Nat, a = (w : Int) := ⟨a.toNat, by omega⟩
        obtain ⟨f, rfl⟩ : ∃ f : Nat, b = (f : Int) := ⟨b.toNat, by omega⟩
        obtain ⟨M1, M2, g1, g2, g3, g4, g5, g6, g7, g8, g9⟩ := both hR hn (w := w) (by omega)
        have hP := isP_rst r1 hn w
        have ef := g2.2.2.2.1.2.2.1
        have em : M2 72 24 = fls (M 73) (rst (M 73) w) n n := by rw [← g6]; rw [← g6] at g5; exact g5.2.2.2.2.2.2.2.1
        by_cases q : c < 4 ∨ fls (M 73) (rst (M 73) w) n n = 0
        · obtain ⟨r, x1, x2⟩ := parts_eq r1 hn hP g2 g5 g6 (f := f) (by omega) c hcc q
          refine ⟨r, M1, M2, ?_, ?_, g8⟩
          · rw [e_Desk_inTurn, p_lacksField, am_cb_s, e0, if_pos h, if_pos rfl, if_neg (by omega), if_neg (by omega), p_isNoWeek, am_cb_s, if_pos hw, if_pos rfl, g1, am_cb_s, ef]
            by_cases q1 : fls (M 73) (rst (M 73) w) n n = 0
            · rw [if_pos q1, x1, am_cb_s]
            · rw [if_neg q1, if_pos (by omega), x1, am_cb_s]
          · rw [e_Model_inTurn, p_isF M M1 _ n (by omega) hn g3, am_cb_s, if_pos h, if_neg (by decide), p_isIn, am_cb_s, if_pos hcc, if_neg (by decide), p_isWeek, am_cb_s, if_pos hw, if_neg (by decide), g4, am_cb_s, em]
            by_cases q1 : 3 < c
            · rw [if_pos q1, if_pos (by omega), x2]
            · rw [if_neg q1, x2]
        · have q1 : ¬ fls (M 73) (rst (M 73) w) n n = 0 := fun h => q (Or.inr h)
          have q2 : ¬ c < 4 := fun h => q (Or.inl h)
          refine ⟨-6, M1, M2, ?_, ?_, g8⟩
          · rw [e_Desk_inTurn, p_lacksField, am_cb_s, e0, if_pos h, if_pos rfl, if_neg (by omega), if_neg (by omega), p_isNoWeek, am_cb_s, if_pos hw, if_pos rfl, g1, am_cb_s, ef, if_neg q1, if_neg q2]
          · rw [e_Model_inTurn, p_isF M M1 _ n (by omega) hn g3, am_cb_s, if_pos h, if_neg (by decide), p_isIn, am_cb_s, if_pos hcc, if_neg (by decide), p_isWeek, am_cb_s, if_pos hw, if_neg (by decide), g4, am_cb_s, em, if_pos (by omega), if_neg q1]
      · refine ⟨-3, M, am_up M 72 6 0, ?_, ?_, hR2⟩
        · rw [e_Desk_inTurn, p_lacksField, am_cb_s, e0, if_pos h, if_pos rfl, if_neg (by omega), if_neg (by omega), p_isNoWeek, am_cb_s, if_neg hw, if_neg (by decide)]
        · rw [e_Model_inTurn, p_isF0 M _ n (by omega) hn, am_cb_s, if_pos h, if_neg (by decide), p_isIn, am_cb_s, if_pos hcc, if_neg (by decide), p_isWeek, am_cb_s, if_neg hw, if_pos rfl]
    · refine ⟨-2, M, am_up M 72 6 0, ?_, ?_, hR2⟩
      · rw [e_Desk_inTurn, p_lacksField, am_cb_s, e0, if_pos h, if_pos rfl]
        by_cases q : c < 0
        · rw [if_pos q]
        · rw [if_neg q, if_pos (by omega)]
      · rw [e_Model_inTurn, p_isF0 M _ n (by omega) hn, am_cb_s, if_pos h, if_neg (by decide), p_isIn, am_cb_s, if_neg hcc, if_pos rfl]
  · refine ⟨-2, M, am_up M 72 6 0, ?_, ?_, hR2⟩
    · rw [e_Desk_inTurn, p_lacksField, am_cb_s, e0, if_neg h, if_neg (by decide)]
    · rw [e_Model_inTurn, p_isF0 M _ n (by omega) hn, am_cb_s, if_neg h, if_pos rfl]
theorem o19 : lw_O19 RI := by
  intro a ha M hR hM
  have hR2 : RI (am_up M 72 6 0) := RI_mf (mf_up (mf.rf M) (by omega)) hR
  obtain ⟨r1, r2, r3, r4, r5, r6, r7, r8, r9, r10, r11⟩ := id hR
  have hb1 := r1.2.1
  obtain ⟨n, hn⟩ : ∃ n : Nat, M 73 1 = (n : Int) := ⟨(M 73 1).toNat, by omega⟩
  have e0 : M 0 4 = (n : Int) := by rw [← hn]; exact r2.2.1
  have e73 : (am_up M 72 6 0) 73 = M 73 := am_up_ne M 72 6 0 (by decide)
  by_cases hw : 0 ≤ a ∧ a ≤ 51
  · by_cases h0 : n = 0
    · refine ⟨-5, M, am_up M 72 6 0, ?_, ?_, hR2⟩
      · rw [e_Desk_net, p_isNoWeek, am_cb_s, if_pos hw, if_pos rfl, e0, if_pos (by omega)]
      · rw [e_Model_net, p_isWeek, am_cb_s, if_pos hw, if_neg (by decide), e73, hn, if_pos (by omega)]
    · obtain ⟨w, rfl⟩ : ∃ w : Nat, a = (w : Int) := ⟨a.toNat, by omega⟩
      obtain ⟨M1, M2, g1, g2, g3, g4, g5, g6, g7, g8, g9⟩ := both hR hn (w := w) (by omega)
      have f73 : (am_up M1 72 6 0) 73 = M 73 := by rw [am_up_ne _ _ _ _ (by decide), g3 73 (by omega)]
      have em : M2 72 23 = nets (M 73) (rst (M 73) w) n n := by rw [← g6]; rw [← g6] at g5; exact g5.2.2.2.2.2.2.1 (by omega)
      refine ⟨nets (M 73) (rst (M 73) w) n n, M1, M2, ?_, ?_, g8⟩
      · rw [e_Desk_net, p_isNoWeek, am_cb_s, if_pos hw, if_pos rfl, e0, if_neg (by omega), g1, am_cb_s, g2.2.2.2.1.2.1]
      · rw [e_Model_net, p_isWeek, am_cb_s, if_pos hw, if_neg (by decide), f73, hn, if_neg (by omega), g4, am_cb_s, em]
  · refine ⟨-3, M, am_up M 72 6 0, ?_, ?_, hR2⟩
    · rw [e_Desk_net, p_isNoWeek, am_cb_s, if_neg hw, if_neg (by decide)]
    · rw [e_Model_net, p_isWeek, am_cb_s, if_neg hw, if_pos rfl]
theorem o21 : lw_O21 RI := by
  intro a ha M hR hM
  have hR2 : RI (am_up M 72 6 0) := RI_mf (mf_up (mf.rf M) (by omega)) hR
  obtain ⟨r1, r2, r3, r4, r5, r6, r7, r8, r9, r10, r11⟩ := id hR
  have hb1 := r1.2.1
  obtain ⟨n, hn⟩ : ∃ n : Nat, M 73 1 = (n : Int) := ⟨(M 73 1).toNat, by omega⟩
  have e0 : M 0 4 = (n : Int) := by rw [← hn]; exact r2.2.1
  have e73 : (am_up M 72 6 0) 73 = M 73 := am_up_ne M 72 6 0 (by decide)
  by_cases hw : 0 ≤ a ∧ a ≤ 51
  · obtain ⟨w, rfl⟩ : ∃ w : Nat, a = (w : Int) := ⟨a.toNat, by omega⟩
    obtain ⟨M1, M2, g1, g2, g3, g4, g5, g6, g7, g8, g9⟩ := both hR hn (w := w) (by omega)
    have ef := g2.2.2.2.1.2.2.1
    have em : M2 72 24 = fls (M 73) (rst (M 73) w) n n := by rw [← g6]; rw [← g6] at g5; exact g5.2.2.2.2.2.2.2.1
    refine ⟨if fls (M 73) (rst (M 73) w) n n = 0 then 0 else 1, M1, M2, ?_, ?_, g8⟩
    · rw [e_Desk_fails, p_isNoWeek, am_cb_s, if_pos hw, if_pos rfl, g1, am_cb_s, ef]
      split <;> rfl
    · rw [e_Model_fails, p_isWeek, am_cb_s, if_pos hw, if_neg (by decide), g4, am_cb_s, em]
      split <;> rfl
  · refine ⟨-3, M, am_up M 72 6 0, ?_, ?_, hR2⟩
    · rw [e_Desk_fails, p_isNoWeek, am_cb_s, if_neg hw, if_neg (by decide)]
    · rw [e_Model_fails, p_isWeek, am_cb_s, if_neg hw, if_pos rfl]
/-- whether a lend of its own week counts: both say alike -/
theorem p_isLent {s o : Nat → Int} {n w : Nat} {M : am_M} (hv : vT s) (h : CX s o n w M) (h0 : fls s o n n = 0) {k : Nat} (hk : (k : Int) < s 3) : cY 266 [rV 46, iV (k : Int)] M = some (if lnt s o n w k = true then 1 else 0, M) := by
  have hb3 := hv.2.2.2.1
  have hb := bts_lt31 (lnt s o n w) (k := (s 3).toNat) (by omega)
  have e := (h.2.2.2.1.2.2.2 h0).2
  rw [e_WeekPlan_isLent, e, b_bit hb (by omega), bts_bit, decide_eq_true (show k < (s 3).toNat by omega), Bool.true_and]
  by_cases q : lnt s o n w k = true
  · rw [if_pos q, if_pos rfl]
  · rw [if_neg q, if_neg (by decide)]
theorem p_voidBit {o : Nat → Int} {n w : Nat} {M : am_M} (h : MX o n w M) (h0 : fls (M 73) o n n = 0) {k : Nat} (hk : (k : Int) < M 73 3) (hw : M 73 (118 + 4 * k) = (w : Int)) : am_and (am_shr (M 72 25) (k : Int)) 1 = if lnt (M 73) o n w k = true then 0 else 1 := by
  obtain ⟨hv, hn, hP, hw5, hW⟩ := h
  have hb3 := hv.2.2.2.1
  have hb := bts_lt31 (vnt (M 73) o n w) (k := (M 73 3).toNat) (by omega)
  have e := (hW.2.2.2.2.1 h0).2
  have ev : vnt (M 73) o n w k = !lnt (M 73) o n w k := by unfold vnt; rw [decide_eq_true hw, Bool.true_and]
  rw [e, b_bit hb (by omega), bts_bit, decide_eq_true (show k < (M 73 3).toNat by omega), Bool.true_and, ev]
  by_cases q : lnt (M 73) o n w k = true
  · rw [if_pos q, q]; rfl
  · rw [if_neg q]
    rw [Bool.not_eq_true] at q
    rw [q]; rfl
theorem o22 : lw_O22 RI := by
  intro a ha M hR hM
  have hR2 : RI (am_up M 72 6 0) := RI_mf (mf_up (mf.rf M) (by omega)) hR
  obtain ⟨r1, r2, r3, r4, r5, r6, r7, r8, r9, r10, r11⟩ := id hR
  have hb1 := r1.2.1
  obtain ⟨n, hn⟩ : ∃ n : Nat, M 73 1 = (n : Int) := ⟨(M 73 1).toNat, by omega⟩
  have e0 : M 0 4 = (n : Int) := by rw [← hn]; exact r2.2.1
  have e73 : (am_up M 72 6 0) 73 = M 73 := am_up_ne M 72 6 0 (by decide)
  have hb3 := r1.2.2.2.1
  have e3 : M 13 3 = M 73 3 := r2.2.2.2.1
  by_cases h0 : a < 0
  · refine ⟨-3, M, am_up M 72 6 0, ?_, ?_, hR2⟩
    · rw [e_Desk_isVoid, if_pos h0]
    · rw [e_Model_isVoid, if_pos h0]
  · by_cases h1 : a < M 73 3
    · obtain ⟨k, rfl⟩ : ∃ k : Nat, a = (k : Int) := ⟨a.toNat, by omega⟩
      have hl := r1.2.2.2.2.2.2.2.2.2.2.1 k h1
      obtain ⟨w, hw⟩ : ∃ w : Nat, M 73 (118 + 4 * k) = (w : Int) := ⟨(M 73 (118 + 4 * k)).toNat, by omega⟩
      obtain ⟨M1, M2, g1, g2, g3, g4, g5, g6, g7, g8, g9⟩ := both hR hn (w := w) (by omega)
      have hQ : cQ (M 73) M := cQ_of r1 r2 r3 (md.rf _)
      have hc := (p_lcell M (M 73) hQ.2.2.1 r1 k h1).1
      rw [hw] at hc
      have ef := g2.2.2.2.1.2.2.1
      have em : M2 72 24 = fls (M 73) (rst (M 73) w) n n := by rw [← g6]; rw [← g6] at g5; exact g5.2.2.2.2.2.2.2.1
      have f73 : (am_up M1 72 6 0) 73 = M 73 := by rw [am_up_ne _ _ _ _ (by decide), g3 73 (by omega)]
      have m73 : M1 73 = M 73 := g3 73 (by omega)
      by_cases q : fls (M 73) (rst (M 73) w) n n = 0
      · have hx := p_isLent r1 g2 q h1
        have hy := p_voidBit g5 (by rw [g6]; exact q) (k := k) (by rw [g6]; exact h1) (by rw [g6]; exact hw)
        rw [g6] at hy
        refine ⟨if lnt (M 73) (rst (M 73) w) n w k = true then 0 else 1, M1, M2, ?_, ?_, g8⟩
        · rw [e_Desk_isVoid, if_neg h0, e3, if_pos h1, hc, am_cb_s, g1, am_cb_s, ef, if_pos q, hx, am_cb_s]
          by_cases c : lnt (M 73) (rst (M 73) w) n w k = true
          · rw [if_pos c, if_pos c, if_neg (by decide)]
          · rw [if_neg c, if_neg c, if_pos rfl]
        · rw [e_Model_isVoid, if_neg h0, m73, if_pos h1, r_ck_ok (by omega) (by omega), r_ck_ok (by omega) (by omega), r_bd_ok (by omega) (by omega), show (118 + 4 * (k : Int)).toNat = 118 + 4 * k by omega, hw, g4, am_cb_s, em, if_pos q, hy]
      · refine ⟨-6, M1, M2, ?_, ?_, g8⟩
        · rw [e_Desk_isVoid, if_neg h0, e3, if_pos h1, hc, am_cb_s, g1, am_cb_s, ef, if_neg q]
        · rw [e_Model_isVoid, if_neg h0, m73, if_pos h1, r_ck_ok (by omega) (by omega), r_ck_ok (by omega) (by omega), r_bd_ok (by omega) (by omega), show (118 + 4 * (k : Int)).toNat = 118 + 4 * k by omega, hw, g4, am_cb_s, em, if_neg q]
    · refine ⟨-1, M, am_up M 72 6 0, ?_, ?_, hR2⟩
      · rw [e_Desk_isVoid, if_neg h0, e3, if_neg h1]
      · rw [e_Model_isVoid, if_neg h0, if_neg h1]
theorem o23 : lw_O23 RI := by
  intro a b ha hb M hR hM
  have hR2 : RI (am_up M 72 6 0) := RI_mf (mf_up (mf.rf M) (by omega)) hR
  obtain ⟨r1, r2, r3, r4, r5, r6, r7, r8, r9, r10, r11⟩ := id hR
  have hb1 := r1.2.1
  obtain ⟨n, hn⟩ : ∃ n : Nat, M 73 1 = (n : Int) := ⟨(M 73 1).toNat, by omega⟩
  have e0 : M 0 4 = (n : Int) := by rw [← hn]; exact r2.2.1
  have e73 : (am_up M 72 6 0) 73 = M 73 := am_up_ne M 72 6 0 (by decide)
  by_cases h : 0 ≤ b ∧ b < (n : Int)
  · by_cases hw : 0 ≤ a ∧ a ≤ 51
    · obtain ⟨w, rfl⟩ : ∃ w : Nat, a = (w : Int) := ⟨a.toNat, by omega⟩
      obtain ⟨f, rfl⟩ : ∃ f : Nat, b = (f : Int) := ⟨b.toNat, by omega⟩
      obtain ⟨M1, M2, g1, g2, g3, g4, g5, g6, g7, g8, g9⟩ := both hR hn (w := w) (by omega)
      have hP := isP_rst r1 hn w
      have hm := p_mwaterOf g5 (f := f) (by omega)
      rw [g6] at hm
      refine ⟨wtr (M 73) (rst (M 73) w) n w f, M1, M2, ?_, ?_, g8⟩
      · rw [e_Desk_water, p_lacksField, am_cb_s, e0, if_pos h, if_pos rfl, p_isNoWeek, am_cb_s, if_pos hw, if_pos rfl, g1, am_cb_s, p_waterOf r1 hn hP g2 (by omega), am_cb_s]
      · rw [e_Model_water, p_isF M M1 _ n (by omega) hn g3, am_cb_s, if_pos h, if_neg (by decide), p_isWeek, am_cb_s, if_pos hw, if_neg (by decide), g4, am_cb_s, hm, am_cb_s]
    · refine ⟨-3, M, am_up M 72 6 0, ?_, ?_, hR2⟩
      · rw [e_Desk_water, p_lacksField, am_cb_s, e0, if_pos h, if_pos rfl, p_isNoWeek, am_cb_s, if_neg hw, if_neg (by decide)]
      · rw [e_Model_water, p_isF0 M _ n (by omega) hn, am_cb_s, if_pos h, if_neg (by decide), p_isWeek, am_cb_s, if_neg hw, if_pos rfl]
  · refine ⟨-2, M, am_up M 72 6 0, ?_, ?_, hR2⟩
    · rw [e_Desk_water, p_lacksField, am_cb_s, e0, if_neg h, if_neg (by decide)]
    · rw [e_Model_water, p_isF0 M _ n (by omega) hn, am_cb_s, if_neg h, if_pos rfl]
theorem o27 : lw_O27 RI := by
  intro a b ha hb M hR hM
  have hR2 : RI (am_up M 72 6 0) := RI_mf (mf_up (mf.rf M) (by omega)) hR
  obtain ⟨r1, r2, r3, r4, r5, r6, r7, r8, r9, r10, r11⟩ := id hR
  have hb1 := r1.2.1
  obtain ⟨n, hn⟩ : ∃ n : Nat, M 73 1 = (n : Int) := ⟨(M 73 1).toNat, by omega⟩
  have e0 : M 0 4 = (n : Int) := by rw [← hn]; exact r2.2.1
  have e73 : (am_up M 72 6 0) 73 = M 73 := am_up_ne M 72 6 0 (by decide)
  by_cases h : 0 ≤ b ∧ b < (n : Int)
  · by_cases hw : 0 ≤ a ∧ a ≤ 51
    · obtain ⟨w, rfl⟩ : ∃ w : Nat, a = (w : Int) := ⟨a.toNat, by omega⟩
      obtain ⟨f, rfl⟩ : ∃ f : Nat, b = (f : Int) := ⟨b.toNat, by omega⟩
      obtain ⟨M1, M2, g1, g2, g3, g4, g5, g6, g7, g8, g9⟩ := both hR hn (w := w) (by omega)
      have hP := isP_rst r1 hn w
      have hm := p_mdepthOf g5 (f := f) (by omega)
      rw [g6] at hm
      refine ⟨dpt (M 73) (rst (M 73) w) n w f, M1, M2, ?_, ?_, g8⟩
      · rw [e_Desk_depth, p_lacksField, am_cb_s, e0, if_pos h, if_pos rfl, p_isNoWeek, am_cb_s, if_pos hw, if_pos rfl, g1, am_cb_s, p_depthOf r1 hn hP g2 (by omega), am_cb_s]
      · rw [e_Model_depth, p_isF M M1 _ n (by omega) hn g3, am_cb_s, if_pos h, if_neg (by decide), p_isWeek, am_cb_s, if_pos hw, if_neg (by decide), g4, am_cb_s, hm, am_cb_s]
    · refine ⟨-3, M, am_up M 72 6 0, ?_, ?_, hR2⟩
      · rw [e_Desk_depth, p_lacksField, am_cb_s, e0, if_pos h, if_pos rfl, p_isNoWeek, am_cb_s, if_neg hw, if_neg (by decide)]
      · rw [e_Model_depth, p_isF0 M _ n (by omega) hn, am_cb_s, if_pos h, if_neg (by decide), p_isWeek, am_cb_s, if_neg hw, if_pos rfl]
  · refine ⟨-2, M, am_up M 72 6 0, ?_, ?_, hR2⟩
    · rw [e_Desk_depth, p_lacksField, am_cb_s, e0, if_neg h, if_neg (by decide)]
    · rw [e_Model_depth, p_isF0 M _ n (by omega) hn, am_cb_s, if_neg h, if_pos rfl]
-- all together
theorem sm_bd {g : Nat → Int} {B : Int} : ∀ n : Nat, (∀ f, f < n → 0 ≤ g f ∧ g f ≤ B) → 0 ≤ sm g n ∧ sm g n ≤ B * (n : Int) := by
  intro n
  induction n with
  | zero => intro _; show (0 : Int) ≤ 0 ∧ (0 : Int) ≤ B * ((0 : Nat) : Int); rw [show ((0 : Nat) : Int) = 0 from rfl, Int.mul_zero]; omega
  | succ n ih =>
    intro h
    have h1 := ih (fun f hf => h f (by omega))
    have h2 := h n (by omega)
    show 0 ≤ sm g n + g n ∧ sm g n + g n ≤ B * ((n + 1 : Nat) : Int)
    rw [show ((n + 1 : Nat) : Int) = (n : Int) + 1 from rfl, Int.mul_add, Int.mul_one]
    omega
theorem p_waterTogether {s o : Nat → Int} {n w : Nat} {M : am_M} (hv : vT s) (hn : s 1 = (n : Int)) (hP : isP n o) (h : CX s o n w M) : cY 272 [rV 46] M = some (sm (wtr s o n w) n, M) := by
  have hb1 := hv.2.1
  have e04 : M 0 4 = (n : Int) := by rw [h.1.1.1, hn]
  rw [e_WeekPlan_waterTogether]
  have L : ∀ (j k : Nat) (d : Option am_V), k + j = n → cX 272 4 [some (rV 46), some (lV (sm (wtr s o n w) k)), d, some (iV (k : Int))] [] M = some (sm (wtr s o n w) n, M) := by
    intro j
    induction j with
    | zero => intro k d hk; have e : k = n := by omega
              subst e; rw [e_WeekPlan_waterTogether_4, e04, if_neg (by omega)]
    | succ j ih =>
      intro k d hk
      have b1 := sm_bd (B := 10669320) k (fun f hf => wtr_bd hv hn hP w (f := f) (by omega))
      have b2 := wtr_bd hv hn hP w (f := k) (by omega)
      rw [e_WeekPlan_waterTogether_4, e04, if_pos (by omega), p_waterOf hv hn hP h (f := k) (by omega), am_cb_s, r_cl_ok (by omega) (by omega), r_ck_ok (by omega) (by omega)]
      exact ih (k + 1) none (by omega)
  exact L n 0 none (by omega)
theorem p_waterOfAll {M M2 : am_M} {o : Nat → Int} {n w : Nat} (h1 : cY 109 [rV 72, iV (w : Int)] M = some (0, M2)) (h : MX o n w M2) : cY 124 [rV 72, iV (w : Int)] M = some (sm (wtr (M2 73) o n w) n, M2) := by
  obtain ⟨hv, hn, hP, -⟩ := id h
  have hb1 := hv.2.1
  rw [e_Model_waterOfAll, h1, am_cb_s]
  have L : ∀ (j k : Nat) (d : Option am_V), k + j = n → cX 124 7 [some (rV 72), some (iV (w : Int)), some (lV (sm (wtr (M2 73) o n w) k)), d, some (iV (k : Int))] [] M2 = some (sm (wtr (M2 73) o n w) n, M2) := by
    intro j
    induction j with
    | zero => intro k d hk; have e : k = n := by omega
              subst e; rw [e_Model_waterOfAll_7, hn, if_neg (by omega)]
    | succ j ih =>
      intro k d hk
      have b1 := sm_bd (B := 10669320) k (fun f hf => wtr_bd hv hn hP w (f := f) (by omega))
      have b2 := wtr_bd hv hn hP w (f := k) (by omega)
      rw [e_Model_waterOfAll_7, hn, if_pos (by omega), p_mwaterOf h (f := k) (by omega), am_cb_s, r_cl_ok (by omega) (by omega), r_ck_ok (by omega) (by omega)]
      exact ih (k + 1) none (by omega)
  exact L n 0 none (by omega)
theorem o24 : lw_O24 RI := by
  intro a ha M hR hM
  have hR2 : RI (am_up M 72 6 0) := RI_mf (mf_up (mf.rf M) (by omega)) hR
  obtain ⟨r1, r2, r3, r4, r5, r6, r7, r8, r9, r10, r11⟩ := id hR
  have hb1 := r1.2.1
  obtain ⟨n, hn⟩ : ∃ n : Nat, M 73 1 = (n : Int) := ⟨(M 73 1).toNat, by omega⟩
  have e0 : M 0 4 = (n : Int) := by rw [← hn]; exact r2.2.1
  have e73 : (am_up M 72 6 0) 73 = M 73 := am_up_ne M 72 6 0 (by decide)
  by_cases hw : 0 ≤ a ∧ a ≤ 51
  · obtain ⟨w, rfl⟩ : ∃ w : Nat, a = (w : Int) := ⟨a.toNat, by omega⟩
    obtain ⟨M1, M2, g1, g2, g3, g4, g5, g6, g7, g8, g9⟩ := both hR hn (w := w) (by omega)
    have hP := isP_rst r1 hn w
    have hm := p_waterOfAll g4 g5
    rw [g6] at hm
    refine ⟨sm (wtr (M 73) (rst (M 73) w) n w) n, M1, M2, ?_, ?_, g8⟩
    · rw [e_Desk_all, p_isNoWeek, am_cb_s, if_pos hw, if_pos rfl, g1, am_cb_s, p_waterTogether r1 hn hP g2, am_cb_s]
    · rw [e_Model_all, p_isWeek, am_cb_s, if_pos hw, if_neg (by decide), hm, am_cb_s]
  · refine ⟨-3, M, am_up M 72 6 0, ?_, ?_, hR2⟩
    · rw [e_Desk_all, p_isNoWeek, am_cb_s, if_neg hw, if_neg (by decide)]
    · rw [e_Model_all, p_isWeek, am_cb_s, if_neg hw, if_pos rfl]
-- the first one that has most, or least
def fbs (x : Int) (g : Nat → Int) : Nat → Int
  | 0 => -1
  | k + 1 => if fbs x g k = -1 then (k : Int) else if (if x = 0 then g k < g (fbs x g k).toNat else g (fbs x g k).toNat < g k) then (k : Int) else fbs x g k
theorem fbs_bd (x : Int) (g : Nat → Int) : ∀ k, -1 ≤ fbs x g k ∧ fbs x g k < (k : Int) ∧ (1 ≤ k → 0 ≤ fbs x g k) := by
  intro k
  induction k with
  | zero => exact ⟨by show (-1 : Int) ≤ -1; omega, by show (-1 : Int) < 0; omega, fun h => by omega⟩
  | succ k ih =>
    show -1 ≤ (if fbs x g k = -1 then (k : Int) else if (if x = 0 then g k < g (fbs x g k).toNat else g (fbs x g k).toNat < g k) then (k : Int) else fbs x g k) ∧ (if fbs x g k = -1 then (k : Int) else if (if x = 0 then g k < g (fbs x g k).toNat else g (fbs x g k).toNat < g k) then (k : Int) else fbs x g k) < ((k + 1 : Nat) : Int) ∧ (1 ≤ k + 1 → 0 ≤ (if fbs x g k = -1 then (k : Int) else if (if x = 0 then g k < g (fbs x g k).toNat else g (fbs x g k).toNat < g k) then (k : Int) else fbs x g k))
    split
    · omega
    · split <;> omega
def fbv (x : Int) (g : Nat → Int) (k : Nat) : Int := if k = 0 then 0 else g (fbs x g k).toNat
theorem o28 : lw_O28 RI := by
  intro a b ha hb M hR hM
  have hR2 : RI (am_up M 72 6 0) := RI_mf (mf_up (mf.rf M) (by omega)) hR
  obtain ⟨r1, r2, r3, r4, r5, r6, r7, r8, r9, r10, r11⟩ := id hR
  have hb1 := r1.2.1
  obtain ⟨n, hn⟩ : ∃ n : Nat, M 73 1 = (n : Int) := ⟨(M 73 1).toNat, by omega⟩
  have e0 : M 0 4 = (n : Int) := by rw [← hn]; exact r2.2.1
  have e73 : (am_up M 72 6 0) 73 = M 73 := am_up_ne M 72 6 0 (by decide)
  by_cases hw : 0 ≤ a ∧ a ≤ 51
  · obtain ⟨w, rfl⟩ : ∃ w : Nat, a = (w : Int) := ⟨a.toNat, by omega⟩
    obtain ⟨M1, M2, g1, g2, g3, g4, g5, g6, g7, g8, g9⟩ := both hR hn (w := w) (by omega)
    have hP := isP_rst r1 hn w
    have e04 : M1 0 4 = (n : Int) := by rw [g2.1.1.1, hn]
    have e731 : M2 73 1 = (n : Int) := by rw [g6]; exact hn
    generalize hg : dpt (M 73) (rst (M 73) w) n w = g
    have dc : ∀ k, k < n → cY 273 [rV 46, iV (k : Int)] M1 = some (g k, M1) := fun k hk => by rw [p_depthOf r1 hn hP g2 hk, hg]
    have dm : ∀ k, k < n → cY 129 [rV 72, iV (w : Int), iV (k : Int)] M2 = some (g k, M2) := fun k hk => by rw [p_mdepthOf g5 hk, g6, hg]
    have Lc : ∀ (j k : Nat) (d1 d5 d7 d8 : Option am_V), k + j = n → cX 30 14 [some (rV 70), d1, some (iV b), some (iV (fbs b g k)), some (lV (fbv b g k)), d5, some (iV (k : Int)), d7, d8] [] M1 = some (fbs b g n, M1) := by
      intro j
      induction j with
      | zero => intro k d1 d5 d7 d8 hk; have e : k = n := by omega
                subst e; rw [e_Desk_first_14, e04, if_neg (by omega)]
      | succ j ih =>
        intro k d1 d5 d7 d8 hk
        have hfb := fbs_bd b g k
        have es : fbs b g (k + 1) = if fbs b g k = -1 then (k : Int) else if (if b = 0 then g k < g (fbs b g k).toNat else g (fbs b g k).toNat < g k) then (k : Int) else fbs b g k := rfl
        have ev : fbv b g (k + 1) = g (fbs b g (k + 1)).toNat := if_neg (by omega)
        rw [e_Desk_first_14, e04, if_pos (by omega), dc k (by omega), am_cb_s]
        have i1 := fun d7 => ih (k + 1) none none d7 none (by omega)
        rw [ev, es] at i1
        by_cases q : fbs b g k = -1
        · simp only [if_pos q, Int.toNat_natCast] at i1
          rw [if_pos q, r_ck_ok (by omega) (by omega)]
          exact i1 _
        · have hk0 : k ≠ 0 := fun h => q (by rw [h]; rfl)
          have ev0 : fbv b g k = g (fbs b g k).toNat := if_neg hk0
          simp only [if_neg q] at i1
          rw [if_neg q, ev0]
          by_cases hb0 : b = 0
          · simp only [if_pos hb0] at i1
            rw [if_pos hb0]
            by_cases c : g k < g (fbs b g k).toNat
            · simp only [if_pos c, Int.toNat_natCast] at i1
              rw [if_pos c, r_ck_ok (by omega) (by omega)]
              exact i1 _
            · simp only [if_neg c] at i1
              rw [if_neg c]
              split
              · rw [r_ck_ok (by omega) (by omega)]; exact i1 _
              · rw [r_ck_ok (by omega) (by omega)]; exact i1 _
          · simp only [if_neg hb0] at i1
            rw [if_neg hb0]
            by_cases c : g (fbs b g k).toNat < g k
            · simp only [if_pos c, Int.toNat_natCast] at i1
              rw [if_neg (by omega), if_neg (by omega), r_ck_ok (by omega) (by omega)]
              exact i1 _
            · simp only [if_neg c] at i1
              split
              · rw [r_ck_ok (by omega) (by omega)]; exact i1 _
              · rw [if_pos (by omega), r_ck_ok (by omega) (by omega)]; exact i1 _
    have Lm : ∀ (j k : Nat), k + j = n → cX 131 15 [some (rV 72), some (iV (w : Int)), some (iV b), some (iV (fbs b g k)), some (iV (k : Int))] [] M2 = some (fbs b g n, M2) := by
      intro j
      induction j with
      | zero => intro k hk; have e : k = n := by omega
                subst e; rw [e_Model_first_15, e731, if_neg (by omega)]
      | succ j ih =>
        intro k hk
        have hfb := fbs_bd b g k
        have es : fbs b g (k + 1) = if fbs b g k = -1 then (k : Int) else if (if b = 0 then g k < g (fbs b g k).toNat else g (fbs b g k).toNat < g k) then (k : Int) else fbs b g k := rfl
        rw [e_Model_first_15, e731, if_pos (by omega)]
        have i1 := ih (k + 1) (by omega)
        rw [es] at i1
        by_cases q : fbs b g k = -1
        · simp only [if_pos q] at i1
          rw [if_pos q, r_ck_ok (by omega) (by omega)]
          exact i1
        · obtain ⟨v, hv⟩ : ∃ v : Nat, fbs b g k = (v : Int) := ⟨(fbs b g k).toNat, by omega⟩
          simp only [if_neg q] at i1
          rw [hv, Int.toNat_natCast] at i1
          rw [if_neg q, hv, dm k (by omega), am_cb_s, dm v (by omega), am_cb_s]
          by_cases hb0 : b = 0
          · simp only [if_pos hb0] at i1
            rw [if_pos hb0]
            by_cases c : g k < g v
            · simp only [if_pos c] at i1
              rw [if_pos c, r_ck_ok (by omega) (by omega)]
              exact i1
            · simp only [if_neg c] at i1
              rw [if_neg c]
              split
              · rw [r_ck_ok (by omega) (by omega)]; exact i1
              · rw [r_ck_ok (by omega) (by omega)]; exact i1
          · simp only [if_neg hb0] at i1
            rw [if_neg hb0, am_cb_s, dm v (by omega), am_cb_s]
            by_cases c : g v < g k
            · simp only [if_pos c] at i1
              rw [if_neg (by omega), if_neg (by omega), r_ck_ok (by omega) (by omega)]
              exact i1
            · simp only [if_neg c] at i1
              split
              · rw [r_ck_ok (by omega) (by omega)]; exact i1
              · rw [if_pos (by omega), r_ck_ok (by omega) (by omega)]; exact i1
    refine ⟨fbs b g n, M1, M2, ?_, ?_, g8⟩
    · rw [e_Desk_first, p_isNoWeek, am_cb_s, if_pos hw, if_pos rfl, g1, am_cb_s]
      exact Lc n 0 _ none none none (by omega)
    · rw [e_Model_first, p_isWeek, am_cb_s, if_pos hw, if_neg (by decide), g4, am_cb_s]
      exact Lm n 0 (by omega)
  · refine ⟨-3, M, am_up M 72 6 0, ?_, ?_, hR2⟩
    · rw [e_Desk_first, p_isNoWeek, am_cb_s, if_neg hw, if_neg (by decide)]
    · rw [e_Model_first, p_isWeek, am_cb_s, if_neg hw, if_pos rfl]
theorem o31 : lw_O31 RI := by
  intro a ha M hR hM
  have hR2 : RI (am_up M 72 6 0) := RI_mf (mf_up (mf.rf M) (by omega)) hR
  obtain ⟨r1, r2, r3, r4, r5, r6, r7, r8, r9, r10, r11⟩ := id hR
  have hb1 := r1.2.1
  obtain ⟨n, hn⟩ : ∃ n : Nat, M 73 1 = (n : Int) := ⟨(M 73 1).toNat, by omega⟩
  have e0 : M 0 4 = (n : Int) := by rw [← hn]; exact r2.2.1
  have e73 : (am_up M 72 6 0) 73 = M 73 := am_up_ne M 72 6 0 (by decide)
  by_cases hw : 0 ≤ a ∧ a ≤ 51
  · by_cases h0 : n = 0
    · refine ⟨-1, M, am_up M 72 6 0, ?_, ?_, hR2⟩
      · rw [e_Desk_tail, p_isNoWeek, am_cb_s, if_pos hw, if_pos rfl, e0, if_pos (by omega)]
      · rw [e_Model_tail, p_isWeek, am_cb_s, if_pos hw, if_neg (by decide), e73, hn, if_pos (by omega)]
    · obtain ⟨w, rfl⟩ : ∃ w : Nat, a = (w : Int) := ⟨a.toNat, by omega⟩
      obtain ⟨M1, M2, g1, g2, g3, g4, g5, g6, g7, g8, g9⟩ := both hR hn (w := w) (by omega)
      have hP := isP_rst r1 hn w
      have e04 : M1 0 4 = (n : Int) := by rw [g2.1.1.1, hn]
      have e731 : M2 73 1 = (n : Int) := by rw [g6]; exact hn
      have f73 : (am_up M1 72 6 0) 73 = M 73 := by rw [am_up_ne _ _ _ _ (by decide), g3 73 (by omega)]
      have b1 := edh_bd (M 73) n
      have b2 := edt_bd (M 73) n
      obtain ⟨x, hx⟩ : ∃ x : Nat, edh (M 73) n = (x : Int) := ⟨(edh (M 73) n).toNat, by omega⟩
      obtain ⟨y, hy⟩ : ∃ y : Nat, edt (M 73) n = (y : Int) := ⟨(edt (M 73) n).toNat, by omega⟩
      have q1 := p_headField M1 (M 73) n e04 (by omega) (fun f hf => g2.1.1.2.2 f (by omega))
      have q2 := p_tailField M1 (M 73) n e04 (by omega) (fun f hf => g2.1.1.2.2 f (by omega))
      have q3 := p_endOf0 M2 n e731 (by omega)
      have q4 := p_endOf1 M2 n e731 (by omega)
      rw [hx] at q1
      rw [hy] at q2
      rw [g6, hx] at q3
      rw [g6, hy] at q4
      have c1 := p_depthOf r1 hn hP g2 (f := x) (by omega)
      have c2 := p_depthOf r1 hn hP g2 (f := y) (by omega)
      have m1 := p_mdepthOf g5 (f := x) (by omega)
      have m2 := p_mdepthOf g5 (f := y) (by omega)
      rw [g6] at m1 m2
      have bx := dpt_bd r1 hn hP w (f := x) (by omega)
      have bz := dpt_bd r1 hn hP w (f := y) (by omega)
      generalize dpt (M 73) (rst (M 73) w) n w x = u at c1 m1 bx
      generalize dpt (M 73) (rst (M 73) w) n w y = v at c2 m2 bz
      by_cases q : u = 0
      · refine ⟨-1, M1, M2, ?_, ?_, g8⟩
        · rw [e_Desk_tail, p_isNoWeek, am_cb_s, if_pos hw, if_pos rfl, e0, if_neg (by omega), g1, am_cb_s, q1, am_cb_s, c1, am_cb_s, if_neg (by omega), if_pos q]
        · rw [e_Model_tail, p_isWeek, am_cb_s, if_pos hw, if_neg (by decide), f73, hn, if_neg (by omega), g4, am_cb_s, q3, am_cb_s, m1, am_cb_s, if_neg (by omega), if_pos q]
      · have hd : 0 ≤ Int.tdiv (v * 1000) u ∧ Int.tdiv (v * 1000) u ≤ v * 1000 := by
          rw [Int.tdiv_eq_ediv_of_nonneg (by omega)]
          exact ⟨Int.ediv_nonneg (by omega) (by omega), Int.ediv_le_self _ (by omega)⟩
        refine ⟨Int.tdiv (v * 1000) u, M1, M2, ?_, ?_, g8⟩
        · rw [e_Desk_tail, p_isNoWeek, am_cb_s, if_pos hw, if_pos rfl, e0, if_neg (by omega), g1, am_cb_s, q1, am_cb_s, c1, am_cb_s, if_neg (by omega), if_neg q, q2, am_cb_s, c2, am_cb_s, r_cl_ok (by omega) (by omega), if_neg q, r_cl_ok (by omega) (by omega)]
        · rw [e_Model_tail, p_isWeek, am_cb_s, if_pos hw, if_neg (by decide), f73, hn, if_neg (by omega), g4, am_cb_s, q3, am_cb_s, m1, am_cb_s, if_neg (by omega), if_neg q, q4, am_cb_s, m2, am_cb_s, r_cl_ok (by omega) (by omega), if_neg q, r_cl_ok (by omega) (by omega)]
  · refine ⟨-3, M, am_up M 72 6 0, ?_, ?_, hR2⟩
    · rw [e_Desk_tail, p_isNoWeek, am_cb_s, if_neg hw, if_neg (by decide)]
    · rw [e_Model_tail, p_isWeek, am_cb_s, if_neg hw, if_pos rfl]
