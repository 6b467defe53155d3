-- who has a minute
theorem bgn_mono {n : Nat} {o g : Nat → Int} (hP : isP n o) (hg : ∀ f, f < n → 0 ≤ g f) {i j : Nat} (hij : i ≤ j) (hj : j ≤ n) : bgn o g i ≤ bgn o g j := by
  rw [bgn_sm, bgn_sm]
  have h := sm_mono (g := fun p => g (o p).toNat) (n := n) (fun p hp => hg _ (by have := hP.1 p hp; omega)) i (j - i) (by omega)
  rw [show i + (j - i) = j by omega] at h
  exact h
theorem bgn_end {s o : Nat → Int} {n : Nat} (hv : vT s) (hn : s 1 = (n : Int)) (hP : isP n o) (w : Nat) (h0 : fls s o n n = 0) (h1 : 1 ≤ n) : bgn o (lF s o n w) n = 10080 := by
  have hb3 := hv.2.2.2.1
  have h := (lns_ok hv hn hP w (fls_0 n h0) (s 3).toNat (by omega)).2
  rw [trn_sm hv hn hP h1] at h
  rw [bgn_sm, sm_o hP]
  exact h
theorem hold_ex {B : Nat → Int} {m : Int} (h0 : B 0 ≤ m) : ∀ k, m < B k → ∃ p, p < k ∧ B p ≤ m ∧ m < B (p + 1) := by
  intro k
  induction k with
  | zero => intro h; omega
  | succ k ih =>
    intro h
    by_cases c : m < B k
    · obtain ⟨p, p1, p2, p3⟩ := ih c
      exact ⟨p, by omega, p2, p3⟩
    · exact ⟨k, by omega, by omega, h⟩
theorem hold_f {s o : Nat → Int} {n w : Nat} (hP : isP n o) {p : Nat} (hp : p < n) : bF s o n w (o p).toNat = bgn o (lF s o n w) p ∧ bF s o n w (o p).toNat + lF s o n w (o p).toNat = bgn o (lF s o n w) (p + 1) := by
  have e : bF s o n w (o p).toNat = bgn o (lF s o n w) p := by unfold bF; rw [pl_at hP hp]
  exact ⟨e, by rw [e]; rfl⟩
/-- of a week that doesn't fail, the place of the one that has a minute -/
theorem hold_w {s o : Nat → Int} {n w : Nat} (hv : vT s) (hn : s 1 = (n : Int)) (hP : isP n o) (h0 : fls s o n n = 0) (h1 : 1 ≤ n) {m : Int} (hm : 0 ≤ m ∧ m < 10080) : ∃ p f : Nat, p < n ∧ f < n ∧ o p = (f : Int) ∧ (∀ q, q < p → bgn o (lF s o n w) (q + 1) ≤ m) ∧ m < bgn o (lF s o n w) (p + 1) ∧ ∀ g, g < n → ((bF s o n w g ≤ m ∧ m < bF s o n w g + lF s o n w g) ↔ g = f) := by
  have hb3 := hv.2.2.2.1
  have hl := fun f hf => (week_ok hv hn hP w h0 (f := f) hf).1
  obtain ⟨p, p1, p2, p3⟩ := hold_ex (B := bgn o (lF s o n w)) (m := m) hm.1 n (by rw [bgn_end hv hn hP w h0 h1]; exact hm.2)
  have hop := hP.1 p p1
  refine ⟨p, (o p).toNat, p1, by omega, by omega, fun q hq => ?_, p3, fun g hg => ?_⟩
  · have := bgn_mono hP hl (i := q + 1) (j := p) (by omega) (by omega)
    omega
  · obtain ⟨g1, g2⟩ := pl_o hP hg
    obtain ⟨x1, x2⟩ := hold_f (s := s) (w := w) hP g1
    rw [g2, Int.toNat_natCast] at x1 x2
    rw [x2, x1]
    constructor
    · rintro ⟨y1, y2⟩
      have : pl o n g = p := by
        rcases Nat.lt_trichotomy (pl o n g) p with c | c | c
        · have := bgn_mono hP hl (i := pl o n g + 1) (j := p) (by omega) (by omega); omega
        · exact c
        · have := bgn_mono hP hl (i := p + 1) (j := pl o n g) (by omega) (by omega); omega
      rw [← this, g2, Int.toNat_natCast]
    · intro e
      have : pl o n g = p := by rw [e]; exact pl_at hP p1
      rw [this]
      exact ⟨p2, p3⟩
theorem p_holderAt {s o : Nat → Int} {n w : Nat} {M : am_M} (hv : vT s) (hn : s 1 = (n : Int)) (hP : isP n o) (h : CX s o n w M) (h0 : fls s o n n = 0) {m : Int} {p : Nat} (hp : p < n) (h1 : ∀ q, q < p → bgn o (lF s o n w) (q + 1) ≤ m) (h2 : m < bgn o (lF s o n w) (p + 1)) : cY 277 [rV 46, iV m] M = some (o p, M) := by
  have hb1 := hv.2.1
  have e04 : M 0 4 = (n : Int) := by rw [h.1.1.1, hn]
  have hW := h.2.2.2.1.2.2.2 h0
  have st : ∀ q, q < n → ∀ d, cX 277 2 [some (rV 46), some (iV m), some (iV (q : Int)), d] [] M = if m < bgn o (lF s o n w) (q + 1) then some (o q, M) else cX 277 2 [some (rV 46), some (iV m), some (iV ((q + 1 : Nat) : Int)), some (iV (o q))] [] M := fun q hq d => by
    have hoq := hP.1 q hq
    have hk := week_ok hv hn hP w h0 (f := (o q).toNat) (by omega)
    have hf := hold_f (s := s) (w := w) hP hq
    obtain ⟨f, hf'⟩ : ∃ f : Nat, o q = (f : Int) := ⟨(o q).toNat, by omega⟩
    rw [hf', Int.toNat_natCast] at hk hf
    obtain ⟨e53, e54⟩ := hW.1 f (by omega)
    rw [e_WeekPlan_holderAt_2, e04, if_pos (by omega), r_bd_ok (by omega) (by omega), Int.toNat_natCast, h.2.2.2.2 q hq, hf', r_bd_ok (by omega) (by omega), r_bd_ok (by omega) (by omega), Int.toNat_natCast, e53, e54, r_ck_ok (by omega) (by omega), hf.2, r_ck_ok (by omega) (by omega)]
    rfl
  have L : ∀ (j k : Nat) (d : Option am_V), k + j = p → cX 277 2 [some (rV 46), some (iV m), some (iV (k : Int)), d] [] M = some (o p, M) := by
    intro j
    induction j with
    | zero => intro k d hk; have e : k = p := by omega
              subst e; rw [st k hp d, if_pos h2]
    | succ j ih =>
      intro k d hk
      have := h1 k (by omega)
      rw [st k (by omega) d, if_neg (by omega)]
      exact ih (k + 1) _ (by omega)
  rw [e_WeekPlan_holderAt]
  exact L p 0 none (by omega)
theorem p_whoseOf {o : Nat → Int} {n w : Nat} {M : am_M} (h : MX o n w M) (h0 : fls (M 73) o n n = 0) {m : Int} {f : Nat} (hf : f < n) (hu : ∀ g, g < n → ((bF (M 73) o n w g ≤ m ∧ m < bF (M 73) o n w g + lF (M 73) o n w g) ↔ g = f)) : cY 126 [rV 72, iV m] M = some ((f : Int), M) := by
  obtain ⟨hv, hn, hP, hw, hW⟩ := h
  have hb1 := hv.2.1
  have L : ∀ (j k : Nat), k + j = n → cX 126 4 [some (rV 72), some (iV m), some (iV (if f < k then (f : Int) else -1)), some (iV (k : Int))] [] M = some ((f : Int), M) := by
    intro j
    induction j with
    | zero => intro k hk; have e : k = n := by omega
              subst e; rw [e_Model_whoseOf_4, hn, if_neg (by omega), if_pos hf]
    | succ j ih =>
      intro k hk
      have hkk := week_ok hv hn hP w h0 (f := k) (by omega)
      obtain ⟨e85, e86⟩ := (hW.2.2.2.2.1 h0).1 k (by omega)
      have hi := ih (k + 1) (by omega)
      have hq := hu k (by omega)
      rw [e_Model_whoseOf_4, hn, if_pos (by omega), r_bd_ok (by omega) (by omega), r_bd_ok (by omega) (by omega), r_bd_ok (by omega) (by omega), Int.toNat_natCast, e85, e86, r_ck_ok (by omega) (by omega), r_ck_ok (by omega) (by omega), p_isIn, am_cb_s]
      by_cases c : k = f
      · have := hq.mpr c
        subst c
        rw [if_pos (show k < k + 1 by omega)] at hi
        rw [if_pos (show bF (M 73) o n w k ≤ m ∧ m ≤ bF (M 73) o n w k + lF (M 73) o n w k - 1 from ⟨this.1, by omega⟩), if_neg (by decide), r_ck_ok (by omega) (by omega)]
        exact hi
      · have hnot : ¬ (bF (M 73) o n w k ≤ m ∧ m ≤ bF (M 73) o n w k + lF (M 73) o n w k - 1) := fun x => c (hq.mp ⟨x.1, by omega⟩)
        have e2 : (if f < k + 1 then (f : Int) else -1) = if f < k then (f : Int) else -1 := by
          by_cases z : f < k
          · rw [if_pos z, if_pos (by omega)]
          · rw [if_neg z, if_neg (by omega)]
        rw [e2] at hi
        rw [if_neg hnot, if_pos rfl, r_ck_ok (by omega) (by omega)]
        exact hi
  rw [e_Model_whoseOf]
  exact L n 0 (by omega)
theorem o25 : lw_O25 RI := by
  intro a b ha hb M hR hM
  have hR2 : RI (am_up M 72 6 0) := RI_mf (mf_up (mf.rf M) (by omega)) hR
  obtain ⟨r1, r2, r3, r4, r5, r6, r7, r8, r9, r10, r11⟩ := id hR
  have hb1 := r1.2.1
  obtain ⟨n, hn⟩ : ∃ n : Nat, M 73 1 = (n : Int) := ⟨(M 73 1).toNat, by omega⟩
  have e0 : M 0 4 = (n : Int) := by rw [← hn]; exact r2.2.1
  have e73 : (am_up M 72 6 0) 73 = M 73 := am_up_ne M 72 6 0 (by decide)
  have hb6 := r1.2.2.2.2.2.1.2.1
  have e10 : M 10 1 = M 73 6 := r2.2.2.2.2.2.1 1 (by omega)
  by_cases hbb : 0 ≤ b ∧ b ≤ 3
  · by_cases ha0 : a < 0
    · refine ⟨-3, M, am_up M 72 6 0, ?_, ?_, hR2⟩
      · rw [e_Desk_at, if_neg (by omega), if_neg (by omega), if_pos ha0]
      · rw [e_Model_at, p_isIn, am_cb_s, if_pos hbb, if_neg (by decide), if_pos ha0]
    · have ha1 := ha.2
      by_cases ht : 0 ≤ a - M 73 6 ∧ a - M 73 6 ≤ 524159
      · by_cases h0 : n = 0
        · refine ⟨-1, M, am_up M 72 6 0, ?_, ?_, hR2⟩
          · rw [e_Desk_at, if_neg (by omega), if_neg (by omega), if_neg ha0, e10, r_ck_ok (by omega) (by omega), if_neg (by omega), if_pos (by omega), e0, if_pos (by omega)]
          · rw [e_Model_at, p_isIn, am_cb_s, if_pos hbb, if_neg (by decide), if_neg ha0, e73, r_ck_ok (by omega) (by omega), p_isIn, am_cb_s, if_pos ht, if_neg (by decide), e73, hn, if_pos (by omega)]
        · obtain ⟨t, ht'⟩ : ∃ t : Nat, a - M 73 6 = (t : Int) := ⟨(a - M 73 6).toNat, by omega⟩
          obtain ⟨w, hw⟩ : ∃ w : Nat, t / 10080 = w := ⟨_, rfl⟩
          obtain ⟨m, hm⟩ : ∃ m : Nat, t % 10080 = m := ⟨_, rfl⟩
          have ed : Int.tdiv (t : Int) 10080 = (w : Int) := by rw [Int.tdiv_eq_ediv_of_nonneg (by omega)]; omega
          have emd : Int.tmod (t : Int) 10080 = (m : Int) := by rw [Int.tmod_eq_emod_of_nonneg (by omega)]; omega
          obtain ⟨M1, M2, g1, g2, g3, g4, g5, g6, g7, g8, g9⟩ := both hR hn (w := w) (by omega)
          have hP := isP_rst r1 hn w
          have f73 : (am_up M1 72 6 0) 73 = M 73 := by rw [am_up_ne _ _ _ _ (by decide), g3 73 (by omega)]
          have ef := g2.2.2.2.1.2.2.1
          have em : M2 72 24 = fls (M 73) (rst (M 73) w) n n := by rw [← g6]; rw [← g6] at g5; exact g5.2.2.2.2.2.2.2.1
          have cl : ∀ r, (fls (M 73) (rst (M 73) w) n n = 0 → cY 276 [rV 46, iV (m : Int), iV b] M1 = some (r, M1)) → (¬ fls (M 73) (rst (M 73) w) n n = 0 → r = -1) → cY 27 [rV 70, iV a, iV b] M = some (r, M1) := by
            intro r hx hy
            rw [e_Desk_at, if_neg (by omega), if_neg (by omega), if_neg ha0, e10, r_ck_ok (by omega) (by omega), if_neg (by omega), if_pos (by omega), e0, if_neg (by omega), ht', ed, emd, r_ck_ok (by omega) (by omega), g1, am_cb_s, ef]
            by_cases q : fls (M 73) (rst (M 73) w) n n = 0
            · rw [if_pos q, r_ck_ok (by omega) (by omega), hx q, am_cb_s]
            · rw [if_neg q, hy q]
          by_cases q : fls (M 73) (rst (M 73) w) n n = 0
          · obtain ⟨p, f, p1, p2, p3, p4, p5, p6⟩ := hold_w (w := w) r1 hn hP q (by omega) (m := (m : Int)) (by omega)
            have hh := p_holderAt r1 hn hP g2 q p1 p4 p5
            rw [p3] at hh
            have hwh := p_whoseOf g5 (by rw [g6]; exact q) (m := (m : Int)) p2 (by rw [g6]; exact p6)
            obtain ⟨y1, y2⟩ := (p6 f p2).mpr rfl
            have b2 := flg_bd r1 hn hP w q p2
            have b3 := fF_bd r1 hn hP p2
            have b4 := week_ok r1 hn hP w q p2
            obtain ⟨e53, e54⟩ := (g2.2.2.2.1.2.2.2 q).1 f p2
            have hMW : MW (M 73) (rst (M 73) w) n w M2 := by rw [← g6]; rw [← g6] at g5; exact g5.2.2.2.2
            obtain ⟨e85, e86⟩ := (hMW.2.2.2.2.1 q).1 f p2
            have e81 := (hMW.2.1 f p2).1
            have ml : ∀ r, (∀ (k : Int → am_M → am_R), True) → (if b = 0 then some ((f : Int), M2) else if b = 1 then (if (m : Int) - bF (M 73) (rst (M 73) w) n w f < fF (M 73) (rst (M 73) w) n f then some ((1 : Int), M2) else some (0, M2)) else if b = 2 then (if shB (M 73) w (m : Int) = true then some ((1 : Int), M2) else some (0, M2)) else (if nB (M 73) a = true then some ((1 : Int), M2) else some (0, M2))) = some (r, M2) → cY 127 [rV 72, iV a, iV b] M1 = some (r, M2) := by
              intro r _ hx
              rw [e_Model_at, p_isIn, am_cb_s, if_pos hbb, if_neg (by decide), if_neg ha0, f73, ht', r_ck_ok (by omega) (by omega), p_isIn, am_cb_s, if_pos (show 0 ≤ (t : Int) ∧ (t : Int) ≤ 524159 by omega), if_neg (by decide), f73, hn, if_neg (by omega), ed, emd, r_ck_ok (by omega) (by omega), g4, am_cb_s, em, if_pos q, r_ck_ok (by omega) (by omega), hwh, am_cb_s]
              by_cases c0 : b = 0
              · rw [if_pos c0] at hx ⊢
                exact hx
              · rw [if_neg c0] at hx ⊢
                by_cases c1 : b = 1
                · rw [if_pos c1] at hx ⊢
                  rw [r_ck_ok (by omega) (by omega), r_bd_ok (by omega) (by omega), Int.toNat_natCast, e86, r_ck_ok (by omega) (by omega), r_bd_ok (by omega) (by omega), e81]
                  exact hx
                · rw [if_neg c1] at hx ⊢
                  by_cases c2 : b = 2
                  · have hs := p_isShut M2 (by rw [g6]; exact r1) w (m : Int)
                    rw [g6] at hs
                    rw [if_pos c2] at hx ⊢
                    rw [r_ck_ok (by omega) (by omega), hs, am_cb_s]
                    by_cases z : shB (M 73) w (m : Int) = true
                    · rw [if_pos z] at hx ⊢
                      rw [if_neg (by decide)]; exact hx
                    · rw [if_neg z] at hx ⊢
                      rw [if_pos rfl]; exact hx
                  · have hs := p_misNight M2 a (by omega)
                    rw [g6] at hs
                    rw [if_neg c2] at hx ⊢
                    rw [hs, am_cb_s]
                    by_cases z : nB (M 73) a = true
                    · rw [if_pos z] at hx ⊢
                      rw [if_neg (by decide)]; exact hx
                    · rw [if_neg z] at hx ⊢
                      rw [if_pos rfl]; exact hx
            have fin : ∀ r, cY 276 [rV 46, iV (m : Int), iV b] M1 = some (r, M1) → cY 127 [rV 72, iV a, iV b] M1 = some (r, M2) → ∃ r M1 M2, cY 27 [rV 70, iV a, iV b] M = some (r, M1) ∧ cY 127 [rV 72, iV a, iV b] M1 = some (r, M2) ∧ RI M2 := fun r x1 x2 => ⟨r, M1, M2, cl r (fun _ => x1) (fun h => absurd q h), x2, g8⟩
            rcases (by omega : b = 0 ∨ b = 1 ∨ b = 2 ∨ b = 3) with rfl | rfl | rfl | rfl
            · exact fin (f : Int) (by rw [e_WeekPlan_stateAt, hh, am_cb_s, if_neg (by omega), if_pos rfl]) (ml _ (fun _ => trivial) (by rw [if_pos rfl]))
            · refine fin (if (m : Int) - bF (M 73) (rst (M 73) w) n w f < fF (M 73) (rst (M 73) w) n f then 1 else 0) ?_ (ml _ (fun _ => trivial) (by rw [if_neg (by decide), if_pos rfl]; split <;> rfl))
              rw [e_WeekPlan_stateAt, hh, am_cb_s, if_neg (by omega), if_neg (by decide), if_pos rfl, r_bd_ok (by omega) (by omega), Int.toNat_natCast, e54, r_ck_ok (by omega) (by omega), p_fillingOf r1 hn g2 q p2, am_cb_s]
              have hfl : flg (M 73) (rst (M 73) w) n w f = min (fF (M 73) (rst (M 73) w) n f) (lF (M 73) (rst (M 73) w) n w f) := rfl
              by_cases z : (m : Int) - bF (M 73) (rst (M 73) w) n w f < fF (M 73) (rst (M 73) w) n f
              · rw [if_pos z, if_pos (by omega)]
              · rw [if_neg z, if_neg (by omega)]
            · refine fin (if shB (M 73) w (m : Int) = true then 1 else 0) ?_ (ml _ (fun _ => trivial) (by rw [if_neg (by decide), if_neg (by decide), if_pos rfl]; split <;> rfl))
              have hmw := p_minutesWithin M1 (M 73) w g2.2.2.1 (m : Int) 1 (by omega) (by omega)
              have hc1 : cnt (shB (M 73) w) (m : Int) 1 = if shB (M 73) w (m : Int) = true then 1 else 0 := by
                show (0 : Int) + (if shB (M 73) w ((m : Int) + ((0 : Nat) : Int)) = true then 1 else 0) = _
                rw [show (m : Int) + ((0 : Nat) : Int) = (m : Int) by omega, Int.zero_add]
              rw [hc1] at hmw
              rw [e_WeekPlan_stateAt, hh, am_cb_s, if_neg (by omega), if_neg (by decide), if_neg (by decide), if_pos rfl, r_ck_ok (by omega) (by omega)]
              have hmw : cY 180 [rV 43, iV (m : Int), iV ((m : Int) + 1)] M1 = some (if shB (M 73) w (m : Int) = true then 1 else 0, M1) := hmw
              rw [hmw, am_cb_s]
            · refine fin (if nB (M 73) a = true then 1 else 0) ?_ (ml _ (fun _ => trivial) (by rw [if_neg (by decide), if_neg (by decide), if_neg (by decide)]; split <;> rfl))
              have hS := g2.1.2.2.2.2
              have hni := p_isNight M1 (M 73) hS.2.1 hS.2.2.1 (M 73 6 + (m : Int)) (by omega)
              have hper := nB_per (M 73) (M 73 6 + (m : Int)) w
              rw [show M 73 6 + (m : Int) + 10080 * (w : Int) = a by omega] at hper
              rw [← hper] at hni
              have t1 : Int.tdiv (M 73 6 + (m : Int)) 60 = (M 73 6 + (m : Int)) / 60 := Int.tdiv_eq_ediv_of_nonneg (by omega)
              have t2 : Int.tdiv (Int.tdiv (M 73 6 + (m : Int)) 60) 24 = (M 73 6 + (m : Int)) / 60 / 24 := by rw [t1, Int.tdiv_eq_ediv_of_nonneg (by omega)]
              rw [e_WeekPlan_stateAt, hh, am_cb_s, if_neg (by omega), if_neg (by decide), if_neg (by decide), if_neg (by decide), hS.1, r_ck_ok (by omega) (by omega), r_ck_ok (by omega) (by omega), r_ck_ok (by omega) (by omega), hni, am_cb_s]
              by_cases z : nB (M 73) a = true
              · rw [if_pos z, if_neg (by decide)]
              · rw [if_neg z, if_pos rfl]
          · refine ⟨-1, M1, M2, cl (-1) (fun h => absurd h q) (fun _ => rfl), ?_, g8⟩
            rw [e_Model_at, p_isIn, am_cb_s, if_pos hbb, if_neg (by decide), if_neg ha0, f73, ht', r_ck_ok (by omega) (by omega), p_isIn, am_cb_s, if_pos (show 0 ≤ (t : Int) ∧ (t : Int) ≤ 524159 by omega), if_neg (by decide), f73, hn, if_neg (by omega), ed, r_ck_ok (by omega) (by omega), g4, am_cb_s, em, if_neg q]
      · refine ⟨-1, M, am_up M 72 6 0, ?_, ?_, hR2⟩
        · rw [e_Desk_at, if_neg (by omega), if_neg (by omega), if_neg ha0, e10, r_ck_ok (by omega) (by omega)]
          by_cases z : a - M 73 6 < 0
          · rw [if_pos z]
          · rw [if_neg z, if_neg (by omega)]
        · rw [e_Model_at, p_isIn, am_cb_s, if_pos hbb, if_neg (by decide), if_neg ha0, e73, r_ck_ok (by omega) (by omega), p_isIn, am_cb_s, if_neg ht, if_pos rfl]
  · refine ⟨-2, M, am_up M 72 6 0, ?_, ?_, hR2⟩
    · rw [e_Desk_at]
      by_cases z : b < 0
      · rw [if_pos z]
      · rw [if_neg z, if_pos (by omega)]
    · rw [e_Model_at, p_isIn, am_cb_s, if_neg hbb, if_pos rfl]
-- the first minute that brings water
def fsr (P : Int → Bool) (a : Int) : Nat → Int
  | 0 => -1
  | k + 1 => if P a = true then a else fsr P (a + 1) k
theorem fsr_no (P : Int → Bool) : ∀ (k : Nat) (a : Int), (∀ m, a ≤ m → m < a + (k : Int) → P m = false) → fsr P a k = -1 := by
  intro k
  induction k with
  | zero => intro a _; rfl
  | succ k ih =>
    intro a h
    show (if P a = true then a else fsr P (a + 1) k) = -1
    rw [if_neg (by rw [h a (by omega) (by omega)]; decide)]
    exact ih (a + 1) (fun m h1 h2 => h m (by omega) (by omega))
theorem fsr_at (P : Int → Bool) : ∀ (k : Nat) (a r : Int), a ≤ r → r < a + (k : Int) → P r = true → (∀ m, a ≤ m → m < r → P m = false) → fsr P a k = r := by
  intro k
  induction k with
  | zero => intro a r h1 h2; omega
  | succ k ih =>
    intro a r h1 h2 h3 h4
    show (if P a = true then a else fsr P (a + 1) k) = r
    by_cases e : a = r
    · rw [e, if_pos h3]
    · rw [if_neg (by rw [h4 a (by omega) (by omega)]; decide)]
      exact ih (a + 1) r (by omega) (by omega) h3 (fun m x1 x2 => h4 m (by omega) x2)
/-- whether a minute of a week is late enough and not shut -/
def ufP (s : Nat → Int) (w : Nat) (c : Int) (m : Int) : Bool := decide (c ≤ s 6 + 10080 * (w : Int) + m) && !shB s w m
def ufl (s o : Nat → Int) (n w f : Nat) (c : Int) : Int := if fls s o n n = 0 then fsr (ufP s w c) (bF s o n w f + fF s o n f) (lF s o n w f - fF s o n f).toNat else -1
theorem ufP_f {s : Nat → Int} {w : Nat} {c m : Int} : ufP s w c m = false ↔ ¬ (c ≤ s 6 + 10080 * (w : Int) + m) ∨ shB s w m = true := by
  unfold ufP
  by_cases h : c ≤ s 6 + 10080 * (w : Int) + m
  · rw [decide_eq_true h, Bool.true_and]
    cases shB s w m <;> simp [h]
  · rw [decide_eq_false h, Bool.false_and]
    simp [h]
theorem ufP_t {s : Nat → Int} {w : Nat} {c m : Int} : ufP s w c m = true ↔ c ≤ s 6 + 10080 * (w : Int) + m ∧ shB s w m = false := by
  unfold ufP
  rw [Bool.and_eq_true, decide_eq_true_iff, Bool.not_eq_true']
theorem ufl_bd {s o : Nat → Int} {n : Nat} (hv : vT s) (hn : s 1 = (n : Int)) (hP : isP n o) (w : Nat) {f : Nat} (hf : f < n) (c : Int) : -1 ≤ ufl s o n w f c ∧ ufl s o n w f c ≤ 10080 := by
  unfold ufl
  by_cases q : fls s o n n = 0
  · rw [if_pos q]
    have b1 := week_ok hv hn hP w q hf
    have b2 := fF_bd hv hn hP hf
    have L : ∀ (k : Nat) (a : Int), 0 ≤ a → (1 ≤ k → a + (k : Int) ≤ 10080) → -1 ≤ fsr (ufP s w c) a k ∧ fsr (ufP s w c) a k ≤ 10080 := by
      intro k
      induction k with
      | zero => intro a _ _; show (-1 : Int) ≤ -1 ∧ (-1 : Int) ≤ 10080; omega
      | succ k ih =>
        intro a h1 h2
        have h3 := h2 (by omega)
        show -1 ≤ (if ufP s w c a = true then a else fsr (ufP s w c) (a + 1) k) ∧ (if ufP s w c a = true then a else fsr (ufP s w c) (a + 1) k) ≤ 10080
        split
        · omega
        · exact ih (a + 1) (by omega) (fun _ => by omega)
    exact L _ _ (by omega) (fun h => by omega)
  · rw [if_neg q]; omega
theorem p_firstUseful {s o : Nat → Int} {n w : Nat} {M : am_M} (hv : vT s) (hn : s 1 = (n : Int)) (hP : isP n o) (h : CX s o n w M) (h0 : fls s o n n = 0) {f : Nat} (hf : f < n) (c x : Int) (hx : x = max (c - s 6) 0 - 10080 * (w : Int)) : cY 278 [rV 46, iV (f : Int), iV x] M = some (ufl s o n w f c, M) := by
  have hb1 := hv.2.1
  have hb6 := hv.2.2.2.2.2.1.2.1
  have b1 := week_ok hv hn hP w h0 hf
  have b2 := fF_bd hv hn hP hf
  have b3 := flg_bd hv hn hP w h0 hf
  have hfl : flg s o n w f = min (fF s o n f) (lF s o n w f) := rfl
  obtain ⟨e53, e54⟩ := (h.2.2.2.1.2.2.2 h0).1 f hf
  obtain ⟨r, g1, g2, g3⟩ := p_openFrom M s w h.2.2.1 (max x (bF s o n w f + flg s o n w f))
  obtain ⟨o1, o2, o3⟩ := g2
  rw [e_WeekPlan_firstUseful, r_bd_ok (by omega) (by omega), p_fillingOf hv hn h h0 hf, am_cb_s, Int.toNat_natCast, e54, r_ck_ok (by omega) (by omega), g1, am_cb_s, r_bd_ok (by omega) (by omega), r_bd_ok (by omega) (by omega), e53, e54, r_ck_ok (by omega) (by omega)]
  unfold ufl
  rw [if_pos h0]
  by_cases q : r < bF s o n w f + lF s o n w f
  · rw [if_pos q, fsr_at (ufP s w c) _ _ r (by omega) (by omega) (ufP_t.mpr ⟨by omega, o3⟩) (fun m m1 m2 => by
      rw [ufP_f]
      by_cases z : max x (bF s o n w f + flg s o n w f) ≤ m
      · exact Or.inr (o2 m z m2)
      · left; omega)]
  · rw [if_neg q, fsr_no (ufP s w c) _ _ (fun m m1 m2 => by
      rw [ufP_f]
      by_cases z : max x (bF s o n w f + flg s o n w f) ≤ m
      · exact Or.inr (o2 m z (by omega))
      · left; omega)]
/-- the answer, from a week on -/
def wnf (s : Nat → Int) (n f : Nat) (c : Int) (w : Nat) : Nat → Int
  | 0 => -1
  | j + 1 => if ufl s (rst s w) n w f c = -1 then wnf s n f c (w + 1) j else s 6 + 10080 * (w : Int) + ufl s (rst s w) n w f c
theorem p_when_c (s : Nat → Int) (n f : Nat) (c : Int) (hv : vT s) (hn : s 1 = (n : Int)) (hf : f < n) (hc : 0 ≤ c ∧ c ≤ 2147483647) : ∀ (j w : Nat) (M : am_M) (d2 d5 d6 : Option am_V), w + j = 52 → cT s M 0 → kT M 0 → ∃ M', cX 28 25 [some (rV 70), some (iV (f : Int)), d2, some (iV (max (c - s 6) 0)), some (iV (w : Int)), d5, d6] [] M = some (wnf s n f c w j, M') ∧ ∀ a, a < 40 ∨ 54 < a → M' a = M a := by
  have hb6 := hv.2.2.2.2.2.1.2.1
  intro j
  induction j with
  | zero =>
    intro w M d2 d5 d6 hw hT hk
    exact ⟨M, by rw [e_Desk_when_25, if_neg (by omega)]; rfl, fun _ _ => rfl⟩
  | succ j ih =>
    intro w M d2 d5 d6 hw hT hk
    obtain ⟨M1, a1, a2, a3⟩ := p_planWeek M s n w hv hn hT hk (by omega)
    have hP := isP_rst hv hn w
    have ub := ufl_bd hv hn hP w hf c
    have hT1 : cT s M1 0 := cT_eq (fun a _ h2 => a2 a (by omega)) hT
    have hk1 : kT M1 0 := kT_eq (fun a _ h2 => a2 a (by omega)) hk
    have es : wnf s n f c w (j + 1) = if ufl s (rst s w) n w f c = -1 then wnf s n f c (w + 1) j else s 6 + 10080 * (w : Int) + ufl s (rst s w) n w f c := rfl
    have e10 : M1 10 1 = s 6 := a3.1.2.2.2.2.1
    rw [e_Desk_when_25, if_pos (by omega), a1, am_cb_s, a3.2.2.2.1.2.2.1, r_ck_ok (by omega) (by omega)]
    by_cases q : fls s (rst s w) n n = 0
    · have hu := p_firstUseful hv hn hP a3 q hf c (max (c - s 6) 0 - (w : Int) * 10080) (by omega)
      rw [if_pos q, r_ck_ok (by omega) (by omega), hu, am_cb_s]
      by_cases z : ufl s (rst s w) n w f c = -1
      · obtain ⟨M2, b1, b2⟩ := ih (w + 1) M1 none (some (iV ((w : Int) * 10080))) (some (iV (ufl s (rst s w) n w f c))) (by omega) hT1 hk1
        rw [if_pos z] at es
        rw [if_pos z, r_ck_ok (by omega) (by omega), es]
        exact ⟨M2, b1, fun a ha => (b2 a ha).trans (a2 a ha)⟩
      · rw [if_neg z] at es
        rw [if_neg z, e10, r_ck_ok (by omega) (by omega), r_ck_ok (by omega) (by omega), es, Int.mul_comm (w : Int) 10080]
        exact ⟨M1, rfl, a2⟩
    · have z : ufl s (rst s w) n w f c = -1 := by unfold ufl; rw [if_neg q]
      obtain ⟨M2, b1, b2⟩ := ih (w + 1) M1 none (some (iV ((w : Int) * 10080))) (some (iV (-1))) (by omega) hT1 hk1
      rw [if_pos z] at es
      rw [if_neg q, r_ck_ok (by omega) (by omega), es]
      exact ⟨M2, b1, fun a ha => (b2 a ha).trans (a2 a ha)⟩
theorem p_when_m (s : Nat → Int) (n f : Nat) (c : Int) (hv : vT s) (hn : s 1 = (n : Int)) (hf : f < n) (hc : 0 ≤ c ∧ c ≤ 2147483647) : ∀ (j w : Nat) (M : am_M) (d4 d5 : Option am_V), w + j = 52 → M 73 = s → (∀ i, i < 8 → M 88 i = -1) → c < s 6 + 10080 * (w : Int) + 10080 → ∃ M', cX 128 15 [some (rV 72), some (iV (f : Int)), some (iV c), some (iV (w : Int)), d4, d5] [] M = some (wnf s n f c w j, M') ∧ wf M M' := by
  have hb1 := hv.2.1
  have hb6 := hv.2.2.2.2.2.1.2.1
  intro j
  induction j with
  | zero =>
    intro w M d4 d5 hw hs h88 hcw
    exact ⟨M, by rw [e_Model_when_15, if_neg (by omega)]; rfl, wf.rf M⟩
  | succ j ih =>
    intro w M d4 d5 hw hs h88 hcw
    obtain ⟨M1, a1, a2, a3⟩ := p_lays0 M n w (by rw [hs]; exact hv) (by rw [hs]; exact hn) (by omega) h88
    have s1 : M1 73 = s := by rw [a2.1 73 (by omega), hs]
    rw [hs] at a3
    have hP := isP_rst hv hn w
    have hW : MW s (rst s w) n w M1 := by have := a3.2.2.2.2; rw [s1] at this; exact this
    have es : wnf s n f c w (j + 1) = if ufl s (rst s w) n w f c = -1 then wnf s n f c (w + 1) j else s 6 + 10080 * (w : Int) + ufl s (rst s w) n w f c := rfl
    have hbd := hW.2.2.2.2.2 f hf
    have b2 := fF_bd hv hn hP hf
    have e81 := (hW.2.1 f hf).1
    have nxt : ∀ d4 d5, ufl s (rst s w) n w f c = -1 → ∃ M', cX 128 15 [some (rV 72), some (iV (f : Int)), some (iV c), some (iV ((w : Int) + 1)), d4, d5] [] M1 = some (wnf s n f c w (j + 1), M') ∧ wf M M' := fun d4 d5 z => by
      obtain ⟨M2, c1, c2⟩ := ih (w + 1) M1 d4 d5 (by omega) s1 (fun i hi => by rw [a2.1 88 (by omega)]; exact h88 i hi) (by omega)
      rw [es, if_pos z]
      exact ⟨M2, c1, a2.tr c2⟩
    rw [e_Model_when_15, if_pos (by omega), hs, r_ck_ok (by omega) (by omega), r_ck_ok (by omega) (by omega), r_ck_ok (by omega) (by omega), if_pos hcw, a1, am_cb_s, r_bd_ok (by omega) (by omega), r_bd_ok (by omega) (by omega), Int.toNat_natCast, e81, r_ck_ok (by omega) (by omega)]
    by_cases q : fls s (rst s w) n n = 0
    · obtain ⟨e85, e86⟩ := (hW.2.2.2.2.1 q).1 f hf
      have b1 := week_ok hv hn hP w q hf
      have eu : ufl s (rst s w) n w f c = fsr (ufP s w c) (bF s (rst s w) n w f + fF s (rst s w) n f) (lF s (rst s w) n w f - fF s (rst s w) n f).toNat := by unfold ufl; rw [if_pos q]
      rw [e86]
      have L : ∀ (i : Nat) (x : Int), 0 ≤ x → i = (bF s (rst s w) n w f + lF s (rst s w) n w f - x).toNat → fsr (ufP s w c) x i = ufl s (rst s w) n w f c → x ≤ 20000 → ∃ M', cX 128 46 [some (rV 72), some (iV (f : Int)), some (iV c), some (iV (w : Int)), some (iV (s 6 + 10080 * (w : Int))), some (iV x)] [] M1 = some (wnf s n f c w (j + 1), M') ∧ wf M M' := by
        intro i
        induction i with
        | zero =>
          intro x h1 h2 h3 h4
          rw [e_Model_when_46, r_bd_ok (by omega) (by omega), r_bd_ok (by omega) (by omega), Int.toNat_natCast, e85, e86, r_ck_ok (by omega) (by omega), if_neg (by omega), r_ck_ok (by omega) (by omega)]
          exact nxt _ _ h3.symm
        | succ i ih2 =>
          intro x h1 h2 h3 h4
          have h3 : (if ufP s w c x = true then x else fsr (ufP s w c) (x + 1) i) = ufl s (rst s w) n w f c := h3
          have rcr := fun (hne : ¬ ufP s w c x = true) => ih2 (x + 1) (by omega) (by omega) (by rw [if_neg hne] at h3; exact h3) (by omega)
          rw [e_Model_when_46, r_bd_ok (by omega) (by omega), r_bd_ok (by omega) (by omega), Int.toNat_natCast, e85, e86, r_ck_ok (by omega) (by omega), if_pos (by omega), hW.2.2.2.1, if_pos q, r_ck_ok (by omega) (by omega)]
          by_cases c1 : s 6 + 10080 * (w : Int) + x < c
          · rw [if_pos c1, r_ck_ok (by omega) (by omega)]
            exact rcr (fun h => by have := (ufP_t.mp h).1; omega)
          · have hs2 := p_isShut M1 (by rw [s1]; exact hv) w x
            rw [s1] at hs2
            rw [if_neg c1, hs2, am_cb_s]
            by_cases c2 : shB s w x = true
            · rw [if_pos c2, if_neg (by decide), r_ck_ok (by omega) (by omega)]
              exact rcr (fun h => by have := (ufP_t.mp h).2; rw [c2] at this; cases this)
            · rw [if_neg c2, if_pos rfl, r_ck_ok (by omega) (by omega)]
              rw [Bool.not_eq_true] at c2
              have hu : ufP s w c x = true := ufP_t.mpr ⟨by omega, c2⟩
              rw [if_pos hu] at h3
              rw [es, if_neg (by omega), ← h3]
              exact ⟨M1, rfl, a2⟩
      exact L _ (bF s (rst s w) n w f + fF s (rst s w) n f) (by omega) rfl (by rw [eu]; congr 1; omega) (by omega)
    · have z : ufl s (rst s w) n w f c = -1 := by unfold ufl; rw [if_neg q]
      rw [e_Model_when_46, r_bd_ok (by omega) (by omega), r_bd_ok (by omega) (by omega), Int.toNat_natCast, r_ck_ok (by omega) (by omega), hW.2.2.2.1, if_neg q]
      by_cases c1 : M1 86 f + fF s (rst s w) n f < M1 86 f + M1 85 f
      · rw [if_pos c1, r_ck_ok (by omega) (by omega)]
        exact nxt _ _ z
      · rw [if_neg c1, r_ck_ok (by omega) (by omega)]
        exact nxt _ _ z
theorem o26 : lw_O26 RI := by
  intro a b ha hb M hR hM
  have hR2 : RI (am_up M 72 6 0) := RI_mf (mf_up (mf.rf M) (by omega)) hR
  obtain ⟨r1, r2, r3, r4, r5, r6, r7, r8, r9, r10, r11⟩ := id hR
  have hb1 := r1.2.1
  obtain ⟨n, hn⟩ : ∃ n : Nat, M 73 1 = (n : Int) := ⟨(M 73 1).toNat, by omega⟩
  have e0 : M 0 4 = (n : Int) := by rw [← hn]; exact r2.2.1
  have e73 : (am_up M 72 6 0) 73 = M 73 := am_up_ne M 72 6 0 (by decide)
  have hb6 := r1.2.2.2.2.2.1.2.1
  have e10 : M 10 1 = M 73 6 := r2.2.2.2.2.2.1 1 (by omega)
  have hb2 := hb.2
  by_cases h : 0 ≤ a ∧ a < (n : Int)
  · by_cases hb0 : b < 0
    · refine ⟨-3, M, am_up M 72 6 0, ?_, ?_, hR2⟩
      · rw [e_Desk_when, p_lacksField, am_cb_s, e0, if_pos h, if_pos rfl, if_pos hb0]
      · rw [e_Model_when, p_isF0 M _ n (by omega) hn, am_cb_s, if_pos h, if_neg (by decide), if_pos hb0]
    · obtain ⟨f, rfl⟩ : ∃ f : Nat, a = (f : Int) := ⟨a.toNat, by omega⟩
      obtain ⟨w0, hw0⟩ : ∃ w0 : Nat, (max (b - M 73 6) 0) / 10080 = (w0 : Int) := ⟨((max (b - M 73 6) 0) / 10080).toNat, by omega⟩
      have et : Int.tdiv (max (b - M 73 6) 0) 10080 = (w0 : Int) := by rw [Int.tdiv_eq_ediv_of_nonneg (by omega)]; exact hw0
      by_cases hw52 : w0 ≤ 52
      · obtain ⟨M1, a1, a2⟩ := p_when_c (M 73) n f b r1 hn (by omega) (by omega) (52 - w0) w0 M (some (iV b)) none none (by omega) r2 r3
        have hR1 : RI M1 := RI_cf (fun x hx => a2 x (by omega)) hR
        have f73 : (am_up M1 72 6 0) 73 = M 73 := by rw [am_up_ne _ _ _ _ (by decide), a2 73 (by omega)]
        have f88 : ∀ i, i < 8 → (am_up M1 72 6 0) 88 i = -1 := fun i hi => by rw [am_up_ne _ _ _ _ (by decide), a2 88 (by omega)]; exact r10 i hi
        have Ls : ∀ (j w : Nat) (d4 d5 : Option am_V), w + j = w0 → ∃ M', cX 128 15 [some (rV 72), some (iV (f : Int)), some (iV b), some (iV (w : Int)), d4, d5] [] (am_up M1 72 6 0) = some (wnf (M 73) n f b w0 (52 - w0), M') ∧ wf (am_up M1 72 6 0) M' := by
          intro j
          induction j with
          | zero =>
            intro w d4 d5 hw
            have e : w = w0 := by omega
            subst e
            exact p_when_m (M 73) n f b r1 hn (by omega) (by omega) (52 - w) w (am_up M1 72 6 0) d4 d5 (by omega) f73 f88 (by omega)
          | succ j ih =>
            intro w d4 d5 hw
            obtain ⟨M', c1, c2⟩ := ih (w + 1) (some (iV (M 73 6 + 10080 * (w : Int)))) none (by omega)
            rw [e_Model_when_15, if_pos (by omega), f73, r_ck_ok (by omega) (by omega), r_ck_ok (by omega) (by omega), r_ck_ok (by omega) (by omega), if_neg (by omega), r_ck_ok (by omega) (by omega)]
            exact ⟨M', c1, c2⟩
        obtain ⟨M2, b1, b2⟩ := Ls w0 0 none none (by omega)
        refine ⟨wnf (M 73) n f b w0 (52 - w0), M1, M2, ?_, ?_, RI_mf b2.mf (RI_mf (mf_up (mf.rf M1) (by omega)) hR1)⟩
        · rw [e_Desk_when, p_lacksField, am_cb_s, e0, if_pos h, if_pos rfl, if_neg hb0, e10, r_ck_ok (by omega) (by omega), et, r_ck_ok (by omega) (by omega)]
          exact a1
        · rw [e_Model_when, p_isF M M1 _ n (by omega) hn a2, am_cb_s, if_pos h, if_neg (by decide), if_neg hb0]
          exact b1
      · have Ls : ∀ (j w : Nat) (d4 d5 : Option am_V), w + j = 52 → cX 128 15 [some (rV 72), some (iV (f : Int)), some (iV b), some (iV (w : Int)), d4, d5] [] (am_up M 72 6 0) = some (-1, am_up M 72 6 0) := by
          intro j
          induction j with
          | zero =>
            intro w d4 d5 hw
            rw [e_Model_when_15, if_neg (by omega)]
          | succ j ih =>
            intro w d4 d5 hw
            have c1 := ih (w + 1) (some (iV (M 73 6 + 10080 * (w : Int)))) none (by omega)
            rw [e_Model_when_15, if_pos (by omega), e73, r_ck_ok (by omega) (by omega), r_ck_ok (by omega) (by omega), r_ck_ok (by omega) (by omega), if_neg (by omega), r_ck_ok (by omega) (by omega)]
            exact c1
        refine ⟨-1, M, am_up M 72 6 0, ?_, ?_, hR2⟩
        · rw [e_Desk_when, p_lacksField, am_cb_s, e0, if_pos h, if_pos rfl, if_neg hb0, e10, r_ck_ok (by omega) (by omega), et, r_ck_ok (by omega) (by omega), e_Desk_when_25, if_neg (by omega)]
        · rw [e_Model_when, p_isF0 M _ n (by omega) hn, am_cb_s, if_pos h, if_neg (by decide), if_neg hb0]
          exact Ls 52 0 none none (by omega)
  · refine ⟨-2, M, am_up M 72 6 0, ?_, ?_, hR2⟩
    · rw [e_Desk_when, p_lacksField, am_cb_s, e0, if_neg h, if_neg (by decide)]
    · rw [e_Model_when, p_isF0 M _ n (by omega) hn, am_cb_s, if_neg h, if_pos rfl]
