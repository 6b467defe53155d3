-- rows that differ in one place
theorem fwl_10 {s s' : Nat → Int} (he : ∀ i, i ≠ 10 → s' i = s i) : ∀ k, fwl s' k = fwl s k := by
  intro k
  induction k with
  | zero => exact he 5 (by omega)
  | succ k ih =>
    show fwl s' k - Int.tdiv (fwl s' k * s' (14 + 3 * k)) 1000 = fwl s k - Int.tdiv (fwl s k * s (14 + 3 * k)) 1000
    rw [ih, he _ (by omega)]
theorem wt_10 {s s' : Nat → Int} (he : ∀ i, i ≠ 10 → s' i = s i) (f : Nat) : wt s' f = wt s f := by
  unfold wt
  rw [he 11 (by omega), he (43 + 4 * f) (by omega), he (42 + 4 * f) (by omega), fwl_10 he]
theorem wsum_10 {s s' : Nat → Int} (he : ∀ i, i ≠ 10 → s' i = s i) : ∀ k, wsum s' k = wsum s k := by
  intro k
  induction k with
  | zero => rfl
  | succ k ih => show wsum s' k + wt s' k = wsum s k + wt s k; rw [ih, wt_10 he]
theorem CN_10 {s s' : Nat → Int} {M : am_M} (he : ∀ i, i ≠ 10 → s' i = s i) (h : CN s M) : CN s' M := by
  refine ⟨fun r hr => ?_, fun f hf => ?_, ?_⟩
  · rw [fwl_10 he]; rw [he 0 (by omega)] at hr; exact h.1 r hr
  · rw [wt_10 he]; rw [he 1 (by omega)] at hf; exact h.2.1 f hf
  · rw [wsum_10 he, he 1 (by omega)]; exact h.2.2
theorem rkk_c {s s' : Nat → Int} (he : ∀ i, i < 5 ∨ i = 9 ∨ i = 10 ∨ 74 ≤ i → s' i = s i) (n w : Nat) : ∀ k, rkk s' n w k = rkk s n w k := by
  intro k
  induction k with
  | zero =>
    funext p
    show s' (74 + (p + tby s' w) % n) = s (74 + (p + tby s w) % n)
    unfold tby
    rw [he 9 (by omega), he 10 (by omega), he _ (by omega)]
  | succ k ih =>
    show (if s' (82 + 3 * k) = (w : Int) then swp (rkk s' n w k) (s' (83 + 3 * k)) (s' (84 + 3 * k)) else rkk s' n w k) = _
    rw [ih, he (82 + 3 * k) (by omega), he (83 + 3 * k) (by omega), he (84 + 3 * k) (by omega)]
    rfl
theorem rst_c {s s' : Nat → Int} (he : ∀ i, i < 5 ∨ i = 9 ∨ i = 10 ∨ 74 ≤ i → s' i = s i) (w : Nat) : rst s' w = rst s w := by
  unfold rst
  rw [he 1 (by omega), he 2 (by omega), rkk_c he]
theorem shb_c {s s' : Nat → Int} (he : ∀ i, i < 5 ∨ 74 ≤ i → s' i = s i) (w : Nat) (m : Int) : ∀ k, shb s' w m k = shb s w m k := by
  intro k
  induction k with
  | zero => rfl
  | succ k ih =>
    apply b_ext
    rw [shb_succ, shb_succ, ih, he _ (by omega), he _ (by omega), he _ (by omega)]
theorem shB_c {s s' : Nat → Int} (he : ∀ i, i < 5 ∨ 74 ≤ i → s' i = s i) (w : Nat) : shB s' w = shB s w := by
  funext m
  unfold shB
  rw [he 4 (by omega), shb_c he]
theorem CZ_c {s s' : Nat → Int} {w : Nat} {M : am_M} (he : ∀ i, i < 5 ∨ 74 ≤ i → s' i = s i) (h : CZ s w M) : CZ s' w M := by
  unfold CZ at h ⊢
  rw [shB_c he]
  exact h
theorem us_back (s : Nat → Int) (j : Nat) (v : Int) : us (us s j v) j (s j) = s := by
  funext i
  unfold us
  by_cases e : i = j
  · rw [if_pos e, e]
  · rw [if_neg e, if_neg e]
theorem us_us (s : Nat → Int) (j : Nat) (v u : Int) : us (us s j v) j u = us s j u := by
  funext i
  unfold us
  by_cases e : i = j
  · rw [if_pos e, if_pos e]
  · rw [if_neg e, if_neg e, if_neg e]
/-- what a query of the reference that puts its row back may change -/
def mg (M M' : am_M) : Prop := (∀ a, a ≠ 72 → a ≠ 73 → (a < 79 ∨ a = 88 ∨ a = 94) → M' a = M a) ∧ M' 72 5 = M 72 5 ∧ M' 72 8 = M 72 8 ∧ M' 72 11 = M 72 11 ∧ M' 72 12 = M 72 12
theorem mg.rf (M : am_M) : mg M M := ⟨fun _ _ _ _ => rfl, rfl, rfl, rfl, rfl⟩
theorem mg.tr {M M1 M2 : am_M} (h1 : mg M M1) (h2 : mg M1 M2) : mg M M2 := ⟨fun a x y z => (h2.1 a x y z).trans (h1.1 a x y z), h2.2.1.trans h1.2.1, h2.2.2.1.trans h1.2.2.1, h2.2.2.2.1.trans h1.2.2.2.1, h2.2.2.2.2.trans h1.2.2.2.2⟩
theorem mf.mg {M M' : am_M} (h : mf M M') : mg M M' := ⟨fun a x _ z => h.1 a x z, h.2⟩
theorem mg_73 {M : am_M} {j : Nat} {v : Int} : mg M (am_up M 73 j v) := ⟨fun a _ y _ => am_up_ne _ _ _ _ y, by rw [am_up_ne _ _ _ _ (by decide)], by rw [am_up_ne _ _ _ _ (by decide)], by rw [am_up_ne _ _ _ _ (by decide)], by rw [am_up_ne _ _ _ _ (by decide)]⟩
theorem mg.mf {M M' : am_M} (h : mg M M') (e : M' 73 = M 73) : mf M M' := ⟨fun a x z => by
  by_cases c : a = 73
  · rw [c, e]
  · exact h.1 a x c z, h.2⟩
theorem mg_ua {M M' : am_M} (h : mg M M') {a j : Nat} {v : Int} (ha : 79 ≤ a ∧ a ≠ 88 ∧ a ≠ 94) : mg M (am_up M' a j v) := h.tr (mf_ua (mf.rf M') ha).mg
-- the fairest turning
def lsd (g : Nat → Int) : Nat → Int
  | 0 => 0
  | k + 1 => if k = 0 then g 0 else min (lsd g k) (g k)
theorem p_leastDepth {s o : Nat → Int} {n w : Nat} {M : am_M} (hv : vT s) (hn : s 1 = (n : Int)) (hP : isP n o) (h : CX s o n w M) : cY 274 [rV 46] M = some (lsd (dpt s o n w) n, M) := by
  have hb1 := hv.2.1
  have e04 : M 0 4 = (n : Int) := by rw [h.1.1.1, hn]
  rw [e_WeekPlan_leastDepth]
  have L : ∀ (j k : Nat) (d2 d4 d5 : Option am_V), k + j = n → cX 274 4 [some (rV 46), some (lV (lsd (dpt s o n w) k)), d2, some (iV (k : Int)), d4, d5] [] M = some (lsd (dpt s o n w) n, M) := by
    intro j
    induction j with
    | zero => intro k d2 d4 d5 hk; have e : k = n := by omega
              subst e; rw [e_WeekPlan_leastDepth_4, e04, if_neg (by omega)]
    | succ j ih =>
      intro k d2 d4 d5 hk
      have hi := fun d4 => ih (k + 1) none d4 none (by omega)
      have es : lsd (dpt s o n w) (k + 1) = if k = 0 then dpt s o n w 0 else min (lsd (dpt s o n w) k) (dpt s o n w k) := rfl
      rw [es] at hi
      rw [e_WeekPlan_leastDepth_4, e04, if_pos (by omega), p_depthOf hv hn hP h (f := k) (by omega), am_cb_s]
      by_cases q : k = 0
      · have eg : dpt s o n w 0 = dpt s o n w k := by rw [q]
        simp only [if_pos q, eg] at hi
        rw [if_pos (by omega), r_ck_ok (by omega) (by omega)]
        exact hi _
      · simp only [if_neg q] at hi
        rw [if_neg (by omega), r_ck_ok (by omega) (by omega)]
        exact hi _
  exact L n 0 none none none (by omega)
/-- the best of the turnings below b -/
def frs (s : Nat → Int) (n w : Nat) : Nat → Int
  | 0 => 0
  | b + 1 => max (frs s n w b) (lsd (dpt (us s 10 (b : Int)) (rst (us s 10 (b : Int)) w) n w) n)
theorem vT_by {s : Nat → Int} (hv : vT s) {n : Nat} (hn : s 1 = (n : Int)) {b : Nat} (hb : b < n) : vT (us s 10 (b : Int)) := by
  have hb1 := hv.2.1
  refine vT_set hv (by omega) ⟨fun h => ?_, fun h => ?_, fun h => ?_, fun h => ?_, fun h => ?_, fun h => ?_, fun h => ?_⟩ <;> omega
theorem md_by (s : Nat → Int) (v : Int) : md s (us s 10 v) := fun i _ h _ => us_ne _ _ _ h
theorem o40 : lw_O40 RI := by
  intro a ha M hR hM
  have hR2 : RI (am_up M 72 6 0) := RI_mf (mf_up (mf.rf M) (by omega)) hR
  obtain ⟨r1, r2, r3, r4, r5, r6, r7, r8, r9, r10, r11⟩ := id hR
  have hb1 := r1.2.1
  obtain ⟨n, hn⟩ : ∃ n : Nat, M 73 1 = (n : Int) := ⟨(M 73 1).toNat, by omega⟩
  have e0 : M 0 4 = (n : Int) := by rw [← hn]; exact r2.2.1
  have e73 : (am_up M 72 6 0) 73 = M 73 := am_up_ne M 72 6 0 (by decide)
  by_cases hw : 0 ≤ a ∧ a ≤ 51
  · by_cases h0 : n = 0
    · refine ⟨-5, M, am_up M 72 6 0, ?_, ?_, hR2⟩
      · rw [e_Desk_fairest, p_isNoWeek, am_cb_s, if_pos hw, if_pos rfl, e0, if_pos (by omega)]
      · rw [e_Model_fairest, p_isWeek, am_cb_s, if_pos hw, if_neg (by decide), e73, hn, if_pos (by omega)]
    · obtain ⟨w, rfl⟩ : ∃ w : Nat, a = (w : Int) := ⟨a.toNat, by omega⟩
      obtain ⟨s, hs⟩ : ∃ s, M 73 = s := ⟨_, rfl⟩
      rw [hs] at r1 r2 r11 hn hb1
      obtain ⟨M1, a1, a2, a3⟩ := p_letIn0 M s r1 r2
      have hT1 : cT s M1 0 := cT_eq (fun a _ h2 => a2 a (by omega) (by omega) (by omega)) r2
      have hk1 : kT M1 0 := kT_eq (fun a _ h2 => a2 a (by omega) (by omega) (by omega)) r3
      have Lc : ∀ (j b : Nat) (M' : am_M) (d : Option am_V), b + j = n → cT s M' 0 → kT M' 0 → CN s M' → ∃ M2, cX 45 24 [some (rV 70), some (iV (w : Int)), some (lV (frs s n w b)), d, some (iV (b : Int))] [] M' = some (frs s n w n, M2) ∧ ∀ a, a < 40 ∨ 54 < a → M2 a = M' a := by
        intro j
        induction j with
        | zero =>
          intro b M' d hb hT hk hN
          have e : b = n := by omega
          subst e
          have e04 : M' 0 4 = (b : Int) := by rw [← hn]; exact hT.2.1
          exact ⟨M', by rw [e_Desk_fairest_24, e04, if_neg (by omega)], fun _ _ => rfl⟩
        | succ j ih =>
          intro b M' d hb hT hk hN
          have e04 : M' 0 4 = (n : Int) := by rw [← hn]; exact hT.2.1
          have hv' := vT_by r1 hn (b := b) (by omega)
          have hn' : us s 10 (b : Int) 1 = (n : Int) := by rw [us_ne _ _ _ (by omega)]; exact hn
          have hQ : cQ (us s 10 (b : Int)) M' := cQ_of r1 hT hk (md_by s _)
          have hN' : CN (us s 10 (b : Int)) M' := CN_10 (fun i hi => us_ne _ _ _ hi) hN
          obtain ⟨M2, b1, b2, b3, b4, b5⟩ := p_lineUp M' (us s 10 (b : Int)) w n hv' hQ.2.1 hn' (by omega)
          rw [us_at] at b1
          have hQ2 := cQ_eq (M' := M2) hQ (fun a ha => b2 a (by omega))
          have hN2 := CN_eq (M' := M2) hN' (b2 40 (by omega)) (b2 41 (by omega)) (b2 42 (by omega))
          have hP := isP_rst hv' hn' w
          obtain ⟨M3, c1, c2, c3, c4⟩ := p_reckon M2 (us s 10 (b : Int)) (rst (us s 10 (b : Int)) w) n w hv' hn' hP hQ2 hN2 b3 b4
          have hX : CX (us s 10 (b : Int)) (rst (us s 10 (b : Int)) w) n w M3 := ⟨cQ_eq hQ2 (fun a ha => c2 a (by omega)), CN_eq hN2 (c2 40 (by omega)) (c2 41 (by omega)) (c2 42 (by omega)), CZ_eq b5 (c2 43 (by omega)) (c2 44 (by omega)) (c2 45 (by omega)), c4, fun p hp => by rw [c2 47 (by omega)]; exact b4 p hp⟩
          have k3 : ∀ a, a < 43 ∨ 54 < a → M3 a = M' a := fun a ha => by rw [c2 a (by omega), b2 a (by omega)]
          obtain ⟨M4, d1, d2⟩ := ih (b + 1) M3 none (by omega) (cT_eq (fun a _ h2 => k3 a (by omega)) hT) (kT_eq (fun a _ h2 => k3 a (by omega)) hk) (CN_eq hN (k3 40 (by omega)) (k3 41 (by omega)) (k3 42 (by omega)))
          rw [e_Desk_fairest_24, e04, if_pos (by omega), b1, am_cb_s, c1, am_cb_s, p_leastDepth hv' hn' hP hX, am_cb_s, r_ck_ok (by omega) (by omega)]
          exact ⟨M4, d1, fun a ha => by rw [d2 a ha, k3 a (by omega)]⟩
      obtain ⟨M2, c1, c2⟩ := Lc n 0 M1 none (by omega) hT1 hk1 a3
      have k2 : ∀ a, a < 40 ∨ 54 < a → M2 a = M a := fun a ha => by rw [c2 a ha, a2 a (by omega) (by omega) (by omega)]
      have hR1 : RI M2 := RI_cf (fun x hx => k2 x (by omega)) hR
      have hR3 : RI (am_up M2 72 6 0) := RI_mf (mf_up (mf.rf M2) (by omega)) hR1
      have f73 : (am_up M2 72 6 0) 73 = s := by rw [am_up_ne _ _ _ _ (by decide), k2 73 (by omega), hs]
      have Lm : ∀ (j b : Nat) (M' : am_M) (d4 d6 d7 d8 : Option am_V) (v : Int), b + j = n → mg (am_up M2 72 6 0) M' → M' 73 = us s 10 v → ∃ M3, cX 166 24 [some (rV 72), some (iV (w : Int)), some (iV (s 10)), some (lV (frs s n w b)), d4, some (iV (b : Int)), d6, d7, d8] [] M' = some (frs s n w n, M3) ∧ mg (am_up M2 72 6 0) M3 ∧ M3 73 = s := by
        intro j
        induction j with
        | zero =>
          intro b M' d4 d6 d7 d8 v hb hm h7
          have e : b = n := by omega
          subst e
          have e1 : M' 73 1 = (b : Int) := by rw [h7, us_ne _ _ _ (by omega)]; exact hn
          refine ⟨am_up M' 73 10 (s 10), by rw [e_Model_fairest_24, e1, if_neg (by omega)], hm.tr mg_73, ?_⟩
          rw [up_us, h7, us_us, ← us_us s 10 0, us_back]
        | succ j ih =>
          intro b M' d4 d6 d7 d8 v hb hm h7
          have e1 : M' 73 1 = (n : Int) := by rw [h7, us_ne _ _ _ (by omega)]; exact hn
          have hv' := vT_by r1 hn (b := b) (by omega)
          have hn' : us s 10 (b : Int) 1 = (n : Int) := by rw [us_ne _ _ _ (by omega)]; exact hn
          have u73 : (am_up M' 73 10 (b : Int)) 73 = us s 10 (b : Int) := by rw [up_us, h7, us_us]
          obtain ⟨M3, b1, b2, b3⟩ := p_lays0 (am_up M' 73 10 (b : Int)) n w (by rw [u73]; exact hv') (by rw [u73]; exact hn') (by omega) (fun i hi => by rw [am_up_ne _ _ _ _ (by decide), hm.1 88 (by decide) (by decide) (by omega), am_up_ne _ _ _ _ (by decide), k2 88 (by omega)]; exact r10 i hi)
          rw [u73] at b3
          have v73 : M3 73 = us s 10 (b : Int) := by rw [b2.1 73 (by omega), u73]
          have hP := isP_rst hv' hn' w
          obtain ⟨g, hg⟩ : ∃ g, dpt (us s 10 (b : Int)) (rst (us s 10 (b : Int)) w) n w = g := ⟨_, rfl⟩
          have dm : ∀ k, k < n → cY 129 [rV 72, iV (w : Int), iV (k : Int)] M3 = some (g k, M3) := fun k hk => by rw [p_mdepthOf b3 hk, v73, hg]
          have e31 : M3 73 1 = (n : Int) := by rw [v73]; exact hn'
          have Li : ∀ (i k : Nat) (d4 d7 : Option am_V), 1 ≤ k → k + i = n → ∃ (d6 d8 : Option am_V), cX 166 45 [some (rV 72), some (iV (w : Int)), some (iV (s 10)), some (lV (frs s n w b)), d4, some (iV (b : Int)), some (lV (lsd g k)), d7, some (iV (k : Int))] [] M3 = cX 166 24 [some (rV 72), some (iV (w : Int)), some (iV (s 10)), some (lV (frs s n w (b + 1))), none, some (iV ((b + 1 : Nat) : Int)), d6, none, d8] [] M3 := by
            intro i
            induction i with
            | zero =>
              intro k d4 d7 hk1 hk
              have e : k = n := by omega
              subst e
              have ef : frs s k w (b + 1) = max (frs s k w b) (lsd g k) := by rw [← hg]; rfl
              refine ⟨some (lV (lsd g k)), some (iV (k : Int)), ?_⟩
              rw [e_Model_fairest_45, e31, if_neg (by omega), ef]
              by_cases q1 : lsd g k < frs s k w b
              · rw [if_pos q1, r_ck_ok (by omega) (by omega), show max (frs s k w b) (lsd g k) = frs s k w b by omega]
                rfl
              · rw [if_neg q1]
                by_cases q2 : lsd g k = frs s k w b
                · rw [if_pos q2, r_ck_ok (by omega) (by omega), show max (frs s k w b) (lsd g k) = frs s k w b by omega]
                  rfl
                · rw [if_neg q2, r_ck_ok (by omega) (by omega), show max (frs s k w b) (lsd g k) = lsd g k by omega]
                  rfl
            | succ i ihi =>
              intro k d4 d7 hk1 hk
              obtain ⟨d6, d8, hi⟩ := ihi (k + 1) none none (by omega) (by omega)
              have es : lsd g (k + 1) = min (lsd g k) (g k) := if_neg (by omega)
              refine ⟨d6, d8, ?_⟩
              rw [es] at hi
              rw [e_Model_fairest_45, e31, if_pos (by omega), dm k (by omega), am_cb_s]
              by_cases q1 : g k < lsd g k
              · rw [show min (lsd g k) (g k) = g k by omega] at hi
                rw [if_pos q1, dm k (by omega), am_cb_s, r_ck_ok (by omega) (by omega)]
                exact hi
              · rw [show min (lsd g k) (g k) = lsd g k by omega] at hi
                rw [if_neg q1]
                split
                · rw [r_ck_ok (by omega) (by omega)]; exact hi
                · rw [r_ck_ok (by omega) (by omega)]; exact hi
          obtain ⟨d6', d8', hi⟩ := Li (n - 1) 1 none none (by omega) (by omega)
          have e1' : lsd g 1 = g 0 := if_pos rfl
          rw [e1'] at hi
          obtain ⟨M4, f1, f2, f3⟩ := ih (b + 1) M3 none d6' none d8' (b : Int) (by omega) ((hm.tr mg_73).tr b2.mf.mg) v73
          have dm0 : cY 129 [rV 72, iV (w : Int), iV 0] M3 = some (g 0, M3) := dm 0 (by omega)
          rw [e_Model_fairest_24, e1, if_pos (by omega), b1, am_cb_s, dm0, am_cb_s]
          exact ⟨M4, hi.trans f1, f2, f3⟩
      obtain ⟨M3, m1, m2, m3⟩ := Lm n 0 (am_up M2 72 6 0) none none none none (s 10) (by omega) (mg.rf _) (by rw [f73, ← us_us s 10 0, us_back])
      refine ⟨frs s n w n, M2, M3, ?_, ?_, RI_mf (m2.mf (by rw [m3, f73])) hR3⟩
      · rw [e_Desk_fairest, p_isNoWeek, am_cb_s, if_pos hw, if_pos rfl, e0, if_neg (by omega), a1, am_cb_s]
        exact c1
      · rw [e_Model_fairest, p_isWeek, am_cb_s, if_pos hw, if_neg (by decide), f73, hn, if_neg (by omega)]
        exact m1
  · refine ⟨-3, M, am_up M 72 6 0, ?_, ?_, hR2⟩
    · rw [e_Desk_fairest, p_isNoWeek, am_cb_s, if_neg hw, if_neg (by decide)]
    · rw [e_Model_fairest, p_isWeek, am_cb_s, if_neg hw, if_pos rfl]
-- which reach to line
def lng (s : Nat → Int) (n w r : Nat) : Int := sm (wtr (us s (14 + 3 * r) 0) (rst s w) n w) n
theorem o33 : lw_O33 RI := by
  intro a ha M hR hM
  have hR2 : RI (am_up M 72 6 0) := RI_mf (mf_up (mf.rf M) (by omega)) hR
  obtain ⟨r1, r2, r3, r4, r5, r6, r7, r8, r9, r10, r11⟩ := id hR
  have hb1 := r1.2.1
  obtain ⟨n, hn⟩ : ∃ n : Nat, M 73 1 = (n : Int) := ⟨(M 73 1).toNat, by omega⟩
  have e0 : M 0 4 = (n : Int) := by rw [← hn]; exact r2.2.1
  have e73 : (am_up M 72 6 0) 73 = M 73 := am_up_ne M 72 6 0 (by decide)
  by_cases hw : 0 ≤ a ∧ a ≤ 51
  · obtain ⟨w, rfl⟩ : ∃ w : Nat, a = (w : Int) := ⟨a.toNat, by omega⟩
    obtain ⟨s, hs⟩ : ∃ s, M 73 = s := ⟨_, rfl⟩
    rw [hs] at r1 r2 r11 hn hb1
    have hb0 := r1.1
    obtain ⟨m, hm⟩ : ∃ m : Nat, s 0 = (m : Int) := ⟨(s 0).toNat, by omega⟩
    have hQ0 : cQ s M := cQ_of r1 r2 r3 (md.rf s)
    have e5 : M 10 5 = s 10 := r2.2.2.2.2.2.1 5 (by omega)
    obtain ⟨M1, a1, a2, a3, a4, a5⟩ := p_lineUp M s w n r1 hQ0.2.1 hn (by omega)
    have hT1 : cT s M1 0 := cT_eq (fun a _ h2 => a2 a (by omega)) r2
    have hk1 : kT M1 0 := kT_eq (fun a _ h2 => a2 a (by omega)) r3
    have hv' : ∀ r, r < m → vT (us s (14 + 3 * r) 0) := fun r hr => vT_soak r1 (by omega)
    have hmd : ∀ r, r < m → md s (us s (14 + 3 * r) 0) := fun r hr i _ _ hi => us_ne _ _ _ (by omega)
    have hn' : ∀ r, us s (14 + 3 * r) 0 1 = (n : Int) := fun r => by rw [us_ne _ _ _ (by omega)]; exact hn
    have hrs : ∀ r, r < m → rst (us s (14 + 3 * r) 0) w = rst s w := fun r hr => rst_c (fun i hi => us_ne _ _ _ (by omega)) w
    have hP := isP_rst r1 hn w
    have hgb : ∀ r, r < m → 0 ≤ lng s n w r ∧ lng s n w r ≤ 10669320 * (n : Int) := fun r hr => sm_bd n (fun f hf => wtr_bd (hv' r hr) (hn' r) hP w hf)
    have Lc : ∀ (j k : Nat) (M' : am_M) (d1 d4 d6 d7 : Option am_V), k + j = m → cT s M' 0 → kT M' 0 → CZ s w M' → M' 46 3 = (w : Int) → (∀ p, p < n → M' 47 p = rst s w p) → ∃ M2, cX 38 20 [some (rV 70), d1, some (iV (fbs 1 (lng s n w) k)), some (lV (fbv 1 (lng s n w) k)), d4, some (iV (k : Int)), d6, d7] [] M' = some (fbs 1 (lng s n w) m, M2) ∧ ∀ a, a < 40 ∨ 54 < a → M2 a = M' a := by
      intro j
      induction j with
      | zero =>
        intro k M' d1 d4 d6 d7 hk hT hkT hZ h46 h47
        have e : k = m := by omega
        subst e
        have e00 : M' 0 0 = (k : Int) := by rw [← hm]; exact hT.1
        exact ⟨M', by rw [e_Desk_lining_20, e00, if_neg (by omega)], fun _ _ => rfl⟩
      | succ j ih =>
        intro k M' d1 d4 d6 d7 hk hT hkT hZ h46 h47
        have e00 : M' 0 0 = (m : Int) := by rw [← hm]; exact hT.1
        have e10 : M' 10 0 = s 5 := hT.2.2.2.2.2.1 0 (by omega)
        have hvk := hv' k (by omega)
        obtain ⟨M2, b1, b2, b3⟩ := p_letIn M' s (us s (14 + 3 * k) 0) (s 5) (k : Int) r1 hvk hT (us_ne _ _ _ (by omega)) (fun r hr => by
          by_cases c : r = k
          · subst c; rw [us_at, if_pos rfl]
          · rw [us_ne _ _ _ (by omega), if_neg (by omega)]) (fun i _ hi => us_ne _ _ _ (by omega))
        have k2 : ∀ a, a < 40 ∨ 42 < a → M2 a = M' a := fun a ha => b2 a (by omega) (by omega) (by omega)
        have hQ2 : cQ (us s (14 + 3 * k) 0) M2 := cQ_eq (cQ_of r1 hT hkT (hmd k (by omega))) (fun a ha => k2 a (by omega))
        obtain ⟨M3, c1, c2, c3, c4⟩ := p_reckon M2 (us s (14 + 3 * k) 0) (rst s w) n w hvk (hn' k) hP hQ2 b3 (by rw [k2 46 (by omega)]; exact h46) (fun p hp => by rw [k2 47 (by omega)]; exact h47 p hp)
        have hX : CX (us s (14 + 3 * k) 0) (rst s w) n w M3 := ⟨cQ_eq hQ2 (fun a ha => c2 a (by omega)), CN_eq b3 (c2 40 (by omega)) (c2 41 (by omega)) (c2 42 (by omega)), CZ_c (fun i hi => us_ne _ _ _ (by omega)) (CZ_eq hZ (by rw [c2 43 (by omega), k2 43 (by omega)]) (by rw [c2 44 (by omega), k2 44 (by omega)]) (by rw [c2 45 (by omega), k2 45 (by omega)])), c4, fun p hp => by rw [c2 47 (by omega), k2 47 (by omega)]; exact h47 p hp⟩
        have k3 : ∀ a, a < 40 ∨ (42 < a ∧ a < 46) ∨ a = 47 ∨ 54 < a → M3 a = M' a := fun a ha => by rw [c2 a (by omega), k2 a (by omega)]
        have hwt : cY 272 [rV 46] M3 = some (lng s n w k, M3) := p_waterTogether hvk (hn' k) hP hX
        have nxt : ∀ (d6 : Option am_V), ∃ M2, cX 38 20 [some (rV 70), none, some (iV (fbs 1 (lng s n w) (k + 1))), some (lV (fbv 1 (lng s n w) (k + 1))), none, some (iV ((k + 1 : Nat) : Int)), d6, none] [] M3 = some (fbs 1 (lng s n w) m, M2) ∧ ∀ a, a < 40 ∨ 54 < a → M2 a = M' a := fun d6 => by
          obtain ⟨M4, d1, d2⟩ := ih (k + 1) M3 none none d6 none (by omega) (cT_eq (fun a _ h2 => k3 a (by omega)) hT) (kT_eq (fun a _ h2 => k3 a (by omega)) hkT) (CZ_eq hZ (k3 43 (by omega)) (k3 44 (by omega)) (k3 45 (by omega))) c3 (fun p hp => by rw [k3 47 (by omega)]; exact h47 p hp)
          exact ⟨M4, d1, fun a ha => by rw [d2 a ha, k3 a (by omega)]⟩
        have hfb := fbs_bd 1 (lng s n w) k
        have es : fbs 1 (lng s n w) (k + 1) = if fbs 1 (lng s n w) k = -1 then (k : Int) else if (if (1 : Int) = 0 then lng s n w k < lng s n w (fbs 1 (lng s n w) k).toNat else lng s n w (fbs 1 (lng s n w) k).toNat < lng s n w k) then (k : Int) else fbs 1 (lng s n w) k := rfl
        have ev : fbv 1 (lng s n w) (k + 1) = lng s n w (fbs 1 (lng s n w) (k + 1)).toNat := if_neg (by omega)
        rw [ev, es] at nxt
        simp only [if_neg (show ¬ (1 : Int) = 0 by decide)] at nxt
        rw [e_Desk_lining_20, e00, if_pos (by omega), e10, b1, am_cb_s, c1, am_cb_s, hwt, am_cb_s]
        by_cases q : fbs 1 (lng s n w) k = -1
        · simp only [if_pos q, Int.toNat_natCast] at nxt
          rw [if_pos q, r_ck_ok (by omega) (by omega)]
          exact nxt _
        · have hk0 : k ≠ 0 := fun h => q (by rw [h]; rfl)
          have ev0 : fbv 1 (lng s n w) k = lng s n w (fbs 1 (lng s n w) k).toNat := if_neg hk0
          simp only [if_neg q] at nxt
          rw [if_neg q, ev0]
          by_cases c : lng s n w (fbs 1 (lng s n w) k).toNat < lng s n w k
          · simp only [if_pos c, Int.toNat_natCast] at nxt
            rw [if_neg (by omega), if_neg (by omega), r_ck_ok (by omega) (by omega)]
            exact nxt _
          · simp only [if_neg c] at nxt
            split
            · rw [r_ck_ok (by omega) (by omega)]; exact nxt _
            · rw [if_pos (by omega), r_ck_ok (by omega) (by omega)]; exact nxt _
    obtain ⟨M2, c1, c2⟩ := Lc m 0 M1 (some (iV (w : Int))) none none none (by omega) hT1 hk1 a5 a3 a4
    have k2 : ∀ a, a < 40 ∨ 54 < a → M2 a = M a := fun a ha => by rw [c2 a ha, a2 a (by omega)]
    have hR1 : RI M2 := RI_cf (fun x hx => k2 x (by omega)) hR
    have hR3 : RI (am_up M2 72 6 0) := RI_mf (mf_up (mf.rf M2) (by omega)) hR1
    have f73 : (am_up M2 72 6 0) 73 = s := by rw [am_up_ne _ _ _ _ (by decide), k2 73 (by omega), hs]
    have Lm : ∀ (j k : Nat) (M' : am_M) (d4 d6 d7 d8 : Option am_V), k + j = m → mf (am_up M2 72 6 0) M' → ∃ M3, cX 139 14 [some (rV 72), some (iV (w : Int)), some (iV (fbs 1 (lng s n w) k)), some (lV (fbv 1 (lng s n w) k)), d4, some (iV (k : Int)), d6, d7, d8] [] M' = some (fbs 1 (lng s n w) m, M3) ∧ mf (am_up M2 72 6 0) M3 := by
      intro j
      induction j with
      | zero =>
        intro k M' d4 d6 d7 d8 hk hmf
        have e : k = m := by omega
        subst e
        have h7 : M' 73 = s := by rw [hmf.1 73 (by decide) (by omega), f73]
        exact ⟨M', by rw [e_Model_lining_14, h7, if_neg (by omega)], hmf⟩
      | succ j ih =>
        intro k M' d4 d6 d7 d8 hk hmf
        have h7 : M' 73 = s := by rw [hmf.1 73 (by decide) (by omega), f73]
        have hvk := hv' k (by omega)
        have u73 : (am_up M' 73 (14 + 3 * k) 0) 73 = us s (14 + 3 * k) 0 := by rw [up_us, h7]
        obtain ⟨M3, b1, b2, b3⟩ := p_lays0 (am_up M' 73 (14 + 3 * k) 0) n w (by rw [u73]; exact hvk) (by rw [u73]; exact hn' k) (by omega) (fun i hi => by rw [am_up_ne _ _ _ _ (by decide), hmf.1 88 (by decide) (by omega), am_up_ne _ _ _ _ (by decide), k2 88 (by omega)]; exact r10 i hi)
        rw [u73, hrs k (by omega)] at b3
        have v73 : M3 73 = us s (14 + 3 * k) 0 := by rw [b2.1 73 (by omega), u73]
        have hwa := p_waterOfAll b1 b3
        rw [v73] at hwa
        have hwa : cY 124 [rV 72, iV (w : Int)] (am_up M' 73 (14 + 3 * k) 0) = some (lng s n w k, M3) := hwa
        have w73 : (am_up M3 73 (14 + 3 * k) (s (14 + 3 * k))) 73 = s := by rw [up_us, v73, us_back]
        have hm4 : mf (am_up M2 72 6 0) (am_up M3 73 (14 + 3 * k) (s (14 + 3 * k))) := hmf.tr (((mg_73.tr b2.mf.mg).tr mg_73).mf (by rw [w73, h7]))
        have nxt := fun d6 d7 => ih (k + 1) (am_up M3 73 (14 + 3 * k) (s (14 + 3 * k))) none d6 d7 none (by omega) hm4
        have hfb := fbs_bd 1 (lng s n w) k
        have es : fbs 1 (lng s n w) (k + 1) = if fbs 1 (lng s n w) k = -1 then (k : Int) else if (if (1 : Int) = 0 then lng s n w k < lng s n w (fbs 1 (lng s n w) k).toNat else lng s n w (fbs 1 (lng s n w) k).toNat < lng s n w k) then (k : Int) else fbs 1 (lng s n w) k := rfl
        have ev : fbv 1 (lng s n w) (k + 1) = lng s n w (fbs 1 (lng s n w) (k + 1)).toNat := if_neg (by omega)
        rw [ev, es] at nxt
        simp only [if_neg (show ¬ (1 : Int) = 0 by decide)] at nxt
        rw [e_Model_lining_14, h7, if_pos (by omega), r_ck_ok (by omega) (by omega), r_ck_ok (by omega) (by omega), r_ck_ok (by omega) (by omega), r_bd_ok (by omega) (by omega), r_ck_ok (by omega) (by omega), r_ck_ok (by omega) (by omega), r_ck_ok (by omega) (by omega), r_bd_ok (by omega) (by omega), show (12 + 3 * (k : Int) + 2).toNat = 14 + 3 * k by omega, hwa, am_cb_s, r_ck_ok (by omega) (by omega), r_ck_ok (by omega) (by omega), r_ck_ok (by omega) (by omega), r_bd_ok (by omega) (by omega)]
        by_cases q : fbs 1 (lng s n w) k = -1
        · simp only [if_pos q, Int.toNat_natCast] at nxt
          rw [if_pos q, r_ck_ok (by omega) (by omega)]
          exact nxt _ _
        · have hk0 : k ≠ 0 := fun h => q (by rw [h]; rfl)
          have ev0 : fbv 1 (lng s n w) k = lng s n w (fbs 1 (lng s n w) k).toNat := if_neg hk0
          simp only [if_neg q] at nxt
          rw [if_neg q, ev0]
          by_cases c : lng s n w (fbs 1 (lng s n w) k).toNat < lng s n w k
          · simp only [if_pos c, Int.toNat_natCast] at nxt
            rw [if_neg (by omega), if_neg (by omega), r_ck_ok (by omega) (by omega)]
            exact nxt _ _
          · simp only [if_neg c] at nxt
            split
            · rw [r_ck_ok (by omega) (by omega)]; exact nxt _ _
            · rw [if_pos (by omega), r_ck_ok (by omega) (by omega)]; exact nxt _ _
    obtain ⟨M3, m1, m2⟩ := Lm m 0 (am_up M2 72 6 0) none none none none (by omega) (mf.rf _)
    refine ⟨fbs 1 (lng s n w) m, M2, M3, ?_, ?_, RI_mf m2 hR3⟩
    · rw [e_Desk_lining, p_isNoWeek, am_cb_s, if_pos hw, if_pos rfl, e5, a1, am_cb_s]
      exact c1
    · rw [e_Model_lining, p_isWeek, am_cb_s, if_pos hw, if_neg (by decide)]
      exact m1
  · refine ⟨-3, M, am_up M 72 6 0, ?_, ?_, hR2⟩
    · rw [e_Desk_lining, p_isNoWeek, am_cb_s, if_neg hw, if_neg (by decide)]
    · rw [e_Model_lining, p_isWeek, am_cb_s, if_neg hw, if_pos rfl]
