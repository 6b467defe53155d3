-- the reference lays a week
theorem p_mlends (M : am_M) (o : Nat → Int) (n w : Nat) (hv : vT (M 73)) (hn : M 73 1 = (n : Int)) (hP : isP n o) (hf : ∀ f, f < n → M 81 f = fF (M 73) o n f ∧ M 85 f = trn (M 73) o n f) (h0 : ∀ f, f < n → 0 ≤ trn (M 73) o n f) : ∃ M', cY 108 [rV 72, iV (w : Int)] M = some (0, M') ∧ (∀ a, a ≠ 72 → a ≠ 85 → M' a = M a) ∧ (∀ j, j ≠ 25 → M' 72 j = M 72 j) ∧ M' 72 25 = ((bts (vnt (M 73) o n w) (M 73 3).toNat : Nat) : Int) ∧ ∀ f, f < n → M' 85 f = lF (M 73) o n w f := by
  have hb1 := hv.2.1
  have hb3 := hv.2.2.2.1
  obtain ⟨s, hs⟩ : ∃ s, M 73 = s := ⟨_, rfl⟩
  rw [hs] at hv hn hf h0 hb1 hb3 ⊢
  obtain ⟨m, hm⟩ : ∃ m : Nat, s 3 = (m : Int) := ⟨(s 3).toNat, by omega⟩
  obtain ⟨⟨d3, d4⟩, M1, h1, i1, i2, i3, i4⟩ := lp_up (α := Option am_V × Option am_V) (X := fun k d M => cX 108 5 [some (rV 72), some (iV (w : Int)), some (iV (k : Int)), d.1, d.2] [] M) (n := m) (I := fun k M' => (∀ a, a ≠ 72 → a ≠ 85 → M' a = M a) ∧ (∀ j, j ≠ 25 → M' 72 j = M 72 j) ∧ M' 72 25 = ((bts (vnt s o n w) k : Nat) : Int) ∧ ∀ f, f < n → M' 85 f = lns s o n w k f) (by
    intro k hk d M' hI
    obtain ⟨i1, i2, i3, i4⟩ := hI
    obtain ⟨r0, r1, r2, r3, r4⟩ := hv.2.2.2.2.2.2.2.2.2.2.1 k (by omega)
    obtain ⟨a, ha⟩ : ∃ a : Nat, s (119 + 4 * k) = (a : Int) := ⟨(s (119 + 4 * k)).toNat, by omega⟩
    obtain ⟨b, hb⟩ : ∃ b : Nat, s (120 + 4 * k) = (b : Int) := ⟨(s (120 + 4 * k)).toNat, by omega⟩
    have hab : b ≠ a := by omega
    have hfa := fF_bd hv hn hP (f := a) (by omega)
    have la := lns_bd hv hn hP w h0 (k := k) (by omega) (f := a) (by omega)
    have lb := lns_bd hv hn hP w h0 (k := k) (by omega) (f := b) (by omega)
    have hh := e_Model_lends_5 (w : Int) (k : Int) d.1 d.2 M'
    have e73 : M' 73 = s := by rw [i1 73 (by decide) (by decide), hs]
    have e81 : M' 81 a = fF s o n a := by rw [i1 81 (by decide) (by decide)]; exact (hf a (by omega)).1
    have el : lns s o n w (k + 1) = if lcn s o n w (lns s o n w k) k = true then lst s (lns s o n w k) k else lns s o n w k := rfl
    have eb : bts (vnt s o n w) (k + 1) = if vnt s o n w k = true then bts (vnt s o n w) k ||| 2 ^ k else bts (vnt s o n w) k := rfl
    have ev : vnt s o n w k = true ↔ s (118 + 4 * k) = (w : Int) ∧ ¬ lcn s o n w (lns s o n w k) k = true := by
      unfold vnt lnt
      rw [Bool.and_eq_true, decide_eq_true_iff, Bool.not_eq_true', Bool.not_eq_true]
    have lc := lcn_t (s := s) (o := o) (n := n) (w := w) (g := lns s o n w k) ha
    have hbk := bts_lt31 (vnt s o n w) (k := k) (by omega)
    rw [e73, hm, if_pos (by omega), r_ck_ok (by omega) (by omega), r_ck_ok (by omega) (by omega), r_bd_ok (by omega) (by omega), show (118 + 4 * (k : Int)).toNat = 118 + 4 * k by omega] at hh
    by_cases q : s (118 + 4 * k) = (w : Int)
    · rw [if_pos q, r_ck_ok (by omega) (by omega), r_bd_ok (by omega) (by omega), show (118 + 4 * (k : Int) + 1).toNat = 119 + 4 * k by omega, ha, r_bd_ok (by omega) (by omega), r_bd_ok (by omega) (by omega), Int.toNat_natCast, i4 a (by omega), e81, r_ck_ok (by omega) (by omega), r_ck_ok (by omega) (by omega), r_bd_ok (by omega) (by omega), show (118 + 4 * (k : Int) + 3).toNat = 121 + 4 * k by omega] at hh
      by_cases q2 : lns s o n w k a - fF s o n a < s (121 + 4 * k)
      · have hcn : ¬ lcn s o n w (lns s o n w k) k = true := fun h => by have := (lc.mp h).2; omega
        rw [if_neg hcn] at el
        rw [if_pos (ev.mpr ⟨q, hcn⟩)] at eb
        rw [if_pos q2, r_ck_ok (by omega) (by omega), i3, b_set hbk (by omega)] at hh
        exact ⟨(_, _), _, hh, fun x x1 x2 => by rw [am_up_ne _ _ _ _ x1, i1 x x1 x2], fun j hj => by rw [am_up_nj _ _ _ _ hj, i2 j hj], by rw [am_up_at, eb], fun f hf => by rw [am_up_ne _ _ _ _ (by decide), el]; exact i4 f hf⟩
      · have hcn : lcn s o n w (lns s o n w k) k = true := lc.mpr ⟨q, by omega⟩
        rw [if_pos hcn] at el
        rw [if_neg (fun h => (ev.mp h).2 hcn)] at eb
        rw [if_neg q2, r_bd_ok (by omega) (by omega), r_ck_ok (by omega) (by omega), r_bd_ok (by omega) (by omega), r_ck_ok (by omega) (by omega), r_bd_ok (by omega) (by omega), r_ck_ok (by omega) (by omega), r_bd_ok (by omega) (by omega), show (118 + 4 * (k : Int) + 2).toNat = 120 + 4 * k by omega, hb, r_bd_ok (by omega) (by omega), r_ck_ok (by omega) (by omega), r_bd_ok (by omega) (by omega), Int.toNat_natCast, am_up_nj _ _ _ _ hab, i4 b (by omega), r_ck_ok (by omega) (by omega), r_bd_ok (by omega) (by omega), r_ck_ok (by omega) (by omega)] at hh
        refine ⟨(_, _), _, hh, fun x x1 x2 => by rw [am_up_ne _ _ _ _ x2, am_up_ne _ _ _ _ x2, i1 x x1 x2], fun j hj => by rw [am_up_ne _ _ _ _ (by decide), am_up_ne _ _ _ _ (by decide), i2 j hj], by rw [am_up_ne _ _ _ _ (by decide), am_up_ne _ _ _ _ (by decide), eb]; exact i3, fun f hf => ?_⟩
        rw [el]
        unfold lst
        rw [ha, hb, Int.toNat_natCast, Int.toNat_natCast]
        by_cases x1 : f = b
        · subst x1; rw [am_up_at, us_at]
        · rw [am_up_nj _ _ _ _ x1, us_ne _ _ _ x1]
          by_cases x2 : f = a
          · subst x2; rw [am_up_at, us_at]
          · rw [am_up_nj _ _ _ _ x2, us_ne _ _ _ x2]; exact i4 f hf
    · have hcn : ¬ lcn s o n w (lns s o n w k) k = true := fun h => q (lc.mp h).1
      rw [if_neg hcn] at el
      rw [if_neg (fun h => q (ev.mp h).1)] at eb
      rw [if_neg q, r_ck_ok (by omega) (by omega)] at hh
      exact ⟨(_, _), M', hh, i1, i2, by rw [eb]; exact i3, fun f hf => by rw [el]; exact i4 f hf⟩) m 0 (by omega) (none, none) (am_up M 72 25 0) ⟨fun a x1 _ => am_up_ne _ _ _ _ x1, fun j hj => am_up_nj _ _ _ _ hj, am_up_at _ _ _ _, fun f hx => by rw [am_up_ne _ _ _ _ (by decide)]; exact (hf f hx).2⟩
  refine ⟨M1, ?_, i1, i2, by rw [hm, Int.toNat_natCast]; exact i3, fun f hf => by unfold lF; rw [hm, Int.toNat_natCast]; exact i4 f hf⟩
  rw [e_Model_lends]
  refine h1.trans ?_
  rw [e_Model_lends_5, i1 73 (by decide) (by decide), hs, hm, if_neg (by omega)]
theorem p_mfollow (M : am_M) (o g : Nat → Int) (n : Nat) (d : Option am_V) (h8 : n ≤ 8) (hP : isP n o) (hc : M 73 1 = (n : Int)) (ho : ∀ p, p < n → M 79 p = o p) (hg : ∀ f, f < n → M 85 f = g f ∧ -20000 ≤ g f ∧ g f ≤ 20000) : ∃ M', cX 109 80 [some (rV 72), d, some (iV 0), some (iV 0)] [] M = some (0, M') ∧ (∀ a, a ≠ 86 → M' a = M a) ∧ ∀ f, f < n → M' 86 f = bgn o g (pl o n f) := by
  obtain ⟨d', M1, h1, i1, i2⟩ := lp_up (α := Option am_V) (X := fun k d M => cX 109 80 [some (rV 72), d, some (iV (bgn o g k)), some (iV (k : Int))] [] M) (n := n) (I := fun k M' => (∀ a, a ≠ 86 → M' a = M a) ∧ ∀ p, p < k → M' 86 (o p).toNat = bgn o g p) (by
    intro k hk d M' hI
    obtain ⟨i1, i2⟩ := hI
    have hok := hP.1 k hk
    obtain ⟨f, hf⟩ : ∃ f : Nat, o k = (f : Int) := ⟨(o k).toNat, by omega⟩
    have hh := e_Model_laysWeek_80 (bgn o g k) (k : Int) d M'
    have hb := bgn_bd hP 20000 (fun f hf => ⟨(hg f hf).2.1, (hg f hf).2.2⟩) k (by omega)
    obtain ⟨g1, g2, g3⟩ := hg f (by omega)
    have eg : bgn o g (k + 1) = bgn o g k + g f := by show bgn o g k + g (o k).toNat = _; rw [hf, Int.toNat_natCast]
    rw [i1 73 (by decide), hc, if_pos (by omega), Int.toNat_natCast, i1 79 (by decide), ho k hk, hf, Int.toNat_natCast, i1 85 (by decide), g1, r_bd_ok (by omega) (by omega), r_bd_ok (by omega) (by omega), r_bd_ok (by omega) (by omega), r_bd_ok (by omega) (by omega), r_ck_ok (by omega) (by omega), r_ck_ok (by omega) (by omega), ← eg] at hh
    refine ⟨none, _, hh, fun a ha => (am_up_ne _ _ _ _ ha).trans (i1 a ha), fun p hp => ?_⟩
    by_cases e : p = k
    · subst e; rw [hf, Int.toNat_natCast, am_up_at]
    · have hne : o p ≠ o k := fun h => e (hP.2 p k (by omega) hk h)
      have hop := hP.1 p (by omega)
      rw [am_up_nj _ _ _ _ (by omega)]; exact i2 p (by omega)) n 0 (by omega) d M ⟨fun _ _ => rfl, fun p hp => by omega⟩
  refine ⟨M1, ?_, i1, fun f hf => ?_⟩
  · refine h1.trans ?_
    rw [e_Model_laysWeek_80, i1 73 (by decide), hc, if_neg (by omega)]
  · obtain ⟨p1, p2⟩ := pl_o hP hf
    have := i2 (pl o n f) p1
    rw [p2, Int.toNat_natCast] at this
    exact this
/-- the reference has a week laid -/
def MW (s o : Nat → Int) (n w : Nat) (M : am_M) : Prop := RP n o M ∧ (∀ f, f < n → M 81 f = fF s o n f ∧ M 82 f = dF s o n f ∧ M 83 f = shr s o n f ∧ M 84 f = trn s o n f) ∧ (1 ≤ n → M 72 23 = nets s o n n) ∧ M 72 24 = fls s o n n ∧ (fls s o n n = 0 → (∀ f, f < n → M 85 f = lF s o n w f ∧ M 86 f = bF s o n w f) ∧ M 72 25 = ((bts (vnt s o n w) (s 3).toNat : Nat) : Int)) ∧ ∀ f, f < n → (-200000 ≤ M 85 f ∧ M 85 f ≤ 200000) ∧ (-200000 ≤ M 86 f ∧ M 86 f ≤ 200000)
/-- what laying a week may change -/
def wf (M M' : am_M) : Prop := (∀ a, a < 72 ∨ (72 < a ∧ a < 79) ∨ 87 < a → M' a = M a) ∧ ∀ j, j ≠ 23 → j ≠ 24 → j ≠ 25 → M' 72 j = M 72 j
theorem wf.rf (M : am_M) : wf M M := ⟨fun _ _ => rfl, fun _ _ _ _ => rfl⟩
theorem wf.tr {M M1 M2 : am_M} (h1 : wf M M1) (h2 : wf M1 M2) : wf M M2 := ⟨fun a h => (h2.1 a h).trans (h1.1 a h), fun j x y z => (h2.2 j x y z).trans (h1.2 j x y z)⟩
theorem wf.mf {M M' : am_M} (h : wf M M') : mf M M' := ⟨fun a x y => h.1 a (by omega), h.2 5 (by decide) (by decide) (by decide), h.2 8 (by decide) (by decide) (by decide), h.2 11 (by decide) (by decide) (by decide), h.2 12 (by decide) (by decide) (by decide)⟩
theorem p_laysWeek (M : am_M) (w n : Nat) (o : Nat → Int) (hv : vT (M 73)) (hn : M 73 1 = (n : Int)) (hw : w ≤ 51) (hmt : ∀ f, f < n → M 88 f < (n : Int)) (ho : o = mtk (rst (M 73) w) (M 88) n) : ∃ M', cY 109 [rV 72, iV (w : Int)] M = some (0, M') ∧ wf M M' ∧ MW (M 73) o n w M' := by
  have hb1 := hv.2.1
  have hb3 := hv.2.2.2.1
  obtain ⟨s, hs⟩ : ∃ s, M 73 = s := ⟨_, rfl⟩
  rw [hs] at hv hn hb1 hb3 ho ⊢
  have hP : isP n o := by rw [ho]; exact isP_mtk (isP_rst hv hn w) hmt n (by omega)
  have u : ∀ a, a ≠ 72 → (am_up (am_up M 72 24 0) 72 25 0) a = M a := fun a ha => by rw [am_up_ne _ _ _ _ ha, am_up_ne _ _ _ _ ha]
  have u72 : ∀ j, j ≠ 24 → j ≠ 25 → (am_up (am_up M 72 24 0) 72 25 0) 72 j = M 72 j := fun j x1 x2 => by rw [am_up_nj _ _ _ _ x2, am_up_nj _ _ _ _ x1]
  have u73 : (am_up (am_up M 72 24 0) 72 25 0) 73 = s := by rw [u 73 (by decide), hs]
  rw [e_Model_laysWeek, hs, hn]
  by_cases h0 : n = 0
  · subst h0
    have m0 : s 3 = 0 := by
      rcases (by omega : s 3 = 0 ∨ 0 < s 3) with h | h
      · exact h
      · have := hv.2.2.2.2.2.2.2.2.2.2.1 0 (by omega); omega
    refine ⟨_, by rw [if_pos (by omega)], ⟨fun a ha => u a (by omega), fun j _ x1 x2 => u72 j x1 x2⟩, ⟨fun p hp => by omega, fun p hp => by omega⟩, fun f hf => by omega, fun h => by omega, ?_, fun _ => ⟨fun f hf => by omega, ?_⟩, fun f hf => by omega⟩
    · rw [am_up_nj _ _ _ _ (by decide), am_up_at]; rfl
    · rw [am_up_at, m0]; rfl
  · obtain ⟨M1, a1, a2, a3⟩ := p_laysRoster (am_up (am_up M 72 24 0) 72 25 0) w n (by rw [u73]; exact hv) (by rw [u73]; exact hn) hw (fun f hf => by rw [u 88 (by decide)]; exact hmt f hf)
    rw [u73, u 88 (by decide), ← ho] at a3
    have e1 : M1 73 = s := by rw [a2 73 (by decide) (by decide), u73]
    obtain ⟨M2, b1, b2, b3⟩ := p_laysNet M1 o n (by rw [e1]; exact hv) (by rw [e1]; exact hn) a3.1 hP
    rw [e1] at b1 b3
    have v : ∀ a, a ≠ 72 → (am_up M2 72 23 (nets s o n n)) a = M2 a := fun a ha => am_up_ne _ _ _ _ ha
    have e2 : (am_up M2 72 23 (nets s o n n)) 73 = s := by rw [v 73 (by decide), b2 73 (by decide) (by decide), e1]
    obtain ⟨M3, c1, c2, c3⟩ := p_laysShares (am_up M2 72 23 (nets s o n n)) o n (by rw [e2]; exact hv) (by rw [e2]; exact hn) (by omega) (fun p hp => by rw [v 79 (by decide), b2 79 (by decide) (by decide)]; exact a3.1 p hp) hP (by rw [am_up_at, e2])
    rw [e2] at c3
    have e3 : M3 73 = s := by rw [c2 73 (by decide) (by decide), e2]
    have k3 : ∀ a, a < 72 ∨ (72 < a ∧ a < 79) ∨ 87 < a → M3 a = M a := fun a ha => by rw [c2 a (by omega) (by omega), v a (by omega), b2 a (by omega) (by omega), a2 a (by omega) (by omega), u a (by omega)]
    have k72 : ∀ j, j ≠ 23 → M3 72 j = (am_up (am_up M 72 24 0) 72 25 0) 72 j := fun j hj => by rw [c2 72 (by decide) (by decide), am_up_nj _ _ _ _ hj, b2 72 (by decide) (by decide), a2 72 (by decide) (by decide)]
    have hRP : ∀ p, p < n → M3 79 p = o p ∧ M3 80 (o p).toNat = (p : Int) := fun p hp => by
      rw [c2 79 (by decide) (by decide), c2 80 (by decide) (by decide), v 79 (by decide), v 80 (by decide), b2 79 (by decide) (by decide), b2 80 (by decide) (by decide)]
      exact ⟨a3.1 p hp, a3.2 p hp⟩
    have hf3 : ∀ f, f < n → M3 81 f = fF s o n f ∧ M3 82 f = dF s o n f ∧ M3 83 f = shr s o n f := fun f hf => by
      obtain ⟨p1, p2⟩ := pl_o hP hf
      have := b3 (pl o n f) p1
      rw [p2, Int.toNat_natCast] at this
      rw [c2 81 (by decide) (by decide), c2 82 (by decide) (by decide), v 81 (by decide), v 82 (by decide)]
      exact ⟨this.1, this.2, c3 f hf⟩
    obtain ⟨d', M4, h4, i1, i2, i3, i4⟩ := lp_up (α := Option am_V) (X := fun k d M => cX 109 23 [some (rV 72), some (iV (w : Int)), some (iV (k : Int)), d] [] M) (n := n) (I := fun k M' => (∀ a, a ≠ 72 → a ≠ 84 → a ≠ 85 → M' a = M3 a) ∧ (∀ j, j ≠ 24 → M' 72 j = M3 72 j) ∧ M' 72 24 = fls s o n k ∧ ∀ f, f < k → M' 84 f = trn s o n f ∧ M' 85 f = trn s o n f) (by
      intro k hk d M' hI
      obtain ⟨i1, i2, i3, i4⟩ := hI
      have hh := e_Model_laysWeek_23 (w : Int) (k : Int) d M'
      obtain ⟨f1, f2, f3⟩ := hf3 k hk
      have b1 := fF_bd hv hn hP hk
      have b2 := dF_bd hv hn hP hk
      have b3 := shr_bd hv hn hP hk
      have et : shr s o n k + fF s o n k - dF s o n k = trn s o n k := rfl
      have ef : fls s o n (k + 1) = if trn s o n k < 0 then 1 else fls s o n k := rfl
      have e01 := fls_01 s o n k
      have fin : ∀ v, v = fls s o n (k + 1) → (cX 109 23 [some (rV 72), some (iV (w : Int)), some (iV (k : Int)), d] [] M' = cX 109 23 [some (rV 72), some (iV (w : Int)), some (iV ((k : Int) + 1)), none] [] (am_up (am_up (am_up M' 84 k (trn s o n k)) 85 k (trn s o n k)) 72 24 v)) → ∃ (d' : Option am_V) (M2 : am_M), cX 109 23 [some (rV 72), some (iV (w : Int)), some (iV (k : Int)), d] [] M' = cX 109 23 [some (rV 72), some (iV (w : Int)), some (iV ((k + 1 : Nat) : Int)), d'] [] M2 ∧ (∀ a, a ≠ 72 → a ≠ 84 → a ≠ 85 → M2 a = M3 a) ∧ (∀ j, j ≠ 24 → M2 72 j = M3 72 j) ∧ M2 72 24 = fls s o n (k + 1) ∧ ∀ f, f < k + 1 → M2 84 f = trn s o n f ∧ M2 85 f = trn s o n f := by
        intro v hvv hq
        refine ⟨none, _, hq, fun a x1 x2 x3 => by rw [am_up_ne _ _ _ _ x1, am_up_ne _ _ _ _ x3, am_up_ne _ _ _ _ x2, i1 a x1 x2 x3], fun j hj => by rw [am_up_nj _ _ _ _ hj, am_up_ne _ _ _ _ (by decide), am_up_ne _ _ _ _ (by decide), i2 j hj], by rw [am_up_at, hvv], fun f hf => ?_⟩
        rw [am_up_ne _ _ _ _ (show 84 ≠ 72 by decide), am_up_ne _ _ _ _ (show 84 ≠ 85 by decide), am_up_ne _ _ _ _ (show 85 ≠ 72 by decide)]
        by_cases e : f = k
        · subst e; rw [am_up_at, am_up_at]; exact ⟨rfl, rfl⟩
        · rw [am_up_nj _ _ _ _ e, am_up_nj _ _ _ _ e, am_up_ne _ _ _ _ (by decide)]; exact i4 f (by omega)
      rw [i1 73 (by decide) (by decide) (by decide), e3, hn, if_pos (by omega), r_bd_ok (by omega) (by omega), r_bd_ok (by omega) (by omega), Int.toNat_natCast, i1 81 (by decide) (by decide) (by decide), i1 82 (by decide) (by decide) (by decide), i1 83 (by decide) (by decide) (by decide), f1, f2, f3, r_ck_ok (by omega) (by omega), r_bd_ok (by omega) (by omega), r_ck_ok (by omega) (by omega), r_bd_ok (by omega) (by omega), r_bd_ok (by omega) (by omega), r_bd_ok (by omega) (by omega), et, am_up_at, i3] at hh
      rcases e01 with e | e
      · rw [if_pos e, r_bd_ok (by omega) (by omega)] at hh
        by_cases q : trn s o n k < 0
        · rw [if_pos q] at ef
          rw [if_pos q, r_ck_ok (by omega) (by omega)] at hh
          exact fin 1 ef.symm hh
        · rw [if_neg q] at ef
          rw [if_neg q, r_ck_ok (by omega) (by omega)] at hh
          exact fin 0 (by rw [ef, e]) hh
      · rw [if_neg (by omega), r_ck_ok (by omega) (by omega)] at hh
        refine fin 1 ?_ hh
        rw [ef]
        split
        · rfl
        · exact e.symm) n 0 (by omega) none M3 ⟨fun _ _ _ _ => rfl, fun _ _ => rfl, by rw [k72 24 (by decide), am_up_nj _ _ _ _ (by decide), am_up_at]; rfl, fun f hf => by omega⟩
    have e4 : M4 73 = s := by rw [i1 73 (by decide) (by decide) (by decide), e3]
    have k4 : ∀ a, a < 72 ∨ (72 < a ∧ a < 79) ∨ 87 < a → M4 a = M a := fun a ha => by rw [i1 a (by omega) (by omega) (by omega), k3 a ha]
    have j4 : ∀ j, j ≠ 23 → j ≠ 24 → j ≠ 25 → M4 72 j = M 72 j := fun j x1 x2 x3 => by rw [i2 j x2, k72 j x1, u72 j x2 x3]
    have n4 : M4 72 23 = nets s o n n := by rw [i2 23 (by decide), c2 72 (by decide) (by decide), am_up_at]
    have R4 : ∀ p, p < n → M4 79 p = o p ∧ M4 80 (o p).toNat = (p : Int) := fun p hp => by
      rw [i1 79 (by decide) (by decide) (by decide), i1 80 (by decide) (by decide) (by decide)]; exact hRP p hp
    have f4 : ∀ f, f < n → M4 81 f = fF s o n f ∧ M4 82 f = dF s o n f ∧ M4 83 f = shr s o n f ∧ M4 84 f = trn s o n f := fun f hf => by
      rw [i1 81 (by decide) (by decide) (by decide), i1 82 (by decide) (by decide) (by decide), i1 83 (by decide) (by decide) (by decide)]
      obtain ⟨x1, x2, x3⟩ := hf3 f hf
      exact ⟨x1, x2, x3, (i4 f hf).1⟩
    have st : cY 103 [rV 72, iV (w : Int)] (am_up (am_up M 72 24 0) 72 25 0) = some (0, M1) := a1
    rw [if_neg (by omega), st, am_cb_s, b1, am_cb_s, c1, am_cb_s]
    have bd8 : ∀ (g : Nat → Int), (∀ f, f < n → -20000 ≤ g f ∧ g f ≤ 20000) → ∀ f, f < n → -200000 ≤ bgn o g (pl o n f) ∧ bgn o g (pl o n f) ≤ 200000 := fun g hg f hf => by
      have h1 := bgn_bd hP 20000 hg (pl o n f) (by have := (pl_o hP hf).1; omega)
      have h2 := (pl_o hP hf).1
      omega
    by_cases q : fls s o n n = 0
    · have hnn := fls_0 n q
      obtain ⟨M5, x1, x2, x3, x4, x5⟩ := p_mlends M4 o n w (by rw [e4]; exact hv) (by rw [e4]; exact hn) hP (fun f hf => by rw [e4]; exact ⟨(f4 f hf).1, (i4 f hf).2⟩) (by rw [e4]; exact hnn)
      rw [e4] at x4 x5
      have hlb : ∀ f, f < n → -20000 ≤ lF s o n w f ∧ lF s o n w f ≤ 20000 := fun f hf => by
        have := lns_bd hv hn hP w hnn (k := (s 3).toNat) (by omega) hf
        unfold lF; omega
      obtain ⟨M6, y1, y2, y3⟩ := p_mfollow M5 o (lF s o n w) n (some (iV (w : Int))) (by omega) hP (by rw [x2 73 (by decide) (by decide), e4]; exact hn) (fun p hp => by rw [x2 79 (by decide) (by decide)]; exact (R4 p hp).1) (fun f hf => ⟨x5 f hf, hlb f hf⟩)
      refine ⟨M6, ?_, ⟨fun a ha => by rw [y2 a (by omega), x2 a (by omega) (by omega), k4 a ha], fun j z1 z2 z3 => by rw [y2 72 (by decide), x3 j z3, j4 j z1 z2 z3]⟩, ⟨fun p hp => ?_, fun p hp => ?_⟩, fun f hf => ?_, fun _ => ?_, ?_, fun _ => ⟨fun f hf => ⟨?_, y3 f hf⟩, ?_⟩, fun f hf => ?_⟩
      · refine h4.trans ?_
        rw [e_Model_laysWeek_23, e4, hn, if_neg (by omega), i3, if_pos q, x1, am_cb_s]
        exact y1
      · rw [y2 79 (by decide), x2 79 (by decide) (by decide)]; exact (R4 p hp).1
      · rw [y2 80 (by decide), x2 80 (by decide) (by decide)]; exact (R4 p hp).2
      · rw [y2 81 (by decide), y2 82 (by decide), y2 83 (by decide), y2 84 (by decide), x2 81 (by decide) (by decide), x2 82 (by decide) (by decide), x2 83 (by decide) (by decide), x2 84 (by decide) (by decide)]; exact f4 f hf
      · rw [y2 72 (by decide), x3 23 (by decide)]; exact n4
      · rw [y2 72 (by decide), x3 24 (by decide)]; exact i3
      · rw [y2 85 (by decide)]; exact x5 f hf
      · rw [y2 72 (by decide)]; exact x4
      · have e85 : M6 85 f = lF s o n w f := by rw [y2 85 (by decide)]; exact x5 f hf
        have h1 := hlb f hf
        have h2 := bd8 _ hlb f hf
        rw [e85, y3 f hf]
        omega
    · have htb : ∀ f, f < n → -20000 ≤ trn s o n f ∧ trn s o n f ≤ 20000 := fun f hf => by
        have := trn_bd hv hn hP hf
        omega
      obtain ⟨M6, y1, y2, y3⟩ := p_mfollow M4 o (trn s o n) n (some (iV (w : Int))) (by omega) hP (by rw [e4]; exact hn) (fun p hp => (R4 p hp).1) (fun f hf => ⟨(i4 f hf).2, htb f hf⟩)
      refine ⟨M6, ?_, ⟨fun a ha => by rw [y2 a (by omega), k4 a ha], fun j z1 z2 z3 => by rw [y2 72 (by decide), j4 j z1 z2 z3]⟩, ⟨fun p hp => ?_, fun p hp => ?_⟩, fun f hf => ?_, fun _ => ?_, ?_, fun h => absurd h q, fun f hf => ?_⟩
      · refine h4.trans ?_
        rw [e_Model_laysWeek_23, e4, hn, if_neg (by omega), i3, if_neg q]
        exact y1
      · rw [y2 79 (by decide)]; exact (R4 p hp).1
      · rw [y2 80 (by decide)]; exact (R4 p hp).2
      · rw [y2 81 (by decide), y2 82 (by decide), y2 83 (by decide), y2 84 (by decide)]; exact f4 f hf
      · rw [y2 72 (by decide)]; exact n4
      · rw [y2 72 (by decide)]; exact i3
      · have e85 : M6 85 f = trn s o n f := by rw [y2 85 (by decide)]; exact (i4 f hf).2
        have h1 := htb f hf
        have h2 := bd8 _ htb f hf
        rw [e85, y3 f hf]
        omega
