-- how to turn the roster so that nights are even
theorem MX_eq {o : Nat → Int} {n w : Nat} {M M' : am_M} (h : MX o n w M) (e : ∀ a, a < 89 → M' a = M a) : MX o n w M' := by
  unfold MX MW RP at h ⊢
  rw [e 73 (by omega), e 79 (by omega), e 80 (by omega), e 81 (by omega), e 82 (by omega), e 83 (by omega), e 84 (by omega), e 85 (by omega), e 86 (by omega), e 72 (by omega)]
  exact h
def nsq (s : Nat → Int) (n N f : Nat) : Int := sm (fun i => ngt s (rst s i) n i f) N
theorem nsq_bd {s : Nat → Int} (hv : vT s) {n : Nat} (hn : s 1 = (n : Int)) {f : Nat} (hf : f < n) (N : Nat) : 0 ≤ nsq s n N f ∧ nsq s n N f ≤ 10080 * (N : Int) := sm_bd N (fun i _ => ngt_bd hv hn (isP_rst hv hn i) i hf)
def mxf (g : Nat → Int) : Nat → Int
  | 0 => 0
  | k + 1 => if k = 0 then g 0 else max (mxf g k) (g k)
theorem mxf_bd {g : Nat → Int} {B : Int} (hB : 0 ≤ B) : ∀ k, (∀ f, f < k → 0 ≤ g f ∧ g f ≤ B) → 0 ≤ mxf g k ∧ mxf g k ≤ B := by
  intro k
  induction k with
  | zero => intro _; exact ⟨Int.le_refl 0, hB⟩
  | succ k ih =>
    intro h
    have h1 := ih (fun f hf => h f (by omega))
    have h2 := h k (by omega)
    have h3 := h 0 (by omega)
    show 0 ≤ (if k = 0 then g 0 else max (mxf g k) (g k)) ∧ (if k = 0 then g 0 else max (mxf g k) (g k)) ≤ B
    split <;> omega
theorem lsd_bd {g : Nat → Int} {B : Int} (hB : 0 ≤ B) : ∀ k, (∀ f, f < k → 0 ≤ g f ∧ g f ≤ B) → 0 ≤ lsd g k ∧ lsd g k ≤ B := by
  intro k
  induction k with
  | zero => intro _; exact ⟨Int.le_refl 0, hB⟩
  | succ k ih =>
    intro h
    have h1 := ih (fun f hf => h f (by omega))
    have h2 := h k (by omega)
    have h3 := h 0 (by omega)
    show 0 ≤ (if k = 0 then g 0 else min (lsd g k) (g k)) ∧ (if k = 0 then g 0 else min (lsd g k) (g k)) ≤ B
    split <;> omega
def spr (s : Nat → Int) (n N : Nat) : Int := mxf (nsq s n N) n - lsd (nsq s n N) n
theorem p_nightSpread (M : am_M) (s : Nat → Int) (n N : Nat) (hv : vT s) (hn : s 1 = (n : Int)) (h1n : 1 ≤ n) (hQ : cQ s M) (hN : CN s M) (hNN : 1 ≤ N ∧ N ≤ 52) : ∃ M', cY 49 [rV 70, iV (N : Int), iV (s 10)] M = some (spr s n N, M') ∧ ∀ a, a < 43 ∨ 59 < a → M' a = M a := by
  have hb1 := hv.2.1
  obtain ⟨M1, a1, a2, a3, a4, a5⟩ := p_open M s n hv hn h1n hQ
  have hS : SN s n 0 M1 := ⟨a3, a5, a4, by omega, fun w hw => by omega⟩
  obtain ⟨M2, r, b1, b2, b3, b4, b5⟩ := p_reckonTo s n (N - 1) hv hn (by omega) N 0 M1 (by omega) (cQ_eq hQ (fun a ha => a2 a (by omega) (by omega) (by omega))) (CN_eq hN (a2 40 (by decide) (by decide) (by decide)) (a2 41 (by decide) (by decide) (by decide)) (a2 42 (by decide) (by decide) (by decide))) hS
  have k2 : ∀ a, a < 43 ∨ 59 < a → M2 a = M a := fun a ha => by rw [b2 a (by omega), a2 a (by omega) (by omega) (by omega)]
  have e04 : M2 0 4 = (n : Int) := by rw [k2 0 (by omega), hQ.1.1, hn]
  refine ⟨M2, ?_, k2⟩
  have Lw : ∀ (f : Nat), f < n → ∀ (j w : Nat) (x3 x4 : Int) (d2 : Option am_V), w + j = N → cX 49 25 [some (rV 70), some (iV (N : Int)), d2, some (iV x3), some (iV x4), some (iV (f : Int)), some (iV (nsq s n w f)), some (iV (w : Int))] [] M2 = cX 49 16 [some (rV 70), some (iV (N : Int)), none, some (iV (if f = 0 then nsq s n N f else max x3 (nsq s n N f))), some (iV (if f = 0 then nsq s n N f else min x4 (nsq s n N f))), some (iV ((f + 1 : Nat) : Int)), some (iV (nsq s n N f)), some (iV (N : Int))] [] M2 := by
    intro f hf j
    induction j with
    | zero =>
      intro w x3 x4 d2 hw
      have e : w = N := by omega
      subst e
      rw [e_Desk_nightSpread_25, if_neg (by omega)]
      by_cases q : f = 0
      · rw [if_pos (by omega), if_pos (by omega), r_ck_ok (by omega) (by omega), if_pos q, if_pos q]; rfl
      · rw [if_neg (by omega), if_neg (by omega), r_ck_ok (by omega) (by omega), if_neg q, if_neg q]; rfl
    | succ j ih =>
      intro w x3 x4 d2 hw
      have bn := nsq_bd hv hn hf w
      have bg := ngt_bd hv hn (isP_rst hv hn w) w hf
      rw [e_Desk_nightSpread_25, if_pos (by omega), p_nightIn hv hn b3 (w := w) (f := f) (by omega) hf, am_cb_s, r_ck_ok (by omega) (by omega), r_ck_ok (by omega) (by omega)]
      exact ih (w + 1) x3 x4 none (by omega)
  have hgb : ∀ f, f < n → 0 ≤ nsq s n N f ∧ nsq s n N f ≤ 600000 := fun f hf => by have := nsq_bd hv hn hf N; omega
  have Lf : ∀ (j f : Nat) (d2 d6 d7 : Option am_V), f + j = n → cX 49 16 [some (rV 70), some (iV (N : Int)), d2, some (iV (mxf (nsq s n N) f)), some (iV (lsd (nsq s n N) f)), some (iV (f : Int)), d6, d7] [] M2 = some (spr s n N, M2) := by
    intro j
    induction j with
    | zero =>
      intro f d2 d6 d7 hf
      have e : f = n := by omega
      subst e
      have b1 := mxf_bd (B := 600000) (by omega) f hgb
      have b2 := lsd_bd (B := 600000) (by omega) f hgb
      rw [e_Desk_nightSpread_16, e04, if_neg (by omega), r_ck_ok (by omega) (by omega)]
      rfl
    | succ j ih =>
      intro f d2 d6 d7 hf
      have hi := ih (f + 1) none (some (iV (nsq s n N f))) (some (iV (N : Int))) (by omega)
      have es1 : mxf (nsq s n N) (f + 1) = if f = 0 then nsq s n N 0 else max (mxf (nsq s n N) f) (nsq s n N f) := rfl
      have es2 : lsd (nsq s n N) (f + 1) = if f = 0 then nsq s n N 0 else min (lsd (nsq s n N) f) (nsq s n N f) := rfl
      have hl := Lw f (by omega) N 0 (mxf (nsq s n N) f) (lsd (nsq s n N) f) none (by omega)
      rw [e_Desk_nightSpread_16, e04, if_pos (by omega)]
      refine hl.trans ?_
      rw [es1, es2] at hi
      by_cases q : f = 0
      · rw [if_pos q, if_pos q] at hi ⊢
        rw [← q] at hi
        exact hi
      · rw [if_neg q, if_neg q] at hi ⊢
        exact hi
  rw [e_Desk_nightSpread, a1, am_cb_s, r_ck_ok (by omega) (by omega), show (N : Int) - 1 = ((N - 1 : Nat) : Int) by omega, e_Season_reckonTo, b1, am_cb_s]
  exact Lf n 0 _ none none (by omega)
theorem p_unevenIn (M : am_M) (n N : Nat) (hv : vT (M 73)) (hn : M 73 1 = (n : Int)) (h1n : 1 ≤ n) (h88 : ∀ i, i < 8 → M 88 i = -1) (hNN : 1 ≤ N ∧ N ≤ 52) : ∃ M', cY 150 [rV 72, iV (N : Int)] M = some (spr (M 73) n N, M') ∧ mf M M' := by
  have hb1 := hv.2.1
  obtain ⟨s, hs⟩ : ∃ s, M 73 = s := ⟨_, rfl⟩
  rw [hs] at hv hn hb1 ⊢
  obtain ⟨d, M1, h1, i1, i2⟩ := lp_up (α := Option am_V × Option am_V) (X := fun k d M => cX 150 2 [some (rV 72), some (iV (N : Int)), some (iV (k : Int)), d.1, d.2] [] M) (n := n) (I := fun k M' => (∀ a, a ≠ 91 → M' a = M a) ∧ ∀ f, f < k → M' 91 f = 0) (by
    intro k hk d M' hI
    obtain ⟨i1, i2⟩ := hI
    have hh := e_Model_unevenIn_2 (N : Int) (k : Int) d.1 d.2 M'
    rw [i1 73 (by decide), hs, hn, if_pos (by omega), r_bd_ok (by omega) (by omega), r_ck_ok (by omega) (by omega), Int.toNat_natCast] at hh
    refine ⟨(none, none), _, hh, fun a ha => (am_up_ne _ _ _ _ ha).trans (i1 a ha), fun f hf => ?_⟩
    by_cases e : f = k
    · subst e; rw [am_up_at]
    · rw [am_up_nj _ _ _ _ e]; exact i2 f (by omega)) n 0 (by omega) (none, none) M ⟨fun _ _ => rfl, fun f hf => by omega⟩
  obtain ⟨d', M2, h2, j1, j2, j3⟩ := lp_up (α := Option am_V × Option am_V) (X := fun k d M => cX 150 17 [some (rV 72), some (iV (N : Int)), some (iV (k : Int)), d.1, d.2] [] M) (n := N) (I := fun w M' => mf M M' ∧ M' 73 = s ∧ ∀ f, f < n → M' 91 f = nsq s n w f) (by
    intro w hw d M' hI
    obtain ⟨j1, j2, j3⟩ := hI
    obtain ⟨M3, c1, c2, c3⟩ := p_lays0 M' n w (by rw [j2]; exact hv) (by rw [j2]; exact hn) (by omega) (fun i hi => by rw [j1.1 88 (by decide) (by omega)]; exact h88 i hi)
    rw [j2] at c3
    have s3 : M3 73 = s := by rw [c2.1 73 (by omega), j2]
    obtain ⟨d4, M4, h4, l1, l2, l3⟩ := lp_up (α := Option am_V) (X := fun k d M => cX 150 25 [some (rV 72), some (iV (N : Int)), some (iV (w : Int)), some (iV (k : Int)), d] [] M) (n := n) (I := fun k M' => (∀ a, a ≠ 91 → M' a = M3 a) ∧ (∀ f, f < k → M' 91 f = nsq s n (w + 1) f) ∧ ∀ f, k ≤ f → f < n → M' 91 f = nsq s n w f) (by
      intro k hk d M5 hI
      obtain ⟨l1, l2, l3⟩ := hI
      have hh := e_Model_unevenIn_25 (N : Int) (w : Int) (k : Int) d M5
      have hng := p_mnightOf (MX_eq c3 (fun a ha => l1 a (by omega))) hk
      have s5 : M5 73 = s := by rw [l1 73 (by decide), s3]
      rw [s5] at hng
      have bn := nsq_bd hv hn hk w
      have bg := ngt_bd hv hn (isP_rst hv hn w) w hk
      have es : nsq s n (w + 1) k = nsq s n w k + ngt s (rst s w) n w k := rfl
      rw [s5, hn, if_pos (by omega), r_bd_ok (by omega) (by omega), hng, am_cb_s, Int.toNat_natCast, l3 k (by omega) hk, r_ck_ok (by omega) (by omega), r_bd_ok (by omega) (by omega), r_ck_ok (by omega) (by omega), ← es] at hh
      refine ⟨none, _, hh, fun a ha => (am_up_ne _ _ _ _ ha).trans (l1 a ha), fun f hf => ?_, fun f hf1 hf2 => ?_⟩
      · by_cases e : f = k
        · subst e; rw [am_up_at]
        · rw [am_up_nj _ _ _ _ e]; exact l2 f (by omega)
      · rw [am_up_nj _ _ _ _ (by omega)]; exact l3 f (by omega) hf2) n 0 (by omega) none M3 ⟨fun _ _ => rfl, fun f hf => by omega, fun f _ hf => by rw [c2.1 91 (by omega)]; exact j3 f hf⟩
    have hh := e_Model_unevenIn_17 (N : Int) (w : Int) d.1 d.2 M'
    rw [if_pos (by omega), c1, am_cb_s] at hh
    refine ⟨(some (iV (n : Int)), none), M4, hh.trans (h4.trans ?_), (j1.tr c2.mf).tr ⟨fun a _ y => l1 a (by omega), by rw [l1 72 (by decide)], by rw [l1 72 (by decide)], by rw [l1 72 (by decide)], by rw [l1 72 (by decide)]⟩, by rw [l1 73 (by decide), s3], fun f hf => l2 f hf⟩
    rw [e_Model_unevenIn_25, l1 73 (by decide), s3, hn, if_neg (by omega), r_ck_ok (by omega) (by omega)]
    rfl) N 0 (by omega) (none, none) M1 ⟨⟨fun a _ y => i1 a (by omega), by rw [i1 72 (by decide)], by rw [i1 72 (by decide)], by rw [i1 72 (by decide)], by rw [i1 72 (by decide)]⟩, by rw [i1 73 (by decide), hs], fun f hf => by rw [i2 f hf]; rfl⟩
  have hgb : ∀ f, f < n → 0 ≤ nsq s n N f ∧ nsq s n N f ≤ 600000 := fun f hf => by have := nsq_bd hv hn hf N; omega
  have Lf : ∀ (j k : Nat) (d1 : Option am_V), 1 ≤ k → k + j = n → cX 150 58 [some (rV 72), d1, some (iV (lsd (nsq s n N) k)), some (iV (mxf (nsq s n N) k)), some (iV (k : Int))] [] M2 = some (spr s n N, M2) := by
    intro j
    induction j with
    | zero =>
      intro k d1 h1k hk
      have e : k = n := by omega
      subst e
      have b1 := mxf_bd (B := 600000) (by omega) k hgb
      have b2 := lsd_bd (B := 600000) (by omega) k hgb
      rw [e_Model_unevenIn_58, j2, hn, if_neg (by omega), r_ck_ok (by omega) (by omega)]
      rfl
    | succ j ih =>
      intro k d1 h1k hk
      have hi := ih (k + 1) none (by omega) (by omega)
      have es1 : mxf (nsq s n N) (k + 1) = max (mxf (nsq s n N) k) (nsq s n N k) := if_neg (by omega)
      have es2 : lsd (nsq s n N) (k + 1) = min (lsd (nsq s n N) k) (nsq s n N k) := if_neg (by omega)
      rw [es1, es2] at hi
      rw [e_Model_unevenIn_58, j2, hn, if_pos (by omega), r_bd_ok (by omega) (by omega), Int.toNat_natCast, j3 k (by omega)]
      by_cases q1 : nsq s n N k < lsd (nsq s n N) k
      · rw [show min (lsd (nsq s n N) k) (nsq s n N k) = nsq s n N k by omega] at hi
        rw [if_pos q1, r_bd_ok (by omega) (by omega), r_bd_ok (by omega) (by omega)]
        by_cases q2 : mxf (nsq s n N) k < nsq s n N k
        · rw [show max (mxf (nsq s n N) k) (nsq s n N k) = nsq s n N k by omega] at hi
          rw [if_pos q2, r_bd_ok (by omega) (by omega), r_ck_ok (by omega) (by omega)]
          exact hi
        · rw [show max (mxf (nsq s n N) k) (nsq s n N k) = mxf (nsq s n N) k by omega] at hi
          rw [if_neg q2, r_ck_ok (by omega) (by omega)]
          exact hi
      · rw [show min (lsd (nsq s n N) k) (nsq s n N k) = lsd (nsq s n N) k by omega] at hi
        rw [if_neg q1, r_bd_ok (by omega) (by omega)]
        by_cases q2 : mxf (nsq s n N) k < nsq s n N k
        · rw [show max (mxf (nsq s n N) k) (nsq s n N k) = nsq s n N k by omega] at hi
          rw [if_pos q2, r_bd_ok (by omega) (by omega), r_ck_ok (by omega) (by omega)]
          exact hi
        · rw [show max (mxf (nsq s n N) k) (nsq s n N k) = mxf (nsq s n N) k by omega] at hi
          rw [if_neg q2, r_ck_ok (by omega) (by omega)]
          exact hi
  refine ⟨M2, ?_, j1⟩
  rw [e_Model_unevenIn]
  refine h1.trans ?_
  rw [e_Model_unevenIn_2, i1 73 (by decide), hs, hn, if_neg (by omega)]
  refine h2.trans ?_
  rw [e_Model_unevenIn_17, if_neg (by omega), j3 0 (by omega)]
  have := Lf (n - 1) 1 (some (iV (N : Int))) (by omega) (by omega)
  rw [show lsd (nsq s n N) 1 = nsq s n N 0 from rfl, show mxf (nsq s n N) 1 = nsq s n N 0 from rfl] at this
  exact this
def evg (s : Nat → Int) (n N b : Nat) : Int := spr (us s 10 (b : Int)) n N
theorem o35 : lw_O35 RI := by
  intro a b ha hb M hR hM
  have hR2 : RI (am_up M 72 6 0) := RI_mf (mf_up (mf.rf M) (by omega)) hR
  obtain ⟨r1, r2, r3, r4, r5, r6, r7, r8, r9, r10, r11⟩ := id hR
  have hb1 := r1.2.1
  obtain ⟨n, hn⟩ : ∃ n : Nat, M 73 1 = (n : Int) := ⟨(M 73 1).toNat, by omega⟩
  have e0 : M 0 4 = (n : Int) := by rw [← hn]; exact r2.2.1
  have e73 : (am_up M 72 6 0) 73 = M 73 := am_up_ne M 72 6 0 (by decide)
  by_cases hbb : 0 ≤ b ∧ b ≤ 1
  · by_cases haa : 1 ≤ a ∧ a ≤ 52
    · by_cases h0 : n = 0
      · refine ⟨-5, M, am_up M 72 6 0, ?_, ?_, hR2⟩
        · rw [e_Desk_even, if_neg (by omega), if_neg (by omega), if_neg (by omega), if_neg (by omega), e0, if_pos (by omega)]
        · rw [e_Model_even, p_isIn, am_cb_s, if_pos hbb, if_neg (by decide), p_isIn, am_cb_s, if_pos haa, if_neg (by decide), e73, hn, if_pos (by omega)]
      · obtain ⟨N, rfl⟩ : ∃ N : Nat, a = (N : Int) := ⟨a.toNat, by omega⟩
        obtain ⟨s, hs⟩ : ∃ s, M 73 = s := ⟨_, rfl⟩
        rw [hs] at r1 r2 r11 hn hb1
        obtain ⟨M1, a1, a2, a3⟩ := p_letIn0 M s r1 r2
        have hT1 : cT s M1 0 := cT_eq (fun a _ h2 => a2 a (by omega) (by omega) (by omega)) r2
        have hk1 : kT M1 0 := kT_eq (fun a _ h2 => a2 a (by omega) (by omega) (by omega)) r3
        have hv' := fun k (hk : k < n) => vT_by r1 hn hk
        have hn' : ∀ k : Nat, us s 10 (k : Int) 1 = (n : Int) := fun k => by rw [us_ne _ _ _ (by omega)]; exact hn
        obtain ⟨g, hg⟩ : ∃ g, evg s n N = g := ⟨_, rfl⟩
        have Lc : ∀ (j k : Nat) (M' : am_M) (d6 : Option am_V), k + j = n → cT s M' 0 → kT M' 0 → CN s M' → ∃ M2, cX 40 36 [some (rV 70), some (iV (N : Int)), some (iV b), some (iV (fbs 0 g k)), some (iV (fbv 0 g k)), some (iV (k : Int)), d6] [] M' = some (if b = 0 then fbs 0 g n else fbv 0 g n, M2) ∧ ∀ a, a < 43 ∨ 59 < a → M2 a = M' a := by
          intro j
          induction j with
          | zero =>
            intro k M' d6 hk hT hkT hN
            have e : k = n := by omega
            subst e
            have e04 : M' 0 4 = (k : Int) := by rw [← hn]; exact hT.2.1
            refine ⟨M', ?_, fun _ _ => rfl⟩
            rw [e_Desk_even_36, e04, if_neg (by omega)]
            split <;> rfl
          | succ j ih =>
            intro k M' d6 hk hT hkT hN
            have e04 : M' 0 4 = (n : Int) := by rw [← hn]; exact hT.2.1
            obtain ⟨M2, b1, b2⟩ := p_nightSpread M' (us s 10 (k : Int)) n N (hv' k (by omega)) (hn' k) (by omega) (cQ_of r1 hT hkT (md_by s _)) (CN_10 (fun i hi => us_ne _ _ _ hi) hN) (by omega)
            rw [us_at] at b1
            have b1 : cY 49 [rV 70, iV (N : Int), iV (k : Int)] M' = some (g k, M2) := by rw [b1, ← hg]; rfl
            have nxt : ∀ (d6 : Option am_V), ∃ M3, cX 40 36 [some (rV 70), some (iV (N : Int)), some (iV b), some (iV (fbs 0 g (k + 1))), some (iV (fbv 0 g (k + 1))), some (iV ((k + 1 : Nat) : Int)), d6] [] M2 = some (if b = 0 then fbs 0 g n else fbv 0 g n, M3) ∧ ∀ a, a < 43 ∨ 59 < a → M3 a = M' a := fun d6 => by
              obtain ⟨M3, d1, d2⟩ := ih (k + 1) M2 d6 (by omega) (cT_eq (fun a _ h2 => b2 a (by omega)) hT) (kT_eq (fun a _ h2 => b2 a (by omega)) hkT) (CN_eq hN (b2 40 (by omega)) (b2 41 (by omega)) (b2 42 (by omega)))
              exact ⟨M3, d1, fun a ha => by rw [d2 a ha, b2 a ha]⟩
            have hfb := fbs_bd 0 g k
            have es : fbs 0 g (k + 1) = if fbs 0 g k = -1 then (k : Int) else if (if (0 : Int) = 0 then g k < g (fbs 0 g k).toNat else g (fbs 0 g k).toNat < g k) then (k : Int) else fbs 0 g k := rfl
            have ev : fbv 0 g (k + 1) = g (fbs 0 g (k + 1)).toNat := if_neg (by omega)
            rw [ev, es] at nxt
            simp only [↓reduceIte] at nxt
            rw [e_Desk_even_36, e04, if_pos (by omega), b1, am_cb_s]
            by_cases q : fbs 0 g k = -1
            · simp only [if_pos q, Int.toNat_natCast] at nxt
              rw [if_pos q, r_ck_ok (by omega) (by omega)]
              exact nxt _
            · have hk0 : k ≠ 0 := fun h => q (by rw [h]; rfl)
              have ev0 : fbv 0 g k = g (fbs 0 g k).toNat := if_neg hk0
              simp only [if_neg q] at nxt
              rw [if_neg q, ev0]
              by_cases c : g k < g (fbs 0 g k).toNat
              · simp only [if_pos c, Int.toNat_natCast] at nxt
                rw [if_pos c, r_ck_ok (by omega) (by omega)]
                exact nxt _
              · simp only [if_neg c] at nxt
                rw [if_neg c, r_ck_ok (by omega) (by omega)]
                exact nxt _
        obtain ⟨M2, c1, c2⟩ := Lc n 0 M1 none (by omega) hT1 hk1 a3
        have k2 : ∀ a, a < 40 ∨ 59 < a → M2 a = M a := fun a ha => by rw [c2 a (by omega), a2 a (by omega) (by omega) (by omega)]
        have hR1 : RI M2 := RI_cf (fun x hx => k2 x (by omega)) hR
        have hR3 : RI (am_up M2 72 6 0) := RI_mf (mf_up (mf.rf M2) (by omega)) hR1
        have f73 : (am_up M2 72 6 0) 73 = s := by rw [am_up_ne _ _ _ _ (by decide), k2 73 (by omega), hs]
        have Lm : ∀ (j k : Nat) (M' : am_M) (d7 : Option am_V) (v : Int), k + j = n → mg (am_up M2 72 6 0) M' → M' 73 = us s 10 v → ∃ M3, cX 151 37 [some (rV 72), some (iV (N : Int)), some (iV b), some (iV (s 10)), some (iV (fbs 0 g k)), some (iV (fbv 0 g k)), some (iV (k : Int)), d7] [] M' = some (if b = 0 then fbs 0 g n else fbv 0 g n, M3) ∧ mg (am_up M2 72 6 0) M3 ∧ M3 73 = s := by
          intro j
          induction j with
          | zero =>
            intro k M' d7 v hk hm h7
            have e : k = n := by omega
            subst e
            have e1 : M' 73 1 = (k : Int) := by rw [h7, us_ne _ _ _ (by omega)]; exact hn
            refine ⟨am_up M' 73 10 (s 10), ?_, hm.tr mg_73, ?_⟩
            · rw [e_Model_even_37, e1, if_neg (by omega)]
              split <;> rfl
            · rw [up_us, h7, us_us, ← us_us s 10 0, us_back]
          | succ j ih =>
            intro k M' d7 v hk hm h7
            have e1 : M' 73 1 = (n : Int) := by rw [h7, us_ne _ _ _ (by omega)]; exact hn
            have u73 : (am_up M' 73 10 (k : Int)) 73 = us s 10 (k : Int) := by rw [up_us, h7, us_us]
            obtain ⟨M3, b1, b2⟩ := p_unevenIn (am_up M' 73 10 (k : Int)) n N (by rw [u73]; exact hv' k (by omega)) (by rw [u73]; exact hn' k) (by omega) (fun i hi => by rw [am_up_ne _ _ _ _ (by decide), hm.1 88 (by decide) (by decide) (by omega), am_up_ne _ _ _ _ (by decide), k2 88 (by omega)]; exact r10 i hi) (by omega)
            rw [u73] at b1
            have b1 : cY 150 [rV 72, iV (N : Int)] (am_up M' 73 10 (k : Int)) = some (g k, M3) := by rw [b1, ← hg]; rfl
            have nxt := fun d7 => ih (k + 1) M3 d7 (k : Int) (by omega) ((hm.tr mg_73).tr b2.mg) (by rw [b2.1 73 (by decide) (by omega), u73])
            have hfb := fbs_bd 0 g k
            have es : fbs 0 g (k + 1) = if fbs 0 g k = -1 then (k : Int) else if (if (0 : Int) = 0 then g k < g (fbs 0 g k).toNat else g (fbs 0 g k).toNat < g k) then (k : Int) else fbs 0 g k := rfl
            have ev : fbv 0 g (k + 1) = g (fbs 0 g (k + 1)).toNat := if_neg (by omega)
            rw [ev, es] at nxt
            simp only [↓reduceIte] at nxt
            rw [e_Model_even_37, e1, if_pos (by omega), b1, am_cb_s]
            by_cases q : fbs 0 g k = -1
            · simp only [if_pos q, Int.toNat_natCast] at nxt
              rw [if_pos q, r_ck_ok (by omega) (by omega)]
              exact nxt _
            · have hk0 : k ≠ 0 := fun h => q (by rw [h]; rfl)
              have ev0 : fbv 0 g k = g (fbs 0 g k).toNat := if_neg hk0
              simp only [if_neg q] at nxt
              rw [if_neg q, ev0]
              by_cases c : g k < g (fbs 0 g k).toNat
              · simp only [if_pos c, Int.toNat_natCast] at nxt
                rw [if_pos c, r_ck_ok (by omega) (by omega)]
                exact nxt _
              · simp only [if_neg c] at nxt
                rw [if_neg c, r_ck_ok (by omega) (by omega)]
                exact nxt _
        obtain ⟨M3, m1, m2, m3⟩ := Lm n 0 (am_up M2 72 6 0) none (s 10) (by omega) (mg.rf _) (by rw [f73, ← us_us s 10 0, us_back])
        refine ⟨if b = 0 then fbs 0 g n else fbv 0 g n, M2, M3, ?_, ?_, RI_mf (m2.mf (by rw [m3, f73])) hR3⟩
        · rw [e_Desk_even, if_neg (by omega), if_neg (by omega), if_neg (by omega), if_neg (by omega), e0, if_neg (by omega), a1, am_cb_s]
          exact c1
        · rw [e_Model_even, p_isIn, am_cb_s, if_pos hbb, if_neg (by decide), p_isIn, am_cb_s, if_pos haa, if_neg (by decide), f73, hn, if_neg (by omega)]
          exact m1
    · refine ⟨-3, M, am_up M 72 6 0, ?_, ?_, hR2⟩
      · rw [e_Desk_even, if_neg (by omega), if_neg (by omega)]
        by_cases z : a < 1
        · rw [if_pos z]
        · rw [if_neg z, if_pos (by omega)]
      · rw [e_Model_even, p_isIn, am_cb_s, if_pos hbb, if_neg (by decide), p_isIn, am_cb_s, if_neg haa, if_pos rfl]
  · refine ⟨-2, M, am_up M 72 6 0, ?_, ?_, hR2⟩
    · rw [e_Desk_even]
      by_cases z : b < 0
      · rw [if_pos z]
      · rw [if_neg z, if_pos (by omega)]
    · rw [e_Model_even, p_isIn, am_cb_s, if_neg hbb, if_pos rfl]
