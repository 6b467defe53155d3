-- fills, drains, net
def pf (s : Nat → Int) (b : Nat) : Nat → Int
  | 0 => 0
  | k + 1 => pf s b k + s (b + 3 * k)
theorem pf_le {s : Nat → Int} (hv : vT s) {b : Nat} (hb : b = 12 ∨ b = 13) (j : Nat) : ∀ k : Nat, ((j + k : Nat) : Int) ≤ s 0 → pf s b j ≤ pf s b (j + k) ∧ pf s b (j + k) ≤ pf s b j + 60 * (k : Int) := by
  intro k
  induction k with
  | zero => intro _; rw [Nat.add_zero]; omega
  | succ k ih =>
    intro hk
    have h1 := ih (by omega)
    have h2 := hv.2.2.2.2.2.2.1 (j + k) (by omega)
    show pf s b j ≤ pf s b (j + k) + s (b + 3 * (j + k)) ∧ pf s b (j + k) + s (b + 3 * (j + k)) ≤ pf s b j + 60 * ((k + 1 : Nat) : Int)
    rcases hb with rfl | rfl <;> omega
def mns (s : Nat → Int) (b : Nat) (a c : Int) : Int := if a < c then pf s b (c + 1).toNat - pf s b (a + 1).toNat else 0
theorem mns_bd {s : Nat → Int} (hv : vT s) {b : Nat} (hb : b = 12 ∨ b = 13) {a c : Int} (ha : -1 ≤ a) (hc : c < s 0) : 0 ≤ mns s b a c ∧ mns s b a c ≤ 600 := by
  have h0 := hv.1
  unfold mns
  split
  · have h := pf_le hv hb (a + 1).toNat ((c + 1).toNat - (a + 1).toNat) (by omega)
    rw [show (a + 1).toNat + ((c + 1).toNat - (a + 1).toNat) = (c + 1).toNat by omega] at h
    omega
  · omega
/-- rows that agree but for flow, by and what soaks away -/
def md (s s' : Nat → Int) : Prop := ∀ i, i ≠ 5 → i ≠ 10 → (i < 14 ∨ 42 ≤ i ∨ i % 3 ≠ 2) → s' i = s i
theorem md.rf (s : Nat → Int) : md s s := fun _ _ _ _ => rfl
/-- what the class's Told must hold for a course -/
def cC (s : Nat → Int) (M : am_M) : Prop := M 0 4 = s 1 ∧ (∀ k : Nat, (k : Int) ≤ s 0 → M 1 k = pf s 12 k ∧ M 2 k = pf s 13 k) ∧ ∀ f : Nat, (f : Int) < s 1 → M 5 f = s (42 + 4 * f)
theorem cC_of {s s' : Nat → Int} {M : am_M} (hv : vT s) (hc : cT s M 0) (he : md s s') : cC s' M := by
  obtain ⟨b0, b1, -⟩ := hv
  obtain ⟨c0, c1, c2, c3, c4, hset, hz, hr, hf, -⟩ := hc
  have e0 : s' 0 = s 0 := he 0 (by omega) (by omega) (by omega)
  have e1 : s' 1 = s 1 := he 1 (by omega) (by omega) (by omega)
  refine ⟨by rw [e1]; exact c1, ?_, fun f hf' => by rw [he _ (by omega) (by omega) (by omega)]; rw [e1] at hf'; exact (hf f hf').1⟩
  intro k
  rw [e0]
  induction k with
  | zero => intro _; exact hz
  | succ k ih =>
    intro hk
    obtain ⟨i1, i2⟩ := ih (by omega)
    obtain ⟨r1, r2, -⟩ := hr k (by omega)
    have r1 : M 1 (k + 1) = M 1 k + s (12 + 3 * k) := r1
    have r2 : M 2 (k + 1) = M 2 k + s (13 + 3 * k) := r2
    refine ⟨?_, ?_⟩
    · show _ = pf s' 12 k + s' (12 + 3 * k)
      rw [r1, i1, he (12 + 3 * k) (by omega) (by omega) (by omega)]
    · show _ = pf s' 13 k + s' (13 + 3 * k)
      rw [r2, i2, he (13 + 3 * k) (by omega) (by omega) (by omega)]
theorem cC_eq {s : Nat → Int} {M M' : am_M} (h : cC s M) (e0 : M' 0 = M 0) (e1 : M' 1 = M 1) (e2 : M' 2 = M 2) (e5 : M' 5 = M 5) : cC s M' := by
  unfold cC at h ⊢
  rw [e0, e1, e2, e5]
  exact h
theorem p_fillBehind (M : am_M) (s : Nat → Int) (hv : vT s) (hc : cC s M) (a c : Int) (ha : -1 ≤ a) (hc1 : c < s 0) : cY 248 [rV 0, iV a, iV c] M = some (mns s 12 a c, M) := by
  have h0 := hv.1
  have hb := mns_bd hv (b := 12) (Or.inl rfl) ha hc1
  unfold mns at hb ⊢
  rw [e_Told_fillBehind]
  by_cases q : a < c
  · rw [if_pos q] at hb
    rw [if_pos q, if_pos q, r_ck_ok (by omega) (by omega), r_bd_ok (by omega) (by omega), r_ck_ok (by omega) (by omega), r_bd_ok (by omega) (by omega), (hc.2.1 (c + 1).toNat (by omega)).1, (hc.2.1 (a + 1).toNat (by omega)).1, r_ck_ok (by omega) (by omega)]
  · rw [if_neg q, if_neg q]
theorem p_drainBehind (M : am_M) (s : Nat → Int) (hv : vT s) (hc : cC s M) (a c : Int) (ha : -1 ≤ a) (hc1 : c < s 0) : cY 249 [rV 0, iV a, iV c] M = some (mns s 13 a c, M) := by
  have h0 := hv.1
  have hb := mns_bd hv (b := 13) (Or.inr rfl) ha hc1
  unfold mns at hb ⊢
  rw [e_Told_drainBehind]
  by_cases q : a < c
  · rw [if_pos q] at hb
    rw [if_pos q, if_pos q, r_ck_ok (by omega) (by omega), r_bd_ok (by omega) (by omega), r_ck_ok (by omega) (by omega), r_bd_ok (by omega) (by omega), (hc.2.1 (c + 1).toNat (by omega)).2, (hc.2.1 (a + 1).toNat (by omega)).2, r_ck_ok (by omega) (by omega)]
  · rw [if_neg q, if_neg q]
theorem p_minutesOf (M : am_M) (hv : vT (M 73)) (a c : Int) (wh : Nat) (hwh : wh < 2) (ha : -1 ≤ a ∧ a < M 73 0) (hc : 0 ≤ c ∧ c < M 73 0) : cY 104 [rV 72, iV a, iV c, iV (wh : Int)] M = some (mns (M 73) (12 + wh) a c, M) := by
  have h0 := hv.1
  obtain ⟨x, hx⟩ : ∃ x : Nat, a + 1 = (x : Int) := ⟨(a + 1).toNat, by omega⟩
  obtain ⟨y, hy⟩ : ∃ y : Nat, c = (y : Int) := ⟨c.toNat, by omega⟩
  subst hy
  have hbb : 12 + wh = 12 ∨ 12 + wh = 13 := by omega
  have L : ∀ (j k : Nat) (d : Option am_V), x ≤ k → k + j = y + 1 → cX 104 6 [some (rV 72), d, some (iV (y : Int)), some (iV (wh : Int)), some (iV (pf (M 73) (12 + wh) k - pf (M 73) (12 + wh) x)), some (iV (k : Int))] [] M = some (pf (M 73) (12 + wh) (y + 1) - pf (M 73) (12 + wh) x, M) := by
    intro j
    induction j with
    | zero => intro k d hxk hk
              have e : k = y + 1 := by omega
              subst e; rw [e_Model_minutesOf_6, if_pos (by omega)]
    | succ j ih =>
      intro k d hxk hk
      have hv1 := hv.2.2.2.2.2.2.1 k (by omega)
      have hp := pf_le hv hbb x (k - x) (by omega)
      rw [show x + (k - x) = k by omega] at hp
      have e1 : pf (M 73) (12 + wh) (k + 1) = pf (M 73) (12 + wh) k + M 73 (12 + wh + 3 * k) := rfl
      have hm : 0 ≤ M 73 (12 + wh + 3 * k) ∧ M 73 (12 + wh + 3 * k) ≤ 60 := by
        rcases (by omega : wh = 0 ∨ wh = 1) with e | e
        · rw [e]; exact hv1.1
        · rw [e]; exact hv1.2.1
      have hi := ih (k + 1) none (by omega) (by omega)
      rw [e1] at hi
      rw [e_Model_minutesOf_6, if_neg (by omega), r_ck_ok (by omega) (by omega), r_ck_ok (by omega) (by omega), r_ck_ok (by omega) (by omega), r_bd_ok (by omega) (by omega), show (12 + 3 * (k : Int) + (wh : Int)).toNat = 12 + wh + 3 * k by omega, r_ck_ok (by omega) (by omega), r_ck_ok (by omega) (by omega), show pf (M 73) (12 + wh) k - pf (M 73) (12 + wh) x + M 73 (12 + wh + 3 * k) = pf (M 73) (12 + wh) k + M 73 (12 + wh + 3 * k) - pf (M 73) (12 + wh) x by omega]
      exact hi
  rw [e_Model_minutesOf, hx, r_ck_ok (by omega) (by omega)]
  unfold mns
  by_cases q : a < (y : Int)
  · rw [if_pos q, show ((y : Int) + 1).toNat = y + 1 by omega, hx, Int.toNat_natCast]
    have := L (y + 1 - x) x (some (iV a)) (by omega) (by omega)
    rw [Int.sub_self] at this
    exact this
  · rw [if_neg q, e_Model_minutesOf_6, if_pos (by omega)]
/-- the node of the field at a place -/
def nd (s o : Nat → Int) (p : Nat) : Int := s (42 + 4 * (o p).toNat)
def fil (s o : Nat → Int) (p : Nat) : Int := mns s 12 (if p = 0 then -1 else nd s o (p - 1)) (nd s o p)
def drn (s o : Nat → Int) (n p : Nat) : Int := mns s 13 (if p + 1 = n then -1 else nd s o (p + 1)) (nd s o p)
def nets (s o : Nat → Int) (n : Nat) : Nat → Int
  | 0 => 10080
  | p + 1 => nets s o n p + (drn s o n p - fil s o p)
theorem nd_bd {s o : Nat → Int} (hv : vT s) {n : Nat} (hn : s 1 = (n : Int)) (hP : isP n o) {p : Nat} (hp : p < n) : 0 ≤ nd s o p ∧ nd s o p < s 0 := by
  have h := hP.1 p hp
  exact (hv.2.2.2.2.2.2.2.1 (o p).toNat (by omega)).1
theorem fil_bd {s o : Nat → Int} (hv : vT s) {n : Nat} (hn : s 1 = (n : Int)) (hP : isP n o) {p : Nat} (hp : p < n) : 0 ≤ fil s o p ∧ fil s o p ≤ 600 := by
  unfold fil
  refine mns_bd hv (Or.inl rfl) ?_ (nd_bd hv hn hP hp).2
  split
  · omega
  · have := nd_bd hv hn hP (p := p - 1) (by omega); omega
theorem drn_bd {s o : Nat → Int} (hv : vT s) {n : Nat} (hn : s 1 = (n : Int)) (hP : isP n o) {p : Nat} (hp : p < n) : 0 ≤ drn s o n p ∧ drn s o n p ≤ 600 := by
  unfold drn
  refine mns_bd hv (Or.inr rfl) ?_ (nd_bd hv hn hP hp).2
  split
  · omega
  · have := nd_bd hv hn hP (p := p + 1) (by omega); omega
theorem nets_bd {s o : Nat → Int} (hv : vT s) {n : Nat} (hn : s 1 = (n : Int)) (hP : isP n o) : ∀ p, p ≤ n → 10080 - 600 * (p : Int) ≤ nets s o n p ∧ nets s o n p ≤ 10080 + 600 * (p : Int) := by
  intro p
  induction p with
  | zero => intro _; show _ ≤ (10080 : Int) ∧ (10080 : Int) ≤ _; omega
  | succ p ih =>
    intro hp
    have h1 := ih (by omega)
    have h2 := fil_bd hv hn hP (p := p) (by omega)
    have h3 := drn_bd hv hn hP (p := p) (by omega)
    show _ ≤ nets s o n p + (drn s o n p - fil s o p) ∧ nets s o n p + (drn s o n p - fil s o p) ≤ _
    omega
theorem p_fitCourse (M : am_M) (s o : Nat → Int) (n : Nat) (hv : vT s) (hn : s 1 = (n : Int)) (hc : cC s M) (ho : ∀ p, p < n → M 47 p = o p) (hP : isP n o) : ∃ M', cY 260 [rV 46] M = some (0, M') ∧ (∀ a, a ≠ 46 → a ≠ 48 → a ≠ 49 → M' a = M a) ∧ (∀ j, j ≠ 13 → M' 46 j = M 46 j) ∧ M' 46 13 = nets s o n n ∧ ∀ p, p < n → M' 48 (o p).toNat = fil s o p ∧ M' 49 (o p).toNat = drn s o n p := by
  have hb1 := hv.2.1
  obtain ⟨⟨d3, d4, d5⟩, M1, h1, i1, i2, i3, i4⟩ := lp_up (α := Option am_V × Option am_V × Option am_V) (X := fun k d M => cX 260 9 [some (rV 46), some (iV (n : Int)), some (iV (k : Int)), d.1, d.2.1, d.2.2] [] M) (n := n) (I := fun k M' => (∀ a, a ≠ 46 → a ≠ 48 → a ≠ 49 → M' a = M a) ∧ (∀ j, j ≠ 13 → M' 46 j = M 46 j) ∧ M' 46 13 = nets s o n k ∧ ∀ p, p < k → M' 48 (o p).toNat = fil s o p ∧ M' 49 (o p).toNat = drn s o n p) (by
    intro k hk d M' hI
    obtain ⟨i1, i2, i3, i4⟩ := hI
    have hh := e_WeekPlan_fitCourse_9 (n : Int) (k : Int) d.1 d.2.1 d.2.2 M'
    have hok := hP.1 k hk
    obtain ⟨f, hf⟩ : ∃ f : Nat, o k = (f : Int) := ⟨(o k).toNat, by omega⟩
    have hc' : ∀ v, cC s (am_up M' 48 f v) := fun v => cC_eq hc (by rw [am_up_ne _ _ _ _ (by decide), i1 0 (by decide) (by decide) (by decide)]) (by rw [am_up_ne _ _ _ _ (by decide), i1 1 (by decide) (by decide) (by decide)]) (by rw [am_up_ne _ _ _ _ (by decide), i1 2 (by decide) (by decide) (by decide)]) (by rw [am_up_ne _ _ _ _ (by decide), i1 5 (by decide) (by decide) (by decide)])
    have hc0 : cC s M' := cC_eq hc (i1 0 (by decide) (by decide) (by decide)) (i1 1 (by decide) (by decide) (by decide)) (i1 2 (by decide) (by decide) (by decide)) (i1 5 (by decide) (by decide) (by decide))
    have o47 : ∀ p, p < n → M' 47 p = o p := fun p hp => by rw [i1 47 (by decide) (by decide) (by decide)]; exact ho p hp
    have ek : M' 47 k = (f : Int) := by rw [o47 k hk, hf]
    have en : M' 5 f = nd s o k := by rw [hc0.2.2 f (by omega)]; unfold nd; rw [hf, Int.toNat_natCast]
    have hnb := nd_bd hv hn hP hk
    have hfb := fil_bd hv hn hP hk
    have hdb := drn_bd hv hn hP hk
    have hnb' := nets_bd hv hn hP k (by omega)
    have fin : ∀ d' : Option am_V × Option am_V × Option am_V, (cX 260 9 [some (rV 46), some (iV (n : Int)), some (iV (k : Int)), d.1, d.2.1, d.2.2] [] M' = cX 260 9 [some (rV 46), some (iV (n : Int)), some (iV ((k : Int) + 1)), d'.1, d'.2.1, d'.2.2] [] (am_up (am_up (am_up M' 48 f (fil s o k)) 49 f (drn s o n k)) 46 13 (nets s o n k + (drn s o n k - fil s o k)))) → ∃ (d' : Option am_V × Option am_V × Option am_V) (M2 : am_M), cX 260 9 [some (rV 46), some (iV (n : Int)), some (iV (k : Int)), d.1, d.2.1, d.2.2] [] M' = cX 260 9 [some (rV 46), some (iV (n : Int)), some (iV ((k + 1 : Nat) : Int)), d'.1, d'.2.1, d'.2.2] [] M2 ∧ (∀ a, a ≠ 46 → a ≠ 48 → a ≠ 49 → M2 a = M a) ∧ (∀ j, j ≠ 13 → M2 46 j = M 46 j) ∧ M2 46 13 = nets s o n (k + 1) ∧ ∀ p, p < k + 1 → M2 48 (o p).toNat = fil s o p ∧ M2 49 (o p).toNat = drn s o n p := by
      intro d' hq
      refine ⟨d', _, hq, fun a x1 x2 x3 => by rw [am_up_ne _ _ _ _ x1, am_up_ne _ _ _ _ x3, am_up_ne _ _ _ _ x2, i1 a x1 x2 x3], fun j hj => by rw [am_up_nj _ _ _ _ hj, am_up_ne _ _ _ _ (by decide), am_up_ne _ _ _ _ (by decide), i2 j hj], am_up_at _ _ _ _, fun p hp => ?_⟩
      rw [am_up_ne _ _ _ _ (show 48 ≠ 46 by decide), am_up_ne _ _ _ _ (show 48 ≠ 49 by decide), am_up_ne _ _ _ _ (show 49 ≠ 46 by decide)]
      by_cases e : p = k
      · subst e
        rw [hf, Int.toNat_natCast, am_up_at, am_up_at]
        exact ⟨rfl, rfl⟩
      · have hne : o p ≠ o k := fun h => e (hP.2 p k (by omega) hk h)
        have hop := hP.1 p (by omega)
        rw [am_up_nj _ _ _ _ (by omega), am_up_nj _ _ _ _ (by omega), am_up_ne _ _ _ _ (by decide)]
        exact i4 p (by omega)
    simp only [Int.toNat_natCast, ek, en] at hh
    by_cases q1 : k = 0
    · by_cases q2 : k + 1 = n
      · have c1 : cY 248 [rV 0, iV (-1), iV (nd s o k)] M' = some (fil s o k, M') := by
          rw [p_fillBehind M' s hv hc0 _ _ (by omega) (by omega)]; unfold fil; rw [if_pos q1]
        have c2 : cY 249 [rV 0, iV (-1), iV (nd s o k)] (am_up M' 48 f (fil s o k)) = some (drn s o n k, am_up M' 48 f (fil s o k)) := by
          rw [p_drainBehind _ s hv (hc' _) _ _ (by omega) (by omega)]; unfold drn; rw [if_pos q2]
        rw [if_pos (by omega), r_bd_ok (by omega) (by omega), if_pos (by omega), r_ck_ok (by omega) (by omega), if_pos (by omega), r_bd_ok (by omega) (by omega), c1, am_cb_s, r_bd_ok (by omega) (by omega), r_bd_ok (by omega) (by omega), en, c2, am_cb_s, r_bd_ok (by omega) (by omega), r_bd_ok (by omega) (by omega), r_bd_ok (by omega) (by omega), am_up_at, am_up_at, am_up_ne _ _ _ _ (show 46 ≠ 48 by decide), i3, r_ck_ok (by omega) (by omega), r_ck_ok (by omega) (by omega), r_ck_ok (by omega) (by omega)] at hh
        exact fin (_, _, _) hh
      · have hok2 := hP.1 (k + 1) (by omega)
        obtain ⟨g, hg⟩ : ∃ g : Nat, o (k + 1) = (g : Int) := ⟨(o (k + 1)).toNat, by omega⟩
        have eg : M' 47 (k + 1) = (g : Int) := by rw [o47 (k + 1) (by omega), hg]
        have eng : M' 5 g = nd s o (k + 1) := by rw [hc0.2.2 g (by omega)]; unfold nd; rw [hg, Int.toNat_natCast]
        have hnb2 := nd_bd hv hn hP (p := k + 1) (by omega)
        have c1 : cY 248 [rV 0, iV (-1), iV (nd s o k)] M' = some (fil s o k, M') := by
          rw [p_fillBehind M' s hv hc0 _ _ (by omega) (by omega)]; unfold fil; rw [if_pos q1]
        have c2 : cY 249 [rV 0, iV (nd s o (k + 1)), iV (nd s o k)] (am_up M' 48 f (fil s o k)) = some (drn s o n k, am_up M' 48 f (fil s o k)) := by
          rw [p_drainBehind _ s hv (hc' _) _ _ (by omega) (by omega)]; unfold drn; rw [if_neg q2]
        rw [if_pos (by omega), r_bd_ok (by omega) (by omega), if_pos (by omega), r_ck_ok (by omega) (by omega), if_neg (by omega), r_ck_ok (by omega) (by omega), r_bd_ok (by omega) (by omega), show ((k : Int) + 1).toNat = k + 1 by omega, eg, r_bd_ok (by omega) (by omega), Int.toNat_natCast, eng, r_bd_ok (by omega) (by omega), c1, am_cb_s, r_bd_ok (by omega) (by omega), r_bd_ok (by omega) (by omega), en, c2, am_cb_s, r_bd_ok (by omega) (by omega), r_bd_ok (by omega) (by omega), r_bd_ok (by omega) (by omega), am_up_at, am_up_at, am_up_ne _ _ _ _ (show 46 ≠ 48 by decide), i3, r_ck_ok (by omega) (by omega), r_ck_ok (by omega) (by omega), r_ck_ok (by omega) (by omega)] at hh
        exact fin (_, _, _) hh
    · have hok0 := hP.1 (k - 1) (by omega)
      obtain ⟨e, he⟩ : ∃ e : Nat, o (k - 1) = (e : Int) := ⟨(o (k - 1)).toNat, by omega⟩
      have ee : M' 47 (k - 1) = (e : Int) := by rw [o47 (k - 1) (by omega), he]
      have ene : M' 5 e = nd s o (k - 1) := by rw [hc0.2.2 e (by omega)]; unfold nd; rw [he, Int.toNat_natCast]
      have hnb0 := nd_bd hv hn hP (p := k - 1) (by omega)
      have c1 : cY 248 [rV 0, iV (nd s o (k - 1)), iV (nd s o k)] M' = some (fil s o k, M') := by
        rw [p_fillBehind M' s hv hc0 _ _ (by omega) (by omega)]; unfold fil; rw [if_neg q1]
      rw [if_pos (by omega), r_bd_ok (by omega) (by omega), if_neg (by omega), r_ck_ok (by omega) (by omega), r_bd_ok (by omega) (by omega), show ((k : Int) - 1).toNat = k - 1 by omega, ee, r_bd_ok (by omega) (by omega), Int.toNat_natCast, ene, r_ck_ok (by omega) (by omega)] at hh
      by_cases q2 : k + 1 = n
      · have c2 : cY 249 [rV 0, iV (-1), iV (nd s o k)] (am_up M' 48 f (fil s o k)) = some (drn s o n k, am_up M' 48 f (fil s o k)) := by
          rw [p_drainBehind _ s hv (hc' _) _ _ (by omega) (by omega)]; unfold drn; rw [if_pos q2]
        rw [if_pos (by omega), r_bd_ok (by omega) (by omega), c1, am_cb_s, r_bd_ok (by omega) (by omega), r_bd_ok (by omega) (by omega), en, c2, am_cb_s, r_bd_ok (by omega) (by omega), r_bd_ok (by omega) (by omega), r_bd_ok (by omega) (by omega), am_up_at, am_up_at, am_up_ne _ _ _ _ (show 46 ≠ 48 by decide), i3, r_ck_ok (by omega) (by omega), r_ck_ok (by omega) (by omega), r_ck_ok (by omega) (by omega)] at hh
        exact fin (_, _, _) hh
      · have hok2 := hP.1 (k + 1) (by omega)
        obtain ⟨g, hg⟩ : ∃ g : Nat, o (k + 1) = (g : Int) := ⟨(o (k + 1)).toNat, by omega⟩
        have eg : M' 47 (k + 1) = (g : Int) := by rw [o47 (k + 1) (by omega), hg]
        have eng : M' 5 g = nd s o (k + 1) := by rw [hc0.2.2 g (by omega)]; unfold nd; rw [hg, Int.toNat_natCast]
        have hnb2 := nd_bd hv hn hP (p := k + 1) (by omega)
        have c2 : cY 249 [rV 0, iV (nd s o (k + 1)), iV (nd s o k)] (am_up M' 48 f (fil s o k)) = some (drn s o n k, am_up M' 48 f (fil s o k)) := by
          rw [p_drainBehind _ s hv (hc' _) _ _ (by omega) (by omega)]; unfold drn; rw [if_neg q2]
        rw [if_neg (by omega), r_ck_ok (by omega) (by omega), r_bd_ok (by omega) (by omega), show ((k : Int) + 1).toNat = k + 1 by omega, eg, r_bd_ok (by omega) (by omega), Int.toNat_natCast, eng, r_bd_ok (by omega) (by omega), c1, am_cb_s, r_bd_ok (by omega) (by omega), r_bd_ok (by omega) (by omega), en, c2, am_cb_s, r_bd_ok (by omega) (by omega), r_bd_ok (by omega) (by omega), r_bd_ok (by omega) (by omega), am_up_at, am_up_at, am_up_ne _ _ _ _ (show 46 ≠ 48 by decide), i3, r_ck_ok (by omega) (by omega), r_ck_ok (by omega) (by omega), r_ck_ok (by omega) (by omega)] at hh
        exact fin (_, _, _) hh) n 0 (by omega) (none, none, none) (am_up M 46 13 10080) ⟨fun a x1 _ _ => am_up_ne _ _ _ _ x1, fun j hj => am_up_nj _ _ _ _ hj, am_up_at _ _ _ _, fun p hp => by omega⟩
  refine ⟨M1, ?_, i1, i2, i3, i4⟩
  rw [e_WeekPlan_fitCourse, hc.1, hn]
  refine h1.trans ?_
  rw [e_WeekPlan_fitCourse_9, if_neg (by omega)]
theorem p_laysNet (M : am_M) (o : Nat → Int) (n : Nat) (hv : vT (M 73)) (hn : M 73 1 = (n : Int)) (ho : ∀ p, p < n → M 79 p = o p) (hP : isP n o) : ∃ M', cY 105 [rV 72] M = some (nets (M 73) o n n, M') ∧ (∀ a, a ≠ 81 → a ≠ 82 → M' a = M a) ∧ ∀ p, p < n → M' 81 (o p).toNat = fil (M 73) o p ∧ M' 82 (o p).toNat = drn (M 73) o n p := by
  have hb1 := hv.2.1
  have hb0 := hv.1
  obtain ⟨d3, M1, h1, i1, i4⟩ := lp_up (α := Option am_V) (X := fun k d M' => cX 105 4 [some (rV 72), some (iV (nets (M 73) o n k)), some (iV (k : Int)), d] [] M') (n := n) (I := fun k M' => (∀ a, a ≠ 81 → a ≠ 82 → M' a = M a) ∧ ∀ p, p < k → M' 81 (o p).toNat = fil (M 73) o p ∧ M' 82 (o p).toNat = drn (M 73) o n p) (by
    intro k hk d M' hI
    obtain ⟨i1, i4⟩ := hI
    have hh := e_Model_laysNet_4 (nets (M 73) o n k) (k : Int) d M'
    have hok := hP.1 k hk
    obtain ⟨f, hf⟩ : ∃ f : Nat, o k = (f : Int) := ⟨(o k).toNat, by omega⟩
    have e73 : M' 73 = M 73 := i1 73 (by decide) (by decide)
    have o79 : ∀ p, p < n → M' 79 p = o p := fun p hp => by rw [i1 79 (by decide) (by decide)]; exact ho p hp
    have ek : M' 79 k = (f : Int) := by rw [o79 k hk, hf]
    have hnb := nd_bd hv hn hP hk
    have hfb := fil_bd hv hn hP hk
    have hdb := drn_bd hv hn hP hk
    have hnb' := nets_bd hv hn hP k (by omega)
    have q5 : ∀ (M2 : am_M), M2 73 = M 73 → cY 96 [rV 72, iV (f : Int), iV 0] M2 = some (nd (M 73) o k, M2) := fun M2 h2 => by
      rw [p_of0 M2 f (by omega), h2]; unfold nd; rw [hf, Int.toNat_natCast]
    have u73 : ∀ v, (am_up M' 81 f v) 73 = M 73 := fun v => by rw [am_up_ne _ _ _ _ (by decide), e73]
    have fin : ∀ d', (cX 105 4 [some (rV 72), some (iV (nets (M 73) o n k)), some (iV (k : Int)), d] [] M' = cX 105 4 [some (rV 72), some (iV (nets (M 73) o n k + (drn (M 73) o n k - fil (M 73) o k))), some (iV ((k : Int) + 1)), d'] [] (am_up (am_up M' 81 f (fil (M 73) o k)) 82 f (drn (M 73) o n k))) → ∃ (d' : Option am_V) (M2 : am_M), cX 105 4 [some (rV 72), some (iV (nets (M 73) o n k)), some (iV (k : Int)), d] [] M' = cX 105 4 [some (rV 72), some (iV (nets (M 73) o n (k + 1))), some (iV ((k + 1 : Nat) : Int)), d'] [] M2 ∧ (∀ a, a ≠ 81 → a ≠ 82 → M2 a = M a) ∧ ∀ p, p < k + 1 → M2 81 (o p).toNat = fil (M 73) o p ∧ M2 82 (o p).toNat = drn (M 73) o n p := by
      intro d' hq
      refine ⟨d', _, hq, fun a x2 x3 => by rw [am_up_ne _ _ _ _ x3, am_up_ne _ _ _ _ x2, i1 a x2 x3], fun p hp => ?_⟩
      rw [am_up_ne _ _ _ _ (show 81 ≠ 82 by decide)]
      by_cases e : p = k
      · subst e
        rw [hf, Int.toNat_natCast, am_up_at, am_up_at]
        exact ⟨rfl, rfl⟩
      · have hne : o p ≠ o k := fun h => e (hP.2 p k (by omega) hk h)
        have hop := hP.1 p (by omega)
        rw [am_up_nj _ _ _ _ (by omega), am_up_nj _ _ _ _ (by omega), am_up_ne _ _ _ _ (by decide)]
        exact i4 p (by omega)
    simp only [Int.toNat_natCast, ek] at hh
    rw [e73, hn, if_pos (by omega), r_bd_ok (by omega) (by omega)] at hh
    by_cases q1 : k = 0
    · have c1 : cY 104 [rV 72, iV (-1), iV (nd (M 73) o k), iV 0] M' = some (fil (M 73) o k, M') := by
        have := p_minutesOf M' (by rw [e73]; exact hv) (-1) (nd (M 73) o k) 0 (by omega) (by rw [e73]; omega) (by rw [e73]; omega)
        rw [e73] at this
        refine this.trans ?_
        unfold fil; rw [if_pos q1]
      rw [if_pos (by omega), q5 M' e73, am_cb_s, c1, am_cb_s, r_bd_ok (by omega) (by omega), r_ck_ok (by omega) (by omega), e73, hn] at hh
      by_cases q2 : k + 1 = n
      · have c2 : cY 104 [rV 72, iV (-1), iV (nd (M 73) o k), iV 1] (am_up M' 81 f (fil (M 73) o k)) = some (drn (M 73) o n k, am_up M' 81 f (fil (M 73) o k)) := by
          have := p_minutesOf (am_up M' 81 f (fil (M 73) o k)) (by rw [u73]; exact hv) (-1) (nd (M 73) o k) 1 (by omega) (by rw [u73]; omega) (by rw [u73]; omega)
          rw [u73] at this
          refine this.trans ?_
          unfold drn; rw [if_pos q2]
        rw [if_pos (by omega), q5 _ (u73 _), am_cb_s, c2, am_cb_s, r_bd_ok (by omega) (by omega), r_bd_ok (by omega) (by omega), r_bd_ok (by omega) (by omega), am_up_at, am_up_at, r_ck_ok (by omega) (by omega), r_ck_ok (by omega) (by omega), r_ck_ok (by omega) (by omega)] at hh
        exact fin _ hh
      · have hok2 := hP.1 (k + 1) (by omega)
        obtain ⟨g, hg⟩ : ∃ g : Nat, o (k + 1) = (g : Int) := ⟨(o (k + 1)).toNat, by omega⟩
        have eg : M' 79 (k + 1) = (g : Int) := by rw [o79 (k + 1) (by omega), hg]
        have hnb2 := nd_bd hv hn hP (p := k + 1) (by omega)
        have q6 : cY 96 [rV 72, iV (g : Int), iV 0] (am_up M' 81 f (fil (M 73) o k)) = some (nd (M 73) o (k + 1), am_up M' 81 f (fil (M 73) o k)) := by
          rw [p_of0 _ g (by omega), u73]; unfold nd; rw [hg, Int.toNat_natCast]
        have c2 : cY 104 [rV 72, iV (nd (M 73) o (k + 1)), iV (nd (M 73) o k), iV 1] (am_up M' 81 f (fil (M 73) o k)) = some (drn (M 73) o n k, am_up M' 81 f (fil (M 73) o k)) := by
          have := p_minutesOf (am_up M' 81 f (fil (M 73) o k)) (by rw [u73]; exact hv) (nd (M 73) o (k + 1)) (nd (M 73) o k) 1 (by omega) (by rw [u73]; omega) (by rw [u73]; omega)
          rw [u73] at this
          refine this.trans ?_
          unfold drn; rw [if_neg q2]
        rw [if_neg (by omega), r_ck_ok (by omega) (by omega), r_bd_ok (by omega) (by omega), show ((k : Int) + 1).toNat = k + 1 by omega, eg, q6, am_cb_s, q5 _ (u73 _), am_cb_s, c2, am_cb_s, r_bd_ok (by omega) (by omega), r_bd_ok (by omega) (by omega), r_bd_ok (by omega) (by omega), am_up_at, am_up_at, r_ck_ok (by omega) (by omega), r_ck_ok (by omega) (by omega), r_ck_ok (by omega) (by omega)] at hh
        exact fin _ hh
    · have hok0 := hP.1 (k - 1) (by omega)
      obtain ⟨e, he⟩ : ∃ e : Nat, o (k - 1) = (e : Int) := ⟨(o (k - 1)).toNat, by omega⟩
      have ee : M' 79 (k - 1) = (e : Int) := by rw [o79 (k - 1) (by omega), he]
      have hnb0 := nd_bd hv hn hP (p := k - 1) (by omega)
      have q7 : cY 96 [rV 72, iV (e : Int), iV 0] M' = some (nd (M 73) o (k - 1), M') := by
        rw [p_of0 _ e (by omega), e73]; unfold nd; rw [he, Int.toNat_natCast]
      have c1 : cY 104 [rV 72, iV (nd (M 73) o (k - 1)), iV (nd (M 73) o k), iV 0] M' = some (fil (M 73) o k, M') := by
        have := p_minutesOf M' (by rw [e73]; exact hv) (nd (M 73) o (k - 1)) (nd (M 73) o k) 0 (by omega) (by rw [e73]; omega) (by rw [e73]; omega)
        rw [e73] at this
        refine this.trans ?_
        unfold fil; rw [if_neg q1]
      rw [if_neg (by omega), r_ck_ok (by omega) (by omega), r_bd_ok (by omega) (by omega), show ((k : Int) - 1).toNat = k - 1 by omega, ee, q7, am_cb_s, q5 M' e73, am_cb_s, c1, am_cb_s, r_bd_ok (by omega) (by omega), r_ck_ok (by omega) (by omega), e73, hn] at hh
      by_cases q2 : k + 1 = n
      · have c2 : cY 104 [rV 72, iV (-1), iV (nd (M 73) o k), iV 1] (am_up M' 81 f (fil (M 73) o k)) = some (drn (M 73) o n k, am_up M' 81 f (fil (M 73) o k)) := by
          have := p_minutesOf (am_up M' 81 f (fil (M 73) o k)) (by rw [u73]; exact hv) (-1) (nd (M 73) o k) 1 (by omega) (by rw [u73]; omega) (by rw [u73]; omega)
          rw [u73] at this
          refine this.trans ?_
          unfold drn; rw [if_pos q2]
        rw [if_pos (by omega), q5 _ (u73 _), am_cb_s, c2, am_cb_s, r_bd_ok (by omega) (by omega), r_bd_ok (by omega) (by omega), r_bd_ok (by omega) (by omega), am_up_at, am_up_at, r_ck_ok (by omega) (by omega), r_ck_ok (by omega) (by omega), r_ck_ok (by omega) (by omega)] at hh
        exact fin _ hh
      · have hok2 := hP.1 (k + 1) (by omega)
        obtain ⟨g, hg⟩ : ∃ g : Nat, o (k + 1) = (g : Int) := ⟨(o (k + 1)).toNat, by omega⟩
        have eg : M' 79 (k + 1) = (g : Int) := by rw [o79 (k + 1) (by omega), hg]
        have hnb2 := nd_bd hv hn hP (p := k + 1) (by omega)
        have q6 : cY 96 [rV 72, iV (g : Int), iV 0] (am_up M' 81 f (fil (M 73) o k)) = some (nd (M 73) o (k + 1), am_up M' 81 f (fil (M 73) o k)) := by
          rw [p_of0 _ g (by omega), u73]; unfold nd; rw [hg, Int.toNat_natCast]
        have c2 : cY 104 [rV 72, iV (nd (M 73) o (k + 1)), iV (nd (M 73) o k), iV 1] (am_up M' 81 f (fil (M 73) o k)) = some (drn (M 73) o n k, am_up M' 81 f (fil (M 73) o k)) := by
          have := p_minutesOf (am_up M' 81 f (fil (M 73) o k)) (by rw [u73]; exact hv) (nd (M 73) o (k + 1)) (nd (M 73) o k) 1 (by omega) (by rw [u73]; omega) (by rw [u73]; omega)
          rw [u73] at this
          refine this.trans ?_
          unfold drn; rw [if_neg q2]
        rw [if_neg (by omega), r_ck_ok (by omega) (by omega), r_bd_ok (by omega) (by omega), show ((k : Int) + 1).toNat = k + 1 by omega, eg, q6, am_cb_s, q5 _ (u73 _), am_cb_s, c2, am_cb_s, r_bd_ok (by omega) (by omega), r_bd_ok (by omega) (by omega), r_bd_ok (by omega) (by omega), am_up_at, am_up_at, r_ck_ok (by omega) (by omega), r_ck_ok (by omega) (by omega), r_ck_ok (by omega) (by omega)] at hh
        exact fin _ hh) n 0 (by omega) none M ⟨fun _ _ _ => rfl, fun p hp => by omega⟩
  refine ⟨M1, ?_, i1, i4⟩
  rw [e_Model_laysNet]
  refine h1.trans ?_
  rw [e_Model_laysNet_4, i1 73 (by decide) (by decide), hn, if_neg (by omega)]
