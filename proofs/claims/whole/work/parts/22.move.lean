-- places, and fields that are moved
theorem inj_sur : ∀ (n : Nat) (g : Nat → Nat), (∀ p, p < n → g p < n) → (∀ p q, p < n → q < n → g p = g q → p = q) → ∀ f, f < n → ∃ p, p < n ∧ g p = f := by
  intro n
  induction n with
  | zero => intro g _ _ f hf; omega
  | succ n ih =>
    intro g h1 h2 f hf
    by_cases hn : g n = n
    · by_cases hfn : f = n
      · exact ⟨n, by omega, by omega⟩
      · obtain ⟨p, hp, hg⟩ := ih g (fun p hp => by
          have := h1 p (by omega)
          have := h2 p n (by omega) (by omega)
          omega) (fun p q hp hq => h2 p q (by omega) (by omega)) f (by omega)
        exact ⟨p, by omega, hg⟩
    · have hgn := h1 n (by omega)
      have key := ih (fun p => if g p = n then g n else g p) (fun p hp => by
          show (if g p = n then g n else g p) < n
          split
          · omega
          · have := h1 p (by omega); omega) (fun p q hp hq hpq => by
          have hpq : (if g p = n then g n else g p) = (if g q = n then g n else g q) := hpq
          by_cases a1 : g p = n
          · by_cases a2 : g q = n
            · exact h2 p q (by omega) (by omega) (by omega)
            · rw [if_pos a1, if_neg a2] at hpq
              have := h2 n q (by omega) (by omega) hpq
              omega
          · by_cases a2 : g q = n
            · rw [if_neg a1, if_pos a2] at hpq
              have := h2 p n (by omega) (by omega) hpq
              omega
            · rw [if_neg a1, if_neg a2] at hpq
              exact h2 p q (by omega) (by omega) hpq)
      by_cases hfn : f = n
      · -- some p < n has g p = n, else g maps all into n
        obtain ⟨p, hp, hg⟩ := key (g n) (by omega)
        have hg : (if g p = n then g n else g p) = g n := hg
        by_cases a1 : g p = n
        · exact ⟨p, by omega, by omega⟩
        · rw [if_neg a1] at hg
          have := h2 p n (by omega) (by omega) hg
          omega
      · obtain ⟨p, hp, hg⟩ := key f (by omega)
        have hg : (if g p = n then g n else g p) = f := hg
        by_cases a1 : g p = n
        · rw [if_pos a1] at hg
          exact ⟨n, by omega, hg⟩
        · rw [if_neg a1] at hg
          exact ⟨p, by omega, hg⟩
/-- a row of n that has each of 0 .. n-1 once -/
def isP (n : Nat) (o : Nat → Int) : Prop := (∀ p, p < n → 0 ≤ o p ∧ o p < (n : Int)) ∧ ∀ p q, p < n → q < n → o p = o q → p = q
theorem isP_sur {n : Nat} {o : Nat → Int} (h : isP n o) {f : Int} (hf : 0 ≤ f ∧ f < (n : Int)) : ∃ p, p < n ∧ o p = f := by
  obtain ⟨p, hp, hg⟩ := inj_sur n (fun p => (o p).toNat) (fun p hp => by have := h.1 p hp; show (o p).toNat < n; omega) (fun p q hp hq hpq => h.2 p q hp hq (by
    have hpq : (o p).toNat = (o q).toNat := hpq
    have := h.1 p hp
    have := h.1 q hq
    omega)) f.toNat (by omega)
  have hg : (o p).toNat = f.toNat := hg
  have := h.1 p hp
  exact ⟨p, hp, by omega⟩
theorem vT_isP {s : Nat → Int} (h : vT s) {n : Nat} (hn : s 1 = (n : Int)) : isP n (fun p => s (74 + p)) := by
  obtain ⟨-, -, -, -, -, -, -, -, ho, -⟩ := h
  rw [hn] at ho
  exact ⟨fun p hp => ho.1 p (by omega), fun p q hp hq => ho.2 p q (by omega) (by omega)⟩
theorem plc_at {o : Nat → Int} {f : Int} : ∀ (n p p0 : Nat), p ≤ p0 → p0 < p + n → o p0 = f → (∀ q, p ≤ q → q < p0 → o q ≠ f) → plc o f n p = p0 := by
  intro n
  induction n with
  | zero => intro p p0 h1 h2; omega
  | succ n ih =>
    intro p p0 h1 h2 h3 h4
    show (if o p = f then p else plc o f n (p + 1)) = p0
    by_cases e : p = p0
    · subst e; rw [if_pos h3]
    · rw [if_neg (h4 p (by omega) (by omega))]
      exact ih (p + 1) p0 (by omega) (by omega) h3 (fun q hq => h4 q (by omega))
theorem isP_plc {n : Nat} {o : Nat → Int} (h : isP n o) {f : Int} {p0 : Nat} (hp : p0 < n) (hf : o p0 = f) : plc o f n 0 = p0 ∧ ∀ q, q < n → q ≠ p0 → o q ≠ f := by
  have hne : ∀ q, q < n → q ≠ p0 → o q ≠ f := fun q hq hn he => hn (h.2 q p0 hq hp (he.trans hf.symm))
  exact ⟨plc_at n 0 p0 (by omega) (by omega) hf (fun q _ hq => hne q (by omega) (by omega)), hne⟩
def mvx (p0 q p : Nat) : Nat := if p = q then p0 else if p0 ≤ p ∧ p < q then p + 1 else if q < p ∧ p ≤ p0 then p - 1 else p
theorem mvx_lt {n p0 q p : Nat} (h0 : p0 < n) (hq : q < n) (hp : p < n) : mvx p0 q p < n := by
  unfold mvx
  split
  · exact h0
  · split
    · omega
    · split <;> omega
theorem mvx_inj {p0 q a b : Nat} (h : mvx p0 q a = mvx p0 q b) : a = b := by
  unfold mvx at h
  repeat' split at h
  all_goals omega
theorem mvx_back (p0 q p : Nat) : mvx p0 q (mvx q p0 p) = p := by
  unfold mvx
  repeat' split
  all_goals omega
theorem brg_eq {n : Nat} {o : Nat → Int} (h : isP n o) {f : Int} {p0 : Nat} (hp : p0 < n) (hf : o p0 = f) (q p : Nat) : brg o n f q p = o (mvx p0 q p) := by
  unfold brg mvx
  rw [(isP_plc h hp hf).1]
  split
  · exact hf.symm
  · split
    · rfl
    · split <;> rfl
theorem isP_mvx {n : Nat} {o : Nat → Int} (h : isP n o) {p0 q : Nat} (hp : p0 < n) (hq : q < n) : isP n (fun p => o (mvx p0 q p)) :=
  ⟨fun p hp' => h.1 _ (mvx_lt hp hq hp'), fun a b ha hb hab => mvx_inj (h.2 _ _ (mvx_lt hp hq ha) (mvx_lt hp hq hb) hab)⟩
theorem isP_eq {n : Nat} {o o' : Nat → Int} (h : isP n o) (e : ∀ p, p < n → o' p = o p) : isP n o' :=
  ⟨fun p hp => by rw [e p hp]; exact h.1 p hp, fun p q hp hq hpq => h.2 p q hp hq (by rw [e p hp, e q hq] at hpq; exact hpq)⟩
theorem p_placeInOrder (M : am_M) (f : Int) (n p0 : Nat) (hn : M 0 4 = (n : Int)) (h8 : n ≤ 8) (hp : p0 < n) (hf : M 9 p0 = f) (hne : ∀ q, q < p0 → M 9 q ≠ f) : cY 246 [rV 0, iV f] M = some ((p0 : Int), M) := by
  rw [e_Told_placeInOrder]
  have L : ∀ j k : Nat, k + j = p0 → cX 246 2 [some (rV 0), some (iV f), some (iV (k : Int))] [] M = some ((p0 : Int), M) := by
    intro j
    induction j with
    | zero => intro k hk; have e : k = p0 := by omega
              subst e; rw [e_Told_placeInOrder_2, hn, if_pos (by omega), r_bd_ok (by omega) (by omega), Int.toNat_natCast, if_pos hf]
    | succ j ih => intro k hk; rw [e_Told_placeInOrder_2, hn, if_pos (by omega), r_bd_ok (by omega) (by omega), Int.toNat_natCast, if_neg (hne k (by omega)), r_ck_ok (by omega) (by omega)]; exact ih (k + 1) (by omega)
  exact L p0 0 (by omega)
theorem p_placeIn (M : am_M) (f : Int) (p0 : Nat) (h8 : p0 < 8) (hf : M 73 (74 + p0) = f) (hne : ∀ q, q < p0 → M 73 (74 + q) ≠ f) : cY 82 [rV 72, iV 74, iV f] M = some ((p0 : Int), M) := by
  rw [e_Model_placeIn]
  have L : ∀ j k : Nat, k + j = p0 → cX 82 2 [some (rV 72), some (iV 74), some (iV f), some (iV (k : Int))] [] M = some ((p0 : Int), M) := by
    intro j
    induction j with
    | zero => intro k hk; have e : k = p0 := by omega
              subst e; rw [e_Model_placeIn_2, r_ck_ok (by omega) (by omega), r_bd_ok (by omega) (by omega), show (74 + (k : Int)).toNat = 74 + k by omega, if_pos hf]
    | succ j ih => intro k hk; rw [e_Model_placeIn_2, r_ck_ok (by omega) (by omega), r_bd_ok (by omega) (by omega), show (74 + (k : Int)).toNat = 74 + k by omega, if_neg (hne k (by omega)), r_ck_ok (by omega) (by omega)]; exact ih (k + 1) (by omega)
  exact L p0 0 (by omega)
theorem p_bringTo (M : am_M) (f : Int) (n p0 q : Nat) (hn : M 0 4 = (n : Int)) (h8 : n ≤ 8) (hP : isP n (M 9)) (hp : p0 < n) (hf : M 9 p0 = f) (hq : q < n) : ∃ M', cY 247 [rV 0, iV f, iV (q : Int)] M = some (0, M') ∧ (∀ a, a ≠ 9 → M' a = M a) ∧ ∀ p, p < n → M' 9 p = M 9 (mvx p0 q p) := by
  have hpl := p_placeInOrder M f n p0 hn h8 hp hf (fun x hx => (isP_plc hP hp hf).2 x (by omega) (by omega))
  rw [e_Told_bringTo, hpl, am_cb_s, if_neg (by omega), if_neg (by omega), hn, if_pos (by omega)]
  by_cases hlt : p0 < q
  · obtain ⟨-, M1, h1, i1, i2⟩ := lp_up (α := Unit) (X := fun k _ M => cX 247 14 [some (rV 0), some (iV f), some (iV (q : Int)), some (iV ((p0 + k : Nat) : Int))] [] M) (n := q - p0) (I := fun k M' => (∀ a, a ≠ 9 → M' a = M a) ∧ ∀ p, M' 9 p = if p0 ≤ p ∧ p < p0 + k then M 9 (p + 1) else M 9 p) (by
      intro k hk d M' hI
      obtain ⟨i1, i2⟩ := hI
      have hh := e_Told_bringTo_14 f (q : Int) ((p0 + k : Nat) : Int) M'
      rw [if_pos (by omega), r_ck_ok (by omega) (by omega), r_bd_ok (by omega) (by omega), r_bd_ok (by omega) (by omega), r_ck_ok (by omega) (by omega)] at hh
      refine ⟨(), _, hh, fun a ha => (am_up_ne _ _ _ _ ha).trans (i1 a ha), fun p => ?_⟩
      rw [show (((p0 + k : Nat) : Int) + 1).toNat = p0 + k + 1 by omega, Int.toNat_natCast]
      by_cases e : p = p0 + k
      · subst e; rw [am_up_at, i2, if_neg (by omega), if_pos (by omega)]
      · rw [am_up_nj _ _ _ _ e, i2]
        by_cases c : p0 ≤ p ∧ p < p0 + k
        · rw [if_pos c, if_pos (by omega)]
        · rw [if_neg c, if_neg (by omega)]) (q - p0) 0 (by omega) () M ⟨fun _ _ => rfl, fun p => by rw [if_neg (by omega)]⟩
    have e2 : p0 + (q - p0) = q := by omega
    simp only [e2, Nat.add_zero] at h1 i2
    refine ⟨am_up M1 9 q f, h1.trans ?_, ?_, ?_⟩
    · rw [e_Told_bringTo_14, if_neg (by omega), e_Told_bringTo_29, if_neg (by omega), r_bd_ok (by omega) (by omega), Int.toNat_natCast]
    · intro a ha; rw [am_up_ne _ _ _ _ ha, i1 a ha]
    · intro p hp'
      unfold mvx
      by_cases e : p = q
      · subst e; rw [am_up_at, if_pos rfl, hf]
      · rw [am_up_nj _ _ _ _ e, if_neg e, i2]
        by_cases c : p0 ≤ p ∧ p < q
        · rw [if_pos c, if_pos c]
        · rw [if_neg c, if_neg c, if_neg (by omega)]
  · obtain ⟨-, M1, h1, i1, i2⟩ := lp_up (α := Unit) (X := fun k _ M => cX 247 29 [some (rV 0), some (iV f), some (iV (q : Int)), some (iV ((p0 : Int) - (k : Int)))] [] M) (n := p0 - q) (I := fun k M' => (∀ a, a ≠ 9 → M' a = M a) ∧ ∀ p, M' 9 p = if p ≤ p0 ∧ p0 < p + k then M 9 (p - 1) else M 9 p) (by
      intro k hk d M' hI
      obtain ⟨i1, i2⟩ := hI
      have hh := e_Told_bringTo_29 f (q : Int) ((p0 : Int) - (k : Int)) M'
      rw [if_pos (by omega), r_ck_ok (by omega) (by omega), r_bd_ok (by omega) (by omega), r_bd_ok (by omega) (by omega), r_ck_ok (by omega) (by omega)] at hh
      refine ⟨(), am_up M' 9 (p0 - k) (M' 9 (p0 - k - 1)), ?_, fun a ha => (am_up_ne _ _ _ _ ha).trans (i1 a ha), fun p => ?_⟩
      · refine hh.trans ?_
        rw [show ((p0 : Int) - (k : Int) - 1).toNat = p0 - k - 1 by omega, show ((p0 : Int) - (k : Int)).toNat = p0 - k by omega, show ((p0 : Int) - (k : Int)) + -1 = (p0 : Int) - ((k + 1 : Nat) : Int) by omega]
      by_cases e : p = p0 - k
      · subst e; rw [am_up_at, i2, if_neg (by omega), if_pos (by omega)]
      · rw [am_up_nj _ _ _ _ e, i2]
        by_cases c : p ≤ p0 ∧ p0 < p + k
        · rw [if_pos c, if_pos (by omega)]
        · rw [if_neg c, if_neg (by omega)]) (p0 - q) 0 (by omega) () M ⟨fun _ _ => rfl, fun p => by rw [if_neg (by omega)]⟩
    have e2 : (p0 : Int) - ((p0 - q : Nat) : Int) = (q : Int) := by omega
    simp only [e2] at h1
    refine ⟨am_up M1 9 q f, ?_, ?_, ?_⟩
    · rw [e_Told_bringTo_14, if_neg (by omega)]
      refine Eq.trans ?_ (h1.trans ?_)
      · rw [show (p0 : Int) - ((0 : Nat) : Int) = (p0 : Int) by omega]
      · rw [e_Told_bringTo_29, if_neg (by omega), r_bd_ok (by omega) (by omega), Int.toNat_natCast]
    · intro a ha; rw [am_up_ne _ _ _ _ ha, i1 a ha]
    · intro p hp'
      unfold mvx
      by_cases e : p = q
      · subst e; rw [am_up_at, if_pos rfl, hf]
      · rw [am_up_nj _ _ _ _ e, if_neg e, i2, if_neg (by omega : ¬ (p0 ≤ p ∧ p < q))]
        by_cases c : q < p ∧ p ≤ p0
        · rw [if_pos c, if_pos (by omega)]
        · rw [if_neg c, if_neg (by omega)]
theorem p_move_loops (M : am_M) (f : Int) (n p0 q : Nat) (h8 : n ≤ 8) (hp : p0 < n) (hf : M 73 (74 + p0) = f) (hq : q < n) : ∃ M', cX 83 32 [some (rV 72), some (iV f), some (iV (q : Int)), some (iV (p0 : Int)), some (iV (p0 : Int))] [] M = some ((p0 : Int), M') ∧ (∀ a, a ≠ 73 → M' a = M a) ∧ (∀ j, ¬ (74 ≤ j ∧ j < 74 + n) → M' 73 j = M 73 j) ∧ ∀ p, p < n → M' 73 (74 + p) = M 73 (74 + mvx p0 q p) := by
  by_cases hlt : p0 < q
  · obtain ⟨-, M1, h1, i1, i2⟩ := lp_up (α := Unit) (X := fun k _ M => cX 83 32 [some (rV 72), some (iV f), some (iV (q : Int)), some (iV (p0 : Int)), some (iV ((p0 + k : Nat) : Int))] [] M) (n := q - p0) (I := fun k M' => (∀ a, a ≠ 73 → M' a = M a) ∧ ∀ j, M' 73 j = if 74 + p0 ≤ j ∧ j < 74 + p0 + k then M 73 (j + 1) else M 73 j) (by
      intro k hk d M' hI
      obtain ⟨i1, i2⟩ := hI
      have hh := e_Model_move_32 f (q : Int) (p0 : Int) ((p0 + k : Nat) : Int) M'
      rw [if_pos (by omega), r_ck_ok (by omega) (by omega), r_ck_ok (by omega) (by omega), r_ck_ok (by omega) (by omega), r_bd_ok (by omega) (by omega), r_bd_ok (by omega) (by omega), r_ck_ok (by omega) (by omega)] at hh
      refine ⟨(), _, hh, fun a ha => (am_up_ne _ _ _ _ ha).trans (i1 a ha), fun p => ?_⟩
      rw [show (74 + ((p0 + k : Nat) : Int) + 1).toNat = 74 + p0 + k + 1 by omega, show (74 + ((p0 + k : Nat) : Int)).toNat = 74 + p0 + k by omega]
      by_cases e : p = 74 + p0 + k
      · subst e; rw [am_up_at, i2, if_neg (by omega), if_pos (by omega)]
      · rw [am_up_nj _ _ _ _ e, i2]
        by_cases c : 74 + p0 ≤ p ∧ p < 74 + p0 + k
        · rw [if_pos c, if_pos (by omega)]
        · rw [if_neg c, if_neg (by omega)]) (q - p0) 0 (by omega) () M ⟨fun _ _ => rfl, fun p => by rw [if_neg (by omega)]⟩
    have e2 : p0 + (q - p0) = q := by omega
    simp only [e2, Nat.add_zero] at h1
    refine ⟨am_up M1 73 (74 + q) f, h1.trans ?_, ?_, ?_, ?_⟩
    · rw [e_Model_move_32, if_neg (by omega), e_Model_move_53, if_neg (by omega), r_ck_ok (by omega) (by omega), r_bd_ok (by omega) (by omega), show (74 + (q : Int)).toNat = 74 + q by omega]
    · intro a ha; rw [am_up_ne _ _ _ _ ha, i1 a ha]
    · intro j hj; rw [am_up_nj _ _ _ _ (by omega), i2, if_neg (by omega)]
    · intro p hp'
      unfold mvx
      by_cases e : p = q
      · subst e; rw [am_up_at, if_pos rfl, hf]
      · rw [am_up_nj _ _ _ _ (by omega), if_neg e, i2]
        by_cases c : p0 ≤ p ∧ p < q
        · rw [if_pos c, if_pos (by omega)]; rfl
        · rw [if_neg c, if_neg (by omega), if_neg (by omega)]
  · obtain ⟨-, M1, h1, i1, i2⟩ := lp_up (α := Unit) (X := fun k _ M => cX 83 53 [some (rV 72), some (iV f), some (iV (q : Int)), some (iV (p0 : Int)), some (iV ((p0 : Int) - (k : Int)))] [] M) (n := p0 - q) (I := fun k M' => (∀ a, a ≠ 73 → M' a = M a) ∧ ∀ j, M' 73 j = if j ≤ 74 + p0 ∧ 74 + p0 < j + k then M 73 (j - 1) else M 73 j) (by
      intro k hk d M' hI
      obtain ⟨i1, i2⟩ := hI
      have hh := e_Model_move_53 f (q : Int) (p0 : Int) ((p0 : Int) - (k : Int)) M'
      rw [if_pos (by omega), r_ck_ok (by omega) (by omega), r_ck_ok (by omega) (by omega), r_ck_ok (by omega) (by omega), r_bd_ok (by omega) (by omega), r_bd_ok (by omega) (by omega), r_ck_ok (by omega) (by omega)] at hh
      refine ⟨(), am_up M' 73 (74 + p0 - k) (M' 73 (74 + p0 - k - 1)), ?_, fun a ha => (am_up_ne _ _ _ _ ha).trans (i1 a ha), fun p => ?_⟩
      · refine hh.trans ?_
        rw [show (74 + ((p0 : Int) - (k : Int)) - 1).toNat = 74 + p0 - k - 1 by omega, show (74 + ((p0 : Int) - (k : Int))).toNat = 74 + p0 - k by omega, show ((p0 : Int) - (k : Int)) + -1 = (p0 : Int) - ((k + 1 : Nat) : Int) by omega]
      by_cases e : p = 74 + p0 - k
      · subst e; rw [am_up_at, i2, if_neg (by omega), if_pos (by omega)]
      · rw [am_up_nj _ _ _ _ e, i2]
        by_cases c : p ≤ 74 + p0 ∧ 74 + p0 < p + k
        · rw [if_pos c, if_pos (by omega)]
        · rw [if_neg c, if_neg (by omega)]) (p0 - q) 0 (by omega) () M ⟨fun _ _ => rfl, fun p => by rw [if_neg (by omega)]⟩
    have e2 : (p0 : Int) - ((p0 - q : Nat) : Int) = (q : Int) := by omega
    simp only [e2] at h1
    refine ⟨am_up M1 73 (74 + q) f, ?_, ?_, ?_, ?_⟩
    · rw [e_Model_move_32, if_neg (by omega)]
      refine Eq.trans ?_ (h1.trans ?_)
      · rw [show (p0 : Int) - ((0 : Nat) : Int) = (p0 : Int) by omega]
      · rw [e_Model_move_53, if_neg (by omega), r_ck_ok (by omega) (by omega), r_bd_ok (by omega) (by omega), show (74 + (q : Int)).toNat = 74 + q by omega]
    · intro a ha; rw [am_up_ne _ _ _ _ ha, i1 a ha]
    · intro j hj; rw [am_up_nj _ _ _ _ (by omega), i2, if_neg (by omega)]
    · intro p hp'
      unfold mvx
      by_cases e : p = q
      · subst e; rw [am_up_at, if_pos rfl, hf]
      · rw [am_up_nj _ _ _ _ (by omega), if_neg e, i2, if_neg (by omega : ¬ (p0 ≤ p ∧ p < q))]
        by_cases c : q < p ∧ p ≤ p0
        · rw [if_pos c, if_pos (by omega)]
          congr 1
          omega
        · rw [if_neg c, if_neg (by omega)]
/-- the order alone changed -/
theorem vT_ord {s s' : Nat → Int} (hv : vT s) {n : Nat} (hn : s 1 = (n : Int)) (e : ∀ j, ¬ (74 ≤ j ∧ j < 74 + n) → s' j = s j) (hP : isP n (fun p => s' (74 + p))) : vT s' := by
  obtain ⟨b0, b1, b2, b3, b4, hset, hr, hf, ho, hs, hl', hh⟩ := hv
  have e0 : s' 0 = s 0 := e 0 (by omega)
  have e1 : s' 1 = s 1 := e 1 (by omega)
  refine ⟨by rw [e0]; exact b0, by rw [e1]; exact b1, by rw [e 2 (by omega)]; exact b2, by rw [e 3 (by omega)]; exact b3, by rw [e 4 (by omega)]; exact b4, ?_, ?_, ?_, ?_, ?_, ?_, ?_⟩
  · rw [e 5 (by omega), e 6 (by omega), e 7 (by omega), e 8 (by omega), e 9 (by omega), e 10 (by omega), e 11 (by omega)]; exact hset
  · intro r hr'; rw [e0] at hr'; rw [e _ (by omega), e _ (by omega), e _ (by omega)]; exact hr r hr'
  · intro r hr'; rw [e1] at hr'; rw [e (42 + 4 * r) (by omega), e0, e (43 + 4 * r) (by omega), e (44 + 4 * r) (by omega), e (45 + 4 * r) (by omega)]; exact hf r hr'
  · rw [e1, hn]
    exact ⟨fun p hp => hP.1 p (by omega), fun p q hp hq => hP.2 p q (by omega) (by omega)⟩
  · intro i hi; rw [e 2 (by omega)] at hi; rw [e1, e _ (by omega), e _ (by omega), e _ (by omega)]; exact hs i hi
  · intro i hi; rw [e 3 (by omega)] at hi; rw [e1, e _ (by omega), e _ (by omega), e _ (by omega), e _ (by omega)]; exact hl' i hi
  · intro i hi; rw [e 4 (by omega)] at hi; rw [e _ (by omega), e _ (by omega), e _ (by omega)]; exact hh i hi
theorem cT_ord {s s' : Nat → Int} {M M' : am_M} (hv : vT s) (h : cT s M 0) {n : Nat} (hn : s 1 = (n : Int)) (e : ∀ j, ¬ (74 ≤ j ∧ j < 74 + n) → s' j = s j) (eM : ∀ a, a ≠ 9 → M' a = M a) (eo : ∀ p, p < n → M' 9 p = s' (74 + p)) : cT s' M' 0 := by
  obtain ⟨b0, b1, b2, b3, b4, -⟩ := hv
  obtain ⟨c0, c1, c2, c3, c4, hset, hz, hr, hf, ho, hs, hl', hh⟩ := h
  refine ⟨?_, ?_, ?_, ?_, ?_, ?_, ?_, ?_, ?_, ?_, ?_, ?_, ?_⟩
  · rw [eM 0 (by omega), e 0 (by omega)]; exact c0
  · rw [eM 0 (by omega), e 1 (by omega)]; exact c1
  · rw [eM _ (by omega), e 2 (by omega)]; exact c2
  · rw [eM _ (by omega), e 3 (by omega)]; exact c3
  · rw [eM _ (by omega), e 4 (by omega)]; exact c4
  · intro i hi; rw [eM _ (by omega), e _ (by omega)]; exact hset i hi
  · rw [eM _ (by omega), eM _ (by omega)]; exact hz
  · intro r hr'; rw [e 0 (by omega)] at hr'; rw [eM (0 + 1) (by omega), eM (0 + 2) (by omega), eM (0 + 3) (by omega), e _ (by omega), e _ (by omega), e _ (by omega)]; exact hr r hr'
  · intro r hr'; rw [e 1 (by omega)] at hr'; rw [eM (0 + 5) (by omega), eM (0 + 6) (by omega), eM (0 + 7) (by omega), eM (0 + 8) (by omega), e _ (by omega), e _ (by omega), e _ (by omega), e _ (by omega)]; exact hf r hr'
  · intro r hr'; rw [e 1 (by omega), hn] at hr'; exact eo r (by omega)
  · intro i hi j hj; rw [e 2 (by omega)] at hi; rw [eM (0 + 12) (by omega), e _ (by omega)]; exact hs i hi j hj
  · intro i hi j hj; rw [e 3 (by omega)] at hi; rw [eM (0 + 14) (by omega), e _ (by omega)]; exact hl' i hi j hj
  · intro i hi j hj; rw [e 4 (by omega)] at hi; rw [eM (0 + 16) (by omega), e _ (by omega)]; exact hh i hi j hj
theorem bk0 (tg bf : Int) (T : Nat → Int) (j : Nat) : bk 0 tg bf T j = if 74 ≤ j ∧ ((j - 74 : Nat) : Int) < T 1 then brg (fun p => T (74 + p)) (T 1).toNat tg bf.toNat (j - 74) else T j := rfl
theorem bk0_eq {T : Nat → Int} (hv : vT T) {n : Nat} (hn : T 1 = (n : Int)) {f : Int} {p0 : Nat} (hp : p0 < n) (hf : T (74 + p0) = f) (q j : Nat) : bk 0 f (q : Int) T j = if 74 ≤ j ∧ j < 74 + n then T (74 + mvx p0 q (j - 74)) else T j := by
  have hb := hv.2.1
  rw [bk0, hn]
  by_cases c : 74 ≤ j ∧ j < 74 + n
  · rw [if_pos (by omega), if_pos c, Int.toNat_natCast, Int.toNat_natCast, brg_eq (vT_isP hv hn) hp hf]
  · rw [if_neg (by omega), if_neg c]
theorem o3 : lw_O3 RI := by
  intro a b ha hb M hR hM
  have hR2 : RI (am_up M 72 6 0) := RI_mf (mf_up (mf.rf M) (by omega)) hR
  obtain ⟨r1, r2, r3, r4, r5, r6, r7, r8, r9, r10, r11⟩ := id hR
  have hb1 := r1.2.1
  obtain ⟨n, hn⟩ : ∃ n : Nat, M 73 1 = (n : Int) := ⟨(M 73 1).toNat, by omega⟩
  have e0 : M 0 4 = M 73 1 := r2.2.1
  have e73 : (am_up M 72 6 0) 73 = M 73 := am_up_ne M 72 6 0 (by decide)
  by_cases h : 0 ≤ a ∧ a < M 73 1
  · by_cases hq : 0 ≤ b ∧ b < M 73 1
    · obtain ⟨q, rfl⟩ : ∃ q : Nat, b = (q : Int) := ⟨b.toNat, by omega⟩
      have hP : isP n (fun p => M 73 (74 + p)) := vT_isP r1 hn
      obtain ⟨p0, hp, hf⟩ := isP_sur hP (f := a) (by omega)
      have hf : M 73 (74 + p0) = a := hf
      have e9 : ∀ p, p < n → M 9 p = M 73 (74 + p) := fun p hp => r2.2.2.2.2.2.2.2.2.2.1 p (by omega)
      have hP9 : isP n (M 9) := isP_eq hP e9
      have hf9 : M 9 p0 = a := by rw [e9 p0 hp]; exact hf
      have hpl := p_placeInOrder M a n p0 (by rw [e0, hn]) (by omega) hp hf9 (fun x hx => (isP_plc hP9 hp hf9).2 x (by omega) (by omega))
      obtain ⟨Ma, a1, a2, a3⟩ := p_bringTo M a n p0 q (by rw [e0, hn]) (by omega) hP9 hp hf9 (by omega)
      obtain ⟨M1, g1, g2⟩ := p_keep Ma 0 a (p0 : Int) (by rw [a2 36 (by decide)]; exact r8.2.1.1) (by rw [a2 36 (by decide)]; exact r8.2.1.2)
      have f725 : (am_up M1 72 6 0) 72 5 = M 72 5 := by rw [am_up_nj M1 72 6 0 (by decide), g2.1 72 (by decide) (by decide) (by decide) (by decide), a2 72 (by decide)]
      have f73 : (am_up M1 72 6 0) 73 = M 73 := by rw [am_up_ne M1 72 6 0 (by decide), g2.1 73 (by decide) (by decide) (by decide) (by decide), a2 73 (by decide)]
      have haa := r8.2.1
      rw [r8.1] at haa
      obtain ⟨M3, g3, g4⟩ := p_remembers (am_up M1 72 6 0) (by rw [f725]; exact haa.1) (by rw [f725]; exact haa.2)
      have e3 : M3 73 = M 73 := by rw [g4.1 73 (by decide) (by decide), f73]
      have hpi := p_placeIn M3 a p0 (by omega) (by rw [e3]; exact hf) (fun x hx => by rw [e3]; exact (isP_plc hP hp hf).2 x (by omega) (by omega))
      obtain ⟨M2, l1, l2, l3, l4⟩ := p_move_loops M3 a n p0 q (by omega) hp (by rw [e3]; exact hf) (by omega)
      rw [e3] at l3 l4
      have hP2 : isP n (fun p => M2 73 (74 + p)) := isP_eq (isP_mvx hP hp (q := q) (by omega)) (fun p hp' => l4 p hp')
      have v2 : vT (M2 73) := vT_ord r1 hn l3 hP2
      have hn2 : M2 73 1 = (n : Int) := by rw [l3 1 (by omega)]; exact hn
      refine ⟨(p0 : Int), M1, M2, ?_, ?_, ?_⟩
      · rw [e_Desk_move, p_lacksField, am_cb_s, e0, if_pos h, if_pos rfl, if_neg (by omega), if_pos (by omega), hpl, am_cb_s, a1, am_cb_s, g1, am_cb_s]
      · rw [e_Model_move, p_isField _ _ (by rw [f73]; omega), am_cb_s, f73, if_pos h, if_neg (by decide), r_ck_ok (by omega) (by omega), p_isIn, am_cb_s, if_pos (show 0 ≤ (q : Int) ∧ (q : Int) ≤ M 73 1 - 1 by omega), if_neg (by decide), g3, am_cb_s, hpi, am_cb_s]
        exact l1
      · refine act_g (kd := 0) (tg := a) (bf := (p0 : Int)) hR (fun x hx => a2 x (by omega)) (kT_of (a2 _ (by decide)) (a2 _ (by decide)) (a2 _ (by decide)) r3) g2 g4 l2 v2 ?_ (l3 1 (by omega)) (Or.inl ⟨rfl, by omega, by omega⟩) ?_ (fun j hj => by rw [l3 j (by omega)]; exact r11 j hj)
        · exact cT_ord r1 r2 hn l3 a2 (fun p hp' => by rw [a3 p hp', l4 p hp', e9 _ (mvx_lt hp (by omega) hp')])
        · have hq0 : M2 73 (74 + q) = a := by rw [l4 q (by omega)]; unfold mvx; rw [if_pos rfl]; exact hf
          have hb0 : ∀ j, ¬ (74 ≤ j ∧ j < 74 + n) → M 73 j = bk 0 a (p0 : Int) (M2 73) j := fun j hj => by rw [bk0_eq v2 hn2 (p0 := q) (by omega) hq0, if_neg hj, l3 j hj]
          obtain ⟨c0, c1, c2, c3, c4, -⟩ := id r1
          refine ⟨fun j hj => hb0 j (by omega), fun r hr j hj => hb0 _ (by omega), fun f hf j hj => hb0 _ (by omega), fun p hp' => ?_, fun i hi j hj => hb0 _ (by omega), fun i hi j hj => hb0 _ (by omega), fun i hi j hj => hb0 _ (by omega)⟩
          rw [bk0_eq v2 hn2 (p0 := q) (by omega) hq0, if_pos (by omega), show 74 + p - 74 = p by omega, l4 _ (mvx_lt (by omega) hp (by omega)), mvx_back]
    · refine ⟨-3, M, am_up M 72 6 0, ?_, ?_, hR2⟩
      · rw [e_Desk_move, p_lacksField, am_cb_s, e0, if_pos h, if_pos rfl]
        by_cases q : b < 0
        · rw [if_pos q]
        · rw [if_neg q, if_neg (by omega)]
      · rw [e_Model_move, p_isField _ _ (by rw [e73]; omega), am_cb_s, e73, if_pos h, if_neg (by decide), r_ck_ok (by omega) (by omega), p_isIn, am_cb_s, if_neg (show ¬ (0 ≤ b ∧ b ≤ M 73 1 - 1) by omega), if_pos rfl]
  · refine ⟨-2, M, am_up M 72 6 0, ?_, ?_, hR2⟩
    · rw [e_Desk_move, p_lacksField, am_cb_s, e0, if_neg h, if_neg (by decide)]
    · rw [e_Model_move, p_isField _ _ (by rw [e73]; omega), am_cb_s, e73, if_neg h, if_pos rfl]
