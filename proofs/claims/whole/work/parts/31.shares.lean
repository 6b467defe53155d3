-- shares
def sm (g : Nat → Int) : Nat → Int
  | 0 => 0
  | k + 1 => sm g k + g k
theorem sm_eq {g h : Nat → Int} : ∀ k, (∀ f, f < k → g f = h f) → sm g k = sm h k := by
  intro k
  induction k with
  | zero => intro _; rfl
  | succ k ih =>
    intro hk
    show sm g k + g k = sm h k + h k
    rw [ih (fun f hf => hk f (by omega)), hk k (by omega)]
theorem sm_us (g : Nat → Int) (b : Nat) (v : Int) : ∀ k, sm (us g b v) k = if b < k then sm g k - g b + v else sm g k := by
  intro k
  induction k with
  | zero => rw [if_neg (by omega)]; rfl
  | succ k ih =>
    show sm (us g b v) k + us g b v k = if b < k + 1 then sm g k + g k - g b + v else sm g k + g k
    rw [ih]
    by_cases e : k = b
    · subst e; rw [us_at, if_neg (by omega), if_pos (by omega)]; omega
    · rw [us_ne _ _ _ e]
      by_cases c : b < k
      · rw [if_pos c, if_pos (by omega)]; omega
      · rw [if_neg c, if_neg (by omega)]
def sbz (s o : Nat → Int) (n f : Nat) : Int := nets s o n n * wt s f / wsum s n
def ctz (s o : Nat → Int) (n f : Nat) : Int := nets s o n n * wt s f % wsum s n
def lfs (s o : Nat → Int) (n : Nat) : Nat → Int
  | 0 => nets s o n n
  | k + 1 => lfs s o n k - sbz s o n k
theorem wt_le_sum {s : Nat → Int} (hv : vT s) {n : Nat} (hn : s 1 = (n : Int)) {f : Nat} (hf : f < n) : wt s f ≤ wsum s n := by
  have L : ∀ k, f < k → k ≤ n → wt s f ≤ wsum s k := by
    intro k
    induction k with
    | zero => intro h; omega
    | succ k ih =>
      intro h1 h2
      show wt s f ≤ wsum s k + wt s k
      have h3 := wt_bd hv (f := k) (by omega)
      have h4 := wsum_bd hv k (by omega)
      by_cases e : f = k
      · subst e; omega
      · have := ih (by omega) (by omega); omega
  exact L n hf (by omega)
theorem nw_bd {s o : Nat → Int} (hv : vT s) {n : Nat} (hn : s 1 = (n : Int)) (hP : isP n o) {f : Nat} (hf : f < n) : 0 ≤ nets s o n n * wt s f ∧ nets s o n n * wt s f ≤ 14865120000000 ∧ 0 ≤ sbz s o n f ∧ sbz s o n f ≤ nets s o n n ∧ 0 ≤ ctz s o n f ∧ ctz s o n f < wsum s n ∧ Int.tdiv (nets s o n n * wt s f) (wsum s n) = sbz s o n f ∧ Int.tmod (nets s o n n * wt s f) (wsum s n) = ctz s o n f ∧ nets s o n n * wt s f = wsum s n * sbz s o n f + ctz s o n f := by
  have hb1 := hv.2.1
  have h1 := nets_bd hv hn hP n (by omega)
  have h2 := wt_bd hv (f := f) (by omega)
  have h3 := wsum_bd hv n (by omega)
  have h4 := wt_le_sum hv hn hf
  have q1 : 0 ≤ nets s o n n * wt s f := Int.mul_nonneg (by omega) (by omega)
  have q2 : nets s o n n * wt s f ≤ 14880 * 999000000 := Int.mul_le_mul (by omega) h2.2 (by omega) (by omega)
  have q3 : 0 ≤ sbz s o n f := Int.ediv_nonneg q1 (by omega)
  have q4 : sbz s o n f ≤ nets s o n n := by
    apply Int.ediv_le_of_le_mul (by omega)
    exact Int.mul_le_mul_of_nonneg_left h4 (by omega)
  exact ⟨q1, by omega, q3, q4, Int.emod_nonneg _ (by omega), Int.emod_lt_of_pos _ (by omega), Int.tdiv_eq_ediv_of_nonneg q1, Int.tmod_eq_emod_of_nonneg q1, (Int.mul_ediv_add_emod _ _).symm⟩
theorem lfs_inv {s o : Nat → Int} (hv : vT s) {n : Nat} (hn : s 1 = (n : Int)) (hP : isP n o) : ∀ k, k ≤ n → lfs s o n k = nets s o n n - sm (sbz s o n) k ∧ nets s o n n * wsum s k = wsum s n * sm (sbz s o n) k + sm (ctz s o n) k ∧ 0 ≤ sm (ctz s o n) k ∧ sm (ctz s o n) k ≤ (wsum s n - 1) * (k : Int) ∧ 0 ≤ sm (sbz s o n) k ∧ sm (sbz s o n) k ≤ nets s o n n * (k : Int) := by
  intro k
  induction k with
  | zero =>
    intro _
    have z1 : sm (sbz s o n) 0 = 0 := rfl
    have z2 : sm (ctz s o n) 0 = 0 := rfl
    have z3 : wsum s 0 = 0 := rfl
    have z4 : lfs s o n 0 = nets s o n n := rfl
    rw [z1, z2, z3, z4]
    simp
  | succ k ih =>
    intro hk
    obtain ⟨i1, i2, i3, i4, i5, i6⟩ := ih (by omega)
    obtain ⟨-, -, q3, q4, q5, q6, -, -, q9⟩ := nw_bd hv hn hP (f := k) (by omega)
    have z1 : sm (sbz s o n) (k + 1) = sm (sbz s o n) k + sbz s o n k := rfl
    have z2 : sm (ctz s o n) (k + 1) = sm (ctz s o n) k + ctz s o n k := rfl
    have z3 : wsum s (k + 1) = wsum s k + wt s k := rfl
    have z4 : lfs s o n (k + 1) = lfs s o n k - sbz s o n k := rfl
    rw [z1, z2, z3, z4, Int.mul_add, Int.mul_add, show ((k + 1 : Nat) : Int) = (k : Int) + 1 by omega, Int.mul_add, Int.mul_add, Int.mul_one, Int.mul_one]
    omega
theorem lfs_end {s o : Nat → Int} (hv : vT s) {n : Nat} (hn : s 1 = (n : Int)) (hP : isP n o) (h1 : 1 ≤ n) : 0 ≤ lfs s o n n ∧ lfs s o n n < (n : Int) := by
  obtain ⟨i1, i2, i3, i4, -⟩ := lfs_inv hv hn hP n (by omega)
  have hw := wsum_bd hv n (by omega)
  have e : wsum s n * lfs s o n n = sm (ctz s o n) n := by
    rw [i1, Int.mul_sub, Int.mul_comm (wsum s n) (nets s o n n)]
    omega
  constructor
  · rcases Int.lt_or_le (lfs s o n n) 0 with q | q
    · have : wsum s n * lfs s o n n < 0 := Int.mul_neg_of_pos_of_neg (by omega) q
      omega
    · exact q
  · rcases Int.lt_or_le (lfs s o n n) (n : Int) with q | q
    · exact q
    · have h2 : wsum s n * (n : Int) ≤ wsum s n * lfs s o n n := Int.mul_le_mul_of_nonneg_left q (by omega)
      rw [Int.sub_mul, Int.one_mul] at i4
      omega
/-- the place's field with the greatest cut, the first of them -/
def bst (o cu : Nat → Int) : Nat → Int
  | 0 => o 0
  | k + 1 => if cu (bst o cu k).toNat < cu (o (k + 1)).toNat then o (k + 1) else bst o cu k
theorem bst_bd {n : Nat} {o cu : Nat → Int} (hP : isP n o) : ∀ k, k < n → 0 ≤ bst o cu k ∧ bst o cu k < (n : Int) := by
  intro k
  induction k with
  | zero => intro h; exact hP.1 0 h
  | succ k ih =>
    intro h
    have h1 := ih (by omega)
    have h2 := hP.1 (k + 1) h
    show 0 ≤ (if cu (bst o cu k).toNat < cu (o (k + 1)).toNat then o (k + 1) else bst o cu k) ∧ (if cu (bst o cu k).toNat < cu (o (k + 1)).toNat then o (k + 1) else bst o cu k) < (n : Int)
    split
    · exact h2
    · exact h1
def gvn (o : Nat → Int) (n : Nat) (sh cu : Nat → Int) : Nat → (Nat → Int) × (Nat → Int)
  | 0 => (sh, cu)
  | k + 1 => (us (gvn o n sh cu k).1 (bst o (gvn o n sh cu k).2 (n - 1)).toNat ((gvn o n sh cu k).1 (bst o (gvn o n sh cu k).2 (n - 1)).toNat + 1), us (gvn o n sh cu k).2 (bst o (gvn o n sh cu k).2 (n - 1)).toNat (-1))
theorem gvn_bd {n : Nat} {o sh cu : Nat → Int} (B : Int) (h : ∀ f, f < n → 0 ≤ sh f ∧ sh f ≤ B) : ∀ k f, f < n → 0 ≤ (gvn o n sh cu k).1 f ∧ (gvn o n sh cu k).1 f ≤ B + (k : Int) := by
  intro k
  induction k with
  | zero => intro f hf; have := h f hf; show 0 ≤ sh f ∧ sh f ≤ B + 0; omega
  | succ k ih =>
    intro f hf
    show 0 ≤ us (gvn o n sh cu k).1 _ _ f ∧ us (gvn o n sh cu k).1 _ _ f ≤ _
    have h1 := ih f hf
    by_cases e : f = (bst o (gvn o n sh cu k).2 (n - 1)).toNat
    · rw [← e, us_at]; omega
    · rw [us_ne _ _ _ e]; omega
theorem gvn_sm {n : Nat} {o sh cu : Nat → Int} (hP : isP n o) (h1 : 1 ≤ n) : ∀ k : Nat, sm (gvn o n sh cu k).1 n = sm sh n + (k : Int) := by
  intro k
  induction k with
  | zero => show sm sh n = sm sh n + 0; omega
  | succ k ih =>
    show sm (us (gvn o n sh cu k).1 _ _) n = _
    have hb := bst_bd (cu := (gvn o n sh cu k).2) hP (n - 1) (by omega)
    rw [sm_us, if_pos (by omega), ih]
    omega
/-- the shares of a roster -/
def shr (s o : Nat → Int) (n f : Nat) : Int := (gvn o n (sbz s o n) (ctz s o n) (lfs s o n n).toNat).1 f
theorem shr_bd {s o : Nat → Int} (hv : vT s) {n : Nat} (hn : s 1 = (n : Int)) (hP : isP n o) {f : Nat} (hf : f < n) : 0 ≤ shr s o n f ∧ shr s o n f ≤ 15000 := by
  have hb1 := hv.2.1
  have h1 := nets_bd hv hn hP n (by omega)
  have h2 := lfs_end hv hn hP (by omega)
  have h3 := gvn_bd (o := o) (cu := ctz s o n) (nets s o n n) (fun f hf => ⟨(nw_bd hv hn hP (f := f) hf).2.2.1, (nw_bd hv hn hP (f := f) hf).2.2.2.1⟩) (lfs s o n n).toNat f hf
  unfold shr
  omega
theorem shr_sm {s o : Nat → Int} (hv : vT s) {n : Nat} (hn : s 1 = (n : Int)) (hP : isP n o) (h1 : 1 ≤ n) : sm (shr s o n) n = nets s o n n := by
  have h2 := lfs_end hv hn hP h1
  have h3 := gvn_sm (sh := sbz s o n) (cu := ctz s o n) hP h1 (lfs s o n n).toNat
  have h4 := (lfs_inv hv hn hP n (by omega)).1
  show sm (gvn o n (sbz s o n) (ctz s o n) (lfs s o n n).toNat).1 n = _
  rw [h3]
  omega
theorem p_giveOneMore (M : am_M) (o sh cu : Nat → Int) (n : Nat) (hn : M 0 4 = (n : Int)) (h8 : n ≤ 8) (h1 : 1 ≤ n) (ho : ∀ p, p < n → M 47 p = o p) (hP : isP n o) (hs : ∀ f, f < n → M 50 f = sh f ∧ 0 ≤ sh f ∧ sh f ≤ 100000) (hc : ∀ f, f < n → M 51 f = cu f) : ∃ M', cY 262 [rV 46] M = some (0, M') ∧ (∀ a, a ≠ 50 → a ≠ 51 → M' a = M a) ∧ (∀ f, f < n → M' 50 f = us sh (bst o cu (n - 1)).toNat (sh (bst o cu (n - 1)).toNat + 1) f) ∧ ∀ f, f < n → M' 51 f = us cu (bst o cu (n - 1)).toNat (-1) f := by
  have hb := bst_bd (cu := cu) hP (n - 1) (by omega)
  obtain ⟨b, hbb⟩ : ∃ b : Nat, bst o cu (n - 1) = (b : Int) := ⟨(bst o cu (n - 1)).toNat, by omega⟩
  have hsb := hs b (by omega)
  refine ⟨am_up (am_up M 50 b (sh b + 1)) 51 b (-1), ?_, fun a x1 x2 => by rw [am_up_ne _ _ _ _ x2, am_up_ne _ _ _ _ x1], fun f hf => ?_, fun f hf => ?_⟩
  · have L : ∀ (j k : Nat) (d : Option am_V), k + j = n - 1 → cX 262 4 [some (rV 46), some (iV (bst o cu k)), some (iV ((k + 1 : Nat) : Int)), d] [] M = some (0, am_up (am_up M 50 b (sh b + 1)) 51 b (-1)) := by
      intro j
      induction j with
      | zero =>
        intro k d hk
        have e : k = n - 1 := by omega
        subst e
        rw [e_WeekPlan_giveOneMore_4, hn, if_neg (by omega), hbb, if_neg (by omega), r_bd_ok (by omega) (by omega), Int.toNat_natCast, hsb.1, r_ck_ok (by omega) (by omega), r_bd_ok (by omega) (by omega), r_bd_ok (by omega) (by omega)]
      | succ j ih =>
        intro k d hk
        have hk1 := bst_bd (cu := cu) hP k (by omega)
        have hk2 := hP.1 (k + 1) (by omega)
        have hi := ih (k + 1) (some (iV (o (k + 1)))) (by omega)
        rw [e_WeekPlan_giveOneMore_4, hn, if_pos (by omega), r_bd_ok (by omega) (by omega), if_neg (by omega), Int.toNat_natCast, ho (k + 1) (by omega), r_bd_ok (by omega) (by omega), r_bd_ok (by omega) (by omega), hc _ (by omega), hc _ (by omega)]
        have eb : bst o cu (k + 1) = if cu (bst o cu k).toNat < cu (o (k + 1)).toNat then o (k + 1) else bst o cu k := rfl
        rw [eb] at hi
        by_cases q : cu (bst o cu k).toNat < cu (o (k + 1)).toNat
        · rw [if_pos q] at hi
          rw [if_neg (by omega), if_neg (by omega), r_ck_ok (by omega) (by omega)]
          exact hi
        · rw [if_neg q] at hi
          by_cases q2 : cu (o (k + 1)).toNat < cu (bst o cu k).toNat
          · rw [if_pos q2, r_ck_ok (by omega) (by omega)]
            exact hi
          · rw [if_neg q2, if_pos (by omega), r_ck_ok (by omega) (by omega)]
            exact hi
    have h0 := L (n - 1) 0 (some (iV (o 0))) (by omega)
    rw [e_WeekPlan_giveOneMore, e_WeekPlan_giveOneMore_4, hn, if_pos (by omega), r_bd_ok (by omega) (by omega), if_pos rfl, r_ck_ok (by omega) (by omega)]
    rw [show M 47 (Int.toNat 0) = o 0 from ho 0 (by omega)]
    exact h0
  · rw [hbb, Int.toNat_natCast, am_up_ne _ _ _ _ (by decide)]
    by_cases e : f = b
    · subst e; rw [am_up_at, us_at]
    · rw [am_up_nj _ _ _ _ e, us_ne _ _ _ e, (hs f hf).1]
  · rw [hbb, Int.toNat_natCast]
    by_cases e : f = b
    · subst e; rw [am_up_at, us_at]
    · rw [am_up_nj _ _ _ _ e, us_ne _ _ _ e, am_up_ne _ _ _ _ (by decide), hc f hf]
theorem p_shareOut (M : am_M) (s o : Nat → Int) (n : Nat) (hv : vT s) (hn : s 1 = (n : Int)) (hc : M 0 4 = (n : Int)) (hCN : CN s M) (ho : ∀ p, p < n → M 47 p = o p) (hP : isP n o) (hnet : M 46 13 = nets s o n n) : ∃ M', cY 261 [rV 46] M = some (0, M') ∧ (∀ a, a ≠ 50 → a ≠ 51 → M' a = M a) ∧ ∀ f, f < n → M' 50 f = shr s o n f := by
  have hb1 := hv.2.1
  have hw := wsum_bd hv n (by omega)
  have e403 : M 40 3 = wsum s n := by rw [hCN.2.2, hn, Int.toNat_natCast]
  rw [e_WeekPlan_shareOut, e403]
  by_cases h0 : n = 0
  · subst h0
    refine ⟨M, by rw [if_neg (by omega), if_pos (by omega)], fun _ _ _ => rfl, fun f hf => by omega⟩
  · have hle := lfs_end hv hn hP (by omega)
    have hnb := nets_bd hv hn hP n (by omega)
    rw [if_neg (by omega), if_neg (by omega), hnet]
    obtain ⟨⟨d2, d5, d6⟩, M1, h1, i1, i2⟩ := lp_up (α := Option am_V × Option am_V × Option am_V) (X := fun k d M => cX 261 14 [some (rV 46), some (lV (wsum s n)), d.1, some (iV (lfs s o n k)), some (iV (k : Int)), d.2.1, d.2.2] [] M) (n := n) (I := fun k M' => (∀ a, a ≠ 50 → a ≠ 51 → M' a = M a) ∧ ∀ f, f < k → M' 50 f = sbz s o n f ∧ M' 51 f = ctz s o n f) (by
      intro k hk d M' hI
      obtain ⟨i1, i2⟩ := hI
      obtain ⟨q1, q2, q3, q4, q5, q6, q7, q8, q9⟩ := nw_bd hv hn hP (f := k) hk
      have hh := e_WeekPlan_shareOut_14 (wsum s n) (lfs s o n k) (k : Int) d.1 d.2.1 d.2.2 M'
      obtain ⟨l1, l2, l3, l4, l5, l6⟩ := lfs_inv hv hn hP k (by omega)
      have l7 : nets s o n n * (k : Int) ≤ 14880 * 8 := Int.mul_le_mul (by omega) (by omega) (by omega) (by omega)
      have el : lfs s o n (k + 1) = lfs s o n k - sbz s o n k := rfl
      rw [i1 0 (by decide) (by decide), hc, if_pos (by omega), r_bd_ok (by omega) (by omega), Int.toNat_natCast, i1 46 (by decide) (by decide), hnet, i1 42 (by decide) (by decide), hCN.2.1 k (by omega), q7, q8, r_cl_ok (by omega) (by omega), if_neg (by omega), r_cl_ok (by omega) (by omega), r_bd_ok (by omega) (by omega), if_neg (by omega), r_cl_ok (by omega) (by omega), r_bd_ok (by omega) (by omega), r_bd_ok (by omega) (by omega), b_l2i ⟨by omega, by omega⟩, am_up_at, r_ck_ok (by omega) (by omega), r_ck_ok (by omega) (by omega), ← el] at hh
      refine ⟨(none, _, none), _, hh, fun a x1 x2 => by rw [am_up_ne _ _ _ _ x2, am_up_ne _ _ _ _ x1, i1 a x1 x2], fun f hf => ?_⟩
      rw [am_up_ne _ _ _ _ (show 50 ≠ 51 by decide)]
      by_cases e : f = k
      · subst e; rw [am_up_at, am_up_at]; exact ⟨rfl, rfl⟩
      · rw [am_up_nj _ _ _ _ e, am_up_nj _ _ _ _ e, am_up_ne _ _ _ _ (by decide)]; exact i2 f (by omega)) n 0 (by omega) (none, none, none) M ⟨fun _ _ _ => rfl, fun f hf => by omega⟩
    obtain ⟨L, hL⟩ : ∃ L : Nat, lfs s o n n = (L : Int) := ⟨(lfs s o n n).toNat, by omega⟩
    obtain ⟨⟨c1, c2, c5, c6⟩, M2, h2, j1, j2⟩ := lp_up (α := Option am_V × Option am_V × Option am_V × Option am_V) (X := fun k d M => cX 261 56 [some (rV 46), d.1, d.2.1, some (iV (L : Int)), some (iV (k : Int)), d.2.2.1, d.2.2.2] [] M) (n := L) (I := fun k M' => (∀ a, a ≠ 50 → a ≠ 51 → M' a = M a) ∧ ∀ f, f < n → M' 50 f = (gvn o n (sbz s o n) (ctz s o n) k).1 f ∧ M' 51 f = (gvn o n (sbz s o n) (ctz s o n) k).2 f) (by
      intro k hk d M' hI
      obtain ⟨j1, j2⟩ := hI
      have hh := e_WeekPlan_shareOut_56 (L : Int) (k : Int) d.1 d.2.1 d.2.2.1 d.2.2.2 M'
      have hgb := gvn_bd (o := o) (cu := ctz s o n) (nets s o n n) (fun f hf => ⟨(nw_bd hv hn hP (f := f) hf).2.2.1, (nw_bd hv hn hP (f := f) hf).2.2.2.1⟩) k
      obtain ⟨M3, g1, g2, g3, g4⟩ := p_giveOneMore M' o (gvn o n (sbz s o n) (ctz s o n) k).1 (gvn o n (sbz s o n) (ctz s o n) k).2 n (by rw [j1 0 (by decide) (by decide)]; exact hc) (by omega) (by omega) (fun p hp => by rw [j1 47 (by decide) (by decide)]; exact ho p hp) hP (fun f hf => ⟨(j2 f hf).1, (hgb f hf).1, by have := (hgb f hf).2; omega⟩) (fun f hf => (j2 f hf).2)
      rw [if_pos (by omega), j1 0 (by decide) (by decide), hc, if_pos (by omega), g1, am_cb_s, r_ck_ok (by omega) (by omega)] at hh
      exact ⟨(none, none, none, none), M3, hh, fun a x1 x2 => by rw [g2 a x1 x2, j1 a x1 x2], fun f hf => ⟨g3 f hf, g4 f hf⟩⟩) L 0 (by omega) (some (lV (wsum s n)), none, none, none) M1 ⟨i1, i2⟩
    refine ⟨M2, ?_, j1, fun f hf => ?_⟩
    · refine h1.trans ?_
      rw [e_WeekPlan_shareOut_14, i1 0 (by decide) (by decide), hc, if_neg (by omega), hL]
      refine h2.trans ?_
      rw [e_WeekPlan_shareOut_56, if_neg (by omega)]
    · rw [(j2 f hf).1]
      unfold shr
      rw [hL, Int.toNat_natCast]
theorem p_laysShares (M : am_M) (o : Nat → Int) (n : Nat) (hv : vT (M 73)) (hn : M 73 1 = (n : Int)) (h1n : 1 ≤ n) (ho : ∀ p, p < n → M 79 p = o p) (hP : isP n o) (hnet : M 72 23 = nets (M 73) o n n) : ∃ M', cY 107 [rV 72] M = some (0, M') ∧ (∀ a, a ≠ 83 → a ≠ 87 → M' a = M a) ∧ ∀ f, f < n → M' 83 f = shr (M 73) o n f := by
  have hb1 := hv.2.1
  have hw := wsum_bd hv n (by omega)
  have hle := lfs_end hv hn hP h1n
  have hnb := nets_bd hv hn hP n (by omega)
  -- the sum of weights
  have L0 : ∀ (j k : Nat) (d2 d4 d5 d6 : Option am_V), k + j = n → cX 107 4 [some (rV 72), some (lV (wsum (M 73) k)), d2, some (iV (k : Int)), d4, d5, d6] [] M = cX 107 23 [some (rV 72), some (lV (wsum (M 73) n)), none, some (iV (M 72 23)), some (iV 0), none, none] [] M := by
    intro j
    induction j with
    | zero => intro k d2 d4 d5 d6 hk
              have e : k = n := by omega
              subst e; rw [e_Model_laysShares_4, hn, if_neg (by omega)]
    | succ j ih =>
      intro k d2 d4 d5 d6 hk
      have h2 := wt_bd hv (f := k) (by omega)
      have h3 := wsum_bd hv k (by omega)
      rw [e_Model_laysShares_4, hn, if_pos (by omega), p_weightOf M hv k (by omega), am_cb_s, r_cl_ok (by omega) (by omega), r_ck_ok (by omega) (by omega)]
      exact ih (k + 1) none none none none (by omega)
  obtain ⟨⟨d2, d5, d6⟩, M1, h1, i1, i2⟩ := lp_up (α := Option am_V × Option am_V × Option am_V) (X := fun k d M' => cX 107 23 [some (rV 72), some (lV (wsum (M 73) n)), d.1, some (iV (lfs (M 73) o n k)), some (iV (k : Int)), d.2.1, d.2.2] [] M') (n := n) (I := fun k M' => (∀ a, a ≠ 83 → a ≠ 87 → M' a = M a) ∧ ∀ f, f < k → M' 83 f = sbz (M 73) o n f ∧ M' 87 f = ctz (M 73) o n f) (by
    intro k hk d M' hI
    obtain ⟨i1, i2⟩ := hI
    obtain ⟨q1, q2, q3, q4, q5, q6, q7, q8, q9⟩ := nw_bd hv hn hP (f := k) hk
    have e73 : M' 73 = M 73 := i1 73 (by decide) (by decide)
    have hh := e_Model_laysShares_23 (wsum (M 73) n) (lfs (M 73) o n k) (k : Int) d.1 d.2.1 d.2.2 M'
    obtain ⟨l1, l2, l3, l4, l5, l6⟩ := lfs_inv hv hn hP k (by omega)
    have l7 : nets (M 73) o n n * (k : Int) ≤ 14880 * 8 := Int.mul_le_mul (by omega) (by omega) (by omega) (by omega)
    have el : lfs (M 73) o n (k + 1) = lfs (M 73) o n k - sbz (M 73) o n k := rfl
    have hwt := p_weightOf M' (by rw [e73]; exact hv) k (by rw [e73]; omega)
    rw [e73] at hwt
    rw [e73, hn, if_pos (by omega), hwt, am_cb_s, i1 72 (by decide) (by decide), hnet, q7, q8, r_cl_ok (by omega) (by omega), if_neg (by omega), r_cl_ok (by omega) (by omega), r_bd_ok (by omega) (by omega), if_neg (by omega), r_cl_ok (by omega) (by omega), r_bd_ok (by omega) (by omega), r_bd_ok (by omega) (by omega), Int.toNat_natCast, b_l2i ⟨by omega, by omega⟩, am_up_at, r_ck_ok (by omega) (by omega), r_ck_ok (by omega) (by omega), ← el] at hh
    refine ⟨(none, _, none), _, hh, fun a x1 x2 => by rw [am_up_ne _ _ _ _ x2, am_up_ne _ _ _ _ x1, i1 a x1 x2], fun f hf => ?_⟩
    rw [am_up_ne _ _ _ _ (show 83 ≠ 87 by decide)]
    by_cases e : f = k
    · subst e; rw [am_up_at, am_up_at]; exact ⟨rfl, rfl⟩
    · rw [am_up_nj _ _ _ _ e, am_up_nj _ _ _ _ e, am_up_ne _ _ _ _ (by decide)]; exact i2 f (by omega)) n 0 (by omega) (none, none, none) M ⟨fun _ _ _ => rfl, fun f hf => by omega⟩
  obtain ⟨L, hL⟩ : ∃ L : Nat, lfs (M 73) o n n = (L : Int) := ⟨(lfs (M 73) o n n).toNat, by omega⟩
  obtain ⟨⟨c1, c2, c4, c5, c6⟩, M2, h2, j1, j2⟩ := lp_up (α := Option am_V × Option am_V × Option am_V × Option am_V × Option am_V) (X := fun k d M' => cX 107 61 [some (rV 72), d.1, d.2.1, some (iV ((L : Int) - (k : Int))), d.2.2.1, d.2.2.2.1, d.2.2.2.2] [] M') (n := L) (I := fun k M' => (∀ a, a ≠ 83 → a ≠ 87 → M' a = M a) ∧ ∀ f, f < n → M' 83 f = (gvn o n (sbz (M 73) o n) (ctz (M 73) o n) k).1 f ∧ M' 87 f = (gvn o n (sbz (M 73) o n) (ctz (M 73) o n) k).2 f) (by
    intro k hk d M' hI
    obtain ⟨j1, j2⟩ := hI
    have e73 : M' 73 = M 73 := j1 73 (by decide) (by decide)
    have hgb := gvn_bd (o := o) (cu := ctz (M 73) o n) (nets (M 73) o n n) (fun f hf => ⟨(nw_bd hv hn hP (f := f) hf).2.2.1, (nw_bd hv hn hP (f := f) hf).2.2.2.1⟩) k
    have eg1 : (gvn o n (sbz (M 73) o n) (ctz (M 73) o n) (k + 1)).1 = us (gvn o n (sbz (M 73) o n) (ctz (M 73) o n) k).1 (bst o (gvn o n (sbz (M 73) o n) (ctz (M 73) o n) k).2 (n - 1)).toNat ((gvn o n (sbz (M 73) o n) (ctz (M 73) o n) k).1 (bst o (gvn o n (sbz (M 73) o n) (ctz (M 73) o n) k).2 (n - 1)).toNat + 1) := rfl
    have eg2 : (gvn o n (sbz (M 73) o n) (ctz (M 73) o n) (k + 1)).2 = us (gvn o n (sbz (M 73) o n) (ctz (M 73) o n) k).2 (bst o (gvn o n (sbz (M 73) o n) (ctz (M 73) o n) k).2 (n - 1)).toNat (-1) := rfl
    rw [eg1, eg2]
    generalize hsh : (gvn o n (sbz (M 73) o n) (ctz (M 73) o n) k).1 = sh at j2 hgb
    generalize hcu : (gvn o n (sbz (M 73) o n) (ctz (M 73) o n) k).2 = cu at j2
    have hb := bst_bd (cu := cu) hP (n - 1) (by omega)
    obtain ⟨b, hbb⟩ : ∃ b : Nat, bst o cu (n - 1) = (b : Int) := ⟨(bst o cu (n - 1)).toNat, by omega⟩
    have hsb := hgb b (by omega)
    have o79 : ∀ p, p < n → M' 79 p = o p := fun p hp => by rw [j1 79 (by decide) (by decide)]; exact ho p hp
    have Lq : ∀ (j i : Nat) (a1 a2 a6 : Option am_V), i + j = n - 1 → ∃ d' : Option am_V × Option am_V × Option am_V × Option am_V × Option am_V, cX 107 70 [some (rV 72), a1, a2, some (iV ((L : Int) - (k : Int))), some (iV (bst o cu i)), some (iV ((i + 1 : Nat) : Int)), a6] [] M' = cX 107 61 [some (rV 72), d'.1, d'.2.1, some (iV ((L : Int) - ((k + 1 : Nat) : Int))), d'.2.2.1, d'.2.2.2.1, d'.2.2.2.2] [] (am_up (am_up M' 83 b (sh b + 1)) 87 b (-1)) := by
      intro j
      induction j with
      | zero =>
        intro i a1 a2 a6 hi
        have e : i = n - 1 := by omega
        subst e
        refine ⟨(none, none, some (iV (b : Int)), some (iV ((n - 1 + 1 : Nat) : Int)), none), ?_⟩
        rw [e_Model_laysShares_70, e73, hn, if_neg (by omega), hbb, r_bd_ok (by omega) (by omega), Int.toNat_natCast, (j2 b (by omega)).1, r_ck_ok (by omega) (by omega), r_bd_ok (by omega) (by omega), r_bd_ok (by omega) (by omega), r_ck_ok (by omega) (by omega), show (L : Int) - (k : Int) + -1 = (L : Int) - ((k + 1 : Nat) : Int) by omega]
      | succ j ih =>
        intro i a1 a2 a6 hi
        have hk1 := bst_bd (cu := cu) hP i (by omega)
        have hk2 := hP.1 (i + 1) (by omega)
        obtain ⟨d', hd⟩ := ih (i + 1) none none none (by omega)
        refine ⟨d', ?_⟩
        have eb : bst o cu (i + 1) = if cu (bst o cu i).toNat < cu (o (i + 1)).toNat then o (i + 1) else bst o cu i := rfl
        rw [eb] at hd
        rw [e_Model_laysShares_70, e73, hn, if_pos (by omega), r_bd_ok (by omega) (by omega), Int.toNat_natCast, o79 (i + 1) (by omega), r_bd_ok (by omega) (by omega), r_bd_ok (by omega) (by omega), (j2 _ (by omega)).2, (j2 _ (by omega)).2]
        by_cases q : cu (bst o cu i).toNat < cu (o (i + 1)).toNat
        · rw [if_pos q] at hd
          rw [if_neg (by omega), if_neg (by omega), r_bd_ok (by omega) (by omega), r_ck_ok (by omega) (by omega)]
          exact hd
        · rw [if_neg q] at hd
          by_cases q2 : cu (o (i + 1)).toNat < cu (bst o cu i).toNat
          · rw [if_pos q2, r_ck_ok (by omega) (by omega)]
            exact hd
          · rw [if_neg q2, if_pos (by omega), r_ck_ok (by omega) (by omega)]
            exact hd
    have hh := e_Model_laysShares_61 ((L : Int) - (k : Int)) d.1 d.2.1 d.2.2.1 d.2.2.2.1 d.2.2.2.2 M'
    rw [if_pos (by omega), o79 0 (by omega)] at hh
    obtain ⟨d', hd⟩ := Lq (n - 1) 0 none none none (by omega)
    refine ⟨d', _, hh.trans hd, fun a x1 x2 => by rw [am_up_ne _ _ _ _ x2, am_up_ne _ _ _ _ x1, j1 a x1 x2], fun f hf => ?_⟩
    rw [hbb, Int.toNat_natCast, am_up_ne _ _ _ _ (show 83 ≠ 87 by decide)]
    by_cases e : f = b
    · subst e; rw [am_up_at, am_up_at, us_at, us_at]; exact ⟨rfl, rfl⟩
    · rw [am_up_nj _ _ _ _ e, am_up_nj _ _ _ _ e, us_ne _ _ _ e, us_ne _ _ _ e, am_up_ne _ _ _ _ (by decide)]; exact j2 f hf) L 0 (by omega) (some (lV (wsum (M 73) n)), none, some (iV (n : Int)), none, none) M1 ⟨i1, i2⟩
  refine ⟨M2, ?_, j1, fun f hf => ?_⟩
  · rw [e_Model_laysShares]
    refine (L0 n 0 none none none none (by omega)).trans ?_
    rw [hnet]
    refine h1.trans ?_
    rw [e_Model_laysShares_23, i1 73 (by decide) (by decide), hn, if_neg (by omega), hL]
    have h2 : cX 107 61 [some (rV 72), some (lV (wsum (M 73) n)), none, some (iV ((L : Int) - ((0 : Nat) : Int))), some (iV (n : Int)), none, none] [] M1 = _ := h2
    rw [show (L : Int) - ((0 : Nat) : Int) = (L : Int) by omega] at h2
    refine h2.trans ?_
    rw [e_Model_laysShares_61, if_neg (by omega)]
  · rw [(j2 f hf).1]
    unfold shr
    rw [hL, Int.toNat_natCast]
