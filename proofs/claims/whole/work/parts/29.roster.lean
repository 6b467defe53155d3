-- the roster of a week
def tby (s : Nat → Int) (w : Nat) : Nat := w / (s 9).toNat * (s 10).toNat
def rk0 (s : Nat → Int) (n w : Nat) : Nat → Int := fun p => s (74 + (p + tby s w) % n)
def swp (o : Nat → Int) (a b : Int) : Nat → Int := fun p => if o p = a then b else if o p = b then a else o p
def rkk (s : Nat → Int) (n w : Nat) : Nat → Nat → Int
  | 0 => rk0 s n w
  | k + 1 => if s (82 + 3 * k) = (w : Int) then swp (rkk s n w k) (s (83 + 3 * k)) (s (84 + 3 * k)) else rkk s n w k
def rst (s : Nat → Int) (w : Nat) : Nat → Int := rkk s (s 1).toNat w (s 2).toNat
theorem add_mod_n {p t n : Nat} (h : p < n) : (p + t) % n = if p + t % n < n then p + t % n else p + t % n - n := by
  have ht : t % n < n := Nat.mod_lt _ (by omega)
  have e : (p + t) % n = (p + t % n) % n := by rw [Nat.add_mod, Nat.mod_eq_of_lt h]
  rw [e]
  split
  · rename_i q; exact Nat.mod_eq_of_lt q
  · rw [Nat.mod_eq_sub_mod (by omega), Nat.mod_eq_of_lt (by omega)]
theorem isP_rk0 {s : Nat → Int} (hv : vT s) {n : Nat} (hn : s 1 = (n : Int)) (w : Nat) : isP n (rk0 s n w) := by
  have hP := vT_isP hv hn
  constructor
  · intro p hp
    exact hP.1 _ (Nat.mod_lt _ (by omega))
  · intro p q hp hq h
    have h2 := hP.2 _ _ (Nat.mod_lt (p + tby s w) (by omega)) (Nat.mod_lt (q + tby s w) (by omega)) h
    have ht : tby s w % n < n := Nat.mod_lt _ (by omega)
    rw [add_mod_n hp, add_mod_n hq] at h2
    split at h2 <;> split at h2 <;> omega
theorem isP_swp {n : Nat} {o : Nat → Int} (h : isP n o) {a b : Int} (ha : 0 ≤ a ∧ a < (n : Int)) (hb : 0 ≤ b ∧ b < (n : Int)) : isP n (swp o a b) := by
  constructor
  · intro p hp
    have := h.1 p hp
    unfold swp
    split
    · exact hb
    · split
      · exact ha
      · exact this
  · intro p q hp hq e
    apply h.2 p q hp hq
    unfold swp at e
    split at e <;> split at e <;> (try split at e) <;> (try split at e) <;> omega
theorem isP_rkk {s : Nat → Int} (hv : vT s) {n : Nat} (hn : s 1 = (n : Int)) (w : Nat) : ∀ k : Nat, (k : Int) ≤ s 2 → isP n (rkk s n w k) := by
  intro k
  induction k with
  | zero => intro _; exact isP_rk0 hv hn w
  | succ k ih =>
    intro hk
    have h := hv.2.2.2.2.2.2.2.2.2.1 k (by omega)
    show isP n (if s (82 + 3 * k) = (w : Int) then swp (rkk s n w k) (s (83 + 3 * k)) (s (84 + 3 * k)) else rkk s n w k)
    split
    · exact isP_swp (ih (by omega)) (by omega) (by omega)
    · exact ih (by omega)
theorem isP_rst {s : Nat → Int} (hv : vT s) {n : Nat} (hn : s 1 = (n : Int)) (w : Nat) : isP n (rst s w) := by
  have hb := hv.2.2.1
  unfold rst
  rw [hn, Int.toNat_natCast]
  exact isP_rkk hv hn w _ (by omega)
theorem tby_bd {s : Nat → Int} (hv : vT s) {w : Nat} (hw : w ≤ 51) : tby s w ≤ 357 := by
  have h9 := hv.2.2.2.2.2.1.2.2.2.2.1
  have h10 := hv.2.2.2.2.2.1.2.2.2.2.2.1
  unfold tby
  have h1 : w / (s 9).toNat ≤ 51 := Nat.le_trans (Nat.div_le_self _ _) hw
  have h2 : w / (s 9).toNat * (s 10).toNat ≤ 51 * 7 := Nat.mul_le_mul h1 (by omega)
  omega
/-- w / every * by, as the programs reckon it -/
theorem tby_int {s : Nat → Int} (hv : vT s) (w : Nat) : Int.tdiv (w : Int) (s 9) * s 10 = (tby s w : Int) := by
  have h9 := hv.2.2.2.2.2.1.2.2.2.2.1
  have h10 := hv.2.2.2.2.2.1.2.2.2.2.2.1
  obtain ⟨e, he⟩ : ∃ e : Nat, s 9 = (e : Int) := ⟨(s 9).toNat, by omega⟩
  obtain ⟨b, hb⟩ : ∃ b : Nat, s 10 = (b : Int) := ⟨(s 10).toNat, by omega⟩
  unfold tby
  rw [he, hb, Int.toNat_natCast, Int.toNat_natCast, Int.tdiv_eq_ediv_of_nonneg (by omega)]
  rfl
theorem p_turnedBy (M : am_M) (s : Nat → Int) (w n : Nat) (hv : vT s) (hL : cL s M) (hn : s 1 = (n : Int)) (hw : w ≤ 51) : cY 256 [rV 46, iV (w : Int), iV (s 10)] M = some (((tby s w % n : Nat) : Int), M) ∨ n = 0 ∧ cY 256 [rV 46, iV (w : Int), iV (s 10)] M = some (0, M) := by
  have h9 := hv.2.2.2.2.2.1.2.2.2.2.1
  have hb1 := hv.2.1
  have ht := tby_bd hv hw
  rw [e_WeekPlan_turnedBy, hL.2.1, hL.1, hn, if_pos (by omega)]
  by_cases h0 : n = 0
  · exact Or.inr ⟨h0, by rw [if_neg (by omega)]⟩
  · left
    have q1 : Int.tdiv (w : Int) (s 9) = ((w / (s 9).toNat : Nat) : Int) := by
      obtain ⟨e, he⟩ : ∃ e : Nat, s 9 = (e : Int) := ⟨(s 9).toNat, by omega⟩
      rw [he, Int.toNat_natCast, Int.tdiv_eq_ediv_of_nonneg (by omega)]
      rfl
    have q2 : w / (s 9).toNat ≤ 51 := Nat.le_trans (Nat.div_le_self _ _) hw
    have q3 : Int.tdiv (tby s w : Int) (n : Int) = ((tby s w / n : Nat) : Int) := by rw [Int.tdiv_eq_ediv_of_nonneg (by omega)]; rfl
    have q4 : tby s w / n ≤ 357 := Nat.le_trans (Nat.div_le_self _ _) ht
    have q6 : (0 : Int) ≤ ((tby s w / n : Nat) : Int) := Int.natCast_nonneg _
    have q7 : (0 : Int) ≤ ((w / (s 9).toNat : Nat) : Int) := Int.natCast_nonneg _
    have q5 : Int.tmod (tby s w : Int) (n : Int) = ((tby s w % n : Nat) : Int) := by rw [Int.tmod_eq_emod_of_nonneg (by omega)]; rfl
    rw [if_pos (by omega), if_neg (by omega), r_ck_ok (by omega) (by omega), tby_int hv w, r_ck_ok (by omega) (by omega), if_neg (by omega), r_ck_ok (by omega) (by omega), q5]
theorem p_placeOf (M : am_M) (f : Int) (n p0 : Nat) (hn : M 0 4 = (n : Int)) (h8 : n ≤ 8) (hp : p0 < n) (hf : M 47 p0 = f) (hne : ∀ q, q < p0 → M 47 q ≠ f) : cY 258 [rV 46, iV f] M = some ((p0 : Int), M) := by
  rw [e_WeekPlan_placeOf]
  have L : ∀ j k : Nat, k + j = p0 → cX 258 2 [some (rV 46), some (iV f), some (iV (k : Int))] [] M = some ((p0 : Int), M) := by
    intro j
    induction j with
    | zero => intro k hk; have e : k = p0 := by omega
              subst e; rw [e_WeekPlan_placeOf_2, hn, if_pos (by omega), r_bd_ok (by omega) (by omega), Int.toNat_natCast, if_pos hf]
    | succ j ih => intro k hk; rw [e_WeekPlan_placeOf_2, hn, if_pos (by omega), r_bd_ok (by omega) (by omega), Int.toNat_natCast, if_neg (hne k (by omega)), r_ck_ok (by omega) (by omega)]; exact ih (k + 1) (by omega)
  exact L p0 0 (by omega)
theorem p_placeOf' (M : am_M) (o : Nat → Int) (f : Int) (n p0 : Nat) (hn : M 0 4 = (n : Int)) (h8 : n ≤ 8) (ho : ∀ p, p < n → M 47 p = o p) (hP : isP n o) (hp : p0 < n) (hf : o p0 = f) : cY 258 [rV 46, iV f] M = some ((p0 : Int), M) :=
  p_placeOf M f n p0 hn h8 hp (by rw [ho p0 hp]; exact hf) (fun q hq => by rw [ho q (by omega)]; exact (isP_plc hP hp hf).2 q (by omega) (by omega))
theorem swp_set {n : Nat} {o : Nat → Int} (hP : isP n o) {a b : Int} {p q : Nat} (hp : p < n) (hq : q < n) (ha : o p = a) (hb : o q = b) (i : Nat) (hi : i < n) : swp o a b i = if i = q then a else if i = p then b else o i := by
  unfold swp
  by_cases e1 : i = q
  · rw [if_pos e1, e1, hb]
    by_cases e2 : b = a
    · rw [if_pos e2, e2]
    · rw [if_neg e2, if_pos rfl]
  · rw [if_neg e1]
    by_cases e2 : i = p
    · rw [if_pos e2, e2, ha, if_pos rfl]
    · rw [if_neg e2, if_neg (fun h => e2 (hP.2 i p hi hp (h.trans ha.symm))), if_neg (fun h => e1 (hP.2 i q hi hq (h.trans hb.symm)))]
theorem p_exchange (M : am_M) (o : Nat → Int) (a b : Int) (n : Nat) (hn : M 0 4 = (n : Int)) (h8 : n ≤ 8) (ho : ∀ p, p < n → M 47 p = o p) (hP : isP n o) (ha : 0 ≤ a ∧ a < (n : Int)) (hb : 0 ≤ b ∧ b < (n : Int)) : ∃ M', cY 257 [rV 46, iV a, iV b] M = some (0, M') ∧ (∀ c, c ≠ 47 → M' c = M c) ∧ ∀ p, p < n → M' 47 p = swp o a b p := by
  obtain ⟨p, hp, hpa⟩ := isP_sur hP ha
  obtain ⟨q, hq, hqb⟩ := isP_sur hP hb
  refine ⟨am_up (am_up M 47 p b) 47 q a, ?_, fun c hc => by rw [am_up_ne _ _ _ _ hc, am_up_ne _ _ _ _ hc], fun i hi => ?_⟩
  · rw [e_WeekPlan_exchange, p_placeOf' M o a n p hn h8 ho hP hp hpa, am_cb_s, p_placeOf' M o b n q hn h8 ho hP hq hqb, am_cb_s, if_neg (by omega), if_neg (by omega), r_bd_ok (by omega) (by omega), r_bd_ok (by omega) (by omega), Int.toNat_natCast, Int.toNat_natCast]
  · rw [swp_set hP hp hq hpa hqb i hi]
    by_cases e1 : i = q
    · rw [if_pos e1, e1, am_up_at]
    · rw [if_neg e1, am_up_nj _ _ _ _ e1]
      by_cases e2 : i = p
      · rw [if_pos e2, e2, am_up_at]
      · rw [if_neg e2, am_up_nj _ _ _ _ e2, ho i hi]
/-- the class has a week lined up -/
theorem p_lineUp (M : am_M) (s : Nat → Int) (w n : Nat) (hv : vT s) (hL : cL s M) (hn : s 1 = (n : Int)) (hw : w ≤ 51) : ∃ M', cY 255 [rV 46, iV (w : Int), iV (s 10)] M = some (0, M') ∧ (∀ a, a < 43 ∨ 47 < a → M' a = M a) ∧ M' 46 3 = (w : Int) ∧ (∀ p, p < n → M' 47 p = rst s w p) ∧ CZ s w M' := by
  have hb1 := hv.2.1
  have hb2 := hv.2.2.1
  obtain ⟨m, hm⟩ : ∃ m : Nat, s 2 = (m : Int) := ⟨(s 2).toNat, by omega⟩
  have e46 : ∀ a, a ≠ 46 → (am_up M 46 3 (w : Int)) a = M a := fun a ha => am_up_ne _ _ _ _ ha
  have hL1 : cL s (am_up M 46 3 (w : Int)) := cL_eq hL (fun a ha => e46 a (by omega))
  -- the places before swaps
  obtain ⟨v, M1, g1, g2, g3, g4⟩ : ∃ v M1, cY 256 [rV 46, iV (w : Int), iV (s 10)] (am_up M 46 3 (w : Int)) = some (v, am_up M 46 3 (w : Int)) ∧ (∃ d2 d3 d4 d6, cX 255 14 [some (rV 46), some (iV (w : Int)), some (iV (s 10)), some (iV (n : Int)), some (iV v), some (iV 0), none] [] (am_up M 46 3 (w : Int)) = cX 255 41 [some (rV 46), some (iV (w : Int)), d2, d3, d4, some (iV 0), d6] [] M1) ∧ (∀ a, a ≠ 47 → M1 a = (am_up M 46 3 (w : Int)) a) ∧ ∀ p, p < n → M1 47 p = rk0 s n w p := by
    rcases p_turnedBy (am_up M 46 3 (w : Int)) s w n hv hL1 hn hw with ht | ⟨h0, ht⟩
    · by_cases h0 : n = 0
      · refine ⟨_, am_up M 46 3 (w : Int), ht, ⟨none, some (iV (n : Int)), some (iV ((tby s w % n : Nat) : Int)), none, ?_⟩, fun _ _ => rfl, fun p hp => by omega⟩
        rw [e_WeekPlan_lineUp_14, if_neg (by omega)]
      · have htn : tby s w % n < n := Nat.mod_lt _ (by omega)
        obtain ⟨⟨d2, d6⟩, M1, h1, i1, i2⟩ := lp_up (α := Option am_V × Option am_V) (X := fun k d M => cX 255 14 [some (rV 46), some (iV (w : Int)), d.1, some (iV (n : Int)), some (iV ((tby s w % n : Nat) : Int)), some (iV (k : Int)), d.2] [] M) (n := n) (I := fun k M' => (∀ a, a ≠ 47 → M' a = (am_up M 46 3 (w : Int)) a) ∧ ∀ p, p < k → M' 47 p = rk0 s n w p) (by
          intro k hk d M' hI
          obtain ⟨i1, i2⟩ := hI
          have hh := e_WeekPlan_lineUp_14 (w : Int) (n : Int) ((tby s w % n : Nat) : Int) (k : Int) d.1 d.2 M'
          have e9 : ∀ p, p < n → M' 9 p = s (74 + p) := fun p hp => by rw [i1 9 (by decide), e46 9 (by decide)]; exact hL.2.2.1 p (by omega)
          have er : rk0 s n w k = s (74 + (if k + tby s w % n < n then k + tby s w % n else k + tby s w % n - n)) := by unfold rk0; rw [add_mod_n hk]
          rw [if_pos (by omega), r_ck_ok (by omega) (by omega)] at hh
          have fin : ∀ d', (cX 255 14 [some (rV 46), some (iV (w : Int)), d.1, some (iV (n : Int)), some (iV ((tby s w % n : Nat) : Int)), some (iV (k : Int)), d.2] [] M' = cX 255 14 [some (rV 46), some (iV (w : Int)), none, some (iV (n : Int)), some (iV ((tby s w % n : Nat) : Int)), some (iV ((k : Int) + 1)), d'] [] (am_up M' 47 k (rk0 s n w k))) → ∃ (d' : Option am_V × Option am_V) (M2 : am_M), cX 255 14 [some (rV 46), some (iV (w : Int)), d.1, some (iV (n : Int)), some (iV ((tby s w % n : Nat) : Int)), some (iV (k : Int)), d.2] [] M' = cX 255 14 [some (rV 46), some (iV (w : Int)), d'.1, some (iV (n : Int)), some (iV ((tby s w % n : Nat) : Int)), some (iV ((k + 1 : Nat) : Int)), d'.2] [] M2 ∧ (∀ a, a ≠ 47 → M2 a = (am_up M 46 3 (w : Int)) a) ∧ ∀ p, p < k + 1 → M2 47 p = rk0 s n w p := by
            intro d' hq
            refine ⟨(none, d'), _, hq, fun a ha => (am_up_ne _ _ _ _ ha).trans (i1 a ha), fun p hp => ?_⟩
            by_cases e : p = k
            · subst e; rw [am_up_at]
            · rw [am_up_nj _ _ _ _ e]; exact i2 p (by omega)
          by_cases q : k + tby s w % n < n
          · rw [if_pos q] at er
            rw [if_pos (by omega), r_bd_ok (by omega) (by omega), r_bd_ok (by omega) (by omega), r_ck_ok (by omega) (by omega), Int.toNat_natCast, show ((k : Int) + ((tby s w % n : Nat) : Int)).toNat = k + tby s w % n by omega, e9 _ q, ← er] at hh
            exact fin _ hh
          · rw [if_neg q] at er
            rw [if_neg (by omega), r_ck_ok (by omega) (by omega), r_bd_ok (by omega) (by omega), r_bd_ok (by omega) (by omega), r_ck_ok (by omega) (by omega), Int.toNat_natCast, show ((k : Int) + ((tby s w % n : Nat) : Int) - (n : Int)).toNat = k + tby s w % n - n by omega, e9 _ (by omega), ← er] at hh
            exact fin _ hh) n 0 (by omega) (some (iV (s 10)), none) (am_up M 46 3 (w : Int)) ⟨fun _ _ => rfl, fun p hp => by omega⟩
        refine ⟨_, M1, ht, ⟨none, some (iV (n : Int)), some (iV ((tby s w % n : Nat) : Int)), none, ?_⟩, i1, i2⟩
        refine h1.trans ?_
        rw [e_WeekPlan_lineUp_14, if_neg (by omega)]
    · refine ⟨_, am_up M 46 3 (w : Int), ht, ⟨none, some (iV (n : Int)), some (iV 0), none, ?_⟩, fun _ _ => rfl, fun p hp => by omega⟩
      rw [e_WeekPlan_lineUp_14, if_neg (by omega)]
  obtain ⟨d2, d3, d4, d6, g2⟩ := g2
  -- swaps
  obtain ⟨⟨a2, a3, a4, a6⟩, M2, h2, j1, j2⟩ := lp_up (α := Option am_V × Option am_V × Option am_V × Option am_V) (X := fun k d M => cX 255 41 [some (rV 46), some (iV (w : Int)), d.1, d.2.1, d.2.2.1, some (iV (k : Int)), d.2.2.2] [] M) (n := m) (I := fun k M' => (∀ a, a ≠ 47 → M' a = (am_up M 46 3 (w : Int)) a) ∧ ∀ p, p < n → M' 47 p = rkk s n w k p) (by
    intro k hk d M' hI
    obtain ⟨j1, j2⟩ := hI
    have hL2 : cL s M' := cL_eq hL1 (fun a ha => j1 a (by omega))
    have hvr := hv.2.2.2.2.2.2.2.2.2.1 k (by omega)
    have hh := e_WeekPlan_lineUp_41 (w : Int) (k : Int) d.1 d.2.1 d.2.2.1 d.2.2.2 M'
    have cc : ∀ j : Nat, j < 3 → cY 222 [rV 11, iV (k : Int), iV (j : Int)] M' = some (s (82 + 3 * k + j), M') := fun j hj => by
      rw [p_cell_11 M' k j hL2.2.2.2.2.1.1 (by rw [hL2.2.2.2.1.1]; omega) (by rw [hL2.2.2.2.1.1]; omega) hj, hL2.2.2.2.2.2.1 k (by omega) j hj]
    have c0 : cY 222 [rV 11, iV (k : Int), iV 0] M' = some (s (82 + 3 * k), M') := cc 0 (by omega)
    have c1 : cY 222 [rV 11, iV (k : Int), iV 1] M' = some (s (83 + 3 * k), M') := (cc 1 (by omega)).trans (by rw [show 82 + 3 * k + 1 = 83 + 3 * k by omega])
    have c2 : cY 222 [rV 11, iV (k : Int), iV 2] M' = some (s (84 + 3 * k), M') := (cc 2 (by omega)).trans (by rw [show 82 + 3 * k + 2 = 84 + 3 * k by omega])
    have er : rkk s n w (k + 1) = if s (82 + 3 * k) = (w : Int) then swp (rkk s n w k) (s (83 + 3 * k)) (s (84 + 3 * k)) else rkk s n w k := rfl
    rw [hL2.2.2.2.1.1, if_pos (by omega), c0, am_cb_s] at hh
    by_cases q : s (82 + 3 * k) = (w : Int)
    · rw [if_pos q] at er
      obtain ⟨M3, x1, x2, x3⟩ := p_exchange M' (rkk s n w k) (s (83 + 3 * k)) (s (84 + 3 * k)) n (by rw [hL2.1, hn]) (by omega) j2 (isP_rkk hv hn w k (by omega)) (by omega) (by omega)
      rw [if_pos q, c1, am_cb_s, c2, am_cb_s, x1, am_cb_s, r_ck_ok (by omega) (by omega)] at hh
      exact ⟨(none, none, none, none), M3, hh, fun a ha => by rw [x2 a ha, j1 a ha], fun p hp => by rw [er]; exact x3 p hp⟩
    · rw [if_neg q] at er
      rw [if_neg q, r_ck_ok (by omega) (by omega)] at hh
      exact ⟨(none, none, none, none), M', hh, j1, fun p hp => by rw [er]; exact j2 p hp⟩) m 0 (by omega) (d2, d3, d4, d6) M1 ⟨g3, g4⟩
  have hL3 : cL s M2 := cL_eq hL1 (fun a ha => j1 a (by omega))
  obtain ⟨M3, y1, y2, y3⟩ := p_gather M2 s w hv hL3
  refine ⟨M3, ?_, fun a ha => ?_, ?_, fun p hp => ?_, y3⟩
  · have e04 : M 0 4 = (n : Int) := by rw [hL.1, hn]
    rw [e_WeekPlan_lineUp, g1, am_cb_s, e04]
    refine g2.trans (h2.trans ?_)
    rw [e_WeekPlan_lineUp_41, hL3.2.2.2.1.1, if_neg (by omega), y1, am_cb_s]
  · rw [y2 a (by omega) (by omega) (by omega), j1 a (by omega), e46 a (by omega)]
  · rw [y2 46 (by decide) (by decide) (by decide), j1 46 (by decide), am_up_at]
  · rw [y2 47 (by decide) (by decide) (by decide), j2 p hp]
    unfold rst
    rw [hn, hm, Int.toNat_natCast, Int.toNat_natCast]
-- the reference
/-- roster and places agree -/
def RP (n : Nat) (o : Nat → Int) (M : am_M) : Prop := (∀ p, p < n → M 79 p = o p) ∧ ∀ p, p < n → M 80 (o p).toNat = (p : Int)
theorem p_changes (M : am_M) (o : Nat → Int) (a b : Int) (n : Nat) (h8 : n ≤ 8) (ho : RP n o M) (hP : isP n o) (ha : 0 ≤ a ∧ a < (n : Int)) (hb : 0 ≤ b ∧ b < (n : Int)) : ∃ M', cY 102 [rV 72, iV a, iV b] M = some (0, M') ∧ (∀ c, c ≠ 79 → c ≠ 80 → M' c = M c) ∧ RP n (swp o a b) M' := by
  obtain ⟨p, hp, hpa⟩ := isP_sur hP ha
  obtain ⟨q, hq, hqb⟩ := isP_sur hP hb
  have pa : M 80 a.toNat = (p : Int) := by rw [← hpa]; exact ho.2 p hp
  have pb : M 80 b.toNat = (q : Int) := by rw [← hqb]; exact ho.2 q hq
  refine ⟨am_up (am_up (am_up (am_up M 79 p b) 79 q a) 80 a.toNat (q : Int)) 80 b.toNat (p : Int), ?_, fun c h9 h0 => by rw [am_up_ne _ _ _ _ h0, am_up_ne _ _ _ _ h0, am_up_ne _ _ _ _ h9, am_up_ne _ _ _ _ h9], fun i hi => ?_, fun i hi => ?_⟩
  · rw [e_Model_changes, pa, pb, r_bd_ok (by omega) (by omega), r_bd_ok (by omega) (by omega), r_bd_ok (by omega) (by omega), r_bd_ok (by omega) (by omega), r_bd_ok (by omega) (by omega), r_bd_ok (by omega) (by omega), r_bd_ok (by omega) (by omega), Int.toNat_natCast, Int.toNat_natCast]
  · rw [am_up_ne _ _ _ _ (by decide), am_up_ne _ _ _ _ (by decide), swp_set hP hp hq hpa hqb i hi]
    by_cases e1 : i = q
    · rw [if_pos e1, e1, am_up_at]
    · rw [if_neg e1, am_up_nj _ _ _ _ e1]
      by_cases e2 : i = p
      · rw [if_pos e2, e2, am_up_at]
      · rw [if_neg e2, am_up_nj _ _ _ _ e2, ho.1 i hi]
  · rw [swp_set hP hp hq hpa hqb i hi]
    have hi1 := hP.1 i hi
    by_cases e1 : i = q
    · rw [if_pos e1, e1]
      by_cases e3 : a = b
      · subst e3
        rw [am_up_at]
        have := hP.2 p q hp hq (hpa.trans hqb.symm)
        omega
      · rw [am_up_nj _ _ _ _ (by omega), am_up_at]
    · rw [if_neg e1]
      by_cases e2 : i = p
      · rw [if_pos e2, am_up_at, e2]
      · have n1 : o i ≠ a := fun h => e2 (hP.2 i p hi hp (h.trans hpa.symm))
        have n2 : o i ≠ b := fun h => e1 (hP.2 i q hi hq (h.trans hqb.symm))
        rw [if_neg e2, am_up_nj _ _ _ _ (by omega), am_up_nj _ _ _ _ (by omega), am_up_ne _ _ _ _ (by decide), am_up_ne _ _ _ _ (by decide)]
        exact ho.2 i hi
/-- couples that change places, from field 0 on -/
def mtk (o : Nat → Int) (mt : Nat → Int) : Nat → Nat → Int
  | 0 => o
  | f + 1 => if (f : Int) < mt f then swp (mtk o mt f) (f : Int) (mt f) else mtk o mt f
theorem isP_mtk {n : Nat} {o mt : Nat → Int} (h : isP n o) (hm : ∀ f, f < n → mt f < (n : Int)) : ∀ k, k ≤ n → isP n (mtk o mt k) := by
  intro k
  induction k with
  | zero => intro _; exact h
  | succ k ih =>
    intro hk
    have h1 := hm k (by omega)
    show isP n (if (k : Int) < mt k then swp (mtk o mt k) (k : Int) (mt k) else mtk o mt k)
    split
    · exact isP_swp (ih (by omega)) (by omega) (by omega)
    · exact ih (by omega)
theorem mtk_none {o mt : Nat → Int} : ∀ k, (∀ f, f < k → mt f = -1) → mtk o mt k = o := by
  intro k
  induction k with
  | zero => intro _; rfl
  | succ k ih =>
    intro h
    show (if (k : Int) < mt k then _ else _) = o
    rw [if_neg (by rw [h k (by omega)]; omega)]
    exact ih (fun f hf => h f (by omega))
theorem p_laysRoster (M : am_M) (w n : Nat) (hv : vT (M 73)) (hn : M 73 1 = (n : Int)) (hw : w ≤ 51) (hmt : ∀ f, f < n → M 88 f < (n : Int)) : ∃ M', cY 103 [rV 72, iV (w : Int)] M = some (0, M') ∧ (∀ a, a ≠ 79 → a ≠ 80 → M' a = M a) ∧ RP n (mtk (rst (M 73) w) (M 88) n) M' := by
  have hb1 := hv.2.1
  have hb2 := hv.2.2.1
  have h9 := hv.2.2.2.2.2.1.2.2.2.2.1
  have h10 := hv.2.2.2.2.2.1.2.2.2.2.2.1
  have ht := tby_bd hv hw
  obtain ⟨m, hm⟩ : ∃ m : Nat, M 73 2 = (m : Int) := ⟨(M 73 2).toNat, by omega⟩
  have hPv := vT_isP hv hn
  obtain ⟨-, M1, h1, i1, i2, i3⟩ := lp_up (α := Unit) (X := fun k _ M => cX 103 7 [some (rV 72), some (iV (w : Int)), some (iV (n : Int)), some (iV (k : Int))] [] M) (n := n) (I := fun k M' => (∀ a, a ≠ 79 → a ≠ 80 → M' a = M a) ∧ (∀ p, p < k → M' 79 p = rk0 (M 73) n w p) ∧ ∀ p, p < k → M' 80 (rk0 (M 73) n w p).toNat = (p : Int)) (by
    intro k hk d M' hI
    obtain ⟨i1, i2, i3⟩ := hI
    have hh := e_Model_laysRoster_7 (w : Int) (n : Int) (k : Int) M'
    have e73 : M' 73 = M 73 := i1 73 (by decide) (by decide)
    have q1 : Int.tdiv (w : Int) (M 73 9) = ((w / (M 73 9).toNat : Nat) : Int) := by
      obtain ⟨e, he⟩ : ∃ e : Nat, M 73 9 = (e : Int) := ⟨(M 73 9).toNat, by omega⟩
      rw [he, Int.toNat_natCast, Int.tdiv_eq_ediv_of_nonneg (by omega)]
      rfl
    have q2 : w / (M 73 9).toNat ≤ 51 := Nat.le_trans (Nat.div_le_self _ _) hw
    have q3 : Int.tdiv ((k : Int) + (tby (M 73) w : Int)) (n : Int) = (((k + tby (M 73) w) / n : Nat) : Int) := by rw [Int.tdiv_eq_ediv_of_nonneg (by omega)]; rfl
    have q4 : (k + tby (M 73) w) / n ≤ k + tby (M 73) w := Nat.div_le_self _ _
    have q9 : (0 : Int) ≤ (((k + tby (M 73) w) / n : Nat) : Int) := Int.natCast_nonneg _
    have q10 : (0 : Int) ≤ ((w / (M 73 9).toNat : Nat) : Int) := Int.natCast_nonneg _
    have q5 : Int.tmod ((k : Int) + (tby (M 73) w : Int)) (n : Int) = (((k + tby (M 73) w) % n : Nat) : Int) := by rw [Int.tmod_eq_emod_of_nonneg (by omega)]; rfl
    have q6 : (k + tby (M 73) w) % n < n := Nat.mod_lt _ (by omega)
    have q7 : M 73 (74 + (k + tby (M 73) w) % n) = rk0 (M 73) n w k := rfl
    have q8 := (isP_rk0 hv hn w).1 k hk
    rw [if_pos (by omega), e73, if_neg (by omega), r_ck_ok (by omega) (by omega), tby_int hv w, r_ck_ok (by omega) (by omega), r_ck_ok (by omega) (by omega), if_neg (by omega), r_ck_ok (by omega) (by omega), q5, r_ck_ok (by omega) (by omega), r_bd_ok (by omega) (by omega), r_bd_ok (by omega) (by omega), r_bd_ok (by omega) (by omega), Int.toNat_natCast, am_up_at, show (74 + (((k + tby (M 73) w) % n : Nat) : Int)).toNat = 74 + (k + tby (M 73) w) % n by omega, q7, r_bd_ok (by omega) (by omega), r_ck_ok (by omega) (by omega)] at hh
    refine ⟨(), _, hh, fun a x1 x2 => by rw [am_up_ne _ _ _ _ x2, am_up_ne _ _ _ _ x1, i1 a x1 x2], fun p hp => ?_, fun p hp => ?_⟩
    · rw [am_up_ne _ _ _ _ (by decide)]
      by_cases e : p = k
      · subst e; rw [am_up_at]
      · rw [am_up_nj _ _ _ _ e]; exact i2 p (by omega)
    · by_cases e : p = k
      · subst e; rw [am_up_at]
      · have hne : rk0 (M 73) n w p ≠ rk0 (M 73) n w k := fun h => e ((isP_rk0 hv hn w).2 p k (by omega) hk h)
        have := (isP_rk0 hv hn w).1 p (by omega)
        rw [am_up_nj _ _ _ _ (by omega), am_up_ne _ _ _ _ (by decide)]; exact i3 p (by omega)) n 0 (by omega) () M ⟨fun _ _ _ => rfl, fun p hp => by omega, fun p hp => by omega⟩
  obtain ⟨-, M2, h2, j1, j2⟩ := lp_up (α := Unit) (X := fun k _ M => cX 103 46 [some (rV 72), some (iV (w : Int)), some (iV (n : Int)), some (iV (k : Int))] [] M) (n := m) (I := fun k M' => (∀ a, a ≠ 79 → a ≠ 80 → M' a = M a) ∧ RP n (rkk (M 73) n w k) M') (by
    intro k hk d M' hI
    obtain ⟨j1, j2⟩ := hI
    have hh := e_Model_laysRoster_46 (w : Int) (n : Int) (k : Int) M'
    have e73 : M' 73 = M 73 := j1 73 (by decide) (by decide)
    have hvr := hv.2.2.2.2.2.2.2.2.2.1 k (by omega)
    have er : rkk (M 73) n w (k + 1) = if M 73 (82 + 3 * k) = (w : Int) then swp (rkk (M 73) n w k) (M 73 (83 + 3 * k)) (M 73 (84 + 3 * k)) else rkk (M 73) n w k := rfl
    rw [e73, if_pos (by omega), r_ck_ok (by omega) (by omega), r_ck_ok (by omega) (by omega), r_bd_ok (by omega) (by omega), show (82 + 3 * (k : Int)).toNat = 82 + 3 * k by omega] at hh
    by_cases q : M 73 (82 + 3 * k) = (w : Int)
    · rw [if_pos q] at er
      obtain ⟨M3, x1, x2, x3⟩ := p_changes M' (rkk (M 73) n w k) (M 73 (83 + 3 * k)) (M 73 (84 + 3 * k)) n (by omega) j2 (isP_rkk hv hn w k (by omega)) (by omega) (by omega)
      rw [if_pos q, r_ck_ok (by omega) (by omega), r_ck_ok (by omega) (by omega), r_ck_ok (by omega) (by omega), r_bd_ok (by omega) (by omega), r_ck_ok (by omega) (by omega), r_ck_ok (by omega) (by omega), r_ck_ok (by omega) (by omega), r_bd_ok (by omega) (by omega), show (82 + 3 * (k : Int) + 1).toNat = 83 + 3 * k by omega, show (82 + 3 * (k : Int) + 2).toNat = 84 + 3 * k by omega, x1, am_cb_s, r_ck_ok (by omega) (by omega)] at hh
      exact ⟨(), M3, hh, fun a y1 y2 => by rw [x2 a y1 y2, j1 a y1 y2], by rw [er]; exact x3⟩
    · rw [if_neg q] at er
      rw [if_neg q, r_ck_ok (by omega) (by omega)] at hh
      exact ⟨(), M', hh, j1, by rw [er]; exact j2⟩) m 0 (by omega) () M1 ⟨i1, i2, i3⟩
  have eR : rkk (M 73) n w m = rst (M 73) w := by unfold rst; rw [hn, hm, Int.toNat_natCast, Int.toNat_natCast]
  rw [eR] at j2
  have hPr := isP_rst hv hn w
  obtain ⟨d1, M3, h3, l1, l2⟩ := lp_up (α := Option am_V) (X := fun k d M => cX 103 88 [some (rV 72), d, some (iV (n : Int)), some (iV (k : Int))] [] M) (n := n) (I := fun k M' => (∀ a, a ≠ 79 → a ≠ 80 → M' a = M a) ∧ RP n (mtk (rst (M 73) w) (M 88) k) M') (by
    intro k hk d M' hI
    obtain ⟨l1, l2⟩ := hI
    have hh := e_Model_laysRoster_88 (n : Int) (k : Int) d M'
    have e88 : M' 88 = M 88 := l1 88 (by decide) (by decide)
    have hmk := hmt k hk
    have er : mtk (rst (M 73) w) (M 88) (k + 1) = if (k : Int) < M 88 k then swp (mtk (rst (M 73) w) (M 88) k) (k : Int) (M 88 k) else mtk (rst (M 73) w) (M 88) k := rfl
    rw [if_pos (by omega), r_bd_ok (by omega) (by omega), e88, Int.toNat_natCast] at hh
    by_cases q : (k : Int) < M 88 k
    · rw [if_pos q] at er
      obtain ⟨M4, x1, x2, x3⟩ := p_changes M' (mtk (rst (M 73) w) (M 88) k) (k : Int) (M 88 k) n (by omega) l2 (isP_mtk hPr hmt k (by omega)) (by omega) (by omega)
      rw [if_pos q, r_bd_ok (by omega) (by omega), x1, am_cb_s, r_ck_ok (by omega) (by omega)] at hh
      exact ⟨none, M4, hh, fun a y1 y2 => by rw [x2 a y1 y2, l1 a y1 y2], by rw [er]; exact x3⟩
    · rw [if_neg q] at er
      rw [if_neg q, r_ck_ok (by omega) (by omega)] at hh
      exact ⟨none, M', hh, l1, by rw [er]; exact l2⟩) n 0 (by omega) (some (iV (w : Int))) M2 ⟨j1, j2⟩
  refine ⟨M3, ?_, l1, l2⟩
  rw [e_Model_laysRoster, hn]
  refine h1.trans ?_
  rw [e_Model_laysRoster_7, if_neg (by omega)]
  refine h2.trans ?_
  rw [e_Model_laysRoster_46, j1 73 (by decide) (by decide), hm, if_neg (by omega)]
  refine h3.trans ?_
  rw [e_Model_laysRoster_88, if_neg (by omega)]
theorem o17 : lw_O17 RI := by
  intro a b ha hb M hR hM
  have hR2 : RI (am_up M 72 6 0) := RI_mf (mf_up (mf.rf M) (by omega)) hR
  obtain ⟨r1, r2, r3, r4, r5, r6, r7, r8, r9, r10, r11⟩ := id hR
  have hb1 := r1.2.1
  obtain ⟨n, hn⟩ : ∃ n : Nat, M 73 1 = (n : Int) := ⟨(M 73 1).toNat, by omega⟩
  have e0 : M 0 4 = (n : Int) := by rw [← hn]; exact r2.2.1
  have e73 : (am_up M 72 6 0) 73 = M 73 := am_up_ne M 72 6 0 (by decide)
  by_cases hw : 0 ≤ a ∧ a ≤ 51
  · by_cases h0 : b < 0
    · refine ⟨-3, M, am_up M 72 6 0, ?_, ?_, hR2⟩
      · rw [e_Desk_roster, p_isNoWeek, am_cb_s, if_pos hw, if_pos rfl, if_pos h0]
      · rw [e_Model_roster, p_isWeek, am_cb_s, if_pos hw, if_neg (by decide), if_pos h0]
    · by_cases h1 : b < (n : Int)
      · obtain ⟨w, rfl⟩ : ∃ w : Nat, a = (w : Int) := ⟨a.toNat, by omega⟩
        obtain ⟨p, rfl⟩ : ∃ p : Nat, b = (p : Int) := ⟨b.toNat, by omega⟩
        have hL : cL (M 73) M := cL_of r1 r2 r3 (fun _ _ _ _ => rfl)
        obtain ⟨M1, g1, g2, g3, g4, g5⟩ := p_lineUp M (M 73) w n r1 hL hn (by omega)
        have e10 : M 10 5 = M 73 10 := r2.2.2.2.2.2.1 5 (by omega)
        have hR3 : RI M1 := RI_cf (fun x hx => g2 x (by omega)) hR
        have f73 : (am_up M1 72 6 0) 73 = M 73 := by rw [am_up_ne M1 72 6 0 (by decide), g2 73 (by omega)]
        have f88 : (am_up M1 72 6 0) 88 = M 88 := by rw [am_up_ne M1 72 6 0 (by decide), g2 88 (by omega)]
        obtain ⟨M2, k1, k2, k3⟩ := p_laysRoster (am_up M1 72 6 0) w n (by rw [f73]; exact r1) (by rw [f73]; exact hn) (by omega) (fun f hf => by rw [f88, r10 f (by omega)]; omega)
        rw [f73, f88, mtk_none n (fun f hf => r10 f (by omega))] at k3
        refine ⟨rst (M 73) w p, M1, M2, ?_, ?_, ?_⟩
        · rw [e_Desk_roster, p_isNoWeek, am_cb_s, if_pos hw, if_pos rfl, if_neg h0, e0, if_pos h1, e10, g1, am_cb_s, r_bd_ok (by omega) (by omega), Int.toNat_natCast, g4 p (by omega)]
        · rw [e_Model_roster, p_isWeek, am_cb_s, if_pos hw, if_neg (by decide), if_neg h0, f73, hn, if_pos h1, k1, am_cb_s, r_bd_ok (by omega) (by omega), Int.toNat_natCast, k3.1 p (by omega)]
        · refine RI_mf ⟨fun x x1 x2 => ?_, ?_, ?_, ?_, ?_⟩ (RI_mf (mf_up (mf.rf M1) (j := 6) (v := 0) (by omega)) hR3)
          · exact k2 x (by omega) (by omega)
          all_goals rw [k2 72 (by decide) (by decide)]
      · refine ⟨-1, M, am_up M 72 6 0, ?_, ?_, hR2⟩
        · rw [e_Desk_roster, p_isNoWeek, am_cb_s, if_pos hw, if_pos rfl, if_neg h0, e0, if_neg h1]
        · rw [e_Model_roster, p_isWeek, am_cb_s, if_pos hw, if_neg (by decide), if_neg h0, e73, hn, if_neg h1]
  · refine ⟨-3, M, am_up M 72 6 0, ?_, ?_, hR2⟩
    · rw [e_Desk_roster, p_isNoWeek, am_cb_s, if_neg hw, if_neg (by decide)]
    · rw [e_Model_roster, p_isWeek, am_cb_s, if_neg hw, if_pos rfl]
