-- couples
def mtc (n : Nat) (mt : Nat → Int) : Prop := ∀ f, f < n → mt f = -1 ∨ ∃ g : Nat, mt f = (g : Int) ∧ g < n ∧ g ≠ f ∧ mt g = (f : Int)
theorem mtk_c {o mt mt' : Nat → Int} : ∀ k, (∀ f, f < k → mt f = mt' f) → mtk o mt k = mtk o mt' k := by
  intro k
  induction k with
  | zero => intro _; rfl
  | succ k ih =>
    intro h
    show (if (k : Int) < mt k then swp (mtk o mt k) (k : Int) (mt k) else mtk o mt k) = if (k : Int) < mt' k then swp (mtk o mt' k) (k : Int) (mt' k) else mtk o mt' k
    rw [ih (fun f hf => h f (by omega)), h k (by omega)]
theorem mtk_val {n : Nat} {o mt : Nat → Int} (hP : isP n o) (hm : mtc n mt) {p v : Nat} (hp : p < n) (hv : o p = (v : Int)) : ∀ k, k ≤ n → (mt v = -1 → mtk o mt k p = (v : Int)) ∧ ∀ g : Nat, mt v = (g : Int) → mtk o mt k p = if min v g < k then (g : Int) else (v : Int) := by
  have hvn : v < n := by have := hP.1 p hp; omega
  intro k
  induction k with
  | zero => intro _; exact ⟨fun _ => hv, fun g _ => by rw [if_neg (by omega)]; exact hv⟩
  | succ k ih =>
    intro hk
    obtain ⟨i1, i2⟩ := ih (by omega)
    have es : mtk o mt (k + 1) = if (k : Int) < mt k then swp (mtk o mt k) (k : Int) (mt k) else mtk o mt k := rfl
    rw [es]
    rcases hm k (by omega) with hkn | ⟨q, q1, q2, q3, q4⟩
    · rw [if_neg (by omega)]
      refine ⟨i1, fun g hg => ?_⟩
      rw [i2 g hg]
      rcases hm v hvn with h | ⟨g', g1, g2, g3, g4⟩
      · omega
      · have eg : g' = g := by omega
        subst eg
        by_cases c : min v g' < k
        · rw [if_pos c, if_pos (by omega)]
        · have n1 : v ≠ k := fun h => by rw [h] at g1; omega
          have n2 : g' ≠ k := fun h => by rw [h] at g4; omega
          rw [if_neg c, if_neg (by omega)]
    · by_cases c : (k : Int) < mt k
      · rw [if_pos c]
        constructor
        · intro hv1
          have n1 : v ≠ k := fun h => by rw [h] at hv1; omega
          have n2 : v ≠ q := fun h => by rw [h] at hv1; omega
          unfold swp
          rw [i1 hv1, if_neg (by omega), if_neg (by omega)]
        · intro g hg
          rcases hm v hvn with h | ⟨g', g1, g2, g3, g4⟩
          · omega
          · have eg : g' = g := by omega
            subst eg
            unfold swp
            rw [i2 g' hg]
            by_cases d : min v g' < k
            · have n1 : g' ≠ k := fun h => by rw [h] at g4; omega
              have n2 : g' ≠ q := fun h => by rw [h] at g4; omega
              rw [if_pos d, if_neg (by omega), if_neg (by omega), if_pos (by omega)]
            · rw [if_neg d]
              by_cases e1 : v = k
              · have : g' = q := by rw [e1] at g1; omega
                rw [if_pos (by omega), if_pos (by omega)]; omega
              · rw [if_neg (by omega)]
                by_cases e2 : v = q
                · have : g' = k := by rw [e2] at g1; omega
                  rw [if_pos (by omega), if_pos (by omega)]; omega
                · have n2 : g' ≠ k := fun h => by rw [h] at g4; omega
                  rw [if_neg (by omega), if_neg (by omega)]
      · rw [if_neg c]
        refine ⟨i1, fun g hg => ?_⟩
        rw [i2 g hg]
        rcases hm v hvn with h | ⟨g', g1, g2, g3, g4⟩
        · omega
        · have eg : g' = g := by omega
          subst eg
          by_cases d : min v g' < k
          · rw [if_pos d, if_pos (by omega)]
          · by_cases e1 : v = k
            · rw [e1] at g1
              rw [if_neg d, if_neg (by omega)]
            · by_cases e2 : g' = k
              · rw [e2] at g4
                rw [if_neg d, if_neg (by omega)]
              · rw [if_neg d, if_neg (by omega)]
theorem mtk_at {n : Nat} {o mt : Nat → Int} (hP : isP n o) (hm : mtc n mt) {p : Nat} (hp : p < n) : mtk o mt n p = if mt (o p).toNat = -1 then o p else mt (o p).toNat := by
  have hop := hP.1 p hp
  obtain ⟨v, hv⟩ : ∃ v : Nat, o p = (v : Int) := ⟨(o p).toNat, by omega⟩
  obtain ⟨x1, x2⟩ := mtk_val hP hm hp hv n (by omega)
  rw [hv, Int.toNat_natCast]
  by_cases c : mt v = -1
  · rw [if_pos c]; exact x1 c
  · rw [if_neg c]
    rcases hm v (by omega) with h | ⟨g, g1, g2, g3, g4⟩
    · exact absurd h c
    · rw [x2 g g1, if_pos (by omega), g1]
theorem mtc_lt {n : Nat} {mt : Nat → Int} (h : mtc n mt) {f : Nat} (hf : f < n) : mt f < (n : Int) := by
  rcases h f hf with h | ⟨g, g1, g2, g3, g4⟩ <;> omega
def mt2 (a b : Nat) : Nat → Int := us (us (fun _ => -1) a (b : Int)) b (a : Int)
theorem mt2_c {n a b : Nat} (ha : a < n) (hb : b < n) (hab : a ≠ b) : mtc n (mt2 a b) := by
  intro f hf
  unfold mt2
  by_cases c1 : f = b
  · subst c1
    right
    refine ⟨a, us_at _ _ _, ha, hab, ?_⟩
    rw [us_ne _ _ _ hab, us_at]
  · by_cases c2 : f = a
    · subst c2
      right
      refine ⟨b, ?_, hb, fun h => c1 h.symm, us_at _ _ _⟩
      rw [us_ne _ _ _ c1, us_at]
    · left
      rw [us_ne _ _ _ c1, us_ne _ _ _ c2]
theorem mt2_swp {n a b : Nat} {o : Nat → Int} (hP : isP n o) (ha : a < n) (hb : b < n) (hab : a ≠ b) {p : Nat} (hp : p < n) : mtk o (mt2 a b) n p = swp o (a : Int) (b : Int) p := by
  have hop := hP.1 p hp
  rw [mtk_at hP (mt2_c ha hb hab) hp]
  unfold mt2 swp
  by_cases c1 : (o p).toNat = b
  · rw [c1, us_at, if_neg (by omega), if_neg (by omega), if_pos (by omega)]
  · rw [us_ne _ _ _ c1]
    by_cases c2 : (o p).toNat = a
    · rw [c2, us_at, if_neg (by omega), if_pos (by omega)]
    · rw [us_ne _ _ _ c2, if_pos rfl, if_neg (by omega), if_neg (by omega)]
-- with whom to swap
def o1s (s : Nat → Int) (n w a b : Nat) : Nat → Int := mtk (rst s w) (mt2 a b) n
def hlp (s : Nat → Int) (n w a f : Nat) : Bool := decide (f ≠ a) && (decide (fls s (o1s s n w a f) n n = 0) && (decide (ngt s (o1s s n w a f) n w a < ngt s (rst s w) n w a) && decide (ngt s (o1s s n w a f) n w f ≤ ngt s (rst s w) n w f)))
theorem isP_o1 {s : Nat → Int} (hv : vT s) {n : Nat} (hn : s 1 = (n : Int)) (w : Nat) {a b : Nat} (ha : a < n) (hb : b < n) (hab : a ≠ b) : isP n (o1s s n w a b) := isP_mtk (isP_rst hv hn w) (fun f hf => mtc_lt (mt2_c ha hb hab) hf) n (Nat.le_refl n)
theorem swp_swp {o : Nat → Int} {a b : Int} (hab : a ≠ b) (p : Nat) : swp (swp o a b) a b p = o p := by
  unfold swp
  by_cases c1 : o p = a
  · rw [if_pos c1, if_neg (by omega), if_pos rfl, c1]
  · rw [if_neg c1]
    by_cases c2 : o p = b
    · rw [if_pos c2, if_pos rfl, c2]
    · rw [if_neg c2, if_neg c1, if_neg c2]
/-- what the class keeps while it tries -/
def KX (s : Nat → Int) (n w : Nat) (M : am_M) : Prop := cQ s M ∧ CN s M ∧ CZ s w M ∧ M 46 3 = (w : Int) ∧ ∀ p, p < n → M 47 p = rst s w p
theorem p_isPartner (M : am_M) (s : Nat → Int) (n w a f : Nat) (hv : vT s) (hn : s 1 = (n : Int)) (hK : KX s n w M) (ha : a < n) (hf : f < n) (haf : a ≠ f) (h71 : ∀ g, g < n → M 71 g = ngt s (rst s w) n w g) : ∃ M', cY 50 [rV 70, iV (a : Int), iV (f : Int)] M = some (if hlp s n w a f = true then 1 else 0, M') ∧ (∀ x, x < 46 ∨ 54 < x → M' x = M x) ∧ KX s n w M' := by
  have hb1 := hv.2.1
  obtain ⟨hQ, hN, hZ, h46, h47⟩ := hK
  have hP := isP_rst hv hn w
  have hP1 := isP_o1 hv hn w ha hf haf
  have e04 : M 0 4 = (n : Int) := by rw [hQ.1.1, hn]
  obtain ⟨M1, a1, a2, a3⟩ := p_exchange M (rst s w) (a : Int) (f : Int) n e04 (by omega) h47 hP (by omega) (by omega)
  obtain ⟨M2, b1, b2, b3, b4⟩ := p_reckon M1 s (o1s s n w a f) n w hv hn hP1 (cQ_eq hQ (fun x hx => a2 x (by omega))) (CN_eq hN (a2 40 (by decide)) (a2 41 (by decide)) (a2 42 (by decide))) (by rw [a2 46 (by decide)]; exact h46) (fun p hp => by rw [a3 p hp]; exact (mt2_swp hP ha hf haf hp).symm)
  have k2 : ∀ x, x < 46 ∨ 54 < x → M2 x = M x := fun x hx => by rw [b2 x (by omega), a2 x (by omega)]
  have hX : CX s (o1s s n w a f) n w M2 := ⟨cQ_eq hQ (fun x hx => k2 x (by omega)), CN_eq hN (k2 40 (by omega)) (k2 41 (by omega)) (k2 42 (by omega)), CZ_eq hZ (k2 43 (by omega)) (k2 44 (by omega)) (k2 45 (by omega)), b4, fun p hp => by rw [b2 47 (by omega), a3 p hp]; exact (mt2_swp hP ha hf haf hp).symm⟩
  obtain ⟨M3, c1, c2, c3⟩ := p_exchange M2 (o1s s n w a f) (a : Int) (f : Int) n (by rw [k2 0 (by omega)]; exact e04) (by omega) hX.2.2.2.2 hP1 (by omega) (by omega)
  have hK3 : KX s n w M3 := by
    refine ⟨cQ_eq hX.1 (fun x hx => c2 x (by omega)), CN_eq hX.2.1 (c2 40 (by decide)) (c2 41 (by decide)) (c2 42 (by decide)), CZ_eq hX.2.2.1 (c2 43 (by decide)) (c2 44 (by decide)) (c2 45 (by decide)), by rw [c2 46 (by decide)]; exact b3, fun p hp => ?_⟩
    rw [c3 p hp]
    have e : swp (o1s s n w a f) (a : Int) (f : Int) p = swp (swp (rst s w) (a : Int) (f : Int)) (a : Int) (f : Int) p := by
      unfold swp
      rw [show o1s s n w a f p = swp (rst s w) (a : Int) (f : Int) p from mt2_swp hP ha hf haf hp]
      rfl
    rw [e, swp_swp (by omega)]
  have fin : ∀ v, cY 50 [rV 70, iV (a : Int), iV (f : Int)] M = some (v, M3) → v = (if hlp s n w a f = true then 1 else 0) → ∃ M', cY 50 [rV 70, iV (a : Int), iV (f : Int)] M = some (if hlp s n w a f = true then 1 else 0, M') ∧ (∀ x, x < 46 ∨ 54 < x → M' x = M x) ∧ KX s n w M' := fun v h1 h2 => ⟨M3, by rw [h1, h2], fun x hx => by rw [c2 x (by omega), k2 x hx], hK3⟩
  have hhl : hlp s n w a f = (decide (fls s (o1s s n w a f) n n = 0) && (decide (ngt s (o1s s n w a f) n w a < ngt s (rst s w) n w a) && decide (ngt s (o1s s n w a f) n w f ≤ ngt s (rst s w) n w f))) := by
    unfold hlp
    rw [decide_eq_true (show f ≠ a from fun h => haf h.symm), Bool.true_and]
  have hh := e_Desk_isPartner (a : Int) (f : Int) M
  rw [a1, am_cb_s, b1, am_cb_s, b4.2.2.1] at hh
  by_cases q1 : fls s (o1s s n w a f) n n = 0
  · rw [if_pos q1, p_nightOf hv hn hP1 hX ha, am_cb_s, r_bd_ok (by omega) (by omega), Int.toNat_natCast, k2 71 (by omega), h71 a ha] at hh
    by_cases q2 : ngt s (o1s s n w a f) n w a < ngt s (rst s w) n w a
    · rw [if_pos q2, p_nightOf hv hn hP1 hX hf, am_cb_s, r_bd_ok (by omega) (by omega), Int.toNat_natCast, k2 71 (by omega), h71 f hf] at hh
      by_cases q3 : ngt s (rst s w) n w f < ngt s (o1s s n w a f) n w f
      · rw [if_pos q3, c1, am_cb_s] at hh
        refine fin 0 hh ?_
        rw [hhl, decide_eq_true q1, decide_eq_true q2, decide_eq_false (by omega), if_neg (by decide)]
      · rw [if_neg q3, c1, am_cb_s] at hh
        refine fin 1 hh ?_
        rw [hhl, decide_eq_true q1, decide_eq_true q2, decide_eq_true (by omega), if_pos (by decide)]
    · rw [if_neg q2, c1, am_cb_s] at hh
      refine fin 0 hh ?_
      rw [hhl, decide_eq_false q2, Bool.false_and, Bool.and_false, if_neg (by decide)]
  · rw [if_neg q1, c1, am_cb_s] at hh
    refine fin 0 hh ?_
    rw [hhl, decide_eq_false q1, Bool.false_and, if_neg (by decide)]
theorem o36 : lw_O36 RI := by
  intro a b ha hb M hR hM
  have hR2 : RI (am_up M 72 6 0) := RI_mf (mf_up (mf.rf M) (by omega)) hR
  obtain ⟨r1, r2, r3, r4, r5, r6, r7, r8, r9, r10, r11⟩ := id hR
  have hb1 := r1.2.1
  obtain ⟨n, hn⟩ : ∃ n : Nat, M 73 1 = (n : Int) := ⟨(M 73 1).toNat, by omega⟩
  have e0 : M 0 4 = (n : Int) := by rw [← hn]; exact r2.2.1
  have e73 : (am_up M 72 6 0) 73 = M 73 := am_up_ne M 72 6 0 (by decide)
  by_cases h : 0 ≤ b ∧ b < (n : Int)
  · by_cases hw : 0 ≤ a ∧ a ≤ 51
    · obtain ⟨w, rfl⟩ : ∃ w : Nat, a = (w : Int) := ⟨a.toNat, by omega⟩
      obtain ⟨fd, rfl⟩ : ∃ fd : Nat, b = (fd : Int) := ⟨b.toNat, by omega⟩
      obtain ⟨s, hs⟩ : ∃ s, M 73 = s := ⟨_, rfl⟩
      have hn0 := hn
      rw [hs] at r1 r2 r11 hn hb1
      have hP := isP_rst r1 hn w
      obtain ⟨M1, a1, a2, a3⟩ := p_planWeek M s n w r1 hn r2 r3 (by omega)
      have h46 : M1 46 3 = (w : Int) := by
        obtain ⟨N1, x1, x2, x3⟩ := p_letIn0 M s r1 r2
        have hQ1 : cQ s N1 := cQ_eq (cQ_of r1 r2 r3 (md.rf s)) (fun a ha => x2 a (by omega) (by omega) (by omega))
        have e5 : N1 10 5 = s 10 := by rw [x2 10 (by decide) (by decide) (by decide)]; exact r2.2.2.2.2.2.1 5 (by omega)
        obtain ⟨N2, y1, y2, y3, y4, y5⟩ := p_lineUp N1 s w n r1 hQ1.2.1 hn (by omega)
        obtain ⟨N3, z1, z2, z3, z4⟩ := p_reckon N2 s (rst s w) n w r1 hn hP (cQ_eq hQ1 (fun a ha => y2 a (by omega))) (CN_eq x3 (y2 40 (by omega)) (y2 41 (by omega)) (y2 42 (by omega))) y3 y4
        have : cY 52 [rV 70, iV (w : Int)] M = some (0, N3) := by rw [e_Desk_planWeek, x1, am_cb_s, e5, y1, am_cb_s, z1, am_cb_s]
        rw [a1] at this
        cases this
        exact z3
      have ef := a3.2.2.2.1.2.2.1
      by_cases q : fls s (rst s w) n n = 0
      · -- the nights
        obtain ⟨dd, M2, h2, i1, i2⟩ := lp_up (α := Option am_V × Option am_V) (X := fun k d M => cX 41 23 [some (rV 70), d.1, some (iV (fd : Int)), some (iV (k : Int)), d.2] [] M) (n := n) (I := fun k M' => (∀ x, x ≠ 71 → M' x = M1 x) ∧ ∀ g, g < k → M' 71 g = ngt s (rst s w) n w g) (by
          intro k hk d M' hI
          obtain ⟨i1, i2⟩ := hI
          have hX : CX s (rst s w) n w M' := by
            obtain ⟨x1, x2, x3, x4, x5⟩ := a3
            refine ⟨cQ_eq x1 (fun a ha => i1 a (by omega)), CN_eq x2 (i1 40 (by decide)) (i1 41 (by decide)) (i1 42 (by decide)), CZ_eq x3 (i1 43 (by decide)) (i1 44 (by decide)) (i1 45 (by decide)), ?_, fun p hp => by rw [i1 47 (by decide)]; exact x5 p hp⟩
            unfold CW at x4 ⊢
            rw [i1 48 (by decide), i1 49 (by decide), i1 50 (by decide), i1 52 (by decide), i1 46 (by decide), i1 53 (by decide), i1 54 (by decide)]
            exact x4
          have hh := e_Desk_partners_23 (fd : Int) (k : Int) d.1 d.2 M'
          rw [hX.1.1.1, hn, if_pos (by omega), p_nightOf r1 hn hP hX hk, am_cb_s, r_bd_ok (by omega) (by omega), r_ck_ok (by omega) (by omega), Int.toNat_natCast] at hh
          refine ⟨(none, none), _, hh, fun x hx => (am_up_ne _ _ _ _ hx).trans (i1 x hx), fun g hg => ?_⟩
          by_cases e : g = k
          · subst e; rw [am_up_at]
          · rw [am_up_nj _ _ _ _ e]; exact i2 g (by omega)) n 0 (by omega) (some (iV (w : Int)), none) M1 ⟨fun _ _ => rfl, fun g hg => by omega⟩
        have hK2 : KX s n w M2 := ⟨cQ_eq a3.1 (fun a ha => i1 a (by omega)), CN_eq a3.2.1 (i1 40 (by decide)) (i1 41 (by decide)) (i1 42 (by decide)), CZ_eq a3.2.2.1 (i1 43 (by decide)) (i1 44 (by decide)) (i1 45 (by decide)), by rw [i1 46 (by decide)]; exact h46, fun p hp => by rw [i1 47 (by decide)]; exact a3.2.2.2.2 p hp⟩
        obtain ⟨d1, M3, h3, j1, j2, j3⟩ := lp_up (α := Option am_V) (X := fun k d M => cX 41 42 [some (rV 70), d, some (iV (fd : Int)), some (iV ((bts (hlp s n w fd) k : Nat) : Int)), some (iV (k : Int))] [] M) (n := n) (I := fun k M' => (∀ x, x < 46 ∨ 54 < x → M' x = M2 x) ∧ KX s n w M' ∧ ∀ g, g < n → M' 71 g = ngt s (rst s w) n w g) (by
          intro k hk d M' hI
          obtain ⟨j1, j2, j3⟩ := hI
          have hh := e_Desk_partners_42 (fd : Int) ((bts (hlp s n w fd) k : Nat) : Int) (k : Int) d M'
          have eb : bts (hlp s n w fd) (k + 1) = if hlp s n w fd k = true then bts (hlp s n w fd) k ||| 2 ^ k else bts (hlp s n w fd) k := rfl
          rw [j2.1.1.1, hn, if_pos (by omega)] at hh
          by_cases c : k = fd
          · have hno : hlp s n w fd k = false := by unfold hlp; rw [decide_eq_false (by omega), Bool.false_and]
            rw [hno] at eb
            rw [if_pos (by omega), r_ck_ok (by omega) (by omega)] at hh
            refine ⟨none, M', ?_, j1, j2, j3⟩
            show _ = cX 41 42 [some (rV 70), none, some (iV (fd : Int)), some (iV ((bts (hlp s n w fd) (k + 1) : Nat) : Int)), some (iV ((k + 1 : Nat) : Int))] [] M'
            rw [eb, if_neg (by decide)]
            exact hh
          · obtain ⟨M4, b1, b2, b3⟩ := p_isPartner M' s n w fd k r1 hn j2 (by omega) hk (by omega) j3
            rw [if_neg (by omega), b1, am_cb_s] at hh
            have hbk := bts_lt31 (hlp s n w fd) (k := k) (by omega)
            refine ⟨none, M4, ?_, fun x hx => by rw [b2 x hx, j1 x hx], b3, fun g hg => by rw [b2 71 (by omega)]; exact j3 g hg⟩
            show _ = cX 41 42 [some (rV 70), none, some (iV (fd : Int)), some (iV ((bts (hlp s n w fd) (k + 1) : Nat) : Int)), some (iV ((k + 1 : Nat) : Int))] [] M4
            by_cases z : hlp s n w fd k = true
            · rw [if_pos z, if_neg (by decide), r_ck_ok (by omega) (by omega), b_set hbk (by omega)] at hh
              rw [eb, if_pos z]
              exact hh
            · rw [if_neg z, if_pos rfl, r_ck_ok (by omega) (by omega)] at hh
              rw [eb, if_neg z]
              exact hh) n 0 (by omega) none M2 ⟨fun _ _ => rfl, hK2, i2⟩
        have k3 : ∀ x, x < 40 ∨ (54 < x ∧ x ≠ 71) → M3 x = M x := fun x hx => by rw [j1 x (by omega), i1 x (by omega), a2 x (by omega)]
        have hR1 : RI M3 := RI_cf (fun x hx => k3 x (by omega)) hR
        have hR3 : RI (am_up M3 72 6 0) := RI_mf (mf_up (mf.rf M3) (by omega)) hR1
        have f73 : (am_up M3 72 6 0) 73 = s := by rw [am_up_ne _ _ _ _ (by decide), k3 73 (by omega), hs]
        have f88 : ∀ i, i < 8 → (am_up M3 72 6 0) 88 i = -1 := fun i hi => by rw [am_up_ne _ _ _ _ (by decide), k3 88 (by omega)]; exact r10 i hi
        -- the reference
        obtain ⟨M4, c1, c2, c3⟩ := p_lays0 (am_up M3 72 6 0) n w (by rw [f73]; exact r1) (by rw [f73]; exact hn) (by omega) f88
        rw [f73] at c3
        have s4 : M4 73 = s := by rw [c2.1 73 (by omega), f73]
        have em : M4 72 24 = fls s (rst s w) n n := by have := c3.2.2.2.2.2.2.2.1; rw [s4] at this; exact this
        obtain ⟨dd2, M5, h5, l1, l2⟩ := lp_up (α := Option am_V) (X := fun k d M => cX 152 24 [some (rV 72), some (iV (w : Int)), some (iV (fd : Int)), some (iV (k : Int)), d] [] M) (n := n) (I := fun k M' => (∀ x, x ≠ 91 → M' x = M4 x) ∧ ∀ g, g < k → M' 91 g = ngt s (rst s w) n w g) (by
          intro k hk d M' hI
          obtain ⟨l1, l2⟩ := hI
          have hX := MX_eq c3 (M' := M') (fun a ha => l1 a (by omega))
          have hng := p_mnightOf hX hk
          have s5 : M' 73 = s := by rw [l1 73 (by decide), s4]
          rw [s5] at hng
          have hh := e_Model_partners_24 (w : Int) (fd : Int) (k : Int) d M'
          rw [s5, hn, if_pos (by omega), hng, am_cb_s, r_bd_ok (by omega) (by omega), r_ck_ok (by omega) (by omega), Int.toNat_natCast] at hh
          refine ⟨none, _, hh, fun x hx => (am_up_ne _ _ _ _ hx).trans (l1 x hx), fun g hg => ?_⟩
          by_cases e : g = k
          · subst e; rw [am_up_at]
          · rw [am_up_nj _ _ _ _ e]; exact l2 g (by omega)) n 0 (by omega) none M4 ⟨fun _ _ => rfl, fun g hg => by omega⟩
        have mf5 : mf (am_up M3 72 6 0) M5 := c2.mf.tr ⟨fun a _ y => l1 a (by omega), by rw [l1 72 (by decide)], by rw [l1 72 (by decide)], by rw [l1 72 (by decide)], by rw [l1 72 (by decide)]⟩
        obtain ⟨-, M6, h6, m1, m2⟩ := lp_up (α := Unit) (X := fun k _ M => cX 152 44 [some (rV 72), some (iV (w : Int)), some (iV (fd : Int)), some (iV ((bts (hlp s n w fd) k : Nat) : Int)), some (iV (k : Int))] [] M) (n := n) (I := fun k M' => mf (am_up M3 72 6 0) M' ∧ ∀ g, g < n → M' 91 g = ngt s (rst s w) n w g) (by
          intro k hk d M' hI
          obtain ⟨m1, m2⟩ := hI
          have s1 : M' 73 = s := by rw [m1.1 73 (by decide) (by omega), f73]
          have h88 : ∀ i, i < 8 → M' 88 i = -1 := fun i hi => by rw [m1.1 88 (by decide) (by omega)]; exact f88 i hi
          have hh := e_Model_partners_44 (w : Int) (fd : Int) ((bts (hlp s n w fd) k : Nat) : Int) (k : Int) M'
          have eb : bts (hlp s n w fd) (k + 1) = if hlp s n w fd k = true then bts (hlp s n w fd) k ||| 2 ^ k else bts (hlp s n w fd) k := rfl
          rw [s1, hn, if_pos (by omega)] at hh
          by_cases c : k = fd
          · have hno : hlp s n w fd k = false := by unfold hlp; rw [decide_eq_false (by omega), Bool.false_and]
            rw [hno] at eb
            rw [if_pos (by omega), r_ck_ok (by omega) (by omega)] at hh
            refine ⟨(), M', ?_, m1, m2⟩
            show _ = cX 152 44 [some (rV 72), some (iV (w : Int)), some (iV (fd : Int)), some (iV ((bts (hlp s n w fd) (k + 1) : Nat) : Int)), some (iV ((k + 1 : Nat) : Int))] [] M'
            rw [eb, if_neg (by decide)]
            exact hh
          · have hc1 : cY 153 [rV 72, iV (fd : Int), iV (k : Int), iV 1] M' = some (0, am_up (am_up M' 88 fd (k : Int)) 88 k (fd : Int)) := by
              rw [e_Model_couples, if_neg (by decide), r_bd_ok (by omega) (by omega), if_neg (by decide), r_bd_ok (by omega) (by omega), Int.toNat_natCast, Int.toNat_natCast]
            have u : ∀ x, x ≠ 88 → (am_up (am_up M' 88 fd (k : Int)) 88 k (fd : Int)) x = M' x := fun x hx => by rw [am_up_ne _ _ _ _ hx, am_up_ne _ _ _ _ hx]
            have u88 : ∀ i, i < n → (am_up (am_up M' 88 fd (k : Int)) 88 k (fd : Int)) 88 i = mt2 fd k i := fun i hi => by
              unfold mt2
              by_cases z1 : i = k
              · subst z1; rw [am_up_at, us_at]
              · rw [am_up_nj _ _ _ _ z1, us_ne _ _ _ z1]
                by_cases z2 : i = fd
                · subst z2; rw [am_up_at, us_at]
                · rw [am_up_nj _ _ _ _ z2, us_ne _ _ _ z2]; exact h88 i (by omega)
            obtain ⟨M7, x1, x2, x3⟩ := p_laysWeek (am_up (am_up M' 88 fd (k : Int)) 88 k (fd : Int)) w n (o1s s n w fd k) (by rw [u 73 (by decide), s1]; exact r1) (by rw [u 73 (by decide), s1]; exact hn) (by omega) (fun f hf => by rw [u88 f hf]; exact mtc_lt (mt2_c (by omega) hk (by omega)) hf) (by rw [u 73 (by decide), s1]; exact mtk_c n (fun f hf => (u88 f hf).symm))
            rw [u 73 (by decide), s1] at x3
            have s7 : M7 73 = s := by rw [x2.1 73 (by omega), u 73 (by decide), s1]
            have hP1 := isP_o1 r1 hn w (a := fd) (b := k) (by omega) hk (by omega)
            have hX7 : MX (o1s s n w fd k) n w M7 := by unfold MX; rw [s7]; exact ⟨r1, hn, hP1, by omega, x3⟩
            have ng1 := p_mnightOf hX7 (f := fd) (by omega)
            have ng2 := p_mnightOf hX7 hk
            rw [s7] at ng1 ng2
            have d91 : ∀ g, g < n → M7 91 g = ngt s (rst s w) n w g := fun g hg => by rw [x2.1 91 (by omega), u 91 (by decide)]; exact m2 g hg
            have hc2 : cY 153 [rV 72, iV (fd : Int), iV (k : Int), iV 0] M7 = some (0, am_up (am_up M7 88 fd (-1)) 88 k (-1)) := by
              rw [e_Model_couples, if_pos rfl, r_bd_ok (by omega) (by omega), if_pos rfl, r_bd_ok (by omega) (by omega), Int.toNat_natCast, Int.toNat_natCast]
            have v : ∀ x, x ≠ 88 → (am_up (am_up M7 88 fd (-1)) 88 k (-1)) x = M7 x := fun x hx => by rw [am_up_ne _ _ _ _ hx, am_up_ne _ _ _ _ hx]
            have v88 : (am_up (am_up M7 88 fd (-1)) 88 k (-1)) 88 = M' 88 := by
              funext i
              by_cases z1 : i = k
              · subst z1; rw [am_up_at, h88 _ (by omega)]
              · rw [am_up_nj _ _ _ _ z1]
                by_cases z2 : i = fd
                · subst z2; rw [am_up_at, h88 _ (by omega)]
                · rw [am_up_nj _ _ _ _ z2, x2.1 88 (by omega), am_up_nj _ _ _ _ z1, am_up_nj _ _ _ _ z2]
            have u72 : ∀ j, (am_up (am_up M' 88 fd (k : Int)) 88 k (fd : Int)) 72 j = M' 72 j := fun j => by rw [u 72 (by decide)]
            have mfn : mf M' (am_up (am_up M7 88 fd (-1)) 88 k (-1)) := by
              refine ⟨fun x y1 y2 => ?_, ?_, ?_, ?_, ?_⟩
              · by_cases z : x = 88
                · rw [z, v88]
                · rw [v x z, x2.1 x (by omega), u x z]
              all_goals rw [v 72 (by decide), x2.2 _ (by decide) (by decide) (by decide), u72]
            have n89 : ∀ x3 : Int, cX 152 89 [some (rV 72), some (iV (w : Int)), some (iV (fd : Int)), some (iV x3), some (iV (k : Int))] [] M7 = cX 152 44 [some (rV 72), some (iV (w : Int)), some (iV (fd : Int)), some (iV x3), some (iV ((k : Int) + 1))] [] (am_up (am_up M7 88 fd (-1)) 88 k (-1)) := fun x3 => by
              rw [e_Model_partners_89, hc2, am_cb_s, r_ck_ok (by omega) (by omega)]
            have hbk := bts_lt31 (hlp s n w fd) (k := k) (by omega)
            have hhl : hlp s n w fd k = (decide (fls s (o1s s n w fd k) n n = 0) && (decide (ngt s (o1s s n w fd k) n w fd < ngt s (rst s w) n w fd) && decide (ngt s (o1s s n w fd k) n w k ≤ ngt s (rst s w) n w k))) := by
              unfold hlp
              rw [decide_eq_true c, Bool.true_and]
            refine ⟨(), am_up (am_up M7 88 fd (-1)) 88 k (-1), ?_, m1.tr mfn, fun g hg => by rw [v 91 (by decide)]; exact d91 g hg⟩
            show _ = cX 152 44 [some (rV 72), some (iV (w : Int)), some (iV (fd : Int)), some (iV ((bts (hlp s n w fd) (k + 1) : Nat) : Int)), some (iV ((k + 1 : Nat) : Int))] [] (am_up (am_up M7 88 fd (-1)) 88 k (-1))
            rw [eb]
            rw [if_neg (by omega), hc1, am_cb_s, x1, am_cb_s, x3.2.2.2.1] at hh
            by_cases q1 : fls s (o1s s n w fd k) n n = 0
            · rw [if_pos q1, ng1, am_cb_s, r_bd_ok (by omega) (by omega), Int.toNat_natCast, d91 fd (by omega)] at hh
              by_cases q2 : ngt s (o1s s n w fd k) n w fd < ngt s (rst s w) n w fd
              · rw [if_pos q2, ng2, am_cb_s, r_bd_ok (by omega) (by omega), Int.toNat_natCast, d91 k hk] at hh
                by_cases q3 : ngt s (rst s w) n w k < ngt s (o1s s n w fd k) n w k
                · rw [hhl, decide_eq_true q1, decide_eq_true q2, decide_eq_false (by omega), if_neg (by decide)]
                  rw [if_pos q3, n89] at hh
                  exact hh
                · rw [hhl, decide_eq_true q1, decide_eq_true q2, decide_eq_true (by omega), if_pos (by decide)]
                  rw [if_neg q3, n89, b_set hbk (by omega)] at hh
                  exact hh
              · rw [hhl, decide_eq_false q2, Bool.false_and, Bool.and_false, if_neg (by decide)]
                rw [if_neg q2, n89] at hh
                exact hh
            · rw [hhl, decide_eq_false q1, Bool.false_and, if_neg (by decide)]
              rw [if_neg q1, n89] at hh
              exact hh) n 0 (by omega) () M5 ⟨mf5, l2⟩
        refine ⟨((bts (hlp s n w fd) n : Nat) : Int), M3, M6, ?_, ?_, RI_mf m1 hR3⟩
        · rw [e_Desk_partners, p_lacksField, am_cb_s, e0, if_pos h, if_pos rfl, p_isNoWeek, am_cb_s, if_pos hw, if_pos rfl, a1, am_cb_s, ef, if_pos q]
          refine h2.trans ?_
          rw [e_Desk_partners_23, hK2.1.1.1, hn, if_neg (by omega)]
          refine h3.trans ?_
          rw [e_Desk_partners_42, j2.1.1.1, hn, if_neg (by omega)]
        · rw [e_Model_partners, p_isF' M M3 _ n (by omega) hn0 (k3 73 (by omega)), am_cb_s, if_pos h, if_neg (by decide), p_isWeek, am_cb_s, if_pos hw, if_neg (by decide), c1, am_cb_s, em, if_pos q]
          refine h5.trans ?_
          rw [e_Model_partners_24, l1 73 (by decide), s4, hn, if_neg (by omega)]
          refine h6.trans ?_
          rw [e_Model_partners_44, m1.1 73 (by decide) (by omega), f73, hn, if_neg (by omega)]
      · have hR1 : RI M1 := RI_cf (fun x hx => a2 x (by omega)) hR
        have hR3 : RI (am_up M1 72 6 0) := RI_mf (mf_up (mf.rf M1) (by omega)) hR1
        have f73 : (am_up M1 72 6 0) 73 = s := by rw [am_up_ne _ _ _ _ (by decide), a2 73 (by omega), hs]
        obtain ⟨M4, c1, c2, c3⟩ := p_lays0 (am_up M1 72 6 0) n w (by rw [f73]; exact r1) (by rw [f73]; exact hn) (by omega) (fun i hi => by rw [am_up_ne _ _ _ _ (by decide), a2 88 (by omega)]; exact r10 i hi)
        rw [f73] at c3
        have s4 : M4 73 = s := by rw [c2.1 73 (by omega), f73]
        have em : M4 72 24 = fls s (rst s w) n n := by have := c3.2.2.2.2.2.2.2.1; rw [s4] at this; exact this
        refine ⟨-6, M1, M4, ?_, ?_, RI_mf c2.mf hR3⟩
        · rw [e_Desk_partners, p_lacksField, am_cb_s, e0, if_pos h, if_pos rfl, p_isNoWeek, am_cb_s, if_pos hw, if_pos rfl, a1, am_cb_s, ef, if_neg q]
        · rw [e_Model_partners, p_isF' M M1 _ n (by omega) hn0 (a2 73 (by omega)), am_cb_s, if_pos h, if_neg (by decide), p_isWeek, am_cb_s, if_pos hw, if_neg (by decide), c1, am_cb_s, em, if_neg q]
    · refine ⟨-3, M, am_up M 72 6 0, ?_, ?_, hR2⟩
      · rw [e_Desk_partners, p_lacksField, am_cb_s, e0, if_pos h, if_pos rfl, p_isNoWeek, am_cb_s, if_neg hw, if_neg (by decide)]
      · rw [e_Model_partners, p_isF0 M _ n (by omega) hn, am_cb_s, if_pos h, if_neg (by decide), p_isWeek, am_cb_s, if_neg hw, if_pos rfl]
  · refine ⟨-2, M, am_up M 72 6 0, ?_, ?_, hR2⟩
    · rw [e_Desk_partners, p_lacksField, am_cb_s, e0, if_neg h, if_neg (by decide)]
    · rw [e_Model_partners, p_isF0 M _ n (by omega) hn, am_cb_s, if_neg h, if_pos rfl]
