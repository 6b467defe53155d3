-- undo
theorem cT_Rl {T U : Nat → Int} {M : am_M} {b : Nat} (h : Rl T U) (hc : cT U M b) : cT T M b := by
  obtain ⟨l0, lr, lf, lo, ls, ll, lh⟩ := h
  obtain ⟨c0, c1, c2, c3, c4, hset, hz, hr, hf, ho, hs, hl', hh⟩ := hc
  refine ⟨by rw [l0 0 (by omega)]; exact c0, by rw [l0 1 (by omega)]; exact c1, by rw [l0 2 (by omega)]; exact c2, by rw [l0 3 (by omega)]; exact c3, by rw [l0 4 (by omega)]; exact c4, fun i hi => by rw [l0 _ (by omega)]; exact hset i hi, hz, fun r hr' => ?_, fun r hr' => ?_, fun r hr' => ?_, fun i hi j hj => ?_, fun i hi j hj => ?_, fun i hi j hj => ?_⟩
  · have q0 := lr r hr' 0 (by omega)
    have q1 := lr r hr' 1 (by omega)
    have q2 := lr r hr' 2 (by omega)
    rw [show 12 + 3 * r + 1 = 13 + 3 * r by omega] at q1
    rw [show 12 + 3 * r + 2 = 14 + 3 * r by omega] at q2
    rw [Nat.add_zero] at q0
    rw [q0, q1, q2]
    exact hr r (by rw [← l0 0 (by omega)]; exact hr')
  · have q0 := lf r hr' 0 (by omega)
    have q1 := lf r hr' 1 (by omega)
    have q2 := lf r hr' 2 (by omega)
    have q3 := lf r hr' 3 (by omega)
    rw [show 42 + 4 * r + 1 = 43 + 4 * r by omega] at q1
    rw [show 42 + 4 * r + 2 = 44 + 4 * r by omega] at q2
    rw [show 42 + 4 * r + 3 = 45 + 4 * r by omega] at q3
    rw [Nat.add_zero] at q0
    rw [q0, q1, q2, q3]
    exact hf r (by rw [← l0 1 (by omega)]; exact hr')
  · rw [lo r hr']; exact ho r (by rw [← l0 1 (by omega)]; exact hr')
  · rw [ls i hi j hj]; exact hs i (by rw [← l0 2 (by omega)]; exact hi) j hj
  · rw [ll i hi j hj]; exact hl' i (by rw [← l0 3 (by omega)]; exact hi) j hj
  · rw [lh i hi j hj]; exact hh i (by rw [← l0 4 (by omega)]; exact hi) j hj
theorem cT_soakv {s : Nat → Int} {M : am_M} (h : cT s M 0) (hv : vT s) {r0 : Nat} {v : Int} (h0 : (r0 : Int) < s 0) : cT (us s (14 + 3 * r0) v) (am_up M 3 r0 v) 0 := by
  have hb := hv.1
  have e : ∀ k, k < 12 ∨ 42 ≤ k → us s (14 + 3 * r0) v k = s k := fun k hk => us_ne _ _ _ (by omega)
  have eM : ∀ a, a ≠ 3 → am_up M 3 r0 v a = M a := fun a ha => am_up_ne M 3 r0 v ha
  obtain ⟨c0, c1, c2, c3, c4, hset, hz, hr, hf, ho, hs, hl, hh⟩ := h
  simp only [Nat.zero_add] at *
  refine ⟨?_, ?_, ?_, ?_, ?_, ?_, ?_, ?_, ?_, ?_, ?_, ?_, ?_⟩
  · rw [eM 0 (by decide), e 0 (by omega)]; exact c0
  · rw [eM 0 (by decide), e 1 (by omega)]; exact c1
  · rw [eM _ (by decide), e 2 (by omega)]; exact c2
  · rw [eM _ (by decide), e 3 (by omega)]; exact c3
  · rw [eM _ (by decide), e 4 (by omega)]; exact c4
  · intro k hk; rw [eM _ (by decide), e _ (by omega)]; exact hset k hk
  · rw [eM _ (by decide), eM _ (by decide)]; exact hz
  · intro r hr'; rw [e 0 (by omega)] at hr'
    obtain ⟨q1, q2, q3⟩ := hr r hr'
    rw [eM (0 + 1) (by decide), eM (0 + 2) (by decide), us_ne _ _ _ (show 12 + 3 * r ≠ 14 + 3 * r0 by omega), us_ne _ _ _ (show 13 + 3 * r ≠ 14 + 3 * r0 by omega)]
    refine ⟨q1, q2, ?_⟩
    by_cases er : r = r0
    · subst er; show am_up M 3 r v 3 r = _; rw [am_up_at, us_at]
    · show am_up M 3 r0 v 3 r = _; rw [am_up_nj M 3 r0 v er, us_ne _ _ _ (by omega)]; exact q3
  · intro r hr'; rw [e 1 (by omega)] at hr'; rw [eM _ (by decide), eM _ (by decide), eM _ (by decide), eM _ (by decide), e _ (by omega), e _ (by omega), e _ (by omega), e _ (by omega)]; exact hf r hr'
  · intro r hr'; rw [e 1 (by omega)] at hr'; rw [eM _ (by decide), e _ (by omega)]; exact ho r hr'
  · intro k hk j hj; rw [e 2 (by omega)] at hk; rw [eM _ (by decide), e _ (by omega)]; exact hs k hk j hj
  · intro k hk j hj; rw [e 3 (by omega)] at hk; rw [eM _ (by decide), e _ (by omega)]; exact hl k hk j hj
  · intro k hk j hj; rw [e 4 (by omega)] at hk; rw [eM _ (by decide), e _ (by omega)]; exact hh k hk j hj
theorem cT_drop2 {s : Nat → Int} {M : am_M} (h : cT s M 0) (h1 : 1 ≤ s 2) : cT (us s 2 (s 2 - 1)) (am_up M 11 3 (s 2 - 1)) 0 := by
  have e : ∀ k, k ≠ 2 → us s 2 (s 2 - 1) k = s k := fun k hk => us_ne _ _ _ hk
  have eM : ∀ a, a ≠ 11 → am_up M 11 3 (s 2 - 1) a = M a := fun a ha => am_up_ne _ _ _ _ ha
  obtain ⟨c0, c1, c2, c3, c4, hset, hz, hr, hf, ho, hs, hl, hh⟩ := h
  simp only [Nat.zero_add] at *
  refine ⟨?_, ?_, ?_, ?_, ?_, ?_, ?_, ?_, ?_, ?_, ?_, ?_, ?_⟩
  · rw [eM 0 (by decide), e 0 (by omega)]; exact c0
  · rw [eM 0 (by decide), e 1 (by omega)]; exact c1
  · first | (rw [eM _ (by decide), e 2 (by omega)]; exact c2) | (rw [us_at]; exact am_up_at _ _ _ _)
  · first | (rw [eM _ (by decide), e 3 (by omega)]; exact c3) | (rw [us_at]; exact am_up_at _ _ _ _)
  · first | (rw [eM _ (by decide), e 4 (by omega)]; exact c4) | (rw [us_at]; exact am_up_at _ _ _ _)
  · intro k hk; rw [eM _ (by decide), e _ (by omega)]; exact hset k hk
  · rw [eM _ (by decide), eM _ (by decide)]; exact hz
  · intro r hr'; rw [e 0 (by omega)] at hr'; rw [eM _ (by decide), eM _ (by decide), eM _ (by decide), e _ (by omega), e _ (by omega), e _ (by omega)]; exact hr r hr'
  · intro r hr'; rw [e 1 (by omega)] at hr'; rw [eM _ (by decide), eM _ (by decide), eM _ (by decide), eM _ (by decide), e _ (by omega), e _ (by omega), e _ (by omega), e _ (by omega)]; exact hf r hr'
  · intro r hr'; rw [e 1 (by omega)] at hr'; rw [eM _ (by decide), e _ (by omega)]; exact ho r hr'
  · intro k hk j hj
    have hk' : (k : Int) < s 2 := by
      first | (rw [e 2 (by omega)] at hk; exact hk) | (rw [us_at] at hk; omega)
    rw [eM _ (by decide), e _ (by omega)]; exact hs k hk' j hj
  · intro k hk j hj
    have hk' : (k : Int) < s 3 := by
      first | (rw [e 3 (by omega)] at hk; exact hk) | (rw [us_at] at hk; omega)
    rw [eM _ (by decide), e _ (by omega)]; exact hl k hk' j hj
  · intro k hk j hj
    have hk' : (k : Int) < s 4 := by
      first | (rw [e 4 (by omega)] at hk; exact hk) | (rw [us_at] at hk; omega)
    rw [eM _ (by decide), e _ (by omega)]; exact hh k hk' j hj
theorem cT_drop3 {s : Nat → Int} {M : am_M} (h : cT s M 0) (h1 : 1 ≤ s 3) : cT (us s 3 (s 3 - 1)) (am_up M 13 3 (s 3 - 1)) 0 := by
  have e : ∀ k, k ≠ 3 → us s 3 (s 3 - 1) k = s k := fun k hk => us_ne _ _ _ hk
  have eM : ∀ a, a ≠ 13 → am_up M 13 3 (s 3 - 1) a = M a := fun a ha => am_up_ne _ _ _ _ ha
  obtain ⟨c0, c1, c2, c3, c4, hset, hz, hr, hf, ho, hs, hl, hh⟩ := h
  simp only [Nat.zero_add] at *
  refine ⟨?_, ?_, ?_, ?_, ?_, ?_, ?_, ?_, ?_, ?_, ?_, ?_, ?_⟩
  · rw [eM 0 (by decide), e 0 (by omega)]; exact c0
  · rw [eM 0 (by decide), e 1 (by omega)]; exact c1
  · first | (rw [eM _ (by decide), e 2 (by omega)]; exact c2) | (rw [us_at]; exact am_up_at _ _ _ _)
  · first | (rw [eM _ (by decide), e 3 (by omega)]; exact c3) | (rw [us_at]; exact am_up_at _ _ _ _)
  · first | (rw [eM _ (by decide), e 4 (by omega)]; exact c4) | (rw [us_at]; exact am_up_at _ _ _ _)
  · intro k hk; rw [eM _ (by decide), e _ (by omega)]; exact hset k hk
  · rw [eM _ (by decide), eM _ (by decide)]; exact hz
  · intro r hr'; rw [e 0 (by omega)] at hr'; rw [eM _ (by decide), eM _ (by decide), eM _ (by decide), e _ (by omega), e _ (by omega), e _ (by omega)]; exact hr r hr'
  · intro r hr'; rw [e 1 (by omega)] at hr'; rw [eM _ (by decide), eM _ (by decide), eM _ (by decide), eM _ (by decide), e _ (by omega), e _ (by omega), e _ (by omega), e _ (by omega)]; exact hf r hr'
  · intro r hr'; rw [e 1 (by omega)] at hr'; rw [eM _ (by decide), e _ (by omega)]; exact ho r hr'
  · intro k hk j hj
    have hk' : (k : Int) < s 2 := by
      first | (rw [e 2 (by omega)] at hk; exact hk) | (rw [us_at] at hk; omega)
    rw [eM _ (by decide), e _ (by omega)]; exact hs k hk' j hj
  · intro k hk j hj
    have hk' : (k : Int) < s 3 := by
      first | (rw [e 3 (by omega)] at hk; exact hk) | (rw [us_at] at hk; omega)
    rw [eM _ (by decide), e _ (by omega)]; exact hl k hk' j hj
  · intro k hk j hj
    have hk' : (k : Int) < s 4 := by
      first | (rw [e 4 (by omega)] at hk; exact hk) | (rw [us_at] at hk; omega)
    rw [eM _ (by decide), e _ (by omega)]; exact hh k hk' j hj
theorem cT_drop4 {s : Nat → Int} {M : am_M} (h : cT s M 0) (h1 : 1 ≤ s 4) : cT (us s 4 (s 4 - 1)) (am_up M 15 3 (s 4 - 1)) 0 := by
  have e : ∀ k, k ≠ 4 → us s 4 (s 4 - 1) k = s k := fun k hk => us_ne _ _ _ hk
  have eM : ∀ a, a ≠ 15 → am_up M 15 3 (s 4 - 1) a = M a := fun a ha => am_up_ne _ _ _ _ ha
  obtain ⟨c0, c1, c2, c3, c4, hset, hz, hr, hf, ho, hs, hl, hh⟩ := h
  simp only [Nat.zero_add] at *
  refine ⟨?_, ?_, ?_, ?_, ?_, ?_, ?_, ?_, ?_, ?_, ?_, ?_, ?_⟩
  · rw [eM 0 (by decide), e 0 (by omega)]; exact c0
  · rw [eM 0 (by decide), e 1 (by omega)]; exact c1
  · first | (rw [eM _ (by decide), e 2 (by omega)]; exact c2) | (rw [us_at]; exact am_up_at _ _ _ _)
  · first | (rw [eM _ (by decide), e 3 (by omega)]; exact c3) | (rw [us_at]; exact am_up_at _ _ _ _)
  · first | (rw [eM _ (by decide), e 4 (by omega)]; exact c4) | (rw [us_at]; exact am_up_at _ _ _ _)
  · intro k hk; rw [eM _ (by decide), e _ (by omega)]; exact hset k hk
  · rw [eM _ (by decide), eM _ (by decide)]; exact hz
  · intro r hr'; rw [e 0 (by omega)] at hr'; rw [eM _ (by decide), eM _ (by decide), eM _ (by decide), e _ (by omega), e _ (by omega), e _ (by omega)]; exact hr r hr'
  · intro r hr'; rw [e 1 (by omega)] at hr'; rw [eM _ (by decide), eM _ (by decide), eM _ (by decide), eM _ (by decide), e _ (by omega), e _ (by omega), e _ (by omega), e _ (by omega)]; exact hf r hr'
  · intro r hr'; rw [e 1 (by omega)] at hr'; rw [eM _ (by decide), e _ (by omega)]; exact ho r hr'
  · intro k hk j hj
    have hk' : (k : Int) < s 2 := by
      first | (rw [e 2 (by omega)] at hk; exact hk) | (rw [us_at] at hk; omega)
    rw [eM _ (by decide), e _ (by omega)]; exact hs k hk' j hj
  · intro k hk j hj
    have hk' : (k : Int) < s 3 := by
      first | (rw [e 3 (by omega)] at hk; exact hk) | (rw [us_at] at hk; omega)
    rw [eM _ (by decide), e _ (by omega)]; exact hl k hk' j hj
  · intro k hk j hj
    have hk' : (k : Int) < s 4 := by
      first | (rw [e 4 (by omega)] at hk; exact hk) | (rw [us_at] at hk; omega)
    rw [eM _ (by decide), e _ (by omega)]; exact hh k hk' j hj
theorem bk_us {tg bf : Int} {T : Nat → Int} : bk 1 tg bf T = us T 2 (T 2 - 1) ∧ bk 2 tg bf T = us T 3 (T 3 - 1) ∧ bk 3 tg bf T = us T 4 (T 4 - 1) ∧ bk 4 tg bf T = us T (14 + 3 * tg.toNat) bf ∧ bk 5 tg bf T = us T (5 + tg.toNat) bf ∧ bk 7 tg bf T = us T (43 + 4 * tg.toNat) bf := ⟨rfl, rfl, rfl, rfl, rfl, rfl⟩
theorem bk6_us {tg bf : Int} {T : Nat → Int} : bk 6 tg bf T = us (us T 9 (Int.tdiv bf 100)) 10 (Int.tmod bf 100) := by
  funext j
  show (if j = 9 then Int.tdiv bf 100 else if j = 10 then Int.tmod bf 100 else T j) = if j = 10 then Int.tmod bf 100 else if j = 9 then Int.tdiv bf 100 else T j
  by_cases h : j = 9
  · subst h; simp
  · rw [if_neg h, if_neg h]
/-- the class takes an act back -/
theorem p_takeBack (M : am_M) (s : Nat → Int) (kd tg bf : Int) (hv : vT s) (hc : cT s M 0) (hok : acOk kd tg bf s) (h9 : kd = 6 → Int.tdiv bf 100 ≤ 999 ∧ 0 ≤ Int.tdiv bf 100) : ∃ M', cY 14 [rV 70, iV kd, iV tg, iV bf] M = some (0, M') ∧ (∀ a, a = 4 ∨ 17 ≤ a → M' a = M a) ∧ (M' 11 0 = M 11 0 ∧ M' 11 1 = M 11 1 ∧ M' 13 0 = M 13 0 ∧ M' 13 1 = M 13 1 ∧ M' 15 0 = M 15 0 ∧ M' 15 1 = M 15 1) ∧ cT (bk kd tg bf s) M' 0 := by
  have hb0 := hv.1
  have hb1 := hv.2.1
  rw [e_Desk_takeBack]
  rcases hok with ⟨rfl, h1, h2⟩ | ⟨rfl, h1⟩ | ⟨rfl, h1⟩ | ⟨rfl, h1⟩ | ⟨rfl, h1⟩ | ⟨rfl, h1⟩ | ⟨rfl, h1⟩ | ⟨rfl, h1⟩
  · rw [if_pos rfl]
    obtain ⟨n, hn⟩ : ∃ n : Nat, s 1 = (n : Int) := ⟨(s 1).toNat, by omega⟩
    obtain ⟨q, rfl⟩ : ∃ q : Nat, bf = (q : Int) := ⟨bf.toNat, by omega⟩
    have hP : isP n (fun p => s (74 + p)) := vT_isP hv hn
    obtain ⟨p0, hp, hf⟩ := isP_sur hP (f := tg) (by omega)
    have hf : s (74 + p0) = tg := hf
    have e9 : ∀ p, p < n → M 9 p = s (74 + p) := fun p hp => hc.2.2.2.2.2.2.2.2.2.1 p (by omega)
    obtain ⟨M', a1, a2, a3⟩ := p_bringTo M tg n p0 q (by rw [← hn]; exact hc.2.1) (by omega) (isP_eq hP e9) hp (by rw [e9 p0 hp]; exact hf) (by omega)
    refine ⟨M', by rw [a1, am_cb_s, e_Desk_takeBack_60], fun a ha => a2 a (by omega), by rw [a2 11 (by omega), a2 13 (by omega), a2 15 (by omega)]; exact ⟨rfl, rfl, rfl, rfl, rfl, rfl⟩, ?_⟩
    refine cT_ord hv hc hn (fun j hj => by rw [bk0_eq hv hn hp hf, if_neg hj]) a2 (fun p hp' => ?_)
    rw [a3 p hp', bk0_eq hv hn hp hf, if_pos (by omega), show 74 + p - 74 = p by omega, e9 _ (mvx_lt hp (by omega) hp')]
  · have e : M 11 3 = s 2 := hc.2.2.1
    have hb := hv.2.2.1
    refine ⟨am_up M 11 3 (s 2 - 1), ?_, fun a ha => am_up_ne _ _ _ _ (by omega), ⟨am_up_nj _ _ _ _ (by omega), am_up_nj _ _ _ _ (by omega), by rw [am_up_ne _ _ _ _ (by omega)], by rw [am_up_ne _ _ _ _ (by omega)], by rw [am_up_ne _ _ _ _ (by omega)], by rw [am_up_ne _ _ _ _ (by omega)]⟩, ?_⟩
    · rw [if_neg (by decide), if_pos rfl, e_Rows_dropLast_11, e, r_ck_ok (by omega) (by omega), am_cb_s, e_Desk_takeBack_60, show max (s 2 - 1) 0 = s 2 - 1 by omega]
    · rw [bk_us.1]; exact cT_drop2 hc h1
  · have e : M 13 3 = s 3 := hc.2.2.2.1
    have hb := hv.2.2.2.1
    refine ⟨am_up M 13 3 (s 3 - 1), ?_, fun a ha => am_up_ne _ _ _ _ (by omega), ⟨by rw [am_up_ne _ _ _ _ (by omega)], by rw [am_up_ne _ _ _ _ (by omega)], am_up_nj _ _ _ _ (by omega), am_up_nj _ _ _ _ (by omega), by rw [am_up_ne _ _ _ _ (by omega)], by rw [am_up_ne _ _ _ _ (by omega)]⟩, ?_⟩
    · rw [if_neg (by decide), if_neg (by decide), if_pos rfl, e_Rows_dropLast_13, e, r_ck_ok (by omega) (by omega), am_cb_s, e_Desk_takeBack_60, show max (s 3 - 1) 0 = s 3 - 1 by omega]
    · rw [bk_us.2.1]; exact cT_drop3 hc h1
  · have e : M 15 3 = s 4 := hc.2.2.2.2.1
    have hb := hv.2.2.2.2.1
    refine ⟨am_up M 15 3 (s 4 - 1), ?_, fun a ha => am_up_ne _ _ _ _ (by omega), ⟨by rw [am_up_ne _ _ _ _ (by omega)], by rw [am_up_ne _ _ _ _ (by omega)], by rw [am_up_ne _ _ _ _ (by omega)], by rw [am_up_ne _ _ _ _ (by omega)], am_up_nj _ _ _ _ (by omega), am_up_nj _ _ _ _ (by omega)⟩, ?_⟩
    · rw [if_neg (by decide), if_neg (by decide), if_neg (by decide), if_pos rfl, e_Rows_dropLast_15, e, r_ck_ok (by omega) (by omega), am_cb_s, e_Desk_takeBack_60, show max (s 4 - 1) 0 = s 4 - 1 by omega]
    · rw [bk_us.2.2.1]; exact cT_drop4 hc h1
  · obtain ⟨i, rfl⟩ : ∃ i : Nat, tg = (i : Int) := ⟨tg.toNat, by omega⟩
    refine ⟨am_up M 3 i bf, ?_, fun a ha => am_up_ne _ _ _ _ (by omega), by rw [am_up_ne _ _ _ _ (by omega), am_up_ne _ _ _ _ (by omega), am_up_ne _ _ _ _ (by omega)]; exact ⟨rfl, rfl, rfl, rfl, rfl, rfl⟩, ?_⟩
    · rw [if_neg (by decide), if_neg (by decide), if_neg (by decide), if_neg (by decide), if_pos rfl, r_bd_ok (by omega) (by omega), e_Desk_takeBack_60, Int.toNat_natCast]
    · rw [bk_us.2.2.2.1, Int.toNat_natCast]; exact cT_soakv hc hv h1.2
  · obtain ⟨i, rfl⟩ : ∃ i : Nat, tg = (i : Int) := ⟨tg.toNat, by omega⟩
    refine ⟨am_up M 10 i bf, ?_, fun a ha => am_up_ne _ _ _ _ (by omega), by rw [am_up_ne _ _ _ _ (by omega), am_up_ne _ _ _ _ (by omega), am_up_ne _ _ _ _ (by omega)]; exact ⟨rfl, rfl, rfl, rfl, rfl, rfl⟩, ?_⟩
    · rw [if_neg (by decide), if_neg (by decide), if_neg (by decide), if_neg (by decide), if_neg (by decide), if_pos rfl, r_bd_ok (by omega) (by omega), e_Desk_takeBack_60, Int.toNat_natCast]
    · rw [bk_us.2.2.2.2.1, Int.toNat_natCast]; exact cT_set hc (by omega)
  · have h9 := h9 rfl
    refine ⟨am_up (am_up M 10 4 (Int.tdiv bf 100)) 10 5 (Int.tmod bf 100), ?_, fun a ha => by rw [am_up_ne _ _ _ _ (by omega), am_up_ne _ _ _ _ (by omega)], by rw [am_up_ne _ _ _ _ (by omega), am_up_ne _ _ _ _ (by omega), am_up_ne _ _ _ _ (by omega), am_up_ne _ _ _ _ (by omega), am_up_ne _ _ _ _ (by omega), am_up_ne _ _ _ _ (by omega)]; exact ⟨rfl, rfl, rfl, rfl, rfl, rfl⟩, ?_⟩
    · rw [if_neg (by decide), if_neg (by decide), if_neg (by decide), if_neg (by decide), if_neg (by decide), if_neg (by decide), if_pos rfl, r_ck_ok (by omega) (by omega), r_ck_ok (by omega) (by omega), e_Desk_takeBack_60]
    · rw [bk6_us]; exact cT_set (i := 5) (cT_set (i := 4) hc (by omega)) (by omega)
  · obtain ⟨i, rfl⟩ : ∃ i : Nat, tg = (i : Int) := ⟨tg.toNat, by omega⟩
    refine ⟨am_up M 6 i bf, ?_, fun a ha => am_up_ne _ _ _ _ (by omega), by rw [am_up_ne _ _ _ _ (by omega), am_up_ne _ _ _ _ (by omega), am_up_ne _ _ _ _ (by omega)]; exact ⟨rfl, rfl, rfl, rfl, rfl, rfl⟩, ?_⟩
    · rw [if_neg (by decide), if_neg (by decide), if_neg (by decide), if_neg (by decide), if_neg (by decide), if_neg (by decide), if_neg (by decide), r_bd_ok (by omega) (by omega), e_Desk_takeBack_60, Int.toNat_natCast]
    · rw [bk_us.2.2.2.2.2, Int.toNat_natCast]; exact cT_land hc hv h1.2
theorem o12 : lw_O12 RI := by
  intro M hR hM
  have hR2 : RI (am_up M 72 6 0) := RI_mf (mf_up (mf.rf M) (by omega)) hR
  obtain ⟨r1, r2, r3, r4, r5, r6, r7, r8, r9, r10, r11⟩ := id hR
  obtain ⟨a1, a2, a3⟩ := r8
  by_cases h0 : M 36 3 = 0
  · refine ⟨-5, M, am_up M 72 6 0, ?_, ?_, hR2⟩
    · rw [e_Desk_undo, if_neg (by omega)]
    · rw [e_Model_undo, if_pos (by omega)]
  · obtain ⟨k, hk⟩ : ∃ k : Nat, M 36 3 = (k : Int) + 1 := ⟨(M 36 3 - 1).toNat, by omega⟩
    have e36 : M 36 3 - 1 = (k : Int) := by omega
    obtain ⟨v1, ok1, rl1⟩ := a3 k (by omega)
    have eb : beh M (M 36 3).toNat k = M 73 := by unfold beh; rw [if_pos (by omega)]
    rw [eb] at ok1 rl1
    have e9 : M 37 k = 6 → Int.tdiv (M 39 k) 100 ≤ 999 ∧ 0 ≤ Int.tdiv (M 39 k) 100 := fun h6 => by
      have q := rl1.1 9 (by omega)
      rw [h6, bk6_us, us_ne _ _ _ (by decide), us_at] at q
      have hv9 := v1.2.2.2.2.2.1.2.2.2.2.1
      omega
    have hc0 : cT (M 73) (am_up M 36 3 (k : Int)) 0 := cT_eq (fun a _ ha => am_up_ne _ _ _ _ (by omega)) r2
    obtain ⟨M1, g1, g2, g3, g4⟩ := p_takeBack (am_up M 36 3 (k : Int)) (M 73) (M 37 k) (M 38 k) (M 39 k) r1 hc0 ok1 e9
    have gk : ∀ a, a = 4 ∨ (17 ≤ a ∧ a ≠ 36) → M1 a = M a := fun a ha => by rw [g2 a (by omega), am_up_ne _ _ _ _ (by omega)]
    have g36 : M1 36 3 = (k : Int) := by rw [g2 36 (by omega), am_up_at]
    -- the reference
    generalize hMb : am_up (am_up M1 72 6 0) 72 5 (k : Int) = Mb
    have b72 : ∀ j, j ≠ 5 → j ≠ 6 → Mb 72 j = M 72 j := fun j h5 h6 => by rw [← hMb, am_up_nj _ _ _ _ h5, am_up_nj _ _ _ _ h6, gk 72 (by omega)]
    have b5 : Mb 72 5 = (k : Int) := by rw [← hMb, am_up_at]
    have bo : ∀ a, a ≠ 72 → Mb a = M1 a := fun a ha => by rw [← hMb, am_up_ne _ _ _ _ ha, am_up_ne _ _ _ _ ha]
    obtain ⟨-, M2, h2, i1, i2, i3⟩ := lp_up (α := Unit) (X := fun i _ M => cX 95 16 [some (rV 72), some (iV (i : Int))] [] M) (n := 184) (I := fun i M' => (∀ a, a ≠ 73 → M' a = Mb a) ∧ (∀ j, j < i → M' 73 j = Mb 75 (184 * k + j)) ∧ ∀ j, i ≤ j → M' 73 j = Mb 73 j) (by
      intro i hi d M' hI
      obtain ⟨i1, i2, i3⟩ := hI
      have hh := e_Model_undo_16 (i : Int) M'
      have e5 : M' 72 5 = (k : Int) := by rw [i1 72 (by decide)]; exact b5
      rw [if_pos (by omega), e5, r_ck_ok (by omega) (by omega), r_ck_ok (by omega) (by omega), r_bd_ok (by omega) (by omega), r_bd_ok (by omega) (by omega), r_ck_ok (by omega) (by omega)] at hh
      refine ⟨(), _, hh, fun a ha => (am_up_ne _ _ _ _ ha).trans (i1 a ha), fun j hj => ?_, fun j hj => ?_⟩
      · rw [Int.toNat_natCast, show (184 * (k : Int) + (i : Int)).toNat = 184 * k + i by omega]
        by_cases e : j = i
        · subst e; rw [am_up_at, i1 75 (by decide)]
        · rw [am_up_nj _ _ _ _ e]; exact i2 j (by omega)
      · rw [Int.toNat_natCast, am_up_nj _ _ _ _ (by omega)]; exact i3 j (by omega)) 184 0 rfl () Mb ⟨fun _ _ => rfl, fun j hj => by omega, fun _ _ => rfl⟩
    have e73 : M2 73 = snp M k := by
      funext j
      unfold snp
      by_cases hj : j < 184
      · rw [if_pos hj, i2 j hj, bo 75 (by decide), gk 75 (by omega)]
      · rw [if_neg hj, i3 j (by omega), bo 73 (by decide), gk 73 (by omega)]; exact r11 j (by omega)
    have m2 : ∀ a, a = 4 ∨ (17 ≤ a ∧ a ≠ 36 ∧ a ≠ 72 ∧ a ≠ 73) → M2 a = M a := fun a ha => by rw [i1 a (by omega), bo a (by omega), gk a (by omega)]
    have m272 : ∀ j, j ≠ 5 → j ≠ 6 → M2 72 j = M 72 j := fun j h5 h6 => by rw [i1 72 (by decide)]; exact b72 j h5 h6
    have m25 : M2 72 5 = (k : Int) := by rw [i1 72 (by decide)]; exact b5
    have m2l : ∀ a, a ≤ 36 → M2 a = M1 a := fun a ha => by rw [i1 a (by omega), bo a (by omega)]
    have es : ∀ j, snp M2 j = snp M j := fun j => by unfold snp; rw [m2 75 (by omega)]
    have e1 : snp M k 1 = M 73 1 := by
      rw [rl1.1 1 (by omega)]
      obtain ⟨q1, q2, q3, q4, q5, q7⟩ := @bk_us (M 38 k) (M 39 k) (M 73)
      rcases ok1 with ⟨e, -⟩ | ⟨e, -⟩ | ⟨e, -⟩ | ⟨e, -⟩ | ⟨e, -⟩ | ⟨e, -⟩ | ⟨e, -⟩ | ⟨e, -⟩ <;> rw [e]
      · rw [bk0, if_neg (by omega)]
      · rw [q1, us_ne _ _ _ (by omega)]
      · rw [q2, us_ne _ _ _ (by omega)]
      · rw [q3, us_ne _ _ _ (by omega)]
      · rw [q4, us_ne _ _ _ (by omega)]
      · rw [q5, us_ne _ _ _ (by omega)]
      · rw [bk6_us, us_ne _ _ _ (by omega), us_ne _ _ _ (by omega)]
      · rw [q7, us_ne _ _ _ (by omega)]
    refine ⟨(k : Int), M1, M2, ?_, ?_, ?_⟩
    · rw [e_Desk_undo, e36, if_pos (by omega), if_neg (by omega), r_ck_ok (by omega) (by omega), r_bd_ok (by omega) (by omega), r_bd_ok (by omega) (by omega), r_bd_ok (by omega) (by omega), Int.toNat_natCast, g1, am_cb_s, g36]
    · rw [e_Model_undo, gk 72 (by omega), ← a1, if_neg h0, e36, r_ck_ok (by omega) (by omega), hMb]
      refine h2.trans ?_
      rw [e_Model_undo_16, if_neg (by omega), m25]
    · refine ⟨by rw [e73]; exact v1, ?_, ?_, ?_, ?_, ?_, ?_, ?_, ?_, ?_, ?_⟩
      · rw [e73]
        exact cT_eq (fun a _ ha => m2l a (by omega)) (cT_Rl rl1 g4)
      · obtain ⟨x1, x2, x3, x4, x5, x6⟩ := g3
        rw [am_up_ne _ _ _ _ (by decide)] at x1 x2 x3 x4 x5 x6
        obtain ⟨⟨y1, y2⟩, ⟨y3, y4⟩, y5, y6⟩ := r3
        refine ⟨⟨?_, ?_⟩, ⟨?_, ?_⟩, ?_, ?_⟩
        · rw [m2l _ (by omega)]; exact x1.trans y1
        · rw [m2l _ (by omega)]; exact x2.trans y2
        · rw [m2l _ (by omega)]; exact x3.trans y3
        · rw [m2l _ (by omega)]; exact x4.trans y4
        · rw [m2l _ (by omega)]; exact x5.trans y5
        · rw [m2l _ (by omega)]; exact x6.trans y6
      · exact kT_eq (fun a h h' => m2 a (by omega)) r4
      · rw [e73, e1, m2 4 (by omega), m2 76 (by omega)]; exact r5
      · rw [m2 34 (by omega), m272 8 (by decide) (by decide), m2 35 (by omega), m2 78 (by omega)]; exact r6
      · rw [m2 34 (by omega), m272 11 (by decide) (by decide), m272 12 (by decide) (by decide)]; exact r7
      · have e363 : M2 36 3 = (k : Int) := by rw [m2l 36 (by omega)]; exact g36
        refine ⟨by rw [e363, m25], by rw [e363]; omega, fun i hi => ?_⟩
        rw [e363] at hi
        obtain ⟨x1, x2, x3⟩ := a3 i (by omega)
        have eb1 : beh M (M 36 3).toNat i = snp M (i + 1) := by unfold beh; rw [if_neg (by omega)]
        have eb2 : beh M2 (M2 36 3).toNat i = snp M (i + 1) := by
          unfold beh
          rw [e363, Int.toNat_natCast]
          by_cases c : i + 1 = k
          · rw [if_pos c, e73, c]
          · rw [if_neg c, es]
        rw [eb2, es, m2 37 (by omega), m2 38 (by omega), m2 39 (by omega), ← eb1]
        exact ⟨x1, x2, x3⟩
      · rw [m2 18 (by omega), m2 19 (by omega), m2 94 (by omega)]; exact r9
      · rw [m2 88 (by omega)]; exact r10
      · intro j hj; rw [e73]; unfold snp; rw [if_neg (by omega)]
