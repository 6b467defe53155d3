-- the couples by which the most night is least
def mx0 (g : Nat → Int) : Nat → Int
  | 0 => 0
  | k + 1 => max (mx0 g k) (g k)
abbrev Sst : Type := Int × Int × (Nat → Int)
def lfm (s : Nat → Int) (n w : Nat) (mt : Nat → Int) (many : Int) (st : Sst) : Sst :=
  if fls s (mtk (rst s w) mt n) n n = 0 then (if st.1 = -1 ∨ mx0 (ngt s (mtk (rst s w) mt n) n w) n < st.1 ∨ (mx0 (ngt s (mtk (rst s w) mt n) n w) n = st.1 ∧ many < st.2.1) then (mx0 (ngt s (mtk (rst s w) mt n) n w) n, many, mt) else st) else st
def lpf (F : (Nat → Int) → Sst → Sst) (mt : Nat → Int) (f : Nat) : Nat → Nat → Sst → Sst
  | 0, _, st => st
  | i + 1, g, st => lpf F mt f i (g + 1) (if mt g = -1 then F (us (us mt f (g : Int)) g (f : Int)) st else st)
def src (s : Nat → Int) (n w : Nat) : Nat → Nat → Int → (Nat → Int) → Sst → Sst
  | 0, _, many, mt, st => lfm s n w mt many st
  | j + 1, f, many, mt, st => if mt f = -1 then lpf (fun mt' st' => src s n w j (f + 1) (many + 1) mt' st') mt f (n - (f + 1)) (f + 1) (src s n w j (f + 1) many mt st) else src s n w j (f + 1) many mt st
theorem src_st {s : Nat → Int} {n w : Nat} {mt : Nat → Int} {many : Int} {st st' : Sst} (h : lfm s n w mt many st = lfm s n w mt many st') : ∀ j f, src s n w j f many mt st = src s n w j f many mt st' := by
  intro j
  induction j with
  | zero => intro f; exact h
  | succ j ih =>
    intro f
    show (if mt f = -1 then lpf (fun mt' st' => src s n w j (f + 1) (many + 1) mt' st') mt f (n - (f + 1)) (f + 1) (src s n w j (f + 1) many mt st) else src s n w j (f + 1) many mt st) = if mt f = -1 then lpf (fun mt' st' => src s n w j (f + 1) (many + 1) mt' st') mt f (n - (f + 1)) (f + 1) (src s n w j (f + 1) many mt st') else src s n w j (f + 1) many mt st'
    rw [ih (f + 1)]
theorem mtc_add {n : Nat} {mt : Nat → Int} (h : mtc n mt) {a b : Nat} (ha : a < n) (hb : b < n) (hab : a ≠ b) (ma : mt a = -1) (mb : mt b = -1) : mtc n (us (us mt a (b : Int)) b (a : Int)) := by
  intro f hf
  by_cases c1 : f = b
  · subst c1
    right
    refine ⟨a, us_at _ _ _, ha, hab, ?_⟩
    rw [us_ne _ _ _ hab, us_at]
  · by_cases c2 : f = a
    · subst c2
      right
      refine ⟨b, ?_, hb, fun h => c1 h.symm, us_at _ _ _⟩
      rw [us_ne _ _ _ c1, us_at]
    · rw [us_ne _ _ _ c1, us_ne _ _ _ c2]
      rcases h f hf with h1 | ⟨g, g1, g2, g3, g4⟩
      · exact Or.inl h1
      · right
        refine ⟨g, g1, g2, g3, ?_⟩
        have n1 : g ≠ a := fun e => by rw [e] at g4; omega
        have n2 : g ≠ b := fun e => by rw [e] at g4; omega
        rw [us_ne _ _ _ n2, us_ne _ _ _ n1]
        exact g4
/-- the class's matcher -/
def CM (s : Nat → Int) (n w : Nat) (mt : Nat → Int) (st : Sst) (M : am_M) : Prop := (cQ s M ∧ CN s M ∧ CZ s w M ∧ M 46 3 = (w : Int)) ∧ (∀ p, p < n → M 64 p = rst s w p) ∧ (∀ f, f < n → M 65 f = mt f) ∧ M 63 5 = st.1 ∧ M 63 6 = st.2.1 ∧ ∀ f, f < n → M 66 f = st.2.2 f
def fM (M M' : am_M) : Prop := ∀ x, x < 46 ∨ (54 < x ∧ x ≠ 63 ∧ x ≠ 65 ∧ x ≠ 66) → M' x = M x
theorem fM.tr {M M1 M2 : am_M} (h1 : fM M M1) (h2 : fM M1 M2) : fM M M2 := fun x hx => (h2 x hx).trans (h1 x hx)
theorem p_tryMates (M : am_M) (s : Nat → Int) (n w : Nat) (mt : Nat → Int) (st : Sst) (many : Int) (hv : vT s) (hn : s 1 = (n : Int)) (hm : mtc n mt) (hC : CM s n w mt st M) : ∃ M', cY 192 [rV 63, iV many] M = some (0, M') ∧ CM s n w mt (lfm s n w mt many st) M' ∧ fM M M' := by
  have hb1 := hv.2.1
  obtain ⟨⟨hQ, hN, hZ, h46⟩, h64, h65, h5, h6, h66⟩ := hC
  have hP := isP_rst hv hn w
  have hP1 : isP n (mtk (rst s w) mt n) := isP_mtk hP (fun f hf => mtc_lt hm hf) n (Nat.le_refl n)
  obtain ⟨d, M1, h1, i1, i2⟩ := lp_up (α := Option am_V) (X := fun k d M => cX 192 2 [some (rV 63), some (iV many), some (iV (k : Int)), d] [] M) (n := n) (I := fun k M' => (∀ x, x ≠ 47 → M' x = M x) ∧ ∀ p, p < k → M' 47 p = mtk (rst s w) mt n p) (by
    intro k hk d M' hI
    obtain ⟨i1, i2⟩ := hI
    have hh := e_Matcher_tryMates_2 many (k : Int) d M'
    have hok := hP.1 k hk
    obtain ⟨f, hf⟩ : ∃ f : Nat, rst s w k = (f : Int) := ⟨(rst s w k).toNat, by omega⟩
    have ea := mtk_at hP hm hk
    rw [hf, Int.toNat_natCast] at ea
    have e04 : M' 0 4 = (n : Int) := by rw [i1 0 (by decide), hQ.1.1, hn]
    have e64 : M' 64 k = (f : Int) := by rw [i1 64 (by decide), h64 k hk, hf]
    have e65 : M' 65 f = mt f := by rw [i1 65 (by decide)]; exact h65 f (by omega)
    rw [e04, if_pos (by omega), r_bd_ok (by omega) (by omega), Int.toNat_natCast, e64, r_bd_ok (by omega) (by omega), Int.toNat_natCast, e65] at hh
    have fin : ∀ v d', v = mtk (rst s w) mt n k → (cX 192 2 [some (rV 63), some (iV many), some (iV (k : Int)), d] [] M' = cX 192 2 [some (rV 63), some (iV many), some (iV ((k : Int) + 1)), d'] [] (am_up M' 47 k v)) → ∃ (d' : Option am_V) (M2 : am_M), cX 192 2 [some (rV 63), some (iV many), some (iV (k : Int)), d] [] M' = cX 192 2 [some (rV 63), some (iV many), some (iV ((k + 1 : Nat) : Int)), d'] [] M2 ∧ (∀ x, x ≠ 47 → M2 x = M x) ∧ ∀ p, p < k + 1 → M2 47 p = mtk (rst s w) mt n p := fun v d' hv hq => ⟨d', _, hq, fun x hx => (am_up_ne _ _ _ _ hx).trans (i1 x hx), fun p hp => by
      by_cases e : p = k
      · subst e; rw [am_up_at, hv]
      · rw [am_up_nj _ _ _ _ e]; exact i2 p (by omega)⟩
    by_cases c : mt f = -1
    · rw [if_pos c] at ea
      rw [if_pos c, r_bd_ok (by omega) (by omega), r_ck_ok (by omega) (by omega)] at hh
      exact fin _ _ ea.symm hh
    · rw [if_neg c] at ea
      rw [if_neg c, r_bd_ok (by omega) (by omega), r_bd_ok (by omega) (by omega), r_ck_ok (by omega) (by omega)] at hh
      exact fin _ _ ea.symm hh) n 0 (by omega) none M ⟨fun _ _ => rfl, fun p hp => by omega⟩
  obtain ⟨M2, b1, b2, b3, b4⟩ := p_reckon M1 s (mtk (rst s w) mt n) n w hv hn hP1 (cQ_eq hQ (fun x hx => i1 x (by omega))) (CN_eq hN (i1 40 (by decide)) (i1 41 (by decide)) (i1 42 (by decide))) (by rw [i1 46 (by decide)]; exact h46) i2
  have k2 : ∀ x, x < 46 ∨ 54 < x → M2 x = M x := fun x hx => by rw [b2 x (by omega), i1 x (by omega)]
  have hX : CX s (mtk (rst s w) mt n) n w M2 := ⟨cQ_eq hQ (fun x hx => k2 x (by omega)), CN_eq hN (k2 40 (by omega)) (k2 41 (by omega)) (k2 42 (by omega)), CZ_eq hZ (k2 43 (by omega)) (k2 44 (by omega)) (k2 45 (by omega)), b4, fun p hp => by rw [b2 47 (by omega)]; exact i2 p hp⟩
  have hC2 : CM s n w mt st M2 := ⟨⟨hX.1, hX.2.1, hX.2.2.1, b3⟩, fun p hp => by rw [k2 64 (by omega)]; exact h64 p hp, fun f hf => by rw [k2 65 (by omega)]; exact h65 f hf, by rw [k2 63 (by omega)]; exact h5, by rw [k2 63 (by omega)]; exact h6, fun f hf => by rw [k2 66 (by omega)]; exact h66 f hf⟩
  have st1 : cY 192 [rV 63, iV many] M = if fls s (mtk (rst s w) mt n) n n = 0 then cX 192 43 [some (rV 63), some (iV many), some (iV 0), some (iV 0)] [] M2 else some (0, M2) := by
    rw [e_Matcher_tryMates]
    refine h1.trans ?_
    rw [e_Matcher_tryMates_2, i1 0 (by decide), hQ.1.1, hn, if_neg (by omega), b1, am_cb_s, b4.2.2.1]
  rw [st1]
  unfold lfm
  by_cases q : fls s (mtk (rst s w) mt n) n n = 0
  · rw [if_pos q, if_pos q]
    have hgn := fun f hf => ngt_bd hv hn hP1 w (f := f) hf
    have hL : ∀ (j k : Nat), k + j = n → cX 192 43 [some (rV 63), some (iV many), some (iV (mx0 (ngt s (mtk (rst s w) mt n) n w) k)), some (iV (k : Int))] [] M2 = cX 192 43 [some (rV 63), some (iV many), some (iV (mx0 (ngt s (mtk (rst s w) mt n) n w) n)), some (iV (n : Int))] [] M2 := by
      intro j
      induction j with
      | zero => intro k hk; have e : k = n := by omega
                subst e; rfl
      | succ j ih =>
        intro k hk
        rw [e_Matcher_tryMates_43, hX.1.1.1, hn, if_pos (by omega), p_nightOf hv hn hP1 hX (f := k) (by omega), am_cb_s, r_ck_ok (by omega) (by omega)]
        exact ih (k + 1) (by omega)
    have e1 := hL n 0 (by omega)
    have e1 : cX 192 43 [some (rV 63), some (iV many), some (iV 0), some (iV 0)] [] M2 = _ := e1
    rw [e1]
    generalize mx0 (ngt s (mtk (rst s w) mt n) n w) n = m
    have tk : cX 192 73 [some (rV 63), some (iV many), some (iV m), some (iV (n : Int))] [] M2 = some (0, am_cpy (am_up (am_up M2 63 5 m) 63 6 many) 65 0 66 0 8) ∧ CM s n w mt (m, many, mt) (am_cpy (am_up (am_up M2 63 5 m) 63 6 many) 65 0 66 0 8) ∧ fM M (am_cpy (am_up (am_up M2 63 5 m) 63 6 many) 65 0 66 0 8) := by
      have u : ∀ x, x ≠ 66 → x ≠ 63 → (am_cpy (am_up (am_up M2 63 5 m) 63 6 many) 65 0 66 0 8) x = M2 x := fun x x1 x2 => by
        have : (am_cpy (am_up (am_up M2 63 5 m) 63 6 many) 65 0 66 0 8) x = (am_up (am_up M2 63 5 m) 63 6 many) x := by
          funext j
          unfold am_cpy
          rw [if_neg (fun h => x1 h.1)]
        rw [this, am_up_ne _ _ _ _ x2, am_up_ne _ _ _ _ x2]
      have u63 : (am_cpy (am_up (am_up M2 63 5 m) 63 6 many) 65 0 66 0 8) 63 = (am_up (am_up M2 63 5 m) 63 6 many) 63 := by
        funext j
        unfold am_cpy
        rw [if_neg (fun h => absurd h.1 (by decide))]
      obtain ⟨⟨c1, c2, c3, c4⟩, c5, c6, -⟩ := hC2
      refine ⟨e_Matcher_tryMates_73 _ _ _ _, ⟨⟨cQ_eq c1 (fun x hx => u x (by omega) (by omega)), CN_eq c2 (u 40 (by decide) (by decide)) (u 41 (by decide) (by decide)) (u 42 (by decide) (by decide)), CZ_eq c3 (u 43 (by decide) (by decide)) (u 44 (by decide) (by decide)) (u 45 (by decide) (by decide)), by rw [u 46 (by decide) (by decide)]; exact c4⟩, fun p hp => by rw [u 64 (by decide) (by decide)]; exact c5 p hp, fun f hf => by rw [u 65 (by decide) (by decide)]; exact c6 f hf, ?_, ?_, fun f hf => ?_⟩, fun x hx => by rw [u x (by omega) (by omega), k2 x (by omega)]⟩
      · rw [u63, am_up_nj _ _ _ _ (by decide), am_up_at]
      · rw [u63, am_up_at]
      · show (if (66 : Nat) = 66 ∧ 0 ≤ f ∧ f < 0 + 8 then (am_up (am_up M2 63 5 m) 63 6 many) 65 (0 + (f - 0)) else _) = mt f
        rw [if_pos ⟨rfl, by omega, by omega⟩, Nat.sub_zero, Nat.zero_add, am_up_ne _ _ _ _ (by decide), am_up_ne _ _ _ _ (by decide)]
        exact c6 f hf
    have kp : cX 192 75 [some (rV 63), some (iV many), some (iV m), some (iV (n : Int))] [] M2 = some (0, M2) := e_Matcher_tryMates_75 _ _ _ _
    rw [e_Matcher_tryMates_43, hX.1.1.1, hn, if_neg (by omega), hC2.2.2.2.1, hC2.2.2.2.2.1]
    by_cases c1 : st.1 = -1
    · rw [if_pos c1, if_pos (Or.inl c1), tk.1]
      exact ⟨_, rfl, tk.2⟩
    · rw [if_neg c1]
      by_cases c2 : m < st.1
      · rw [if_pos c2, if_pos (Or.inr (Or.inl c2)), tk.1]
        exact ⟨_, rfl, tk.2⟩
      · rw [if_neg c2]
        by_cases c3 : m = st.1
        · rw [if_pos c3]
          by_cases c4 : many < st.2.1
          · rw [if_pos c4, if_pos (Or.inr (Or.inr ⟨c3, c4⟩)), tk.1]
            exact ⟨_, rfl, tk.2⟩
          · rw [if_neg c4, if_neg (by rintro (h | h | h); exact c1 h; exact c2 h; exact c4 h.2), kp]
            exact ⟨_, rfl, hC2, fun x hx => k2 x (by omega)⟩
        · rw [if_neg c3, if_neg (by rintro (h | h | h); exact c1 h; exact c2 h; exact c3 h.1), kp]
          exact ⟨_, rfl, hC2, fun x hx => k2 x (by omega)⟩
  · rw [if_neg q, if_neg q]
    exact ⟨M2, rfl, hC2, fun x hx => k2 x (by omega)⟩
def CFc (s : Nat → Int) (n w y l : Nat) : Prop := ∀ (mt : Nat → Int) (st : Sst) (many : Int) (M : am_M), mtc n mt → 0 ≤ many → many ≤ (l : Int) → CM s n w mt st M → ∃ M', cY y [rV 63, iV (l : Int), iV many] M = some (0, M') ∧ CM s n w mt (src s n w (n - l) l many mt st) M' ∧ fM M M'
theorem cf_leaf {s : Nat → Int} {n w : Nat} (hv : vT s) (hn : s 1 = (n : Int)) {y l : Nat} (hl : l = n) (E : ∀ (x2 : Int) (M : am_M), ¬ ((l : Int) < M 0 4) → cY y [rV 63, iV (l : Int), iV x2] M = am_cb (cY 192 [rV 63, iV x2] M) (fun _ M4 => some (0, M4))) : CFc s n w y l := by
  intro mt st many M hm h0 h1 hC
  obtain ⟨M', a1, a2, a3⟩ := p_tryMates M s n w mt st many hv hn hm hC
  rw [E many M (by rw [hC.1.1.1.1, hn]; omega), a1, am_cb_s, show n - l = 0 by omega]
  exact ⟨M', rfl, a2, a3⟩
theorem cf_step {s : Nat → Int} {n w : Nat} (hv : vT s) (hn : s 1 = (n : Int)) {y y' l : Nat} (hl : l ≤ n)
    (E1 : ∀ (x1 x2 : Int) (M : am_M), cY y [rV 63, iV x1, iV x2] M = if x1 < (M 0 4) then (r_ck (x1 + 1) (am_cb (cY y' [rV 63, iV (x1 + 1), iV x2] M) (fun _ M2 => r_ck (x1 + 1) (cX y 24 [some (rV 63), some (iV x1), some (iV x2), some (iV (M 0 4)), some (rV 65), some (iV (x1 + 1))] [] M2)))) else (am_cb (cY 192 [rV 63, iV x2] M) (fun _ M4 => some (0, M4))))
    (E2 : ∀ (x1 x2 x3 x5 : Int) (M : am_M), cX y 24 [some (rV 63), some (iV x1), some (iV x2), some (iV x3), some (rV 65), some (iV x5)] [] M = if x5 < x3 then (r_bd 8 x1 (if (M 65 (Int.toNat x1)) = ((-1)) then (r_bd 8 x5 (if (M 65 (Int.toNat x5)) = ((-1)) then (r_bd 8 x1 (r_bd 8 x5 (r_ck (x1 + 1) (r_ck (x2 + 1) (am_cb (cY y' [rV 63, iV (x1 + 1), iV (x2 + 1)] (am_up (am_up M 65 (Int.toNat x1) x5) 65 (Int.toNat x5) x1)) (fun _ M2 => r_bd 8 x1 (r_bd 8 x5 (r_ck (x5 + 1) (cX y 24 [some (rV 63), some (iV x1), some (iV x2), some (iV x3), some (rV 65), some (iV (x5 + 1))] [] (am_up (am_up M2 65 (Int.toNat x1) ((-1))) 65 (Int.toNat x5) ((-1)))))))))))) else (r_ck (x5 + 1) (cX y 24 [some (rV 63), some (iV x1), some (iV x2), some (iV x3), some (rV 65), some (iV (x5 + 1))] [] M)))) else (some (0, M)))) else (some (0, M)))
    (ih : l + 1 ≤ n → CFc s n w y' (l + 1)) : CFc s n w y l := by
  have hb1 := hv.2.1
  by_cases hln : l = n
  · refine cf_leaf hv hn hln (fun x2 M h => ?_)
    rw [E1, if_neg h]
  · intro mt st many M hm h0 h1 hC
    have e04 : M 0 4 = (n : Int) := by rw [hC.1.1.1.1, hn]
    have ihl := ih (by omega)
    obtain ⟨M1, a1, a2, a3⟩ := ihl mt st many M hm h0 (by omega) hC
    have a1 : cY y' [rV 63, iV ((l : Int) + 1), iV many] M = some (0, M1) := a1
    have es : src s n w (n - l) l many mt st = if mt l = -1 then lpf (fun mt' st' => src s n w (n - (l + 1)) (l + 1) (many + 1) mt' st') mt l (n - (l + 1)) (l + 1) (src s n w (n - (l + 1)) (l + 1) many mt st) else src s n w (n - (l + 1)) (l + 1) many mt st := by
      rw [show n - l = (n - (l + 1)) + 1 by omega]
      rfl
    rw [E1, e04, if_pos (by omega), r_ck_ok (by omega) (by omega), a1, am_cb_s, r_ck_ok (by omega) (by omega), es]
    by_cases c : mt l = -1
    · rw [if_pos c]
      have L : ∀ (i g : Nat) (st : Sst) (M : am_M), l + 1 ≤ g → g + i = n → CM s n w mt st M → ∃ M', cX y 24 [some (rV 63), some (iV (l : Int)), some (iV many), some (iV (n : Int)), some (rV 65), some (iV (g : Int))] [] M = some (0, M') ∧ CM s n w mt (lpf (fun mt' st' => src s n w (n - (l + 1)) (l + 1) (many + 1) mt' st') mt l i g st) M' ∧ fM M M' := by
        intro i
        induction i with
        | zero =>
          intro g st M hg1 hg hC
          exact ⟨M, by rw [E2, if_neg (by omega)], hC, fun _ _ => rfl⟩
        | succ i ihi =>
          intro g st M hg1 hg hC
          have hCl := hC.2.2.1 l (by omega)
          have hCg := hC.2.2.1 g (by omega)
          have el : lpf (fun mt' st' => src s n w (n - (l + 1)) (l + 1) (many + 1) mt' st') mt l (i + 1) g st = lpf (fun mt' st' => src s n w (n - (l + 1)) (l + 1) (many + 1) mt' st') mt l i (g + 1) (if mt g = -1 then src s n w (n - (l + 1)) (l + 1) (many + 1) (us (us mt l (g : Int)) g (l : Int)) st else st) := rfl
          rw [el, E2, if_pos (by omega), r_bd_ok (by omega) (by omega), Int.toNat_natCast, Int.toNat_natCast, hCl, if_pos c, r_bd_ok (by omega) (by omega), hCg]
          by_cases d : mt g = -1
          · rw [if_pos d, if_pos d, r_bd_ok (by omega) (by omega), r_bd_ok (by omega) (by omega), r_ck_ok (by omega) (by omega), r_ck_ok (by omega) (by omega)]
            have u : ∀ x, x ≠ 65 → (am_up (am_up M 65 l (g : Int)) 65 g (l : Int)) x = M x := fun x hx => by rw [am_up_ne _ _ _ _ hx, am_up_ne _ _ _ _ hx]
            obtain ⟨⟨c1, c2, c3, c4⟩, c5, c6, c7, c8, c9⟩ := id hC
            have hCu : CM s n w (us (us mt l (g : Int)) g (l : Int)) st (am_up (am_up M 65 l (g : Int)) 65 g (l : Int)) := by
              refine ⟨⟨cQ_eq c1 (fun x hx => u x (by omega)), CN_eq c2 (u 40 (by decide)) (u 41 (by decide)) (u 42 (by decide)), CZ_eq c3 (u 43 (by decide)) (u 44 (by decide)) (u 45 (by decide)), by rw [u 46 (by decide)]; exact c4⟩, fun p hp => by rw [u 64 (by decide)]; exact c5 p hp, fun f hf => ?_, by rw [u 63 (by decide)]; exact c7, by rw [u 63 (by decide)]; exact c8, fun f hf => by rw [u 66 (by decide)]; exact c9 f hf⟩
              by_cases z1 : f = g
              · subst z1; rw [am_up_at, us_at]
              · rw [am_up_nj _ _ _ _ z1, us_ne _ _ _ z1]
                by_cases z2 : f = l
                · subst z2; rw [am_up_at, us_at]
                · rw [am_up_nj _ _ _ _ z2, us_ne _ _ _ z2]; exact c6 f hf
            obtain ⟨M2, b1, b2, b3⟩ := ihl _ st (many + 1) _ (mtc_add hm (by omega) (by omega) (by omega) c d) (by omega) (by omega) hCu
            have b1 : cY y' [rV 63, iV ((l : Int) + 1), iV (many + 1)] (am_up (am_up M 65 l (g : Int)) 65 g (l : Int)) = some (0, M2) := b1
            have v : ∀ x, x ≠ 65 → (am_up (am_up M2 65 l (-1)) 65 g (-1)) x = M2 x := fun x hx => by rw [am_up_ne _ _ _ _ hx, am_up_ne _ _ _ _ hx]
            obtain ⟨⟨e1, e2, e3, e4⟩, e5, e6, e7, e8, e9⟩ := id b2
            have hC3 : CM s n w mt (src s n w (n - (l + 1)) (l + 1) (many + 1) (us (us mt l (g : Int)) g (l : Int)) st) (am_up (am_up M2 65 l (-1)) 65 g (-1)) := by
              refine ⟨⟨cQ_eq e1 (fun x hx => v x (by omega)), CN_eq e2 (v 40 (by decide)) (v 41 (by decide)) (v 42 (by decide)), CZ_eq e3 (v 43 (by decide)) (v 44 (by decide)) (v 45 (by decide)), by rw [v 46 (by decide)]; exact e4⟩, fun p hp => by rw [v 64 (by decide)]; exact e5 p hp, fun f hf => ?_, by rw [v 63 (by decide)]; exact e7, by rw [v 63 (by decide)]; exact e8, fun f hf => by rw [v 66 (by decide)]; exact e9 f hf⟩
              by_cases z1 : f = g
              · subst z1; rw [am_up_at, d]
              · rw [am_up_nj _ _ _ _ z1]
                by_cases z2 : f = l
                · subst z2; rw [am_up_at, c]
                · rw [am_up_nj _ _ _ _ z2, e6 f hf, us_ne _ _ _ z1, us_ne _ _ _ z2]
            obtain ⟨M3, f1, f2, f3⟩ := ihi (g + 1) _ _ (by omega) (by omega) hC3
            rw [b1, am_cb_s, r_bd_ok (by omega) (by omega), r_bd_ok (by omega) (by omega), r_ck_ok (by omega) (by omega)]
            exact ⟨M3, f1, f2, fun x hx => by rw [f3 x hx, v x (by omega), b3 x hx, u x (by omega)]⟩
          · rw [if_neg d, if_neg d, r_ck_ok (by omega) (by omega)]
            exact ihi (g + 1) st M (by omega) (by omega) hC
      obtain ⟨M2, b1, b2, b3⟩ := L (n - (l + 1)) (l + 1) _ M1 (by omega) (by omega) a2
      exact ⟨M2, b1, b2, a3.tr b3⟩
    · have hCl := a2.2.2.1 l (by omega)
      rw [if_neg c, E2]
      by_cases d : (l : Int) + 1 < (n : Int)
      · rw [if_pos d, r_bd_ok (by omega) (by omega), Int.toNat_natCast, hCl, if_neg c]
        exact ⟨M1, rfl, a2, a3⟩
      · rw [if_neg d]
        exact ⟨M1, rfl, a2, a3⟩
theorem cf_0 {s : Nat → Int} {n w : Nat} (hv : vT s) (hn : s 1 = (n : Int)) : CFc s n w 183 0 := by
  have hb1 := hv.2.1
  have c8 : 8 ≤ n → CFc s n w 191 8 := fun h => cf_leaf hv hn (by omega) (fun x2 M hh => by rw [e_Matcher_coupleFrom_8, if_neg hh])
  have c7 : 7 ≤ n → CFc s n w 190 7 := fun h => cf_step hv hn h e_Matcher_coupleFrom_7 e_Matcher_coupleFrom_7_24 c8
  have c6 : 6 ≤ n → CFc s n w 189 6 := fun h => cf_step hv hn h e_Matcher_coupleFrom_6 e_Matcher_coupleFrom_6_24 c7
  have c5 : 5 ≤ n → CFc s n w 188 5 := fun h => cf_step hv hn h e_Matcher_coupleFrom_5 e_Matcher_coupleFrom_5_24 c6
  have c4 : 4 ≤ n → CFc s n w 187 4 := fun h => cf_step hv hn h e_Matcher_coupleFrom_4 e_Matcher_coupleFrom_4_24 c5
  have c3 : 3 ≤ n → CFc s n w 186 3 := fun h => cf_step hv hn h e_Matcher_coupleFrom_3 e_Matcher_coupleFrom_3_24 c4
  have c2 : 2 ≤ n → CFc s n w 185 2 := fun h => cf_step hv hn h e_Matcher_coupleFrom_2 e_Matcher_coupleFrom_2_24 c3
  have c1 : 1 ≤ n → CFc s n w 184 1 := fun h => cf_step hv hn h e_Matcher_coupleFrom_1 e_Matcher_coupleFrom_1_24 c2
  exact cf_step hv hn (by omega) e_Matcher_coupleFrom_0 e_Matcher_coupleFrom_0_24 c1
-- the reference's mates
def MM (s : Nat → Int) (n : Nat) (mt : Nat → Int) (st : Sst) (M : am_M) : Prop := M 73 = s ∧ (∀ f, f < n → M 88 f = mt f) ∧ M 72 35 = st.1 ∧ M 72 36 = st.2.1 ∧ ∀ f, f < n → M 92 f = st.2.2 f
theorem mm_leaf {s : Nat → Int} {n w y : Nat} (hv : vT s) (hn : s 1 = (n : Int)) (hw : w ≤ 51)
    (E17 : ∀ (x1 x3 x4 x5 : Int) (d2 d6 : Option am_V) (M : am_M), cX y 17 [some (rV 72), some (iV x1), d2, some (iV x3), some (iV x4), some (iV x5), d6] [] M = if x5 < (M 73 1) then (am_cb (cY 116 [rV 72, iV x1, iV x5] M) (fun v1 M2 => if x4 < v1 then (r_ck (x5 + 1) (cX y 17 [some (rV 72), some (iV x1), none, some (iV x3), some (iV v1), some (iV (x5 + 1)), some (iV v1)] [] M2)) else (r_ck (x5 + 1) (cX y 17 [some (rV 72), some (iV x1), none, some (iV x3), some (iV x4), some (iV (x5 + 1)), some (iV v1)] [] M2)))) else (if (M 72 35) = ((-1)) then (cX y 62 [some (rV 72), some (iV x1), none, some (iV x3), some (iV x4), some (iV 0), none] [] (am_up (am_up M 72 35 x4) 72 36 x3)) else (if (M 72 35) < x4 then (some (0, M)) else (if x4 = (M 72 35) then (if x3 < (M 72 36) then (cX y 62 [some (rV 72), some (iV x1), none, some (iV x3), some (iV x4), some (iV 0), none] [] (am_up (am_up M 72 35 x4) 72 36 x3)) else (some (0, M))) else (cX y 62 [some (rV 72), some (iV x1), none, some (iV x3), some (iV x4), some (iV 0), none] [] (am_up (am_up M 72 35 x4) 72 36 x3))))))
    (E62 : ∀ (x5 : Int) (d1 d2 d3 d4 d6 : Option am_V) (M : am_M), cX y 62 [some (rV 72), d1, d2, d3, d4, some (iV x5), d6] [] M = if x5 < (M 73 1) then (r_bd 8 x5 (r_bd 8 x5 (r_ck (x5 + 1) (cX y 62 [some (rV 72), none, none, none, none, some (iV (x5 + 1)), none] [] (am_up M 92 (Int.toNat x5) (M 88 (Int.toNat x5))))))) else (some (0, M)))
    (mt : Nat → Int) (st : Sst) (many : Int) (M : am_M) (hm : mtc n mt) (hC : MM s n mt st M) (d2 : Option am_V) : ∃ M', am_cb (cY 109 [rV 72, iV (w : Int)] M) (fun _ M2 => if (M2 72 24) = 0 then (cX y 17 [some (rV 72), some (iV (w : Int)), d2, some (iV many), some (iV 0), some (iV 0), none] [] M2) else (some (0, M2))) = some (0, M') ∧ MM s n mt (lfm s n w mt many st) M' ∧ mf M M' := by
  have hb1 := hv.2.1
  obtain ⟨hs, h88, h5, h6, h92⟩ := hC
  have hP := isP_rst hv hn w
  have hP1 : isP n (mtk (rst s w) mt n) := isP_mtk hP (fun f hf => mtc_lt hm hf) n (Nat.le_refl n)
  obtain ⟨M2, b1, b2, b3⟩ := p_laysWeek M w n (mtk (rst s w) mt n) (by rw [hs]; exact hv) (by rw [hs]; exact hn) hw (fun f hf => by rw [h88 f hf]; exact mtc_lt hm hf) (by rw [hs]; exact mtk_c n (fun f hf => (h88 f hf).symm))
  rw [hs] at b3
  have s2 : M2 73 = s := by rw [b2.1 73 (by omega), hs]
  have hX : MX (mtk (rst s w) mt n) n w M2 := by unfold MX; rw [s2]; exact ⟨hv, hn, hP1, hw, b3⟩
  have hC2 : MM s n mt st M2 := ⟨s2, fun f hf => by rw [b2.1 88 (by omega)]; exact h88 f hf, by rw [b2.2 35 (by decide) (by decide) (by decide)]; exact h5, by rw [b2.2 36 (by decide) (by decide) (by decide)]; exact h6, fun f hf => by rw [b2.1 92 (by omega)]; exact h92 f hf⟩
  rw [b1, am_cb_s, b3.2.2.2.1]
  unfold lfm
  by_cases q : fls s (mtk (rst s w) mt n) n n = 0
  · rw [if_pos q, if_pos q]
    have hL : ∀ (j k : Nat) (d2 d6 : Option am_V), k + j = n → ∃ d2' d6', cX y 17 [some (rV 72), some (iV (w : Int)), d2, some (iV many), some (iV (mx0 (ngt s (mtk (rst s w) mt n) n w) k)), some (iV (k : Int)), d6] [] M2 = cX y 17 [some (rV 72), some (iV (w : Int)), d2', some (iV many), some (iV (mx0 (ngt s (mtk (rst s w) mt n) n w) n)), some (iV (n : Int)), d6'] [] M2 := by
      intro j
      induction j with
      | zero => intro k d2 d6 hk; have e : k = n := by omega
                subst e; exact ⟨d2, d6, rfl⟩
      | succ j ih =>
        intro k d2 d6 hk
        have hng := p_mnightOf hX (f := k) (by omega)
        rw [s2] at hng
        obtain ⟨a, b, hi⟩ := ih (k + 1) none (some (iV (ngt s (mtk (rst s w) mt n) n w k))) (by omega)
        have em : mx0 (ngt s (mtk (rst s w) mt n) n w) (k + 1) = max (mx0 (ngt s (mtk (rst s w) mt n) n w) k) (ngt s (mtk (rst s w) mt n) n w k) := rfl
        rw [em] at hi
        refine ⟨a, b, ?_⟩
        rw [E17, s2, hn, if_pos (by omega), hng, am_cb_s]
        by_cases c : mx0 (ngt s (mtk (rst s w) mt n) n w) k < ngt s (mtk (rst s w) mt n) n w k
        · rw [show max (mx0 (ngt s (mtk (rst s w) mt n) n w) k) (ngt s (mtk (rst s w) mt n) n w k) = ngt s (mtk (rst s w) mt n) n w k by omega] at hi
          rw [if_pos c, r_ck_ok (by omega) (by omega)]
          exact hi
        · rw [show max (mx0 (ngt s (mtk (rst s w) mt n) n w) k) (ngt s (mtk (rst s w) mt n) n w k) = mx0 (ngt s (mtk (rst s w) mt n) n w) k by omega] at hi
          rw [if_neg c, r_ck_ok (by omega) (by omega)]
          exact hi
    obtain ⟨a, b, e1⟩ := hL n 0 d2 none (by omega)
    have e1 : cX y 17 [some (rV 72), some (iV (w : Int)), d2, some (iV many), some (iV 0), some (iV 0), none] [] M2 = _ := e1
    rw [e1]
    generalize mx0 (ngt s (mtk (rst s w) mt n) n w) n = m
    have tk : ∃ M', cX y 62 [some (rV 72), some (iV (w : Int)), none, some (iV many), some (iV m), some (iV 0), none] [] (am_up (am_up M2 72 35 m) 72 36 many) = some (0, M') ∧ MM s n mt (m, many, mt) M' ∧ mf M M' := by
      have u : ∀ x, x ≠ 72 → (am_up (am_up M2 72 35 m) 72 36 many) x = M2 x := fun x hx => by rw [am_up_ne _ _ _ _ hx, am_up_ne _ _ _ _ hx]
      obtain ⟨d', M3, h3, i1, i2⟩ := lp_up (α := Option am_V × Option am_V × Option am_V × Option am_V × Option am_V) (X := fun k d M => cX y 62 [some (rV 72), d.1, d.2.1, d.2.2.1, d.2.2.2.1, some (iV (k : Int)), d.2.2.2.2] [] M) (n := n) (I := fun k M' => (∀ x, x ≠ 92 → M' x = (am_up (am_up M2 72 35 m) 72 36 many) x) ∧ ∀ f, f < k → M' 92 f = mt f) (by
        intro k hk d M' hI
        obtain ⟨i1, i2⟩ := hI
        have hh := E62 (k : Int) d.1 d.2.1 d.2.2.1 d.2.2.2.1 d.2.2.2.2 M'
        have e88 : M' 88 k = mt k := by rw [i1 88 (by decide), u 88 (by decide)]; exact hC2.2.1 k hk
        rw [i1 73 (by decide), u 73 (by decide), s2, hn, if_pos (by omega), r_bd_ok (by omega) (by omega), r_bd_ok (by omega) (by omega), r_ck_ok (by omega) (by omega), Int.toNat_natCast, e88] at hh
        refine ⟨(none, none, none, none, none), _, hh, fun x hx => (am_up_ne _ _ _ _ hx).trans (i1 x hx), fun f hf => ?_⟩
        by_cases e : f = k
        · subst e; rw [am_up_at]
        · rw [am_up_nj _ _ _ _ e]; exact i2 f (by omega)) n 0 (by omega) (some (iV (w : Int)), none, some (iV many), some (iV m), none) (am_up (am_up M2 72 35 m) 72 36 many) ⟨fun _ _ => rfl, fun f hf => by omega⟩
      refine ⟨M3, ?_, ⟨by rw [i1 73 (by decide), u 73 (by decide)]; exact s2, fun f hf => by rw [i1 88 (by decide), u 88 (by decide)]; exact hC2.2.1 f hf, by rw [i1 72 (by decide), am_up_nj _ _ _ _ (by decide), am_up_at], by rw [i1 72 (by decide), am_up_at], i2⟩, ?_⟩
      · refine h3.trans ?_
        rw [E62, i1 73 (by decide), u 73 (by decide), s2, hn, if_neg (by omega)]
      · refine b2.mf.tr ((mf_up (mf_up (mf.rf M2) (j := 35) (v := m) (by omega)) (j := 36) (v := many) (by omega)).tr ⟨fun a _ y => i1 a (by omega), by rw [i1 72 (by decide)], by rw [i1 72 (by decide)], by rw [i1 72 (by decide)], by rw [i1 72 (by decide)]⟩)
    rw [E17, s2, hn, if_neg (by omega), hC2.2.2.1, hC2.2.2.2.1]
    by_cases c1 : st.1 = -1
    · rw [if_pos c1, if_pos (Or.inl c1)]
      exact tk
    · rw [if_neg c1]
      by_cases c2 : st.1 < m
      · rw [if_pos c2, if_neg (by rintro (h | h | h); exact c1 h; omega; omega)]
        exact ⟨M2, rfl, hC2, b2.mf⟩
      · rw [if_neg c2]
        by_cases c3 : m = st.1
        · rw [if_pos c3]
          by_cases c4 : many < st.2.1
          · rw [if_pos c4, if_pos (Or.inr (Or.inr ⟨c3, c4⟩))]
            exact tk
          · rw [if_neg c4, if_neg (by rintro (h | h | h); exact c1 h; omega; exact c4 h.2)]
            exact ⟨M2, rfl, hC2, b2.mf⟩
        · rw [if_neg c3, if_pos (Or.inr (Or.inl (by omega)))]
          exact tk
  · rw [if_neg q, if_neg q]
    exact ⟨M2, rfl, hC2, b2.mf⟩
def MFc (s : Nat → Int) (n w y l : Nat) : Prop := ∀ (mt : Nat → Int) (st : Sst) (many : Int) (M : am_M), mtc n mt → 0 ≤ many → many ≤ (l : Int) → MM s n mt st M → ∃ M', cY y [rV 72, iV (w : Int), iV (l : Int), iV many] M = some (0, M') ∧ MM s n mt (src s n w (n - l) l many mt st) M' ∧ mf M M'
theorem mm_step {s : Nat → Int} {n w : Nat} (hv : vT s) (hn : s 1 = (n : Int)) (hw : w ≤ 51) {y y' l : Nat} (hl : l ≤ n)
    (E1 : ∀ (x1 x2 x3 : Int) (M : am_M), cY y [rV 72, iV x1, iV x2, iV x3] M = if x2 = (M 73 1) then (am_cb (cY 109 [rV 72, iV x1] M) (fun _ M2 => if (M2 72 24) = 0 then (cX y 17 [some (rV 72), some (iV x1), some (iV x2), some (iV x3), some (iV 0), some (iV 0), none] [] M2) else (some (0, M2)))) else (r_ck (x2 + 1) (am_cb (cY y' [rV 72, iV x1, iV (x2 + 1), iV x3] M) (fun _ M4 => r_bd 8 x2 (if (M4 88 (Int.toNat x2)) = ((-1)) then (r_ck (x2 + 1) (cX y 97 [some (rV 72), some (iV x1), some (iV x2), some (iV x3), some (iV (x2 + 1)), none, none] [] M4)) else (some (0, M4)))))))
    (E17 : ∀ (x1 x3 x4 x5 : Int) (d2 d6 : Option am_V) (M : am_M), cX y 17 [some (rV 72), some (iV x1), d2, some (iV x3), some (iV x4), some (iV x5), d6] [] M = if x5 < (M 73 1) then (am_cb (cY 116 [rV 72, iV x1, iV x5] M) (fun v1 M2 => if x4 < v1 then (r_ck (x5 + 1) (cX y 17 [some (rV 72), some (iV x1), none, some (iV x3), some (iV v1), some (iV (x5 + 1)), some (iV v1)] [] M2)) else (r_ck (x5 + 1) (cX y 17 [some (rV 72), some (iV x1), none, some (iV x3), some (iV x4), some (iV (x5 + 1)), some (iV v1)] [] M2)))) else (if (M 72 35) = ((-1)) then (cX y 62 [some (rV 72), some (iV x1), none, some (iV x3), some (iV x4), some (iV 0), none] [] (am_up (am_up M 72 35 x4) 72 36 x3)) else (if (M 72 35) < x4 then (some (0, M)) else (if x4 = (M 72 35) then (if x3 < (M 72 36) then (cX y 62 [some (rV 72), some (iV x1), none, some (iV x3), some (iV x4), some (iV 0), none] [] (am_up (am_up M 72 35 x4) 72 36 x3)) else (some (0, M))) else (cX y 62 [some (rV 72), some (iV x1), none, some (iV x3), some (iV x4), some (iV 0), none] [] (am_up (am_up M 72 35 x4) 72 36 x3))))))
    (E62 : ∀ (x5 : Int) (d1 d2 d3 d4 d6 : Option am_V) (M : am_M), cX y 62 [some (rV 72), d1, d2, d3, d4, some (iV x5), d6] [] M = if x5 < (M 73 1) then (r_bd 8 x5 (r_bd 8 x5 (r_ck (x5 + 1) (cX y 62 [some (rV 72), none, none, none, none, some (iV (x5 + 1)), none] [] (am_up M 92 (Int.toNat x5) (M 88 (Int.toNat x5))))))) else (some (0, M)))
    (E97 : ∀ (x1 x2 x3 x4 : Int) (d5 d6 : Option am_V) (M : am_M), cX y 97 [some (rV 72), some (iV x1), some (iV x2), some (iV x3), some (iV x4), d5, d6] [] M = if x4 < (M 73 1) then (r_bd 8 x4 (if (M 88 (Int.toNat x4)) = ((-1)) then (am_cb (cY 153 [rV 72, iV x2, iV x4, iV 1] M) (fun _ M2 => r_ck (x2 + 1) (r_ck (x3 + 1) (am_cb (cY y' [rV 72, iV x1, iV (x2 + 1), iV (x3 + 1)] M2) (fun _ M4 => am_cb (cY 153 [rV 72, iV x2, iV x4, iV 0] M4) (fun _ M6 => r_ck (x4 + 1) (cX y 97 [some (rV 72), some (iV x1), some (iV x2), some (iV x3), some (iV (x4 + 1)), none, none] [] M6))))))) else (r_ck (x4 + 1) (cX y 97 [some (rV 72), some (iV x1), some (iV x2), some (iV x3), some (iV (x4 + 1)), none, none] [] M)))) else (some (0, M)))
    (ih : l + 1 ≤ n → MFc s n w y' (l + 1)) : MFc s n w y l := by
  have hb1 := hv.2.1
  intro mt st many M hm h0 h1 hC
  have e1 : M 73 1 = (n : Int) := by rw [hC.1]; exact hn
  by_cases hln : l = n
  · obtain ⟨M', a1, a2, a3⟩ := mm_leaf hv hn hw E17 E62 mt st many M hm hC (some (iV (l : Int)))
    rw [E1, e1, if_pos (by omega), a1, show n - l = 0 by omega]
    exact ⟨M', rfl, a2, a3⟩
  · have ihl := ih (by omega)
    obtain ⟨M1, a1, a2, a3⟩ := ihl mt st many M hm h0 (by omega) hC
    have a1 : cY y' [rV 72, iV (w : Int), iV ((l : Int) + 1), iV many] M = some (0, M1) := a1
    have es : src s n w (n - l) l many mt st = if mt l = -1 then lpf (fun mt' st' => src s n w (n - (l + 1)) (l + 1) (many + 1) mt' st') mt l (n - (l + 1)) (l + 1) (src s n w (n - (l + 1)) (l + 1) many mt st) else src s n w (n - (l + 1)) (l + 1) many mt st := by
      rw [show n - l = (n - (l + 1)) + 1 by omega]
      rfl
    rw [E1, e1, if_neg (by omega), r_ck_ok (by omega) (by omega), a1, am_cb_s, r_bd_ok (by omega) (by omega), Int.toNat_natCast, a2.2.1 l (by omega), es]
    by_cases c : mt l = -1
    · rw [if_pos c, if_pos c, r_ck_ok (by omega) (by omega)]
      have L : ∀ (i g : Nat) (st : Sst) (M : am_M) (d5 d6 : Option am_V), l + 1 ≤ g → g + i = n → MM s n mt st M → ∃ M', cX y 97 [some (rV 72), some (iV (w : Int)), some (iV (l : Int)), some (iV many), some (iV (g : Int)), d5, d6] [] M = some (0, M') ∧ MM s n mt (lpf (fun mt' st' => src s n w (n - (l + 1)) (l + 1) (many + 1) mt' st') mt l i g st) M' ∧ mf M M' := by
        intro i
        induction i with
        | zero =>
          intro g st M d5 d6 hg1 hg hC
          exact ⟨M, by rw [E97, hC.1, hn, if_neg (by omega)], hC, mf.rf M⟩
        | succ i ihi =>
          intro g st M d5 d6 hg1 hg hC
          have hCl := hC.2.1 l (by omega)
          have hCg := hC.2.1 g (by omega)
          have el : lpf (fun mt' st' => src s n w (n - (l + 1)) (l + 1) (many + 1) mt' st') mt l (i + 1) g st = lpf (fun mt' st' => src s n w (n - (l + 1)) (l + 1) (many + 1) mt' st') mt l i (g + 1) (if mt g = -1 then src s n w (n - (l + 1)) (l + 1) (many + 1) (us (us mt l (g : Int)) g (l : Int)) st else st) := rfl
          rw [el, E97, hC.1, hn, if_pos (by omega), r_bd_ok (by omega) (by omega), Int.toNat_natCast, hCg]
          by_cases d : mt g = -1
          · rw [if_pos d, if_pos d]
            have hc1 : cY 153 [rV 72, iV (l : Int), iV (g : Int), iV 1] M = some (0, am_up (am_up M 88 l (g : Int)) 88 g (l : Int)) := by
              rw [e_Model_couples, if_neg (by decide), r_bd_ok (by omega) (by omega), if_neg (by decide), r_bd_ok (by omega) (by omega), Int.toNat_natCast, Int.toNat_natCast]
            have u : ∀ x, x ≠ 88 → (am_up (am_up M 88 l (g : Int)) 88 g (l : Int)) x = M x := fun x hx => by rw [am_up_ne _ _ _ _ hx, am_up_ne _ _ _ _ hx]
            obtain ⟨c1, c2, c3, c4, c5⟩ := id hC
            have hCu : MM s n (us (us mt l (g : Int)) g (l : Int)) st (am_up (am_up M 88 l (g : Int)) 88 g (l : Int)) := by
              refine ⟨by rw [u 73 (by decide)]; exact c1, fun f hf => ?_, by rw [u 72 (by decide)]; exact c3, by rw [u 72 (by decide)]; exact c4, fun f hf => by rw [u 92 (by decide)]; exact c5 f hf⟩
              by_cases z1 : f = g
              · subst z1; rw [am_up_at, us_at]
              · rw [am_up_nj _ _ _ _ z1, us_ne _ _ _ z1]
                by_cases z2 : f = l
                · subst z2; rw [am_up_at, us_at]
                · rw [am_up_nj _ _ _ _ z2, us_ne _ _ _ z2]; exact c2 f hf
            obtain ⟨M2, b1, b2, b3⟩ := ihl _ st (many + 1) _ (mtc_add hm (by omega) (by omega) (by omega) c d) (by omega) (by omega) hCu
            have b1 : cY y' [rV 72, iV (w : Int), iV ((l : Int) + 1), iV (many + 1)] (am_up (am_up M 88 l (g : Int)) 88 g (l : Int)) = some (0, M2) := b1
            have hc2 : cY 153 [rV 72, iV (l : Int), iV (g : Int), iV 0] M2 = some (0, am_up (am_up M2 88 l (-1)) 88 g (-1)) := by
              rw [e_Model_couples, if_pos rfl, r_bd_ok (by omega) (by omega), if_pos rfl, r_bd_ok (by omega) (by omega), Int.toNat_natCast, Int.toNat_natCast]
            have v : ∀ x, x ≠ 88 → (am_up (am_up M2 88 l (-1)) 88 g (-1)) x = M2 x := fun x hx => by rw [am_up_ne _ _ _ _ hx, am_up_ne _ _ _ _ hx]
            have v88 : (am_up (am_up M2 88 l (-1)) 88 g (-1)) 88 = M 88 := by
              funext i
              by_cases z1 : i = g
              · subst z1; rw [am_up_at, hCg, d]
              · rw [am_up_nj _ _ _ _ z1]
                by_cases z2 : i = l
                · subst z2; rw [am_up_at, hCl, c]
                · rw [am_up_nj _ _ _ _ z2, b3.1 88 (by decide) (by omega), am_up_nj _ _ _ _ z1, am_up_nj _ _ _ _ z2]
            have mfn : mf M (am_up (am_up M2 88 l (-1)) 88 g (-1)) := by
              refine ⟨fun x y1 y2 => ?_, ?_, ?_, ?_, ?_⟩
              · by_cases z : x = 88
                · rw [z, v88]
                · rw [v x z, b3.1 x y1 y2, u x z]
              · rw [v 72 (by decide), b3.2.1, u 72 (by decide)]
              · rw [v 72 (by decide), b3.2.2.1, u 72 (by decide)]
              · rw [v 72 (by decide), b3.2.2.2.1, u 72 (by decide)]
              · rw [v 72 (by decide), b3.2.2.2.2, u 72 (by decide)]
            have hC3 : MM s n mt (src s n w (n - (l + 1)) (l + 1) (many + 1) (us (us mt l (g : Int)) g (l : Int)) st) (am_up (am_up M2 88 l (-1)) 88 g (-1)) := ⟨by rw [v 73 (by decide)]; exact b2.1, fun f hf => by rw [v88]; exact c2 f hf, by rw [v 72 (by decide)]; exact b2.2.2.1, by rw [v 72 (by decide)]; exact b2.2.2.2.1, fun f hf => by rw [v 92 (by decide)]; exact b2.2.2.2.2 f hf⟩
            obtain ⟨M3, f1, f2, f3⟩ := ihi (g + 1) _ _ none none (by omega) (by omega) hC3
            rw [hc1, am_cb_s, r_ck_ok (by omega) (by omega), r_ck_ok (by omega) (by omega), b1, am_cb_s, hc2, am_cb_s, r_ck_ok (by omega) (by omega)]
            exact ⟨M3, f1, f2, mfn.tr f3⟩
          · rw [if_neg d, if_neg d, r_ck_ok (by omega) (by omega)]
            exact ihi (g + 1) st M none none (by omega) (by omega) hC
      obtain ⟨M2, b1, b2, b3⟩ := L (n - (l + 1)) (l + 1) _ M1 none none (by omega) (by omega) a2
      exact ⟨M2, b1, b2, a3.tr b3⟩
    · rw [if_neg c, if_neg c]
      exact ⟨M1, rfl, a2, a3⟩
theorem mm_0 {s : Nat → Int} {n w : Nat} (hv : vT s) (hn : s 1 = (n : Int)) (hw : w ≤ 51) : MFc s n w 154 0 := by
  have hb1 := hv.2.1
  have c8 : 8 ≤ n → MFc s n w 162 8 := fun h mt st many M hm h0 h1 hC => by
    obtain ⟨M', a1, a2, a3⟩ := mm_leaf hv hn hw e_Model_mates_8_17 e_Model_mates_8_62 mt st many M hm hC (some (iV 8))
    have e : cY 162 [rV 72, iV (w : Int), iV 8, iV many] M = some (0, M') := by
      rw [e_Model_mates_8, hC.1, hn, if_pos (by omega)]
      exact a1
    rw [show n - 8 = 0 by omega]
    exact ⟨M', e, a2, a3⟩
  have c7 : 7 ≤ n → MFc s n w 161 7 := fun h => mm_step hv hn hw h e_Model_mates_7 e_Model_mates_7_17 e_Model_mates_7_62 e_Model_mates_7_97 c8
  have c6 : 6 ≤ n → MFc s n w 160 6 := fun h => mm_step hv hn hw h e_Model_mates_6 e_Model_mates_6_17 e_Model_mates_6_62 e_Model_mates_6_97 c7
  have c5 : 5 ≤ n → MFc s n w 159 5 := fun h => mm_step hv hn hw h e_Model_mates_5 e_Model_mates_5_17 e_Model_mates_5_62 e_Model_mates_5_97 c6
  have c4 : 4 ≤ n → MFc s n w 158 4 := fun h => mm_step hv hn hw h e_Model_mates_4 e_Model_mates_4_17 e_Model_mates_4_62 e_Model_mates_4_97 c5
  have c3 : 3 ≤ n → MFc s n w 157 3 := fun h => mm_step hv hn hw h e_Model_mates_3 e_Model_mates_3_17 e_Model_mates_3_62 e_Model_mates_3_97 c4
  have c2 : 2 ≤ n → MFc s n w 156 2 := fun h => mm_step hv hn hw h e_Model_mates_2 e_Model_mates_2_17 e_Model_mates_2_62 e_Model_mates_2_97 c3
  have c1 : 1 ≤ n → MFc s n w 155 1 := fun h => mm_step hv hn hw h e_Model_mates_1 e_Model_mates_1_17 e_Model_mates_1_62 e_Model_mates_1_97 c2
  exact mm_step hv hn hw (by omega) e_Model_mates_0 e_Model_mates_0_17 e_Model_mates_0_62 e_Model_mates_0_97 c1
theorem p_plan46 (M M1 : am_M) (s : Nat → Int) (n w : Nat) (hv : vT s) (hn : s 1 = (n : Int)) (hc : cT s M 0) (hk : kT M 0) (hw : w ≤ 51) (a1 : cY 52 [rV 70, iV (w : Int)] M = some (0, M1)) : M1 46 3 = (w : Int) := by
  obtain ⟨N1, x1, x2, x3⟩ := p_letIn0 M s hv hc
  have hQ1 : cQ s N1 := cQ_eq (cQ_of hv hc hk (md.rf s)) (fun a ha => x2 a (by omega) (by omega) (by omega))
  have e5 : N1 10 5 = s 10 := by rw [x2 10 (by decide) (by decide) (by decide)]; exact hc.2.2.2.2.2.1 5 (by omega)
  obtain ⟨N2, y1, y2, y3, y4, y5⟩ := p_lineUp N1 s w n hv hQ1.2.1 hn hw
  obtain ⟨N3, z1, z2, z3, z4⟩ := p_reckon N2 s (rst s w) n w hv hn (isP_rst hv hn w) (cQ_eq hQ1 (fun a ha => y2 a (by omega))) (CN_eq x3 (y2 40 (by omega)) (y2 41 (by omega)) (y2 42 (by omega))) y3 y4
  have : cY 52 [rV 70, iV (w : Int)] M = some (0, N3) := by rw [e_Desk_planWeek, x1, am_cb_s, e5, y1, am_cb_s, z1, am_cb_s]
  rw [a1] at this
  cases this
  exact z3
theorem o37 : lw_O37 RI := by
  intro a b ha hb M hR hM
  have hR2 : RI (am_up M 72 6 0) := RI_mf (mf_up (mf.rf M) (by omega)) hR
  obtain ⟨r1, r2, r3, r4, r5, r6, r7, r8, r9, r10, r11⟩ := id hR
  have hb1 := r1.2.1
  obtain ⟨n, hn⟩ : ∃ n : Nat, M 73 1 = (n : Int) := ⟨(M 73 1).toNat, by omega⟩
  have e0 : M 0 4 = (n : Int) := by rw [← hn]; exact r2.2.1
  have e73 : (am_up M 72 6 0) 73 = M 73 := am_up_ne M 72 6 0 (by decide)
  by_cases h : b = -1 ∨ (0 ≤ b ∧ b < (n : Int))
  · have cst : cY 42 [rV 70, iV a, iV b] M = cX 42 10 [some (rV 70), some (iV a), some (iV b)] [] M := by
      rw [e_Desk_matched]
      by_cases z : b = -1
      · rw [if_pos z]
      · rw [if_neg z, p_lacksField, am_cb_s, e0, if_pos (h.elim (fun x => absurd x z) id), if_pos rfl]
    have mst : ∀ M1 : am_M, M1 73 = M 73 → cY 163 [rV 72, iV a, iV b] M1 = cX 163 12 [some (rV 72), some (iV a), some (iV b)] [] (am_up M1 72 6 0) := fun M1 e1 => by
      rw [e_Model_matched]
      by_cases z : b = -1
      · rw [if_pos z]
      · rw [if_neg z, p_isF' M M1 _ n (by omega) hn e1, am_cb_s, if_pos (h.elim (fun x => absurd x z) id), if_neg (by decide)]
    by_cases hw : 0 ≤ a ∧ a ≤ 51
    · by_cases h0 : n = 0
      · refine ⟨-5, M, am_up M 72 6 0, ?_, ?_, hR2⟩
        · rw [cst, e_Desk_matched_10, p_isNoWeek, am_cb_s, if_pos hw, if_pos rfl, e0, if_pos (by omega)]
        · rw [mst M rfl, e_Model_matched_12, p_isWeek, am_cb_s, if_pos hw, if_neg (by decide), e73, hn, if_pos (by omega)]
      · obtain ⟨w, rfl⟩ : ∃ w : Nat, a = (w : Int) := ⟨a.toNat, by omega⟩
        obtain ⟨s, hs⟩ : ∃ s, M 73 = s := ⟨_, rfl⟩
        rw [hs] at r1 r2 r11 hn hb1
        have hP := isP_rst r1 hn w
        obtain ⟨M1, a1, a2, a3⟩ := p_planWeek M s n w r1 hn r2 r3 (by omega)
        have h46 := p_plan46 M M1 s n w r1 hn r2 r3 (by omega) a1
        have ef := a3.2.2.2.1.2.2.1
        by_cases q : fls s (rst s w) n n = 0
        · -- the class's search
          have ucp : ∀ x, x ≠ 64 → (am_cpy M1 47 0 64 0 8) x = M1 x := fun x hx => by
            funext j
            unfold am_cpy
            rw [if_neg (fun h => hx h.1)]
          obtain ⟨Ma, b1, b2, b3⟩ := p_fill65 (am_cpy M1 47 0 64 0 8) (-1)
          obtain ⟨Mb, c1, c2, c3⟩ := p_fill66 Ma (-1)
          have kb : ∀ x, x ≠ 63 → x ≠ 64 → x ≠ 65 → x ≠ 66 → (am_up (am_up Mb 63 5 (-1)) 63 6 0) x = M1 x := fun x x1 x2 x3 x4 => by rw [am_up_ne _ _ _ _ x1, am_up_ne _ _ _ _ x1, c2 x x4, b2 x x3, ucp x x2]
          have hC0 : CM s n w (fun _ => -1) (-1, 0, fun _ => -1) (am_up (am_up Mb 63 5 (-1)) 63 6 0) := by
            refine ⟨⟨cQ_eq a3.1 (fun x hx => kb x (by omega) (by omega) (by omega) (by omega)), CN_eq a3.2.1 (kb 40 (by decide) (by decide) (by decide) (by decide)) (kb 41 (by decide) (by decide) (by decide) (by decide)) (kb 42 (by decide) (by decide) (by decide) (by decide)), CZ_eq a3.2.2.1 (kb 43 (by decide) (by decide) (by decide) (by decide)) (kb 44 (by decide) (by decide) (by decide) (by decide)) (kb 45 (by decide) (by decide) (by decide) (by decide)), by rw [kb 46 (by decide) (by decide) (by decide) (by decide)]; exact h46⟩, fun p hp => ?_, fun f hf => ?_, ?_, ?_, fun f hf => ?_⟩
            · rw [am_up_ne _ _ _ _ (by decide), am_up_ne _ _ _ _ (by decide), c2 64 (by decide), b2 64 (by decide)]
              show (if (64 : Nat) = 64 ∧ 0 ≤ p ∧ p < 0 + 8 then M1 47 (0 + (p - 0)) else M1 64 p) = _
              rw [if_pos ⟨rfl, by omega, by omega⟩, Nat.sub_zero, Nat.zero_add]
              exact a3.2.2.2.2 p hp
            · rw [am_up_ne _ _ _ _ (by decide), am_up_ne _ _ _ _ (by decide), c2 65 (by decide)]; exact b3 f (by omega)
            · rw [am_up_nj _ _ _ _ (by decide), am_up_at]
            · rw [am_up_at]
            · rw [am_up_ne _ _ _ _ (by decide), am_up_ne _ _ _ _ (by decide)]; exact c3 f (by omega)
          have hm0 : mtc n (fun _ => -1) := fun f _ => Or.inl rfl
          obtain ⟨M2, d1, d2, d3⟩ := cf_0 r1 hn (w := w) (fun _ => -1) (-1, 0, fun _ => -1) 0 _ hm0 (by omega) (by omega) hC0
          have d1 : cY 183 [rV 63, iV 0, iV 0] (am_up (am_up Mb 63 5 (-1)) 63 6 0) = some (0, M2) := d1
          have k2 : ∀ x, x < 40 ∨ 66 < x → M2 x = M x := fun x hx => by rw [d3 x (by omega), kb x (by omega) (by omega) (by omega) (by omega), a2 x (by omega)]
          have hR1 : RI M2 := RI_cf (fun x hx => k2 x (by omega)) hR
          have hR3 : RI (am_up M2 72 6 0) := RI_mf (mf_up (mf.rf M2) (by omega)) hR1
          have f73 : (am_up M2 72 6 0) 73 = s := by rw [am_up_ne _ _ _ _ (by decide), k2 73 (by omega), hs]
          -- the reference's
          obtain ⟨M4, e1, e2, e3⟩ := p_lays0 (am_up M2 72 6 0) n w (by rw [f73]; exact r1) (by rw [f73]; exact hn) (by omega) (fun i hi => by rw [am_up_ne _ _ _ _ (by decide), k2 88 (by omega)]; exact r10 i hi)
          rw [f73] at e3
          have s4 : M4 73 = s := by rw [e2.1 73 (by omega), f73]
          have em : M4 72 24 = fls s (rst s w) n n := by have := e3.2.2.2.2.2.2.2.1; rw [s4] at this; exact this
          have hC4 : MM s n (fun _ => -1) (-1, M4 72 36, M4 92) (am_up M4 72 35 (-1)) := ⟨by rw [am_up_ne _ _ _ _ (by decide)]; exact s4, fun f hf => by rw [am_up_ne _ _ _ _ (by decide), e2.1 88 (by omega), am_up_ne _ _ _ _ (by decide), k2 88 (by omega)]; exact r10 f (by omega), am_up_at _ _ _ _, am_up_nj _ _ _ _ (by decide), fun f hf => by rw [am_up_ne _ _ _ _ (by decide)]⟩
          obtain ⟨M5, g1, g2, g3⟩ := mm_0 r1 hn (w := w) (by omega) (fun _ => -1) (-1, M4 72 36, M4 92) 0 _ hm0 (by omega) (by omega) hC4
          have g1 : cY 154 [rV 72, iV (w : Int), iV 0, iV 0] (am_up M4 72 35 (-1)) = some (0, M5) := g1
          have elf : lfm s n w (fun _ => -1) 0 (-1, M4 72 36, M4 92) = lfm s n w (fun _ => -1) 0 (-1, 0, fun _ => -1) := by
            unfold lfm
            have eo : mtk (rst s w) (fun _ => -1) n = rst s w := mtk_none n (fun _ _ => rfl)
            rw [eo, if_pos q, if_pos q, if_pos (Or.inl rfl), if_pos (Or.inl rfl)]
          rw [src_st elf] at g2
          obtain ⟨st, hst⟩ : ∃ st, src s n w (n - 0) 0 0 (fun _ => -1) (-1, 0, fun _ => -1) = st := ⟨_, rfl⟩
          rw [hst] at g2 d2
          have mf6 : mf (am_up M2 72 6 0) M5 := (e2.mf.tr (mf_up (mf.rf M4) (by omega))).tr g3
          refine ⟨if b = -1 then st.1 else st.2.2 b.toNat, M2, M5, ?_, ?_, RI_mf mf6 hR3⟩
          · rw [cst, e_Desk_matched_10, p_isNoWeek, am_cb_s, if_pos hw, if_pos rfl, e0, if_neg (by omega), a1, am_cb_s, ef, if_pos q, e_Matcher_search, b1, am_cb_s, c1, am_cb_s, d1, am_cb_s, am_cb_s]
            by_cases z : b = -1
            · rw [if_pos z, if_pos z, d2.2.2.2.1]
            · have hbn := h.elim (fun x => absurd x z) id
              rw [if_neg z, if_neg z, r_bd_ok (by omega) (by omega), d2.2.2.2.2.2 b.toNat (by omega)]
          · rw [mst M2 (k2 73 (by omega)), e_Model_matched_12, p_isWeek, am_cb_s, if_pos hw, if_neg (by decide), f73, hn, if_neg (by omega), e1, am_cb_s, em, if_pos q, g1, am_cb_s]
            by_cases z : b = -1
            · rw [if_pos z, if_pos z, g2.2.2.1]
            · have hbn := h.elim (fun x => absurd x z) id
              rw [if_neg z, if_neg z, r_bd_ok (by omega) (by omega), g2.2.2.2.2 b.toNat (by omega)]
        · have hR1 : RI M1 := RI_cf (fun x hx => a2 x (by omega)) hR
          have hR3 : RI (am_up M1 72 6 0) := RI_mf (mf_up (mf.rf M1) (by omega)) hR1
          have f73 : (am_up M1 72 6 0) 73 = s := by rw [am_up_ne _ _ _ _ (by decide), a2 73 (by omega), hs]
          obtain ⟨M4, e1, e2, e3⟩ := p_lays0 (am_up M1 72 6 0) n w (by rw [f73]; exact r1) (by rw [f73]; exact hn) (by omega) (fun i hi => by rw [am_up_ne _ _ _ _ (by decide), a2 88 (by omega)]; exact r10 i hi)
          rw [f73] at e3
          have s4 : M4 73 = s := by rw [e2.1 73 (by omega), f73]
          have em : M4 72 24 = fls s (rst s w) n n := by have := e3.2.2.2.2.2.2.2.1; rw [s4] at this; exact this
          refine ⟨-6, M1, M4, ?_, ?_, RI_mf e2.mf hR3⟩
          · rw [cst, e_Desk_matched_10, p_isNoWeek, am_cb_s, if_pos hw, if_pos rfl, e0, if_neg (by omega), a1, am_cb_s, ef, if_neg q]
          · rw [mst M1 (a2 73 (by omega)), e_Model_matched_12, p_isWeek, am_cb_s, if_pos hw, if_neg (by decide), f73, hn, if_neg (by omega), e1, am_cb_s, em, if_neg q]
    · refine ⟨-3, M, am_up M 72 6 0, ?_, ?_, hR2⟩
      · rw [cst, e_Desk_matched_10, p_isNoWeek, am_cb_s, if_neg hw, if_neg (by decide)]
      · rw [mst M rfl, e_Model_matched_12, p_isWeek, am_cb_s, if_neg hw, if_pos rfl]
  · have z : ¬ b = -1 := fun x => h (Or.inl x)
    have z2 : ¬ (0 ≤ b ∧ b < (n : Int)) := fun x => h (Or.inr x)
    refine ⟨-2, M, am_up M 72 6 0, ?_, ?_, hR2⟩
    · rw [e_Desk_matched, if_neg z, p_lacksField, am_cb_s, e0, if_neg z2, if_neg (by decide)]
    · rw [e_Model_matched, if_neg z, p_isF0 M _ n (by omega) hn, am_cb_s, if_neg z2, if_pos rfl]
