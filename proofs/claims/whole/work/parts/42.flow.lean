-- by land alone the minutes don't depend on the flow
section
variable {s s' : Nat → Int}
theorem pf_5 (he : ∀ i, i ≠ 5 → s' i = s i) {b : Nat} (hb : 12 ≤ b) : ∀ k, pf s' b k = pf s b k := by
  intro k
  induction k with
  | zero => rfl
  | succ k ih => show pf s' b k + s' (b + 3 * k) = pf s b k + s (b + 3 * k); rw [ih, he _ (by omega)]
theorem mns_5 (he : ∀ i, i ≠ 5 → s' i = s i) {b : Nat} (hb : 12 ≤ b) (x y : Int) : mns s' b x y = mns s b x y := by
  unfold mns
  rw [pf_5 he hb, pf_5 he hb]
theorem nd_5 (he : ∀ i, i ≠ 5 → s' i = s i) (o : Nat → Int) (p : Nat) : nd s' o p = nd s o p := he _ (by omega)
theorem fil_5 (he : ∀ i, i ≠ 5 → s' i = s i) (o : Nat → Int) : fil s' o = fil s o := by
  funext p
  unfold fil
  rw [mns_5 he (by omega), nd_5 he, nd_5 he]
theorem drn_5 (he : ∀ i, i ≠ 5 → s' i = s i) (o : Nat → Int) (n : Nat) : drn s' o n = drn s o n := by
  funext p
  unfold drn
  rw [mns_5 he (by omega), nd_5 he, nd_5 he]
theorem nets_5 (he : ∀ i, i ≠ 5 → s' i = s i) (o : Nat → Int) (n : Nat) : ∀ k, nets s' o n k = nets s o n k := by
  intro k
  rw [nets_sm, nets_sm, drn_5 he, fil_5 he]
theorem wt_5 (he : ∀ i, i ≠ 5 → s' i = s i) (h : s 11 = 0) (f : Nat) : wt s' f = wt s f := by
  unfold wt
  rw [he 11 (by omega), if_pos h, if_pos h, he _ (by omega)]
theorem wsum_5 (he : ∀ i, i ≠ 5 → s' i = s i) (h : s 11 = 0) : ∀ k, wsum s' k = wsum s k := by
  intro k
  induction k with
  | zero => rfl
  | succ k ih => show wsum s' k + wt s' k = wsum s k + wt s k; rw [ih, wt_5 he h]
theorem sbz_5 (he : ∀ i, i ≠ 5 → s' i = s i) (h : s 11 = 0) (o : Nat → Int) (n : Nat) : sbz s' o n = sbz s o n := by
  funext f
  unfold sbz
  rw [nets_5 he, wt_5 he h, wsum_5 he h]
theorem ctz_5 (he : ∀ i, i ≠ 5 → s' i = s i) (h : s 11 = 0) (o : Nat → Int) (n : Nat) : ctz s' o n = ctz s o n := by
  funext f
  unfold ctz
  rw [nets_5 he, wt_5 he h, wsum_5 he h]
theorem lfs_5 (he : ∀ i, i ≠ 5 → s' i = s i) (h : s 11 = 0) (o : Nat → Int) (n : Nat) : ∀ k, lfs s' o n k = lfs s o n k := by
  intro k
  induction k with
  | zero => exact nets_5 he o n n
  | succ k ih => show lfs s' o n k - sbz s' o n k = lfs s o n k - sbz s o n k; rw [ih, sbz_5 he h]
theorem shr_5 (he : ∀ i, i ≠ 5 → s' i = s i) (h : s 11 = 0) (o : Nat → Int) (n : Nat) : shr s' o n = shr s o n := by
  funext f
  unfold shr
  rw [sbz_5 he h, ctz_5 he h, lfs_5 he h]
theorem fF_5 (he : ∀ i, i ≠ 5 → s' i = s i) (o : Nat → Int) (n : Nat) : fF s' o n = fF s o n := by
  funext f
  unfold fF
  rw [fil_5 he]
theorem dF_5 (he : ∀ i, i ≠ 5 → s' i = s i) (o : Nat → Int) (n : Nat) : dF s' o n = dF s o n := by
  funext f
  unfold dF
  rw [drn_5 he]
theorem trn_5 (he : ∀ i, i ≠ 5 → s' i = s i) (h : s 11 = 0) (o : Nat → Int) (n : Nat) : trn s' o n = trn s o n := by
  funext f
  unfold trn
  rw [shr_5 he h, fF_5 he, dF_5 he]
theorem fls_5 (he : ∀ i, i ≠ 5 → s' i = s i) (h : s 11 = 0) (o : Nat → Int) (n : Nat) : ∀ k, fls s' o n k = fls s o n k := by
  intro k
  induction k with
  | zero => rfl
  | succ k ih => show (if trn s' o n k < 0 then 1 else fls s' o n k) = if trn s o n k < 0 then 1 else fls s o n k; rw [ih, trn_5 he h]
theorem lcn_5 (he : ∀ i, i ≠ 5 → s' i = s i) (o : Nat → Int) (n w : Nat) (g : Nat → Int) (k : Nat) : lcn s' o n w g k = lcn s o n w g k := by
  unfold lcn
  rw [fF_5 he, he (118 + 4 * k) (by omega), he (121 + 4 * k) (by omega), he (119 + 4 * k) (by omega)]
theorem lst_5 (he : ∀ i, i ≠ 5 → s' i = s i) (g : Nat → Int) (k : Nat) : lst s' g k = lst s g k := by
  unfold lst
  rw [he (119 + 4 * k) (by omega), he (120 + 4 * k) (by omega), he (121 + 4 * k) (by omega)]
theorem lns_5 (he : ∀ i, i ≠ 5 → s' i = s i) (h : s 11 = 0) (o : Nat → Int) (n w : Nat) : ∀ k, lns s' o n w k = lns s o n w k := by
  intro k
  induction k with
  | zero => exact trn_5 he h o n
  | succ k ih => show (if lcn s' o n w (lns s' o n w k) k = true then lst s' (lns s' o n w k) k else lns s' o n w k) = if lcn s o n w (lns s o n w k) k = true then lst s (lns s o n w k) k else lns s o n w k; rw [ih, lcn_5 he, lst_5 he]
theorem lF_5 (he : ∀ i, i ≠ 5 → s' i = s i) (h : s 11 = 0) (o : Nat → Int) (n w : Nat) : lF s' o n w = lF s o n w := by
  unfold lF
  rw [he 3 (by omega), lns_5 he h]
theorem gnd_5 (he : ∀ i, i ≠ 5 → s' i = s i) (h : s 11 = 0) (o : Nat → Int) (n w f : Nat) : gnd s' o n w f = gnd s o n w f := by
  unfold gnd sho flg bF
  rw [fls_5 he h, lF_5 he h, dF_5 he, fF_5 he, shB_c (fun i hi => he i (by omega))]
theorem ngt_5 (he : ∀ i, i ≠ 5 → s' i = s i) (h : s 11 = 0) (o : Nat → Int) (n w f : Nat) : ngt s' o n w f = ngt s o n w f := by
  have e : nB s' = nB s := by
    funext m
    unfold nB
    rw [he 7 (by omega), he 8 (by omega)]
  unfold ngt bF
  rw [fls_5 he h, lF_5 he h, he 6 (by omega), e]
theorem own_5 (he : ∀ i, i ≠ 5 → s' i = s i) (w : Nat) : own s' w ↔ own s w := by
  unfold own
  rw [he 2 (by omega), he 3 (by omega), he 4 (by omega)]
  constructor
  · rintro (⟨k, a, b⟩ | ⟨k, a, b⟩ | ⟨k, a, b⟩)
    · exact Or.inl ⟨k, a, by rw [← he _ (by omega)]; exact b⟩
    · exact Or.inr (Or.inl ⟨k, a, by rw [← he _ (by omega)]; exact b⟩)
    · exact Or.inr (Or.inr ⟨k, a, by rw [← he _ (by omega)]; exact b⟩)
  · rintro (⟨k, a, b⟩ | ⟨k, a, b⟩ | ⟨k, a, b⟩)
    · exact Or.inl ⟨k, a, by rw [he _ (by omega)]; exact b⟩
    · exact Or.inr (Or.inl ⟨k, a, by rw [he _ (by omega)]; exact b⟩)
    · exact Or.inr (Or.inr ⟨k, a, by rw [he _ (by omega)]; exact b⟩)
theorem AS_5 (he : ∀ i, i ≠ 5 → s' i = s i) {n : Nat} {M : am_M} (h : AS s n M) : AS s' n M := by
  intro w hw
  obtain ⟨a, a1, a2, a3, a4⟩ := h w hw
  refine ⟨a, a1, a2, a3, ?_⟩
  unfold AL tby at a4 ⊢
  rw [own_5 he, own_5 he, he 9 (by omega), he 10 (by omega)]
  exact a4
theorem SN_5 (he : ∀ i, i ≠ 5 → s' i = s i) (h : s 11 = 0) {n r : Nat} {M : am_M} (hS : SN s n r M) : SN s' n r M := by
  obtain ⟨s1, s2, s3, s4, s5⟩ := hS
  refine ⟨by rw [he 10 (by omega)]; exact s1, AS_5 he s2, s3, s4, fun w hw hw2 f hf => ?_⟩
  rw [rst_c (fun i hi => he i (by omega)), gnd_5 he h, ngt_5 he h]
  exact s5 w hw hw2 f hf
end
-- whether all stays moist
def mst (s : Nat → Int) (n Wk : Nat) : Prop := ∀ w, w ≤ Wk → ∀ f, f < n → 0 ≤ slb s n w f (sol s n f w)
theorem p_moist (s : Nat → Int) (n Wk : Nat) (hv : vT s) (hn : s 1 = (n : Int)) (hW : Wk ≤ 51) : ∀ (j w r : Nat) (M : am_M) (d3 : Option am_V), w + j = Wk + 1 → cQ s M → CN s M → SN s n r M → (∀ f, f < n → M 71 f = sol s n f w) → (∀ x, x < w → ∀ f, f < n → 0 ≤ slb s n x f (sol s n f x)) → ∃ (M' : am_M) (v : Int) (r' : Nat), cX 37 11 [some (rV 70), some (iV (Wk : Int)), some (iV (w : Int)), d3] [] M = some (v, M') ∧ ((v = 1 ∧ mst s n Wk) ∨ (v = 0 ∧ ¬ mst s n Wk)) ∧ (∀ a, a < 43 ∨ (59 < a ∧ a ≠ 71) → M' a = M a) ∧ SN s n r' M' := by
  have hb1 := hv.2.1
  intro j
  induction j with
  | zero =>
    intro w r M d3 hw hQ hN hS h71 hall
    have e : w = Wk + 1 := by omega
    subst e
    exact ⟨M, 1, r, by rw [e_Desk_staysMoist_11, if_pos (by omega)], Or.inl ⟨rfl, fun w hw f hf => hall w (by omega) f hf⟩, fun _ _ => rfl, hS⟩
  | succ j ih =>
    intro w r M d3 hw hQ hN hS h71 hall
    obtain ⟨M1, r1, a1, a2, a3, a4, a5⟩ := p_reckonTo s n w hv hn (by omega) (w + 1) r M (by omega) hQ hN hS
    have hQ1 : cQ s M1 := cQ_eq hQ (fun a ha => a2 a (by omega))
    have hN1 : CN s M1 := CN_eq hN (a2 40 (by omega)) (a2 41 (by omega)) (a2 42 (by omega))
    have Li : ∀ (i f : Nat) (M : am_M), f + i = n → cQ s M → CN s M → SN s n r1 M → (∀ g, g < f → M 71 g = sol s n g (w + 1)) → (∀ g, f ≤ g → g < n → M 71 g = sol s n g w) → (∃ M', cX 37 20 [some (rV 70), some (iV (Wk : Int)), some (iV (w : Int)), some (iV (f : Int))] [] M = cX 37 11 [some (rV 70), some (iV (Wk : Int)), some (iV ((w + 1 : Nat) : Int)), some (iV (n : Int))] [] M' ∧ (∀ a, a ≠ 71 → M' a = M a) ∧ (∀ g, g < n → M' 71 g = sol s n g (w + 1)) ∧ ∀ g, f ≤ g → g < n → 0 ≤ slb s n w g (sol s n g w)) ∨ ∃ M', cX 37 20 [some (rV 70), some (iV (Wk : Int)), some (iV (w : Int)), some (iV (f : Int))] [] M = some (0, M') ∧ (∀ a, a ≠ 71 → M' a = M a) ∧ ∃ g, g < n ∧ slb s n w g (sol s n g w) < 0 := by
      intro i
      induction i with
      | zero =>
        intro f M hf hQ hN hS x1 x2
        have e : f = n := by omega
        subst e
        left
        exact ⟨M, by rw [e_Desk_staysMoist_20, hQ.1.1, hn, if_neg (by omega), r_ck_ok (by omega) (by omega)]; rfl, fun _ _ => rfl, x1, fun g h1 h2 => by omega⟩
      | succ i ihi =>
        intro f M hf hQ hN hS x1 x2
        have bs := sol_bd hv hn (f := f) (by omega) w
        have hsb := p_soilBehind hv hn hQ hN hS (w := w) (f := f) (by omega) (by omega) _ bs
        have es : sol s n f (w + 1) = max (slb s n w f (sol s n f w)) 0 := rfl
        have st := e_Desk_staysMoist_20 (Wk : Int) (w : Int) (f : Int) M
        rw [hQ.1.1, hn, if_pos (by omega), r_bd_ok (by omega) (by omega), Int.toNat_natCast, x2 f (by omega) (by omega), hsb, am_cb_s, r_bd_ok (by omega) (by omega), r_bd_ok (by omega) (by omega), am_up_at] at st
        by_cases q : slb s n w f (sol s n f w) < 0
        · rw [if_pos q] at st
          exact Or.inr ⟨_, st, fun a ha => am_up_ne _ _ _ _ ha, f, by omega, q⟩
        · rw [if_neg q, r_ck_ok (by omega) (by omega)] at st
          have u : ∀ a, a ≠ 71 → (am_up M 71 f (slb s n w f (sol s n f w))) a = M a := fun a ha => am_up_ne _ _ _ _ ha
          rcases ihi (f + 1) (am_up M 71 f (slb s n w f (sol s n f w))) (by omega) (cQ_eq hQ (fun a ha => u a (by omega))) (CN_eq hN (u 40 (by decide)) (u 41 (by decide)) (u 42 (by decide))) (SN_eq hS (u 55 (by decide)) (u 56 (by decide)) (u 58 (by decide)) (u 59 (by decide))) (fun g hg => by
            by_cases e : g = f
            · subst e; rw [am_up_at, es]; omega
            · rw [am_up_nj _ _ _ _ e]; exact x1 g (by omega)) (fun g h1 h2 => by rw [am_up_nj _ _ _ _ (by omega)]; exact x2 g (by omega) h2) with ⟨M', y1, y2, y3, y4⟩ | ⟨M', y1, y2, y3⟩
          · left
            exact ⟨M', st.trans y1, fun a ha => (y2 a ha).trans (u a ha), y3, fun g h1 h2 => by
              by_cases e : g = f
              · subst e; omega
              · exact y4 g (by omega) h2⟩
          · exact Or.inr ⟨M', st.trans y1, fun a ha => (y2 a ha).trans (u a ha), y3⟩
    rw [e_Desk_staysMoist_11, if_neg (by omega), e_Season_reckonTo, a1, am_cb_s]
    rcases Li n 0 M1 (by omega) hQ1 hN1 a3 (fun g hg => by omega) (fun g _ hg => by rw [a2 71 (by omega)]; exact h71 g hg) with ⟨M2, y1, y2, y3, y4⟩ | ⟨M2, y1, y2, y3⟩
    · obtain ⟨M3, v, r', z1, z2, z3, z4⟩ := ih (w + 1) r1 M2 (some (iV (n : Int))) (by omega) (cQ_eq hQ1 (fun a ha => y2 a (by omega))) (CN_eq hN1 (y2 40 (by decide)) (y2 41 (by decide)) (y2 42 (by decide))) (SN_eq a3 (y2 55 (by decide)) (y2 56 (by decide)) (y2 58 (by decide)) (y2 59 (by decide))) y3 (fun x hx f hf => by
        by_cases e : x = w
        · subst e; exact y4 f (by omega) hf
        · exact hall x (by omega) f hf)
      exact ⟨M3, v, r', y1.trans z1, z2, fun a ha => by rw [z3 a ha, y2 a (by omega), a2 a (by omega)], z4⟩
    · refine ⟨M2, 0, r1, y1, Or.inr ⟨rfl, fun hm => ?_⟩, fun a ha => by rw [y2 a (by omega), a2 a (by omega)], SN_eq a3 (y2 55 (by decide)) (y2 56 (by decide)) (y2 58 (by decide)) (y2 59 (by decide))⟩
      obtain ⟨g, g1, g2⟩ := y3
      have := hm w (by omega) g g1
      omega
theorem p_staysMoist (M : am_M) (s : Nat → Int) (n r Wk : Nat) (hv : vT s) (hn : s 1 = (n : Int)) (hW : Wk ≤ 51) (hQ : cQ s M) (hN : CN s M) (hS : SN s n r M) : ∃ (M' : am_M) (v : Int) (r' : Nat), cY 37 [rV 70, iV (Wk : Int)] M = some (v, M') ∧ ((v = 1 ∧ mst s n Wk) ∨ (v = 0 ∧ ¬ mst s n Wk)) ∧ (∀ a, a < 43 ∨ (59 < a ∧ a ≠ 71) → M' a = M a) ∧ SN s n r' M' := by
  have hb1 := hv.2.1
  have u : ∀ a, a ≠ 71 → (am_cpy M 7 0 71 0 8) a = M a := fun a ha => by
    funext j
    unfold am_cpy
    rw [if_neg (fun h => ha h.1)]
  obtain ⟨M', v, r', z1, z2, z3, z4⟩ := p_moist s n Wk hv hn hW (Wk + 1) 0 r (am_cpy M 7 0 71 0 8) none (by omega) (cQ_eq hQ (fun a ha => u a (by omega))) (CN_eq hN (u 40 (by decide)) (u 41 (by decide)) (u 42 (by decide))) (SN_eq hS (u 55 (by decide)) (u 56 (by decide)) (u 58 (by decide)) (u 59 (by decide))) (fun f hf => by
    unfold am_cpy
    rw [if_pos ⟨rfl, by omega, by omega⟩, Nat.sub_zero, Nat.zero_add]
    exact (hQ.2.2.2.1 f (by omega)).2.1) (fun x hx => by omega)
  exact ⟨M', v, r', by rw [e_Desk_staysMoist]; exact z1, z2, fun a ha => by rw [z3 a ha, u a (by omega)], z4⟩
theorem p_isWet (M : am_M) (n Wk : Nat) (hv : vT (M 73)) (hn : M 73 1 = (n : Int)) (h88 : ∀ i, i < 8 → M 88 i = -1) (hW : Wk ≤ 51) : ∃ (M' : am_M) (v : Int), cY 137 [rV 72, iV (Wk : Int)] M = some (v, M') ∧ ((v = 1 ∧ mst (M 73) n Wk) ∨ (v = 0 ∧ ¬ mst (M 73) n Wk)) ∧ mf M M' := by
  have hb1 := hv.2.1
  obtain ⟨s, hs⟩ : ∃ s, M 73 = s := ⟨_, rfl⟩
  rw [hs] at hv hn hb1 ⊢
  obtain ⟨d, M1, h1, i1, i2⟩ := lp_up (α := Option am_V × Option am_V × Option am_V) (X := fun k d M => cX 137 2 [some (rV 72), some (iV (Wk : Int)), some (iV (k : Int)), d.1, d.2.1, d.2.2] [] M) (n := n) (I := fun k M' => (∀ a, a ≠ 89 → M' a = M a) ∧ ∀ f, f < k → M' 89 f = s (44 + 4 * f)) (by
    intro k hk d M' hI
    obtain ⟨i1, i2⟩ := hI
    have hh := e_Model_isWet_2 (Wk : Int) (k : Int) d.1 d.2.1 d.2.2 M'
    have o2 := p_of2 M' k (by omega)
    rw [i1 73 (by decide), hs] at o2
    rw [i1 73 (by decide), hs, hn, if_pos (by omega), o2, am_cb_s, r_bd_ok (by omega) (by omega), r_ck_ok (by omega) (by omega), Int.toNat_natCast] at hh
    refine ⟨(none, none, none), _, hh, fun a ha => (am_up_ne _ _ _ _ ha).trans (i1 a ha), fun f hf => ?_⟩
    by_cases e : f = k
    · subst e; rw [am_up_at]
    · rw [am_up_nj _ _ _ _ e]; exact i2 f (by omega)) n 0 (by omega) (none, none, none) M ⟨fun _ _ => rfl, fun f hf => by omega⟩
  have mf89 : ∀ M M' : am_M, (∀ a, a ≠ 89 → M' a = M a) → mf M M' := fun M M' h => ⟨fun a _ y => h a (by omega), by rw [h 72 (by decide)], by rw [h 72 (by decide)], by rw [h 72 (by decide)], by rw [h 72 (by decide)]⟩
  have Lw : ∀ (j w : Nat) (M' : am_M) (d3 d4 d5 : Option am_V), w + j = Wk + 1 → mf M M' → (∀ f, f < n → M' 89 f = sol s n f w) → (∀ x, x < w → ∀ f, f < n → 0 ≤ slb s n x f (sol s n f x)) → ∃ (M2 : am_M) (v : Int), cX 137 21 [some (rV 72), some (iV (Wk : Int)), some (iV (w : Int)), d3, d4, d5] [] M' = some (v, M2) ∧ ((v = 1 ∧ mst s n Wk) ∨ (v = 0 ∧ ¬ mst s n Wk)) ∧ mf M M2 := by
    intro j
    induction j with
    | zero =>
      intro w M' d3 d4 d5 hw hm h89 hall
      have e : w = Wk + 1 := by omega
      subst e
      exact ⟨M', 1, by rw [e_Model_isWet_21, if_pos (by omega)], Or.inl ⟨rfl, fun w hw f hf => hall w (by omega) f hf⟩, hm⟩
    | succ j ih =>
      intro w M' d3 d4 d5 hw hm h89 hall
      have s1 : M' 73 = s := by rw [hm.1 73 (by decide) (by omega), hs]
      obtain ⟨M1, a1, a2, a3⟩ := p_lays0 M' n w (by rw [s1]; exact hv) (by rw [s1]; exact hn) (by omega) (fun i hi => by rw [hm.1 88 (by decide) (by omega)]; exact h88 i hi)
      rw [s1] at a3
      have s2 : M1 73 = s := by rw [a2.1 73 (by omega), s1]
      have hP := isP_rst hv hn w
      have Li : ∀ (i f : Nat) (M : am_M) (d4 d5 : Option am_V), f + i = n → (∀ a, a ≠ 89 → M a = M1 a) → (∀ g, g < f → M 89 g = sol s n g (w + 1)) → (∀ g, f ≤ g → g < n → M 89 g = sol s n g w) → (∃ M', cX 137 29 [some (rV 72), some (iV (Wk : Int)), some (iV (w : Int)), some (iV (f : Int)), d4, d5] [] M = cX 137 21 [some (rV 72), some (iV (Wk : Int)), some (iV ((w + 1 : Nat) : Int)), some (iV (n : Int)), none, none] [] M' ∧ (∀ a, a ≠ 89 → M' a = M1 a) ∧ (∀ g, g < n → M' 89 g = sol s n g (w + 1)) ∧ ∀ g, f ≤ g → g < n → 0 ≤ slb s n w g (sol s n g w)) ∨ ∃ M', cX 137 29 [some (rV 72), some (iV (Wk : Int)), some (iV (w : Int)), some (iV (f : Int)), d4, d5] [] M = some (0, M') ∧ (∀ a, a ≠ 89 → M' a = M1 a) ∧ ∃ g, g < n ∧ slb s n w g (sol s n g w) < 0 := by
        intro i
        induction i with
        | zero =>
          intro f M d4 d5 hf hM x1 x2
          have e : f = n := by omega
          subst e
          left
          exact ⟨M, by rw [e_Model_isWet_29, hM 73 (by decide), s2, hn, if_neg (by omega), r_ck_ok (by omega) (by omega)]; rfl, hM, x1, fun g h1 h2 => by omega⟩
        | succ i ihi =>
          intro f M d4 d5 hf hM x1 x2
          obtain ⟨v1, v2, v3, v4⟩ := hv.2.2.2.2.2.2.2.1 f (by omega)
          have bs := sol_bd hv hn (f := f) (by omega) w
          have sM : M 73 = s := by rw [hM 73 (by decide), s2]
          have hd := p_mdepthOf (MX_eq a3 (fun a ha => hM a (by omega))) (f := f) (by omega)
          rw [sM] at hd
          have bd := dpt_bd hv hn hP w (f := f) (by omega)
          have o2 := p_of2 M f (by omega)
          have o3 := p_of3 M f (by omega)
          rw [sM] at o2 o3
          have es : sol s n f (w + 1) = max (slb s n w f (sol s n f w)) 0 := rfl
          have ev : slb s n w f (sol s n f w) = min (sol s n f w + dpt s (rst s w) n w f) (s (44 + 4 * f)) - s (45 + 4 * f) := rfl
          have st := e_Model_isWet_29 (Wk : Int) (w : Int) (f : Int) d4 d5 M
          rw [sM, hn, if_pos (by omega), r_bd_ok (by omega) (by omega), hd, am_cb_s, Int.toNat_natCast, x2 f (by omega) (by omega), r_cl_ok (by omega) (by omega), o2, am_cb_s] at st
          have fin : ∀ d4 : Option am_V, (cX 137 29 [some (rV 72), some (iV (Wk : Int)), some (iV (w : Int)), some (iV (f : Int)), d4, d5] [] M = cX 137 29 [some (rV 72), some (iV (Wk : Int)), some (iV (w : Int)), some (iV (f : Int)), d4, d5] [] M) := fun _ => rfl
          have use : ∀ v, v = slb s n w f (sol s n f w) → ∀ d6 : Option am_V, (cX 137 29 [some (rV 72), some (iV (Wk : Int)), some (iV (w : Int)), some (iV (f : Int)), d4, d5] [] M = if v < 0 then some (0, am_up M 89 f v) else if v = 0 then r_ck ((f : Int) + 1) (cX 137 29 [some (rV 72), some (iV (Wk : Int)), some (iV (w : Int)), some (iV ((f : Int) + 1)), d6, none] [] (am_up M 89 f v)) else r_ck ((f : Int) + 1) (cX 137 29 [some (rV 72), some (iV (Wk : Int)), some (iV (w : Int)), some (iV ((f : Int) + 1)), d6, none] [] (am_up M 89 f v))) → (∃ M', cX 137 29 [some (rV 72), some (iV (Wk : Int)), some (iV (w : Int)), some (iV (f : Int)), d4, d5] [] M = cX 137 21 [some (rV 72), some (iV (Wk : Int)), some (iV ((w + 1 : Nat) : Int)), some (iV (n : Int)), none, none] [] M' ∧ (∀ a, a ≠ 89 → M' a = M1 a) ∧ (∀ g, g < n → M' 89 g = sol s n g (w + 1)) ∧ ∀ g, f ≤ g → g < n → 0 ≤ slb s n w g (sol s n g w)) ∨ ∃ M', cX 137 29 [some (rV 72), some (iV (Wk : Int)), some (iV (w : Int)), some (iV (f : Int)), d4, d5] [] M = some (0, M') ∧ (∀ a, a ≠ 89 → M' a = M1 a) ∧ ∃ g, g < n ∧ slb s n w g (sol s n g w) < 0 := by
            intro v hvv d6 hx
            by_cases q : v < 0
            · rw [if_pos q] at hx
              exact Or.inr ⟨_, hx, fun a ha => (am_up_ne _ _ _ _ ha).trans (hM a ha), f, by omega, by omega⟩
            · have hx : cX 137 29 [some (rV 72), some (iV (Wk : Int)), some (iV (w : Int)), some (iV (f : Int)), d4, d5] [] M = cX 137 29 [some (rV 72), some (iV (Wk : Int)), some (iV (w : Int)), some (iV ((f : Int) + 1)), d6, none] [] (am_up M 89 f v) := by
                rw [if_neg q] at hx
                rw [hx]
                split
                · rw [r_ck_ok (by omega) (by omega)]
                · rw [r_ck_ok (by omega) (by omega)]
              rcases ihi (f + 1) (am_up M 89 f v) d6 none (by omega) (fun a ha => (am_up_ne _ _ _ _ ha).trans (hM a ha)) (fun g hg => by
                by_cases e : g = f
                · subst e; rw [am_up_at, es]; omega
                · rw [am_up_nj _ _ _ _ e]; exact x1 g (by omega)) (fun g h1 h2 => by rw [am_up_nj _ _ _ _ (by omega)]; exact x2 g (by omega) h2) with ⟨M', y1, y2, y3, y4⟩ | ⟨M', y1, y2, y3⟩
              · left
                exact ⟨M', hx.trans y1, y2, y3, fun g h1 h2 => by
                  by_cases e : g = f
                  · subst e; omega
                  · exact y4 g (by omega) h2⟩
              · exact Or.inr ⟨M', hx.trans y1, y2, y3⟩
          by_cases q1 : sol s n f w + dpt s (rst s w) n w f < s (44 + 4 * f)
          · rw [if_pos q1, o3, am_cb_s, r_cl_ok (by omega) (by omega), r_bd_ok (by omega) (by omega), r_bd_ok (by omega) (by omega), am_up_at] at st
            exact use _ (by omega) _ st
          · by_cases q2 : sol s n f w + dpt s (rst s w) n w f = s (44 + 4 * f)
            · rw [if_neg q1, if_pos q2, o3, am_cb_s, r_cl_ok (by omega) (by omega), r_bd_ok (by omega) (by omega), r_bd_ok (by omega) (by omega), am_up_at] at st
              exact use _ (by omega) _ st
            · rw [if_neg q1, if_neg q2, o2, am_cb_s, o3, am_cb_s, r_cl_ok (by omega) (by omega), r_bd_ok (by omega) (by omega), r_bd_ok (by omega) (by omega), am_up_at] at st
              exact use _ (by omega) _ st
      rw [e_Model_isWet_21, if_neg (by omega), a1, am_cb_s]
      rcases Li n 0 M1 none none (by omega) (fun _ _ => rfl) (fun g hg => by omega) (fun g _ hg => by rw [a2.1 89 (by omega)]; exact h89 g hg) with ⟨M2, y1, y2, y3, y4⟩ | ⟨M2, y1, y2, y3⟩
      · obtain ⟨M3, v, z1, z2, z3⟩ := ih (w + 1) M2 (some (iV (n : Int))) none none (by omega) ((hm.tr a2.mf).tr (mf89 _ _ y2)) y3 (fun x hx f hf => by
          by_cases e : x = w
          · subst e; exact y4 f (by omega) hf
          · exact hall x (by omega) f hf)
        exact ⟨M3, v, y1.trans z1, z2, z3⟩
      · refine ⟨M2, 0, y1, Or.inr ⟨rfl, fun hmm => ?_⟩, (hm.tr a2.mf).tr (mf89 _ _ y2)⟩
        obtain ⟨g, g1, g2⟩ := y3
        have := hmm w (by omega) g g1
        omega
  obtain ⟨M2, v, z1, z2, z3⟩ := Lw (Wk + 1) 0 M1 none none none (by omega) (mf89 _ _ i1) i2 (fun x hx => by omega)
  refine ⟨M2, v, ?_, z2, z3⟩
  rw [e_Model_isWet]
  refine h1.trans ?_
  rw [e_Model_isWet_2, i1 73 (by decide), hs, hn, if_neg (by omega)]
  exact z1
/-- the answer, from a flow on -/
def LF (s : Nat → Int) (n Wk N : Nat) (r : Int) : Prop := (r = -1 ∧ ∀ i, N ≤ i → i ≤ 999 → ¬ mst (us s 5 (i : Int)) n Wk) ∨ ∃ x : Nat, r = (x : Int) ∧ N ≤ x ∧ x ≤ 999 ∧ mst (us s 5 (x : Int)) n Wk ∧ ∀ i, N ≤ i → i < x → ¬ mst (us s 5 (i : Int)) n Wk
theorem LF_u {s : Nat → Int} {n Wk N : Nat} {r r' : Int} (h : LF s n Wk N r) (h' : LF s n Wk N r') : r = r' := by
  rcases h with ⟨a1, a2⟩ | ⟨x, a1, a2, a3, a4, a5⟩
  · rcases h' with ⟨b1, b2⟩ | ⟨y, b1, b2, b3, b4, b5⟩
    · rw [a1, b1]
    · exact absurd b4 (a2 y b2 b3)
  · rcases h' with ⟨b1, b2⟩ | ⟨y, b1, b2, b3, b4, b5⟩
    · exact absurd a4 (b2 x a2 a3)
    · rcases Nat.lt_trichotomy x y with c | c | c
      · exact absurd a4 (b5 x a2 c)
      · rw [a1, b1, c]
      · exact absurd b4 (a5 y b2 c)
theorem LF_n {s : Nat → Int} {n Wk N : Nat} {r : Int} (h0 : ¬ mst (us s 5 (N : Int)) n Wk) (h : LF s n Wk (N + 1) r) : LF s n Wk N r := by
  rcases h with ⟨a1, a2⟩ | ⟨x, a1, a2, a3, a4, a5⟩
  · exact Or.inl ⟨a1, fun i h1 h2 => by
      by_cases e : i = N
      · subst e; exact h0
      · exact a2 i (by omega) h2⟩
  · exact Or.inr ⟨x, a1, by omega, a3, a4, fun i h1 h2 => by
      by_cases e : i = N
      · subst e; exact h0
      · exact a5 i (by omega) h2⟩
theorem o32 : lw_O32 RI := by
  intro a ha M hR hM
  have hR2 : RI (am_up M 72 6 0) := RI_mf (mf_up (mf.rf M) (by omega)) hR
  obtain ⟨r1, r2, r3, r4, r5, r6, r7, r8, r9, r10, r11⟩ := id hR
  have hb1 := r1.2.1
  obtain ⟨n, hn⟩ : ∃ n : Nat, M 73 1 = (n : Int) := ⟨(M 73 1).toNat, by omega⟩
  have e0 : M 0 4 = (n : Int) := by rw [← hn]; exact r2.2.1
  have e73 : (am_up M 72 6 0) 73 = M 73 := am_up_ne M 72 6 0 (by decide)
  by_cases hw : 0 ≤ a ∧ a ≤ 51
  · by_cases h0 : n = 0
    · refine ⟨-5, M, am_up M 72 6 0, ?_, ?_, hR2⟩
      · rw [e_Desk_leastFlow, p_isNoWeek, am_cb_s, if_pos hw, if_pos rfl, e0, if_pos (by omega)]
      · rw [e_Model_leastFlow, p_isWeek, am_cb_s, if_pos hw, if_neg (by decide), e73, hn, if_pos (by omega)]
    · obtain ⟨w, rfl⟩ : ∃ w : Nat, a = (w : Int) := ⟨a.toNat, by omega⟩
      obtain ⟨s, hs⟩ : ∃ s, M 73 = s := ⟨_, rfl⟩
      rw [hs] at r1 r2 r11 hn hb1
      have hQ0 : cQ s M := cQ_of r1 r2 r3 (md.rf s)
      have e5 : M 10 5 = s 10 := r2.2.2.2.2.2.1 5 (by omega)
      obtain ⟨M1, a1, a2, a3, a4, a5⟩ := p_open M s n r1 hn (by omega) hQ0
      have hT1 : cT s M1 0 := cT_eq (fun a _ h2 => a2 a (by omega) (by omega) (by omega)) r2
      have hk1 : kT M1 0 := kT_eq (fun a _ h2 => a2 a (by omega) (by omega) (by omega)) r3
      have hv' : ∀ N : Nat, 1 ≤ N → N ≤ 999 → vT (us s 5 (N : Int)) := fun N h1 h2 => vT_set r1 (by omega) ⟨fun h => by omega, fun h => by omega, fun h => by omega, fun h => by omega, fun h => by omega, fun h => by omega, fun h => by omega⟩
      have hn' : ∀ N : Nat, us s 5 (N : Int) 1 = (n : Int) := fun N => by rw [us_ne _ _ _ (by omega)]; exact hn
      have he : ∀ N : Nat, ∀ i, i ≠ 5 → us s 5 (N : Int) i = s i := fun N i hi => us_ne _ _ _ hi
      have Lc : ∀ (j N : Nat) (M' : am_M), N + j = 1000 → 1 ≤ N → cT s M' 0 → kT M' 0 → AS s n M' → M' 55 6 = s 10 → (s 11 = 0 → ∃ r, SN s n r M') → ∃ (M2 : am_M) (v : Int), cX 34 21 [some (rV 70), some (iV (w : Int)), some (iV (N : Int))] [] M' = some (v, M2) ∧ LF s n w N v ∧ ∀ a, a < 40 ∨ (59 < a ∧ a ≠ 71) → M2 a = M' a := by
        intro j
        induction j with
        | zero =>
          intro N M' hN h1 hT hk hA h6 hS
          exact ⟨M', -1, by rw [e_Desk_leastFlow_21, if_pos (by omega)], Or.inl ⟨rfl, fun i x1 x2 => by omega⟩, fun _ _ => rfl⟩
        | succ j ih =>
          intro N M' hN h1 hT hk hA h6 hS
          obtain ⟨M2, b1, b2, b3⟩ := p_letIn M' s (us s 5 (N : Int)) (N : Int) (-1) r1 (hv' N h1 (by omega)) hT (us_at _ _ _) (fun r hr => by rw [us_ne _ _ _ (by omega), if_neg (by omega)]) (fun i h5 _ => us_ne _ _ _ h5)
          have k2 : ∀ a, a < 40 ∨ 42 < a → M2 a = M' a := fun a ha => b2 a (by omega) (by omega) (by omega)
          have hQ2 : cQ (us s 5 (N : Int)) M2 := cQ_eq (cQ_of r1 hT hk (fun i h5 _ _ => us_ne _ _ _ h5)) (fun a ha => k2 a (by omega))
          have e106 : M2 10 6 = s 11 := by rw [k2 10 (by omega)]; exact hT.2.2.2.2.2.1 6 (by omega)
          have aft : ∀ (Mx M3 : am_M) (v : Int) (r' : Nat), (∀ a, a ≠ 55 → Mx a = M2 a) → (∀ a, a < 43 ∨ (59 < a ∧ a ≠ 71) → M3 a = Mx a) → SN (us s 5 (N : Int)) n r' M3 → ¬ mst (us s 5 (N : Int)) n w → ∃ (M4 : am_M) (v : Int), cX 34 21 [some (rV 70), some (iV (w : Int)), some (iV ((N + 1 : Nat) : Int))] [] M3 = some (v, M4) ∧ LF s n w N v ∧ ∀ a, a < 40 ∨ (59 < a ∧ a ≠ 71) → M4 a = M' a := by
            intro Mx M3 v r' x1 x2 x3 x4
            have k3 : ∀ a, a < 40 ∨ (59 < a ∧ a ≠ 71) → M3 a = M' a := fun a ha => by rw [x2 a (by omega), x1 a (by omega), k2 a (by omega)]
            obtain ⟨M4, v, y1, y2, y3⟩ := ih (N + 1) M3 (by omega) (by omega) (cT_eq (fun a _ h2 => k3 a (by omega)) hT) (kT_eq (fun a _ h2 => k3 a (by omega)) hk) (AS_5 (fun i hi => (he N i hi).symm) x3.2.1) (by rw [x3.1, us_ne _ _ _ (by omega)]) (fun h11 => ⟨r', SN_5 (fun i hi => (he N i hi).symm) (by rw [us_ne _ _ _ (by omega)]; exact h11) x3⟩)
            exact ⟨M4, v, y1, LF_n x4 y2, fun a ha => by rw [y3 a ha, k3 a ha]⟩
          rw [e_Desk_leastFlow_21, if_neg (by omega), b1, am_cb_s, e106]
          by_cases q : s 11 = 0
          · obtain ⟨r, hSr⟩ := hS q
            have hS2 : SN (us s 5 (N : Int)) n r M2 := SN_5 (he N) q (SN_eq hSr (k2 55 (by omega)) (k2 56 (by omega)) (k2 58 (by omega)) (k2 59 (by omega)))
            obtain ⟨M3, v, r', c1, c2, c3, c4⟩ := p_staysMoist M2 (us s 5 (N : Int)) n r w (hv' N h1 (by omega)) (hn' N) (by omega) hQ2 b3 hS2
            rw [if_pos q, c1, am_cb_s]
            rcases c2 with ⟨z1, z2⟩ | ⟨z1, z2⟩
            · rw [if_neg (by omega)]
              exact ⟨M3, (N : Int), rfl, Or.inr ⟨N, rfl, by omega, by omega, z2, fun i x1 x2 => by omega⟩, fun a ha => by rw [c3 a (by omega), k2 a (by omega)]⟩
            · rw [if_pos z1, r_ck_ok (by omega) (by omega)]
              exact aft M2 M3 v r' (fun _ _ => rfl) c3 c4 z2
          · have u : ∀ a, a ≠ 55 → (am_up M2 55 7 0) a = M2 a := fun a ha => am_up_ne _ _ _ _ ha
            have hS2 : SN (us s 5 (N : Int)) n 0 (am_up M2 55 7 0) := by
              refine ⟨by rw [am_up_nj _ _ _ _ (by decide), k2 55 (by omega), us_ne _ _ _ (by omega)]; exact h6, AS_5 (he N) ?_, am_up_at _ _ _ _, by omega, fun w hw => by omega⟩
              unfold AS
              rw [u 56 (by decide), k2 56 (by omega)]
              exact hA
            obtain ⟨M3, v, r', c1, c2, c3, c4⟩ := p_staysMoist (am_up M2 55 7 0) (us s 5 (N : Int)) n 0 w (hv' N h1 (by omega)) (hn' N) (by omega) (cQ_eq hQ2 (fun a ha => u a (by omega))) (CN_eq b3 (u 40 (by decide)) (u 41 (by decide)) (u 42 (by decide))) hS2
            rw [if_neg q, e_Season_forget, am_cb_s, c1, am_cb_s]
            rcases c2 with ⟨z1, z2⟩ | ⟨z1, z2⟩
            · rw [if_neg (by omega)]
              exact ⟨M3, (N : Int), rfl, Or.inr ⟨N, rfl, by omega, by omega, z2, fun i x1 x2 => by omega⟩, fun a ha => by rw [c3 a (by omega), u a (by omega), k2 a (by omega)]⟩
            · rw [if_pos z1, r_ck_ok (by omega) (by omega)]
              exact aft (am_up M2 55 7 0) M3 v r' u c3 c4 z2
      obtain ⟨M2, v, c1, c2, c3⟩ := Lc 999 1 M1 (by omega) (by omega) hT1 hk1 a5 a3 (fun _ => ⟨0, a3, a5, a4, by omega, fun w hw => by omega⟩)
      have k2 : ∀ a, a < 40 ∨ (59 < a ∧ a ≠ 71) → M2 a = M a := fun a ha => by rw [c3 a ha, a2 a (by omega) (by omega) (by omega)]
      have hR1 : RI M2 := RI_cf (fun x hx => k2 x (by omega)) hR
      have hR3 : RI (am_up M2 72 6 0) := RI_mf (mf_up (mf.rf M2) (by omega)) hR1
      have f73 : (am_up M2 72 6 0) 73 = s := by rw [am_up_ne _ _ _ _ (by decide), k2 73 (by omega), hs]
      have Lm : ∀ (j N : Nat) (M' : am_M) (u : Int), N + j = 1000 → 1 ≤ N → mg (am_up M2 72 6 0) M' → M' 73 = us s 5 u → ∃ (M3 : am_M) (r : Int), cX 138 24 [some (rV 72), some (iV (w : Int)), some (iV (s 5)), some (iV (-1)), some (iV (N : Int))] [] M' = some (r, M3) ∧ LF s n w N r ∧ mg (am_up M2 72 6 0) M3 ∧ M3 73 = s := by
        intro j
        induction j with
        | zero =>
          intro N M' u hN h1 hm h7
          refine ⟨am_up M' 73 5 (s 5), -1, by rw [e_Model_leastFlow_24, if_neg (by omega)], Or.inl ⟨rfl, fun i x1 x2 => by omega⟩, hm.tr mg_73, ?_⟩
          rw [up_us, h7, us_us, ← us_us s 5 0, us_back]
        | succ j ih =>
          intro N M' u hN h1 hm h7
          have u73 : (am_up M' 73 5 (N : Int)) 73 = us s 5 (N : Int) := by rw [up_us, h7, us_us]
          obtain ⟨M3, v, b1, b2, b3⟩ := p_isWet (am_up M' 73 5 (N : Int)) n w (by rw [u73]; exact hv' N h1 (by omega)) (by rw [u73]; exact hn' N) (fun i hi => by rw [am_up_ne _ _ _ _ (by decide), hm.1 88 (by decide) (by decide) (by omega), am_up_ne _ _ _ _ (by decide), k2 88 (by omega)]; exact r10 i hi) (by omega)
          rw [u73] at b2
          have hm3 : mg (am_up M2 72 6 0) M3 := (hm.tr mg_73).tr b3.mg
          have s3 : M3 73 = us s 5 (N : Int) := by rw [b3.1 73 (by decide) (by omega), u73]
          rw [e_Model_leastFlow_24, if_pos (by omega), if_pos rfl, b1, am_cb_s]
          rcases b2 with ⟨z1, z2⟩ | ⟨z1, z2⟩
          · rw [if_neg (by omega), r_ck_ok (by omega) (by omega)]
            refine ⟨am_up M3 73 5 (s 5), (N : Int), ?_, Or.inr ⟨N, rfl, by omega, by omega, z2, fun i x1 x2 => by omega⟩, hm3.tr mg_73, ?_⟩
            · rw [e_Model_leastFlow_24]
              by_cases c : (N : Int) + 1 < 1000
              · rw [if_pos c, if_neg (by omega)]
              · rw [if_neg c]
            · rw [up_us, s3, us_us, ← us_us s 5 0, us_back]
          · obtain ⟨M4, r, d1, d2, d3, d4⟩ := ih (N + 1) M3 (N : Int) (by omega) (by omega) hm3 s3
            rw [if_pos z1, r_ck_ok (by omega) (by omega)]
            exact ⟨M4, r, d1, LF_n z2 d2, d3, d4⟩
      obtain ⟨M3, r, m1, m2, m3, m4⟩ := Lm 999 1 (am_up M2 72 6 0) (s 5) (by omega) (by omega) (mg.rf _) (by rw [f73, ← us_us s 5 0, us_back])
      have er : r = v := LF_u m2 c2
      subst er
      refine ⟨r, M2, M3, ?_, ?_, RI_mf (m3.mf (by rw [m4, f73])) hR3⟩
      · rw [e_Desk_leastFlow, p_isNoWeek, am_cb_s, if_pos hw, if_pos rfl, e0, if_neg (by omega), e5, a1, am_cb_s]
        exact c1
      · rw [e_Model_leastFlow, p_isWeek, am_cb_s, if_pos hw, if_neg (by decide), f73, hn, if_neg (by omega)]
        exact m1
  · refine ⟨-3, M, am_up M 72 6 0, ?_, ?_, hR2⟩
    · rw [e_Desk_leastFlow, p_isNoWeek, am_cb_s, if_neg hw, if_neg (by decide)]
    · rw [e_Model_leastFlow, p_isWeek, am_cb_s, if_neg hw, if_pos rfl]
