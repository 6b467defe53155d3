-- the draft, in both
theorem up_cg {M N : am_M} {b : Nat} (h : M b = N b) (a j : Nat) (v : Int) : am_up M a j v b = am_up N a j v b := by
  funext k
  unfold am_up
  rw [h]
def DR (C N : am_M) : Prop := vT (N 73) ∧ cT (N 73) C 17 ∧ kT C 17 ∧ nT (N 73 1) (C 21) (N 76) ∧ ∀ f : Nat, N 73 1 ≤ (f : Int) → f < 8 → N 73 (44 + 4 * f) = 0 ∧ N 73 (45 + 4 * f) = 0
def FC (C0 C : am_M) : Prop := ∀ a, a < 17 ∨ 33 < a → C a = C0 a
def FN (N0 N : am_M) : Prop := (∀ a, a ≠ 73 → a ≠ 76 → N a = N0 a) ∧ ∀ j, 184 ≤ j → N 73 j = N0 73 j
def GC (C : am_M) : Prop := kT C 17 ∧ C 18 0 = 0 ∧ C 19 0 = 0
def T2 (C0 N0 : am_M) (e p : Nat) (w0 wa0 : Int) (C N : am_M) : Prop := ∃ C1 N1 p' w wa, TX C1 N1 e ∧ S2 C1 N1 e p' w wa C N ∧ p ≤ p' ∧ FC C0 C1 ∧ FN N0 N1 ∧ GC C1 ∧ (w = 0 → DR C1 N1) ∧ (w0 ≠ 0 → w = w0 ∧ wa = wa0)
theorem DR_G {C N : am_M} (h : DR C N) : GC C := ⟨h.2.2.1, h.2.1.2.2.2.2.2.2.1.1, h.2.1.2.2.2.2.2.2.1.2⟩
section
variable {C0 N0 C N : am_M} {e p : Nat} {w wa : Int}
theorem jn_up (hT : TX C0 N0 e) (h : S2 C0 N0 e p w wa C N) (a i : Nat) (v : Int) (ha : a = 73 ∨ a = 76) : TX C0 (am_up N0 a i v) e ∧ S2 C0 (am_up N0 a i v) e p w wa C (am_up N a i v) := by
  obtain ⟨hp, hw, hC, pm, hpm, hM, h0⟩ := h
  obtain ⟨he, he2, h8, ht⟩ := hT
  have x1 : ∀ M : am_M, am_up M a i v 72 = M 72 := fun M => am_up_ne _ _ _ _ (by omega)
  have x2 : am_up N0 a i v 78 = N0 78 := am_up_ne _ _ _ _ (by omega)
  refine ⟨⟨he, by rw [x1]; exact he2, h8, by rw [x2]; exact ht⟩, hp, hw, hC, pm, hpm, ⟨fun b hb => up_cg (hM.1 b hb) _ _ _, ?_, ?_, ?_, ?_⟩, h0⟩
  · rw [x1, x1]; exact hM.2.1
  · rw [x1]; exact hM.2.2.1
  · rw [x1]; exact hM.2.2.2.1
  · rw [x1]; exact hM.2.2.2.2
theorem jc_up (hT : TX C0 N0 e) (h : S2 C0 N0 e p w wa C N) (a i : Nat) (v : Int) (ha : 17 ≤ a ∧ a ≤ 33) : TX (am_up C0 a i v) N0 e ∧ S2 (am_up C0 a i v) N0 e p w wa (am_up C a i v) N := by
  obtain ⟨hp, hw, hC, hR⟩ := h
  obtain ⟨he, he2, h8, ht⟩ := hT
  have x1 : ∀ M : am_M, am_up M a i v 34 = M 34 := fun M => am_up_ne _ _ _ _ (by omega)
  have x2 : am_up C0 a i v 35 = C0 35 := am_up_ne _ _ _ _ (by omega)
  refine ⟨⟨by rw [x1]; exact he, he2, h8, by rw [x2]; exact ht⟩, hp, hw, ⟨fun b hb => up_cg (hC.1 b hb) _ _ _, ?_, ?_, ?_, ?_⟩, hR⟩
  · rw [x1, x1]; exact hC.2.1
  · rw [x1]; exact hC.2.2.1
  · rw [x1]; exact hC.2.2.2.1
  · rw [x1]; exact hC.2.2.2.2
theorem S2_c (h : S2 C0 N0 e p w wa C N) {a : Nat} (ha : a ≠ 34) : C a = C0 a := h.2.2.1.1 a ha
theorem S2_w (h : S2 C0 N0 e p w wa C N) : C 34 7 = w := h.2.2.1.2.2.2.1
theorem S2_m (h : S2 C0 N0 e p w wa C N) {a : Nat} (ha : a ≠ 72) : N a = N0 a := by obtain ⟨-, -, -, pm, hpm, hM, h0⟩ := h; exact hM.1 a ha
theorem S2_mw (h : S2 C0 N0 e p w wa C N) : N 72 11 = w := by obtain ⟨-, -, -, pm, hpm, hM, h0⟩ := h; exact hM.2.2.2.1
theorem FC_up (h : FC C0 C) (a i : Nat) (v : Int) (ha : 17 ≤ a ∧ a ≤ 33) : FC C0 (am_up C a i v) := fun b hb => (am_up_ne _ _ _ _ (by omega)).trans (h b hb)
theorem FN_up (h : FN N0 N) (a i : Nat) (v : Int) (ha : a = 73 ∨ a = 76) (hi : i < 184 := by omega) : FN N0 (am_up N a i v) := ⟨fun b h1 h2 => (am_up_ne _ _ _ _ (by omega)).trans (h.1 b h1 h2), fun j hj => (am_up_nj _ _ _ _ (by omega)).trans (h.2 j hj)⟩
end
theorem FC_rf (C : am_M) : FC C C := fun _ _ => rfl
theorem FN_rf (C : am_M) : FN C C := ⟨fun _ _ _ => rfl, fun _ _ => rfl⟩
-- one more reach
theorem vT_reach {s s' : Nat → Int} (hv : vT s) {k : Nat} (hk : s 0 = (k : Int)) (hl : k < 10) (e : ∀ i, i ≠ 0 → (i < 12 + 3 * k ∨ 12 + 3 * k + 3 ≤ i) → s' i = s i) (e2 : s' 0 = (k : Int) + 1) (hn : (0 ≤ s' (12 + 3 * k) ∧ s' (12 + 3 * k) ≤ 60) ∧ (0 ≤ s' (13 + 3 * k) ∧ s' (13 + 3 * k) ≤ 60) ∧ (0 ≤ s' (14 + 3 * k) ∧ s' (14 + 3 * k) ≤ 500)) : vT s' := by
  obtain ⟨b0, b1, b2, b3, b4, ⟨s5, s6, s7, s8, s9, s10, s11⟩, hr, hf, ho, hs, hl', hh⟩ := hv
  have f : ∀ i, 42 ≤ i → s' i = s i := fun i hi => e i (by omega) (by omega)
  have g : ∀ i, 1 ≤ i → i < 12 → s' i = s i := fun i h1 h2 => e i (by omega) (by omega)
  refine ⟨by omega, by rw [g 1 (by omega) (by omega)]; exact b1, by rw [g 2 (by omega) (by omega)]; exact b2, by rw [g 3 (by omega) (by omega)]; exact b3, by rw [g 4 (by omega) (by omega)]; exact b4, ⟨by rw [g 5 (by omega) (by omega)]; exact s5, by rw [g 6 (by omega) (by omega)]; exact s6, by rw [g 7 (by omega) (by omega)]; exact s7, by rw [g 8 (by omega) (by omega)]; exact s8, by rw [g 9 (by omega) (by omega)]; exact s9, by rw [g 10 (by omega) (by omega)]; exact s10, by rw [g 11 (by omega) (by omega)]; exact s11⟩, ?_, ?_, ?_, ?_, ?_, ?_⟩
  · intro r hr'
    by_cases er : r = k
    · subst er; exact hn
    · rw [e _ (by omega) (by omega), e _ (by omega) (by omega), e _ (by omega) (by omega)]; exact hr r (by omega)
  · intro r hr'
    rw [g 1 (by omega) (by omega)] at hr'
    have := hf r hr'
    rw [f (42 + 4 * r) (by omega), f (43 + 4 * r) (by omega), f (44 + 4 * r) (by omega), f (45 + 4 * r) (by omega)]
    exact ⟨⟨this.1.1, by omega⟩, this.2⟩
  · rw [g 1 (by omega) (by omega)]
    exact ⟨fun p hp => by rw [f _ (by omega)]; exact ho.1 p hp, fun p q hp hq h => by rw [f _ (by omega), f _ (by omega)] at h; exact ho.2 p q hp hq h⟩
  · rw [g 1 (by omega) (by omega), g 2 (by omega) (by omega)]
    intro k hk; rw [f _ (by omega), f _ (by omega), f _ (by omega)]; exact hs k hk
  · rw [g 1 (by omega) (by omega), g 3 (by omega) (by omega)]
    intro k hk; rw [f _ (by omega), f _ (by omega), f _ (by omega), f _ (by omega)]; exact hl' k hk
  · rw [g 4 (by omega) (by omega)]
    intro k hk; rw [f _ (by omega), f _ (by omega), f _ (by omega)]; exact hh k hk
theorem cT_reach {s s' : Nat → Int} {M M' : am_M} (hv : vT s) (h : cT s M 17) {k : Nat} (hk : s 0 = (k : Int)) (hl : k < 10) (e : ∀ i, i ≠ 0 → (i < 12 + 3 * k ∨ 12 + 3 * k + 3 ≤ i) → s' i = s i) (e2 : s' 0 = (k : Int) + 1) (eM : ∀ a, a ≠ 17 → a ≠ 18 → a ≠ 19 → a ≠ 20 → M' a = M a) (e17 : M' 17 0 = (k : Int) + 1 ∧ M' 17 4 = M 17 4) (e18 : ∀ i, i ≤ k → M' 18 i = M 18 i ∧ M' 19 i = M 19 i) (e20 : ∀ i, i < k → M' 20 i = M 20 i) (en : M' 18 (k + 1) = M 18 k + s' (12 + 3 * k) ∧ M' 19 (k + 1) = M 19 k + s' (13 + 3 * k) ∧ M' 20 k = s' (14 + 3 * k)) : cT s' M' 17 := by
  obtain ⟨b0, b1, b2, b3, b4, -⟩ := hv
  obtain ⟨c0, c1, c2, c3, c4, hset, hz, hr, hf, ho, hs, hl', hh⟩ := h
  have f : ∀ i, 42 ≤ i → s' i = s i := fun i hi => e i (by omega) (by omega)
  have g : ∀ i, 1 ≤ i → i < 12 → s' i = s i := fun i h1 h2 => e i (by omega) (by omega)
  refine ⟨by rw [e17.1, e2], by rw [e17.2, g 1 (by omega) (by omega)]; exact c1, ?_, ?_, ?_, ?_, ?_, ?_, ?_, ?_, ?_, ?_, ?_⟩
  · rw [eM _ (by omega) (by omega) (by omega) (by omega), g 2 (by omega) (by omega)]; exact c2
  · rw [eM _ (by omega) (by omega) (by omega) (by omega), g 3 (by omega) (by omega)]; exact c3
  · rw [eM _ (by omega) (by omega) (by omega) (by omega), g 4 (by omega) (by omega)]; exact c4
  · intro i hi; rw [eM _ (by omega) (by omega) (by omega) (by omega), g _ (by omega) (by omega)]; exact hset i hi
  · exact ⟨by show M' 18 0 = 0; rw [(e18 0 (by omega)).1]; exact hz.1, by show M' 19 0 = 0; rw [(e18 0 (by omega)).2]; exact hz.2⟩
  · intro r hr'
    show M' 18 (r + 1) = M' 18 r + _ ∧ M' 19 (r + 1) = M' 19 r + _ ∧ M' 20 r = _
    by_cases er : r = k
    · subst er
      rw [(e18 r (by omega)).1, (e18 r (by omega)).2]
      exact en
    · rw [(e18 r (by omega)).1, (e18 r (by omega)).2, (e18 (r + 1) (by omega)).1, (e18 (r + 1) (by omega)).2, e20 r (by omega), e _ (by omega) (by omega), e _ (by omega) (by omega), e _ (by omega) (by omega)]
      exact hr r (by omega)
  · intro r hr'
    rw [g 1 (by omega) (by omega)] at hr'
    rw [f _ (by omega), f _ (by omega), f _ (by omega), f _ (by omega), eM _ (by omega) (by omega) (by omega) (by omega), eM _ (by omega) (by omega) (by omega) (by omega), eM _ (by omega) (by omega) (by omega) (by omega), eM _ (by omega) (by omega) (by omega) (by omega)]
    exact hf r hr'
  · intro r hr'
    rw [g 1 (by omega) (by omega)] at hr'
    rw [f _ (by omega), eM _ (by omega) (by omega) (by omega) (by omega)]
    exact ho r hr'
  · intro k hk j hj; rw [g 2 (by omega) (by omega)] at hk; rw [eM _ (by omega) (by omega) (by omega) (by omega), f _ (by omega)]; exact hs k hk j hj
  · intro k hk j hj; rw [g 3 (by omega) (by omega)] at hk; rw [eM _ (by omega) (by omega) (by omega) (by omega), f _ (by omega)]; exact hl' k hk j hj
  · intro k hk j hj; rw [g 4 (by omega) (by omega)] at hk; rw [eM _ (by omega) (by omega) (by omega) (by omega), f _ (by omega)]; exact hh k hk j hj
-- one more field
theorem vT_field {s s' : Nat → Int} (hv : vT s) {n : Nat} (hn : s 1 = (n : Int)) (hl : n < 8) (hz : s (44 + 4 * n) = 0 ∧ s (45 + 4 * n) = 0) (e : ∀ i, i ≠ 1 → i ≠ 42 + 4 * n → i ≠ 43 + 4 * n → i ≠ 74 + n → s' i = s i) (e2 : s' 1 = (n : Int) + 1) (e3 : s' (74 + n) = (n : Int)) (h : (0 ≤ s' (42 + 4 * n) ∧ s' (42 + 4 * n) < s 0) ∧ (1 ≤ s' (43 + 4 * n) ∧ s' (43 + 4 * n) ≤ 999)) : vT s' := by
  obtain ⟨b0, b1, b2, b3, b4, ⟨s5, s6, s7, s8, s9, s10, s11⟩, hr, hf, ho, hs, hl', hh⟩ := hv
  have f : ∀ i, 82 ≤ i → s' i = s i := fun i hi => e i (by omega) (by omega) (by omega) (by omega)
  have g : ∀ i, i ≠ 1 → i < 42 → s' i = s i := fun i h1 h2 => e i (by omega) (by omega) (by omega) (by omega)
  refine ⟨by rw [g 0 (by omega) (by omega)]; exact b0, by omega, by rw [g 2 (by omega) (by omega)]; exact b2, by rw [g 3 (by omega) (by omega)]; exact b3, by rw [g 4 (by omega) (by omega)]; exact b4, ⟨by rw [g 5 (by omega) (by omega)]; exact s5, by rw [g 6 (by omega) (by omega)]; exact s6, by rw [g 7 (by omega) (by omega)]; exact s7, by rw [g 8 (by omega) (by omega)]; exact s8, by rw [g 9 (by omega) (by omega)]; exact s9, by rw [g 10 (by omega) (by omega)]; exact s10, by rw [g 11 (by omega) (by omega)]; exact s11⟩, ?_, ?_, ?_, ?_, ?_, ?_⟩
  · intro r hr'
    rw [g 0 (by omega) (by omega)] at hr'
    rw [g _ (by omega) (by omega), g _ (by omega) (by omega), g _ (by omega) (by omega)]; exact hr r hr'
  · intro r hr'
    rw [g 0 (by omega) (by omega)]
    by_cases er : r = n
    · subst er
      rw [e (44 + 4 * r) (by omega) (by omega) (by omega) (by omega), e (45 + 4 * r) (by omega) (by omega) (by omega) (by omega), hz.1, hz.2]
      exact ⟨h.1, h.2, by omega, by omega⟩
    · rw [e (42 + 4 * r) (by omega) (by omega) (by omega) (by omega), e (43 + 4 * r) (by omega) (by omega) (by omega) (by omega), e (44 + 4 * r) (by omega) (by omega) (by omega) (by omega), e (45 + 4 * r) (by omega) (by omega) (by omega) (by omega)]
      exact hf r (by omega)
  · have old : ∀ p : Nat, p ≠ n → (p : Int) < s' 1 → s' (74 + p) = s (74 + p) ∧ 0 ≤ s (74 + p) ∧ s (74 + p) < (n : Int) := fun p h1 h2 => ⟨e (74 + p) (by omega) (by omega) (by omega) (by omega), by have := ho.1 p (by omega); omega⟩
    refine ⟨fun p hp => ?_, fun p q hp hq h => ?_⟩
    · by_cases ep : p = n
      · subst ep; omega
      · have := old p ep hp; omega
    · by_cases ep : p = n
      · by_cases eq : q = n
        · omega
        · subst ep; have := old q eq hq; omega
      · by_cases eq : q = n
        · subst eq; have := old p ep hp; omega
        · have h1 := old p ep hp
          have h2 := old q eq hq
          exact ho.2 p q (by omega) (by omega) (by omega)
  · rw [g 2 (by omega) (by omega)]
    intro k hk; rw [f (82 + 3 * k) (by omega), f (83 + 3 * k) (by omega), f (84 + 3 * k) (by omega)]
    have := hs k hk
    exact ⟨this.1, ⟨this.2.1.1, by omega⟩, ⟨this.2.2.1.1, by omega⟩, this.2.2.2⟩
  · rw [g 3 (by omega) (by omega)]
    intro k hk; rw [f (118 + 4 * k) (by omega), f (119 + 4 * k) (by omega), f (120 + 4 * k) (by omega), f (121 + 4 * k) (by omega)]
    have := hl' k hk
    exact ⟨this.1, ⟨this.2.1.1, by omega⟩, ⟨this.2.2.1.1, by omega⟩, this.2.2.2⟩
  · rw [g 4 (by omega) (by omega)]
    intro k hk; rw [f _ (by omega), f _ (by omega), f _ (by omega)]; exact hh k hk
theorem cT_field {s s' : Nat → Int} {M M' : am_M} (hv : vT s) (h : cT s M 17) {n : Nat} (hn : s 1 = (n : Int)) (hl : n < 8) (hz : s (44 + 4 * n) = 0 ∧ s (45 + 4 * n) = 0) (e : ∀ i, i ≠ 1 → i ≠ 42 + 4 * n → i ≠ 43 + 4 * n → i ≠ 74 + n → s' i = s i) (e2 : s' 1 = (n : Int) + 1) (e3 : s' (74 + n) = (n : Int)) (eM : ∀ a, a ≠ 17 → a ≠ 21 → a ≠ 22 → a ≠ 23 → a ≠ 24 → a ≠ 25 → a ≠ 26 → M' a = M a) (e17 : M' 17 4 = (n : Int) + 1 ∧ M' 17 0 = M 17 0) (eo : ∀ a i, 22 ≤ a → a ≤ 26 → i ≠ n → M' a i = M a i) (en : M' 22 n = s' (42 + 4 * n) ∧ M' 23 n = s' (43 + 4 * n) ∧ M' 24 n = 0 ∧ M' 25 n = 0 ∧ M' 26 n = (n : Int)) : cT s' M' 17 := by
  obtain ⟨b0, b1, b2, b3, b4, -⟩ := hv
  obtain ⟨c0, c1, c2, c3, c4, hset, hz', hr, hf, ho, hs, hl', hh⟩ := h
  have f : ∀ i, 82 ≤ i → s' i = s i := fun i hi => e i (by omega) (by omega) (by omega) (by omega)
  have g : ∀ i, i ≠ 1 → i < 42 → s' i = s i := fun i h1 h2 => e i (by omega) (by omega) (by omega) (by omega)
  have E : ∀ a, (17 < a ∧ a < 21) ∨ 26 < a → M' a = M a := fun a ha => eM a (by omega) (by omega) (by omega) (by omega) (by omega) (by omega) (by omega)
  refine ⟨by rw [e17.2, g 0 (by omega) (by omega)]; exact c0, by rw [e17.1, e2], ?_, ?_, ?_, ?_, ?_, ?_, ?_, ?_, ?_, ?_, ?_⟩
  · rw [E _ (by omega), g 2 (by omega) (by omega)]; exact c2
  · rw [E _ (by omega), g 3 (by omega) (by omega)]; exact c3
  · rw [E _ (by omega), g 4 (by omega) (by omega)]; exact c4
  · intro i hi; rw [E _ (by omega), g _ (by omega) (by omega)]; exact hset i hi
  · rw [E _ (by omega), E _ (by omega)]; exact hz'
  · intro r hr'
    rw [g 0 (by omega) (by omega)] at hr'
    rw [E _ (by omega), E _ (by omega), E _ (by omega), g _ (by omega) (by omega), g _ (by omega) (by omega), g _ (by omega) (by omega)]; exact hr r hr'
  · intro r hr'
    show M' 22 r = _ ∧ M' 23 r = _ ∧ M' 24 r = _ ∧ M' 25 r = _
    by_cases er : r = n
    · subst er
      rw [e (44 + 4 * r) (by omega) (by omega) (by omega) (by omega), e (45 + 4 * r) (by omega) (by omega) (by omega) (by omega), hz.1, hz.2]
      exact ⟨en.1, en.2.1, en.2.2.1, en.2.2.2.1⟩
    · rw [e (42 + 4 * r) (by omega) (by omega) (by omega) (by omega), e (43 + 4 * r) (by omega) (by omega) (by omega) (by omega), e (44 + 4 * r) (by omega) (by omega) (by omega) (by omega), e (45 + 4 * r) (by omega) (by omega) (by omega) (by omega), eo 22 r (by omega) (by omega) er, eo 23 r (by omega) (by omega) er, eo 24 r (by omega) (by omega) er, eo 25 r (by omega) (by omega) er]
      exact hf r (by omega)
  · intro r hr'
    show M' 26 r = _
    by_cases er : r = n
    · subst er; rw [e3]; exact en.2.2.2.2
    · rw [e (74 + r) (by omega) (by omega) (by omega) (by omega), eo 26 r (by omega) (by omega) er]
      exact ho r (by omega)
  · intro k hk j hj; rw [g 2 (by omega) (by omega)] at hk; rw [E _ (by omega), f _ (by omega)]; exact hs k hk j hj
  · intro k hk j hj; rw [g 3 (by omega) (by omega)] at hk; rw [E _ (by omega), f _ (by omega)]; exact hl' k hk j hj
  · intro k hk j hj; rw [g 4 (by omega) (by omega)] at hk; rw [E _ (by omega), f _ (by omega)]; exact hh k hk j hj
-- a crop
theorem vT_crop {s s' : Nat → Int} (hv : vT s) {n : Nat} (hn : (n : Int) < s 1) (e : ∀ i, i ≠ 44 + 4 * n → i ≠ 45 + 4 * n → s' i = s i) (h : (0 ≤ s' (44 + 4 * n) ∧ s' (44 + 4 * n) ≤ 9999) ∧ (0 ≤ s' (45 + 4 * n) ∧ s' (45 + 4 * n) ≤ 9999)) : vT s' := by
  obtain ⟨b0, b1, b2, b3, b4, ⟨s5, s6, s7, s8, s9, s10, s11⟩, hr, hf, ho, hs, hl', hh⟩ := hv
  have f : ∀ i, 74 ≤ i → s' i = s i := fun i hi => e i (by omega) (by omega)
  have g : ∀ i, i < 42 → s' i = s i := fun i h2 => e i (by omega) (by omega)
  refine ⟨by rw [g 0 (by omega)]; exact b0, by rw [g 1 (by omega)]; exact b1, by rw [g 2 (by omega)]; exact b2, by rw [g 3 (by omega)]; exact b3, by rw [g 4 (by omega)]; exact b4, ⟨by rw [g 5 (by omega)]; exact s5, by rw [g 6 (by omega)]; exact s6, by rw [g 7 (by omega)]; exact s7, by rw [g 8 (by omega)]; exact s8, by rw [g 9 (by omega)]; exact s9, by rw [g 10 (by omega)]; exact s10, by rw [g 11 (by omega)]; exact s11⟩, ?_, ?_, ?_, ?_, ?_, ?_⟩
  · intro r hr'
    rw [g 0 (by omega)] at hr'
    rw [g _ (by omega), g _ (by omega), g _ (by omega)]; exact hr r hr'
  · intro r hr'
    rw [g 1 (by omega)] at hr'
    have hfr := hf r hr'
    rw [g 0 (by omega), e (42 + 4 * r) (by omega) (by omega), e (43 + 4 * r) (by omega) (by omega)]
    by_cases er : r = n
    · subst er
      exact ⟨hfr.1, hfr.2.1, h.1, h.2⟩
    · rw [e (44 + 4 * r) (by omega) (by omega), e (45 + 4 * r) (by omega) (by omega)]
      exact hfr
  · rw [g 1 (by omega)]
    exact ⟨fun p hp => by rw [f _ (by omega)]; exact ho.1 p hp, fun p q hp hq h => by rw [f _ (by omega), f _ (by omega)] at h; exact ho.2 p q hp hq h⟩
  · rw [g 1 (by omega), g 2 (by omega)]
    intro k hk; rw [f _ (by omega), f _ (by omega), f _ (by omega)]; exact hs k hk
  · rw [g 1 (by omega), g 3 (by omega)]
    intro k hk; rw [f _ (by omega), f _ (by omega), f _ (by omega), f _ (by omega)]; exact hl' k hk
  · rw [g 4 (by omega)]
    intro k hk; rw [f _ (by omega), f _ (by omega), f _ (by omega)]; exact hh k hk
theorem cT_crop {s s' : Nat → Int} {M M' : am_M} (hv : vT s) (h : cT s M 17) {n : Nat} (hn : (n : Int) < s 1) (e : ∀ i, i ≠ 44 + 4 * n → i ≠ 45 + 4 * n → s' i = s i) (eM : ∀ a, a ≠ 24 → a ≠ 25 → M' a = M a) (eo : ∀ i, i ≠ n → M' 24 i = M 24 i ∧ M' 25 i = M 25 i) (en : M' 24 n = s' (44 + 4 * n) ∧ M' 25 n = s' (45 + 4 * n)) : cT s' M' 17 := by
  obtain ⟨b0, b1, b2, b3, b4, -⟩ := hv
  obtain ⟨c0, c1, c2, c3, c4, hset, hz', hr, hf, ho, hs, hl', hh⟩ := h
  have f : ∀ i, 74 ≤ i → s' i = s i := fun i hi => e i (by omega) (by omega)
  have g : ∀ i, i < 42 → s' i = s i := fun i h2 => e i (by omega) (by omega)
  refine ⟨by rw [eM _ (by omega) (by omega), g 0 (by omega)]; exact c0, by rw [eM _ (by omega) (by omega), g 1 (by omega)]; exact c1, ?_, ?_, ?_, ?_, ?_, ?_, ?_, ?_, ?_, ?_, ?_⟩
  · rw [eM _ (by omega) (by omega), g 2 (by omega)]; exact c2
  · rw [eM _ (by omega) (by omega), g 3 (by omega)]; exact c3
  · rw [eM _ (by omega) (by omega), g 4 (by omega)]; exact c4
  · intro i hi; rw [eM _ (by omega) (by omega), g _ (by omega)]; exact hset i hi
  · rw [eM _ (by omega) (by omega), eM _ (by omega) (by omega)]; exact hz'
  · intro r hr'
    rw [g 0 (by omega)] at hr'
    rw [eM _ (by omega) (by omega), eM _ (by omega) (by omega), eM _ (by omega) (by omega), g _ (by omega), g _ (by omega), g _ (by omega)]; exact hr r hr'
  · intro r hr'
    rw [g 1 (by omega)] at hr'
    have hfr := hf r hr'
    rw [eM (17 + 5) (by omega) (by omega), eM (17 + 6) (by omega) (by omega), e (42 + 4 * r) (by omega) (by omega), e (43 + 4 * r) (by omega) (by omega)]
    refine ⟨hfr.1, hfr.2.1, ?_⟩
    show M' 24 r = _ ∧ M' 25 r = _
    by_cases er : r = n
    · subst er; exact en
    · rw [e (44 + 4 * r) (by omega) (by omega), e (45 + 4 * r) (by omega) (by omega), (eo r er).1, (eo r er).2]
      exact hfr.2.2
  · intro r hr'
    rw [g 1 (by omega)] at hr'
    rw [eM _ (by omega) (by omega), f _ (by omega)]; exact ho r hr'
  · intro k hk j hj; rw [g 2 (by omega)] at hk; rw [eM _ (by omega) (by omega), f _ (by omega)]; exact hs k hk j hj
  · intro k hk j hj; rw [g 3 (by omega)] at hk; rw [eM _ (by omega) (by omega), f _ (by omega)]; exact hl' k hk j hj
  · intro k hk j hj; rw [g 4 (by omega)] at hk; rw [eM _ (by omega) (by omega), f _ (by omega)]; exact hh k hk j hj
-- a setting
theorem cT_set17 {s : Nat → Int} {M : am_M} (h : cT s M 17) {i : Nat} {v : Int} (hi : i < 7) : cT (us s (5 + i) v) (am_up M 27 i v) 17 := by
  have e : ∀ k, k < 5 ∨ 12 ≤ k → us s (5 + i) v k = s k := fun k hk => us_ne s (5 + i) v (by omega)
  have eM : ∀ a, a ≠ 27 → am_up M 27 i v a = M a := fun a ha => am_up_ne M 27 i v ha
  obtain ⟨h0, h1, h2, h3, h4, hset, hz, hr, hf, ho, hs, hl, hh⟩ := h
  refine ⟨?_, ?_, ?_, ?_, ?_, ?_, ?_, ?_, ?_, ?_, ?_, ?_, ?_⟩
  · rw [eM _ (by decide), e 0 (by omega)]; exact h0
  · rw [eM _ (by decide), e 1 (by omega)]; exact h1
  · rw [eM _ (by decide), e 2 (by omega)]; exact h2
  · rw [eM _ (by decide), e 3 (by omega)]; exact h3
  · rw [eM _ (by decide), e 4 (by omega)]; exact h4
  · intro k hk
    by_cases ek : k = i
    · subst ek; show am_up M 27 k v 27 k = _; rw [am_up_at, us_at]
    · show am_up M 27 i v 27 k = _; rw [am_up_nj M 27 i v ek, us_ne s (5 + i) v (by omega)]; exact hset k hk
  · rw [eM _ (by decide), eM _ (by decide)]; exact hz
  · intro r hr'; rw [e 0 (by omega)] at hr'; rw [eM _ (by decide), eM _ (by decide), eM _ (by decide), e _ (by omega), e _ (by omega), e _ (by omega)]; exact hr r hr'
  · intro r hr'; rw [e 1 (by omega)] at hr'; rw [eM _ (by decide), eM _ (by decide), eM _ (by decide), eM _ (by decide), e _ (by omega), e _ (by omega), e _ (by omega), e _ (by omega)]; exact hf r hr'
  · intro r hr'; rw [e 1 (by omega)] at hr'; rw [eM _ (by decide), e _ (by omega)]; exact ho r hr'
  · intro k hk j hj; rw [e 2 (by omega)] at hk; rw [eM _ (by decide), e _ (by omega)]; exact hs k hk j hj
  · intro k hk j hj; rw [e 3 (by omega)] at hk; rw [eM _ (by decide), e _ (by omega)]; exact hl k hk j hj
  · intro k hk j hj; rw [e 4 (by omega)] at hk; rw [eM _ (by decide), e _ (by omega)]; exact hh k hk j hj
theorem DR_set {C N : am_M} (h : DR C N) {i : Nat} {v : Int} (hi : i < 7) (hv : (i = 0 → 1 ≤ v ∧ v ≤ 999) ∧ (i = 1 → 0 ≤ v ∧ v ≤ 10079) ∧ (i = 2 → 0 ≤ v ∧ v ≤ 23) ∧ (i = 3 → 0 ≤ v ∧ v ≤ 23) ∧ (i = 4 → 1 ≤ v ∧ v ≤ 52) ∧ (i = 5 → 0 ≤ v ∧ v ≤ 7) ∧ (i = 6 → 0 ≤ v ∧ v ≤ 1)) : DR (am_up C 27 i v) (am_up N 73 (5 + i) v) := by
  obtain ⟨h1, h2, h3, h4, h5⟩ := h
  have e73 : am_up N 73 (5 + i) v 73 = us (N 73) (5 + i) v := up_us ..
  have e1 : am_up N 73 (5 + i) v 73 1 = N 73 1 := am_up_nj _ _ _ _ (by omega)
  refine ⟨by rw [e73]; exact vT_set h1 (by omega) ⟨fun h => hv.1 (by omega), fun h => hv.2.1 (by omega), fun h => hv.2.2.1 (by omega), fun h => hv.2.2.2.1 (by omega), fun h => hv.2.2.2.2.1 (by omega), fun h => hv.2.2.2.2.2.1 (by omega), fun h => hv.2.2.2.2.2.2 (by omega)⟩, by rw [e73]; exact cT_set17 h2 hi, kT_of (am_up_ne _ _ _ _ (by decide)) (am_up_ne _ _ _ _ (by decide)) (am_up_ne _ _ _ _ (by decide)) h3, ?_, ?_⟩
  · rw [e1, am_up_ne _ _ _ _ (by decide), am_up_ne _ _ _ _ (by decide)]; exact h4
  · intro f hf hf8
    rw [e1] at hf
    rw [am_up_nj _ _ _ _ (by omega), am_up_nj _ _ _ _ (by omega)]
    exact h5 f hf hf8
