-- rows of swaps, lends, shuts: one more on both sides
theorem cT_row2 {s s' : Nat → Int} {M M' : am_M} {b : Nat} (hv : vT s) (h : cT s M b) {k : Nat} (hk : s 2 = (k : Int)) (hl : k < 12) (e : ∀ i, i ≠ 2 → (i < 82 + 3 * k ∨ 82 + 3 * k + 3 ≤ i) → s' i = s i) (e2 : s' 2 = (k : Int) + 1) (eM : ∀ a, a ≠ b + 11 → a ≠ b + 12 → M' a = M a) (e3 : M' (b + 11) 3 = (k : Int) + 1) (e4 : ∀ i, i < 3 * k → M' (b + 12) i = M (b + 12) i) (e5 : ∀ j, j < 3 → M' (b + 12) (3 * k + j) = s' (82 + 3 * k + j)) : cT s' M' b := by
  obtain ⟨b0, b1, b2, b3, b4, -⟩ := hv
  obtain ⟨c0, c1, c2, c3, c4, hset, hz, hr, hf, ho, hs, hl', hh⟩ := h
  refine ⟨?_, ?_, ?_, ?_, ?_, ?_, ?_, ?_, ?_, ?_, ?_, ?_, ?_⟩
  · rw [eM b (by omega) (by omega), e 0 (by omega) (by omega)]; exact c0
  · rw [eM b (by omega) (by omega), e 1 (by omega) (by omega)]; exact c1
  · first | (rw [e3, e2]) | (rw [eM _ (by omega) (by omega), e 2 (by omega) (by omega)]; exact c2)
  · first | (rw [e3, e2]) | (rw [eM _ (by omega) (by omega), e 3 (by omega) (by omega)]; exact c3)
  · first | (rw [e3, e2]) | (rw [eM _ (by omega) (by omega), e 4 (by omega) (by omega)]; exact c4)
  · intro i hi; rw [eM _ (by omega) (by omega), e _ (by omega) (by omega)]; exact hset i hi
  · rw [eM _ (by omega) (by omega), eM _ (by omega) (by omega)]; exact hz
  · intro r hr'; rw [e 0 (by omega) (by omega)] at hr'; rw [eM (b + 1) (by omega) (by omega), eM (b + 2) (by omega) (by omega), eM (b + 3) (by omega) (by omega), e _ (by omega) (by omega), e _ (by omega) (by omega), e _ (by omega) (by omega)]; exact hr r hr'
  · intro r hr'; rw [e 1 (by omega) (by omega)] at hr'; rw [eM (b + 5) (by omega) (by omega), eM (b + 6) (by omega) (by omega), eM (b + 7) (by omega) (by omega), eM (b + 8) (by omega) (by omega), e _ (by omega) (by omega), e _ (by omega) (by omega), e _ (by omega) (by omega), e _ (by omega) (by omega)]; exact hf r hr'
  · intro r hr'; rw [e 1 (by omega) (by omega)] at hr'; rw [eM (b + 9) (by omega) (by omega), e _ (by omega) (by omega)]; exact ho r hr'
  · intro i hi j hj
    first
    | (rw [e2] at hi
       by_cases ei : i = k
       · subst ei; exact e5 j hj
       · rw [e4 _ (by omega), e _ (by omega) (by omega)]; exact hs i (by omega) j hj)
    | (rw [e 2 (by omega) (by omega)] at hi; rw [eM (b + 12) (by omega) (by omega), e _ (by omega) (by omega)]; exact hs i hi j hj)
  · intro i hi j hj
    first
    | (rw [e2] at hi
       by_cases ei : i = k
       · subst ei; exact e5 j hj
       · rw [e4 _ (by omega), e _ (by omega) (by omega)]; exact hl' i (by omega) j hj)
    | (rw [e 3 (by omega) (by omega)] at hi; rw [eM (b + 14) (by omega) (by omega), e _ (by omega) (by omega)]; exact hl' i hi j hj)
  · intro i hi j hj
    first
    | (rw [e2] at hi
       by_cases ei : i = k
       · subst ei; exact e5 j hj
       · rw [e4 _ (by omega), e _ (by omega) (by omega)]; exact hh i (by omega) j hj)
    | (rw [e 4 (by omega) (by omega)] at hi; rw [eM (b + 16) (by omega) (by omega), e _ (by omega) (by omega)]; exact hh i hi j hj)
theorem cT_row3 {s s' : Nat → Int} {M M' : am_M} {b : Nat} (hv : vT s) (h : cT s M b) {k : Nat} (hk : s 3 = (k : Int)) (hl : k < 12) (e : ∀ i, i ≠ 3 → (i < 118 + 4 * k ∨ 118 + 4 * k + 4 ≤ i) → s' i = s i) (e2 : s' 3 = (k : Int) + 1) (eM : ∀ a, a ≠ b + 13 → a ≠ b + 14 → M' a = M a) (e3 : M' (b + 13) 3 = (k : Int) + 1) (e4 : ∀ i, i < 4 * k → M' (b + 14) i = M (b + 14) i) (e5 : ∀ j, j < 4 → M' (b + 14) (4 * k + j) = s' (118 + 4 * k + j)) : cT s' M' b := by
  obtain ⟨b0, b1, b2, b3, b4, -⟩ := hv
  obtain ⟨c0, c1, c2, c3, c4, hset, hz, hr, hf, ho, hs, hl', hh⟩ := h
  refine ⟨?_, ?_, ?_, ?_, ?_, ?_, ?_, ?_, ?_, ?_, ?_, ?_, ?_⟩
  · rw [eM b (by omega) (by omega), e 0 (by omega) (by omega)]; exact c0
  · rw [eM b (by omega) (by omega), e 1 (by omega) (by omega)]; exact c1
  · first | (rw [e3, e2]) | (rw [eM _ (by omega) (by omega), e 2 (by omega) (by omega)]; exact c2)
  · first | (rw [e3, e2]) | (rw [eM _ (by omega) (by omega), e 3 (by omega) (by omega)]; exact c3)
  · first | (rw [e3, e2]) | (rw [eM _ (by omega) (by omega), e 4 (by omega) (by omega)]; exact c4)
  · intro i hi; rw [eM _ (by omega) (by omega), e _ (by omega) (by omega)]; exact hset i hi
  · rw [eM _ (by omega) (by omega), eM _ (by omega) (by omega)]; exact hz
  · intro r hr'; rw [e 0 (by omega) (by omega)] at hr'; rw [eM (b + 1) (by omega) (by omega), eM (b + 2) (by omega) (by omega), eM (b + 3) (by omega) (by omega), e _ (by omega) (by omega), e _ (by omega) (by omega), e _ (by omega) (by omega)]; exact hr r hr'
  · intro r hr'; rw [e 1 (by omega) (by omega)] at hr'; rw [eM (b + 5) (by omega) (by omega), eM (b + 6) (by omega) (by omega), eM (b + 7) (by omega) (by omega), eM (b + 8) (by omega) (by omega), e _ (by omega) (by omega), e _ (by omega) (by omega), e _ (by omega) (by omega), e _ (by omega) (by omega)]; exact hf r hr'
  · intro r hr'; rw [e 1 (by omega) (by omega)] at hr'; rw [eM (b + 9) (by omega) (by omega), e _ (by omega) (by omega)]; exact ho r hr'
  · intro i hi j hj
    first
    | (rw [e2] at hi
       by_cases ei : i = k
       · subst ei; exact e5 j hj
       · rw [e4 _ (by omega), e _ (by omega) (by omega)]; exact hs i (by omega) j hj)
    | (rw [e 2 (by omega) (by omega)] at hi; rw [eM (b + 12) (by omega) (by omega), e _ (by omega) (by omega)]; exact hs i hi j hj)
  · intro i hi j hj
    first
    | (rw [e2] at hi
       by_cases ei : i = k
       · subst ei; exact e5 j hj
       · rw [e4 _ (by omega), e _ (by omega) (by omega)]; exact hl' i (by omega) j hj)
    | (rw [e 3 (by omega) (by omega)] at hi; rw [eM (b + 14) (by omega) (by omega), e _ (by omega) (by omega)]; exact hl' i hi j hj)
  · intro i hi j hj
    first
    | (rw [e2] at hi
       by_cases ei : i = k
       · subst ei; exact e5 j hj
       · rw [e4 _ (by omega), e _ (by omega) (by omega)]; exact hh i (by omega) j hj)
    | (rw [e 4 (by omega) (by omega)] at hi; rw [eM (b + 16) (by omega) (by omega), e _ (by omega) (by omega)]; exact hh i hi j hj)
theorem cT_row4 {s s' : Nat → Int} {M M' : am_M} {b : Nat} (hv : vT s) (h : cT s M b) {k : Nat} (hk : s 4 = (k : Int)) (hl : k < 6) (e : ∀ i, i ≠ 4 → (i < 166 + 3 * k ∨ 166 + 3 * k + 3 ≤ i) → s' i = s i) (e2 : s' 4 = (k : Int) + 1) (eM : ∀ a, a ≠ b + 15 → a ≠ b + 16 → M' a = M a) (e3 : M' (b + 15) 3 = (k : Int) + 1) (e4 : ∀ i, i < 3 * k → M' (b + 16) i = M (b + 16) i) (e5 : ∀ j, j < 3 → M' (b + 16) (3 * k + j) = s' (166 + 3 * k + j)) : cT s' M' b := by
  obtain ⟨b0, b1, b2, b3, b4, -⟩ := hv
  obtain ⟨c0, c1, c2, c3, c4, hset, hz, hr, hf, ho, hs, hl', hh⟩ := h
  refine ⟨?_, ?_, ?_, ?_, ?_, ?_, ?_, ?_, ?_, ?_, ?_, ?_, ?_⟩
  · rw [eM b (by omega) (by omega), e 0 (by omega) (by omega)]; exact c0
  · rw [eM b (by omega) (by omega), e 1 (by omega) (by omega)]; exact c1
  · first | (rw [e3, e2]) | (rw [eM _ (by omega) (by omega), e 2 (by omega) (by omega)]; exact c2)
  · first | (rw [e3, e2]) | (rw [eM _ (by omega) (by omega), e 3 (by omega) (by omega)]; exact c3)
  · first | (rw [e3, e2]) | (rw [eM _ (by omega) (by omega), e 4 (by omega) (by omega)]; exact c4)
  · intro i hi; rw [eM _ (by omega) (by omega), e _ (by omega) (by omega)]; exact hset i hi
  · rw [eM _ (by omega) (by omega), eM _ (by omega) (by omega)]; exact hz
  · intro r hr'; rw [e 0 (by omega) (by omega)] at hr'; rw [eM (b + 1) (by omega) (by omega), eM (b + 2) (by omega) (by omega), eM (b + 3) (by omega) (by omega), e _ (by omega) (by omega), e _ (by omega) (by omega), e _ (by omega) (by omega)]; exact hr r hr'
  · intro r hr'; rw [e 1 (by omega) (by omega)] at hr'; rw [eM (b + 5) (by omega) (by omega), eM (b + 6) (by omega) (by omega), eM (b + 7) (by omega) (by omega), eM (b + 8) (by omega) (by omega), e _ (by omega) (by omega), e _ (by omega) (by omega), e _ (by omega) (by omega), e _ (by omega) (by omega)]; exact hf r hr'
  · intro r hr'; rw [e 1 (by omega) (by omega)] at hr'; rw [eM (b + 9) (by omega) (by omega), e _ (by omega) (by omega)]; exact ho r hr'
  · intro i hi j hj
    first
    | (rw [e2] at hi
       by_cases ei : i = k
       · subst ei; exact e5 j hj
       · rw [e4 _ (by omega), e _ (by omega) (by omega)]; exact hs i (by omega) j hj)
    | (rw [e 2 (by omega) (by omega)] at hi; rw [eM (b + 12) (by omega) (by omega), e _ (by omega) (by omega)]; exact hs i hi j hj)
  · intro i hi j hj
    first
    | (rw [e2] at hi
       by_cases ei : i = k
       · subst ei; exact e5 j hj
       · rw [e4 _ (by omega), e _ (by omega) (by omega)]; exact hl' i (by omega) j hj)
    | (rw [e 3 (by omega) (by omega)] at hi; rw [eM (b + 14) (by omega) (by omega), e _ (by omega) (by omega)]; exact hl' i hi j hj)
  · intro i hi j hj
    first
    | (rw [e2] at hi
       by_cases ei : i = k
       · subst ei; exact e5 j hj
       · rw [e4 _ (by omega), e _ (by omega) (by omega)]; exact hh i (by omega) j hj)
    | (rw [e 4 (by omega) (by omega)] at hi; rw [eM (b + 16) (by omega) (by omega), e _ (by omega) (by omega)]; exact hh i hi j hj)
theorem vT_row2 {s s' : Nat → Int} (hv : vT s) {k : Nat} (hk : s 2 = (k : Int)) (hl : k < 12) (e : ∀ i, i ≠ 2 → (i < 82 + 3 * k ∨ 82 + 3 * k + 3 ≤ i) → s' i = s i) (e2 : s' 2 = (k : Int) + 1)
    (hn2 : 2 = 2 → (0 ≤ s' (82 + 3 * k) ∧ s' (82 + 3 * k) ≤ 51) ∧ (0 ≤ s' (83 + 3 * k) ∧ s' (83 + 3 * k) < s' 1) ∧ (0 ≤ s' (84 + 3 * k) ∧ s' (84 + 3 * k) < s' 1) ∧ s' (83 + 3 * k) ≠ s' (84 + 3 * k))
    (hn3 : 2 = 3 → (0 ≤ s' (118 + 4 * k) ∧ s' (118 + 4 * k) ≤ 51) ∧ (0 ≤ s' (119 + 4 * k) ∧ s' (119 + 4 * k) < s' 1) ∧ (0 ≤ s' (120 + 4 * k) ∧ s' (120 + 4 * k) < s' 1) ∧ s' (119 + 4 * k) ≠ s' (120 + 4 * k) ∧ (1 ≤ s' (121 + 4 * k) ∧ s' (121 + 4 * k) ≤ 999))
    (hn4 : 2 = 4 → (0 ≤ s' (166 + 3 * k) ∧ s' (166 + 3 * k) ≤ 51) ∧ (0 ≤ s' (167 + 3 * k) ∧ s' (167 + 3 * k) < s' (168 + 3 * k)) ∧ s' (168 + 3 * k) ≤ 10080) : vT s' := by
  obtain ⟨b0, b1, b2, b3, b4, hset, hr, hf, ho, hs, hl', hh⟩ := hv
  have e0 : s' 0 = s 0 := e 0 (by omega) (by omega)
  have e1 : s' 1 = s 1 := e 1 (by omega) (by omega)
  refine ⟨?_, ?_, ?_, ?_, ?_, ?_, ?_, ?_, ?_, ?_, ?_, ?_⟩
  · rw [e0]; exact b0
  · rw [e1]; exact b1
  · first | (rw [e 2 (by omega) (by omega)]; exact b2) | (rw [e2]; omega)
  · first | (rw [e 3 (by omega) (by omega)]; exact b3) | (rw [e2]; omega)
  · first | (rw [e 4 (by omega) (by omega)]; exact b4) | (rw [e2]; omega)
  · rw [e 5 (by omega) (by omega), e 6 (by omega) (by omega), e 7 (by omega) (by omega), e 8 (by omega) (by omega), e 9 (by omega) (by omega), e 10 (by omega) (by omega), e 11 (by omega) (by omega)]; exact hset
  · intro r hr'; rw [e0] at hr'; rw [e _ (by omega) (by omega), e _ (by omega) (by omega), e _ (by omega) (by omega)]; exact hr r hr'
  · intro r hr'; rw [e1] at hr'; rw [e (42 + 4 * r) (by omega) (by omega), e0, e (43 + 4 * r) (by omega) (by omega), e (44 + 4 * r) (by omega) (by omega), e (45 + 4 * r) (by omega) (by omega)]; exact hf r hr'
  · rw [e1]
    exact ⟨fun p hp => by rw [e _ (by omega) (by omega)]; exact ho.1 p hp, fun p q hp hq h => by rw [e _ (by omega) (by omega), e _ (by omega) (by omega)] at h; exact ho.2 p q hp hq h⟩
  · intro i hi
    first
    | (rw [e 2 (by omega) (by omega)] at hi; rw [e1, e _ (by omega) (by omega), e _ (by omega) (by omega), e _ (by omega) (by omega)]; exact hs i hi)
    | (rw [e2] at hi
       by_cases ei : i = k
       · subst ei; exact hn2 rfl
       · rw [e1, e _ (by omega) (by omega), e _ (by omega) (by omega), e _ (by omega) (by omega)]; exact hs i (by omega))
  · intro i hi
    first
    | (rw [e 3 (by omega) (by omega)] at hi; rw [e1, e _ (by omega) (by omega), e _ (by omega) (by omega), e _ (by omega) (by omega), e _ (by omega) (by omega)]; exact hl' i hi)
    | (rw [e2] at hi
       by_cases ei : i = k
       · subst ei; exact hn3 rfl
       · rw [e1, e _ (by omega) (by omega), e _ (by omega) (by omega), e _ (by omega) (by omega), e _ (by omega) (by omega)]; exact hl' i (by omega))
  · intro i hi
    first
    | (rw [e 4 (by omega) (by omega)] at hi; rw [e _ (by omega) (by omega), e _ (by omega) (by omega), e _ (by omega) (by omega)]; exact hh i hi)
    | (rw [e2] at hi
       by_cases ei : i = k
       · subst ei; exact hn4 rfl
       · rw [e _ (by omega) (by omega), e _ (by omega) (by omega), e _ (by omega) (by omega)]; exact hh i (by omega))
theorem vT_row3 {s s' : Nat → Int} (hv : vT s) {k : Nat} (hk : s 3 = (k : Int)) (hl : k < 12) (e : ∀ i, i ≠ 3 → (i < 118 + 4 * k ∨ 118 + 4 * k + 4 ≤ i) → s' i = s i) (e2 : s' 3 = (k : Int) + 1)
    (hn2 : 3 = 2 → (0 ≤ s' (82 + 3 * k) ∧ s' (82 + 3 * k) ≤ 51) ∧ (0 ≤ s' (83 + 3 * k) ∧ s' (83 + 3 * k) < s' 1) ∧ (0 ≤ s' (84 + 3 * k) ∧ s' (84 + 3 * k) < s' 1) ∧ s' (83 + 3 * k) ≠ s' (84 + 3 * k))
    (hn3 : 3 = 3 → (0 ≤ s' (118 + 4 * k) ∧ s' (118 + 4 * k) ≤ 51) ∧ (0 ≤ s' (119 + 4 * k) ∧ s' (119 + 4 * k) < s' 1) ∧ (0 ≤ s' (120 + 4 * k) ∧ s' (120 + 4 * k) < s' 1) ∧ s' (119 + 4 * k) ≠ s' (120 + 4 * k) ∧ (1 ≤ s' (121 + 4 * k) ∧ s' (121 + 4 * k) ≤ 999))
    (hn4 : 3 = 4 → (0 ≤ s' (166 + 3 * k) ∧ s' (166 + 3 * k) ≤ 51) ∧ (0 ≤ s' (167 + 3 * k) ∧ s' (167 + 3 * k) < s' (168 + 3 * k)) ∧ s' (168 + 3 * k) ≤ 10080) : vT s' := by
  obtain ⟨b0, b1, b2, b3, b4, hset, hr, hf, ho, hs, hl', hh⟩ := hv
  have e0 : s' 0 = s 0 := e 0 (by omega) (by omega)
  have e1 : s' 1 = s 1 := e 1 (by omega) (by omega)
  refine ⟨?_, ?_, ?_, ?_, ?_, ?_, ?_, ?_, ?_, ?_, ?_, ?_⟩
  · rw [e0]; exact b0
  · rw [e1]; exact b1
  · first | (rw [e 2 (by omega) (by omega)]; exact b2) | (rw [e2]; omega)
  · first | (rw [e 3 (by omega) (by omega)]; exact b3) | (rw [e2]; omega)
  · first | (rw [e 4 (by omega) (by omega)]; exact b4) | (rw [e2]; omega)
  · rw [e 5 (by omega) (by omega), e 6 (by omega) (by omega), e 7 (by omega) (by omega), e 8 (by omega) (by omega), e 9 (by omega) (by omega), e 10 (by omega) (by omega), e 11 (by omega) (by omega)]; exact hset
  · intro r hr'; rw [e0] at hr'; rw [e _ (by omega) (by omega), e _ (by omega) (by omega), e _ (by omega) (by omega)]; exact hr r hr'
  · intro r hr'; rw [e1] at hr'; rw [e (42 + 4 * r) (by omega) (by omega), e0, e (43 + 4 * r) (by omega) (by omega), e (44 + 4 * r) (by omega) (by omega), e (45 + 4 * r) (by omega) (by omega)]; exact hf r hr'
  · rw [e1]
    exact ⟨fun p hp => by rw [e _ (by omega) (by omega)]; exact ho.1 p hp, fun p q hp hq h => by rw [e _ (by omega) (by omega), e _ (by omega) (by omega)] at h; exact ho.2 p q hp hq h⟩
  · intro i hi
    first
    | (rw [e 2 (by omega) (by omega)] at hi; rw [e1, e _ (by omega) (by omega), e _ (by omega) (by omega), e _ (by omega) (by omega)]; exact hs i hi)
    | (rw [e2] at hi
       by_cases ei : i = k
       · subst ei; exact hn2 rfl
       · rw [e1, e _ (by omega) (by omega), e _ (by omega) (by omega), e _ (by omega) (by omega)]; exact hs i (by omega))
  · intro i hi
    first
    | (rw [e 3 (by omega) (by omega)] at hi; rw [e1, e _ (by omega) (by omega), e _ (by omega) (by omega), e _ (by omega) (by omega), e _ (by omega) (by omega)]; exact hl' i hi)
    | (rw [e2] at hi
       by_cases ei : i = k
       · subst ei; exact hn3 rfl
       · rw [e1, e _ (by omega) (by omega), e _ (by omega) (by omega), e _ (by omega) (by omega), e _ (by omega) (by omega)]; exact hl' i (by omega))
  · intro i hi
    first
    | (rw [e 4 (by omega) (by omega)] at hi; rw [e _ (by omega) (by omega), e _ (by omega) (by omega), e _ (by omega) (by omega)]; exact hh i hi)
    | (rw [e2] at hi
       by_cases ei : i = k
       · subst ei; exact hn4 rfl
       · rw [e _ (by omega) (by omega), e _ (by omega) (by omega), e _ (by omega) (by omega)]; exact hh i (by omega))
theorem vT_row4 {s s' : Nat → Int} (hv : vT s) {k : Nat} (hk : s 4 = (k : Int)) (hl : k < 6) (e : ∀ i, i ≠ 4 → (i < 166 + 3 * k ∨ 166 + 3 * k + 3 ≤ i) → s' i = s i) (e2 : s' 4 = (k : Int) + 1)
    (hn2 : 4 = 2 → (0 ≤ s' (82 + 3 * k) ∧ s' (82 + 3 * k) ≤ 51) ∧ (0 ≤ s' (83 + 3 * k) ∧ s' (83 + 3 * k) < s' 1) ∧ (0 ≤ s' (84 + 3 * k) ∧ s' (84 + 3 * k) < s' 1) ∧ s' (83 + 3 * k) ≠ s' (84 + 3 * k))
    (hn3 : 4 = 3 → (0 ≤ s' (118 + 4 * k) ∧ s' (118 + 4 * k) ≤ 51) ∧ (0 ≤ s' (119 + 4 * k) ∧ s' (119 + 4 * k) < s' 1) ∧ (0 ≤ s' (120 + 4 * k) ∧ s' (120 + 4 * k) < s' 1) ∧ s' (119 + 4 * k) ≠ s' (120 + 4 * k) ∧ (1 ≤ s' (121 + 4 * k) ∧ s' (121 + 4 * k) ≤ 999))
    (hn4 : 4 = 4 → (0 ≤ s' (166 + 3 * k) ∧ s' (166 + 3 * k) ≤ 51) ∧ (0 ≤ s' (167 + 3 * k) ∧ s' (167 + 3 * k) < s' (168 + 3 * k)) ∧ s' (168 + 3 * k) ≤ 10080) : vT s' := by
  obtain ⟨b0, b1, b2, b3, b4, hset, hr, hf, ho, hs, hl', hh⟩ := hv
  have e0 : s' 0 = s 0 := e 0 (by omega) (by omega)
  have e1 : s' 1 = s 1 := e 1 (by omega) (by omega)
  refine ⟨?_, ?_, ?_, ?_, ?_, ?_, ?_, ?_, ?_, ?_, ?_, ?_⟩
  · rw [e0]; exact b0
  · rw [e1]; exact b1
  · first | (rw [e 2 (by omega) (by omega)]; exact b2) | (rw [e2]; omega)
  · first | (rw [e 3 (by omega) (by omega)]; exact b3) | (rw [e2]; omega)
  · first | (rw [e 4 (by omega) (by omega)]; exact b4) | (rw [e2]; omega)
  · rw [e 5 (by omega) (by omega), e 6 (by omega) (by omega), e 7 (by omega) (by omega), e 8 (by omega) (by omega), e 9 (by omega) (by omega), e 10 (by omega) (by omega), e 11 (by omega) (by omega)]; exact hset
  · intro r hr'; rw [e0] at hr'; rw [e _ (by omega) (by omega), e _ (by omega) (by omega), e _ (by omega) (by omega)]; exact hr r hr'
  · intro r hr'; rw [e1] at hr'; rw [e (42 + 4 * r) (by omega) (by omega), e0, e (43 + 4 * r) (by omega) (by omega), e (44 + 4 * r) (by omega) (by omega), e (45 + 4 * r) (by omega) (by omega)]; exact hf r hr'
  · rw [e1]
    exact ⟨fun p hp => by rw [e _ (by omega) (by omega)]; exact ho.1 p hp, fun p q hp hq h => by rw [e _ (by omega) (by omega), e _ (by omega) (by omega)] at h; exact ho.2 p q hp hq h⟩
  · intro i hi
    first
    | (rw [e 2 (by omega) (by omega)] at hi; rw [e1, e _ (by omega) (by omega), e _ (by omega) (by omega), e _ (by omega) (by omega)]; exact hs i hi)
    | (rw [e2] at hi
       by_cases ei : i = k
       · subst ei; exact hn2 rfl
       · rw [e1, e _ (by omega) (by omega), e _ (by omega) (by omega), e _ (by omega) (by omega)]; exact hs i (by omega))
  · intro i hi
    first
    | (rw [e 3 (by omega) (by omega)] at hi; rw [e1, e _ (by omega) (by omega), e _ (by omega) (by omega), e _ (by omega) (by omega), e _ (by omega) (by omega)]; exact hl' i hi)
    | (rw [e2] at hi
       by_cases ei : i = k
       · subst ei; exact hn3 rfl
       · rw [e1, e _ (by omega) (by omega), e _ (by omega) (by omega), e _ (by omega) (by omega), e _ (by omega) (by omega)]; exact hl' i (by omega))
  · intro i hi
    first
    | (rw [e 4 (by omega) (by omega)] at hi; rw [e _ (by omega) (by omega), e _ (by omega) (by omega), e _ (by omega) (by omega)]; exact hh i hi)
    | (rw [e2] at hi
       by_cases ei : i = k
       · subst ei; exact hn4 rfl
       · rw [e _ (by omega) (by omega), e _ (by omega) (by omega), e _ (by omega) (by omega)]; exact hh i (by omega))
theorem Rl_row2 {s s' : Nat → Int} (hv : vT s) {k : Nat} (hk : s 2 = (k : Int)) (hl : k < 12) (e : ∀ i, i ≠ 2 → (i < 82 + 3 * k ∨ 82 + 3 * k + 3 ≤ i) → s' i = s i) (e2 : s' 2 = (k : Int) + 1) : Rl s (bk 1 0 0 s') := by
  obtain ⟨b0, b1, b2, b3, b4, -⟩ := hv
  have hb : ∀ i, bk 1 0 0 s' i = if i = 2 then s' 2 - 1 else s' i := fun i => rfl
  have hb2 : ∀ i, i ≠ 2 → (i < 82 + 3 * k ∨ 82 + 3 * k + 3 ≤ i) → s i = bk 1 0 0 s' i := fun i h1 h2 => by rw [hb, if_neg h1, e i h1 h2]
  refine ⟨fun j hj => ?_, fun r hr j hj => hb2 _ (by omega) (by omega), fun f hf j hj => hb2 _ (by omega) (by omega), fun p hp => hb2 _ (by omega) (by omega), fun i hi j hj => hb2 _ (by omega) (by omega), fun i hi j hj => hb2 _ (by omega) (by omega), fun i hi j hj => hb2 _ (by omega) (by omega)⟩
  by_cases h2 : j = 2
  · subst h2; rw [hb, if_pos rfl, e2, hk]; omega
  · exact hb2 j h2 (by omega)
theorem Rl_row3 {s s' : Nat → Int} (hv : vT s) {k : Nat} (hk : s 3 = (k : Int)) (hl : k < 12) (e : ∀ i, i ≠ 3 → (i < 118 + 4 * k ∨ 118 + 4 * k + 4 ≤ i) → s' i = s i) (e2 : s' 3 = (k : Int) + 1) : Rl s (bk 2 0 0 s') := by
  obtain ⟨b0, b1, b2, b3, b4, -⟩ := hv
  have hb : ∀ i, bk 2 0 0 s' i = if i = 3 then s' 3 - 1 else s' i := fun i => rfl
  have hb2 : ∀ i, i ≠ 3 → (i < 118 + 4 * k ∨ 118 + 4 * k + 4 ≤ i) → s i = bk 2 0 0 s' i := fun i h1 h2 => by rw [hb, if_neg h1, e i h1 h2]
  refine ⟨fun j hj => ?_, fun r hr j hj => hb2 _ (by omega) (by omega), fun f hf j hj => hb2 _ (by omega) (by omega), fun p hp => hb2 _ (by omega) (by omega), fun i hi j hj => hb2 _ (by omega) (by omega), fun i hi j hj => hb2 _ (by omega) (by omega), fun i hi j hj => hb2 _ (by omega) (by omega)⟩
  by_cases h2 : j = 3
  · subst h2; rw [hb, if_pos rfl, e2, hk]; omega
  · exact hb2 j h2 (by omega)
theorem Rl_row4 {s s' : Nat → Int} (hv : vT s) {k : Nat} (hk : s 4 = (k : Int)) (hl : k < 6) (e : ∀ i, i ≠ 4 → (i < 166 + 3 * k ∨ 166 + 3 * k + 3 ≤ i) → s' i = s i) (e2 : s' 4 = (k : Int) + 1) : Rl s (bk 3 0 0 s') := by
  obtain ⟨b0, b1, b2, b3, b4, -⟩ := hv
  have hb : ∀ i, bk 3 0 0 s' i = if i = 4 then s' 4 - 1 else s' i := fun i => rfl
  have hb2 : ∀ i, i ≠ 4 → (i < 166 + 3 * k ∨ 166 + 3 * k + 3 ≤ i) → s i = bk 3 0 0 s' i := fun i h1 h2 => by rw [hb, if_neg h1, e i h1 h2]
  refine ⟨fun j hj => ?_, fun r hr j hj => hb2 _ (by omega) (by omega), fun f hf j hj => hb2 _ (by omega) (by omega), fun p hp => hb2 _ (by omega) (by omega), fun i hi j hj => hb2 _ (by omega) (by omega), fun i hi j hj => hb2 _ (by omega) (by omega), fun i hi j hj => hb2 _ (by omega) (by omega)⟩
  by_cases h2 : j = 4
  · subst h2; rw [hb, if_pos rfl, e2, hk]; omega
  · exact hb2 j h2 (by omega)
theorem p_addRow_11 (M : am_M) (a b c d : Int) (k : Nat) (hk : M 11 3 = (k : Int)) (hl : M 11 0 = 12) (hw : M 11 1 = 3) (h : k < 12) : cY 219 [rV 11, iV a, iV b, iV c, iV d] M = some (0, am_up (am_up (am_up (am_up M 12 (3 * k) a) 12 (3 * k + 1) b) 12 (3 * k + 2) c) 11 3 ((k : Int) + 1)) := by
  have er : ∀ M' : am_M, M' 11 = M 11 → ∀ (i : Nat) (v : Int), i < 3 → cY 220 [rV 11, iV ((k : Int) * 3), iV (i : Int), iV v] M' = some (0, am_up M' 12 (3 * k + i) v) := fun M' hM i v hi => by
    rw [e_Rows_putCell_11, hM, hw]
    repeat (first | rw [am_cb_s] | rw [if_pos (by omega)] | rw [if_neg (by omega)] | rw [r_ck_ok (by omega) (by omega)] | rw [r_bd_ok (by omega) (by omega)] | rw [r_cl_ok (by omega) (by omega)])
    rw [show ((k : Int) * 3 + (i : Int)).toNat = 3 * k + i by omega]
  rw [e_Rows_addRow_11, hk, hl, hw, if_pos (by omega), r_ck_ok (by omega) (by omega)]
  have q0 : cY 220 [rV 11, iV ((k : Int) * 3), iV 0, iV a] M = some (0, am_up M 12 (3 * k + 0) a) := er M rfl 0 a (by omega)
  have q1 : cY 220 [rV 11, iV ((k : Int) * 3), iV 1, iV b] (am_up M 12 (3 * k) a) = some (0, am_up (am_up M 12 (3 * k) a) 12 (3 * k + 1) b) := er (am_up M 12 (3 * k) a) (am_up_ne _ _ _ _ (by decide)) 1 b (by omega)
  have q2 : cY 220 [rV 11, iV ((k : Int) * 3), iV 2, iV c] (am_up (am_up M 12 (3 * k) a) 12 (3 * k + 1) b) = some (0, am_up (am_up (am_up M 12 (3 * k) a) 12 (3 * k + 1) b) 12 (3 * k + 2) c) := er (am_up (am_up M 12 (3 * k) a) 12 (3 * k + 1) b) (by rw [am_up_ne _ _ _ _ (by decide), am_up_ne _ _ _ _ (by decide)]) 2 c (by omega)
  have em : (am_up (am_up (am_up M 12 (3 * k) a) 12 (3 * k + 1) b) 12 (3 * k + 2) c) 11 = M 11 := by rw [am_up_ne _ _ _ _ (by decide), am_up_ne _ _ _ _ (by decide), am_up_ne _ _ _ _ (by decide)]
  rw [q0, am_cb_s, Nat.add_zero, q1, am_cb_s, q2, am_cb_s, e_Rows_putCell_11, em, hw, if_neg (by omega), am_cb_s, em, hk, r_ck_ok (by omega) (by omega)]
theorem p_addRow_15 (M : am_M) (a b c d : Int) (k : Nat) (hk : M 15 3 = (k : Int)) (hl : M 15 0 = 6) (hw : M 15 1 = 3) (h : k < 6) : cY 219 [rV 15, iV a, iV b, iV c, iV d] M = some (0, am_up (am_up (am_up (am_up M 16 (3 * k) a) 16 (3 * k + 1) b) 16 (3 * k + 2) c) 15 3 ((k : Int) + 1)) := by
  have er : ∀ M' : am_M, M' 15 = M 15 → ∀ (i : Nat) (v : Int), i < 3 → cY 220 [rV 15, iV ((k : Int) * 3), iV (i : Int), iV v] M' = some (0, am_up M' 16 (3 * k + i) v) := fun M' hM i v hi => by
    rw [e_Rows_putCell_15, hM, hw]
    repeat (first | rw [am_cb_s] | rw [if_pos (by omega)] | rw [if_neg (by omega)] | rw [r_ck_ok (by omega) (by omega)] | rw [r_bd_ok (by omega) (by omega)] | rw [r_cl_ok (by omega) (by omega)])
    rw [show ((k : Int) * 3 + (i : Int)).toNat = 3 * k + i by omega]
  rw [e_Rows_addRow_15, hk, hl, hw, if_pos (by omega), r_ck_ok (by omega) (by omega)]
  have q0 : cY 220 [rV 15, iV ((k : Int) * 3), iV 0, iV a] M = some (0, am_up M 16 (3 * k + 0) a) := er M rfl 0 a (by omega)
  have q1 : cY 220 [rV 15, iV ((k : Int) * 3), iV 1, iV b] (am_up M 16 (3 * k) a) = some (0, am_up (am_up M 16 (3 * k) a) 16 (3 * k + 1) b) := er (am_up M 16 (3 * k) a) (am_up_ne _ _ _ _ (by decide)) 1 b (by omega)
  have q2 : cY 220 [rV 15, iV ((k : Int) * 3), iV 2, iV c] (am_up (am_up M 16 (3 * k) a) 16 (3 * k + 1) b) = some (0, am_up (am_up (am_up M 16 (3 * k) a) 16 (3 * k + 1) b) 16 (3 * k + 2) c) := er (am_up (am_up M 16 (3 * k) a) 16 (3 * k + 1) b) (by rw [am_up_ne _ _ _ _ (by decide), am_up_ne _ _ _ _ (by decide)]) 2 c (by omega)
  have em : (am_up (am_up (am_up M 16 (3 * k) a) 16 (3 * k + 1) b) 16 (3 * k + 2) c) 15 = M 15 := by rw [am_up_ne _ _ _ _ (by decide), am_up_ne _ _ _ _ (by decide), am_up_ne _ _ _ _ (by decide)]
  rw [q0, am_cb_s, Nat.add_zero, q1, am_cb_s, q2, am_cb_s, e_Rows_putCell_15, em, hw, if_neg (by omega), am_cb_s, em, hk, r_ck_ok (by omega) (by omega)]
theorem p_addRow_28 (M : am_M) (a b c d : Int) (k : Nat) (hk : M 28 3 = (k : Int)) (hl : M 28 0 = 12) (hw : M 28 1 = 3) (h : k < 12) : cY 219 [rV 28, iV a, iV b, iV c, iV d] M = some (0, am_up (am_up (am_up (am_up M 29 (3 * k) a) 29 (3 * k + 1) b) 29 (3 * k + 2) c) 28 3 ((k : Int) + 1)) := by
  have er : ∀ M' : am_M, M' 28 = M 28 → ∀ (i : Nat) (v : Int), i < 3 → cY 220 [rV 28, iV ((k : Int) * 3), iV (i : Int), iV v] M' = some (0, am_up M' 29 (3 * k + i) v) := fun M' hM i v hi => by
    rw [e_Rows_putCell_28, hM, hw]
    repeat (first | rw [am_cb_s] | rw [if_pos (by omega)] | rw [if_neg (by omega)] | rw [r_ck_ok (by omega) (by omega)] | rw [r_bd_ok (by omega) (by omega)] | rw [r_cl_ok (by omega) (by omega)])
    rw [show ((k : Int) * 3 + (i : Int)).toNat = 3 * k + i by omega]
  rw [e_Rows_addRow_28, hk, hl, hw, if_pos (by omega), r_ck_ok (by omega) (by omega)]
  have q0 : cY 220 [rV 28, iV ((k : Int) * 3), iV 0, iV a] M = some (0, am_up M 29 (3 * k + 0) a) := er M rfl 0 a (by omega)
  have q1 : cY 220 [rV 28, iV ((k : Int) * 3), iV 1, iV b] (am_up M 29 (3 * k) a) = some (0, am_up (am_up M 29 (3 * k) a) 29 (3 * k + 1) b) := er (am_up M 29 (3 * k) a) (am_up_ne _ _ _ _ (by decide)) 1 b (by omega)
  have q2 : cY 220 [rV 28, iV ((k : Int) * 3), iV 2, iV c] (am_up (am_up M 29 (3 * k) a) 29 (3 * k + 1) b) = some (0, am_up (am_up (am_up M 29 (3 * k) a) 29 (3 * k + 1) b) 29 (3 * k + 2) c) := er (am_up (am_up M 29 (3 * k) a) 29 (3 * k + 1) b) (by rw [am_up_ne _ _ _ _ (by decide), am_up_ne _ _ _ _ (by decide)]) 2 c (by omega)
  have em : (am_up (am_up (am_up M 29 (3 * k) a) 29 (3 * k + 1) b) 29 (3 * k + 2) c) 28 = M 28 := by rw [am_up_ne _ _ _ _ (by decide), am_up_ne _ _ _ _ (by decide), am_up_ne _ _ _ _ (by decide)]
  rw [q0, am_cb_s, Nat.add_zero, q1, am_cb_s, q2, am_cb_s, e_Rows_putCell_28, em, hw, if_neg (by omega), am_cb_s, em, hk, r_ck_ok (by omega) (by omega)]
theorem p_addRow_32 (M : am_M) (a b c d : Int) (k : Nat) (hk : M 32 3 = (k : Int)) (hl : M 32 0 = 6) (hw : M 32 1 = 3) (h : k < 6) : cY 219 [rV 32, iV a, iV b, iV c, iV d] M = some (0, am_up (am_up (am_up (am_up M 33 (3 * k) a) 33 (3 * k + 1) b) 33 (3 * k + 2) c) 32 3 ((k : Int) + 1)) := by
  have er : ∀ M' : am_M, M' 32 = M 32 → ∀ (i : Nat) (v : Int), i < 3 → cY 220 [rV 32, iV ((k : Int) * 3), iV (i : Int), iV v] M' = some (0, am_up M' 33 (3 * k + i) v) := fun M' hM i v hi => by
    rw [e_Rows_putCell_32, hM, hw]
    repeat (first | rw [am_cb_s] | rw [if_pos (by omega)] | rw [if_neg (by omega)] | rw [r_ck_ok (by omega) (by omega)] | rw [r_bd_ok (by omega) (by omega)] | rw [r_cl_ok (by omega) (by omega)])
    rw [show ((k : Int) * 3 + (i : Int)).toNat = 3 * k + i by omega]
  rw [e_Rows_addRow_32, hk, hl, hw, if_pos (by omega), r_ck_ok (by omega) (by omega)]
  have q0 : cY 220 [rV 32, iV ((k : Int) * 3), iV 0, iV a] M = some (0, am_up M 33 (3 * k + 0) a) := er M rfl 0 a (by omega)
  have q1 : cY 220 [rV 32, iV ((k : Int) * 3), iV 1, iV b] (am_up M 33 (3 * k) a) = some (0, am_up (am_up M 33 (3 * k) a) 33 (3 * k + 1) b) := er (am_up M 33 (3 * k) a) (am_up_ne _ _ _ _ (by decide)) 1 b (by omega)
  have q2 : cY 220 [rV 32, iV ((k : Int) * 3), iV 2, iV c] (am_up (am_up M 33 (3 * k) a) 33 (3 * k + 1) b) = some (0, am_up (am_up (am_up M 33 (3 * k) a) 33 (3 * k + 1) b) 33 (3 * k + 2) c) := er (am_up (am_up M 33 (3 * k) a) 33 (3 * k + 1) b) (by rw [am_up_ne _ _ _ _ (by decide), am_up_ne _ _ _ _ (by decide)]) 2 c (by omega)
  have em : (am_up (am_up (am_up M 33 (3 * k) a) 33 (3 * k + 1) b) 33 (3 * k + 2) c) 32 = M 32 := by rw [am_up_ne _ _ _ _ (by decide), am_up_ne _ _ _ _ (by decide), am_up_ne _ _ _ _ (by decide)]
  rw [q0, am_cb_s, Nat.add_zero, q1, am_cb_s, q2, am_cb_s, e_Rows_putCell_32, em, hw, if_neg (by omega), am_cb_s, em, hk, r_ck_ok (by omega) (by omega)]
theorem p_addRow_13 (M : am_M) (a b c d : Int) (k : Nat) (hk : M 13 3 = (k : Int)) (hl : M 13 0 = 12) (hw : M 13 1 = 4) (h : k < 12) : cY 219 [rV 13, iV a, iV b, iV c, iV d] M = some (0, am_up (am_up (am_up (am_up (am_up M 14 (4 * k) a) 14 (4 * k + 1) b) 14 (4 * k + 2) c) 14 (4 * k + 3) d) 13 3 ((k : Int) + 1)) := by
  have er : ∀ M' : am_M, M' 13 = M 13 → ∀ (i : Nat) (v : Int), i < 4 → cY 220 [rV 13, iV ((k : Int) * 4), iV (i : Int), iV v] M' = some (0, am_up M' 14 (4 * k + i) v) := fun M' hM i v hi => by
    rw [e_Rows_putCell_13, hM, hw]
    repeat (first | rw [am_cb_s] | rw [if_pos (by omega)] | rw [if_neg (by omega)] | rw [r_ck_ok (by omega) (by omega)] | rw [r_bd_ok (by omega) (by omega)] | rw [r_cl_ok (by omega) (by omega)])
    rw [show ((k : Int) * 4 + (i : Int)).toNat = 4 * k + i by omega]
  rw [e_Rows_addRow_13, hk, hl, hw, if_pos (by omega), r_ck_ok (by omega) (by omega)]
  have q0 : cY 220 [rV 13, iV ((k : Int) * 4), iV 0, iV a] M = some (0, am_up M 14 (4 * k + 0) a) := er M rfl 0 a (by omega)
  have q1 : cY 220 [rV 13, iV ((k : Int) * 4), iV 1, iV b] (am_up M 14 (4 * k) a) = some (0, am_up (am_up M 14 (4 * k) a) 14 (4 * k + 1) b) := er (am_up M 14 (4 * k) a) (am_up_ne _ _ _ _ (by decide)) 1 b (by omega)
  have q2 : cY 220 [rV 13, iV ((k : Int) * 4), iV 2, iV c] (am_up (am_up M 14 (4 * k) a) 14 (4 * k + 1) b) = some (0, am_up (am_up (am_up M 14 (4 * k) a) 14 (4 * k + 1) b) 14 (4 * k + 2) c) := er (am_up (am_up M 14 (4 * k) a) 14 (4 * k + 1) b) (by rw [am_up_ne _ _ _ _ (by decide), am_up_ne _ _ _ _ (by decide)]) 2 c (by omega)
  have q3 : cY 220 [rV 13, iV ((k : Int) * 4), iV 3, iV d] (am_up (am_up (am_up M 14 (4 * k) a) 14 (4 * k + 1) b) 14 (4 * k + 2) c) = some (0, am_up (am_up (am_up (am_up M 14 (4 * k) a) 14 (4 * k + 1) b) 14 (4 * k + 2) c) 14 (4 * k + 3) d) := er (am_up (am_up (am_up M 14 (4 * k) a) 14 (4 * k + 1) b) 14 (4 * k + 2) c) (by rw [am_up_ne _ _ _ _ (by decide), am_up_ne _ _ _ _ (by decide), am_up_ne _ _ _ _ (by decide)]) 3 d (by omega)
  have em : (am_up (am_up (am_up (am_up M 14 (4 * k) a) 14 (4 * k + 1) b) 14 (4 * k + 2) c) 14 (4 * k + 3) d) 13 = M 13 := by rw [am_up_ne _ _ _ _ (by decide), am_up_ne _ _ _ _ (by decide), am_up_ne _ _ _ _ (by decide), am_up_ne _ _ _ _ (by decide)]
  rw [q0, am_cb_s, Nat.add_zero, q1, am_cb_s, q2, am_cb_s, q3, am_cb_s, em, hk, r_ck_ok (by omega) (by omega)]
theorem p_addRow_30 (M : am_M) (a b c d : Int) (k : Nat) (hk : M 30 3 = (k : Int)) (hl : M 30 0 = 12) (hw : M 30 1 = 4) (h : k < 12) : cY 219 [rV 30, iV a, iV b, iV c, iV d] M = some (0, am_up (am_up (am_up (am_up (am_up M 31 (4 * k) a) 31 (4 * k + 1) b) 31 (4 * k + 2) c) 31 (4 * k + 3) d) 30 3 ((k : Int) + 1)) := by
  have er : ∀ M' : am_M, M' 30 = M 30 → ∀ (i : Nat) (v : Int), i < 4 → cY 220 [rV 30, iV ((k : Int) * 4), iV (i : Int), iV v] M' = some (0, am_up M' 31 (4 * k + i) v) := fun M' hM i v hi => by
    rw [e_Rows_putCell_30, hM, hw]
    repeat (first | rw [am_cb_s] | rw [if_pos (by omega)] | rw [if_neg (by omega)] | rw [r_ck_ok (by omega) (by omega)] | rw [r_bd_ok (by omega) (by omega)] | rw [r_cl_ok (by omega) (by omega)])
    rw [show ((k : Int) * 4 + (i : Int)).toNat = 4 * k + i by omega]
  rw [e_Rows_addRow_30, hk, hl, hw, if_pos (by omega), r_ck_ok (by omega) (by omega)]
  have q0 : cY 220 [rV 30, iV ((k : Int) * 4), iV 0, iV a] M = some (0, am_up M 31 (4 * k + 0) a) := er M rfl 0 a (by omega)
  have q1 : cY 220 [rV 30, iV ((k : Int) * 4), iV 1, iV b] (am_up M 31 (4 * k) a) = some (0, am_up (am_up M 31 (4 * k) a) 31 (4 * k + 1) b) := er (am_up M 31 (4 * k) a) (am_up_ne _ _ _ _ (by decide)) 1 b (by omega)
  have q2 : cY 220 [rV 30, iV ((k : Int) * 4), iV 2, iV c] (am_up (am_up M 31 (4 * k) a) 31 (4 * k + 1) b) = some (0, am_up (am_up (am_up M 31 (4 * k) a) 31 (4 * k + 1) b) 31 (4 * k + 2) c) := er (am_up (am_up M 31 (4 * k) a) 31 (4 * k + 1) b) (by rw [am_up_ne _ _ _ _ (by decide), am_up_ne _ _ _ _ (by decide)]) 2 c (by omega)
  have q3 : cY 220 [rV 30, iV ((k : Int) * 4), iV 3, iV d] (am_up (am_up (am_up M 31 (4 * k) a) 31 (4 * k + 1) b) 31 (4 * k + 2) c) = some (0, am_up (am_up (am_up (am_up M 31 (4 * k) a) 31 (4 * k + 1) b) 31 (4 * k + 2) c) 31 (4 * k + 3) d) := er (am_up (am_up (am_up M 31 (4 * k) a) 31 (4 * k + 1) b) 31 (4 * k + 2) c) (by rw [am_up_ne _ _ _ _ (by decide), am_up_ne _ _ _ _ (by decide), am_up_ne _ _ _ _ (by decide)]) 3 d (by omega)
  have em : (am_up (am_up (am_up (am_up M 31 (4 * k) a) 31 (4 * k + 1) b) 31 (4 * k + 2) c) 31 (4 * k + 3) d) 30 = M 30 := by rw [am_up_ne _ _ _ _ (by decide), am_up_ne _ _ _ _ (by decide), am_up_ne _ _ _ _ (by decide), am_up_ne _ _ _ _ (by decide)]
  rw [q0, am_cb_s, Nat.add_zero, q1, am_cb_s, q2, am_cb_s, q3, am_cb_s, em, hk, r_ck_ok (by omega) (by omega)]
theorem p_lacksPair (a b : Int) (M : am_M) : cY 244 [rV 0, iV a, iV b] M = some (if (0 ≤ a ∧ a < M 0 4) ∧ (0 ≤ b ∧ b < M 0 4) ∧ a ≠ b then 0 else 1, M) := by
  rw [e_Told_lacksPair, p_lacksField, am_cb_s]
  by_cases h : 0 ≤ a ∧ a < M 0 4
  · rw [if_pos h, if_pos rfl, p_lacksField, am_cb_s]
    by_cases h2 : 0 ≤ b ∧ b < M 0 4
    · rw [if_pos h2, if_pos rfl]
      by_cases h3 : a = b
      · rw [if_pos h3, if_neg (by omega)]
      · rw [if_neg h3, if_pos (by omega)]
    · rw [if_neg h2, if_neg (by decide), if_neg (by omega)]
  · rw [if_neg h, if_neg (by decide), if_neg (by omega)]
theorem p_areTwo (a b : Int) (M : am_M) (h : -1000 ≤ M 73 1 ∧ M 73 1 ≤ 1000) : cY 84 [rV 72, iV a, iV b] M = some (if (0 ≤ a ∧ a < M 73 1) ∧ (0 ≤ b ∧ b < M 73 1) ∧ a ≠ b then 1 else 0, M) := by
  rw [e_Model_areTwo, p_isField _ _ h, am_cb_s]
  by_cases h1 : 0 ≤ a ∧ a < M 73 1
  · rw [if_pos h1, if_neg (by decide), p_isField _ _ h, am_cb_s]
    by_cases h2 : 0 ≤ b ∧ b < M 73 1
    · rw [if_pos h2, if_neg (by decide)]
      by_cases h3 : a = b
      · rw [if_pos h3, if_neg (by omega)]
      · rw [if_neg h3, if_pos (by omega)]
    · rw [if_neg h2, if_pos rfl, if_neg (by omega)]
  · rw [if_neg h1, if_pos rfl, if_neg (by omega)]
theorem p_laysThree (M : am_M) (j : Nat) (a b c : Int) (h : j + 2 < 184) : cY 85 [rV 72, iV (j : Int), iV a, iV b, iV c] M = some (0, am_up (am_up (am_up M 73 j a) 73 (j + 1) b) 73 (j + 2) c) := by
  rw [e_Model_laysThree]
  repeat (first | rw [am_cb_s] | rw [if_pos (by omega)] | rw [if_neg (by omega)] | rw [r_ck_ok (by omega) (by omega)] | rw [r_bd_ok (by omega) (by omega)] | rw [r_cl_ok (by omega) (by omega)])
  rw [Int.toNat_natCast, show ((j : Int) + 1).toNat = j + 1 by omega, show ((j : Int) + 2).toNat = j + 2 by omega]
