-- names as numbers
def nmN : List Nat → Nat
  | [] => 0
  | c :: l => c + 32 * nmN l
theorem nmC_N : ∀ l, nmC l = (nmN l : Int) := by
  intro l
  induction l with
  | nil => rfl
  | cons c l ih =>
    show (c : Int) + 32 * nmC l = ((c + 32 * nmN l : Nat) : Int)
    rw [ih]
    omega
theorem nmM_app : ∀ (l a : List Nat), l.foldl (fun (v : Int) (c : Nat) => 32 * v + (c : Int)) (nmN a : Int) = (nmN (l.reverse ++ a) : Int) := by
  intro l
  induction l with
  | nil => intro a; rfl
  | cons c l ih =>
    intro a
    rw [List.foldl_cons, List.reverse_cons, List.append_assoc]
    have e : 32 * (nmN a : Int) + (c : Int) = (nmN (c :: a) : Int) := by
      show _ = ((c + 32 * nmN a : Nat) : Int)
      omega
    rw [e]
    exact ih (c :: a)
theorem nmM_N (l : List Nat) : nmM l = (nmN l.reverse : Int) := by
  have h := nmM_app l []
  rw [List.append_nil] at h
  exact h
theorem nmN_lt : ∀ l : List Nat, (∀ c ∈ l, 1 ≤ c ∧ c ≤ 26) → nmN l < 32 ^ l.length := by
  intro l
  induction l with
  | nil => intro _; decide
  | cons c l ih =>
    intro h
    have h1 := ih (fun c hc => h c (List.mem_cons_of_mem _ hc))
    have h2 := h c (List.mem_cons_self ..)
    show c + 32 * nmN l < 32 ^ (l.length + 1)
    rw [Nat.pow_succ]
    omega
theorem nmN_get : ∀ (l : List Nat) (k : Nat), (∀ c ∈ l, 1 ≤ c ∧ c ≤ 26) → nmN l / 32 ^ k % 32 = l.getD k 0 := by
  intro l
  induction l with
  | nil => intro k _; show 0 / 32 ^ k % 32 = _; rw [Nat.zero_div]; simp
  | cons c l ih =>
    intro k h
    have h2 := h c (List.mem_cons_self ..)
    cases k with
    | zero => show (c + 32 * nmN l) / 32 ^ 0 % 32 = c; rw [Nat.pow_zero, Nat.div_one]; omega
    | succ k =>
      show (c + 32 * nmN l) / 32 ^ (k + 1) % 32 = l.getD k 0
      rw [Nat.pow_succ, Nat.mul_comm (32 ^ k) 32, ← Nat.div_div_eq_div_mul, show (c + 32 * nmN l) / 32 = nmN l by omega]
      exact ih k (fun c hc => h c (List.mem_cons_of_mem _ hc))
theorem nmN_lt40 {l : List Nat} (h : nmOk l) : nmN l < 1099511627776 := by
  have h1 := nmN_lt l h.2.2
  have h2 : 32 ^ l.length ≤ 32 ^ 8 := Nat.pow_le_pow_right (by omega) h.2.1
  omega
theorem nmOk_rev {l : List Nat} (h : nmOk l) : nmOk l.reverse := ⟨by rw [List.length_reverse]; exact h.1, by rw [List.length_reverse]; exact h.2.1, fun c hc => h.2.2 c (List.mem_reverse.mp hc)⟩
theorem p32 (k : Nat) : 2 ^ (5 * k) = 32 ^ k := by rw [Nat.pow_mul]
theorem p_letterOf (M : am_M) (a k : Nat) (hk : k < 8) (ha : a < 1099511627776) : cY 216 [lV (a : Int), iV (k : Int)] M = some (((a / 32 ^ k % 32 : Nat) : Int), M) := by
  rw [e_Reader_letterOf, if_neg (by omega), if_pos (by omega), r_ck_ok (by omega) (by omega), show (k : Int) * 5 = ((5 * k : Nat) : Int) by omega, b_lshr ⟨by omega, by omega⟩ (by omega), p32]
  have e : (a : Int) / ((32 ^ k : Nat) : Int) = ((a / 32 ^ k : Nat) : Int) := rfl
  have hle : a / 32 ^ k ≤ a := Nat.div_le_self _ _
  rw [e, b_low (by omega)]
theorem p_lettersOf (M : am_M) (l : List Nat) (h : nmOk l) : cY 217 [lV (nmN l : Int)] M = some ((l.length : Int), M) := by
  rw [e_Reader_lettersOf]
  have L : ∀ (j k : Nat) (d : Option am_V), k + j = l.length → cX 217 2 [some (lV (nmN l : Int)), d, some (iV (k : Int))] [] M = some ((l.length : Int), M) := by
    intro j
    induction j with
    | zero =>
      intro k d hk
      have e : k = l.length := by omega
      rw [e_Reader_lettersOf_2]
      by_cases c : k < 8
      · rw [if_pos (by omega), p_letterOf M _ k c (nmN_lt40 h), am_cb_s, nmN_get l k h.2.2]
        have e2 : l.getD k 0 = 0 := by rw [List.getD_eq_getElem?_getD, List.getElem?_eq_none (by omega)]; rfl
        rw [e2, if_pos (by omega), e]
      · rw [if_neg (by omega), e]
    | succ j ih =>
      intro k d hk
      have h8 := h.2.1
      have hkl : k < l.length := by omega
      rw [e_Reader_lettersOf_2, if_pos (by omega), p_letterOf M _ k (by omega) (nmN_lt40 h), am_cb_s, nmN_get l k h.2.2]
      have e2 : l.getD k 0 = l[k] := by rw [List.getD_eq_getElem?_getD, List.getElem?_eq_getElem hkl]; rfl
      have e3 := h.2.2 l[k] (List.getElem_mem hkl)
      rw [e2, if_neg (by omega), r_ck_ok (by omega) (by omega)]
      exact ih (k + 1) none (by omega)
  exact L l.length 0 none (by omega)
theorem p_name_loop (M : am_M) (x1 x2 : Int) : ∀ (l : List Nat) (c : Nat) (d : Option am_V), c + l.length ≤ 1000 → nmN l < 1099511627776 → (∀ c ∈ l, 1 ≤ c ∧ c ≤ 26) → ∃ d', cX 98 21 [some (rV 72), some (iV x1), some (iV x2), some (iV (c : Int)), some (lV (nmN l : Int)), d] [] M = cX 98 21 [some (rV 72), some (iV x1), some (iV x2), some (iV ((c + l.length : Nat) : Int)), some (lV 0), d'] [] M := by
  intro l
  induction l with
  | nil => intro c d _ _ _; exact ⟨d, rfl⟩
  | cons x l ih =>
    intro c d h1 h2 h3
    have h4 := h3 x (List.mem_cons_self ..)
    have hl : (x :: l).length = l.length + 1 := rfl
    have e0 : nmN (x :: l) = x + 32 * nmN l := rfl
    obtain ⟨d', hd⟩ := ih (c + 1) none (by omega) (by omega) (fun c hc => h3 c (List.mem_cons_of_mem _ hc))
    refine ⟨d', ?_⟩
    have e5 : am_lshr ((nmN (x :: l) : Nat) : Int) 5 = (((nmN (x :: l)) / 2 ^ 5 : Nat) : Int) := b_lshr (k := 5) ⟨by omega, by omega⟩ (by omega)
    have e6 : nmN (x :: l) / 2 ^ 5 = nmN l := by rw [e0]; omega
    rw [e_Model_name_21, if_neg (by omega), if_neg (by omega), r_ck_ok (by omega) (by omega), e5, e6, show (c : Int) + 1 = ((c + 1 : Nat) : Int) by omega, hd, hl, show c + 1 + l.length = c + (l.length + 1) by omega]
theorem o14 : lw_O14 RI := by
  intro a b ha hb M hR hM
  have hR2 : RI (am_up M 72 6 0) := RI_mf (mf_up (mf.rf M) (by omega)) hR
  obtain ⟨r1, r2, -, -, r5, -⟩ := id hR
  have hb1 := r1.2.1
  have e0 : M 0 4 = M 73 1 := r2.2.1
  have e73 : (am_up M 72 6 0) 73 = M 73 := am_up_ne M 72 6 0 (by decide)
  have e76 : (am_up M 72 6 0) 76 = M 76 := am_up_ne M 72 6 0 (by decide)
  by_cases h : 0 ≤ a ∧ a < M 73 1
  · obtain ⟨f, rfl⟩ : ∃ f : Nat, a = (f : Int) := ⟨a.toNat, by omega⟩
    by_cases hb : b < -1
    · refine ⟨-3, M, am_up M 72 6 0, ?_, ?_, hR2⟩
      · rw [e_Desk_name, p_lacksField, am_cb_s, e0, if_pos h, if_pos rfl, if_pos hb]
      · rw [e_Model_name, p_isField _ _ (by rw [e73]; omega), am_cb_s, e73, if_pos h, if_neg (by decide), if_pos hb]
    · obtain ⟨l, hl, eC, eR⟩ := r5 f h.2
      rw [nmC_N] at eC
      rw [nmM_N] at eR
      have hlr := nmOk_rev hl
      obtain ⟨d', hd⟩ := p_name_loop (am_up M 72 6 0) (f : Int) b l.reverse 0 none (by have := hlr.2.1; omega) (nmN_lt40 hlr) hlr.2.2
      rw [Nat.zero_add, List.length_reverse] at hd
      have hlen := hl.2.1
      have hD : ∀ r, (b = -1 → r = (l.length : Int)) → (0 ≤ b → b < (l.length : Int) → r = ((nmN l / 32 ^ b.toNat % 32 : Nat) : Int)) → ((l.length : Int) ≤ b → r = -1) → cY 16 [rV 70, iV (f : Int), iV b] M = some (r, M) := by
        intro r h1 h2 h3
        rw [e_Desk_name, p_lacksField, am_cb_s, e0, if_pos h, if_pos rfl, if_neg hb, r_bd_ok (by omega) (by omega), Int.toNat_natCast, eC, p_lettersOf M l hl, am_cb_s]
        by_cases c1 : b = -1
        · rw [if_pos c1, h1 c1]
        · rw [if_neg c1]
          by_cases c2 : b < (l.length : Int)
          · obtain ⟨k, rfl⟩ : ∃ k : Nat, b = (k : Int) := ⟨b.toNat, by omega⟩
            rw [if_pos c2, r_bd_ok (by omega) (by omega), eC, p_letterOf M _ k (by omega) (nmN_lt40 hl), am_cb_s, h2 (by omega) c2, Int.toNat_natCast]
          · rw [if_neg c2, h3 (by omega)]
      have hMd : ∀ r, (b = -1 → r = (l.length : Int)) → (0 ≤ b → b < (l.length : Int) → r = ((nmN l.reverse / 32 ^ (l.length - 1 - b.toNat) % 32 : Nat) : Int)) → ((l.length : Int) ≤ b → r = -1) → cY 98 [rV 72, iV (f : Int), iV b] M = some (r, am_up M 72 6 0) := by
        intro r h1 h2 h3
        rw [e_Model_name, p_isField _ _ (by rw [e73]; omega), am_cb_s, e73, if_pos h, if_neg (by decide), if_neg hb, r_bd_ok (by omega) (by omega), Int.toNat_natCast, e76, eR]
        refine hd.trans ?_
        rw [e_Model_name_21, if_neg (by decide), if_pos rfl]
        by_cases c1 : b = -1
        · rw [if_pos c1, h1 c1]
        · rw [if_neg c1]
          by_cases c2 : b < (l.length : Int)
          · obtain ⟨k, rfl⟩ : ∃ k : Nat, b = (k : Int) := ⟨b.toNat, by omega⟩
            rw [if_pos c2, r_bd_ok (by omega) (by omega), r_ck_ok (by omega) (by omega), r_ck_ok (by omega) (by omega), r_ck_ok (by omega) (by omega), Int.toNat_natCast, e76, eR, show 5 * ((l.length : Int) - 1 - (k : Int)) = ((5 * (l.length - 1 - k) : Nat) : Int) by omega, b_lshr ⟨by omega, by have := nmN_lt40 hlr; omega⟩ (by omega), p32]
            have e : ((nmN l.reverse : Nat) : Int) / ((32 ^ (l.length - 1 - k) : Nat) : Int) = ((nmN l.reverse / 32 ^ (l.length - 1 - k) : Nat) : Int) := rfl
            have hle : nmN l.reverse / 32 ^ (l.length - 1 - k) ≤ nmN l.reverse := Nat.div_le_self _ _
            have hlt := nmN_lt40 hlr
            rw [e, b_land31 (by omega), b_l2i ⟨by omega, by omega⟩, h2 (by omega) c2, Int.toNat_natCast]
          · rw [if_neg c2, h3 (by omega)]
      by_cases c1 : b = -1
      · exact ⟨(l.length : Int), M, am_up M 72 6 0, hD _ (fun _ => rfl) (fun _ _ => by omega) (fun _ => by omega), hMd _ (fun _ => rfl) (fun _ _ => by omega) (fun _ => by omega), hR2⟩
      · by_cases c2 : b < (l.length : Int)
        · refine ⟨((nmN l / 32 ^ b.toNat % 32 : Nat) : Int), M, am_up M 72 6 0, hD _ (fun _ => by omega) (fun _ _ => rfl) (fun _ => by omega), hMd _ (fun _ => by omega) (fun h1 h2 => ?_) (fun _ => by omega), hR2⟩
          rw [nmN_get l _ hl.2.2, nmN_get l.reverse _ hlr.2.2]
          congr 1
          rw [List.getD_eq_getElem?_getD, List.getD_eq_getElem?_getD, List.getElem?_reverse (by omega), show l.length - 1 - (l.length - 1 - b.toNat) = b.toNat by omega]
        · exact ⟨-1, M, am_up M 72 6 0, hD _ (fun _ => by omega) (fun _ _ => by omega) (fun _ => rfl), hMd _ (fun _ => by omega) (fun _ _ => by omega) (fun _ => rfl), hR2⟩
  · refine ⟨-2, M, am_up M 72 6 0, ?_, ?_, hR2⟩
    · rw [e_Desk_name, p_lacksField, am_cb_s, e0, if_neg h, if_neg (by decide)]
    · rw [e_Model_name, p_isField _ _ (by rw [e73]; omega), am_cb_s, e73, if_neg h, if_pos rfl]
-- soaked
theorem p_left {a b : Int} (ha : 0 ≤ a ∧ a ≤ 999) (hb : 0 ≤ b ∧ b ≤ 500) : 0 ≤ a * b ∧ a * b ≤ 499500 ∧ Int.tdiv (a * b) 1000 = a * b / 1000 ∧ a * b ≤ 500 * a := by
  have h1 : 0 ≤ a * b := Int.mul_nonneg ha.1 hb.1
  have h2 : a * b ≤ 999 * 500 := Int.mul_le_mul ha.2 hb.2 hb.1 (by omega)
  have h3 : a * b ≤ a * 500 := Int.mul_le_mul_of_nonneg_left hb.2 ha.1
  exact ⟨h1, by omega, Int.tdiv_eq_ediv_of_nonneg h1, by omega⟩
theorem p_leftBehind (M : am_M) {a b : Int} (ha : 0 ≤ a ∧ a ≤ 999) (hb : 0 ≤ b ∧ b ≤ 500) : cY 176 [iV a, iV b] M = some (a - Int.tdiv (a * b) 1000, M) := by
  obtain ⟨h1, h2, h3, h4⟩ := p_left ha hb
  rw [e_Canal_leftBehind, r_ck_ok (by omega) (by omega), r_ck_ok (by omega) (by omega), r_ck_ok (by omega) (by omega)]
theorem o39 : lw_O39 RI := by
  intro a b c ha hb hc M hR hM
  have hR2 : RI (am_up M 72 6 0) := RI_mf (mf_up (mf.rf M) (by omega)) hR
  by_cases h : (1 ≤ a ∧ a ≤ 999) ∧ (0 ≤ b ∧ b ≤ a)
  · have L : ∀ (j k : Nat) (d d' : Option am_V) (x : Int) (M' : am_M), k + j = 501 → -1 ≤ x ∧ x ≤ 500 → ∃ r, cX 44 17 [d, some (iV a), some (iV b), some (iV c), some (iV x), some (iV (k : Int))] [] M = some (r, M) ∧ cX 165 22 [d', some (iV a), some (iV b), some (iV c), some (iV x), some (iV (k : Int))] [] M' = some (r, M') := by
      intro j
      induction j with
      | zero =>
        intro k d d' x M' hk hx
        exact ⟨x, by rw [e_Desk_soaked_17, if_pos (by omega)], by rw [e_Model_soaked_22, if_pos (by omega)]⟩
      | succ j ih =>
        intro k d d' x M' hk hx
        obtain ⟨h1, h2, h3, h4⟩ := p_left (a := a) (b := (k : Int)) (by omega) (by omega)
        have hA := e_Desk_soaked_17 a b c x (k : Int) d M
        have hB := e_Model_soaked_22 a b c x (k : Int) d' M'
        rw [if_neg (by omega), p_leftBehind M (by omega) (by omega), am_cb_s] at hA
        rw [if_neg (by omega), r_ck_ok (by omega) (by omega), r_ck_ok (by omega) (by omega), r_ck_ok (by omega) (by omega)] at hB
        have hn : ∀ y, -1 ≤ y ∧ y ≤ 500 → cX 44 17 [d, some (iV a), some (iV b), some (iV c), some (iV x), some (iV (k : Int))] [] M = cX 44 17 [none, some (iV a), some (iV b), some (iV c), some (iV y), some (iV ((k : Int) + 1))] [] M → cX 165 22 [d', some (iV a), some (iV b), some (iV c), some (iV x), some (iV (k : Int))] [] M' = cX 165 22 [none, some (iV a), some (iV b), some (iV c), some (iV y), some (iV ((k : Int) + 1))] [] M' → ∃ r, cX 44 17 [d, some (iV a), some (iV b), some (iV c), some (iV x), some (iV (k : Int))] [] M = some (r, M) ∧ cX 165 22 [d', some (iV a), some (iV b), some (iV c), some (iV x), some (iV (k : Int))] [] M' = some (r, M') := by
          intro y hy g1 g2
          obtain ⟨r, g3, g4⟩ := ih (k + 1) none none y M' (by omega) hy
          exact ⟨r, g1.trans g3, g2.trans g4⟩
        by_cases q1 : a - Int.tdiv (a * (k : Int)) 1000 = b
        · rw [if_pos q1] at hA hB
          by_cases q2 : c = 0
          · rw [if_pos q2] at hA hB
            by_cases q3 : x = -1
            · rw [if_pos q3, r_ck_ok (by omega) (by omega)] at hA hB
              exact hn _ (by omega) hA hB
            · rw [if_neg q3, r_ck_ok (by omega) (by omega)] at hA hB
              exact hn _ (by omega) hA hB
          · rw [if_neg q2, r_ck_ok (by omega) (by omega)] at hA hB
            exact hn _ (by omega) hA hB
        · rw [if_neg q1, r_ck_ok (by omega) (by omega)] at hA hB
          exact hn _ (by omega) hA hB
    obtain ⟨r, g1, g2⟩ := L 501 0 (some (rV 70)) (some (rV 72)) (-1) (am_up M 72 6 0) rfl (by omega)
    refine ⟨r, M, am_up M 72 6 0, ?_, ?_, hR2⟩
    · rw [e_Desk_soaked, if_neg (by omega), if_neg (by omega), if_neg (by omega), if_neg (by omega)]; exact g1
    · rw [e_Model_soaked, p_isIn, am_cb_s, if_pos h.1, if_neg (by decide), p_isIn, am_cb_s, if_pos h.2, if_neg (by decide)]; exact g2
  · refine ⟨-3, M, am_up M 72 6 0, ?_, ?_, hR2⟩
    · rw [e_Desk_soaked]
      simp only [e_Desk_soaked_11]
      by_cases q1 : a < 1
      · rw [if_pos q1]
      · rw [if_neg q1]
        by_cases q2 : 999 < a
        · rw [if_pos q2]
        · rw [if_neg q2]
          by_cases q3 : b < 0
          · rw [if_pos q3]
          · rw [if_neg q3, if_pos (by omega)]
    · rw [e_Model_soaked, p_isIn, am_cb_s]
      by_cases q : 1 ≤ a ∧ a ≤ 999
      · rw [if_pos q, if_neg (by decide), p_isIn, am_cb_s, if_neg (show ¬ (0 ≤ b ∧ b ≤ a) by omega), if_pos rfl]
      · rw [if_neg q, if_pos rfl]
-- head, tail, all the land
def edh (s : Nat → Int) : Nat → Int
  | 0 => -1
  | k + 1 => if edh s k = -1 then (k : Int) else if s (42 + 4 * k) < s (42 + 4 * (edh s k).toNat) then (k : Int) else edh s k
theorem edh_s (s : Nat → Int) (k : Nat) : edh s (k + 1) = if edh s k = -1 then (k : Int) else if s (42 + 4 * k) < s (42 + 4 * (edh s k).toNat) then (k : Int) else edh s k := rfl
theorem edh_bd (s : Nat → Int) : ∀ k, -1 ≤ edh s k ∧ edh s k < (k : Int) ∧ (1 ≤ k → 0 ≤ edh s k) := by
  intro k
  induction k with
  | zero => exact ⟨by show (-1 : Int) ≤ -1; omega, by show (-1 : Int) < 0; omega, fun h => by omega⟩
  | succ k ih =>
    rw [edh_s]
    split
    · omega
    · split
      · omega
      · have : k ≠ 0 := by
          intro h0; subst h0
          rename_i h1 _; exact h1 rfl
        omega
theorem p_headField (M : am_M) (s : Nat → Int) (n : Nat) (hn : M 0 4 = (n : Int)) (h8 : n ≤ 8) (h5 : ∀ f, f < n → M 5 f = s (42 + 4 * f)) : cY 250 [rV 0] M = some (edh s n, M) := by
  rw [e_Told_headField]
  have L : ∀ j k : Nat, k + j = n → cX 250 4 [some (rV 0), some (iV (edh s k)), some (iV (k : Int))] [] M = some (edh s n, M) := by
    intro j
    induction j with
    | zero => intro k hk; have e : k = n := by omega
              subst e; rw [e_Told_headField_4, if_neg (by omega)]
    | succ j ih =>
      intro k hk
      have hb := edh_bd s k
      have hi := ih (k + 1) (by omega)
      rw [edh_s] at hi
      rw [e_Told_headField_4, if_pos (by omega)]
      by_cases q : edh s k = -1
      · rw [if_pos q] at hi
        rw [if_pos q, r_ck_ok (by omega) (by omega)]; exact hi
      · rw [if_neg q] at hi
        rw [if_neg q, r_bd_ok (by omega) (by omega), r_bd_ok (by omega) (by omega), Int.toNat_natCast, h5 k (by omega), h5 _ (by omega)]
        by_cases q2 : s (42 + 4 * k) < s (42 + 4 * (edh s k).toNat)
        · rw [if_pos q2] at hi
          rw [if_pos q2, r_ck_ok (by omega) (by omega)]; exact hi
        · rw [if_neg q2] at hi
          rw [if_neg q2, r_ck_ok (by omega) (by omega)]; exact hi
  exact L n 0 (by omega)
theorem p_endOf0 (M : am_M) (n : Nat) (hn : M 73 1 = (n : Int)) (h8 : n ≤ 8) : cY 135 [rV 72, iV 0] M = some (edh (M 73) n, M) := by
  rw [e_Model_endOf]
  have L : ∀ j k : Nat, k + j = n → cX 135 4 [some (rV 72), some (iV 0), some (iV (edh (M 73) k)), some (iV (k : Int))] [] M = some (edh (M 73) n, M) := by
    intro j
    induction j with
    | zero => intro k hk; have e : k = n := by omega
              subst e; rw [e_Model_endOf_4, if_neg (by omega)]
    | succ j ih =>
      intro k hk
      have hb := edh_bd (M 73) k
      have hi := ih (k + 1) (by omega)
      rw [edh_s] at hi
      rw [e_Model_endOf_4, if_pos (by omega)]
      by_cases q : edh (M 73) k = -1
      · rw [if_pos q] at hi
        rw [if_pos q, r_ck_ok (by omega) (by omega)]; exact hi
      · rw [if_neg q] at hi
        obtain ⟨e, he⟩ : ∃ e : Nat, edh (M 73) k = (e : Int) := ⟨(edh (M 73) k).toNat, by omega⟩
        rw [if_neg q, if_pos rfl, p_of0 M k (by omega), am_cb_s, he, p_of0 M e (by omega), am_cb_s]
        rw [he, Int.toNat_natCast] at hi
        by_cases q2 : M 73 (42 + 4 * k) < M 73 (42 + 4 * e)
        · rw [if_pos q2] at hi
          rw [if_pos q2, r_ck_ok (by omega) (by omega)]; exact hi
        · rw [if_neg q2] at hi
          rw [if_neg q2, r_ck_ok (by omega) (by omega)]; exact hi
  exact L n 0 (by omega)
def edt (s : Nat → Int) : Nat → Int
  | 0 => -1
  | k + 1 => if edt s k = -1 then (k : Int) else if s (42 + 4 * (edt s k).toNat) < s (42 + 4 * k) then (k : Int) else edt s k
theorem edt_s (s : Nat → Int) (k : Nat) : edt s (k + 1) = if edt s k = -1 then (k : Int) else if s (42 + 4 * (edt s k).toNat) < s (42 + 4 * k) then (k : Int) else edt s k := rfl
theorem edt_bd (s : Nat → Int) : ∀ k, -1 ≤ edt s k ∧ edt s k < (k : Int) ∧ (1 ≤ k → 0 ≤ edt s k) := by
  intro k
  induction k with
  | zero => exact ⟨by show (-1 : Int) ≤ -1; omega, by show (-1 : Int) < 0; omega, fun h => by omega⟩
  | succ k ih =>
    rw [edt_s]
    split
    · omega
    · split
      · omega
      · have : k ≠ 0 := by
          intro h0; subst h0
          rename_i h1 _; exact h1 rfl
        omega
theorem p_tailField (M : am_M) (s : Nat → Int) (n : Nat) (hn : M 0 4 = (n : Int)) (h8 : n ≤ 8) (h5 : ∀ f, f < n → M 5 f = s (42 + 4 * f)) : cY 251 [rV 0] M = some (edt s n, M) := by
  rw [e_Told_tailField]
  have L : ∀ j k : Nat, k + j = n → cX 251 4 [some (rV 0), some (iV (edt s k)), some (iV (k : Int))] [] M = some (edt s n, M) := by
    intro j
    induction j with
    | zero => intro k hk; have e : k = n := by omega
              subst e; rw [e_Told_tailField_4, if_neg (by omega)]
    | succ j ih =>
      intro k hk
      have hb := edt_bd s k
      have hi := ih (k + 1) (by omega)
      rw [edt_s] at hi
      rw [e_Told_tailField_4, if_pos (by omega)]
      by_cases q : edt s k = -1
      · rw [if_pos q] at hi
        rw [if_pos q, r_ck_ok (by omega) (by omega)]; exact hi
      · rw [if_neg q] at hi
        rw [if_neg q, r_bd_ok (by omega) (by omega), r_bd_ok (by omega) (by omega), Int.toNat_natCast, h5 k (by omega), h5 _ (by omega)]
        by_cases q2 : s (42 + 4 * (edt s k).toNat) < s (42 + 4 * k)
        · rw [if_pos q2] at hi
          rw [if_pos q2, r_ck_ok (by omega) (by omega)]; exact hi
        · rw [if_neg q2] at hi
          rw [if_neg q2, r_ck_ok (by omega) (by omega)]; exact hi
  exact L n 0 (by omega)
theorem p_endOf1 (M : am_M) (n : Nat) (hn : M 73 1 = (n : Int)) (h8 : n ≤ 8) : cY 135 [rV 72, iV 1] M = some (edt (M 73) n, M) := by
  rw [e_Model_endOf]
  have L : ∀ j k : Nat, k + j = n → cX 135 4 [some (rV 72), some (iV 1), some (iV (edt (M 73) k)), some (iV (k : Int))] [] M = some (edt (M 73) n, M) := by
    intro j
    induction j with
    | zero => intro k hk; have e : k = n := by omega
              subst e; rw [e_Model_endOf_4, if_neg (by omega)]
    | succ j ih =>
      intro k hk
      have hb := edt_bd (M 73) k
      have hi := ih (k + 1) (by omega)
      rw [edt_s] at hi
      rw [e_Model_endOf_4, if_pos (by omega)]
      by_cases q : edt (M 73) k = -1
      · rw [if_pos q] at hi
        rw [if_pos q, r_ck_ok (by omega) (by omega)]; exact hi
      · rw [if_neg q] at hi
        obtain ⟨e, he⟩ : ∃ e : Nat, edt (M 73) k = (e : Int) := ⟨(edt (M 73) k).toNat, by omega⟩
        rw [if_neg q, if_neg (by decide), p_of0 M k (by omega), am_cb_s, he, p_of0 M e (by omega), am_cb_s]
        rw [he, Int.toNat_natCast] at hi
        by_cases q2 : M 73 (42 + 4 * e) < M 73 (42 + 4 * k)
        · rw [if_pos q2] at hi
          rw [if_pos q2, r_ck_ok (by omega) (by omega)]; exact hi
        · rw [if_neg q2] at hi
          rw [if_neg q2, r_ck_ok (by omega) (by omega)]; exact hi
  exact L n 0 (by omega)
def lsm (s : Nat → Int) : Nat → Int
  | 0 => 0
  | k + 1 => lsm s k + s (43 + 4 * k)
theorem lsm_bd {s : Nat → Int} {n : Nat} (h : ∀ f, f < n → 1 ≤ s (43 + 4 * f) ∧ s (43 + 4 * f) ≤ 999) : ∀ k, k ≤ n → 0 ≤ lsm s k ∧ lsm s k ≤ 999 * (k : Int) := by
  intro k
  induction k with
  | zero => intro _; exact ⟨by show (0 : Int) ≤ 0; omega, by show (0 : Int) ≤ 999 * 0; omega⟩
  | succ k ih =>
    intro hk
    have h1 := ih (by omega)
    have h2 := h k (by omega)
    show 0 ≤ lsm s k + s (43 + 4 * k) ∧ lsm s k + s (43 + 4 * k) ≤ 999 * ((k + 1 : Nat) : Int)
    omega
theorem o43 : lw_O43 RI := by
  intro a ha M hR hM
  have hR2 : RI (am_up M 72 6 0) := RI_mf (mf_up (mf.rf M) (by omega)) hR
  obtain ⟨r1, r2, r3, r4, r5, r6, r7, r8, -⟩ := id hR
  have hb1 := r1.2.1
  obtain ⟨n, hn⟩ : ∃ n : Nat, M 73 1 = (n : Int) := ⟨(M 73 1).toNat, by omega⟩
  have e73 : (am_up M 72 6 0) 73 = M 73 := am_up_ne M 72 6 0 (by decide)
  have e04 : M 0 4 = (n : Int) := by rw [← hn]; exact r2.2.1
  have hfl : ∀ f, f < n → M 5 f = M 73 (42 + 4 * f) ∧ M 6 f = M 73 (43 + 4 * f) := fun f hf => by
    have := r2.2.2.2.2.2.2.2.2.1 f (by omega)
    exact ⟨this.1, this.2.1⟩
  have hln : ∀ f, f < n → 1 ≤ M 73 (43 + 4 * f) ∧ M 73 (43 + 4 * f) ≤ 999 := fun f hf => (r1.2.2.2.2.2.2.2.1 f (by omega)).2.1
  have g1 := p_headField M (M 73) n e04 (by omega) (fun f hf => (hfl f hf).1)
  have g2 := p_tailField M (M 73) n e04 (by omega) (fun f hf => (hfl f hf).1)
  have g3 := p_endOf0 (am_up M 72 6 0) n (by rw [e73]; exact hn) (by omega)
  have g4 := p_endOf1 (am_up M 72 6 0) n (by rw [e73]; exact hn) (by omega)
  rw [e73] at g3 g4
  rw [e_Desk_count]
  by_cases q0 : a = 0
  · subst q0; exact ⟨M 0 0, M, am_up M 72 6 0, by rw [if_pos rfl], by rw [e_Model_count, if_pos rfl, r_bd_ok (by omega) (by omega)]; show some (M 73 0, _) = _; rw [← r2.1], hR2⟩
  by_cases q1 : a = 1
  · subst q1; exact ⟨M 0 4, M, am_up M 72 6 0, by rw [if_neg (by decide), if_pos rfl], by rw [e_Model_count, if_neg (by decide), if_pos rfl, r_bd_ok (by omega) (by omega)]; show some (M 73 1, _) = _; rw [← r2.2.1], hR2⟩
  by_cases q2 : a = 2
  · subst q2; exact ⟨M 11 3, M, am_up M 72 6 0, by rw [if_neg (by decide), if_neg (by decide), if_pos rfl], by rw [e_Model_count, if_neg (by decide), if_neg (by decide), if_pos rfl, r_bd_ok (by omega) (by omega)]; show some (M 73 2, _) = _; rw [← r2.2.2.1], hR2⟩
  by_cases q3 : a = 3
  · subst q3; exact ⟨M 13 3, M, am_up M 72 6 0, by rw [if_neg (by decide), if_neg (by decide), if_neg (by decide), if_pos rfl], by rw [e_Model_count, if_neg (by decide), if_neg (by decide), if_neg (by decide), if_pos rfl, r_bd_ok (by omega) (by omega)]; show some (M 73 3, _) = _; rw [← r2.2.2.2.1], hR2⟩
  by_cases q4 : a = 4
  · subst q4; exact ⟨M 15 3, M, am_up M 72 6 0, by rw [if_neg (by decide), if_neg (by decide), if_neg (by decide), if_neg (by decide), if_pos rfl], by rw [e_Model_count, if_neg (by decide), if_neg (by decide), if_neg (by decide), if_neg (by decide), if_pos rfl, r_bd_ok (by omega) (by omega)]; show some (M 73 4, _) = _; rw [← r2.2.2.2.2.1], hR2⟩
  rw [if_neg q0, if_neg q1, if_neg q2, if_neg q3, if_neg q4]
  have hm : ∀ r M2, (if a = 5 then (am_cb (cY 135 [rV 72, iV 0] (am_up M 72 6 0)) (fun v3 M4 => some (v3, M4))) else (if a = 6 then (am_cb (cY 135 [rV 72, iV 1] (am_up M 72 6 0)) (fun v1 M2 => some (v1, M2))) else (if a = 7 then (cX 170 22 [some (rV 72), some (iV a), some (iV 0), some (iV 0)] [] (am_up M 72 6 0)) else (if a = 8 then (some (M 72 5, am_up M 72 6 0)) else (if a = 9 then (some (M 72 8, am_up M 72 6 0)) else (some ((-1), am_up M 72 6 0))))))) = some (r, M2) → cY 170 [rV 72, iV a] M = some (r, M2) := by
    intro r M2 h
    rw [e_Model_count, if_neg q0, if_neg q1, if_neg q2, if_neg q3, if_neg q4]
    exact h
  by_cases q5 : a = 5
  · refine ⟨_, M, am_up M 72 6 0, by rw [if_pos q5, g1, am_cb_s], hm _ _ ?_, hR2⟩
    rw [if_pos q5, g3, am_cb_s]
  by_cases q6 : a = 6
  · refine ⟨_, M, am_up M 72 6 0, by rw [if_neg q5, if_pos q6, g2, am_cb_s], hm _ _ ?_, hR2⟩
    rw [if_neg q5, if_pos q6, g4, am_cb_s]
  by_cases q7 : a = 7
  · have L : ∀ j k : Nat, k + j = n → cX 252 4 [some (rV 0), some (iV (lsm (M 73) k)), some (iV (k : Int))] [] M = some (lsm (M 73) n, M) := by
      intro j
      induction j with
      | zero => intro k hk; have e : k = n := by omega
                subst e; rw [e_Told_landTogether_4, if_neg (by omega)]
      | succ j ih =>
        intro k hk
        have h1 := lsm_bd hln k (by omega)
        have h2 := hln k (by omega)
        rw [e_Told_landTogether_4, if_pos (by omega), r_bd_ok (by omega) (by omega), Int.toNat_natCast, (hfl k (by omega)).2, r_ck_ok (by omega) (by omega), r_ck_ok (by omega) (by omega)]
        exact ih (k + 1) (by omega)
    have L2 : ∀ (j k : Nat) (d : Option am_V), k + j = n → cX 170 22 [some (rV 72), d, some (iV (lsm (M 73) k)), some (iV (k : Int))] [] (am_up M 72 6 0) = some (lsm (M 73) n, am_up M 72 6 0) := by
      intro j
      induction j with
      | zero => intro k d hk; have e : k = n := by omega
                subst e; rw [e_Model_count_22, e73, if_neg (by omega)]
      | succ j ih =>
        intro k d hk
        have h1 := lsm_bd hln k (by omega)
        have h2 := hln k (by omega)
        rw [e_Model_count_22, e73, if_pos (by omega), p_of1 _ _ (by omega), am_cb_s, e73, r_ck_ok (by omega) (by omega), r_ck_ok (by omega) (by omega)]
        exact ih (k + 1) none (by omega)
    refine ⟨lsm (M 73) n, M, am_up M 72 6 0, ?_, hm _ _ ?_, hR2⟩
    · rw [if_neg q5, if_neg q6, if_pos q7, e_Told_landTogether]
      exact (congrArg (fun r => am_cb r _) (L n 0 (by omega))).trans rfl
    · rw [if_neg q5, if_neg q6, if_pos q7]
      exact L2 n 0 _ (by omega)
  by_cases q8 : a = 8
  · exact ⟨M 36 3, M, am_up M 72 6 0, by rw [if_neg q5, if_neg q6, if_neg q7, if_pos q8], hm _ _ (by rw [if_neg q5, if_neg q6, if_neg q7, if_pos q8, r8.1]), hR2⟩
  by_cases q9 : a = 9
  · exact ⟨M 34 2, M, am_up M 72 6 0, by rw [if_neg q5, if_neg q6, if_neg q7, if_neg q8, if_pos q9], hm _ _ (by rw [if_neg q5, if_neg q6, if_neg q7, if_neg q8, if_pos q9, r6.1]), hR2⟩
  exact ⟨-1, M, am_up M 72 6 0, by rw [if_neg q5, if_neg q6, if_neg q7, if_neg q8, if_neg q9], hm _ _ (by rw [if_neg q5, if_neg q6, if_neg q7, if_neg q8, if_neg q9]), hR2⟩
