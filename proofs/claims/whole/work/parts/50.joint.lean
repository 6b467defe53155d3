-- names, read by both
section
variable {M0 : am_M} {e : Nat}
theorem p_word (he : M0 34 3 = (e : Int)) (h8 : e ≤ 800) {p : Nat} {w wa : Int} {M : am_M} (hp : p ≤ e) (hC : CS M0 p w wa M) (q : Nat) (hq : run bB (M0 35) e p = q) : ∃ M', cY 207 [rV 34] M = some (((nmN (lts (M0 35) q (min (run lB (M0 35) e q - q) 8)) : Nat) : Int), M') ∧ CS M0 (run lB (M0 35) e q) w wa M' ∧ M' 34 5 = (q : Int) ∧ M' 34 6 = ((run lB (M0 35) e q - q : Nat) : Int) := by
  obtain ⟨M1, a1, a2, a3, a4⟩ := p_skipBlanks he h8 hp hC
  rw [hq] at a2
  have hqe : q ≤ e := by rw [← hq]; exact (run_ok bB (M0 35) e (e - p) p (by omega)).2.1
  obtain ⟨d1, d2, d3, d4⟩ := run_ok lB (M0 35) e (e - q) q (by omega)
  rw [e_Reader_readWord, a1, am_cb_s, a2.2.2.1]
  have L : ∀ (j k : Nat) (M : am_M) (d2 d3 : Option am_V), q + k ≤ run lB (M0 35) e q → q + k + j = e → CS M0 (q + k) w wa M → M 34 5 = (q : Int) → ∃ M', cX 207 8 [some (rV 34), some (lV ((nmN (lts (M0 35) q (min k 8)) : Nat) : Int)), d2, d3] [] M = some (((nmN (lts (M0 35) q (min (run lB (M0 35) e q - q) 8)) : Nat) : Int), M') ∧ CS M0 (run lB (M0 35) e q) w wa M' ∧ M' 34 5 = (q : Int) ∧ M' 34 6 = ((run lB (M0 35) e q - q : Nat) : Int) := by
    intro j
    induction j with
    | zero =>
      intro k M d2' d3' h1 h2 hC h5
      have e3 : M 34 3 = (e : Int) := by rw [hC.2.1 3 (by decide) (by decide) (by decide) (by decide) (by decide)]; exact he
      have ek : run lB (M0 35) e q = q + k := by omega
      rw [ek, show q + k - q = k by omega, e_Reader_readWord_8, hC.2.2.1, e3, h5, if_neg (by omega), r_ck_ok (by omega) (by omega), show ((q + k : Nat) : Int) - (q : Int) = (k : Int) by omega]
      exact ⟨_, rfl, CS_56 hC (Or.inr rfl), by rw [am_up_nj _ _ _ _ (by decide)]; exact h5, am_up_at _ _ _ _⟩
    | succ j ih =>
      intro k M d2' d3' h1 h2 hC h5
      have e3 : M 34 3 = (e : Int) := by rw [hC.2.1 3 (by decide) (by decide) (by decide) (by decide) (by decide)]; exact he
      rw [e_Reader_readWord_8, hC.2.2.1, e3, if_pos (by omega), r_bd_ok (by omega) (by omega), Int.toNat_natCast, hC.1 35 (by decide), e_Reader_isLetter]
      by_cases c : q + k < run lB (M0 35) e q
      · have hd := lB_d (d3 (q + k) (by omega) c)
        obtain ⟨M', b1, b2⟩ := ih (k + 1) (am_up M 34 4 ((q + (k + 1) : Nat) : Int)) none (some (iV (k : Int))) (by omega) (by omega) (CS_4 hC) (by rw [am_up_nj _ _ _ _ (by decide)]; exact h5)
        rw [if_neg (by omega), if_neg (by omega), am_cb_s, if_neg (by decide), hC.2.2.1, h5, r_ck_ok (by omega) (by omega), Int.toNat_natCast, hC.1 35 (by decide), show ((q + k : Nat) : Int) + 1 = ((q + (k + 1) : Nat) : Int) by omega, show ((q + k : Nat) : Int) - (q : Int) = (k : Int) by omega]
        by_cases c5 : k < 8
        · rw [show min (k + 1) 8 = k + 1 by omega] at b1
          have es : lts (M0 35) q (k + 1) = lts (M0 35) q k ++ [(M0 35 (q + k) - 96).toNat] := rfl
          rw [es, nmN_snoc, lts_len] at b1
          have hlt := nmN_lt (lts (M0 35) q k) (lts_ok k (fun i hi => d3 (q + i) (by omega) (by omega)))
          rw [lts_len] at hlt
          obtain ⟨ch, hch⟩ : ∃ ch : Nat, M0 35 (q + k) = (ch : Int) + 96 := ⟨(M0 35 (q + k) - 96).toNat, by omega⟩
          rw [hch, show ((ch : Int) + 96 - 96).toNat = ch by omega] at b1
          have h32 : 32 ^ k ≤ 32 ^ 7 := Nat.pow_le_pow_right (by omega) (by omega)
          have hmul : ch * 32 ^ k ≤ 26 * 32 ^ 7 := Nat.mul_le_mul (by omega) h32
          have hsh : am_lshl (ch : Int) ((5 * k : Nat) : Int) = ((ch * 2 ^ (5 * k) : Nat) : Int) := b_lshl (by omega) (by rw [p32]; omega)
          rw [p32] at hsh
          have hor : nmN (lts (M0 35) q k) ||| ch * 32 ^ k = nmN (lts (M0 35) q k) + ch * 32 ^ k := by
            have := Nat.two_pow_add_eq_or_of_lt (i := 5 * k) (b := nmN (lts (M0 35) q k)) (by rw [p32]; exact hlt) ch
            rw [p32, Nat.mul_comm] at this
            rw [Nat.or_comm, ← this, Nat.add_comm]
          rw [hch, if_pos (by omega), r_bd_ok (by omega) (by omega), r_ck_ok (by omega) (by omega), r_ck_ok (by omega) (by omega), r_ck_ok (by omega) (by omega), r_ck_ok (by omega) (by omega), show min k 8 = k by omega, show (ch : Int) + 96 - 97 + 1 = (ch : Int) by omega, show (k : Int) * 5 = ((5 * k : Nat) : Int) by omega, hsh, b_lor (by omega) (by omega), hor]
          exact ⟨M', b1, b2⟩
        · rw [show min (k + 1) 8 = min k 8 by omega] at b1
          rw [if_neg (by omega), r_ck_ok (by omega) (by omega)]
          exact ⟨M', b1, b2⟩
      · have ek : run lB (M0 35) e q = q + k := by omega
        have hnd : ¬ (97 ≤ M0 35 (q + k) ∧ M0 35 (q + k) ≤ 122) := by
          have := d4 (by omega)
          rw [ek] at this
          unfold lB at this
          rwa [decide_eq_false_iff_not] at this
        rw [ek, show q + k - q = k by omega]
        have fin : ∃ M', (r_ck ((M 34 4) - (M 34 5)) (some (((nmN (lts (M0 35) q (min k 8)) : Nat) : Int), am_up M 34 6 ((M 34 4) - (M 34 5))))) = some (((nmN (lts (M0 35) q (min k 8)) : Nat) : Int), M') ∧ CS M0 (q + k) w wa M' ∧ M' 34 5 = (q : Int) ∧ M' 34 6 = ((k : Nat) : Int) := by
          rw [hC.2.2.1, h5, r_ck_ok (by omega) (by omega), show ((q + k : Nat) : Int) - (q : Int) = (k : Int) by omega]
          exact ⟨_, rfl, CS_56 hC (Or.inr rfl), by rw [am_up_nj _ _ _ _ (by decide)]; exact h5, am_up_at _ _ _ _⟩
        by_cases c1 : M0 35 (q + k) < 97
        · rw [if_pos c1, am_cb_s, if_pos rfl]
          exact fin
        · rw [if_neg c1, if_pos (by omega), am_cb_s, if_pos rfl]
          exact fin
  exact L (e - q) 0 (am_up M1 34 5 (q : Int)) none none (by omega) (by omega) (CS_56 a2 (Or.inl rfl)) (am_up_at _ _ _ _)
def nme (t : Nat → Int) (q m : Nat) : Int := if m = 0 ∨ 8 < m ∨ kd t q m ≠ -1 then 1 else 0
theorem p_readName (he : M0 34 3 = (e : Int)) (h8 : e ≤ 800) {p : Nat} {w wa : Int} {M : am_M} (hp : p ≤ e) (hC : CS M0 p w wa M) (q m : Nat) (hq : run bB (M0 35) e p = q) (hm : run lB (M0 35) e q = q + m) : ∃ M', cY 208 [rV 34] M = some (((nmN (lts (M0 35) q (min m 8)) : Nat) : Int), M') ∧ CS M0 (q + m) (rwc w (nme (M0 35) q m)) (rac w wa (nme (M0 35) q m) (q : Int)) M' ∧ M' 34 5 = (q : Int) := by
  obtain ⟨M1, a1, a2, a3, a4⟩ := p_word he h8 hp hC q hq
  have hqe : q ≤ e := by rw [← hq]; exact (run_ok bB (M0 35) e (e - p) p (by omega)).2.1
  obtain ⟨d1, d2, d3, d4⟩ := run_ok lB (M0 35) e (e - q) q (by omega)
  rw [hm] at a1 a2 a4 d2
  rw [show q + m - q = m by omega] at a1 a4
  rw [e_Reader_readName, a1, am_cb_s, a4, a3]
  unfold nme
  obtain ⟨M3, f1, f2, f3, f4⟩ := p_refuse (c := 1) (pl := (q : Int)) (by decide) a2
  by_cases c : m = 0
  · rw [if_pos (by omega), f1, am_cb_s, if_pos (Or.inl c)]
    exact ⟨M3, rfl, f2, f3.trans a3⟩
  · rw [if_neg (by omega)]
    by_cases c1 : 8 < m
    · rw [if_pos (by omega), f1, am_cb_s, if_pos (Or.inr (Or.inl c1))]
      exact ⟨M3, rfl, f2, f3.trans a3⟩
    · rw [if_neg (by omega), p_wordKind he h8 a2 q m d2 a3 a4, am_cb_s]
      by_cases c2 : kd (M0 35) q m = -1
      · rw [if_pos c2, if_neg (by rintro (h | h | h); exact c h; exact c1 h; exact h c2)]
        have e1 : rwc w 0 = w := by unfold rwc; split <;> omega
        have e2 : rac w wa 0 (q : Int) = wa := if_neg (fun h => h.2 rfl)
        rw [e1, e2]
        exact ⟨M1, rfl, a2, a3⟩
      · rw [if_neg c2, a3, f1, am_cb_s, if_pos (Or.inr (Or.inr c2))]
        exact ⟨M3, rfl, f2, f3.trans a3⟩
end
section
variable {N0 : am_M} {e : Nat} {t : Nat → Int}
theorem p_nameRead (he : N0 72 9 = (e : Int)) (h8 : e ≤ 800) (ht : ∀ i, i < e → N0 78 i = t i ∧ -128 ≤ t i ∧ t i ≤ 127) {p : Nat} {wa : Int} {N : am_M} (hp : p ≤ e) (hC : MS N0 p 0 wa N) (q m : Nat) (hq : run bB t e p = q) (hm : run lB t e q = q + m) : (nme t q m = 0 → ∃ N', cY 64 [rV 72] N = some (nmM (lts t q m), N') ∧ MS N0 (q + m) 0 wa N' ∧ N' 72 13 = (q : Int)) ∧ (nme t q m ≠ 0 → ∃ N', cY 64 [rV 72] N = some (0, N') ∧ MS N0 (q + m) (nme t q m) (q : Int) N') := by
  obtain ⟨N1, a1, a2, a3⟩ := p_peek he h8 ht hp hC
  rw [hq] at a1 a2
  have hqe : q ≤ e := by rw [← hq]; exact (run_ok bB t e (e - p) p (by omega)).2.1
  obtain ⟨d1, d2, d3, d4⟩ := run_ok lB t e (e - q) q (by omega)
  have ht2 : ∀ i, i < e → -128 ≤ t i ∧ t i ≤ 127 := fun i hi => (ht i hi).2
  have b2 : MS N0 q 0 wa (am_up N1 72 13 (q : Int)) := MS_13 a2
  have hlet := p_lettersHere he h8 ht hqe b2
  have st := e_Model_nameRead N
  rw [hC.2.2.2.1, if_pos rfl, a1, am_cb_s, a2.2.2.1, hlet, am_cb_s, p_mL, am_cb_s, b2.2.2.1] at st
  have h13 : (am_up N1 72 13 (q : Int)) 72 13 = (q : Int) := am_up_at _ _ _ _
  generalize (am_up N1 72 13 (q : Int)) = N2 at b2 st h13 hlet
  rw [hm, show q + m - q = m by omega] at st
  rw [hm] at d2 d3
  -- after a refusal
  have bad : nme t q m = 1 → ∀ N3 d1, MS N0 q 1 (q : Int) N3 → cY 64 [rV 72] N = cX 64 34 [some (rV 72), d1, some (iV (m : Int)), some (lV 0), none, some (iV 0)] [] N3 → (nme t q m = 0 → ∃ N', cY 64 [rV 72] N = some (nmM (lts t q m), N') ∧ MS N0 (q + m) 0 wa N' ∧ N' 72 13 = (q : Int)) ∧ (nme t q m ≠ 0 → ∃ N', cY 64 [rV 72] N = some (0, N') ∧ MS N0 (q + m) (nme t q m) (q : Int) N') := fun en N3 d1 h3 hs => by
    rw [en, hs]
    refine ⟨fun h => absurd h (by decide), fun _ => ⟨am_up N3 72 10 ((q + m : Nat) : Int), ?_, MS_10 h3⟩⟩
    rw [e_Model_nameRead_34, h3.2.2.2.1, h3.2.2.1, if_neg (show ¬ (1 : Int) = 0 by decide), r_ck_ok (by omega) (by omega), show (q : Int) + (m : Int) = ((q + m : Nat) : Int) by omega, ite_self]
  obtain ⟨N3, f1, f2, f3⟩ := p_errs (c := 1) (pl := (q : Int)) b2
  by_cases c : m = 0
  · have hn : ¬ lB (pkv t e q) = true := by rw [pkv_l ht2]; exact (run_gt hqe).mp (by omega)
    rw [if_neg hn, if_pos rfl, f1, am_cb_s] at st
    exact bad (if_pos (Or.inl c)) N3 _ f2 st
  · have hn : lB (pkv t e q) = true := by
      rw [pkv_l ht2]
      exact Classical.byContradiction (fun h => c (by have := (run_gt hqe).mpr h; omega))
    rw [if_pos hn, if_neg (by decide)] at st
    by_cases c1 : 8 < m
    · rw [if_pos (by omega), f1, am_cb_s] at st
      exact bad (if_pos (Or.inr (Or.inl c1))) N3 _ f2 st
    · obtain ⟨N4, g1, g2, g3⟩ := p_wordHere he h8 ht hqe b2 q (by rw [← hq]; exact run_id bB t hp)
      rw [hm, show q + m - q = m by omega] at g1
      rw [if_neg (by omega), g1, am_cb_s] at st
      by_cases c2 : kd t q m = -1
      · have en : nme t q m = 0 := if_neg (by rintro (h | h | h); exact c h; exact c1 h; exact h c2)
        rw [if_pos c2] at st
        refine ⟨fun _ => ⟨am_up N4 72 10 ((q + m : Nat) : Int), ?_, MS_10 g2, by rw [am_up_nj _ _ _ _ (by decide), g3]; exact h13⟩, fun h => absurd en h⟩
        rw [st]
        have L : ∀ (j k : Nat) (d1 : Option am_V), k + j = m → cX 64 34 [some (rV 72), d1, some (iV (m : Int)), some (lV (nmM (lts t q k))), none, some (iV (k : Int))] [] N4 = some (nmM (lts t q m), am_up N4 72 10 ((q + m : Nat) : Int)) := by
          intro j
          induction j with
          | zero =>
            intro k d1 hk
            have ek : k = m := by omega
            subst ek
            rw [e_Model_nameRead_34, if_neg (by omega), g2.2.2.1, r_ck_ok (by omega) (by omega), show (q : Int) + (k : Int) = ((q + k : Nat) : Int) by omega]
          | succ j ih =>
            intro k d1 hk
            have hd := lB_d (d3 (q + k) (by omega) (by omega))
            have es : lts t q (k + 1) = lts t q k ++ [(t (q + k) - 96).toNat] := rfl
            have hlk := lts_ok k (fun i hi => d3 (q + i) (by omega) (by omega))
            have hlt := nmN_lt (lts t q k).reverse (fun c hc => hlk c (List.mem_reverse.mp hc))
            rw [List.length_reverse, lts_len] at hlt
            have h32 : 32 ^ k ≤ 32 ^ 7 := Nat.pow_le_pow_right (by omega) (by omega)
            obtain ⟨ch, hch⟩ : ∃ ch : Nat, t (q + k) = (ch : Int) + 96 := ⟨(t (q + k) - 96).toNat, by omega⟩
            have hi := ih (k + 1) none (by omega)
            rw [es, nmM_snoc, hch, show ((ch : Int) + 96 - 96).toNat = ch by omega, nmM_N] at hi
            rw [e_Model_nameRead_34, if_pos (by omega), g2.2.2.2.1, if_pos rfl, g2.2.2.1, r_ck_ok (by omega) (by omega), r_bd_ok (by omega) (by omega), show ((q : Int) + (k : Int)).toNat = q + k by omega, g2.1 78 (by decide), (ht (q + k) (by omega)).1, hch, r_ck_ok (by omega) (by omega), r_ck_ok (by omega) (by omega), show (ch : Int) + 96 - 96 = (ch : Int) by omega, nmM_N (lts t q k)]
            generalize nmN (lts t q k).reverse = v at hi hlt
            have hsh : am_lshl (v : Int) ((5 : Nat) : Int) = ((v * 2 ^ 5 : Nat) : Int) := b_lshl (by omega) (by omega)
            have hsh : am_lshl (v : Int) 5 = ((v * 2 ^ 5 : Nat) : Int) := hsh
            have hor : v * 2 ^ 5 ||| ch = 32 * v + ch := by
              have := Nat.two_pow_add_eq_or_of_lt (i := 5) (b := ch) (by omega) v
              rw [Nat.mul_comm v, ← this]
            rw [hsh, b_lor (by omega) (by omega), hor]
            have e9 : ((32 * v + ch : Nat) : Int) = 32 * (v : Int) + (ch : Int) := by omega
            rw [e9]
            exact hi
        exact L m 0 _ (by omega)
      · have en : nme t q m = 1 := if_pos (Or.inr (Or.inr c2))
        obtain ⟨N5, k1, k2, k3⟩ := p_errs (c := 1) (pl := (q : Int)) g2
        rw [if_neg c2, g2.2.2.1, k1, am_cb_s] at st
        exact bad en N5 _ k2 st
end
-- both at once
def TX (C0 N0 : am_M) (e : Nat) : Prop := C0 34 3 = (e : Int) ∧ N0 72 9 = (e : Int) ∧ e ≤ 800 ∧ ∀ i, i < e → N0 78 i = C0 35 i ∧ -128 ≤ C0 35 i ∧ C0 35 i ≤ 127
def S2 (C0 N0 : am_M) (e p : Nat) (w wa : Int) (C N : am_M) : Prop := p ≤ e ∧ (0 ≤ w ∧ w ≤ 4) ∧ CS C0 p w wa C ∧ ∃ pm, pm ≤ e ∧ MS N0 pm w wa N ∧ (w = 0 → pm = p)
theorem rw0 (c : Int) : rwc 0 c = c := if_pos rfl
theorem rwx {w : Int} (h : w ≠ 0) (c : Int) : rwc w c = w := if_neg h
theorem ra0 {c : Int} (h : c ≠ 0) (wa pl : Int) : rac 0 wa c pl = pl := if_pos ⟨rfl, h⟩
theorem ra00 (w wa pl : Int) : rac w wa 0 pl = wa := if_neg (fun h => h.2 rfl)
theorem rax {w : Int} (h : w ≠ 0) (wa c pl : Int) : rac w wa c pl = wa := if_neg (fun k => h k.1)
section
variable {C0 N0 : am_M} {e : Nat}
theorem j_num (hT : TX C0 N0 e) (lo hi : Int) {p : Nat} {w wa : Int} {C N : am_M} (h : S2 C0 N0 e p w wa C N) : ∃ p' w' wa' vc vm C' N', cY 206 [rV 34, iV lo, iV hi] C = some (vc, C') ∧ cY 63 [rV 72, iV lo, iV hi] N = some (vm, N') ∧ S2 C0 N0 e p' w' wa' C' N' ∧ p ≤ p' ∧ (0 ≤ vc ∧ vc ≤ 99999) ∧ (vm = lo ∨ lo ≤ vm ∧ vm ≤ hi) ∧ (w' = 0 → w = 0 ∧ vc = vm ∧ lo ≤ vc ∧ vc ≤ hi) ∧ (w ≠ 0 → w' = w ∧ wa' = wa) := by
  obtain ⟨hp, hw, hC, pm, hpm, hM, h0⟩ := h
  obtain ⟨he, he2, h8, ht⟩ := hT
  obtain ⟨q, hq⟩ : ∃ q, run bB (C0 35) e p = q := ⟨_, rfl⟩
  obtain ⟨C', a1, a2⟩ := p_num he h8 lo hi hp hC q hq
  have hr := run_ok bB (C0 35) e (e - p) p (by omega)
  rw [hq] at hr
  obtain ⟨d1, d2, d3, d4⟩ := run_ok dB (C0 35) e (e - q) q (by omega)
  have hb := nvl_bd (t := C0 35) (q := q) (run dB (C0 35) e q - q) (fun i hi => d3 (q + i) (by omega) (by omega))
  have hn : nce (C0 35) e q lo hi = 0 ∨ nce (C0 35) e q lo hi = 1 ∨ nce (C0 35) e q lo hi = 2 := by
    unfold nce
    split
    · exact Or.inr (Or.inl rfl)
    · split
      · exact Or.inr (Or.inr rfl)
      · exact Or.inl rfl
  have hn4 : 0 ≤ nce (C0 35) e q lo hi ∧ nce (C0 35) e q lo hi ≤ 4 := by omega
  by_cases z : w = 0
  · subst z
    rw [h0 rfl] at hM
    rw [rw0] at a2
    obtain ⟨b1, b2⟩ := p_mnum he2 h8 ht lo hi hp hM q hq
    by_cases c : nce (C0 35) e q lo hi = 0
    · obtain ⟨N', c1, c2⟩ := b1 c
      rw [c, ra00] at a2
      have hv : lo ≤ nvl (C0 35) q (run dB (C0 35) e q - q) ∧ nvl (C0 35) q (run dB (C0 35) e q - q) ≤ hi := by
        have c := c
        unfold nce at c
        by_cases x : run dB (C0 35) e q = q
        · rw [if_pos x] at c; exact absurd c (by decide)
        · rw [if_neg x] at c
          by_cases y : 5 < run dB (C0 35) e q - q ∨ nvl (C0 35) q (run dB (C0 35) e q - q) < lo ∨ hi < nvl (C0 35) q (run dB (C0 35) e q - q)
          · rw [if_pos y] at c; exact absurd c (by decide)
          · omega
      exact ⟨_, 0, wa, _, _, C', N', a1, c1, ⟨d2, by omega, a2, _, d2, c2, fun _ => rfl⟩, by omega, ⟨hb.1, hb.2.1⟩, Or.inr hv, fun _ => ⟨rfl, rfl, hv⟩, fun h => absurd rfl h⟩
    · obtain ⟨N', p', c1, c2, c3⟩ := b2 c
      rw [ra0 c] at a2
      exact ⟨_, _, _, _, _, C', N', a1, c1, ⟨d2, hn4, a2, p', c3, c2, fun h => absurd h c⟩, by omega, ⟨hb.1, hb.2.1⟩, Or.inl rfl, fun h => absurd h c, fun h => absurd rfl h⟩
  · rw [rwx z, rax z] at a2
    exact ⟨_, w, wa, _, lo, C', N, a1, by rw [e_Model_numeral, hM.2.2.2.1, if_neg z], ⟨d2, hw, a2, pm, hpm, hM, fun h => absurd h z⟩, by omega, ⟨hb.1, hb.2.1⟩, Or.inl rfl, fun h => absurd h z, fun _ => ⟨rfl, rfl⟩⟩
theorem j_name (hT : TX C0 N0 e) {p : Nat} {w wa : Int} {C N : am_M} (h : S2 C0 N0 e p w wa C N) : ∃ p' w' wa' vc vm C' N', cY 208 [rV 34] C = some (vc, C') ∧ cY 64 [rV 72] N = some (vm, N') ∧ S2 C0 N0 e p' w' wa' C' N' ∧ p ≤ p' ∧ (w' = 0 → w = 0 ∧ (∃ l, nmOk l ∧ vc = nmC l ∧ vm = nmM l) ∧ C' 34 5 = N' 72 13) ∧ (w ≠ 0 → w' = w ∧ wa' = wa) := by
  obtain ⟨hp, hw, hC, pm, hpm, hM, h0⟩ := h
  obtain ⟨he, he2, h8, ht⟩ := hT
  obtain ⟨q, hq⟩ : ∃ q, run bB (C0 35) e p = q := ⟨_, rfl⟩
  have hr := run_ok bB (C0 35) e (e - p) p (by omega)
  rw [hq] at hr
  obtain ⟨d1, d2, d3, d4⟩ := run_ok lB (C0 35) e (e - q) q (by omega)
  obtain ⟨m, hm⟩ : ∃ m, run lB (C0 35) e q = q + m := ⟨run lB (C0 35) e q - q, by omega⟩
  obtain ⟨C', a1, a2, a3⟩ := p_readName he h8 hp hC q m hq hm
  have hn : nme (C0 35) q m = 0 ∨ nme (C0 35) q m = 1 := by
    unfold nme
    split
    · exact Or.inr rfl
    · exact Or.inl rfl
  have hn4 : 0 ≤ nme (C0 35) q m ∧ nme (C0 35) q m ≤ 4 := by omega
  rw [hm] at d2 d3
  by_cases z : w = 0
  · subst z
    rw [h0 rfl] at hM
    rw [rw0] at a2
    obtain ⟨b1, b2⟩ := p_nameRead he2 h8 ht hp hM q m hq hm
    by_cases c : nme (C0 35) q m = 0
    · obtain ⟨N', c1, c2, c3⟩ := b1 c
      rw [c, ra00] at a2
      have hmm : 1 ≤ m ∧ m ≤ 8 := by
        have c := c
        unfold nme at c
        by_cases y : m = 0 ∨ 8 < m ∨ kd (C0 35) q m ≠ -1
        · rw [if_pos y] at c; exact absurd c (by decide)
        · omega
      refine ⟨_, 0, wa, _, _, C', N', a1, c1, ⟨d2, by omega, a2, _, d2, c2, fun _ => rfl⟩, by omega, fun _ => ⟨rfl, ⟨lts (C0 35) q m, ⟨by rw [lts_len]; exact hmm.1, by rw [lts_len]; exact hmm.2, lts_ok m (fun i hi => d3 (q + i) (by omega) (by omega))⟩, by rw [nmC_N, show min m 8 = m by omega], rfl⟩, by rw [a3, c3]⟩, fun h => absurd rfl h⟩
    · obtain ⟨N', c1, c2⟩ := b2 c
      rw [ra0 c] at a2
      exact ⟨_, _, _, _, _, C', N', a1, c1, ⟨d2, hn4, a2, _, d2, c2, fun h => absurd h c⟩, by omega, fun h => absurd h c, fun h => absurd rfl h⟩
  · rw [rwx z, rax z] at a2
    exact ⟨_, w, wa, _, 0, C', N, a1, by rw [e_Model_nameRead, hM.2.2.2.1, if_neg z], ⟨d2, hw, a2, pm, hpm, hM, fun h => absurd h z⟩, by omega, fun h => absurd h z, fun _ => ⟨rfl, rfl⟩⟩
/-- a refusal at the same place in both, or in the class alone after an earlier one -/
theorem j_ref {c pl : Int} (hc : 1 ≤ c ∧ c ≤ 4) {p : Nat} {wa : Int} {C N : am_M} (h : S2 C0 N0 e p 0 wa C N) : ∃ C' N', cY 213 [rV 34, iV c, iV pl] C = some (0, C') ∧ cY 58 [rV 72, iV c, iV pl] N = some (0, N') ∧ S2 C0 N0 e p c pl C' N' := by
  obtain ⟨hp, hw, hC, pm, hpm, hM, h0⟩ := h
  obtain ⟨C', a1, a2, a3, a4⟩ := p_refuse (c := c) (pl := pl) (by omega) hC
  obtain ⟨N', b1, b2, b3⟩ := p_errs (c := c) (pl := pl) hM
  rw [rw0, ra0 (by omega)] at a2
  exact ⟨C', N', a1, b1, hp, by omega, a2, pm, hpm, b2, fun h => by omega⟩
theorem j_refx {c pl : Int} (hc : c ≠ 0) {p : Nat} {w wa : Int} (hw : w ≠ 0) {C N : am_M} (h : S2 C0 N0 e p w wa C N) : ∃ C', cY 213 [rV 34, iV c, iV pl] C = some (0, C') ∧ S2 C0 N0 e p w wa C' N := by
  obtain ⟨hp, hw', hC, pm, hpm, hM, h0⟩ := h
  obtain ⟨C', a1, a2, a3, a4⟩ := p_refuse (c := c) (pl := pl) hc hC
  rw [rwx hw, rax hw] at a2
  exact ⟨C', a1, hp, hw', a2, pm, hpm, hM, h0⟩
theorem j_field (hT : TX C0 N0 e) {n : Nat} (hn : C0 17 4 = (n : Int)) (h8 : n ≤ 8) (hn2 : N0 73 1 = (n : Int)) (hNT : nT (n : Int) (C0 21) (N0 76)) {p : Nat} {w wa : Int} {C N : am_M} (h : S2 C0 N0 e p w wa C N) (u u' : Int) (hu : w = 0 → u' = u) : ∃ p' w' wa' vc vm C' N', cY 209 [rV 34, iV u] C = some (vc, C') ∧ cY 66 [rV 72, iV u'] N = some (vm, N') ∧ S2 C0 N0 e p' w' wa' C' N' ∧ p ≤ p' ∧ (w' = 0 → w = 0 ∧ vc = vm ∧ 0 ≤ vc ∧ vc < (n : Int) ∧ vc ≠ u) ∧ (w ≠ 0 → w' = w ∧ wa' = wa) := by
  obtain ⟨p', w', wa', vc, vm, C1, N1, a1, a2, a3, a4, a5, a6⟩ := j_name hT h
  have e17 : C1 17 4 = (n : Int) := by rw [a3.2.2.1.1 17 (by decide)]; exact hn
  rw [e_Reader_readKnownField, a1, am_cb_s, p_fN_c C1 vc e17 h8, am_cb_s, a3.2.2.1.1 21 (by decide)]
  by_cases z : w' = 0
  · obtain ⟨z0, ⟨l, hl, hv1, hv2⟩, h13⟩ := a5 z
    subst z
    obtain ⟨-, -, -, pm, hpm, hM, h0⟩ := id a3
    have e73 : N1 73 1 = (n : Int) := by rw [hM.1 73 (by decide)]; exact hn2
    have ef := fdx_eq hNT hl n 0 (by omega)
    have hb := fdx_bd (C0 21) (nmC l) n 0
    rw [e_Model_fieldRead, a2, am_cb_s, hM.2.2.2.1, if_pos rfl, p_fN_m N1 vm e73 h8, am_cb_s, hM.2.2.2.1, if_pos rfl, hM.1 76 (by decide), hv1, hv2, ← ef, hu z0]
    generalize fdx (C0 21) (nmC l) n 0 = v at hb
    obtain ⟨C2, N2, b1, b2, b3⟩ := j_ref (c := 3) (pl := C1 34 5) (by omega) a3
    have hM2 : N2 72 11 = 3 := by obtain ⟨-, -, -, pm, hpm, hM, h0⟩ := b3; exact hM.2.2.2.1
    have er : ∀ d1 d2 d3, cX 66 21 [some (rV 72), d1, d2, d3, some (iV v)] [] N1 = some (0, N2) := fun d1 d2 d3 => by
      rw [e_Model_fieldRead_21, ← h13, b2, am_cb_s, hM2, if_neg (by decide)]
    by_cases c1 : v = -1
    · rw [if_pos c1, if_pos c1, b1, am_cb_s, er]
      exact ⟨p', 3, _, v, 0, C2, N2, rfl, rfl, b3, a4, fun h => absurd h (by decide), fun h => absurd z0 h⟩
    · rw [if_neg c1, if_neg c1]
      by_cases c2 : v = u
      · rw [if_pos c2, if_pos c2, b1, am_cb_s, er]
        exact ⟨p', 3, _, v, 0, C2, N2, rfl, rfl, b3, a4, fun h => absurd h (by decide), fun h => absurd z0 h⟩
      · rw [if_neg c2, if_neg c2, if_pos rfl]
        exact ⟨p', 0, wa', v, v, C1, N1, rfl, rfl, a3, a4, fun _ => ⟨z0, rfl, by omega, by omega, c2⟩, fun h => absurd z0 h⟩
  · obtain ⟨-, -, -, pm, hpm, hM, h0⟩ := id a3
    rw [e_Model_fieldRead, a2, am_cb_s, hM.2.2.2.1, if_neg z, if_neg z, if_neg z]
    obtain ⟨C2, b1, b2⟩ := j_refx (c := 3) (pl := C1 34 5) (by decide) z a3
    rw [b1, am_cb_s]
    by_cases c1 : fdx (C0 21) vc n 0 = -1
    · rw [if_pos c1]
      exact ⟨p', w', wa', _, 0, C2, N1, rfl, rfl, b2, a4, fun h => absurd h z, a6⟩
    · rw [if_neg c1]
      by_cases c2 : fdx (C0 21) vc n 0 = u
      · rw [if_pos c2]
        exact ⟨p', w', wa', _, 0, C2, N1, rfl, rfl, b2, a4, fun h => absurd h z, a6⟩
      · rw [if_neg c2]
        exact ⟨p', w', wa', _, 0, C1, N1, rfl, rfl, a3, a4, fun h => absurd h z, a6⟩
end
