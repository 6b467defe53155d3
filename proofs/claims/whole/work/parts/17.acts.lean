-- loops
theorem lp_up {α : Type} {X : Nat → α → am_M → am_R} {n : Nat} {I : Nat → am_M → Prop} (h : ∀ k, k < n → ∀ d M, I k M → ∃ d' M', X k d M = X (k + 1) d' M' ∧ I (k + 1) M') : ∀ j k, k + j = n → ∀ d M, I k M → ∃ d' M', X k d M = X n d' M' ∧ I n M' := by
  intro j
  induction j with
  | zero => intro k hk d M hI; exact ⟨d, M, by rw [← hk, Nat.add_zero], by rw [← hk]; exact hI⟩
  | succ j ih =>
    intro k hk d M hI
    obtain ⟨d1, M1, h1, h2⟩ := h k (by omega) d M hI
    obtain ⟨d2, M2, h3, h4⟩ := ih (k + 1) (by omega) d1 M1 h2
    exact ⟨d2, M2, h1.trans h3, h4⟩
theorem nI1 (k : Nat) : ((k : Int) + 1) = ((k + 1 : Nat) : Int) := rfl
-- the start
theorem n0 (x : Int) (r : Nat) (h : (r : Int) < x) (hx : x = 0) : False := by omega
set_option maxRecDepth 10000 in
theorem RI0 : RI am_M0 := by
  refine ⟨⟨by decide, by decide, by decide, by decide, by decide, by decide, fun r h => (n0 _ r h rfl).elim, fun r h => (n0 _ r h rfl).elim, ⟨fun r h => (n0 _ r h rfl).elim, fun r _ h => (n0 _ r h rfl).elim⟩, fun r h => (n0 _ r h rfl).elim, fun r h => (n0 _ r h rfl).elim, fun r h => (n0 _ r h rfl).elim⟩, ⟨rfl, rfl, rfl, rfl, rfl, by decide, by decide, fun r h => (n0 _ r h rfl).elim, fun r h => (n0 _ r h rfl).elim, fun r h => (n0 _ r h rfl).elim, fun r h => (n0 _ r h rfl).elim, fun r h => (n0 _ r h rfl).elim, fun r h => (n0 _ r h rfl).elim⟩, ⟨⟨rfl, rfl⟩, ⟨rfl, rfl⟩, ⟨rfl, rfl⟩⟩, ⟨⟨rfl, rfl⟩, ⟨rfl, rfl⟩, ⟨rfl, rfl⟩⟩, fun r h => (n0 _ r h rfl).elim, ⟨rfl, by decide, fun r h => (n0 _ r h rfl).elim⟩, ⟨rfl, rfl⟩, ⟨rfl, by decide, fun r h => (n0 _ r h rfl).elim⟩, by decide, by decide, fun j h => ?_⟩
  show am_n1 0 [0, 0, 0, 0, 0, 60, 0, 18, 6, 1] j = 0
  exact am_n1_out (by show 10 ≤ j; omega)
-- remembers
/-- the reference has laid its row by: the records move up by one if there were ten -/
def rmb (M M' : am_M) : Prop := (∀ a, a ≠ 72 → a ≠ 75 → M' a = M a) ∧ (∀ j, j ≠ 5 → M' 72 j = M 72 j) ∧ M' 72 5 = (if M 72 5 = 10 then 10 else M 72 5 + 1) ∧
  (∀ k : Nat, ((k + 1 : Nat) : Int) < M' 72 5 → snp M' k = snp M (if M 72 5 = 10 then k + 1 else k)) ∧ ∀ k : Nat, ((k + 1 : Nat) : Int) = M' 72 5 → ∀ j, j < 184 → snp M' k j = M 73 j
theorem p_remembers (M : am_M) (h0 : 0 ≤ M 72 5) (h1 : M 72 5 ≤ 10) : ∃ M', cY 81 [rV 72] M = some (0, M') ∧ rmb M M' := by
  -- the second loop
  have L2 : ∀ (M0 : am_M) (n : Nat), M0 72 5 = (n : Int) → n ≤ 9 → ∃ M', cX 81 29 [some (rV 72), some (iV 0)] [] M0 = some (0, M') ∧ (∀ a, a ≠ 72 → a ≠ 75 → M' a = M0 a) ∧ (∀ j, j ≠ 5 → M' 72 j = M0 72 j) ∧ M' 72 5 = (n : Int) + 1 ∧ (∀ i : Nat, i < 184 * n → M' 75 i = M0 75 i) ∧ ∀ j : Nat, j < 184 → M' 75 (184 * n + j) = M0 73 j := by
    intro M0 n hn hn9
    obtain ⟨-, M1, h2, i1, i2, i3⟩ := lp_up (α := Unit) (X := fun k _ M => cX 81 29 [some (rV 72), some (iV (k : Int))] [] M) (n := 184) (I := fun k M' => (∀ a, a ≠ 75 → M' a = M0 a) ∧ (∀ i : Nat, i < 184 * n → M' 75 i = M0 75 i) ∧ ∀ j : Nat, j < k → M' 75 (184 * n + j) = M0 73 j) (by
      intro k hk d M hI
      obtain ⟨i1, i2, i3⟩ := hI
      have e5 : M 72 5 = (n : Int) := by rw [i1 72 (by decide)]; exact hn
      have hh := e_Model_remembers_29 (k : Int) M
      rw [if_pos (by omega), e5, r_ck_ok (by omega) (by omega), r_ck_ok (by omega) (by omega), r_bd_ok (by omega) (by omega), r_bd_ok (by omega) (by omega), r_ck_ok (by omega) (by omega)] at hh
      refine ⟨(), _, hh, ?_⟩
      · have et : Int.toNat (184 * (n : Int) + (k : Int)) = 184 * n + k := by omega
        rw [et]
        refine ⟨fun a ha => (am_up_ne M 75 _ _ ha).trans (i1 a ha), fun i hi => ?_, fun j hj => ?_⟩
        · rw [am_up_nj M 75 _ _ (by omega)]; exact i2 i hi
        · by_cases ej : j = k
          · subst ej
            rw [am_up_at, Int.toNat_natCast, i1 73 (by decide)]
          · rw [am_up_nj M 75 _ _ (by omega)]; exact i3 j (by omega)) 184 0 rfl () M0 ⟨fun _ _ => rfl, fun _ _ => rfl, fun j hj => by omega⟩
    have e5 : M1 72 5 = (n : Int) := by rw [i1 72 (by decide)]; exact hn
    refine ⟨am_up M1 72 5 ((n : Int) + 1), ?_, fun a h7 h5 => (am_up_ne M1 72 5 _ h7).trans (i1 a h5), fun j hj => by rw [am_up_nj M1 72 5 _ hj, i1 72 (by decide)], am_up_at _ _ _ _, fun i hi => by rw [am_up_ne M1 72 5 _ (by decide)]; exact i2 i hi, fun j hj => by rw [am_up_ne M1 72 5 _ (by decide)]; exact i3 j hj⟩
    refine h2.trans ?_
    rw [e_Model_remembers_29, if_neg (by omega), e5, r_ck_ok (by omega) (by omega)]
  obtain ⟨n, hn⟩ : ∃ n : Nat, M 72 5 = (n : Int) := ⟨(M 72 5).toNat, by omega⟩
  rw [e_Model_remembers]
  by_cases h10 : M 72 5 = 10
  · rw [if_pos h10]
    obtain ⟨-, M1, h2, i1, i2, i3⟩ := lp_up (α := Unit) (X := fun k _ M => cX 81 6 [some (rV 72), some (iV (k : Int))] [] M) (n := 1656) (I := fun k M' => (∀ a, a ≠ 75 → M' a = M a) ∧ (∀ i : Nat, i < k → M' 75 i = M 75 (i + 184)) ∧ ∀ i : Nat, k ≤ i → M' 75 i = M 75 i) (by
      intro k hk d M' hI
      obtain ⟨i1, i2, i3⟩ := hI
      have hh := e_Model_remembers_6 (k : Int) M'
      rw [if_pos (by omega), r_ck_ok (by omega) (by omega), r_bd_ok (by omega) (by omega), r_bd_ok (by omega) (by omega), r_ck_ok (by omega) (by omega)] at hh
      refine ⟨(), _, hh, ?_⟩
      · have et : Int.toNat ((k : Int) + 184) = k + 184 := by omega
        rw [et, Int.toNat_natCast]
        refine ⟨fun a ha => (am_up_ne M' 75 _ _ ha).trans (i1 a ha), fun i hi => ?_, fun i hi => ?_⟩
        · by_cases ej : i = k
          · subst ej
            rw [am_up_at, i3 _ (by omega)]
          · rw [am_up_nj M' 75 _ _ ej]; exact i2 i (by omega)
        · rw [am_up_nj M' 75 _ _ (by omega)]; exact i3 i (by omega)) 1656 0 rfl () M ⟨fun _ _ => rfl, fun i hi => by omega, fun _ _ => rfl⟩
    have e5 : M1 72 5 = 10 := by rw [i1 72 (by decide)]; exact h10
    obtain ⟨M2, g1, g2, g3, g4, g5, g6⟩ := L2 (am_up M1 72 5 9) 9 (am_up_at _ _ _ _) (by omega)
    refine ⟨M2, ?_, ?_⟩
    · refine h2.trans ?_
      rw [e_Model_remembers_6, if_neg (by omega), e5, r_ck_ok (by omega) (by omega)]
      exact g1
    · refine ⟨fun a h7 h5 => by rw [g2 a h7 h5, am_up_ne M1 72 5 _ h7, i1 a h5], fun j hj => by rw [g3 j hj, am_up_nj M1 72 5 _ hj, i1 72 (by decide)], by rw [g4, if_pos h10]; rfl, fun k hk => ?_, fun k hk j hj => ?_⟩
      · rw [g4] at hk
        rw [if_pos h10]
        funext j
        unfold snp
        by_cases hj : j < 184
        · rw [if_pos hj, if_pos hj, g5 _ (by omega), am_up_ne M1 72 5 _ (by decide), i2 _ (by omega)]
          congr 1
          omega
        · rw [if_neg hj, if_neg hj]
      · rw [g4] at hk
        have ek : k = 9 := by omega
        subst ek
        unfold snp
        rw [if_pos hj, g6 j hj, am_up_ne M1 72 5 _ (by decide), i1 73 (by decide)]
  · rw [if_neg h10]
    obtain ⟨M2, g1, g2, g3, g4, g5, g6⟩ := L2 M n hn (by omega)
    refine ⟨M2, g1, g2, g3, by rw [g4, if_neg h10, hn], fun k hk => ?_, fun k hk j hj => ?_⟩
    · rw [g4] at hk
      rw [if_neg h10]
      funext j
      unfold snp
      by_cases hj : j < 184
      · rw [if_pos hj, if_pos hj, g5 _ (by omega)]
      · rw [if_neg hj, if_neg hj]
    · rw [g4] at hk
      have ek : k = n := by omega
      subst ek
      unfold snp
      rw [if_pos hj, g6 j hj]
-- keep
/-- the class has laid an act by -/
def kpt (M M' : am_M) (kd tg bf : Int) : Prop := (∀ a, a ≠ 36 → a ≠ 37 → a ≠ 38 → a ≠ 39 → M' a = M a) ∧ M' 36 3 = (if M 36 3 = 10 then 10 else M 36 3 + 1) ∧
  (∀ k : Nat, ((k + 1 : Nat) : Int) < M' 36 3 → M' 37 k = M 37 (if M 36 3 = 10 then k + 1 else k) ∧ M' 38 k = M 38 (if M 36 3 = 10 then k + 1 else k) ∧ M' 39 k = M 39 (if M 36 3 = 10 then k + 1 else k)) ∧
  ∀ k : Nat, ((k + 1 : Nat) : Int) = M' 36 3 → M' 37 k = kd ∧ M' 38 k = tg ∧ M' 39 k = bf
theorem cpy_in (M : am_M) {a : Nat} {k : Nat} (h : k < 9) : am_cpy M a 1 a 0 9 a k = M a (k + 1) := by
  have e : am_cpy M a 1 a 0 9 a k = M a (1 + (k - 0)) := if_pos ⟨rfl, by omega, by omega⟩
  rw [e]
  congr 1
  omega
theorem p_keep (M : am_M) (kd tg bf : Int) (h0 : 0 ≤ M 36 3) (h1 : M 36 3 ≤ 10) : ∃ M', cY 171 [rV 36, iV kd, iV tg, iV bf] M = some (0, M') ∧ kpt M M' kd tg bf := by
  have L : ∀ (M0 : am_M) (n : Nat), M0 36 3 = (n : Int) → n ≤ 9 → ∃ M', cX 171 16 [some (rV 36), some (iV kd), some (iV tg), some (iV bf)] [] M0 = some (0, M') ∧ (∀ a, a ≠ 36 → a ≠ 37 → a ≠ 38 → a ≠ 39 → M' a = M0 a) ∧ M' 36 3 = (n : Int) + 1 ∧ (∀ k : Nat, k < n → M' 37 k = M0 37 k ∧ M' 38 k = M0 38 k ∧ M' 39 k = M0 39 k) ∧ M' 37 n = kd ∧ M' 38 n = tg ∧ M' 39 n = bf := by
    intro M0 n hn h9
    have hh := e_Acts_keep_16 kd tg bf M0
    rw [hn, r_bd_ok (by omega) (by omega), r_bd_ok (by omega) (by omega), r_bd_ok (by omega) (by omega), r_ck_ok (by omega) (by omega)] at hh
    refine ⟨_, hh, fun a h6 h7 h8 h9 => by rw [am_up_ne _ 36 3 _ h6, am_up_ne _ 39 _ _ h9, am_up_ne _ 38 _ _ h8, am_up_ne _ 37 _ _ h7], am_up_at _ _ _ _, fun k hk => ?_, ?_⟩
    · rw [Int.toNat_natCast]
      simp only [up_ap]
      refine ⟨?_, ?_, ?_⟩ <;> simp <;> omega
    · rw [Int.toNat_natCast]
      simp only [up_ap]
      simp
  obtain ⟨n, hn⟩ : ∃ n : Nat, M 36 3 = (n : Int) := ⟨(M 36 3).toNat, by omega⟩
  rw [e_Acts_keep]
  by_cases h10 : M 36 3 = 10
  · rw [if_neg (by omega), e_Acts_dropOldest_37, am_cb_s, e_Acts_dropOldest_38, am_cb_s, e_Acts_dropOldest_39, am_cb_s]
    obtain ⟨M', g1, g2, g3, g4, g5, g6, g7⟩ := L (am_up (am_cpy (am_cpy (am_cpy M 37 1 37 0 9) 38 1 38 0 9) 39 1 39 0 9) 36 3 9) 9 (am_up_at _ _ _ _) (by omega)
    refine ⟨M', g1, fun a h6 h7 h8 h9 => by rw [g2 a h6 h7 h8 h9, am_up_ne _ 36 3 _ h6, am_cpy_ne _ _ _ _ _ _ h9, am_cpy_ne _ _ _ _ _ _ h8, am_cpy_ne _ _ _ _ _ _ h7], by rw [g3, if_pos h10]; rfl, fun k hk => ?_, fun k hk => ?_⟩
    · rw [g3] at hk
      obtain ⟨q1, q2, q3⟩ := g4 k (by omega)
      rw [if_pos h10, q1, q2, q3, am_up_ne _ 36 3 _ (show 37 ≠ 36 by decide), am_up_ne _ 36 3 _ (show 38 ≠ 36 by decide), am_up_ne _ 36 3 _ (show 39 ≠ 36 by decide)]
      refine ⟨?_, ?_, ?_⟩
      · rw [am_cpy_ne _ 39 1 39 0 9 (show 37 ≠ 39 by decide), am_cpy_ne _ 38 1 38 0 9 (show 37 ≠ 38 by decide), cpy_in M (by omega)]
      · rw [am_cpy_ne _ 39 1 39 0 9 (show 38 ≠ 39 by decide), cpy_in _ (by omega), am_cpy_ne _ 37 1 37 0 9 (show 38 ≠ 37 by decide)]
      · rw [cpy_in _ (by omega), am_cpy_ne _ 38 1 38 0 9 (show 39 ≠ 38 by decide), am_cpy_ne _ 37 1 37 0 9 (show 39 ≠ 37 by decide)]
    · rw [g3] at hk
      have ek : k = 9 := by omega
      subst ek
      exact ⟨g5, g6, g7⟩
  · rw [if_pos (by omega)]
    obtain ⟨M', g1, g2, g3, g4, g5, g6, g7⟩ := L M n hn (by omega)
    refine ⟨M', g1, g2, by rw [g3, if_neg h10, hn], fun k hk => ?_, fun k hk => ?_⟩
    · rw [g3] at hk
      rw [if_neg h10]
      exact g4 k (by omega)
    · rw [g3] at hk
      have ek : k = n := by omega
      subst ek
      exact ⟨g5, g6, g7⟩
/-- an act laid by on both sides: the records hold -/
theorem aT_push {M M' : am_M} {kd tg bf : Int} (ha : aT M) (hv : vT (M 73)) (hz : ∀ j : Nat, 184 ≤ j → M 73 j = 0)
    (k1 : M' 36 3 = (if M 36 3 = 10 then 10 else M 36 3 + 1)) (k2 : ∀ k : Nat, ((k + 1 : Nat) : Int) < M' 36 3 → M' 37 k = M 37 (if M 36 3 = 10 then k + 1 else k) ∧ M' 38 k = M 38 (if M 36 3 = 10 then k + 1 else k) ∧ M' 39 k = M 39 (if M 36 3 = 10 then k + 1 else k)) (k3 : ∀ k : Nat, ((k + 1 : Nat) : Int) = M' 36 3 → M' 37 k = kd ∧ M' 38 k = tg ∧ M' 39 k = bf)
    (m1 : M' 72 5 = (if M 72 5 = 10 then 10 else M 72 5 + 1)) (m2 : ∀ k : Nat, ((k + 1 : Nat) : Int) < M' 72 5 → snp M' k = snp M (if M 72 5 = 10 then k + 1 else k)) (m3 : ∀ k : Nat, ((k + 1 : Nat) : Int) = M' 72 5 → ∀ j, j < 184 → snp M' k j = M 73 j)
    (hok : acOk kd tg bf (M' 73)) (hrl : Rl (M 73) (bk kd tg bf (M' 73))) : aT M' := by
  obtain ⟨a1, a2, a3⟩ := ha
  have em : M' 36 3 = M' 72 5 := by rw [k1, m1, a1]
  have hs : ∀ k : Nat, ((k + 1 : Nat) : Int) = M' 72 5 → snp M' k = M 73 := fun k hk => by
    funext j
    by_cases hj : j < 184
    · exact m3 k hk j hj
    · rw [hz j (by omega)]; unfold snp; rw [if_neg hj]
  refine ⟨em, by rw [k1]; split <;> omega, fun k hk => ?_⟩
  by_cases hl : ((k + 1 : Nat) : Int) = M' 36 3
  · obtain ⟨q1, q2, q3⟩ := k3 k hl
    have eb : beh M' (M' 36 3).toNat k = M' 73 := by unfold beh; rw [if_pos (by omega)]
    rw [q1, q2, q3, eb, hs k (by rw [← em]; exact hl)]
    exact ⟨hv, hok, hrl⟩
  · have hk2 : ((k + 1 : Nat) : Int) < M' 36 3 := by omega
    obtain ⟨q1, q2, q3⟩ := k2 k hk2
    have eb : beh M' (M' 36 3).toNat k = snp M' (k + 1) := by unfold beh; rw [if_neg (by omega)]
    rw [q1, q2, q3, eb, m2 k (by rw [← em]; exact hk2), ← a1]
    have en : snp M' (k + 1) = beh M (M 36 3).toNat (if M 36 3 = 10 then k + 1 else k) := by
      by_cases hn : ((k + 1 + 1 : Nat) : Int) = M' 72 5
      · rw [hs _ hn]
        unfold beh
        rw [if_pos]
        rw [m1, ← a1] at hn
        split <;> rename_i h <;> simp only [h, if_true, if_false] at hn <;> omega
      · rw [m2 (k + 1) (by omega), ← a1]
        unfold beh
        rw [m1, ← a1] at hn
        rw [k1] at hk2
        split
        · rename_i h
          rw [if_pos h] at hn hk2
          rw [if_neg (by omega)]
        · rename_i h
          rw [if_neg h] at hn hk2
          rw [if_neg (by omega)]
    rw [en]
    refine a3 _ ?_
    rw [k1] at hk2
    split
    · rename_i h; rw [if_pos h] at hk2; omega
    · rename_i h; rw [if_neg h] at hk2; omega
