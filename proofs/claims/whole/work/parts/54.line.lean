-- one line
theorem DR_eq {C N C' N' : am_M} (hc : ∀ a, a ≠ 34 → C' a = C a) (hn : ∀ a, a ≠ 72 → N' a = N a) (h : DR C N) : DR C' N' := by
  obtain ⟨h1, h2, h3, h4, h5⟩ := h
  have e73 := hn 73 (by decide)
  exact ⟨by rw [e73]; exact h1, by rw [e73]; exact cT_eq (fun a _ _ => hc a (by omega)) h2, kT_eq (fun a _ _ => hc a (by omega)) h3, by rw [e73, hn 76 (by decide), hc 21 (by decide)]; exact h4, by rw [e73]; exact h5⟩
def PF (C0 N0 C N : am_M) : Prop :=
  (∀ a, a < 17 ∨ 34 < a → C a = C0 a) ∧ (∀ j, j ≠ 4 → j ≠ 5 → j ≠ 6 → j ≠ 7 → j ≠ 8 → C 34 j = C0 34 j) ∧
  (∀ a, a ≠ 72 → a ≠ 73 → a ≠ 76 → N a = N0 a) ∧ (∀ j, j ≠ 10 → j ≠ 11 → j ≠ 12 → j ≠ 13 → N 72 j = N0 72 j) ∧ (∀ j, 184 ≤ j → N 73 j = N0 73 j) ∧
  GC C ∧ (0 ≤ C 34 7 ∧ C 34 7 ≤ 4) ∧ N 72 11 = C 34 7 ∧ N 72 12 = C 34 8 ∧ (C 34 7 = 0 → DR C N)
def PL (C0 N0 : am_M) (e p : Nat) (C N : am_M) : Prop :=
  PF C0 N0 C N ∧ (∃ pc : Nat, C 34 4 = (pc : Int) ∧ pc ≤ e) ∧ (C 34 7 = 0 → ∃ p' : Nat, p < p' ∧ p' ≤ e ∧ C 34 4 = (p' : Int) ∧ N 72 10 = (p' : Int))
theorem PF_of {C0 N0 C1 N1 C N : am_M} {pc pm : Nat} {w wa : Int} (fc : FC C0 C1) (fn : FN N0 N1) (g : GC C1) (hC : CS C1 pc w wa C) (hN : MS N1 pm w wa N) (hw : 0 ≤ w ∧ w ≤ 4) (h0 : w = 0 → DR C1 N1) : PF C0 N0 C N := by
  refine ⟨fun a ha => by rw [hC.1 a (by omega)]; exact fc a (by omega), fun j x1 x2 x3 x4 x5 => by rw [hC.2.1 j x1 x2 x3 x4 x5, fc 34 (by omega)], fun a x1 x2 x3 => by rw [hN.1 a x1]; exact fn.1 a x2 x3, fun j x1 x2 x3 x4 => by rw [hN.2.1 j x1 x2 x3 x4, fn.1 72 (by decide) (by decide)], fun j hj => by rw [hN.1 73 (by decide)]; exact fn.2 j hj, ⟨kT_eq (fun a _ _ => hC.1 a (by omega)) g.1, by rw [hC.1 18 (by decide)]; exact g.2.1, by rw [hC.1 19 (by decide)]; exact g.2.2⟩, by rw [hC.2.2.2.1]; exact hw, by rw [hN.2.2.2.1, hC.2.2.2.1], by rw [hN.2.2.2.2, hC.2.2.2.2], fun z => ?_⟩
  rw [hC.2.2.2.1] at z
  exact DR_eq hC.1 hN.1 (h0 z)
theorem PF_tr {C0 N0 C1 N1 C N : am_M} (h1 : PF C0 N0 C1 N1) (h2 : PF C1 N1 C N) : PF C0 N0 C N := by
  obtain ⟨a1, a2, a3, a4, a5, -⟩ := h1
  obtain ⟨b1, b2, b3, b4, b5, b6⟩ := h2
  exact ⟨fun a ha => (b1 a ha).trans (a1 a ha), fun j x1 x2 x3 x4 x5 => (b2 j x1 x2 x3 x4 x5).trans (a2 j x1 x2 x3 x4 x5), fun a x1 x2 x3 => (b3 a x1 x2 x3).trans (a3 a x1 x2 x3), fun j x1 x2 x3 x4 => (b4 j x1 x2 x3 x4).trans (a4 j x1 x2 x3 x4), fun j hj => (b5 j hj).trans (a5 j hj), b6⟩
theorem PL_of {C0 N0 C1 N1 C N : am_M} {e p pc pm : Nat} {w wa : Int} (fc : FC C0 C1) (fn : FN N0 N1) (g : GC C1) (hC : CS C1 pc w wa C) (hN : MS N1 pm w wa N) (hpc : pc ≤ e) (hw : 0 ≤ w ∧ w ≤ 4) (h0 : w = 0 → DR C1 N1 ∧ pm = pc ∧ p < pc) : PL C0 N0 e p C N := by
  refine ⟨PF_of fc fn g hC hN hw (fun z => (h0 z).1), ⟨pc, hC.2.2.1, hpc⟩, fun z => ?_⟩
  rw [hC.2.2.2.1] at z
  obtain ⟨a1, a2, a3⟩ := h0 z
  exact ⟨pc, a3, hpc, hC.2.2.1, by rw [hN.2.2.1, a2]⟩
noncomputable def Eend (M4 : am_M) : Option (Int × am_M) := if (M4 72 11) = 0 then (am_cb (cY 57 [rV 72] M4) (fun v5 M6 => if v5 = 59 then (r_ck ((M6 72 10) + 1) (some (0, am_up M6 72 10 ((M6 72 10) + 1)))) else (am_cb (cY 58 [rV 72, iV 1, iV (M6 72 10)] M6) (fun _ M8 => r_ck ((M8 72 10) + 1) (some (0, am_up M8 72 10 ((M8 72 10) + 1))))))) else (r_ck ((M4 72 10) + 1) (some (0, am_up M4 72 10 ((M4 72 10) + 1))))
theorem l_end {C1 N1 C N : am_M} {e p : Nat} {w wa : Int} (hT : TX C1 N1 e) (h : S2 C1 N1 e p w wa C N) : ∃ C' N' pc pm w' wa', cX 196 26 [some (rV 34)] [] C = some (0, C') ∧ Eend N = some (0, N') ∧ CS C1 pc w' wa' C' ∧ MS N1 pm w' wa' N' ∧ pc ≤ e ∧ (0 ≤ w' ∧ w' ≤ 4) ∧ (w' = 0 → w = 0 ∧ pm = pc ∧ p < pc) ∧ (w ≠ 0 → w' = w ∧ wa' = wa) := by
  obtain ⟨hp, hw, hC, pm, hpm, hM, h0⟩ := h
  obtain ⟨he, he2, h8, ht⟩ := hT
  obtain ⟨q, hq⟩ : ∃ q, run bB (C1 35) e p = q := ⟨_, rfl⟩
  have hr := run_ok bB (C1 35) e (e - p) p (by omega)
  obtain ⟨C2, a1, a2, -, -⟩ := p_skipBlanks he h8 hp hC
  rw [hq] at hr a2
  have e3 : C2 34 3 = (e : Int) := by rw [a2.2.1 3 (by decide) (by decide) (by decide) (by decide) (by decide)]; exact he
  have ht2 : ∀ i, i < e → -128 ≤ C1 35 i ∧ C1 35 i ≤ 127 := fun i hi => (ht i hi).2
  have cls : (q < e ∧ C1 35 q = 59 → cX 196 26 [some (rV 34)] [] C = some (0, am_up C2 34 4 ((q + 1 : Nat) : Int))) ∧ (¬ (q < e ∧ C1 35 q = 59) → ∃ C3, cX 196 26 [some (rV 34)] [] C = some (0, C3) ∧ CS C1 q (rwc w 1) (rac w wa 1 (q : Int)) C3) := by
    rw [e_Reader_readLine_26, e_Reader_readLineEnd, a1, am_cb_s, a2.2.2.1, e3]
    obtain ⟨C3, f1, f2, f3, f4⟩ := p_refuse (c := 1) (pl := (q : Int)) (by decide) a2
    refine ⟨fun hy => ?_, fun hy => ?_⟩
    · rw [if_pos (by omega), r_bd_ok (by omega) (by omega), Int.toNat_natCast, a2.1 35 (by decide), if_pos hy.2, r_ck_ok (by omega) (by omega), am_cb_s, show (q : Int) + 1 = ((q + 1 : Nat) : Int) by omega]
    · by_cases c : q < e
      · rw [if_pos (by omega), r_bd_ok (by omega) (by omega), Int.toNat_natCast, a2.1 35 (by decide), if_neg (fun h => hy ⟨c, h⟩), f1, am_cb_s, am_cb_s]
        exact ⟨C3, rfl, f2⟩
      · rw [if_neg (by omega), f1, am_cb_s, am_cb_s]
        exact ⟨C3, rfl, f2⟩
  unfold Eend
  rw [hM.2.2.2.1]
  by_cases z : w = 0
  · subst z
    rw [h0 rfl] at hM
    obtain ⟨N2, b1, b2, b3⟩ := p_peek he2 h8 ht hp hM
    rw [hq] at b1 b2
    rw [if_pos rfl, b1, am_cb_s, b2.2.2.1]
    by_cases c : q < e ∧ C1 35 q = 59
    · rw [if_pos ((pkv_x ht2).1.mpr c), r_ck_ok (by omega) (by omega), show (q : Int) + 1 = ((q + 1 : Nat) : Int) by omega]
      exact ⟨_, _, q + 1, q + 1, 0, wa, cls.1 c, rfl, CS_4 a2, MS_10 b2, by omega, by omega, fun _ => ⟨rfl, rfl, by omega⟩, fun h => absurd rfl h⟩
    · obtain ⟨C3, g1, g2⟩ := cls.2 c
      rw [rw0, ra0 (by decide)] at g2
      obtain ⟨N3, f1, f2, f3⟩ := p_errs (c := 1) (pl := (q : Int)) b2
      rw [if_neg (fun h => c ((pkv_x ht2).1.mp h)), f1, am_cb_s, f2.2.2.1, r_ck_ok (by omega) (by omega), show (q : Int) + 1 = ((q + 1 : Nat) : Int) by omega]
      exact ⟨C3, _, q, q + 1, 1, (q : Int), g1, rfl, g2, MS_10 f2, by omega, by omega, fun h => absurd h (by decide), fun h => absurd rfl h⟩
  · rw [if_neg z, hM.2.2.1, r_ck_ok (by omega) (by omega), show (pm : Int) + 1 = ((pm + 1 : Nat) : Int) by omega]
    by_cases c : q < e ∧ C1 35 q = 59
    · exact ⟨_, _, q + 1, pm + 1, w, wa, cls.1 c, rfl, CS_4 a2, MS_10 hM, by omega, hw, fun h => absurd h z, fun _ => ⟨rfl, rfl⟩⟩
    · obtain ⟨C3, g1, g2⟩ := cls.2 c
      rw [rwx z, rax z] at g2
      exact ⟨C3, _, q, pm + 1, w, wa, g1, rfl, g2, MS_10 hM, by omega, hw, fun h => absurd h z, fun _ => ⟨rfl, rfl⟩⟩
theorem l_fin {C0 N0 C N : am_M} {e p p1 : Nat} {w0 wa0 : Int} (hp : p ≤ p1) (h : T2 C0 N0 e p1 w0 wa0 C N) : ∃ C' N', cX 196 26 [some (rV 34)] [] C = some (0, C') ∧ Eend N = some (0, N') ∧ PL C0 N0 e p C' N' := by
  obtain ⟨C1, N1, p', w, wa, hT, hS, hpp, fc, fn, g, hd, -⟩ := h
  obtain ⟨C', N', pc, pm, w', wa', a1, a2, a3, a4, a5, a6, a7, a8⟩ := l_end hT hS
  exact ⟨C', N', a1, a2, PL_of fc fn g a3 a4 a5 a6 (fun z => by obtain ⟨b1, b2, b3⟩ := a7 z; exact ⟨hd b1, b2, by omega⟩)⟩
theorem l_finx {C0 N0 C N N4 : am_M} {e p p1 pm : Nat} {w0 wa0 : Int} (hw0 : w0 ≠ 0) (h : T2 C0 N0 e p1 w0 wa0 C N) (hM : MS N0 pm w0 wa0 N4) : ∃ C', cX 196 26 [some (rV 34)] [] C = some (0, C') ∧ PL C0 N0 e p C' N4 := by
  obtain ⟨C1, N1, p', w, wa, hT, hS, hpp, fc, fn, g, hd, hx⟩ := h
  obtain ⟨x1, x2⟩ := hx hw0
  subst x1 x2
  obtain ⟨C', N', pc, pm', w', wa', a1, a2, a3, a4, a5, a6, a7, a8⟩ := l_end hT hS
  obtain ⟨y1, y2⟩ := a8 hw0
  subst y1 y2
  exact ⟨C', a1, PL_of fc (FN_rf N0) g a3 hM a5 a6 (fun z => absurd z hw0)⟩
theorem p_manyOf (k : Int) (M : am_M) : cY 67 [iV k] M = some (if k = 0 then 0 else if k = 1 then 1 else if k = 8 then 2 else if k = 9 then 3 else if 9 < k then 4 else -1, M) := by
  rw [e_Model_manyOf]
  by_cases c0 : k = 0
  · rw [if_pos c0, if_pos c0]
  · rw [if_neg c0, if_neg c0]
    by_cases c1 : k = 1
    · rw [if_pos c1, if_pos c1]
    · rw [if_neg c1, if_neg c1]
      by_cases c2 : k = 8
      · rw [if_pos c2, if_pos c2]
      · rw [if_neg c2, if_neg c2]
        by_cases c3 : k = 9
        · rw [if_pos c3, if_pos c3]
        · rw [if_neg c3, if_neg c3]
          by_cases c4 : 9 < k
          · rw [if_pos c4, if_pos c4]
          · rw [if_neg c4, if_neg c4]
theorem l_line {C0 N0 C N : am_M} {e p : Nat} {wa : Int} (hT : TX C0 N0 e) (hD : DR C0 N0) (h : S2 C0 N0 e p 0 wa C N) : ∃ C' N', cY 196 [rV 34] C = some (0, C') ∧ cY 69 [rV 72] N = some (0, N') ∧ PL C0 N0 e p C' N' := by
  obtain ⟨hp, hw, hC, pm, hpm, hM, h0⟩ := h
  obtain ⟨he, he2, h8, ht⟩ := id hT
  rw [h0 rfl] at hM
  obtain ⟨q, hq⟩ : ∃ q, run bB (C0 35) e p = q := ⟨_, rfl⟩
  have hr := run_ok bB (C0 35) e (e - p) p (by omega)
  rw [hq] at hr
  obtain ⟨m, hm⟩ : ∃ m, run lB (C0 35) e q = q + m := ⟨run lB (C0 35) e q - q, by have := (run_ok lB (C0 35) e (e - q) q (by omega)).1; omega⟩
  have hqm : q + m ≤ e := by rw [← hm]; exact (run_ok lB (C0 35) e (e - q) q (by omega)).2.1
  obtain ⟨C1, a1, a2, a3, a4⟩ := p_word he h8 hp hC q hq
  obtain ⟨N1, b1, b2, b3⟩ := p_wordHere he2 h8 ht hp hM q hq
  rw [hm] at a2 a4 b1
  rw [show q + m - q = m by omega] at a4 b1
  have hK := p_wordKind he h8 a2 q m hqm a3 a4
  have hkb := fkd_bd (C0 35) q m 11 0
  obtain ⟨k, hk⟩ : ∃ k, kd (C0 35) q m = k := ⟨_, rfl⟩
  have hkb : -1 ≤ k ∧ k < 11 := by rw [← hk]; exact ⟨hkb.1, by have := hkb.2; unfold kd; omega⟩
  rw [hk] at b1 hK
  have hlet := p_lettersHere he2 h8 ht (by omega) b2
  rw [hm, show q + m - q = m by omega] at hlet
  have hN2 : MS N0 (q + m) 0 wa (am_up N1 72 10 ((q + m : Nat) : Int)) := MS_10 b2
  have g37 : ∀ d2, cX 69 37 [some (rV 72), some (iV k), d2] [] N1 = am_cb (cY 70 [rV 72, iV k] (am_up N1 72 10 ((q + m : Nat) : Int))) (fun _ M4 => Eend M4) := fun d2 => by
    rw [e_Model_lineRead_37, b2.2.2.2.1, if_pos rfl, hlet, am_cb_s, b2.2.2.1, r_ck_ok (by omega) (by omega), show (q : Int) + (m : Int) = ((q + m : Nat) : Int) by omega]
    rfl
  have x37 : ∀ c N2 d2, c ≠ 0 → MS N0 q c (q : Int) N2 → cX 69 37 [some (rV 72), some (iV k), d2] [] N2 = some (0, N2) := fun c N2 d2 hc h2 => by rw [e_Model_lineRead_37, h2.2.2.2.1, if_neg hc]
  generalize am_up N1 72 10 ((q + m : Nat) : Int) = N2 at hN2 g37
  have hS : S2 C0 N0 e (q + m) 0 wa C1 N2 := ⟨hqm, by omega, a2, q + m, hqm, hN2, fun _ => rfl⟩
  obtain ⟨Ce, Ne, f1, f2, f3⟩ := j_ref (c := 1) (pl := (q : Int)) (by omega) hS
  obtain ⟨Nq, r1, r2, -⟩ := p_errs (c := 1) (pl := (q : Int)) b2
  obtain ⟨C4, F1, F2, F3, F4⟩ := p_refuse (c := 4) (pl := (q : Int)) (by decide) a2
  rw [rw0, ra0 (by decide)] at F2
  obtain ⟨N4, R1, R2, -⟩ := p_errs (c := 4) (pl := (q : Int)) b2
  have hS4 : S2 C0 N0 e (q + m) 4 (q : Int) C4 N4 := ⟨hqm, by omega, F2, q, by omega, R2, fun h => absurd h (by decide)⟩
  have n73 : N1 73 = N0 73 := b2.1 73 (by decide)
  have m73 : N2 73 = N0 73 := hN2.1 73 (by decide)
  obtain ⟨v0, v1, v2, v3, v4, -⟩ := hD.1
  obtain ⟨t0, t1, t2, t3, t4, -⟩ := hD.2.1
  have t2 : C0 28 3 = N0 73 2 := t2
  have t3 : C0 30 3 = N0 73 3 := t3
  have t4 : C0 32 3 = N0 73 4 := t4
  obtain ⟨⟨y1, -⟩, ⟨y2, -⟩, ⟨y3, -⟩⟩ := hD.2.2.1
  have y1 : C0 28 0 = 12 := y1
  have y2 : C0 30 0 = 12 := y2
  have y3 : C0 32 0 = 6 := y3
  rw [e_Reader_readLine, a1, am_cb_s, hK, am_cb_s, e_Model_lineRead, b1, am_cb_s]
  by_cases c : k = -1
  · have hs3 : cY 203 [rV 34] C1 = some (0, Ce) := by rw [e_Reader_readSetting, hK, am_cb_s, if_neg (by omega), if_neg (by omega), if_neg (by omega), if_neg (by omega), if_neg (by omega), a3, f1, am_cb_s, e_Reader_readSetting_76]
    have hT2 : T2 C0 N0 e (q + m) 1 (q : Int) Ce Ne := ⟨C0, N0, q + m, 1, (q : Int), hT, f3, Nat.le_refl _, FC_rf C0, FN_rf N0, DR_G hD, fun h => absurd h (by decide), fun _ => ⟨rfl, rfl⟩⟩
    obtain ⟨C', g1, g2⟩ := l_finx (p := p) (by decide) hT2 r2
    rw [if_pos c, b2.2.2.1, r1, am_cb_s, e_Model_lineRead_11, if_pos c, x37 1 Nq _ (by decide) r2, ite_self]
    iterate 11 rw [if_neg (by omega)]
    rw [hs3, am_cb_s, g1]
    exact ⟨C', Nq, rfl, rfl, g2⟩
  · rw [if_neg c, e_Model_lineRead_11, if_neg c, p_manyOf, am_cb_s, b2.2.2.2.1, if_pos rfl, n73]
    -- what every kind ends with
    have done : ∀ C3 N3, T2 C0 N0 e (q + m) 0 wa C3 N3 → cY 70 [rV 72, iV k] N2 = some (0, N3) → ∀ d2, ∃ C' N', cX 196 26 [some (rV 34)] [] C3 = some (0, C') ∧ cX 69 37 [some (rV 72), some (iV k), d2] [] N1 = some (0, N') ∧ PL C0 N0 e p C' N' := fun C3 N3 h3 h7 d2 => by
      obtain ⟨C', N', z1, z2, z3⟩ := l_fin (p := p) (by omega) h3
      exact ⟨C', N', z1, by rw [g37, h7, am_cb_s, z2], z3⟩
    by_cases k0 : k = 0
    · subst k0
      rw [if_pos rfl, if_pos rfl, if_neg (by decide), r_bd_ok (by omega) (by omega), e_Model_mostOf, if_pos rfl, am_cb_s, e_Reader_readReach, S2_c hS (show 17 ≠ 34 by decide), t0]
      show ∃ C' N', _ ∧ (if N0 73 0 = 10 then _ else _) = _ ∧ _
      by_cases f : N0 73 0 = 10
      · rw [if_pos f, b2.2.2.1, R1, am_cb_s, x37 4 N4 _ (by decide) R2, if_neg (by omega), a3, F1, am_cb_s]
        obtain ⟨C5, N5, s1, s2, s3⟩ := l_reach hT hD hS4 12 (by omega) (fun h => absurd h (by decide)) none none none
        obtain ⟨C', g1, g2⟩ := l_finx (p := p) (by decide) s3 R2
        rw [s1, am_cb_s, g1]
        exact ⟨C', N4, rfl, rfl, g2⟩
      · obtain ⟨r, hr0⟩ : ∃ r : Nat, N0 73 0 = (r : Int) := ⟨(N0 73 0).toNat, by omega⟩
        obtain ⟨C5, N5, s1, s2, s3⟩ := l_reach hT hD hS (12 + 3 * r) (by omega) (fun _ => ⟨r, hr0, by omega, rfl⟩) none none none
        rw [if_neg f, if_pos (by omega), s1, am_cb_s]
        refine done C5 N5 s3 ?_ _
        rw [e_Model_behind, if_pos rfl, m73, hr0, r_ck_ok (by omega) (by omega), r_ck_ok (by omega) (by omega), show 12 + 3 * (r : Int) = ((12 + 3 * r : Nat) : Int) by omega, s2, am_cb_s]
    · rw [if_neg k0, if_neg k0]
      by_cases k1 : k = 1
      · subst k1
        rw [if_pos rfl, if_pos rfl, if_neg (by decide), r_bd_ok (by omega) (by omega), e_Model_mostOf, if_neg (by decide), if_pos rfl, am_cb_s, e_Reader_readField, S2_c hS (show 17 ≠ 34 by decide), t1]
        show ∃ C' N', _ ∧ (if N0 73 1 = 8 then _ else _) = _ ∧ _
        by_cases f : N0 73 1 = 8
        · rw [if_pos f, b2.2.2.1, R1, am_cb_s, x37 4 N4 _ (by decide) R2, if_neg (by omega), a3, F1, am_cb_s]
          obtain ⟨C5, N5, s1, s2, s3⟩ := l_field hT hD hS4 (fun h => absurd h (by decide)) none none none none
          obtain ⟨C', g1, g2⟩ := l_finx (p := p) (by decide) s3 R2
          rw [s1, am_cb_s, g1]
          exact ⟨C', N4, rfl, rfl, g2⟩
        · obtain ⟨C5, N5, s1, s2, s3⟩ := l_field hT hD hS (fun _ => by omega) none none none none
          rw [if_neg f, if_pos (by omega), s1, am_cb_s]
          refine done C5 N5 s3 ?_ _
          rw [e_Model_behind, if_neg (by decide), if_pos rfl, s2, am_cb_s]
      · rw [if_neg k1, if_neg k1]
        by_cases k2 : k = 2
        · subst k2
          obtain ⟨C5, N5, s1, s2, s3⟩ := l_crop hT hD hS
          rw [if_pos rfl, show (if (2 : Int) = 8 then (2 : Int) else if (2 : Int) = 9 then 3 else if (9 : Int) < 2 then 4 else -1) = -1 from by decide, if_pos rfl, s1, am_cb_s]
          refine done C5 N5 s3 ?_ _
          rw [e_Model_behind, if_neg (by decide), if_neg (by decide), if_pos rfl, s2, am_cb_s]
        · rw [if_neg k2]
          by_cases ks : 3 ≤ k ∧ k ≤ 7
          · have hset : ∃ C5 N5, cY 203 [rV 34] C1 = some (0, C5) ∧ cY 70 [rV 72, iV k] N2 = some (0, N5) ∧ T2 C0 N0 e (q + m) 0 wa C5 N5 := by
              rw [e_Reader_readSetting, hK, am_cb_s, e_Model_behind, if_neg k0, if_neg k1, if_neg k2]
              by_cases k3 : k = 3
              · obtain ⟨vc, vm, C', N', p', w', wa', o1, o2, o3, o4, o5, o6, o7, o8⟩ := l_one hT (DR_G hD) (fun _ => hD) hS 0 1 999 (by decide) (by decide)
                rw [if_pos k3, if_pos k3, o1, am_cb_s, o2, am_cb_s, e_Reader_readSetting_76]
                exact ⟨_, _, rfl, rfl, _, _, p', w', wa', o3, o4, o5, FC_up (FC_rf C0) _ _ _ (by omega), FN_up (FN_rf N0) _ _ _ (Or.inl rfl), o6, o7, o8⟩
              · rw [if_neg k3, if_neg k3]
                by_cases k4 : k = 4
                · obtain ⟨vc, vm, C', N', p', w', wa', o1, o2, o3, o4, o5, o6, o7, o8⟩ := l_one hT (DR_G hD) (fun _ => hD) hS 1 0 10079 (by decide) (by decide)
                  rw [if_pos k4, if_pos k4, o1, am_cb_s, o2, am_cb_s, e_Reader_readSetting_76]
                  exact ⟨_, _, rfl, rfl, _, _, p', w', wa', o3, o4, o5, FC_up (FC_rf C0) _ _ _ (by omega), FN_up (FN_rf N0) _ _ _ (Or.inl rfl), o6, o7, o8⟩
                · rw [if_neg k4, if_neg k4]
                  by_cases k5 : k = 5
                  · obtain ⟨vc, vm, C', N', p', w', wa', o1, o2, o3, o4, o5, o6, o7, o8⟩ := l_one hT (DR_G hD) (fun _ => hD) hS 2 0 23 (by decide) (by decide)
                    obtain ⟨vc', vm', C'', N'', p'', w'', wa'', i1, i2, i3, i4, i5, i6, i7, i8⟩ := l_one o3 o6 o7 o4 3 0 23 (by decide) (by decide)
                    rw [if_pos k5, if_pos k5, o1, am_cb_s, i1, am_cb_s, o2, am_cb_s, i2, am_cb_s, e_Reader_readSetting_76]
                    exact ⟨_, _, rfl, rfl, _, _, p'', w'', wa'', i3, i4, by omega, FC_up (FC_up (FC_rf C0) _ _ _ (by omega)) _ _ _ (by omega), FN_up (FN_up (FN_rf N0) _ _ _ (Or.inl rfl)) _ _ _ (Or.inl rfl), i6, i7, fun h => absurd rfl h⟩
                  · rw [if_neg k5, if_neg k5]
                    by_cases k6 : k = 6
                    · obtain ⟨vc, vm, C', N', p', w', wa', o1, o2, o3, o4, o5, o6, o7, o8⟩ := l_one hT (DR_G hD) (fun _ => hD) hS 4 1 52 (by decide) (by decide)
                      obtain ⟨vc', vm', C'', N'', p'', w'', wa'', i1, i2, i3, i4, i5, i6, i7, i8⟩ := l_one o3 o6 o7 o4 5 0 7 (by decide) (by decide)
                      rw [if_pos k6, if_pos k6, o1, am_cb_s, i1, am_cb_s, o2, am_cb_s, i2, am_cb_s, e_Reader_readSetting_76]
                      exact ⟨_, _, rfl, rfl, _, _, p'', w'', wa'', i3, i4, by omega, FC_up (FC_up (FC_rf C0) _ _ _ (by omega)) _ _ _ (by omega), FN_up (FN_up (FN_rf N0) _ _ _ (Or.inl rfl)) _ _ _ (Or.inl rfl), i6, i7, fun h => absurd rfl h⟩
                    · obtain ⟨vc, vm, C', N', p', w', wa', o1, o2, o3, o4, o5, o6, o7, o8⟩ := l_one hT (DR_G hD) (fun _ => hD) hS 6 0 1 (by decide) (by decide)
                      rw [if_neg k6, if_neg k6, if_pos (by omega), if_pos (by omega), o1, am_cb_s, o2, am_cb_s, e_Reader_readSetting_76]
                      exact ⟨_, _, rfl, rfl, _, _, p', w', wa', o3, o4, o5, FC_up (FC_rf C0) _ _ _ (by omega), FN_up (FN_rf N0) _ _ _ (Or.inl rfl), o6, o7, o8⟩
            obtain ⟨C5, N5, s1, s2, s3⟩ := hset
            rw [s1, am_cb_s]
            have ev : (if k = 8 then (2 : Int) else if k = 9 then 3 else if 9 < k then 4 else -1) = -1 := by rw [if_neg (by omega), if_neg (by omega), if_neg (by omega)]
            rw [ev, if_pos rfl]
            have hh := done C5 N5 s3 s2 (some (iV (-1)))
            by_cases k3 : k = 3
            · rw [if_pos k3]; exact hh
            · rw [if_neg k3]
              by_cases k4 : k = 4
              · rw [if_pos k4]; exact hh
              · rw [if_neg k4]
                by_cases k5 : k = 5
                · rw [if_pos k5]; exact hh
                · rw [if_neg k5]
                  by_cases k6 : k = 6
                  · rw [if_pos k6]; exact hh
                  · rw [if_neg k6, if_pos (by omega)]; exact hh
          · iterate 5 rw [if_neg (by omega)]
            by_cases k8 : k = 8
            · subst k8
              rw [if_pos rfl, if_pos rfl, if_neg (by decide), r_bd_ok (by omega) (by omega), e_Model_mostOf, if_neg (by decide), if_neg (by decide), if_pos rfl, am_cb_s]
              show ∃ C' N', _ ∧ (if N0 73 2 = 12 then _ else _) = _ ∧ _
              have h204 := e_Reader_refuseIfFull_34_28 C1
              rw [e_Rows_isFull_28, S2_c hS (show 28 ≠ 34 by decide), t2, y1] at h204
              by_cases f : N0 73 2 = 12
              · rw [if_neg (by omega), am_cb_s, if_neg (by decide), a3, F1, am_cb_s] at h204
                rw [if_pos f, b2.2.2.1, R1, am_cb_s, x37 4 N4 _ (by decide) R2]
                obtain ⟨C5, N5, s1, s2, s0, s3⟩ := l_swap hT hD h204 hS4 12 (by omega) (fun h => absurd h (by decide))
                obtain ⟨C', g1, g2⟩ := l_finx (p := p) (by decide) s3 R2
                rw [s1, am_cb_s, g1]
                exact ⟨C', N4, rfl, rfl, g2⟩
              · rw [if_pos (by omega), am_cb_s, if_pos rfl] at h204
                obtain ⟨r, hr0⟩ : ∃ r : Nat, N0 73 2 = (r : Int) := ⟨(N0 73 2).toNat, by omega⟩
                obtain ⟨C5, N5, s1, s2, s0, s3⟩ := l_swap hT hD h204 hS (82 + 3 * r) (by omega) (fun _ => ⟨r, hr0, by omega, rfl⟩)
                rw [if_neg f, s1, am_cb_s]
                refine done C5 _ s3 ?_ _
                rw [e_Model_behind]
                iterate 8 rw [if_neg (by decide)]
                rw [if_pos rfl, m73, hr0, r_ck_ok (by omega) (by omega), r_ck_ok (by omega) (by omega), show 82 + 3 * (r : Int) = ((82 + 3 * r : Nat) : Int) by omega, s2, am_cb_s, s0, r_ck_ok (by omega) (by omega), hr0]
            · rw [if_neg k8, if_neg k8]
              by_cases k9 : k = 9
              · subst k9
                rw [if_pos rfl, if_pos rfl, if_neg (by decide), r_bd_ok (by omega) (by omega), e_Model_mostOf, if_neg (by decide), if_neg (by decide), if_neg (by decide), if_pos rfl, am_cb_s]
                show ∃ C' N', _ ∧ (if N0 73 3 = 12 then _ else _) = _ ∧ _
                have h204 := e_Reader_refuseIfFull_34_30 C1
                rw [e_Rows_isFull_30, S2_c hS (show 30 ≠ 34 by decide), t3, y2] at h204
                by_cases f : N0 73 3 = 12
                · rw [if_neg (by omega), am_cb_s, if_neg (by decide), a3, F1, am_cb_s] at h204
                  rw [if_pos f, b2.2.2.1, R1, am_cb_s, x37 4 N4 _ (by decide) R2]
                  obtain ⟨C5, N5, u7, N7, s1, s2, s0, s4, s5, s3⟩ := l_lend hT hD h204 hS4 12 (by omega) (fun h => absurd h (by decide))
                  obtain ⟨C', g1, g2⟩ := l_finx (p := p) (by decide) s3 R2
                  rw [s1, am_cb_s, g1]
                  exact ⟨C', N4, rfl, rfl, g2⟩
                · rw [if_pos (by omega), am_cb_s, if_pos rfl] at h204
                  obtain ⟨r, hr0⟩ : ∃ r : Nat, N0 73 3 = (r : Int) := ⟨(N0 73 3).toNat, by omega⟩
                  obtain ⟨C5, N5, u7, N7, s1, s2, s0, s4, s5, s3⟩ := l_lend hT hD h204 hS (118 + 4 * r) (by omega) (fun _ => ⟨r, hr0, by omega, rfl⟩)
                  rw [if_neg f, s1, am_cb_s]
                  refine done C5 _ s3 ?_ _
                  rw [e_Model_behind]
                  iterate 9 rw [if_neg (by decide)]
                  have e9 : (am_up N7 73 (118 + 4 * r + 3) u7) 73 3 = (r : Int) := by rw [am_up_nj _ _ _ _ (by omega), s5, hr0]
                  rw [if_pos rfl, m73, hr0, r_ck_ok (by omega) (by omega), r_ck_ok (by omega) (by omega), show 118 + 4 * (r : Int) = ((118 + 4 * r : Nat) : Int) by omega, s2, am_cb_s, s0, hr0, r_ck_ok (by omega) (by omega), r_ck_ok (by omega) (by omega), r_ck_ok (by omega) (by omega), s4, am_cb_s, r_bd_ok (by omega) (by omega), show (118 + 4 * (r : Int) + 3).toNat = 118 + 4 * r + 3 by omega, e9, r_ck_ok (by omega) (by omega)]
              · have k10 : k = 10 := by omega
                subst k10
                rw [if_neg (by decide), if_pos rfl, show (if (10 : Int) = 9 then (3 : Int) else if (9 : Int) < 10 then 4 else -1) = 4 from by decide, if_neg (by decide), r_bd_ok (by omega) (by omega), e_Model_mostOf, if_neg (by decide), if_neg (by decide), if_neg (by decide), if_neg (by decide), am_cb_s]
                show ∃ C' N', _ ∧ (if N0 73 4 = 6 then _ else _) = _ ∧ _
                have h204 := e_Reader_refuseIfFull_34_32 C1
                rw [e_Rows_isFull_32, S2_c hS (show 32 ≠ 34 by decide), t4, y3] at h204
                by_cases f : N0 73 4 = 6
                · rw [if_neg (by omega), am_cb_s, if_neg (by decide), a3, F1, am_cb_s] at h204
                  rw [if_pos f, b2.2.2.1, R1, am_cb_s, x37 4 N4 _ (by decide) R2]
                  obtain ⟨C5, N5, s1, s2, s3⟩ := l_shut hT hD h204 hS4 12 (by omega) (fun h => absurd h (by decide))
                  obtain ⟨C', g1, g2⟩ := l_finx (p := p) (by decide) s3 R2
                  rw [s1, am_cb_s, g1]
                  exact ⟨C', N4, rfl, rfl, g2⟩
                · rw [if_pos (by omega), am_cb_s, if_pos rfl] at h204
                  obtain ⟨r, hr0⟩ : ∃ r : Nat, N0 73 4 = (r : Int) := ⟨(N0 73 4).toNat, by omega⟩
                  obtain ⟨C5, N5, s1, s2, s3⟩ := l_shut hT hD h204 hS (166 + 3 * r) (by omega) (fun _ => ⟨r, hr0, by omega, rfl⟩)
                  rw [if_neg f, s1, am_cb_s]
                  refine done C5 _ s3 ?_ _
                  rw [e_Model_behind]
                  iterate 10 rw [if_neg (by decide)]
                  rw [m73, hr0, r_ck_ok (by omega) (by omega), r_ck_ok (by omega) (by omega), show 166 + 3 * (r : Int) = ((166 + 3 * r : Nat) : Int) by omega, s2, am_cb_s]
