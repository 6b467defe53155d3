-- what a field has of a week
def flg (s o : Nat → Int) (n w f : Nat) : Int := min (fF s o n f) (lF s o n w f)
def sho (s o : Nat → Int) (n w f : Nat) : Int := cnt (shB s w) (bF s o n w f + flg s o n w f) (lF s o n w f - flg s o n w f).toNat
def ngt (s o : Nat → Int) (n w f : Nat) : Int := if fls s o n n = 0 then cnt (nB s) (s 6 + bF s o n w f) (lF s o n w f).toNat else 0
def gnd (s o : Nat → Int) (n w f : Nat) : Int := if fls s o n n = 0 then lF s o n w f - flg s o n w f - sho s o n w f + dF s o n f else 0
def wtr (s o : Nat → Int) (n w f : Nat) : Int := gnd s o n w f * fwl s ((s (42 + 4 * f)).toNat + 1)
def dpt (s o : Nat → Int) (n w f : Nat) : Int := Int.tdiv (wtr s o n w f) (s (43 + 4 * f))
section
variable {s o : Nat → Int} {n : Nat}
theorem flg_bd (hv : vT s) (hn : s 1 = (n : Int)) (hP : isP n o) (w : Nat) (h0 : fls s o n n = 0) {f : Nat} (hf : f < n) : 0 ≤ flg s o n w f ∧ flg s o n w f ≤ lF s o n w f ∧ flg s o n w f ≤ fF s o n f := by
  have h1 := week_ok hv hn hP w h0 hf
  have h2 := fF_bd hv hn hP hf
  unfold flg
  omega
theorem sho_bd (hv : vT s) (hn : s 1 = (n : Int)) (hP : isP n o) (w : Nat) (h0 : fls s o n n = 0) {f : Nat} (hf : f < n) : 0 ≤ sho s o n w f ∧ sho s o n w f ≤ lF s o n w f - flg s o n w f := by
  have h1 := flg_bd hv hn hP w h0 hf
  have h2 := cnt_bd (shB s w) (bF s o n w f + flg s o n w f) (lF s o n w f - flg s o n w f).toNat
  unfold sho
  omega
theorem ngt_bd (hv : vT s) (hn : s 1 = (n : Int)) (hP : isP n o) (w : Nat) {f : Nat} (hf : f < n) : 0 ≤ ngt s o n w f ∧ ngt s o n w f ≤ 10080 := by
  unfold ngt
  by_cases q : fls s o n n = 0
  · have h1 := week_ok hv hn hP w q hf
    have h2 := cnt_bd (nB s) (s 6 + bF s o n w f) (lF s o n w f).toNat
    rw [if_pos q]
    omega
  · rw [if_neg q]; omega
theorem gnd_bd (hv : vT s) (hn : s 1 = (n : Int)) (hP : isP n o) (w : Nat) {f : Nat} (hf : f < n) : 0 ≤ gnd s o n w f ∧ gnd s o n w f ≤ 10680 := by
  unfold gnd
  by_cases q : fls s o n n = 0
  · have h1 := week_ok hv hn hP w q hf
    have h2 := flg_bd hv hn hP w q hf
    have h3 := sho_bd hv hn hP w q hf
    have h4 := dF_bd hv hn hP hf
    rw [if_pos q]
    omega
  · rw [if_neg q]; omega
theorem fnd_bd (hv : vT s) (hn : s 1 = (n : Int)) {f : Nat} (hf : f < n) : 1 ≤ fwl s ((s (42 + 4 * f)).toNat + 1) ∧ fwl s ((s (42 + 4 * f)).toNat + 1) ≤ 999 := by
  have h := hv.2.2.2.2.2.2.2.1 f (by omega)
  exact fwl_bd hv _ (by omega)
theorem wtr_bd (hv : vT s) (hn : s 1 = (n : Int)) (hP : isP n o) (w : Nat) {f : Nat} (hf : f < n) : 0 ≤ wtr s o n w f ∧ wtr s o n w f ≤ 10669320 := by
  have h1 := gnd_bd hv hn hP w hf
  have h2 := fnd_bd hv hn hf
  unfold wtr
  refine ⟨Int.mul_nonneg h1.1 (by omega), ?_⟩
  have : gnd s o n w f * fwl s ((s (42 + 4 * f)).toNat + 1) ≤ 10680 * 999 := Int.mul_le_mul h1.2 h2.2 (by omega) (by omega)
  omega
theorem dpt_bd (hv : vT s) (hn : s 1 = (n : Int)) (hP : isP n o) (w : Nat) {f : Nat} (hf : f < n) : 0 ≤ dpt s o n w f ∧ dpt s o n w f ≤ 10669320 := by
  have h1 := wtr_bd hv hn hP w hf
  have h2 := (hv.2.2.2.2.2.2.2.1 f (by omega)).2.1
  unfold dpt
  rw [Int.tdiv_eq_ediv_of_nonneg h1.1]
  have h3 := Int.ediv_le_self (s (43 + 4 * f)) h1.1
  exact ⟨Int.ediv_nonneg h1.1 (by omega), by omega⟩
end
/-- the class has a week planned -/
def CX (s o : Nat → Int) (n w : Nat) (M : am_M) : Prop := cQ s M ∧ CN s M ∧ CZ s w M ∧ CW s o n w M ∧ ∀ p, p < n → M 47 p = o p
/-- the reference has a week laid -/
def MX (o : Nat → Int) (n w : Nat) (M : am_M) : Prop := vT (M 73) ∧ M 73 1 = (n : Int) ∧ isP n o ∧ w ≤ 51 ∧ MW (M 73) o n w M
section
variable {s o : Nat → Int} {n w : Nat} {M : am_M}
theorem p_fillingOf (hv : vT s) (hn : s 1 = (n : Int)) (h : CX s o n w M) (h0 : fls s o n n = 0) {f : Nat} (hf : f < n) : cY 267 [rV 46, iV (f : Int)] M = some (flg s o n w f, M) := by
  have hb1 := hv.2.1
  obtain ⟨-, -, -, hW, -⟩ := h
  rw [e_WeekPlan_fillingOf, r_bd_ok (by omega) (by omega), r_bd_ok (by omega) (by omega), Int.toNat_natCast, (hW.1 f hf).1, ((hW.2.2.2 h0).1 f hf).1]
  rfl
theorem p_shutOf (hv : vT s) (hn : s 1 = (n : Int)) (hP : isP n o) (h : CX s o n w M) (h0 : fls s o n n = 0) {f : Nat} (hf : f < n) : cY 268 [rV 46, iV (f : Int)] M = some (sho s o n w f, M) := by
  have hb1 := hv.2.1
  have hW := h.2.2.2.1
  have b1 := week_ok hv hn hP w h0 hf
  have b2 := flg_bd hv hn hP w h0 hf
  obtain ⟨e53, e54⟩ := (hW.2.2.2 h0).1 f hf
  rw [e_WeekPlan_shutOf, r_bd_ok (by omega) (by omega), p_fillingOf hv hn h h0 hf, am_cb_s, Int.toNat_natCast, e53, e54, r_ck_ok (by omega) (by omega), r_bd_ok (by omega) (by omega), r_bd_ok (by omega) (by omega), r_ck_ok (by omega) (by omega), show bF s o n w f + lF s o n w f = bF s o n w f + flg s o n w f + (((lF s o n w f - flg s o n w f).toNat : Nat) : Int) by omega, p_minutesWithin M s w h.2.2.1 _ _ (by omega) (by omega), am_cb_s]
  rfl
theorem p_nightOf (hv : vT s) (hn : s 1 = (n : Int)) (hP : isP n o) (h : CX s o n w M) {f : Nat} (hf : f < n) : cY 269 [rV 46, iV (f : Int)] M = some (ngt s o n w f, M) := by
  have hb1 := hv.2.1
  have hb6 := hv.2.2.2.2.2.1.2.1
  have hW := h.2.2.2.1
  have hS := h.1.2.2.2.2
  rw [e_WeekPlan_nightOf, hW.2.2.1]
  unfold ngt
  by_cases q : fls s o n n = 0
  · have b1 := week_ok hv hn hP w q hf
    obtain ⟨e53, e54⟩ := (hW.2.2.2 q).1 f hf
    have hc1 := cnt_bd (nB s) 0 (s 6 + bF s o n w f + lF s o n w f).toNat
    have hc2 := cnt_bd (nB s) 0 (s 6 + bF s o n w f).toNat
    have ha := cnt_add (nB s) 0 (s 6 + bF s o n w f).toNat (lF s o n w f).toNat
    rw [show (s 6 + bF s o n w f).toNat + (lF s o n w f).toNat = (s 6 + bF s o n w f + lF s o n w f).toNat by omega, show (0 : Int) + (((s 6 + bF s o n w f).toNat : Nat) : Int) = s 6 + bF s o n w f by omega] at ha
    have p1 := p_nightBefore M s hv hS.2.1 hS.2.2.1 (s 6 + bF s o n w f + lF s o n w f).toNat (by omega)
    have p2 := p_nightBefore M s hv hS.2.1 hS.2.2.1 (s 6 + bF s o n w f).toNat (by omega)
    rw [show (((s 6 + bF s o n w f + lF s o n w f).toNat : Nat) : Int) = s 6 + bF s o n w f + lF s o n w f by omega] at p1
    rw [show (((s 6 + bF s o n w f).toNat : Nat) : Int) = s 6 + bF s o n w f by omega] at p2
    rw [if_pos q, if_pos q, r_bd_ok (by omega) (by omega), Int.toNat_natCast, e53, e54, hS.1, r_ck_ok (by omega) (by omega), r_bd_ok (by omega) (by omega), r_ck_ok (by omega) (by omega), p1, am_cb_s, p2, am_cb_s, r_ck_ok (by omega) (by omega), show cnt (nB s) 0 (s 6 + bF s o n w f + lF s o n w f).toNat - cnt (nB s) 0 (s 6 + bF s o n w f).toNat = cnt (nB s) (s 6 + bF s o n w f) (lF s o n w f).toNat by omega]
  · rw [if_neg q, if_neg q]
theorem p_gainedOf (hv : vT s) (hn : s 1 = (n : Int)) (hP : isP n o) (h : CX s o n w M) {f : Nat} (hf : f < n) : cY 270 [rV 46, iV (f : Int)] M = some (gnd s o n w f, M) := by
  have hb1 := hv.2.1
  have hW := h.2.2.2.1
  rw [e_WeekPlan_gainedOf, hW.2.2.1]
  unfold gnd
  by_cases q : fls s o n n = 0
  · have b1 := week_ok hv hn hP w q hf
    have b2 := flg_bd hv hn hP w q hf
    have b3 := sho_bd hv hn hP w q hf
    have b4 := dF_bd hv hn hP hf
    obtain ⟨e53, e54⟩ := (hW.2.2.2 q).1 f hf
    rw [if_pos q, if_pos q, r_bd_ok (by omega) (by omega), p_fillingOf hv hn h q hf, am_cb_s, Int.toNat_natCast, e53, r_ck_ok (by omega) (by omega), p_shutOf hv hn hP h q hf, am_cb_s, r_ck_ok (by omega) (by omega), r_bd_ok (by omega) (by omega), (hW.1 f hf).2.1, r_ck_ok (by omega) (by omega)]
  · rw [if_neg q, if_neg q]
theorem p_flowOfF (hv : vT s) (hn : s 1 = (n : Int)) (hN : CN s M) {f : Nat} (hf : f < n) : cY 175 [rV 40, iV (s (42 + 4 * f))] M = some (fwl s ((s (42 + 4 * f)).toNat + 1), M) := by
  have h := hv.2.2.2.2.2.2.2.1 f (by omega)
  obtain ⟨r, hr⟩ : ∃ r : Nat, s (42 + 4 * f) = (r : Int) := ⟨(s (42 + 4 * f)).toNat, by omega⟩
  rw [hr, Int.toNat_natCast]
  exact p_flowAt M s hN hv r (by omega)
theorem p_waterOf (hv : vT s) (hn : s 1 = (n : Int)) (hP : isP n o) (h : CX s o n w M) {f : Nat} (hf : f < n) : cY 271 [rV 46, iV (f : Int)] M = some (wtr s o n w f, M) := by
  have hb1 := hv.2.1
  have b := wtr_bd hv hn hP w hf
  rw [e_WeekPlan_waterOf, p_gainedOf hv hn hP h hf, am_cb_s, r_bd_ok (by omega) (by omega), Int.toNat_natCast, h.1.1.2.2 f (by omega), p_flowOfF hv hn h.2.1 hf, am_cb_s]
  unfold wtr at b ⊢
  rw [r_cl_ok (by omega) (by omega)]
theorem p_depthOf (hv : vT s) (hn : s 1 = (n : Int)) (hP : isP n o) (h : CX s o n w M) {f : Nat} (hf : f < n) : cY 273 [rV 46, iV (f : Int)] M = some (dpt s o n w f, M) := by
  have hb1 := hv.2.1
  have hl := (hv.2.2.2.2.2.2.2.1 f (by omega)).2.1
  have b := dpt_bd hv hn hP w hf
  have e6 := (h.1.2.2.2.1 f (by omega)).1
  rw [e_WeekPlan_depthOf, r_bd_ok (by omega) (by omega), Int.toNat_natCast, e6, if_pos (by omega), p_waterOf hv hn hP h hf, am_cb_s, r_bd_ok (by omega) (by omega), e6, if_neg (by omega)]
  unfold dpt at b ⊢
  rw [r_cl_ok (by omega) (by omega)]
-- the same of the reference
theorem p_filling (h : MX o n w M) (h0 : fls (M 73) o n n = 0) {f : Nat} (hf : f < n) : cY 112 [rV 72, iV (f : Int)] M = some (flg (M 73) o n w f, M) := by
  obtain ⟨hv, hn, hP, hw, hW⟩ := h
  have hb1 := hv.2.1
  have e81 := (hW.2.1 f hf).1
  have e85 := ((hW.2.2.2.2.1 h0).1 f hf).1
  rw [e_Model_filling, r_bd_ok (by omega) (by omega), r_bd_ok (by omega) (by omega), Int.toNat_natCast, e81, e85]
  unfold flg
  by_cases q : fF (M 73) o n f < lF (M 73) o n w f
  · rw [if_pos q, r_bd_ok (by omega) (by omega), show min (fF (M 73) o n f) (lF (M 73) o n w f) = fF (M 73) o n f by omega]
  · rw [if_neg q, r_bd_ok (by omega) (by omega), show min (fF (M 73) o n f) (lF (M 73) o n w f) = lF (M 73) o n w f by omega]
theorem p_mshutOf (h : MX o n w M) (h0 : fls (M 73) o n n = 0) {f : Nat} (hf : f < n) : cY 113 [rV 72, iV (w : Int), iV (f : Int)] M = some (sho (M 73) o n w f, M) := by
  have hF := p_filling h h0 hf
  obtain ⟨hv, hn, hP, hw, hW⟩ := h
  have hb1 := hv.2.1
  have b1 := week_ok hv hn hP w h0 hf
  have b2 := flg_bd hv hn hP w h0 hf
  obtain ⟨e85, e86⟩ := (hW.2.2.2.2.1 h0).1 f hf
  rw [e_Model_shutOf, r_bd_ok (by omega) (by omega), hF, am_cb_s, Int.toNat_natCast, e85, e86, r_ck_ok (by omega) (by omega), r_bd_ok (by omega) (by omega), r_bd_ok (by omega) (by omega), r_ck_ok (by omega) (by omega), show bF (M 73) o n w f + lF (M 73) o n w f = bF (M 73) o n w f + flg (M 73) o n w f + (((lF (M 73) o n w f - flg (M 73) o n w f).toNat : Nat) : Int) by omega, p_shutIn M hv w _ _ (by omega) (by omega), am_cb_s]
  rfl
theorem p_mnightOf (h : MX o n w M) {f : Nat} (hf : f < n) : cY 116 [rV 72, iV (w : Int), iV (f : Int)] M = some (ngt (M 73) o n w f, M) := by
  obtain ⟨hv, hn, hP, hw, hW⟩ := h
  have hb1 := hv.2.1
  have hb6 := hv.2.2.2.2.2.1.2.1
  rw [e_Model_nightOf]
  unfold ngt
  by_cases q : fls (M 73) o n n = 0
  · have b1 := week_ok hv hn hP w q hf
    obtain ⟨e85, e86⟩ := (hW.2.2.2.2.1 q).1 f hf
    rw [if_pos q]
    obtain ⟨l, hl⟩ : ∃ l : Nat, lF (M 73) o n w f = (l : Int) := ⟨(lF (M 73) o n w f).toNat, by omega⟩
    rw [hl, Int.toNat_natCast]
    have L : ∀ j k : Nat, k + j = l → cX 116 4 [some (rV 72), some (iV (w : Int)), some (iV (f : Int)), some (iV (cnt (nB (M 73)) (M 73 6 + bF (M 73) o n w f) k)), some (iV (k : Int))] [] M = some (cnt (nB (M 73)) (M 73 6 + bF (M 73) o n w f) l, M) := by
      intro j
      induction j with
      | zero =>
        intro k hk
        have e : k = l := by omega
        subst e
        rw [e_Model_nightOf_4, r_bd_ok (by omega) (by omega), Int.toNat_natCast, e85, if_neg (by omega)]
      | succ j ih =>
        intro k hk
        have hc := cnt_bd (nB (M 73)) (M 73 6 + bF (M 73) o n w f) k
        have es : cnt (nB (M 73)) (M 73 6 + bF (M 73) o n w f) (k + 1) = cnt (nB (M 73)) (M 73 6 + bF (M 73) o n w f) k + (if nB (M 73) (M 73 6 + bF (M 73) o n w f + (k : Int)) = true then 1 else 0) := rfl
        have ep : nB (M 73) (M 73 6 + 10080 * (w : Int) + bF (M 73) o n w f + (k : Int)) = nB (M 73) (M 73 6 + bF (M 73) o n w f + (k : Int)) := by
          rw [← nB_per (M 73) (M 73 6 + bF (M 73) o n w f + (k : Int)) w]
          congr 1
          omega
        have hi := ih (k + 1) (by omega)
        rw [es] at hi
        rw [e_Model_nightOf_4, r_bd_ok (by omega) (by omega), Int.toNat_natCast, e85, hl, if_pos (by omega), hW.2.2.2.1, if_pos q, r_ck_ok (by omega) (by omega), r_ck_ok (by omega) (by omega), r_bd_ok (by omega) (by omega), e86, r_ck_ok (by omega) (by omega), r_ck_ok (by omega) (by omega), p_misNight M _ (by omega), am_cb_s, ep]
        by_cases c : nB (M 73) (M 73 6 + bF (M 73) o n w f + (k : Int)) = true
        · rw [if_pos c] at hi
          rw [if_pos c, if_neg (by decide), r_ck_ok (by omega) (by omega), r_ck_ok (by omega) (by omega)]
          exact hi
        · rw [if_neg c] at hi
          rw [if_neg c, if_pos rfl, r_ck_ok (by omega) (by omega), r_ck_ok (by omega) (by omega)]
          exact hi
    exact L l 0 (by omega)
  · have hb := (hW.2.2.2.2.2 f hf).1
    rw [if_neg q, e_Model_nightOf_4, r_bd_ok (by omega) (by omega), hW.2.2.2.1]
    by_cases c : 0 < M 85 (Int.toNat (f : Int))
    · rw [if_pos c, if_neg q]
    · rw [if_neg c]
theorem p_mflowOfF (hv : vT (M 73)) (hn : M 73 1 = (n : Int)) {f : Nat} (hf : f < n) : cY 99 [rV 72, iV (M 73 (42 + 4 * f))] M = some (fwl (M 73) ((M 73 (42 + 4 * f)).toNat + 1), M) := by
  have h := hv.2.2.2.2.2.2.2.1 f (by omega)
  obtain ⟨r, hr⟩ : ∃ r : Nat, M 73 (42 + 4 * f) = (r : Int) := ⟨(M 73 (42 + 4 * f)).toNat, by omega⟩
  rw [hr, Int.toNat_natCast]
  exact p_flowOf M hv r (by omega)
theorem p_mwaterOf (h : MX o n w M) {f : Nat} (hf : f < n) : cY 114 [rV 72, iV (w : Int), iV (f : Int)] M = some (wtr (M 73) o n w f, M) := by
  have hF := fun h0 => p_filling h h0 hf
  have hS := fun h0 => p_mshutOf h h0 hf
  obtain ⟨hv, hn, hP, hw, hW⟩ := h
  have hb1 := hv.2.1
  have b := wtr_bd hv hn hP w hf
  rw [e_Model_waterOf, hW.2.2.2.1]
  unfold wtr gnd at b ⊢
  by_cases q : fls (M 73) o n n = 0
  · have b1 := week_ok hv hn hP w q hf
    have b2 := flg_bd hv hn hP w q hf
    have b3 := sho_bd hv hn hP w q hf
    have b4 := dF_bd hv hn hP hf
    obtain ⟨e85, e86⟩ := (hW.2.2.2.2.1 q).1 f hf
    rw [if_pos q] at b
    rw [if_pos q, if_pos q, r_bd_ok (by omega) (by omega), hF q, am_cb_s, Int.toNat_natCast, e85, r_ck_ok (by omega) (by omega), hS q, am_cb_s, r_ck_ok (by omega) (by omega), r_bd_ok (by omega) (by omega), (hW.2.1 f hf).2.1, r_ck_ok (by omega) (by omega), p_of0 M f (by omega), am_cb_s, p_mflowOfF hv hn hf, am_cb_s, r_cl_ok (by omega) (by omega)]
  · rw [if_neg q, if_neg q, Int.zero_mul]
theorem p_mdepthOf (h : MX o n w M) {f : Nat} (hf : f < n) : cY 129 [rV 72, iV (w : Int), iV (f : Int)] M = some (dpt (M 73) o n w f, M) := by
  have hwa := p_mwaterOf h hf
  obtain ⟨hv, hn, hP, hw, hW⟩ := h
  have hb1 := hv.2.1
  have hl := (hv.2.2.2.2.2.2.2.1 f (by omega)).2.1
  have b := dpt_bd hv hn hP w hf
  rw [e_Model_depthOf, hwa, am_cb_s, p_of1 M f (by omega), am_cb_s, if_neg (by omega)]
  unfold dpt at b ⊢
  rw [r_cl_ok (by omega) (by omega)]
end
-- weeks asked for
theorem p_planWeek (M : am_M) (s : Nat → Int) (n w : Nat) (hv : vT s) (hn : s 1 = (n : Int)) (hc : cT s M 0) (hk : kT M 0) (hw : w ≤ 51) : ∃ M', cY 52 [rV 70, iV (w : Int)] M = some (0, M') ∧ (∀ a, a < 40 ∨ 54 < a → M' a = M a) ∧ CX s (rst s w) n w M' := by
  obtain ⟨M1, a1, a2, a3⟩ := p_letIn0 M s hv hc
  have hQ : cQ s M := cQ_of hv hc hk (md.rf s)
  have hQ1 : cQ s M1 := cQ_eq hQ (fun a ha => a2 a (by omega) (by omega) (by omega))
  have e5 : M1 10 5 = s 10 := by rw [a2 10 (by decide) (by decide) (by decide)]; exact hc.2.2.2.2.2.1 5 (by omega)
  obtain ⟨M2, b1, b2, b3, b4, b5⟩ := p_lineUp M1 s w n hv hQ1.2.1 hn hw
  have hQ2 : cQ s M2 := cQ_eq hQ1 (fun a ha => b2 a (by omega))
  have hN2 : CN s M2 := CN_eq a3 (b2 40 (by omega)) (b2 41 (by omega)) (b2 42 (by omega))
  obtain ⟨M3, c1, c2, c3, c4⟩ := p_reckon M2 s (rst s w) n w hv hn (isP_rst hv hn w) hQ2 hN2 b3 b4
  refine ⟨M3, by rw [e_Desk_planWeek, a1, am_cb_s, e5, b1, am_cb_s, c1, am_cb_s], fun a ha => by rw [c2 a (by omega), b2 a (by omega), a2 a (by omega) (by omega) (by omega)], cQ_eq hQ2 (fun a ha => c2 a (by omega)), CN_eq hN2 (c2 40 (by omega)) (c2 41 (by omega)) (c2 42 (by omega)), CZ_eq b5 (c2 43 (by omega)) (c2 44 (by omega)) (c2 45 (by omega)), c4, fun p hp => by rw [c2 47 (by omega)]; exact b4 p hp⟩
/-- the reference lays a week: no couples -/
theorem p_lays0 (M : am_M) (n w : Nat) (hv : vT (M 73)) (hn : M 73 1 = (n : Int)) (hw : w ≤ 51) (hm : ∀ i, i < 8 → M 88 i = -1) : ∃ M', cY 109 [rV 72, iV (w : Int)] M = some (0, M') ∧ wf M M' ∧ MX (rst (M 73) w) n w M' := by
  have hb1 := hv.2.1
  obtain ⟨M', h1, h2, h3⟩ := p_laysWeek M w n (rst (M 73) w) hv hn hw (fun f hf => by rw [hm f (by omega)]; omega) (by rw [mtk_none n (fun f hf => hm f (by omega))])
  have e : M' 73 = M 73 := h2.1 73 (by omega)
  refine ⟨M', h1, h2, ?_⟩
  unfold MX
  rw [e]
  exact ⟨hv, hn, isP_rst hv hn w, hw, h3⟩
/-- both plan a week -/
theorem both {M : am_M} (hR : RI M) {n w : Nat} (hn : M 73 1 = (n : Int)) (hw : w ≤ 51) : ∃ M1 M2, cY 52 [rV 70, iV (w : Int)] M = some (0, M1) ∧ CX (M 73) (rst (M 73) w) n w M1 ∧ (∀ a, a < 40 ∨ 54 < a → M1 a = M a) ∧ cY 109 [rV 72, iV (w : Int)] (am_up M1 72 6 0) = some (0, M2) ∧ MX (rst (M 73) w) n w M2 ∧ M2 73 = M 73 ∧ RI M1 ∧ RI M2 ∧ wf (am_up M1 72 6 0) M2 := by
  obtain ⟨r1, r2, r3, r4, r5, r6, r7, r8, r9, r10, r11⟩ := id hR
  obtain ⟨M1, a1, a2, a3⟩ := p_planWeek M (M 73) n w r1 hn r2 r3 hw
  have e73 : (am_up M1 72 6 0) 73 = M 73 := by rw [am_up_ne _ _ _ _ (by decide), a2 73 (by omega)]
  have hR1 : RI M1 := RI_cf (fun x hx => a2 x (by omega)) hR
  have hR2 : RI (am_up M1 72 6 0) := RI_mf (mf_up (mf.rf M1) (by omega)) hR1
  obtain ⟨M2, b1, b2, b3⟩ := p_lays0 (am_up M1 72 6 0) n w (by rw [e73]; exact r1) (by rw [e73]; exact hn) hw (fun i hi => by rw [am_up_ne _ _ _ _ (by decide), a2 88 (by omega)]; exact r10 i hi)
  rw [e73] at b3
  exact ⟨M1, M2, a1, a3, a2, b1, b3, by rw [b2.1 73 (by omega), e73], hR1, RI_mf b2.mf hR2, b2⟩
