-- numbers: Int32 and Int64 against Int
theorem nm_b32 {a : Int} (h : am_r32 a) : a.bmod (2 ^ 32) = a := by
  rw [Int.bmod_eq_emod]
  obtain ⟨h1, h2⟩ := h
  split <;> omega
theorem nm_b64 {a : Int} (h : am_r64 a) : a.bmod (2 ^ 64) = a := by
  rw [Int.bmod_eq_emod]
  obtain ⟨h1, h2⟩ := h
  split <;> omega
theorem nm_i {a : Int} (h : am_r32 a) : (Int32.ofInt a).toInt = a := by
  rw [Int32.toInt_ofInt]
  exact nm_b32 h
theorem nm_l {a : Int} (h : am_r64 a) : (Int64.ofInt a).toInt = a := by
  rw [Int64.toInt_ofInt]
  exact nm_b64 h
theorem nm_ir (x : Int32) : am_r32 x.toInt := ⟨Int32.le_toInt x, Int.le_of_lt_add_one (Int32.toInt_lt x)⟩
theorem nm_lr (x : Int64) : am_r64 x.toInt := ⟨Int64.le_toInt x, Int.le_of_lt_add_one (Int64.toInt_lt x)⟩
theorem nm_iof (x : Int32) : Int32.ofInt x.toInt = x := Int32.ofInt_toInt x
theorem nm_lof (x : Int64) : Int64.ofInt x.toInt = x := Int64.ofInt_toInt x
theorem nm_add (a b : Int) : Int32.ofInt a + Int32.ofInt b = Int32.ofInt (a + b) := (Int32.ofInt_add a b).symm
theorem nm_sub (a b : Int) : Int32.ofInt a - Int32.ofInt b = Int32.ofInt (a - b) := (Int32.ofInt_sub a b).symm
theorem nm_mul (a b : Int) : Int32.ofInt a * Int32.ofInt b = Int32.ofInt (a * b) := (Int32.ofInt_mul a b).symm
theorem nm_ladd (a b : Int) : Int64.ofInt a + Int64.ofInt b = Int64.ofInt (a + b) := (Int64.ofInt_add a b).symm
theorem nm_lsub (a b : Int) : Int64.ofInt a - Int64.ofInt b = Int64.ofInt (a - b) := (Int64.ofInt_sub a b).symm
theorem nm_lmul (a b : Int) : Int64.ofInt a * Int64.ofInt b = Int64.ofInt (a * b) := (Int64.ofInt_mul a b).symm
theorem nm_eq {a b : Int} (ha : am_r32 a) (hb : am_r32 b) : Int32.ofInt a = Int32.ofInt b ↔ a = b := by
  rw [← Int32.toInt_inj, nm_i ha, nm_i hb]
theorem nm_lt {a b : Int} (ha : am_r32 a) (hb : am_r32 b) : Int32.ofInt a < Int32.ofInt b ↔ a < b := by
  rw [Int32.lt_iff_toInt_lt, nm_i ha, nm_i hb]
theorem nm_le {a b : Int} (ha : am_r32 a) (hb : am_r32 b) : Int32.ofInt a ≤ Int32.ofInt b ↔ a ≤ b := by
  rw [Int32.le_iff_toInt_le, nm_i ha, nm_i hb]
theorem nm_leq {a b : Int} (ha : am_r64 a) (hb : am_r64 b) : Int64.ofInt a = Int64.ofInt b ↔ a = b := by
  rw [← Int64.toInt_inj, nm_l ha, nm_l hb]
theorem nm_llt {a b : Int} (ha : am_r64 a) (hb : am_r64 b) : Int64.ofInt a < Int64.ofInt b ↔ a < b := by
  rw [Int64.lt_iff_toInt_lt, nm_l ha, nm_l hb]
theorem nm_div {a b : Int} (ha : am_r32 a) (hb : am_r32 b) (h : am_r32 (Int.tdiv a b)) : Int32.ofInt a / Int32.ofInt b = Int32.ofInt (Int.tdiv a b) := by
  rw [← Int32.toInt_inj, Int32.toInt_div, nm_i ha, nm_i hb, nm_i h]
  exact nm_b32 h
theorem nm_ldiv {a b : Int} (ha : am_r64 a) (hb : am_r64 b) (h : am_r64 (Int.tdiv a b)) : Int64.ofInt a / Int64.ofInt b = Int64.ofInt (Int.tdiv a b) := by
  rw [← Int64.toInt_inj, Int64.toInt_div, nm_l ha, nm_l hb, nm_l h]
  exact nm_b64 h
theorem nm_tm (a b : Int) : a - Int.tdiv a b * b = Int.tmod a b := by
  have := Int.tmod_add_mul_tdiv a b
  rw [Int.mul_comm] at this
  omega
theorem nm_rem {a b : Int} (ha : am_r32 a) (hb : am_r32 b) (h : am_r32 (Int.tdiv a b)) : Int32.ofInt a - Int32.ofInt a / Int32.ofInt b * Int32.ofInt b = Int32.ofInt (Int.tmod a b) := by
  rw [nm_div ha hb h, nm_mul, nm_sub, nm_tm]
theorem nm_lrem {a b : Int} (ha : am_r64 a) (hb : am_r64 b) (h : am_r64 (Int.tdiv a b)) : Int64.ofInt a - Int64.ofInt a / Int64.ofInt b * Int64.ofInt b = Int64.ofInt (Int.tmod a b) := by
  rw [nm_ldiv ha hb h, nm_lmul, nm_lsub, nm_tm]
theorem nm_tmr {a b : Int} (hb : b ≠ 0) (h : am_r32 b) : am_r32 (Int.tmod a b) := by
  obtain ⟨h1, h2⟩ := h
  rcases Int.lt_or_gt_of_ne hb with q | q
  · have h3 : Int.tmod a b = Int.tmod a (-b) := (Int.tmod_neg a b).symm
    have := tmod_bounds (a := a) (M := -b) (by omega)
    rw [h3]
    exact ⟨by omega, by omega⟩
  · have := tmod_bounds (a := a) (M := b) q
    exact ⟨by omega, by omega⟩
theorem nm_ltmr {a b : Int} (hb : b ≠ 0) (h : am_r64 b) : am_r64 (Int.tmod a b) := by
  obtain ⟨h1, h2⟩ := h
  rcases Int.lt_or_gt_of_ne hb with q | q
  · have h3 : Int.tmod a b = Int.tmod a (-b) := (Int.tmod_neg a b).symm
    have := tmod_bounds (a := a) (M := -b) (by omega)
    rw [h3]
    exact ⟨by omega, by omega⟩
  · have := tmod_bounds (a := a) (M := b) q
    exact ⟨by omega, by omega⟩
theorem nm_i2l {a : Int} (h : am_r32 a) : (Int32.ofInt a).toInt64 = Int64.ofInt a := by
  have h2 : am_r64 a := ⟨by have := h.1; omega, by have := h.2; omega⟩
  rw [← Int64.toInt_inj, Int32.toInt_toInt64, nm_i h, nm_l h2]
theorem nm_l2i {a : Int} (h : am_r32 a) : (Int64.ofInt a).toInt32 = Int32.ofInt a := by
  have h2 : am_r64 a := ⟨by have := h.1; omega, by have := h.2; omega⟩
  rw [← Int32.toInt_inj, Int64.toInt_toInt32, nm_l h2, nm_i h]
  exact nm_b32 h
theorem nm_cl {i : Int} (h : am_r32 i) : (Int32.ofInt i).toNatClampNeg = i.toNat := by
  show (Int32.ofInt i).toInt.toNat = i.toNat
  rw [nm_i h]
theorem nm_in {i : Int} {n : Nat} (h : am_r32 i) (h1 : 0 ≤ i) (h2 : i < (n : Int)) : vp_in (Int32.ofInt i) n := by
  rintro (q | q)
  · have : Int32.ofInt i < Int32.ofInt 0 := q
    rw [nm_lt h ⟨by omega, by omega⟩] at this
    omega
  · rw [nm_cl h] at q
    omega
theorem nm_nat (n : Nat) : Int32.ofNat n = Int32.ofInt (n : Int) := rfl
theorem nm_mx {a b : Int} (ha : am_r32 a) (hb : am_r32 b) : (if Int32.ofInt a < Int32.ofInt b then Int32.ofInt b else Int32.ofInt a) = Int32.ofInt (max a b) := by
  by_cases h : a < b
  · rw [if_pos ((nm_lt ha hb).mpr h), Int.max_eq_right (by omega)]
  · rw [if_neg (fun q => h ((nm_lt ha hb).mp q)), Int.max_eq_left (by omega)]
theorem nm_mn {a b : Int} (ha : am_r32 a) (hb : am_r32 b) : (if Int32.ofInt b < Int32.ofInt a then Int32.ofInt b else Int32.ofInt a) = Int32.ofInt (min a b) := by
  by_cases h : b < a
  · rw [if_pos ((nm_lt hb ha).mpr h), Int.min_eq_right (by omega)]
  · rw [if_neg (fun q => h ((nm_lt hb ha).mp q)), Int.min_eq_left (by omega)]
theorem nm_cmp {a b : Int} (ha : am_r64 a) (hb : am_r64 b) : lg_cmp (Int64.ofInt a) (Int64.ofInt b) = Int32.ofInt (if a < b then -1 else if a = b then 0 else 1) := by
  unfold lg_cmp
  by_cases h : b < a
  · rw [if_pos ((nm_llt hb ha).mpr h), if_neg (by omega), if_neg (by omega)]; rfl
  · rw [if_neg (fun q => h ((nm_llt hb ha).mp q))]
    by_cases h2 : a = b
    · subst h2
      rw [if_pos rfl, if_neg (by omega), if_pos rfl]; rfl
    · rw [if_neg (fun q => h2 ((nm_leq ha hb).mp q)), if_pos (by omega)]; rfl
theorem nm_by {a : Int} (h1 : -128 ≤ a) (h2 : a ≤ 127) : vp_nar .byte (Int32.ofInt a) = Int32.ofInt a := by
  have e : vp_nar .byte (Int32.ofInt a) = (Int32.ofInt a).toInt8.toInt32 := rfl
  have h : am_r32 a := ⟨by omega, by omega⟩
  rw [e, ← Int32.toInt_inj, Int8.toInt_toInt32, Int32.toInt_toInt8, nm_i h, Int.bmod_eq_emod]
  split <;> omega
