-- the instructions
abbrev am_r32 (x : Int) : Prop := -2147483648 ≤ x ∧ x ≤ 2147483647
abbrev am_r64 (x : Int) : Prop := -9223372036854775808 ≤ x ∧ x ≤ 9223372036854775807
def a_ck (x : Int) (k : am_A) : am_A := a_if (am_r32 x) k (a_ret none)
def a_cl (x : Int) (k : am_A) : am_A := a_if (am_r64 x) k (a_ret none)
def am_and (a b : Int) : Int := (Int32.ofInt a &&& Int32.ofInt b).toInt
def am_or (a b : Int) : Int := (Int32.ofInt a ||| Int32.ofInt b).toInt
def am_xor (a b : Int) : Int := (Int32.ofInt a ^^^ Int32.ofInt b).toInt
def am_shl (a b : Int) : Int := (Int32.ofInt a <<< (Int32.ofInt b &&& 31)).toInt
def am_shr (a b : Int) : Int := (Int32.ofInt a >>> (Int32.ofInt b &&& 31)).toInt
def am_lor (a b : Int) : Int := (Int64.ofInt a ||| Int64.ofInt b).toInt
def am_land (a b : Int) : Int := (Int64.ofInt a &&& Int64.ofInt b).toInt
def am_lshl (a b : Int) : Int := (Int64.ofInt a <<< ((Int32.ofInt b).toInt64 &&& 63)).toInt
def am_lshr (a b : Int) : Int := (Int64.ofInt a >>> ((Int32.ofInt b).toInt64 &&& 63)).toInt
def am_i2b (a : Int) : Int := (Int32.ofInt a).toInt8.toInt32.toInt
def am_l2i (a : Int) : Int := (Int64.ofInt a).toInt32.toInt
def o_ci (v : Int) (nx : Nat) : am_O := fun ls st M => a_go nx ls (iV v :: st) M
def o_cl (v : Int) (nx : Nat) : am_O := fun ls st M => a_go nx ls (lV v :: st) M
def o_cr (a nx : Nat) : am_O := fun ls st M => a_go nx ls (rV a :: st) M
def o_il (i nx : Nat) : am_O := fun ls st M => match am_gl ls i with
  | some (Sum.inl v) => a_go nx ls (iV v :: st) M
  | _ => a_ret none
def o_ll (i nx : Nat) : am_O := fun ls st M => match am_gl ls i with
  | some (Sum.inr (Sum.inl v)) => a_go nx ls (lV v :: st) M
  | _ => a_ret none
def o_al (i nx : Nat) : am_O := fun ls st M => match am_gl ls i with
  | some (Sum.inr (Sum.inr v)) => a_go nx ls (rV v :: st) M
  | _ => a_ret none
def o_is (i nx : Nat) : am_O := fun ls st M => match st with
  | Sum.inl v :: r => am_fl (am_s1 ls i (iV v)) (fun l => a_go nx l r M)
  | _ => a_ret none
def o_lS (i nx : Nat) : am_O := fun ls st M => match st with
  | Sum.inr (Sum.inl v) :: r => am_fl (am_s2 ls i (lV v)) (fun l => a_go nx l r M)
  | _ => a_ret none
def o_as (i nx : Nat) : am_O := fun ls st M => match st with
  | Sum.inr (Sum.inr v) :: r => am_fl (am_s1 ls i (rV v)) (fun l => a_go nx l r M)
  | _ => a_ret none
def o_inc (i : Nat) (d : Int) (nx : Nat) : am_O := fun ls st M => match am_gl ls i with
  | some (Sum.inl v) => a_ck (v + d) (am_fl (am_s1 ls i (iV (v + d))) (fun l => a_go nx l st M))
  | _ => a_ret none
def o_add (nx : Nat) : am_O := fun ls st M => match st with
  | Sum.inl b :: Sum.inl a :: r => a_ck (a + b) (a_go nx ls (iV (a + b) :: r) M)
  | _ => a_ret none
def o_sub (nx : Nat) : am_O := fun ls st M => match st with
  | Sum.inl b :: Sum.inl a :: r => a_ck (a - b) (a_go nx ls (iV (a - b) :: r) M)
  | _ => a_ret none
def o_mul (nx : Nat) : am_O := fun ls st M => match st with
  | Sum.inl b :: Sum.inl a :: r => a_ck (a * b) (a_go nx ls (iV (a * b) :: r) M)
  | _ => a_ret none
def o_div (nx : Nat) : am_O := fun ls st M => match st with
  | Sum.inl b :: Sum.inl a :: r => a_if (b = 0) (a_ret none) (a_ck (Int.tdiv a b) (a_go nx ls (iV (Int.tdiv a b) :: r) M))
  | _ => a_ret none
def o_rem (nx : Nat) : am_O := fun ls st M => match st with
  | Sum.inl b :: Sum.inl a :: r => a_if (b = 0) (a_ret none) (a_ck (Int.tdiv a b) (a_go nx ls (iV (Int.tmod a b) :: r) M))
  | _ => a_ret none
def o_and (nx : Nat) : am_O := fun ls st M => match st with
  | Sum.inl b :: Sum.inl a :: r => a_go nx ls (iV (am_and a b) :: r) M
  | _ => a_ret none
def o_or (nx : Nat) : am_O := fun ls st M => match st with
  | Sum.inl b :: Sum.inl a :: r => a_go nx ls (iV (am_or a b) :: r) M
  | _ => a_ret none
def o_xor (nx : Nat) : am_O := fun ls st M => match st with
  | Sum.inl b :: Sum.inl a :: r => a_go nx ls (iV (am_xor a b) :: r) M
  | _ => a_ret none
def o_shl (nx : Nat) : am_O := fun ls st M => match st with
  | Sum.inl b :: Sum.inl a :: r => a_go nx ls (iV (am_shl a b) :: r) M
  | _ => a_ret none
def o_shr (nx : Nat) : am_O := fun ls st M => match st with
  | Sum.inl b :: Sum.inl a :: r => a_go nx ls (iV (am_shr a b) :: r) M
  | _ => a_ret none
def o_ladd (nx : Nat) : am_O := fun ls st M => match st with
  | Sum.inr (Sum.inl b) :: Sum.inr (Sum.inl a) :: r => a_cl (a + b) (a_go nx ls (lV (a + b) :: r) M)
  | _ => a_ret none
def o_lsub (nx : Nat) : am_O := fun ls st M => match st with
  | Sum.inr (Sum.inl b) :: Sum.inr (Sum.inl a) :: r => a_cl (a - b) (a_go nx ls (lV (a - b) :: r) M)
  | _ => a_ret none
def o_lmul (nx : Nat) : am_O := fun ls st M => match st with
  | Sum.inr (Sum.inl b) :: Sum.inr (Sum.inl a) :: r => a_cl (a * b) (a_go nx ls (lV (a * b) :: r) M)
  | _ => a_ret none
def o_ldiv (nx : Nat) : am_O := fun ls st M => match st with
  | Sum.inr (Sum.inl b) :: Sum.inr (Sum.inl a) :: r => a_if (b = 0) (a_ret none) (a_cl (Int.tdiv a b) (a_go nx ls (lV (Int.tdiv a b) :: r) M))
  | _ => a_ret none
def o_lrem (nx : Nat) : am_O := fun ls st M => match st with
  | Sum.inr (Sum.inl b) :: Sum.inr (Sum.inl a) :: r => a_if (b = 0) (a_ret none) (a_cl (Int.tdiv a b) (a_go nx ls (lV (Int.tmod a b) :: r) M))
  | _ => a_ret none
def o_land (nx : Nat) : am_O := fun ls st M => match st with
  | Sum.inr (Sum.inl b) :: Sum.inr (Sum.inl a) :: r => a_go nx ls (lV (am_land a b) :: r) M
  | _ => a_ret none
def o_lor (nx : Nat) : am_O := fun ls st M => match st with
  | Sum.inr (Sum.inl b) :: Sum.inr (Sum.inl a) :: r => a_go nx ls (lV (am_lor a b) :: r) M
  | _ => a_ret none
def o_lshl (nx : Nat) : am_O := fun ls st M => match st with
  | Sum.inl b :: Sum.inr (Sum.inl a) :: r => a_go nx ls (lV (am_lshl a b) :: r) M
  | _ => a_ret none
def o_lshr (nx : Nat) : am_O := fun ls st M => match st with
  | Sum.inl b :: Sum.inr (Sum.inl a) :: r => a_go nx ls (lV (am_lshr a b) :: r) M
  | _ => a_ret none
def o_i2l (nx : Nat) : am_O := fun ls st M => match st with
  | Sum.inl a :: r => a_go nx ls (lV a :: r) M
  | _ => a_ret none
def o_l2i (nx : Nat) : am_O := fun ls st M => match st with
  | Sum.inr (Sum.inl a) :: r => a_go nx ls (iV (am_l2i a) :: r) M
  | _ => a_ret none
def o_i2b (nx : Nat) : am_O := fun ls st M => match st with
  | Sum.inl a :: r => a_go nx ls (iV (am_i2b a) :: r) M
  | _ => a_ret none
def o_lcmp (nx : Nat) : am_O := fun ls st M => match st with
  | Sum.inr (Sum.inl b) :: Sum.inr (Sum.inl a) :: r => a_if (a < b) (a_go nx ls (iV (-1) :: r) M) (a_if (a = b) (a_go nx ls (iV 0 :: r) M) (a_go nx ls (iV 1 :: r) M))
  | _ => a_ret none
def o_ieq (t nx : Nat) : am_O := fun ls st M => match st with
  | Sum.inl b :: Sum.inl a :: r => a_if (a = b) (a_go t ls r M) (a_go nx ls r M)
  | _ => a_ret none
def o_ilt (t nx : Nat) : am_O := fun ls st M => match st with
  | Sum.inl b :: Sum.inl a :: r => a_if (a < b) (a_go t ls r M) (a_go nx ls r M)
  | _ => a_ret none
def o_igt (t nx : Nat) : am_O := fun ls st M => match st with
  | Sum.inl b :: Sum.inl a :: r => a_if (b < a) (a_go t ls r M) (a_go nx ls r M)
  | _ => a_ret none
def o_eq0 (t nx : Nat) : am_O := fun ls st M => match st with
  | Sum.inl a :: r => a_if (a = 0) (a_go t ls r M) (a_go nx ls r M)
  | _ => a_ret none
def o_lt0 (t nx : Nat) : am_O := fun ls st M => match st with
  | Sum.inl a :: r => a_if (a < 0) (a_go t ls r M) (a_go nx ls r M)
  | _ => a_ret none
def o_gt0 (t nx : Nat) : am_O := fun ls st M => match st with
  | Sum.inl a :: r => a_if (0 < a) (a_go t ls r M) (a_go nx ls r M)
  | _ => a_ret none
def o_goto (t : Nat) : am_O := fun ls st M => a_go t ls st M
def a_sw (v lo : Int) (k : Nat → am_A) (d : Nat) : List Nat → am_A
  | [] => k d
  | t :: ts => a_if (v = lo) (k t) (a_sw v (lo + 1) k d ts)
def o_ts (lo : Int) (ts : List Nat) (d : Nat) : am_O := fun ls st M => match st with
  | Sum.inl v :: r => a_sw v lo (fun t => a_go t ls r M) d ts
  | _ => a_ret none
def a_lk (v : Int) (k : Nat → am_A) (d : Nat) : List (Int × Nat) → am_A
  | [] => k d
  | (x, t) :: ts => a_if (v = x) (k t) (a_lk v k d ts)
def o_lk (ts : List (Int × Nat)) (d : Nat) : am_O := fun ls st M => match st with
  | Sum.inl v :: r => a_lk v (fun t => a_go t ls r M) d ts
  | _ => a_ret none
def o_gi (ci j nx : Nat) : am_O := fun ls st M => match st with
  | Sum.inr (Sum.inr a) :: r => a_bf (Nat.beq (am_K a) ci) (a_go nx ls (iV (M a j) :: r) M) (a_ret none)
  | _ => a_ret none
def o_gL (ci j nx : Nat) : am_O := fun ls st M => match st with
  | Sum.inr (Sum.inr a) :: r => a_bf (Nat.beq (am_K a) ci) (a_go nx ls (lV (M a j) :: r) M) (a_ret none)
  | _ => a_ret none
def o_gr (ci j nx : Nat) : am_O := fun ls st M => match st with
  | Sum.inr (Sum.inr a) :: r => a_bf (Nat.beq (am_K a) ci) (a_go nx ls (rV (am_REF a j) :: r) M) (a_ret none)
  | _ => a_ret none
def o_pi (ci j nx : Nat) : am_O := fun ls st M => match st with
  | Sum.inl v :: Sum.inr (Sum.inr a) :: r => a_bf (Nat.beq (am_K a) ci) (a_go nx ls r (am_up M a j v)) (a_ret none)
  | _ => a_ret none
def o_pz (ci j nx : Nat) : am_O := fun ls st M => match st with
  | Sum.inl v :: Sum.inr (Sum.inr a) :: r => a_bf (Nat.beq (am_K a) ci) (a_if (v = 0 ∨ v = 1) (a_go nx ls r (am_up M a j v)) (a_ret none)) (a_ret none)
  | _ => a_ret none
def o_pL (ci j nx : Nat) : am_O := fun ls st M => match st with
  | Sum.inr (Sum.inl v) :: Sum.inr (Sum.inr a) :: r => a_bf (Nat.beq (am_K a) ci) (a_go nx ls r (am_up M a j v)) (a_ret none)
  | _ => a_ret none
def a_bd (a : Nat) (i : Int) (k : am_A) : am_A := a_if (0 ≤ i ∧ i < (am_LEN a : Int)) k (a_ret none)
def o_ia (nx : Nat) : am_O := fun ls st M => match st with
  | Sum.inl i :: Sum.inr (Sum.inr a) :: r => a_bf (Nat.beq (am_K a) 100) (a_bd a i (a_go nx ls (iV (M a i.toNat) :: r) M)) (a_ret none)
  | _ => a_ret none
def o_ba (nx : Nat) : am_O := fun ls st M => match st with
  | Sum.inl i :: Sum.inr (Sum.inr a) :: r => a_bf (Nat.beq (am_K a) 101) (a_bd a i (a_go nx ls (iV (M a i.toNat) :: r) M)) (a_ret none)
  | _ => a_ret none
def o_la (nx : Nat) : am_O := fun ls st M => match st with
  | Sum.inl i :: Sum.inr (Sum.inr a) :: r => a_bf (Nat.beq (am_K a) 102) (a_bd a i (a_go nx ls (lV (M a i.toNat) :: r) M)) (a_ret none)
  | _ => a_ret none
def o_iw (nx : Nat) : am_O := fun ls st M => match st with
  | Sum.inl v :: Sum.inl i :: Sum.inr (Sum.inr a) :: r => a_bf (Nat.beq (am_K a) 100) (a_bd a i (a_go nx ls r (am_up M a i.toNat v))) (a_ret none)
  | _ => a_ret none
def o_bw (nx : Nat) : am_O := fun ls st M => match st with
  | Sum.inl v :: Sum.inl i :: Sum.inr (Sum.inr a) :: r => a_bf (Nat.beq (am_K a) 101) (a_bd a i (a_if (-128 ≤ v ∧ v ≤ 127) (a_go nx ls r (am_up M a i.toNat v)) (a_ret none))) (a_ret none)
  | _ => a_ret none
def o_lw (nx : Nat) : am_O := fun ls st M => match st with
  | Sum.inr (Sum.inl v) :: Sum.inl i :: Sum.inr (Sum.inr a) :: r => a_bf (Nat.beq (am_K a) 102) (a_bd a i (a_go nx ls r (am_up M a i.toNat v))) (a_ret none)
  | _ => a_ret none
def o_len (nx : Nat) : am_O := fun ls st M => match st with
  | Sum.inr (Sum.inr a) :: r => a_bf (Nat.beq (am_K a) 100) (a_go nx ls (iV (am_LEN a : Int) :: r) M) (a_ret none)
  | _ => a_ret none
def o_dup (nx : Nat) : am_O := fun ls st M => match st with
  | Sum.inl v :: r => a_go nx ls (iV v :: iV v :: r) M
  | Sum.inr (Sum.inr v) :: r => a_go nx ls (rV v :: rV v :: r) M
  | _ => a_ret none
def o_d2 (nx : Nat) : am_O := fun ls st M => match st with
  | Sum.inl i :: Sum.inr (Sum.inr a) :: r => a_go nx ls (iV i :: rV a :: iV i :: rV a :: r) M
  | _ => a_ret none
def o_pop2 (nx : Nat) : am_O := fun ls st M => match st with
  | Sum.inr (Sum.inl _) :: r => a_go nx ls r M
  | _ => a_ret none
def am_sp : Nat → List am_V → List am_V → Option (List am_V × List am_V)
  | 0, acc, st => some (acc, st)
  | n + 1, acc, v :: st => am_sp n (v :: acc) st
  | _ + 1, _, [] => none
def o_cv (y n ci rt nx : Nat) : am_O := fun ls st M => match am_sp n [] st with
  | some (as, Sum.inr (Sum.inr a) :: r) => a_bf (Nat.beq (am_K a) ci) (a_bf (Nat.ble (am_ct r) 8) (a_ca y (rV a :: as) M nx ls r rt) (a_ret none)) (a_ret none)
  | _ => a_ret none
def o_cs (y n rt nx : Nat) : am_O := fun ls st M => match am_sp n [] st with
  | some (as, r) => a_bf (Nat.ble (am_ct r) 8) (a_ca y as M nx ls r rt) (a_ret none)
  | _ => a_ret none
def o_mx (nx : Nat) : am_O := fun ls st M => match st with
  | Sum.inl b :: Sum.inl a :: r => a_bf (Nat.ble (am_ct r) 8) (a_go nx ls (iV (max a b) :: r) M) (a_ret none)
  | _ => a_ret none
def o_mn (nx : Nat) : am_O := fun ls st M => match st with
  | Sum.inl b :: Sum.inl a :: r => a_bf (Nat.ble (am_ct r) 8) (a_go nx ls (iV (min a b) :: r) M) (a_ret none)
  | _ => a_ret none
def o_lmx (nx : Nat) : am_O := fun ls st M => match st with
  | Sum.inr (Sum.inl b) :: Sum.inr (Sum.inl a) :: r => a_bf (Nat.ble (am_ct r) 8) (a_go nx ls (lV (max a b) :: r) M) (a_ret none)
  | _ => a_ret none
def o_lmn (nx : Nat) : am_O := fun ls st M => match st with
  | Sum.inr (Sum.inl b) :: Sum.inr (Sum.inl a) :: r => a_bf (Nat.ble (am_ct r) 8) (a_go nx ls (lV (min a b) :: r) M) (a_ret none)
  | _ => a_ret none
def am_cpy (M : am_M) (s sp d dp n : Nat) : am_M := fun a j => if a = d ∧ dp ≤ j ∧ j < dp + n then M s (sp + (j - dp)) else M a j
def o_cpy (k nx : Nat) : am_O := fun ls st M => match st with
  | Sum.inl n :: Sum.inl dp :: Sum.inr (Sum.inr d) :: Sum.inl sp :: Sum.inr (Sum.inr s) :: r => a_if (am_K s = k ∧ am_K d = k ∧ 0 ≤ sp ∧ 0 ≤ dp ∧ 0 ≤ n ∧ sp + n ≤ (am_LEN s : Int) ∧ dp + n ≤ (am_LEN d : Int) ∧ am_ct r ≤ 8) (a_go nx ls r (am_cpy M s sp.toNat d dp.toNat n.toNat)) (a_ret none)
  | _ => a_ret none
def am_txl : List (List Int) := ["reach field crop flow start night rotate mode swap lend shut ".toList.map (fun c => (c.toNat : Int)), " reach field crop flow start night rotate mode swap lend shut ".toList.map (fun c => (c.toNat : Int))]
def am_tx (i : Nat) : List Int := am_n1 [] am_txl i
def o_sl (nx : Nat) : am_O := fun ls st M => match st with
  | Sum.inr (Sum.inr a) :: r => a_bf (Nat.ble 1000 a && Nat.ble a 1001 && Nat.ble (am_ct r) 8) (a_go nx ls (iV ((am_tx (a - 1000)).length : Int) :: r) M) (a_ret none)
  | _ => a_ret none
def o_sc (nx : Nat) : am_O := fun ls st M => match st with
  | Sum.inl i :: Sum.inr (Sum.inr a) :: r => a_bf (Nat.ble 1000 a && Nat.ble a 1001 && Nat.ble (am_ct r) 8) (a_if (0 ≤ i ∧ i < ((am_tx (a - 1000)).length : Int)) (a_go nx ls (iV (am_n1 0 (am_tx (a - 1000)) i.toNat) :: r) M) (a_ret none)) (a_ret none)
  | _ => a_ret none
def o_ri : am_O := fun _ st M => match st with
  | [Sum.inl v] => a_ret (some (v, M))
  | _ => a_ret none
def o_rz : am_O := fun _ st M => match st with
  | [Sum.inl v] => a_if (v = 0 ∨ v = 1) (a_ret (some (v, M))) (a_ret none)
  | _ => a_ret none
def o_rl : am_O := fun _ st M => match st with
  | [Sum.inr (Sum.inl v)] => a_ret (some (v, M))
  | _ => a_ret none
def o_rv : am_O := fun _ st M => match st with
  | [] => a_ret (some (0, M))
  | _ => a_ret none
def o_no : am_O := fun _ _ _ => a_ret none
def o_mk (m : List Bool) (op : am_O) : am_O := fun ls st M => am_fl (am_mk m ls) (fun l => op l st M)
