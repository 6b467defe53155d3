-- THE SMALL MACHINE: a method's instructions as functions on locals, stack and memory, numbers as Int, every cell of the two objects at a fixed place
abbrev am_V : Type := Int ⊕ Int ⊕ Nat
abbrev am_M : Type := Nat → Nat → Int
abbrev am_L : Type := List (Option am_V)
abbrev am_R : Type := Option (Int × am_M)
abbrev am_E : Type := Nat → am_L → List am_V → am_M → am_R
abbrev am_C : Type := Nat → List am_V → am_M → am_R
abbrev am_A : Type := am_E → am_C → am_R
abbrev am_O : Type := am_L → List am_V → am_M → am_A
abbrev iV (v : Int) : am_V := Sum.inl v
abbrev lV (v : Int) : am_V := Sum.inr (Sum.inl v)
abbrev rV (a : Nat) : am_V := Sum.inr (Sum.inr a)
def am_n1 {α : Type} (d : α) : List α → Nat → α
  | [], _ => d
  | x :: _, 0 => x
  | _ :: t, n + 1 => am_n1 d t n
def am_n2 {α : Type} (d : α) (l : List (List α)) (n : Nat) : α := am_n1 d (am_n1 [] l (n / 16)) (n % 16)
def am_up (M : am_M) (a j : Nat) (v : Int) : am_M := fun a' j' => if a' = a ∧ j' = j then v else M a' j'
def am_gl : am_L → Nat → Option am_V
  | [], _ => none
  | x :: _, 0 => x
  | _ :: t, n + 1 => am_gl t n
def am_sl : am_L → Nat → Option am_V → am_L
  | [], _, _ => []
  | _ :: t, 0, v => v :: t
  | x :: t, n + 1, v => x :: am_sl t n v
def am_kl : am_L → Nat → am_L
  | ls, 0 => ls
  | ls, j + 1 => match am_gl ls j with
    | some (Sum.inr (Sum.inl _)) => am_sl ls j none
    | _ => ls
def am_s1 (ls : am_L) (i : Nat) (v : am_V) : am_L := am_sl (am_kl ls i) i (some v)
def am_s2 (ls : am_L) (i : Nat) (v : am_V) : am_L := am_sl (am_sl (am_kl ls i) (i + 1) none) i (some v)
def am_mk : List Bool → am_L → am_L
  | b :: m, x :: t => (bif b then x else none) :: am_mk m t
  | _, t => t
def am_ct : List am_V → Nat
  | [] => 0
  | Sum.inr (Sum.inl _) :: t => am_ct t + 2
  | _ :: t => am_ct t + 1
-- actions
def a_ret (r : am_R) : am_A := fun _ _ => r
def a_go (ix : Nat) (ls : am_L) (st : List am_V) (M : am_M) : am_A := fun E _ => E ix ls st M
def a_if (c : Prop) [Decidable c] (x y : am_A) : am_A := fun E C => if c then x E C else y E C
def a_bf (b : Bool) (x y : am_A) : am_A := fun E C => bif b then x E C else y E C
def am_cb (x : am_R) (k : Int → am_M → am_R) : am_R := match x with
  | some (v, M) => k v M
  | none => none
def am_ps (rt : Nat) (v : Int) (st : List am_V) : List am_V := match rt with
  | 0 => st
  | 1 => iV v :: st
  | _ => lV v :: st
def a_ca (y : Nat) (as : List am_V) (M : am_M) (nx : Nat) (ls : am_L) (st : List am_V) (rt : Nat) : am_A := fun E C => am_cb (C y as M) (fun v M' => E nx ls (am_ps rt v st) M')
def am_Va (a : am_A) : Prop := (∃ r, a = a_ret r) ∨ (∃ ix ls st M, a = a_go ix ls st M) ∨ (∃ y as M nx ls st rt, a = a_ca y as M nx ls st rt)
theorem am_Va_ret (r : am_R) : am_Va (a_ret r) := Or.inl ⟨r, rfl⟩
theorem am_Va_go (ix : Nat) (ls : am_L) (st : List am_V) (M : am_M) : am_Va (a_go ix ls st M) := Or.inr (Or.inl ⟨ix, ls, st, M, rfl⟩)
theorem am_Va_ca (y : Nat) (as : List am_V) (M : am_M) (nx : Nat) (ls : am_L) (st : List am_V) (rt : Nat) : am_Va (a_ca y as M nx ls st rt) := Or.inr (Or.inr ⟨y, as, M, nx, ls, st, rt, rfl⟩)
theorem a_if_t {c : Prop} [Decidable c] {x y : am_A} (h : c) : a_if c x y = x := by
  funext E C
  exact if_pos h
theorem a_if_f {c : Prop} [Decidable c] {x y : am_A} (h : ¬ c) : a_if c x y = y := by
  funext E C
  exact if_neg h
theorem am_Va_if {c : Prop} [Decidable c] {x y : am_A} (hx : am_Va x) (hy : am_Va y) : am_Va (a_if c x y) := by
  by_cases h : c
  · rw [a_if_t h]; exact hx
  · rw [a_if_f h]; exact hy
theorem a_bf_t {x y : am_A} : a_bf true x y = x := rfl
theorem a_bf_f {x y : am_A} : a_bf false x y = y := rfl
theorem am_Va_bf {b : Bool} {x y : am_A} (hx : am_Va x) (hy : am_Va y) : am_Va (a_bf b x y) := by
  cases b with
  | true => exact hx
  | false => exact hy
def am_fl : am_L → (am_L → am_A) → am_A
  | [], k => k []
  | x :: t, k => am_fl t (fun t' => k (x :: t'))
theorem am_fl_eq : ∀ (ls : am_L) (k : am_L → am_A), am_fl ls k = k ls := by
  intro ls
  induction ls with
  | nil => intro k; rfl
  | cons x t ih => intro k; exact ih _
-- entry, running
def am_e1 : List am_V → am_L
  | [] => []
  | Sum.inr (Sum.inl v) :: t => some (lV v) :: none :: am_e1 t
  | v :: t => some v :: am_e1 t
def am_en (n : Nat) (as : List am_V) : am_L := am_e1 as ++ List.replicate (n - (am_e1 as).length) none
def am_ft (mL : Nat → Nat) (y : Nat) (as : List am_V) : Bool := Nat.ble (am_e1 as).length (mL y)
def am_ex (cd : Nat → Nat → am_O) (mL : Nat → Nat) : Nat → Nat → am_E
  | 0, _ => fun _ _ _ _ => none
  | n + 1, y => fun ix ls st M => cd y ix ls st M (am_ex cd mL n y) (fun y' as M' => bif am_ft mL y' as then am_ex cd mL n y' 0 (am_en (mL y') as) [] M' else none)
def am_co (cd : Nat → Nat → am_O) (mL : Nat → Nat) (n : Nat) : am_C := fun y' as M' => bif am_ft mL y' as then am_ex cd mL n y' 0 (am_en (mL y') as) [] M' else none
theorem am_ex_s (cd : Nat → Nat → am_O) (mL : Nat → Nat) (n y ix : Nat) (ls : am_L) (st : List am_V) (M : am_M) : am_ex cd mL (n + 1) y ix ls st M = cd y ix ls st M (am_ex cd mL n y) (am_co cd mL n) := rfl
theorem am_co_some {cd : Nat → Nat → am_O} {mL : Nat → Nat} {n y : Nat} {as : List am_V} {M : am_M} {r : Int × am_M} (h : am_co cd mL n y as M = some r) : am_ft mL y as = true ∧ am_ex cd mL n y 0 (am_en (mL y) as) [] M = some r := by
  unfold am_co at h
  cases hf : am_ft mL y as with
  | true => rw [hf] at h; exact ⟨rfl, h⟩
  | false => rw [hf] at h; cases h
theorem am_co_of {cd : Nat → Nat → am_O} {mL : Nat → Nat} {n y : Nat} {as : List am_V} {M : am_M} {r : Int × am_M} (hf : am_ft mL y as = true) (h : am_ex cd mL n y 0 (am_en (mL y) as) [] M = some r) : am_co cd mL n y as M = some r := by
  unfold am_co
  rw [hf]
  exact h
noncomputable def am_X (cd : Nat → Nat → am_O) (mL : Nat → Nat) (y : Nat) : am_E := fun ix ls st M => @dite am_R (∃ r, ∃ n, am_ex cd mL n y ix ls st M = some r) (Classical.propDecidable _) (fun h => some (Classical.choose h)) (fun _ => none)
noncomputable def am_Y (cd : Nat → Nat → am_O) (mL : Nat → Nat) : am_C := fun y as M => bif am_ft mL y as then am_X cd mL y 0 (am_en (mL y) as) [] M else none
theorem am_Y_some {cd : Nat → Nat → am_O} {mL : Nat → Nat} {y : Nat} {as : List am_V} {M : am_M} {r : Int × am_M} (h : am_Y cd mL y as M = some r) : am_ft mL y as = true ∧ am_X cd mL y 0 (am_en (mL y) as) [] M = some r := by
  unfold am_Y at h
  cases hf : am_ft mL y as with
  | true => rw [hf] at h; exact ⟨rfl, h⟩
  | false => rw [hf] at h; cases h
theorem am_Y_of {cd : Nat → Nat → am_O} {mL : Nat → Nat} {y : Nat} {as : List am_V} {M : am_M} {r : am_R} (hf : am_ft mL y as = true) (h : am_X cd mL y 0 (am_en (mL y) as) [] M = r) : am_Y cd mL y as M = r := by
  unfold am_Y
  rw [hf]
  exact h
section
variable {cd : Nat → Nat → am_O} {mL : Nat → Nat}
theorem am_mono1 (hV : ∀ y ix ls st M, am_Va (cd y ix ls st M)) : ∀ (n y ix : Nat) (ls : am_L) (st : List am_V) (M : am_M) (r : Int × am_M), am_ex cd mL n y ix ls st M = some r → am_ex cd mL (n + 1) y ix ls st M = some r := by
  intro n
  induction n with
  | zero => intro y ix ls st M r h; exact absurd h (by simp [am_ex])
  | succ n ih =>
    intro y ix ls st M r h
    rw [am_ex_s] at h ⊢
    rcases hV y ix ls st M with ⟨r0, e⟩ | ⟨i1, l1, s1, M1, e⟩ | ⟨y1, a1, M1, n1, l1, s1, rt, e⟩
    · rw [e] at h ⊢; exact h
    · rw [e] at h ⊢; exact ih _ _ _ _ _ _ h
    · rw [e] at h ⊢
      simp only [a_ca] at h ⊢
      cases hc : am_co cd mL n y1 a1 M1 with
      | none => rw [hc] at h; simp [am_cb] at h
      | some q =>
        obtain ⟨v, M2⟩ := q
        rw [hc] at h
        obtain ⟨hf, hc⟩ := am_co_some hc
        rw [am_co_of hf (ih _ _ _ _ _ _ hc)]
        exact ih _ _ _ _ _ _ h
theorem am_mono (hV : ∀ y ix ls st M, am_Va (cd y ix ls st M)) {n k y ix : Nat} {ls : am_L} {st : List am_V} {M : am_M} {r : Int × am_M} (h : am_ex cd mL n y ix ls st M = some r) : am_ex cd mL (n + k) y ix ls st M = some r := by
  induction k with
  | zero => exact h
  | succ k ih => exact am_mono1 hV _ _ _ _ _ _ _ ih
theorem am_X_iff (hV : ∀ y ix ls st M, am_Va (cd y ix ls st M)) {y ix : Nat} {ls : am_L} {st : List am_V} {M : am_M} {r : Int × am_M} : am_X cd mL y ix ls st M = some r ↔ ∃ n, am_ex cd mL n y ix ls st M = some r := by
  unfold am_X
  by_cases h : ∃ r, ∃ n, am_ex cd mL n y ix ls st M = some r
  · rw [dif_pos h]
    have hs := Classical.choose_spec h
    generalize Classical.choose h = r1 at hs
    obtain ⟨n1, h1⟩ := hs
    constructor
    · intro e; cases e; exact ⟨n1, h1⟩
    · rintro ⟨n2, h2⟩
      have e1 := am_mono hV (k := n2) h1
      have e2 := am_mono hV (k := n1) h2
      rw [Nat.add_comm] at e2
      rw [e1] at e2
      exact e2
  · rw [dif_neg h]
    constructor
    · intro e; cases e
    · rintro ⟨n2, h2⟩; exact absurd ⟨r, n2, h2⟩ h
theorem am_Xeq (hV : ∀ y ix ls st M, am_Va (cd y ix ls st M)) (y ix : Nat) (ls : am_L) (st : List am_V) (M : am_M) : am_X cd mL y ix ls st M = cd y ix ls st M (am_X cd mL y) (am_Y cd mL) := by
  apply Option.ext
  intro r
  rw [am_X_iff hV]
  rcases hV y ix ls st M with ⟨r0, e⟩ | ⟨i1, l1, s1, M1, e⟩ | ⟨y1, a1, M1, n1, l1, s1, rt, e⟩
  · rw [e]
    constructor
    · rintro ⟨n, h⟩
      cases n with
      | zero => simp [am_ex] at h
      | succ n => rw [am_ex_s, e] at h; exact h
    · intro h; exact ⟨1, by rw [am_ex_s, e]; exact h⟩
  · rw [e]
    constructor
    · rintro ⟨n, h⟩
      cases n with
      | zero => simp [am_ex] at h
      | succ n => rw [am_ex_s, e] at h; exact (am_X_iff hV).mpr ⟨n, h⟩
    · intro h
      obtain ⟨n, h⟩ := (am_X_iff hV).mp h
      exact ⟨n + 1, by rw [am_ex_s, e]; exact h⟩
  · rw [e]
    constructor
    · rintro ⟨n, h⟩
      cases n with
      | zero => simp [am_ex] at h
      | succ n =>
        rw [am_ex_s, e] at h
        simp only [a_ca] at h ⊢
        cases hc : am_co cd mL n y1 a1 M1 with
        | none => rw [hc] at h; simp [am_cb] at h
        | some q =>
          obtain ⟨v, M2⟩ := q
          rw [hc] at h
          obtain ⟨hf, hc⟩ := am_co_some hc
          have h5 : am_Y cd mL y1 a1 M1 = some (v, M2) := am_Y_of hf ((am_X_iff hV).mpr ⟨n, hc⟩)
          rw [h5]
          exact (am_X_iff hV).mpr ⟨n, h⟩
    · intro h
      simp only [a_ca] at h
      cases hc : am_Y cd mL y1 a1 M1 with
      | none => rw [hc] at h; simp [am_cb] at h
      | some q =>
        obtain ⟨v, M2⟩ := q
        rw [hc] at h
        obtain ⟨hf, hc⟩ := am_Y_some hc
        obtain ⟨n2, h2⟩ := (am_X_iff hV).mp hc
        obtain ⟨n3, h3⟩ := (am_X_iff hV).mp h
        refine ⟨n2 + n3 + 1, ?_⟩
        rw [am_ex_s, e]
        simp only [a_ca]
        rw [am_co_of hf (am_mono hV (k := n3) h2)]
        have h4 := am_mono hV (k := n2) h3
        rw [Nat.add_comm] at h4
        exact h4
def am_in (x : Nat) : List Nat → Bool
  | [] => false
  | y :: t => bif Nat.beq x y then true else am_in x t
def am_st (cy : Nat → am_O) (E : am_E) (C : am_C) (cut : List Nat) : Nat → am_E
  | 0 => E
  | k + 1 => fun ix ls st M => cy ix ls st M (fun ix' ls' st' M' => bif am_in ix' cut then E ix' ls' st' M' else am_st cy E C cut k ix' ls' st' M') C
theorem am_Xst (hV : ∀ y ix ls st M, am_Va (cd y ix ls st M)) (y : Nat) (cut : List Nat) : ∀ (k ix : Nat) (ls : am_L) (st : List am_V) (M : am_M), am_X cd mL y ix ls st M = am_st (cd y) (am_X cd mL y) (am_Y cd mL) cut k ix ls st M := by
  intro k
  induction k with
  | zero => intro ix ls st M; rfl
  | succ k ih =>
    intro ix ls st M
    show am_X cd mL y ix ls st M = cd y ix ls st M (fun ix' ls' st' M' => bif am_in ix' cut then am_X cd mL y ix' ls' st' M' else am_st (cd y) (am_X cd mL y) (am_Y cd mL) cut k ix' ls' st' M') (am_Y cd mL)
    rw [am_Xeq hV]
    congr 1
    funext ix' ls' st' M'
    cases am_in ix' cut with
    | true => rfl
    | false => exact ih ix' ls' st' M'
end
