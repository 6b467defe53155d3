-- THE SMALL MACHINE AGAINST THE REAL ONE: what stands for what
abbrev am_U : Type := va_G × (Nat → ClassId) × (Nat → Nat)
def am_rv (ad : Nat → Nat) : am_V → Value
  | Sum.inl i => .int (Int32.ofInt i)
  | Sum.inr (Sum.inl i) => .long (Int64.ofInt i)
  | Sum.inr (Sum.inr a) => .ref (ad a)
def am_rg : am_V → Prop
  | Sum.inl i => am_r32 i
  | Sum.inr (Sum.inl i) => am_r64 i
  | Sum.inr (Sum.inr _) => True
def am_lg (a j : Nat) : Bool := Nat.beq (am_K a) 102 || Nat.beq (am_FT (am_K a) j) 1
def am_wf (M : am_M) : Prop := ∀ a j, bif am_lg a j then am_r64 (M a j) else am_r32 (M a j)
def am_fv (u : am_U) (f : Nat → Int) (a j : Nat) : Value := match am_FT (am_K a) j with
  | 1 => .long (Int64.ofInt (f j))
  | 2 => .ref (u.2.2 (am_REF a j))
  | _ => .int (Int32.ofInt (f j))
def am_fs (u : am_U) (f : Nat → Int) (a : Nat) : List Value := (List.range (am_NF (am_K a))).map (am_fv u f a)
def am_ce (u : am_U) (f : Nat → Int) (a : Nat) : va_E :=
  if am_K a = 102 then .inl (u.2.1 2, am_LEN a, .inr (.inl (fun j => Int64.ofInt (f j))))
  else if 100 ≤ am_K a then .inl (u.2.1 (am_K a - 100), am_LEN a, .inl (fun j => Int32.ofInt (f j)))
  else .inr (am_K a, am_fs u f a)
def am_wl (u : am_U) (M : am_M) : va_W := (List.range am_N).map (fun a => (u.2.2 a, am_ce u (M a) a))
theorem am_wl_at {u : am_U} {M : am_M} {a : Nat} (h : a < am_N) : (am_wl u M)[a]? = some (u.2.2 a, am_ce u (M a) a) := by
  unfold am_wl
  rw [List.getElem?_map, List.getElem?_range h]
  rfl
theorem am_wl_set {u : am_U} {M M' : am_M} {a : Nat} {x : va_E} (h : a < am_N) (hx : x = am_ce u (M' a) a) (hM : ∀ b, b ≠ a → M' b = M b) : (am_wl u M).set a (u.2.2 a, x) = am_wl u M' := by
  apply List.ext_getElem?
  intro b
  rw [List.getElem?_set]
  by_cases hb : b < am_N
  · by_cases e : a = b
    · subst e
      rw [if_pos rfl, if_pos (by simp [am_wl]; exact h), am_wl_at h, hx]
    · rw [if_neg e, am_wl_at hb, am_wl_at hb, hM b (fun q => e q.symm)]
  · have h1 : (am_wl u M)[b]? = none := by simp [am_wl]; omega
    have h2 : (am_wl u M')[b]? = none := by simp [am_wl]; omega
    by_cases e : a = b
    · omega
    · rw [if_neg e, h1, h2]
theorem am_n1_out {α : Type} {d : α} : ∀ {l : List α} {n : Nat}, l.length ≤ n → am_n1 d l n = d := by
  intro l
  induction l with
  | nil => intro n _; rfl
  | cons x t ih =>
    intro n h
    cases n with
    | zero => simp at h
    | succ n => exact ih (by simp at h; omega)
theorem am_K_out {a : Nat} (h : am_N ≤ a) : am_K a = 999 := by
  have h0 : 95 ≤ a := h
  unfold am_K am_n2
  rcases Nat.lt_or_ge (a / 16) 6 with q | q
  · have e1 : a / 16 = 5 := by omega
    have e2 : a % 16 = 15 := by omega
    rw [e1, e2]
    rfl
  · rw [am_n1_out (d := ([] : List Nat)) (n := a / 16) (by exact q)]
    rfl
theorem am_K_lt {a k : Nat} (h : am_K a = k) (hk : k < 999) : a < am_N := by
  rcases Nat.lt_or_ge a am_N with q | q
  · exact q
  · rw [am_K_out q] at h; omega
def am_ty (u : am_U) : List (ClassId × FieldType) := [(u.2.1 0, .int), (u.2.1 1, .byte), (u.2.1 2, .long)]
def am_AW (u : am_U) : Nat → Prop := fun q => ∃ a, a < am_N ∧ u.2.2 a = q
def am_Ad (u : am_U) : Prop := ∀ a b, a < am_N → b < am_N → u.2.2 a = u.2.2 b → a = b
theorem am_hD {u : am_U} {M : am_M} (h : am_Ad u) : va_D (am_AW u) (am_wl u M) := by
  have at' : ∀ (k : Nat) (q : Nat × va_E), (am_wl u M)[k]? = some q → k < am_N ∧ u.2.2 k = q.1 := by
    intro k q hq
    have hk : k < am_N := by
      rcases Nat.lt_or_ge k am_N with z | z
      · exact z
      · have : (am_wl u M)[k]? = none := by simp [am_wl]; omega
        rw [this] at hq; cases hq
    rw [am_wl_at hk] at hq
    cases hq
    exact ⟨hk, rfl⟩
  refine ⟨fun i j x y hi hj e => ?_, fun k q hq => ⟨k, at' k q hq⟩⟩
  obtain ⟨a1, a2⟩ := at' i x hi
  obtain ⟨b1, b2⟩ := at' j y hj
  exact h i j a1 b1 (by rw [a2, b2, e])
-- the objects' fields
theorem am_ce_obj {u : am_U} {f : Nat → Int} {a k : Nat} (h : am_K a = k) (hk : k < 100) : am_ce u f a = .inr (k, am_fs u f a) := by
  unfold am_ce
  rw [if_neg (by omega), if_neg (by omega), h]
theorem am_ce_i {u : am_U} {f : Nat → Int} {a : Nat} (h : am_K a = 100) : am_ce u f a = .inl (u.2.1 0, am_LEN a, .inl (fun j => Int32.ofInt (f j))) := by
  unfold am_ce
  rw [if_neg (by omega), if_pos (by omega), h]
theorem am_ce_b {u : am_U} {f : Nat → Int} {a : Nat} (h : am_K a = 101) : am_ce u f a = .inl (u.2.1 1, am_LEN a, .inl (fun j => Int32.ofInt (f j))) := by
  unfold am_ce
  rw [if_neg (by omega), if_pos (by omega), h]
theorem am_ce_l {u : am_U} {f : Nat → Int} {a : Nat} (h : am_K a = 102) : am_ce u f a = .inl (u.2.1 2, am_LEN a, .inr (.inl (fun j => Int64.ofInt (f j)))) := by
  unfold am_ce
  rw [if_pos h]
theorem am_fs_at {u : am_U} {f : Nat → Int} {a j : Nat} (h : j < am_NF (am_K a)) : (am_fs u f a)[j]? = some (am_fv u f a j) := by
  unfold am_fs
  rw [List.getElem?_map, List.getElem?_range h]
  rfl
theorem am_fs_len {u : am_U} {f : Nat → Int} {a : Nat} : (am_fs u f a).length = am_NF (am_K a) := by simp [am_fs]
theorem am_fs_set {u : am_U} {f g : Nat → Int} {a j : Nat} {v : Value} (hv : v = am_fv u g a j) (hg : ∀ k, k ≠ j → g k = f k) : (am_fs u f a).set j v = am_fs u g a := by
  apply List.ext_getElem?
  intro b
  rw [List.getElem?_set]
  by_cases hb : b < am_NF (am_K a)
  · by_cases e : j = b
    · subst e
      rw [if_pos rfl, if_pos (by rw [am_fs_len]; exact hb), am_fs_at hb, hv]
    · rw [if_neg e, am_fs_at hb, am_fs_at hb]
      unfold am_fv
      rw [hg b (fun q => e q.symm)]
  · have h1 : (am_fs u f a)[b]? = none := by simp [am_fs]; omega
    have h2 : (am_fs u g a)[b]? = none := by simp [am_fs]; omega
    by_cases e : j = b
    · subst e
      rw [if_pos rfl, if_neg (by rw [am_fs_len]; exact hb), h2]
    · rw [if_neg e, h1, h2]
theorem am_wf_i {M : am_M} (h : am_wf M) {a j : Nat} (hl : am_lg a j = false) : am_r32 (M a j) := by
  have := h a j
  rw [hl] at this
  exact this
theorem am_wf_l {M : am_M} (h : am_wf M) {a j : Nat} (hl : am_lg a j = true) : am_r64 (M a j) := by
  have := h a j
  rw [hl] at this
  exact this
theorem am_up_at (M : am_M) (a j : Nat) (v : Int) : am_up M a j v a j = v := by simp [am_up]
theorem am_up_ne (M : am_M) (a j : Nat) (v : Int) {b : Nat} (h : b ≠ a) : am_up M a j v b = M b := by
  funext k
  simp [am_up, h]
theorem am_up_nj (M : am_M) (a j : Nat) (v : Int) {b k : Nat} (h : k ≠ j) : am_up M a j v b k = M b k := by simp [am_up, h]
theorem am_wf_upi {M : am_M} (h : am_wf M) {a j : Nat} {v : Int} (hl : am_lg a j = false) (hv : am_r32 v) : am_wf (am_up M a j v) := by
  intro b k
  by_cases e : b = a ∧ k = j
  · obtain ⟨rfl, rfl⟩ := e
    rw [hl, am_up_at]
    exact hv
  · have : am_up M a j v b k = M b k := by simp [am_up, e]
    rw [this]
    exact h b k
theorem am_wf_upl {M : am_M} (h : am_wf M) {a j : Nat} {v : Int} (hl : am_lg a j = true) (hv : am_r64 v) : am_wf (am_up M a j v) := by
  intro b k
  by_cases e : b = a ∧ k = j
  · obtain ⟨rfl, rfl⟩ := e
    rw [hl, am_up_at]
    exact hv
  · have : am_up M a j v b k = M b k := by simp [am_up, e]
    rw [this]
    exact h b k
-- locals
theorem am_gl_sl : ∀ (l : am_L) (i k : Nat) (x : Option am_V) (w : am_V), am_gl (am_sl l i x) k = some w → (k = i ∧ x = some w) ∨ (k ≠ i ∧ am_gl l k = some w) := by
  intro l
  induction l with
  | nil => intro i k x w h; simp [am_sl, am_gl] at h
  | cons y t ih =>
    intro i k x w h
    cases i with
    | zero =>
      cases k with
      | zero => exact Or.inl ⟨rfl, h⟩
      | succ k => exact Or.inr ⟨by omega, h⟩
    | succ i =>
      cases k with
      | zero => exact Or.inr ⟨by omega, h⟩
      | succ k =>
        rcases ih i k x w h with ⟨e1, e2⟩ | ⟨e1, e2⟩
        · exact Or.inl ⟨by omega, e2⟩
        · exact Or.inr ⟨by omega, e2⟩
theorem am_gl_kl (ad : Nat → Nat) (l : am_L) (i k : Nat) (w : am_V) (h : am_gl (am_kl l i) k = some w) : am_gl l k = some w ∧ ¬ (k + 1 = i ∧ (am_rv ad w).category = 2) := by
  cases i with
  | zero => exact ⟨h, fun q => by omega⟩
  | succ j =>
    simp only [am_kl] at h
    split at h
    · rcases am_gl_sl l j k none w h with ⟨-, e⟩ | ⟨e1, e2⟩
      · cases e
      · exact ⟨e2, fun q => e1 (by omega)⟩
    · rename_i hn
      refine ⟨h, fun q => ?_⟩
      have e : k = j := by omega
      subst e
      rcases w with w | w | w
      · simp [am_rv, Value.category] at q
      · exact hn w h
      · simp [am_rv, Value.category] at q
def am_LR (ad : Nat → Nat) (ls : am_L) (ls' : Array Slot) (nL : Nat) : Prop := ls'.size = nL ∧ lv_wf ls' ∧ ∀ i v, am_gl ls i = some v → am_rg v ∧ ls'[i]? = some (.val (am_rv ad v))
def am_pr (ad : Nat → Nat) (ls : am_L) (nL : Nat) : List (Nat × Value) := (List.range nL).filterMap (fun i => (am_gl ls i).map (fun v => (i, am_rv ad v)))
theorem am_pr_has {ad : Nat → Nat} {ls : am_L} {ls' : Array Slot} {nL : Nat} (h : am_LR ad ls ls' nL) : lv_has ls' nL (am_pr ad ls nL) := by
  refine ⟨h.1, h.2.1, fun q hq => ?_⟩
  obtain ⟨i, -, hi⟩ := List.mem_filterMap.mp hq
  cases hg : am_gl ls i with
  | none => rw [hg] at hi; cases hi
  | some v =>
    rw [hg] at hi
    cases hi
    exact (h.2.2 i v hg).2
theorem am_pr_mem {ad : Nat → Nat} {ls : am_L} {ls' : Array Slot} {nL : Nat} (h : am_LR ad ls ls' nL) {i : Nat} {v : am_V} (hg : am_gl ls i = some v) : (i, am_rv ad v) ∈ am_pr ad ls nL := by
  refine List.mem_filterMap.mpr ⟨i, List.mem_range.mpr ?_, by rw [hg]; rfl⟩
  have h1 := (h.2.2 i v hg).2
  have h2 := (Array.getElem?_eq_some_iff.mp h1).1
  rw [h.1] at h2
  exact h2
theorem am_LR_s1 {ad : Nat → Nat} {ls : am_L} {ls' ls2 : Array Slot} {nL i : Nat} {v : am_V} (h : am_LR ad ls ls' nL) (hv : am_rg v) (h2 : lv_has ls2 nL ((i, am_rv ad v) :: (am_pr ad ls nL).filter (fun q => !(q.1 == i) && !(q.1 + 1 == i && q.2.category == 2)))) : am_LR ad (am_s1 ls i v) ls2 nL := by
  refine ⟨h2.1, h2.2.1, fun k w hk => ?_⟩
  rcases am_gl_sl _ _ _ _ _ hk with ⟨rfl, e⟩ | ⟨e1, e2⟩
  · cases e
    exact ⟨hv, h2.2.2 _ List.mem_cons_self⟩
  · obtain ⟨e3, e4⟩ := am_gl_kl ad _ _ _ _ e2
    refine ⟨(h.2.2 k w e3).1, h2.2.2 (k, am_rv ad w) (List.mem_cons_of_mem _ (List.mem_filter.mpr ⟨am_pr_mem h e3, ?_⟩))⟩
    simp only [Bool.and_eq_true, Bool.not_eq_true', beq_eq_false_iff_ne, ne_eq]
    refine ⟨e1, ?_⟩
    rw [Bool.eq_false_iff]
    intro q
    simp only [Bool.and_eq_true, beq_iff_eq] at q
    exact e4 q
theorem am_LR_s2 {ad : Nat → Nat} {ls : am_L} {ls' ls2 : Array Slot} {nL i : Nat} {v : am_V} (h : am_LR ad ls ls' nL) (hv : am_rg v) (h2 : lv_has ls2 nL ((i, am_rv ad v) :: (am_pr ad ls nL).filter (fun q => !(q.1 == i) && (!(q.1 == i + 1) && !(q.1 + 1 == i && q.2.category == 2))))) : am_LR ad (am_s2 ls i v) ls2 nL := by
  refine ⟨h2.1, h2.2.1, fun k w hk => ?_⟩
  rcases am_gl_sl _ _ _ _ _ hk with ⟨rfl, e⟩ | ⟨e1, e2⟩
  · cases e
    exact ⟨hv, h2.2.2 _ List.mem_cons_self⟩
  · rcases am_gl_sl _ _ _ _ _ e2 with ⟨-, e⟩ | ⟨e5, e6⟩
    · cases e
    · obtain ⟨e3, e4⟩ := am_gl_kl ad _ _ _ _ e6
      refine ⟨(h.2.2 k w e3).1, h2.2.2 (k, am_rv ad w) (List.mem_cons_of_mem _ (List.mem_filter.mpr ⟨am_pr_mem h e3, ?_⟩))⟩
      simp only [Bool.and_eq_true, Bool.not_eq_true', beq_eq_false_iff_ne, ne_eq]
      refine ⟨e1, e5, ?_⟩
      rw [Bool.eq_false_iff]
      intro q
      simp only [Bool.and_eq_true, beq_iff_eq] at q
      exact e4 q
theorem am_gl_mk : ∀ (m : List Bool) (l : am_L) (k : Nat) (w : am_V), am_gl (am_mk m l) k = some w → am_gl l k = some w := by
  intro m
  induction m with
  | nil => intro l k w h; cases l <;> exact h
  | cons b m ih =>
    intro l k w h
    cases l with
    | nil => exact h
    | cons x t =>
      cases k with
      | zero =>
        cases b with
        | true => exact h
        | false => simp [am_mk, am_gl] at h
      | succ k => exact ih t k w h
theorem am_LR_mk {ad : Nat → Nat} {ls : am_L} {ls' : Array Slot} {nL : Nat} (m : List Bool) (h : am_LR ad ls ls' nL) : am_LR ad (am_mk m ls) ls' nL := ⟨h.1, h.2.1, fun i v hi => h.2.2 i v (am_gl_mk m ls i v hi)⟩
