-- what surrounds the cells: nest words, the two texts, two statics
def am_sby : List (List Int32) := am_txl.map (fun l => l.map Int32.ofInt)
def am_sle : List Nat := [61, 62]
def am_SX (u : am_U) (U : State) (H : Heap) : Prop := ∃ adV : Nat → Nat, vk_S 2 am_sle am_sby (fun i => u.2.2 (1000 + i)) adV (am_AW u) U H ∧ vk_R "WarabandiDesk$Reader" 165 "reach field crop flow start night rotate mode swap lend shut " (u.2.2 1000) U ∧ vk_R "WarabandiDeskModel" 123 " reach field crop flow start night rotate mode swap lend shut " (u.2.2 1001) U ∧ va_Z "java/lang/String" "COMPACT_STRINGS" "Z" (.int 1) (am_AW u) U H ∧ va_Zq "jdk/internal/util/Preconditions" "SIOOBE_FORMATTER" "Ljava/util/function/BiFunction;" (am_AW u) U H
def am_Ev (u : am_U) (U : State) (H : Heap) : Prop := (∀ w ∈ am_NW, va_Nw w U) ∧ am_SX u U H
theorem am_Ev_warm {u : am_U} {s U : State} {H : Heap} {locs : List Loc} (h : am_Ev u s s.heap) (hS : va_S (am_AW u) s.heap H locs) (hW : s.WarmedH U.vm) (hU : U.heap = H) : am_Ev u U U.heap := by
  obtain ⟨h1, adV, h2, h3, h4, h5, h6⟩ := h
  rw [hU]
  refine ⟨fun w hw => ?_, adV, (h2.kept hS.2.1).moved hW.alike, h3.warm hW, h4.warm hW, (h5.kept hS.2.1).moved hW.alike, (h6.kept hS.2.1).moved hW.alike⟩
  have hn := (List.mem_filter.mp hw).2
  have hz := h1 w hw
  cases w <;> first | exact va_Nw.warmF hW hz | (simp [am_isN] at hn)
theorem am_Ev_same {u : am_U} {s U : State} (h : am_Ev u s s.heap) (hv : U.vm = s.vm) (hU : U.heap = s.heap) : am_Ev u U U.heap := by
  obtain ⟨h1, adV, h2, h3, h4, h5, h6⟩ := h
  have ha : s.vm.Alike U.vm := by rw [hv]; exact Vm.Alike.refl _
  rw [hU]
  refine ⟨fun w hw => ?_, adV, h2.moved ha, h3.same hv, h4.same hv, h5.moved ha, h6.moved ha⟩
  have hn := (List.mem_filter.mp hw).2
  have hz := h1 w hw
  cases w <;> first | exact va_Nw.same rfl hv.symm hz | (simp [am_isN] at hn)
-- contracts
def am_rc (ret : Option FieldType) : Nat := match ret with
  | none => 0
  | some .long => 2
  | some _ => 1
def am_Pc (u : am_U) (as : List am_V) (M : am_M) : Array Value → State → Prop := va_Pc (as.map (am_rv u.2.2)) (fun U => va_P u.1 am_cl (am_wl u M) U.heap ∧ va_K u.1 am_cl (am_ty u) U ∧ am_Ev u U U.heap)
def am_Qc (u : am_U) (rt : Nat) (r : Int) (M : am_M) : Array Value → State → Outcome → State → Prop := match rt with
  | 0 => va_Qv (fun _ : Unit => True) (fun _ t => va_P u.1 am_cl (am_wl u M) t.heap ∧ am_wf M) (am_AW u)
  | 1 => va_Qi (fun (x : Int32) (_ : Unit) => x = Int32.ofInt r ∧ am_r32 r) (fun _ t => va_P u.1 am_cl (am_wl u M) t.heap ∧ am_wf M) (am_AW u)
  | _ => va_Ql (fun (x : Int64) (_ : Unit) => x = Int64.ofInt r ∧ am_r64 r) (fun _ t => va_P u.1 am_cl (am_wl u M) t.heap ∧ am_wf M) (am_AW u)
def am_ws (y : Nat) : List Cond := Cond.code (am_nm y) (am_by y) (am_mL y) (am_re y) :: am_TS
def am_rm (k : Nat) : Room := { frames := k, cells := 0, slots := 0, locals := k * 64 }
def am_Mt (l : Launch) (u : am_U) (y : Nat) (as : List am_V) (M : am_M) (r : Int) (M' : am_M) : Prop := Met l (am_nm y) (am_ws y) (am_rm (am_rk y)) (am_Pc u as M) (am_Qc u (am_rc (am_re y)) r M') 0 0 (am_AW u)
def am_Cx (p : Program) (R : Room) (s : State) (m : MethodId) (args : Array Value) (meth : Method) (c : Code) (u : am_U) (cc : ByteArray) (own : String) (nL rk : Nat) (ret : Option FieldType) : Prop :=
  p.tables.exec = Jvm.exec ∧ c.code = cc ∧ meth.sig.returnType = ret ∧ c.maxLocals = nL ∧ s.vm.findClass own = some m.cls ∧ (∀ w ∈ am_TS, w.before args s = true) ∧ va_K u.1 am_cl (am_ty u) s ∧ am_Ev u s s.heap ∧ am_Ad u ∧ meth.locks = false ∧ R = am_rm rk
def am_G (p : Program) (l : Launch) (e : Env) (R : Room) (s : State) (m : MethodId) (args : Array Value) (below : List Frame) (meth : Method) (c : Code) (Q : State → Prop) (u : am_U) (nL pc : Nat) (ls : am_L) (st : List am_V) (M : am_M) : Prop :=
  ∀ (ls' : Array Slot) (H : Heap) (locs : List Loc), am_LR u.2.2 ls ls' nL → (∀ v ∈ st, am_rg v) → am_wf M → va_P u.1 am_cl (am_wl u M) H → va_S (am_AW u) s.heap H locs → W p l e R s m args below meth c H locs 0 0 Q (F0 m pc ls' (st.map (am_rv u.2.2)))
def am_Sd (cc : ByteArray) (own : String) (nL rk : Nat) (ret : Option FieldType) (pcs : Nat → Nat) (ix : Nat) (op : am_O) : Prop :=
  ∀ (p : Program) (l : Launch) (e : Env) (R : Room) (s : State) (m : MethodId) (args : Array Value) (below : List Frame) (meth : Method) (c : Code) (u : am_U) (res : Int × am_M), am_Cx p R s m args meth c u cc own nL rk ret →
    ∀ (E : am_E) (C : am_C), (∀ ix ls st M, E ix ls st M = some res → am_G p l e R s m args below meth c (MQ below (am_Qc u (am_rc ret) res.1 res.2) args s 0 0 (am_AW u)) u nL (pcs ix) ls st M) →
    (∀ y as M r M', C y as M = some (r, M') → (∀ v ∈ as, am_rg v) → am_wf M → am_Mt l u y as M r M') →
    ∀ ls st M, op ls st M E C = some res → am_G p l e R s m args below meth c (MQ below (am_Qc u (am_rc ret) res.1 res.2) args s 0 0 (am_AW u)) u nL (pcs ix) ls st M
theorem am_ifs {c : Prop} [Decidable c] {x y : am_A} {E : am_E} {C : am_C} {r : Int × am_M} (h : a_if c x y E C = some r) : (c ∧ x E C = some r) ∨ (¬ c ∧ y E C = some r) := by
  unfold a_if at h
  split at h
  · rename_i hc; exact Or.inl ⟨hc, h⟩
  · rename_i hc; exact Or.inr ⟨hc, h⟩
theorem am_no {E : am_E} {C : am_C} {r : Int × am_M} (h : a_ret none E C = some r) : False := by cases h
theorem am_cks {x : Int} {k : am_A} {E : am_E} {C : am_C} {r : Int × am_M} (h : a_ck x k E C = some r) : am_r32 x ∧ k E C = some r := by
  rcases am_ifs h with q | q
  · exact q
  · exact (am_no q.2).elim
theorem am_cls {x : Int} {k : am_A} {E : am_E} {C : am_C} {r : Int × am_M} (h : a_cl x k E C = some r) : am_r64 x ∧ k E C = some r := by
  rcases am_ifs h with q | q
  · exact q
  · exact (am_no q.2).elim
theorem am_bds {a : Nat} {x : Int} {k : am_A} {E : am_E} {C : am_C} {r : Int × am_M} (h : a_bd a x k E C = some r) : (0 ≤ x ∧ x < (am_LEN a : Int)) ∧ k E C = some r := by
  rcases am_ifs h with q | q
  · exact q
  · exact (am_no q.2).elim
theorem am_bfs {b : Bool} {k : am_A} {E : am_E} {C : am_C} {r : Int × am_M} (h : a_bf b k (a_ret none) E C = some r) : b = true ∧ k E C = some r := by
  cases b with
  | true => exact ⟨rfl, h⟩
  | false => exact (am_no (E := E) (C := C) h).elim
theorem am_hc {v : am_V} {st : List am_V} (h1 : am_rg v) (h2 : ∀ x ∈ st, am_rg x) : ∀ x ∈ v :: st, am_rg x := List.forall_mem_cons.mpr ⟨h1, h2⟩
theorem am_h1 {v : am_V} {st : List am_V} (h : ∀ x ∈ v :: st, am_rg x) : am_rg v := (List.forall_mem_cons.mp h).1
theorem am_ht {v : am_V} {st : List am_V} (h : ∀ x ∈ v :: st, am_rg x) : ∀ x ∈ st, am_rg x := (List.forall_mem_cons.mp h).2
theorem am_ctc {ad : Nat → Nat} : ∀ (r : List am_V), ((r.map (am_rv ad)).map fun v => v.category).sum = am_ct r := by
  intro r
  induction r with
  | nil => rfl
  | cons v t ih =>
    rw [List.map_cons, List.map_cons, List.sum_cons, ih]
    rcases v with v | v | v
    · show 1 + am_ct t = am_ct t + 1; omega
    · show 2 + am_ct t = am_ct t + 2; omega
    · show 1 + am_ct t = am_ct t + 1; omega
