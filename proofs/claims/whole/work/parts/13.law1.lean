/-! THE CLAIM OUT OF ONE WALK OF THE LAW'S BODY. Your part is whole_start (and what it stands on); all else here is the same for every law, but numbers. -/
def R_law : String := "WarabandiDeskLaw"
def lw_P (b : Addr) (xs : List Int32) (args : Array Value) (s : State) : Prop := args = #[.ref b] ∧ s.IntsAt b xs ∧ xs.length ≤ 3072 ∧ (Jvm.Cond.and given_1 narrow_1).before args s = true
def lw_Q (_ : Array Value) (s : State) (o : Outcome) (t : State) : Prop := o = .returned (some (.int 1)) ∧ Framed s o t [] 600000 7302250
def lw_Z (below : List Frame) (a : Array Value) (s : State) : State → Prop := fun t => ∃ o, t.status = .running ∧ Ended t below o ∧ lw_Q a s o t
/-- the law's own end, with 1 on the stack, nothing written that was there before, its room as the claim has it -/
theorem lw_ret {p : Program} {l : Launch} {e : Env} {s : State} {m : MethodId} {below : List Frame} {meth : Method} {c : Code} {b : Nat} (hx : p.tables.exec = Jvm.exec) (hb : c.code = code) (hr : meth.sig.returnType = ret) (hlocks : meth.locks = false) {pc : Nat} {H : Heap} {ls : Array Slot} (hdg : decode code pc = .ok (.ireturn, 1)) : W p l e room_1 s m #[Value.ref b] below meth c H [] 600000 7302250 (lw_Z below #[Value.ref b] s) (F0 m pc ls [.int 1]) := by
  intro T hT X
  obtain ⟨fs, hret, hrun, hended, hW, hframe⟩ := X.leave (v := some (.int 1)) (hlocks := hlocks) (fun h => by rw [hr] at h; cases h)
  have hmeth' : T.vm.method? m = some meth := X.method'
  refine ⟨T.setFrames fs, ?_, .returned (some (.int 1)), hrun, hended, rfl, ⟨_, rfl⟩, hW, hframe⟩
  jvm_step X.here [X.here.top, hx, hb, hdg, hmeth', hr, ret, narrow_b1]
  (try refine ⟨rfl, ?_⟩); (try refine ⟨rfl, ?_⟩)
  first | (intro acts; rw [hret _ acts rfl rfl rfl]) | rw [hret _ _ rfl rfl rfl]
  exact Steps.refl _
/-- what holds at the law's entry: the machine, the code, the tables' words (any of lw_tbl by 'hts w (by decide +kernel)'), the script of L ints xs at the cell b, what the Statement gives of the start (any of its parts by flat_of_before) -/
def lw_At (p : Program) (s : State) (m : MethodId) (meth : Method) (c : Code) (b L : Nat) (xs : Nat → Int32) : Prop :=
  p.tables.exec = Jvm.exec ∧ c.code = code ∧ meth.sig.returnType = ret ∧ c.maxLocals = 4 ∧ s.vm.findClass R_law = some m.cls ∧ (∀ w ∈ lw_tbl, w.before #[Value.ref b] s = true) ∧ va_X b L xs s s.heap ∧ b < s.heap.size ∧ meth.locks = false ∧ (Jvm.Cond.and given_1 narrow_1).before #[Value.ref b] s = true

/-- what holds through the law: the machine, the script, the tables, the cells' places -/
def lw_Cx (p : Program) (s : State) (m : MethodId) (c : Code) (b L : Nat) (xs : Nat → Int32) (u : am_U) : Prop :=
  p.tables.exec = Jvm.exec ∧ c.code = code ∧ c.maxLocals = 4 ∧ s.vm.findClass "WarabandiDeskLaw" = some m.cls ∧ (∀ w ∈ am_TS, w.before #[Value.ref b] s = true) ∧ va_X b L xs s s.heap ∧ b < s.heap.size ∧ L ≤ 3072 ∧ va_K u.1 am_cl (am_ty u) s ∧ am_Ev u s s.heap ∧ am_Ad u ∧ ∀ q, am_AW u q → s.heap.size ≤ q
abbrev lw_A (s : State) : Nat → Prop := fun q => s.heap.size ≤ q
/-- locals: the script, the two objects, i -/
def lw_Ls (u : am_U) (b i : Nat) (ls : Array Slot) : Prop := lv_has ls 4 [(3, .int (Int32.ofInt (i : Int))), (2, .ref (u.2.2 72)), (1, .ref (u.2.2 70)), (0, .ref b)]
theorem lw_ld {p : Program} {l : Launch} {e : Env} {s : State} {m : MethodId} {below : List Frame} {meth : Method} {c : Code} {b L : Nat} {xs : Nat → Int32} {u : am_U} {Q : State → Prop} {H : Heap} {locs : List Loc} {i k pc cells slots : Nat} {ls : Array Slot} {rest : List Value} (C : lw_Cx p s m c b L xs u) (hl : lw_Ls u b i ls) (hS : va_S (lw_A s) s.heap H locs) (hi : i + k < L) (d0 : decode code pc = .ok (.aload_n 0, 1)) (d1 : decode code (pc + 1) = .ok (.iload_n 3, 1)) (d2 : decode code (pc + 2) = .ok (.iconst (k : Int), 1)) (d3 : decode code (pc + 3) = .ok (.iadd, 1)) (d4 : decode code (pc + 4) = .ok (.iaload, 1))
    (kk : W p l e room_1 s m #[Value.ref b] below meth c H locs cells slots Q (F0 m (pc + 5) ls (.int (xs (i + k)) :: rest))) : W p l e room_1 s m #[Value.ref b] below meth c H locs cells slots Q (F0 m pc ls rest) := by
  obtain ⟨hx, hb, hml, hown, hts, hX, hbl, hL, hK, hEv, hAd, hAW⟩ := C
  refine lv_aload_n hx hb d0 rfl (lv_at hl 3 rfl) ?_
  refine lv_iload_n hx hb d1 rfl (lv_at hl 0 rfl) ?_
  refine lv_iconst (v := Int32.ofInt (k : Int)) hx hb d2 rfl ?_
  refine lv_iadd hx hb d3 ?_
  have hr : am_r32 ((i + k : Nat) : Int) := ⟨by omega, by omega⟩
  have e : Int32.ofInt (i : Int) + Int32.ofInt (k : Int) = Int32.ofInt ((i + k : Nat) : Int) := by rw [nm_add]; rfl
  rw [e]
  refine va_sld hx hb hX hbl (Nat.not_le.mpr hbl) hS (nm_in hr (by omega) (by omega)) d4 ?_
  rw [nm_cl hr, Int.toNat_natCast]
  exact kk
theorem lw_bo {p : Program} {l : Launch} {e : Env} {s : State} {m : MethodId} {below : List Frame} {meth : Method} {c : Code} {b L : Nat} {xs : Nat → Int32} {u : am_U} {Q : State → Prop} {H : Heap} {locs : List Loc} {pc cells slots : Nat} {ls : Array Slot} {rest : List Value} {v : Int32} (C : lw_Cx p s m c b L xs u) (d0 : decode code pc = .ok (.ifCond .eq 7, 3)) (d1 : decode code (pc + 3) = .ok (.iconst 1, 1)) (d2 : decode code (pc + 4) = .ok (.goto 4, 3)) (d3 : decode code (pc + 7) = .ok (.iconst 0, 1))
    (kk : W p l e room_1 s m #[Value.ref b] below meth c H locs cells slots Q (F0 m (pc + 8) ls (.int (Int32.ofInt (if v.toInt = 0 then 0 else 1)) :: rest))) : W p l e room_1 s m #[Value.ref b] below meth c H locs cells slots Q (F0 m pc ls (.int v :: rest)) := by
  obtain ⟨hx, hb, hml, hown, hts, hX, hbl, hL, hK, hEv, hAd, hAW⟩ := C
  refine lv_if_eq (tgt := pc + 7) hx hb d0 (by omega) (fun h => ?_) (fun h => ?_)
  · refine lv_iconst (v := 0) hx hb d3 rfl ?_
    subst h
    exact kk
  · refine lv_iconst (v := 1) hx hb d1 rfl ?_
    refine lv_goto (tgt := pc + 8) hx hb d2 (by omega) ?_
    have h2 : ¬ v.toInt = 0 := fun q => h (by rw [← nm_iof v, q]; rfl)
    rw [if_neg h2] at kk
    exact kk
theorem lw_c1 {p : Program} {l : Launch} {e : Env} {s : State} {m : MethodId} {below : List Frame} {meth : Method} {c : Code} {b L : Nat} {xs : Nat → Int32} {u : am_U} {Q : State → Prop} {H : Heap} {locs : List Loc} {pc y n idx ci N a cells slots : Nat} {Cn : String} {T : u_T} {ls : Array Slot} {rest st0 : List Value} {as : List am_V} {i : Nat} {M M1 : am_M} {r : Int} (C : lw_Cx p s m c b L xs u) (hl : lw_Ls u b i ls) (hS : va_S (lw_A s) s.heap H locs) (hP : va_P u.1 am_cl (am_wl u M) H) (hM : am_wf M) (has : ∀ v ∈ as, am_rg v) (hY : cY y (rV a :: as) M = some (r, M1)) (hKa : am_K a = ci) (hcl : am_Cl ci Cn T N) (my : am_My y n) (hn : as.length = n) (hlk : Cond.methodLink "WarabandiDeskLaw" idx (am_nm y) ∈ am_TS) (hins : Cond.instanceMethod (am_nm y) ∈ am_TS) (hsel : Cond.selects Cn (am_nm y) (am_nm y) ∈ am_TS) (hrt : am_rc (am_re y) = 1) (hrk : am_rk y ≤ 40) (hmL : am_mL y ≤ 40) (hst : st0 = (as.map (am_rv u.2.2)).reverse ++ .ref (u.2.2 a) :: rest) (hrest : (rest.map fun v => v.category).sum ≤ 8) (hcs : cells ≤ 600000) (hss : slots ≤ 7302250) (d : decode code pc = .ok (.invokevirtual idx, 3))
    (kk : ∀ (H1 : Heap) (locs1 : List Loc), va_P u.1 am_cl (am_wl u M1) H1 → am_wf M1 → am_r32 r → va_S (lw_A s) s.heap H1 locs1 → W p l e room_1 s m #[Value.ref b] below meth c H1 locs1 cells slots Q (F0 m (pc + 3) ls (.int (Int32.ofInt r) :: rest))) : W p l e room_1 s m #[Value.ref b] below meth c H locs cells slots Q (F0 m pc ls st0) := by
  obtain ⟨hx, hb, hml, hown, hts, hX, hbl, hL, hK, hEv, hAd, hAW⟩ := C
  have hmet := am_met l hAd hY (am_hc (v := rV a) trivial has) hM
  unfold am_Mt at hmet
  rw [hrt] at hmet
  have ha : a < am_N := am_K_lt hKa (by have := hcl.2.1; omega)
  have he : (am_wl u M)[a]? = some (u.2.2 a, .inr (ci, am_fs u (M a) a)) := by rw [am_wl_at ha, am_ce_obj hKa hcl.2.1]
  have hS2 : va_S (am_AW u) s.heap H [] := ⟨hS.1, fun q h1 _ => hS.2.1 q h1 (Nat.not_le.mpr h1), fun _ h => by cases h⟩
  have hrun := va_runV (As := as.map (am_rv u.2.2)) (rest := rest) (g := F0 m pc ls st0) (e := e) (below := below) (meth := meth) (locs := locs) (cells := cells) (slots := slots) (H := H) (b := u.2.2 a) (R := room_1) ⟨hx, hb, hml, hown, hts⟩ hmet ⟨kc_CB hts my.1 my.2.1 my.2.2.1 my.2.2.2 hlk rfl rfl (by show am_rk y + 1 ≤ 2048; omega) (by show 8 + (am_mL y + 11) + am_rk y * 64 ≤ 84000; omega), hts _ hins, hts _ hsel⟩ ⟨am_blind u _ M, va_recv hK hP hcl.1 he, fun U hU hW => ⟨rfl, by rw [hU]; exact hP, va_K.moved hW.alike hK, am_Ev_warm hEv hS2 hW hU⟩⟩ rfl (by rw [List.length_map]; exact hn) hl.1 hst (lv_room hrest) d ⟨hcs, hss⟩
  refine va_calli (S := Unit) (a := #[]) hrun hS (fun q _ h => hAW q h) (fun q h => hAW q h) (fun x uu t H1 locs1 ht hvm hpost hB hz hk2 hS1 => ?_)
  rw [hpost.1]
  exact kk H1 locs1 (by rw [← ht]; exact hB.1) hB.2 hpost.2 hS1
theorem lw_c2 {p : Program} {l : Launch} {e : Env} {s : State} {m : MethodId} {below : List Frame} {meth : Method} {c : Code} {b L : Nat} {xs : Nat → Int32} {u : am_U} {Q : State → Prop} {H : Heap} {locs : List Loc} {pc y n idx ci N a cells slots : Nat} {Cn : String} {T : u_T} {ls : Array Slot} {rest st0 : List Value} {as : List am_V} {i : Nat} {M M1 : am_M} {r : Int} (C : lw_Cx p s m c b L xs u) (hl : lw_Ls u b i ls) (hS : va_S (lw_A s) s.heap H locs) (hP : va_P u.1 am_cl (am_wl u M) H) (hM : am_wf M) (has : ∀ v ∈ as, am_rg v) (hY : cY y (rV a :: as) M = some (r, M1)) (hKa : am_K a = ci) (hcl : am_Cl ci Cn T N) (my : am_My y n) (hn : as.length = n) (hlk : Cond.methodLink "WarabandiDeskLaw" idx (am_nm y) ∈ am_TS) (hins : Cond.instanceMethod (am_nm y) ∈ am_TS) (hsel : Cond.selects Cn (am_nm y) (am_nm y) ∈ am_TS) (hrt : am_rc (am_re y) = 2) (hrk : am_rk y ≤ 40) (hmL : am_mL y ≤ 40) (hst : st0 = (as.map (am_rv u.2.2)).reverse ++ .ref (u.2.2 a) :: rest) (hrest : (rest.map fun v => v.category).sum ≤ 8) (hcs : cells ≤ 600000) (hss : slots ≤ 7302250) (d : decode code pc = .ok (.invokevirtual idx, 3))
    (kk : ∀ (H1 : Heap) (locs1 : List Loc), va_P u.1 am_cl (am_wl u M1) H1 → am_wf M1 → am_r64 r → va_S (lw_A s) s.heap H1 locs1 → W p l e room_1 s m #[Value.ref b] below meth c H1 locs1 cells slots Q (F0 m (pc + 3) ls (.long (Int64.ofInt r) :: rest))) : W p l e room_1 s m #[Value.ref b] below meth c H locs cells slots Q (F0 m pc ls st0) := by
  obtain ⟨hx, hb, hml, hown, hts, hX, hbl, hL, hK, hEv, hAd, hAW⟩ := C
  have hmet := am_met l hAd hY (am_hc (v := rV a) trivial has) hM
  unfold am_Mt at hmet
  rw [hrt] at hmet
  have ha : a < am_N := am_K_lt hKa (by have := hcl.2.1; omega)
  have he : (am_wl u M)[a]? = some (u.2.2 a, .inr (ci, am_fs u (M a) a)) := by rw [am_wl_at ha, am_ce_obj hKa hcl.2.1]
  have hS2 : va_S (am_AW u) s.heap H [] := ⟨hS.1, fun q h1 _ => hS.2.1 q h1 (Nat.not_le.mpr h1), fun _ h => by cases h⟩
  have hrun := va_runV (As := as.map (am_rv u.2.2)) (rest := rest) (g := F0 m pc ls st0) (e := e) (below := below) (meth := meth) (locs := locs) (cells := cells) (slots := slots) (H := H) (b := u.2.2 a) (R := room_1) ⟨hx, hb, hml, hown, hts⟩ hmet ⟨kc_CB hts my.1 my.2.1 my.2.2.1 my.2.2.2 hlk rfl rfl (by show am_rk y + 1 ≤ 2048; omega) (by show 8 + (am_mL y + 11) + am_rk y * 64 ≤ 84000; omega), hts _ hins, hts _ hsel⟩ ⟨am_blind u _ M, va_recv hK hP hcl.1 he, fun U hU hW => ⟨rfl, by rw [hU]; exact hP, va_K.moved hW.alike hK, am_Ev_warm hEv hS2 hW hU⟩⟩ rfl (by rw [List.length_map]; exact hn) hl.1 hst (lv_room hrest) d ⟨hcs, hss⟩
  refine va_calll (S := Unit) (a := #[]) hrun hS (fun q _ h => hAW q h) (fun q h => hAW q h) (fun x uu t H1 locs1 ht hvm hpost hB hz hk2 hS1 => ?_)
  rw [hpost.1]
  exact kk H1 locs1 (by rw [← ht]; exact hB.1) hB.2 hpost.2 hS1
/-- what a pair of calls owes: the same answer, and the pictures agree again -/
def lw_Pr (RI : am_M → Prop) (x y : Nat) (as : List am_V) : Prop := ∀ M, RI M → am_wf M → ∃ r M1 M2, cY x (rV 70 :: as) M = some (r, M1) ∧ cY y (rV 72 :: as) M1 = some (r, M2) ∧ RI M2
theorem lw_br (x : Int) : am_r32 (if x = 0 then 0 else 1) := by split <;> decide
