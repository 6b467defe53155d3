-- the JDK's own length() and charAt(k) on the two texts
theorem js_w {A : Nat → Prop} {H0 H : Heap} {locs : List Loc} (h : va_S (fun _ => False) H0 H locs) : va_S A H0 H locs := ⟨h.1, fun q h1 _ => h.2.1 q h1 id, fun l hl => (h.2.2 l hl).elim⟩
theorem js_CB {s : State} {args : Array Value} {own : String} {idx n rk k mL : Nat} {y : MethodName} {by0 : ByteArray} {re : Option FieldType} (hts : ∀ w ∈ am_TS, w.before args s = true) (hc : Cond.code y by0 mL re ∈ am_TS) (hi : Cond.initialized y.cls ∈ am_TS) (hne : y.cls ≠ "java/lang/invoke/MethodHandle" ∧ y.cls ≠ "java/lang/invoke/VarHandle") (hpd : (parseMethodDescriptor y.desc).map (fun d => d.parameters.length) = some n) (hlk : Cond.methodLink own idx y ∈ am_TS) (hrk : k + 1 ≤ rk) (hlo : mL + 19 + k * 64 ≤ rk * 64) : CallB (am_rm rk) s args own idx y by0 mL re (Cond.code y by0 mL re :: am_TS) (am_rm k) 0 0 n := by
  refine ⟨rfl, rfl, hrk, by show 8 + (mL + 11) + k * 64 ≤ rk * 64; omega, pay_in hts (fun w hw => ?_), List.mem_cons_self, hts _ hc, hts _ hi, hne, fun sig h => ?_, hts _ hlk⟩
  · have hm : w ∈ am_TS := by
      rcases List.mem_cons.mp hw with e | e
      · rw [e]; exact hc
      · exact e
    exact ⟨hm, good_of_word (List.mem_filter.mp hm).2⟩
  · rw [h] at hpd
    exact (Option.some.inj hpd).symm
abbrev js_Q (c : Int32) : Array Value → State → Outcome → State → Prop := va_Qi (fun (x : Int32) (_ : Unit) => x = c) (fun _ _ => True) (fun _ => False)
abbrev js_V : Array Value → State → Outcome → State → Prop := va_Qv (fun (_ : Unit) => True) (fun _ _ => True) (fun _ => False)
abbrev js_P (u : am_U) (av : List Value) : Array Value → State → Prop := va_Pc av (fun U => am_Ev u U U.heap)
abbrev js_T (u : am_U) (av : List Value) (t N : Nat) (f : Nat → Value) : Array Value → State → Prop := va_Pc av (fun U => am_Ev u U U.heap ∧ va_T .byte t N f (am_AW u) U U.heap)
theorem js_bP (u : am_U) (av : List Value) : FrameBlind (js_P u av) := fun a U g mk q => ⟨q.1, am_Ev_same q.2 rfl rfl⟩
theorem js_bT (u : am_U) (av : List Value) (t N : Nat) (f : Nat → Value) : FrameBlind (js_T u av t N f) := fun a U g mk q => ⟨q.1, am_Ev_same q.2.1 rfl rfl, va_T.moved (Vm.Alike.refl U.vm) q.2.2⟩
theorem js_bE (av : List Value) : FrameBlind (va_Pc av (fun _ => True)) := fun a U g mk q => q
abbrev yS (n d : String) : MethodName := ⟨"java/lang/String", n, d⟩
abbrev yL (n d : String) : MethodName := ⟨"java/lang/StringLatin1", n, d⟩
abbrev yQ (n d : String) : MethodName := ⟨"jdk/internal/util/Preconditions", n, d⟩
set_option maxRecDepth 100000 in
theorem j_coder (l : Launch) (u : am_U) {i : Nat} (hi : i < 2) : Met l (yS "coder" "()B") (Cond.code (yS "coder" "()B") prog_16_method_152_code 1 (some .byte) :: am_TS) (am_rm 0) (js_P u [.ref (u.2.2 (1000 + i))]) (js_Q 0) 0 0 (fun _ => False) := by
  refine Met.ofW (cc := prog_16_method_152_code) (maxL := 1) (ret := some .byte) (by decide) rfl ?_
  intro p e s m args below meth c s₁ B hml hv
  obtain ⟨rfl, hEv⟩ := hv
  have hx := B.exec
  have hb := B.bytes
  have hr := B.returns
  have hts := fun w hw => atoms_spec (ws := Cond.code (yS "coder" "()B") prog_16_method_152_code 1 (some .byte) :: am_TS) B.pre w (List.mem_cons_of_mem _ hw)
  have hown : s.vm.findClass "java/lang/String" = some m.cls := findClass_of_methodNamed B.named
  have hlocks := B.notSynchronized
  obtain ⟨-, adV, h2, h3, h4, h5, h6⟩ := id hEv
  have hS : va_S (fun _ => False) s.heap s.heap [] := va_S.rf
  have hl := lv_entry ([.ref (u.2.2 (1000 + i))]) (n := 1) (Nat.le_of_ble_eq_true rfl)
  rw [lg_entry_eq]
  generalize (lg_sl ([.ref (u.2.2 (1000 + i))]) ++ List.replicate (1 - (lg_sl ([.ref (u.2.2 (1000 + i))])).length) Slot.unset).toArray = ls at hl ⊢
  have hl : lv_has ls 1 [(0, .ref (u.2.2 (1000 + i)))] := hl
  refine va_gets hx hb h5 (js_w hS) hown (hts (.fieldLink "java/lang/String" 38 "java/lang/String" "COMPACT_STRINGS" "Z") (am_wd 494 (by decide +kernel) rfl)) (fun _ z => z) (show decode _ 0 = .ok (.getstatic 38, 3) by decide +kernel) ?_
  refine lv_if_eq (tgt := 13) hx hb (show decode _ 3 = .ok (.ifCond .eq 10, 3) by decide +kernel) (by decide) (fun q => absurd q (by decide)) (fun _ => ?_)
  refine lv_aload_n hx hb (show decode _ 6 = .ok (.aload_n 0, 1) by decide +kernel) rfl (lv_at hl 0 rfl) ?_
  refine vk_getf hx hb (h2.1 i hi).2.1 (js_w hS) hown (hts (.fieldLink "java/lang/String" 15 "java/lang/String" "coder" "B") (am_wd 1714 (by decide +kernel) rfl)) (fun _ z => z) (show decode _ 7 = .ok (.getfield 15, 3) by decide +kernel) ?_
  refine lv_goto (tgt := 14) hx hb (show decode _ 10 = .ok (.goto 4, 3) by decide +kernel) (by decide) ?_
  exact W.zret (ty := .byte) hx hb hr rfl (fun t ht hW => ⟨⟨_, (), rfl, rfl, trivial⟩, hS.F ht⟩) hS.2.2 (show decode _ 14 = .ok (.ireturn, 1) by decide +kernel) hlocks
set_option maxRecDepth 100000 in
theorem j_latin (l : Launch) (u : am_U) {i : Nat} (hi : i < 2) : Met l (yS "isLatin1" "()Z") (Cond.code (yS "isLatin1" "()Z") prog_16_method_154_code 1 (some .boolean) :: am_TS) (am_rm 0) (js_P u [.ref (u.2.2 (1000 + i))]) (js_Q 1) 0 0 (fun _ => False) := by
  refine Met.ofW (cc := prog_16_method_154_code) (maxL := 1) (ret := some .boolean) (by decide) rfl ?_
  intro p e s m args below meth c s₁ B hml hv
  obtain ⟨rfl, hEv⟩ := hv
  have hx := B.exec
  have hb := B.bytes
  have hr := B.returns
  have hts := fun w hw => atoms_spec (ws := Cond.code (yS "isLatin1" "()Z") prog_16_method_154_code 1 (some .boolean) :: am_TS) B.pre w (List.mem_cons_of_mem _ hw)
  have hown : s.vm.findClass "java/lang/String" = some m.cls := findClass_of_methodNamed B.named
  have hlocks := B.notSynchronized
  obtain ⟨-, adV, h2, h3, h4, h5, h6⟩ := id hEv
  have hS : va_S (fun _ => False) s.heap s.heap [] := va_S.rf
  have hl := lv_entry ([.ref (u.2.2 (1000 + i))]) (n := 1) (Nat.le_of_ble_eq_true rfl)
  rw [lg_entry_eq]
  generalize (lg_sl ([.ref (u.2.2 (1000 + i))]) ++ List.replicate (1 - (lg_sl ([.ref (u.2.2 (1000 + i))])).length) Slot.unset).toArray = ls at hl ⊢
  have hl : lv_has ls 1 [(0, .ref (u.2.2 (1000 + i)))] := hl
  refine va_gets hx hb h5 (js_w hS) hown (hts (.fieldLink "java/lang/String" 38 "java/lang/String" "COMPACT_STRINGS" "Z") (am_wd 494 (by decide +kernel) rfl)) (fun _ z => z) (show decode _ 0 = .ok (.getstatic 38, 3) by decide +kernel) ?_
  refine lv_if_eq (tgt := 17) hx hb (show decode _ 3 = .ok (.ifCond .eq 14, 3) by decide +kernel) (by decide) (fun q => absurd q (by decide)) (fun _ => ?_)
  refine lv_aload_n hx hb (show decode _ 6 = .ok (.aload_n 0, 1) by decide +kernel) rfl (lv_at hl 0 rfl) ?_
  refine vk_getf hx hb (h2.1 i hi).2.1 (js_w hS) hown (hts (.fieldLink "java/lang/String" 15 "java/lang/String" "coder" "B") (am_wd 1714 (by decide +kernel) rfl)) (fun _ z => z) (show decode _ 7 = .ok (.getfield 15, 3) by decide +kernel) ?_
  refine lv_if_ne (tgt := 17) hx hb (show decode _ 10 = .ok (.ifCond .ne 7, 3) by decide +kernel) (by decide) (fun q => absurd rfl q) (fun _ => ?_)
  refine lv_iconst (v := 1) hx hb (show decode _ 13 = .ok (.iconst 1, 1) by decide +kernel) (by decide) ?_
  refine lv_goto (tgt := 18) hx hb (show decode _ 14 = .ok (.goto 4, 3) by decide +kernel) (by decide) ?_
  exact W.zret (ty := .boolean) hx hb hr rfl (fun t ht hW => ⟨⟨_, (), rfl, rfl, trivial⟩, hS.F ht⟩) hS.2.2 (show decode _ 18 = .ok (.ireturn, 1) by decide +kernel) hlocks
set_option maxRecDepth 100000 in
theorem j_preN (l : Launch) (a b : Int32) (h0 : ¬ a < 0) (h1 : a < b) : Met l (yQ "checkIndex" "(IILjava/util/function/BiFunction;)I") (Cond.code (yQ "checkIndex" "(IILjava/util/function/BiFunction;)I") prog_21_method_11_code 3 (some .int) :: am_TS) (am_rm 0) (va_Pc [.int a, .int b, .null] (fun _ => True)) (js_Q a) 0 0 (fun _ => False) := by
  refine Met.ofW (cc := prog_21_method_11_code) (maxL := 3) (ret := (some .int)) (by decide) rfl ?_
  intro p e s m args below meth c s₁ B hml hv
  obtain ⟨rfl, -⟩ := hv
  have hx := B.exec
  have hb := B.bytes
  have hr := B.returns
  have hts := fun w hw => atoms_spec (ws := Cond.code (yQ "checkIndex" "(IILjava/util/function/BiFunction;)I") prog_21_method_11_code 3 (some .int) :: am_TS) B.pre w (List.mem_cons_of_mem _ hw)
  have hown : s.vm.findClass "jdk/internal/util/Preconditions" = some m.cls := findClass_of_methodNamed B.named
  have hlocks := B.notSynchronized
  have hS : va_S (fun _ => False) s.heap s.heap [] := va_S.rf
  have hl := lv_entry ([.int a, .int b, .null]) (n := 3) (Nat.le_of_ble_eq_true rfl)
  rw [lg_entry_eq]
  generalize (lg_sl ([.int a, .int b, .null]) ++ List.replicate (3 - (lg_sl ([.int a, .int b, .null])).length) Slot.unset).toArray = ls at hl ⊢
  have hl : lv_has ls 3 [(0, .int a), (1, .int b), (2, .null)] := hl
  refine lv_iload_n hx hb (show decode _ 0 = .ok (.iload_n 0, 1) by decide +kernel) rfl (lv_at hl 0 rfl) ?_
  refine lv_if_lt (tgt := 9) hx hb (show decode _ 1 = .ok (.ifCond .lt 8, 3) by decide +kernel) (by decide) (fun q => absurd q h0) (fun _ => ?_)
  refine lv_iload_n hx hb (show decode _ 4 = .ok (.iload_n 0, 1) by decide +kernel) rfl (lv_at hl 0 rfl) ?_
  refine lv_iload_n hx hb (show decode _ 5 = .ok (.iload_n 1, 1) by decide +kernel) rfl (lv_at hl 1 rfl) ?_
  refine lv_icmp_lt (tgt := 16) hx hb (show decode _ 6 = .ok (.if_icmp .lt 10, 3) by decide +kernel) (by decide) (fun _ => ?_) (fun q => absurd h1 q)
  refine lv_iload_n hx hb (show decode _ 16 = .ok (.iload_n 0, 1) by decide +kernel) rfl (lv_at hl 0 rfl) ?_
  exact W.iret hx hb hr (fun t ht hW => ⟨⟨_, (), rfl, rfl, trivial⟩, hS.F ht⟩) hS.2.2 (show decode _ 17 = .ok (.ireturn, 1) by decide +kernel) hlocks
set_option maxRecDepth 100000 in
theorem j_preR (l : Launch) (a b : Int32) (t : Nat) (h0 : ¬ a < 0) (h1 : a < b) : Met l (yQ "checkIndex" "(IILjava/util/function/BiFunction;)I") (Cond.code (yQ "checkIndex" "(IILjava/util/function/BiFunction;)I") prog_21_method_11_code 3 (some .int) :: am_TS) (am_rm 0) (va_Pc [.int a, .int b, .ref t] (fun _ => True)) (js_Q a) 0 0 (fun _ => False) := by
  refine Met.ofW (cc := prog_21_method_11_code) (maxL := 3) (ret := (some .int)) (by decide) rfl ?_
  intro p e s m args below meth c s₁ B hml hv
  obtain ⟨rfl, -⟩ := hv
  have hx := B.exec
  have hb := B.bytes
  have hr := B.returns
  have hts := fun w hw => atoms_spec (ws := Cond.code (yQ "checkIndex" "(IILjava/util/function/BiFunction;)I") prog_21_method_11_code 3 (some .int) :: am_TS) B.pre w (List.mem_cons_of_mem _ hw)
  have hown : s.vm.findClass "jdk/internal/util/Preconditions" = some m.cls := findClass_of_methodNamed B.named
  have hlocks := B.notSynchronized
  have hS : va_S (fun _ => False) s.heap s.heap [] := va_S.rf
  have hl := lv_entry ([.int a, .int b, .ref t]) (n := 3) (Nat.le_of_ble_eq_true rfl)
  rw [lg_entry_eq]
  generalize (lg_sl ([.int a, .int b, .ref t]) ++ List.replicate (3 - (lg_sl ([.int a, .int b, .ref t])).length) Slot.unset).toArray = ls at hl ⊢
  have hl : lv_has ls 3 [(0, .int a), (1, .int b), (2, .ref t)] := hl
  refine lv_iload_n hx hb (show decode _ 0 = .ok (.iload_n 0, 1) by decide +kernel) rfl (lv_at hl 0 rfl) ?_
  refine lv_if_lt (tgt := 9) hx hb (show decode _ 1 = .ok (.ifCond .lt 8, 3) by decide +kernel) (by decide) (fun q => absurd q h0) (fun _ => ?_)
  refine lv_iload_n hx hb (show decode _ 4 = .ok (.iload_n 0, 1) by decide +kernel) rfl (lv_at hl 0 rfl) ?_
  refine lv_iload_n hx hb (show decode _ 5 = .ok (.iload_n 1, 1) by decide +kernel) rfl (lv_at hl 1 rfl) ?_
  refine lv_icmp_lt (tgt := 16) hx hb (show decode _ 6 = .ok (.if_icmp .lt 10, 3) by decide +kernel) (by decide) (fun _ => ?_) (fun q => absurd h1 q)
  refine lv_iload_n hx hb (show decode _ 16 = .ok (.iload_n 0, 1) by decide +kernel) rfl (lv_at hl 0 rfl) ?_
  exact W.iret hx hb hr (fun t ht hW => ⟨⟨_, (), rfl, rfl, trivial⟩, hS.F ht⟩) hS.2.2 (show decode _ 17 = .ok (.ireturn, 1) by decide +kernel) hlocks
set_option maxRecDepth 100000 in
theorem j_chk (l : Launch) (u : am_U) (a b : Int32) (h0 : ¬ a < 0) (h1 : a < b) : Met l (yS "checkIndex" "(II)V") (Cond.code (yS "checkIndex" "(II)V") prog_16_method_155_code 2 none :: am_TS) (am_rm 1) (js_P u [.int a, .int b]) js_V 0 0 (fun _ => False) := by
  refine Met.ofW (cc := prog_16_method_155_code) (maxL := 2) (ret := none) (by decide) rfl ?_
  intro p e s m args below meth c s₁ B hml hv
  obtain ⟨rfl, hEv⟩ := hv
  have hx := B.exec
  have hb := B.bytes
  have hr := B.returns
  have hts := fun w hw => atoms_spec (ws := Cond.code (yS "checkIndex" "(II)V") prog_16_method_155_code 2 none :: am_TS) B.pre w (List.mem_cons_of_mem _ hw)
  have hown : s.vm.findClass "java/lang/String" = some m.cls := findClass_of_methodNamed B.named
  have hlocks := B.notSynchronized
  have hS : va_S (fun _ => False) s.heap s.heap [] := va_S.rf
  have hl := lv_entry ([.int a, .int b]) (n := 2) (Nat.le_of_ble_eq_true rfl)
  rw [lg_entry_eq]
  generalize (lg_sl ([.int a, .int b]) ++ List.replicate (2 - (lg_sl ([.int a, .int b])).length) Slot.unset).toArray = ls at hl ⊢
  have hl : lv_has ls 2 [(0, .int a), (1, .int b)] := hl
  obtain ⟨-, adV, h2, h3, h4, h5, h6⟩ := id hEv
  refine lv_iload_n hx hb (show decode _ 0 = .ok (.iload_n 0, 1) by decide +kernel) rfl (lv_at hl 0 rfl) ?_
  refine lv_iload_n hx hb (show decode _ 1 = .ok (.iload_n 1, 1) by decide +kernel) rfl (lv_at hl 1 rfl) ?_
  rcases h6 with h6 | ⟨t, h6⟩
  · refine va_gets hx hb h6 (js_w hS) hown (hts (.fieldLink "java/lang/String" 1053 "jdk/internal/util/Preconditions" "SIOOBE_FORMATTER" "Ljava/util/function/BiFunction;") (am_wd 510 (by decide +kernel) rfl)) (fun _ z => z) (show decode _ 2 = .ok (.getstatic 1053, 3) by decide +kernel) ?_
    have hrun := va_runS (As := [.int a, .int b, .null]) (rest := []) (g := F0 m 5 ls [.null, .int b, .int a]) (e := e) (below := below) (meth := meth) (locs := []) (cells := 0) (slots := 0) (H := s.heap) (nL := 2) ⟨hx, hb, hml, hown, hts⟩ (j_preN l a b h0 h1) ⟨js_CB (rk := 1) hts (am_wd 514 (by decide +kernel) rfl) (am_wd 17 (by decide +kernel) rfl) (by decide) (n := 3) (by decide +kernel) (hlk := am_wd 512 (by decide +kernel) rfl) (by decide) (by decide), hts _ (am_wd 513 (by decide +kernel) rfl)⟩ ⟨js_bE _, fun U hU hW => ⟨rfl, trivial⟩⟩ rfl rfl hl.1 rfl (lv_room (Nat.le_of_ble_eq_true rfl)) (show decode _ 5 = .ok (.invokestatic 1059, 3) by decide +kernel) ⟨Nat.le_refl 0, Nat.le_refl 0⟩
    refine va_calli (S := Unit) (a := #[]) hrun hS (fun q _ h => h) (fun q h => h) (fun x uu t H1 locs1 ht hvm hpost hB hz hk2 hS1 => ?_)
    refine lv_pop hx hb (show decode _ 8 = .ok (.pop, 1) by decide +kernel) rfl ?_
    exact W.vret hx hb hr (fun t ht hW => ⟨⟨(), rfl, trivial, trivial⟩, hS1.F ht⟩) hS1.2.2 (show decode _ 9 = .ok (.return_, 1) by decide +kernel) hlocks
  · refine va_gets hx hb h6 (js_w hS) hown (hts (.fieldLink "java/lang/String" 1053 "jdk/internal/util/Preconditions" "SIOOBE_FORMATTER" "Ljava/util/function/BiFunction;") (am_wd 510 (by decide +kernel) rfl)) (fun _ z => z) (show decode _ 2 = .ok (.getstatic 1053, 3) by decide +kernel) ?_
    have hrun := va_runS (As := [.int a, .int b, .ref t]) (rest := []) (g := F0 m 5 ls [.ref t, .int b, .int a]) (e := e) (below := below) (meth := meth) (locs := []) (cells := 0) (slots := 0) (H := s.heap) (nL := 2) ⟨hx, hb, hml, hown, hts⟩ (j_preR l a b t h0 h1) ⟨js_CB (rk := 1) hts (am_wd 514 (by decide +kernel) rfl) (am_wd 17 (by decide +kernel) rfl) (by decide) (n := 3) (by decide +kernel) (hlk := am_wd 512 (by decide +kernel) rfl) (by decide) (by decide), hts _ (am_wd 513 (by decide +kernel) rfl)⟩ ⟨js_bE _, fun U hU hW => ⟨rfl, trivial⟩⟩ rfl rfl hl.1 rfl (lv_room (Nat.le_of_ble_eq_true rfl)) (show decode _ 5 = .ok (.invokestatic 1059, 3) by decide +kernel) ⟨Nat.le_refl 0, Nat.le_refl 0⟩
    refine va_calli (S := Unit) (a := #[]) hrun hS (fun q _ h => h) (fun q h => h) (fun x uu t H1 locs1 ht hvm hpost hB hz hk2 hS1 => ?_)
    refine lv_pop hx hb (show decode _ 8 = .ok (.pop, 1) by decide +kernel) rfl ?_
    exact W.vret hx hb hr (fun t ht hW => ⟨⟨(), rfl, trivial, trivial⟩, hS1.F ht⟩) hS1.2.2 (show decode _ 9 = .ok (.return_, 1) by decide +kernel) hlocks
set_option maxRecDepth 100000 in
theorem j_lat (l : Launch) (u : am_U) (t N : Nat) (k v0 v : Int32) (f : Nat → Value) (h0 : ¬ k < 0) (h1 : k < Int32.ofNat N) (hin : vp_in k N) (hf : f k.toNatClampNeg = .int v0) (hv0 : ((v0 &&& 255).toUInt32 % 65536).toInt32 = v) (hnar : narrow .char (.int v) = .int v) : Met l (yL "charAt" "([BI)C") (Cond.code (yL "charAt" "([BI)C") prog_17_method_2_code 2 (some .char) :: am_TS) (am_rm 2) (js_T u [.ref t, .int k] t N f) (js_Q v) 0 0 (fun _ => False) := by
  refine Met.ofW (cc := prog_17_method_2_code) (maxL := 2) (ret := (some .char)) (by decide) rfl ?_
  intro p e s m args below meth c s₁ B hml hv
  obtain ⟨rfl, hEv, hT⟩ := hv
  have hx := B.exec
  have hb := B.bytes
  have hr := B.returns
  have hts := fun w hw => atoms_spec (ws := Cond.code (yL "charAt" "([BI)C") prog_17_method_2_code 2 (some .char) :: am_TS) B.pre w (List.mem_cons_of_mem _ hw)
  have hown : s.vm.findClass "java/lang/StringLatin1" = some m.cls := findClass_of_methodNamed B.named
  have hlocks := B.notSynchronized
  have hS : va_S (fun _ => False) s.heap s.heap [] := va_S.rf
  have hl := lv_entry ([.ref t, .int k]) (n := 2) (Nat.le_of_ble_eq_true rfl)
  rw [lg_entry_eq]
  generalize (lg_sl ([.ref t, .int k]) ++ List.replicate (2 - (lg_sl ([.ref t, .int k])).length) Slot.unset).toArray = ls at hl ⊢
  have hl : lv_has ls 2 [(0, .ref t), (1, .int k)] := hl
  refine lv_iload_n hx hb (show decode _ 0 = .ok (.iload_n 1, 1) by decide +kernel) rfl (lv_at hl 1 rfl) ?_
  refine lv_aload_n hx hb (show decode _ 1 = .ok (.aload_n 0, 1) by decide +kernel) rfl (lv_at hl 0 rfl) ?_
  refine va_tlen hx hb hT (js_w hS) rfl (show decode _ 2 = .ok (.arraylength, 1) by decide +kernel) ?_
  have hrun := va_runS (As := [.int k, .int (Int32.ofNat N)]) (rest := []) (g := F0 m 3 ls [.int (Int32.ofNat N), .int k]) (e := e) (below := below) (meth := meth) (locs := []) (cells := 0) (slots := 0) (H := s.heap) (nL := 2) ⟨hx, hb, hml, hown, hts⟩ (j_chk l u k (Int32.ofNat N) h0 h1) ⟨js_CB (rk := 2) hts (am_wd 509 (by decide +kernel) rfl) (am_wd 15 (by decide +kernel) rfl) (by decide) (n := 2) (by decide +kernel) (hlk := am_wd 507 (by decide +kernel) rfl) (by decide) (by decide), hts _ (am_wd 508 (by decide +kernel) rfl)⟩ ⟨js_bP u _, fun U hU hW => ⟨rfl, am_Ev_warm hEv (js_w hS) hW hU⟩⟩ rfl rfl hl.1 rfl (lv_room (Nat.le_of_ble_eq_true rfl)) (show decode _ 3 = .ok (.invokestatic 9, 3) by decide +kernel) ⟨Nat.le_refl 0, Nat.le_refl 0⟩
  refine va_callv (S := Unit) (a := #[]) hrun hS (fun q _ h => h) (fun q h => h) (fun uu t2 H1 locs1 ht hvm hpost hB hz hk2 hS1 => ?_)
  refine lv_aload_n hx hb (show decode _ 6 = .ok (.aload_n 0, 1) by decide +kernel) rfl (lv_at hl 0 rfl) ?_
  refine lv_iload_n hx hb (show decode _ 7 = .ok (.iload_n 1, 1) by decide +kernel) rfl (lv_at hl 1 rfl) ?_
  refine va_tb hx hb hT (js_w hS1) hin hf (show decode _ 8 = .ok (.baload, 1) by decide +kernel) ?_
  refine lv_sipush (v := 255) hx hb (show decode _ 9 = .ok (.sipush 255, 3) by decide +kernel) (by decide) ?_
  refine lv_iand hx hb (show decode _ 12 = .ok (.iand, 1) by decide +kernel) ?_
  refine lv_i2c hx hb (show decode _ 13 = .ok (.i2c, 1) by decide +kernel) hv0 ?_
  exact W.zret (ty := .char) hx hb hr hnar (fun t ht hW => ⟨⟨_, (), rfl, rfl, trivial⟩, hS1.F ht⟩) hS1.2.2 (show decode _ 14 = .ok (.ireturn, 1) by decide +kernel) hlocks
theorem js_ch : ∀ i, i < 2 → ∀ k, k < am_sle.getD i 0 → (((((am_sby.getD i []).getD k 0) &&& 255).toUInt32 % 65536).toInt32 = Int32.ofInt (am_n1 0 (am_tx i) k) ∧ narrow .char (.int (Int32.ofInt (am_n1 0 (am_tx i) k))) = .int (Int32.ofInt (am_n1 0 (am_tx i) k))) := by decide +kernel
set_option maxRecDepth 100000 in
theorem j_charAt (l : Launch) (u : am_U) {i k : Nat} (hi : i < 2) (hk : k < am_sle.getD i 0) (hk2 : k < 100) : Met l (yS "charAt" "(I)C") (Cond.code (yS "charAt" "(I)C") prog_16_method_56_code 2 (some .char) :: am_TS) (am_rm 3) (js_P u [.ref (u.2.2 (1000 + i)), .int (Int32.ofInt k)]) (js_Q (Int32.ofInt (am_n1 0 (am_tx i) k))) 0 0 (fun _ => False) := by
  refine Met.ofW (cc := prog_16_method_56_code) (maxL := 2) (ret := (some .char)) (by decide) rfl ?_
  intro p e s m args below meth c s₁ B hml hv
  obtain ⟨rfl, hEv⟩ := hv
  have hx := B.exec
  have hb := B.bytes
  have hr := B.returns
  have hts := fun w hw => atoms_spec (ws := Cond.code (yS "charAt" "(I)C") prog_16_method_56_code 2 (some .char) :: am_TS) B.pre w (List.mem_cons_of_mem _ hw)
  have hown : s.vm.findClass "java/lang/String" = some m.cls := findClass_of_methodNamed B.named
  have hlocks := B.notSynchronized
  have hS : va_S (fun _ => False) s.heap s.heap [] := va_S.rf
  have hl := lv_entry ([.ref (u.2.2 (1000 + i)), .int (Int32.ofInt k)]) (n := 2) (Nat.le_of_ble_eq_true rfl)
  rw [lg_entry_eq]
  generalize (lg_sl ([.ref (u.2.2 (1000 + i)), .int (Int32.ofInt k)]) ++ List.replicate (2 - (lg_sl ([.ref (u.2.2 (1000 + i)), .int (Int32.ofInt k)])).length) Slot.unset).toArray = ls at hl ⊢
  have hl : lv_has ls 2 [(0, .ref (u.2.2 (1000 + i))), (1, .int (Int32.ofInt k))] := hl
  obtain ⟨-, adV, h2, h3, h4, h5, h6⟩ := id hEv
  have hr2 : am_r32 (k : Int) := ⟨by omega, by omega⟩
  have hlen : am_sle.getD i 0 < 100 := by rcases (show i = 0 ∨ i = 1 by omega) with rfl | rfl <;> decide
  refine lv_aload_n hx hb (show decode _ 0 = .ok (.aload_n 0, 1) by decide +kernel) rfl (lv_at hl 0 rfl) ?_
  have hrun := va_runV (As := []) (rest := []) (g := F0 m 1 ls [.ref (u.2.2 (1000 + i))]) (e := e) (below := below) (meth := meth) (locs := []) (cells := 0) (slots := 0) (H := s.heap) (b := u.2.2 (1000 + i)) (nL := 2) (C := "java/lang/String") ⟨hx, hb, hml, hown, hts⟩ (j_latin l u hi) ⟨js_CB (rk := 3) hts (am_wd 503 (by decide +kernel) rfl) (am_wd 15 (by decide +kernel) rfl) (by decide) (n := 0) (by decide +kernel) (hlk := am_wd 500 (by decide +kernel) rfl) (by decide) (by decide), hts _ (am_wd 501 (by decide +kernel) rfl), hts _ (am_wd 502 (by decide +kernel) rfl)⟩ ⟨js_bP u _, vk_recv (adK := fun i => u.2.2 (1000 + i)) (i := i) h2 hi (js_w hS), fun U hU hW => ⟨rfl, am_Ev_warm hEv (js_w hS) hW hU⟩⟩ rfl rfl hl.1 rfl (lv_room (Nat.le_of_ble_eq_true rfl)) (show decode _ 1 = .ok (.invokevirtual 492, 3) by decide +kernel) ⟨Nat.le_refl 0, Nat.le_refl 0⟩
  refine va_calli (S := Unit) (a := #[]) hrun hS (fun q _ h => h) (fun q h => h) (fun x uu t2 H1 locs1 ht hvm hpost hB hz hk3 hS1 => ?_)
  rw [hpost]
  refine lv_if_eq (tgt := 16) hx hb (show decode _ 4 = .ok (.ifCond .eq 12, 3) by decide +kernel) (by decide) (fun q => absurd q (by decide)) (fun _ => ?_)
  refine lv_aload_n hx hb (show decode _ 7 = .ok (.aload_n 0, 1) by decide +kernel) rfl (lv_at hl 0 rfl) ?_
  refine vk_getf hx hb (h2.1 i hi).2.2.1 (js_w hS1) hown (hts (.fieldLink "java/lang/String" 9 "java/lang/String" "value" "[B") (am_wd 1713 (by decide +kernel) rfl)) (fun _ z => z) (show decode _ 8 = .ok (.getfield 9, 3) by decide +kernel) ?_
  refine lv_iload_n hx hb (show decode _ 11 = .ok (.iload_n 1, 1) by decide +kernel) rfl (lv_at hl 1 rfl) ?_
  have hT := (h2.1 i hi).2.2.2
  have hin : vp_in (Int32.ofInt k) (am_sle.getD i 0) := nm_in hr2 (by omega) (by omega)
  have hrun := va_runS (As := [.ref (adV i), .int (Int32.ofInt k)]) (rest := []) (g := F0 m 12 ls [.int (Int32.ofInt k), .ref (adV i)]) (e := e) (below := below) (meth := meth) (locs := locs1) (cells := 0) (slots := 0) (H := H1) (nL := 2) ⟨hx, hb, hml, hown, hts⟩ (j_lat l u (adV i) (am_sle.getD i 0) (Int32.ofInt k) _ _ (fun j => Value.int ((am_sby.getD i []).getD j 0)) (fun q => by have := (nm_lt (b := 0) hr2 ⟨by decide, by decide⟩).mp q; omega) (by rw [nm_nat, nm_lt hr2 ⟨by omega, by omega⟩]; omega) hin (by rw [nm_cl hr2, Int.toNat_natCast]) (js_ch i hi k hk).1 (js_ch i hi k hk).2) ⟨js_CB (rk := 3) hts (am_wd 506 (by decide +kernel) rfl) (am_wd 16 (by decide +kernel) rfl) (by decide) (n := 2) (by decide +kernel) (hlk := am_wd 504 (by decide +kernel) rfl) (by decide) (by decide), hts _ (am_wd 505 (by decide +kernel) rfl)⟩ ⟨js_bT u _ _ _ _, fun U hU hW => ⟨rfl, am_Ev_warm hEv (js_w hS1) hW hU, by rw [hU]; exact va_T.moved hW.alike (hT.kept (js_w hS1).2.1)⟩⟩ rfl rfl hl.1 rfl (lv_room (Nat.le_of_ble_eq_true rfl)) (show decode _ 12 = .ok (.invokestatic 495, 3) by decide +kernel) ⟨Nat.le_refl 0, Nat.le_refl 0⟩
  refine va_calli (S := Unit) (a := #[]) hrun hS1 (fun q _ h => h) (fun q h => h) (fun x uu t2 H1 locs1 ht hvm hpost hB hz hk3 hS1 => ?_)
  rw [hpost]
  exact W.zret (ty := .char) hx hb hr (js_ch i hi k hk).2 (fun t ht hW => ⟨⟨_, (), rfl, rfl, trivial⟩, hS1.F ht⟩) hS1.2.2 (show decode _ 15 = .ok (.ireturn, 1) by decide +kernel) hlocks
set_option maxRecDepth 100000 in
theorem j_length (l : Launch) (u : am_U) {i : Nat} (hi : i < 2) : Met l (yS "length" "()I") (Cond.code (yS "length" "()I") prog_16_method_54_code 1 (some .int) :: am_TS) (am_rm 1) (js_P u [.ref (u.2.2 (1000 + i))]) (js_Q (Int32.ofInt ((am_tx i).length : Int))) 0 0 (fun _ => False) := by
  refine Met.ofW (cc := prog_16_method_54_code) (maxL := 1) (ret := (some .int)) (by decide) rfl ?_
  intro p e s m args below meth c s₁ B hml hv
  obtain ⟨rfl, hEv⟩ := hv
  have hx := B.exec
  have hb := B.bytes
  have hr := B.returns
  have hts := fun w hw => atoms_spec (ws := Cond.code (yS "length" "()I") prog_16_method_54_code 1 (some .int) :: am_TS) B.pre w (List.mem_cons_of_mem _ hw)
  have hown : s.vm.findClass "java/lang/String" = some m.cls := findClass_of_methodNamed B.named
  have hlocks := B.notSynchronized
  have hS : va_S (fun _ => False) s.heap s.heap [] := va_S.rf
  have hl := lv_entry ([.ref (u.2.2 (1000 + i))]) (n := 1) (Nat.le_of_ble_eq_true rfl)
  rw [lg_entry_eq]
  generalize (lg_sl ([.ref (u.2.2 (1000 + i))]) ++ List.replicate (1 - (lg_sl ([.ref (u.2.2 (1000 + i))])).length) Slot.unset).toArray = ls at hl ⊢
  have hl : lv_has ls 1 [(0, .ref (u.2.2 (1000 + i)))] := hl
  obtain ⟨-, adV, h2, h3, h4, h5, h6⟩ := id hEv
  refine lv_aload_n hx hb (show decode _ 0 = .ok (.aload_n 0, 1) by decide +kernel) rfl (lv_at hl 0 rfl) ?_
  refine vk_getf hx hb (h2.1 i hi).2.2.1 (js_w hS) hown (hts (.fieldLink "java/lang/String" 9 "java/lang/String" "value" "[B") (am_wd 1713 (by decide +kernel) rfl)) (fun _ z => z) (show decode _ 1 = .ok (.getfield 9, 3) by decide +kernel) ?_
  refine va_tlen hx hb (h2.1 i hi).2.2.2 (js_w hS) rfl (show decode _ 4 = .ok (.arraylength, 1) by decide +kernel) ?_
  refine lv_aload_n hx hb (show decode _ 5 = .ok (.aload_n 0, 1) by decide +kernel) rfl (lv_at hl 0 rfl) ?_
  have hrun := va_runV (As := []) (rest := [.int (Int32.ofNat (am_sle.getD i 0))]) (g := F0 m 6 ls [.ref (u.2.2 (1000 + i)), .int (Int32.ofNat (am_sle.getD i 0))]) (e := e) (below := below) (meth := meth) (locs := []) (cells := 0) (slots := 0) (H := s.heap) (b := u.2.2 (1000 + i)) (nL := 1) (C := "java/lang/String") ⟨hx, hb, hml, hown, hts⟩ (j_coder l u hi) ⟨js_CB (rk := 1) hts (am_wd 493 (by decide +kernel) rfl) (am_wd 15 (by decide +kernel) rfl) (by decide) (n := 0) (by decide +kernel) (hlk := am_wd 490 (by decide +kernel) rfl) (by decide) (by decide), hts _ (am_wd 491 (by decide +kernel) rfl), hts _ (am_wd 492 (by decide +kernel) rfl)⟩ ⟨js_bP u _, vk_recv (adK := fun i => u.2.2 (1000 + i)) (i := i) h2 hi (js_w hS), fun U hU hW => ⟨rfl, am_Ev_warm hEv (js_w hS) hW hU⟩⟩ rfl rfl hl.1 rfl (lv_room (Nat.le_of_ble_eq_true rfl)) (show decode _ 6 = .ok (.invokevirtual 335, 3) by decide +kernel) ⟨Nat.le_refl 0, Nat.le_refl 0⟩
  refine va_calli (S := Unit) (a := #[]) hrun hS (fun q _ h => h) (fun q h => h) (fun x uu t2 H1 locs1 ht hvm hpost hB hz hk3 hS1 => ?_)
  rw [hpost]
  refine lv_ishr hx hb (show decode _ 9 = .ok (.ishr, 1) by decide +kernel) ?_
  have e9 : Int32.ofNat (am_sle.getD i 0) >>> ((0 : Int32) &&& 31) = Int32.ofInt ((am_tx i).length : Int) := by rcases (show i = 0 ∨ i = 1 by omega) with rfl | rfl <;> decide +kernel
  rw [e9]
  exact W.iret hx hb hr (fun t ht hW => ⟨⟨_, (), rfl, rfl, trivial⟩, hS1.F ht⟩) hS1.2.2 (show decode _ 10 = .ok (.ireturn, 1) by decide +kernel) hlocks
theorem js_keep {D : va_G} {cl : List vw_C} {ws : va_W} {H H1 : Heap} (h : va_P D cl ws H) (hk : ∀ q : Nat, q < H.size → ¬ False → H1[q]? = H[q]?) : va_P D cl ws H1 := fun k q hq => (h k q hq).kept (hk q.1 (h k q hq).lt id)
theorem S_sl {cc : ByteArray} {own : String} {nL rk : Nat} {ret : Option FieldType} {pcs : Nat → Nat} {ix pc : Nat} {nx idx : Nat} (hrk : 2 ≤ rk) (hlk : Cond.methodLink own idx (yS "length" "()I") ∈ am_TS) (hp : pcs ix = pc) (hn : pcs nx = pc + 3) (hd : decode cc pc = .ok (.invokevirtual idx, 3)) : am_Sd cc own nL rk ret pcs ix (o_sl nx) := by
  intro p l e R s m args below meth c u res hcx E C hE hC ls st M h
  obtain ⟨hx, hb, hr, hml, hown, hts, hK, hEv, hAd, hlocks, rfl⟩ := hcx
  unfold o_sl at h
  split at h
  · rename_i a r
    obtain ⟨hk, h⟩ := am_bfs h
    simp only [Bool.and_eq_true] at hk
    obtain ⟨⟨hk1, hk2⟩, hct⟩ := hk
    have hk1 := Nat.le_of_ble_eq_true hk1
    have hk2 := Nat.le_of_ble_eq_true hk2
    have hct := Nat.le_of_ble_eq_true hct
    obtain ⟨i, rfl⟩ : ∃ i, a = 1000 + i := ⟨a - 1000, by omega⟩
    have hi : i < 2 := by omega
    have e0 : 1000 + i - 1000 = i := by omega
    rw [e0] at h
    intro ls' H locs hL hst hM hP hS
    rw [hp]
    obtain ⟨-, adV, h2, h3, h4, h5, h6⟩ := id hEv
    have hrun := va_runV (As := []) (rest := r.map (am_rv u.2.2)) (g := F0 m pc ls' (.ref (u.2.2 (1000 + i)) :: r.map (am_rv u.2.2))) (e := e) (below := below) (meth := meth) (locs := locs) (cells := 0) (slots := 0) (H := H) (b := u.2.2 (1000 + i)) (C := "java/lang/String") ⟨hx, hb, hml, hown, hts⟩ (j_length l u hi) ⟨js_CB (rk := rk) hts (am_wd 489 (by decide +kernel) rfl) (am_wd 15 (by decide +kernel) rfl) (by decide) (n := 0) (by decide +kernel) (hlk := hlk) hrk (by omega), hts _ (am_wd 487 (by decide +kernel) rfl), hts _ (am_wd 488 (by decide +kernel) rfl)⟩ ⟨js_bP u _, vk_recv (adK := fun i => u.2.2 (1000 + i)) (i := i) h2 hi hS, fun U hU hW => ⟨rfl, am_Ev_warm hEv hS hW hU⟩⟩ rfl rfl hL.1 rfl (am_lrm hct) hd ⟨Nat.le_refl 0, Nat.le_refl 0⟩
    refine va_calli (S := Unit) (a := #[]) hrun hS (fun q _ h => h.elim) (fun q h => h.elim) (fun x uu t H1 locs1 ht hvm hpost hB hz hk2 hS1 => ?_)
    have hlen : ((am_tx i).length : Int) ≤ 100 := by rcases (show i = 0 ∨ i = 1 by omega) with rfl | rfl <;> decide +kernel
    have k9 := hE _ _ _ _ h ls' H1 locs1 hL (am_hc (v := iV ((am_tx i).length : Int)) ⟨by omega, by omega⟩ (am_ht hst)) hM (js_keep hP hk2) hS1
    rw [hn] at k9
    rw [hpost]
    exact k9
  · exact (am_no h).elim
theorem S_sc {cc : ByteArray} {own : String} {nL rk : Nat} {ret : Option FieldType} {pcs : Nat → Nat} {ix pc : Nat} {nx idx : Nat} (hrk : 4 ≤ rk) (hlk : Cond.methodLink own idx (yS "charAt" "(I)C") ∈ am_TS) (hp : pcs ix = pc) (hn : pcs nx = pc + 3) (hd : decode cc pc = .ok (.invokevirtual idx, 3)) : am_Sd cc own nL rk ret pcs ix (o_sc nx) := by
  intro p l e R s m args below meth c u res hcx E C hE hC ls st M h
  obtain ⟨hx, hb, hr, hml, hown, hts, hK, hEv, hAd, hlocks, rfl⟩ := hcx
  unfold o_sc at h
  split at h
  · rename_i k0 a r
    obtain ⟨hk, h⟩ := am_bfs h
    simp only [Bool.and_eq_true] at hk
    obtain ⟨⟨hk1, hk2⟩, hct⟩ := hk
    have hk1 := Nat.le_of_ble_eq_true hk1
    have hk2 := Nat.le_of_ble_eq_true hk2
    have hct := Nat.le_of_ble_eq_true hct
    obtain ⟨i, rfl⟩ : ∃ i, a = 1000 + i := ⟨a - 1000, by omega⟩
    have hi : i < 2 := by omega
    have e0 : 1000 + i - 1000 = i := by omega
    rw [e0] at h
    rcases am_ifs h with ⟨hq, h⟩ | ⟨hq, h⟩
    case inr => exact (am_no h).elim
    obtain ⟨k, rfl⟩ : ∃ k : Nat, k0 = (k : Int) := ⟨k0.toNat, by omega⟩
    have hln : (am_tx i).length = am_sle.getD i 0 ∧ am_sle.getD i 0 ≤ 100 := by rcases (show i = 0 ∨ i = 1 by omega) with rfl | rfl <;> decide +kernel
    have hk : k < am_sle.getD i 0 := by rw [← hln.1]; omega
    intro ls' H locs hL hst hM hP hS
    rw [hp]
    obtain ⟨-, adV, h2, h3, h4, h5, h6⟩ := id hEv
    have hrun := va_runV (As := [.int (Int32.ofInt k)]) (rest := r.map (am_rv u.2.2)) (g := F0 m pc ls' (.int (Int32.ofInt k) :: .ref (u.2.2 (1000 + i)) :: r.map (am_rv u.2.2))) (e := e) (below := below) (meth := meth) (locs := locs) (cells := 0) (slots := 0) (H := H) (b := u.2.2 (1000 + i)) (C := "java/lang/String") ⟨hx, hb, hml, hown, hts⟩ (j_charAt l u hi hk (by omega)) ⟨js_CB (rk := rk) hts (am_wd 499 (by decide +kernel) rfl) (am_wd 15 (by decide +kernel) rfl) (by decide) (n := 1) (by decide +kernel) (hlk := hlk) hrk (by omega), hts _ (am_wd 497 (by decide +kernel) rfl), hts _ (am_wd 498 (by decide +kernel) rfl)⟩ ⟨js_bP u _, vk_recv (adK := fun i => u.2.2 (1000 + i)) (i := i) h2 hi hS, fun U hU hW => ⟨rfl, am_Ev_warm hEv hS hW hU⟩⟩ rfl rfl hL.1 rfl (am_lrm hct) hd ⟨Nat.le_refl 0, Nat.le_refl 0⟩
    refine va_calli (S := Unit) (a := #[]) hrun hS (fun q _ h => h.elim) (fun q h => h.elim) (fun x uu t H1 locs1 ht hvm hpost hB hz hk2 hS1 => ?_)
    have hrg : am_r32 (am_n1 0 (am_tx i) k) := by
      refine am_n1_in (P := am_r32) (by decide) ?_ k
      rcases (show i = 0 ∨ i = 1 by omega) with rfl | rfl <;> decide +kernel
    have k9 := hE _ _ _ _ h ls' H1 locs1 hL (am_hc (v := iV (am_n1 0 (am_tx i) ((k : Int)).toNat)) (by rw [Int.toNat_natCast]; exact hrg) (am_ht (am_ht hst))) hM (js_keep hP hk2) hS1
    rw [hn] at k9
    rw [hpost]
    exact k9
  · exact (am_no h).elim
