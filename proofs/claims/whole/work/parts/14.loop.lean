/-- WHAT THE PURE PART OWES: for each of the 44 calls the class and the reference answer alike, and the pictures agree again -/
def lw_O0 (RI : am_M → Prop) : Prop := (∀ a b c d e : Int, am_r32 a → am_r32 b → am_r32 c → am_r32 d → am_r32 e → lw_Pr RI 0 56 [iV a, iV b, iV c, iV d, iV e])
def lw_O1 (RI : am_M → Prop) : Prop := (∀ a : Int, am_r32 a → lw_Pr RI 1 76 [iV a])
def lw_O2 (RI : am_M → Prop) : Prop := (∀ a : Int, am_r32 a → lw_Pr RI 2 77 [iV a])
def lw_O3 (RI : am_M → Prop) : Prop := (∀ a b : Int, am_r32 a → am_r32 b → lw_Pr RI 3 83 [iV a, iV b])
def lw_O4 (RI : am_M → Prop) : Prop := (∀ a b c : Int, am_r32 a → am_r32 b → am_r32 c → lw_Pr RI 4 86 [iV a, iV b, iV c])
def lw_O5 (RI : am_M → Prop) : Prop := (∀ a b c d : Int, am_r32 a → am_r32 b → am_r32 c → am_r32 d → lw_Pr RI 5 87 [iV a, iV b, iV c, iV d])
def lw_O6 (RI : am_M → Prop) : Prop := (∀ a b c : Int, am_r32 a → am_r32 b → am_r32 c → lw_Pr RI 6 88 [iV a, iV b, iV c])
def lw_O7 (RI : am_M → Prop) : Prop := (∀ a : Int, am_r32 a → lw_Pr RI 7 90 [iV a])
def lw_O8 (RI : am_M → Prop) : Prop := (∀ a : Int, am_r32 a → lw_Pr RI 8 91 [iV a])
def lw_O9 (RI : am_M → Prop) : Prop := (∀ a b : Int, am_r32 a → am_r32 b → lw_Pr RI 9 92 [iV a, iV b])
def lw_O10 (RI : am_M → Prop) : Prop := (∀ a : Int, am_r32 a → lw_Pr RI 10 93 [iV a])
def lw_O11 (RI : am_M → Prop) : Prop := (∀ a b : Int, am_r32 a → am_r32 b → lw_Pr RI 11 94 [iV a, iV b])
def lw_O12 (RI : am_M → Prop) : Prop := (lw_Pr RI 12 95 [])
def lw_O13 (RI : am_M → Prop) : Prop := (∀ a b : Int, am_r32 a → am_r32 b → lw_Pr RI 15 97 [iV a, iV b])
def lw_O14 (RI : am_M → Prop) : Prop := (∀ a b : Int, am_r32 a → am_r32 b → lw_Pr RI 16 98 [iV a, iV b])
def lw_O15 (RI : am_M → Prop) : Prop := (∀ a b : Int, am_r32 a → am_r32 b → lw_Pr RI 17 100 [iV a, iV b])
def lw_O16 (RI : am_M → Prop) : Prop := (∀ a : Int, am_r32 a → lw_Pr RI 18 101 [iV a])
def lw_O17 (RI : am_M → Prop) : Prop := (∀ a b : Int, am_r32 a → am_r32 b → lw_Pr RI 19 117 [iV a, iV b])
def lw_O18 (RI : am_M → Prop) : Prop := (∀ a b c : Int, am_r32 a → am_r32 b → am_r32 c → lw_Pr RI 20 118 [iV a, iV b, iV c])
def lw_O19 (RI : am_M → Prop) : Prop := (∀ a : Int, am_r32 a → lw_Pr RI 21 119 [iV a])
def lw_O20 (RI : am_M → Prop) : Prop := (∀ a : Int, am_r32 a → lw_Pr RI 22 120 [iV a])
def lw_O21 (RI : am_M → Prop) : Prop := (∀ a : Int, am_r32 a → lw_Pr RI 23 121 [iV a])
def lw_O22 (RI : am_M → Prop) : Prop := (∀ a : Int, am_r32 a → lw_Pr RI 24 122 [iV a])
def lw_O23 (RI : am_M → Prop) : Prop := (∀ a b : Int, am_r32 a → am_r32 b → lw_Pr RI 25 123 [iV a, iV b])
def lw_O24 (RI : am_M → Prop) : Prop := (∀ a : Int, am_r32 a → lw_Pr RI 26 125 [iV a])
def lw_O25 (RI : am_M → Prop) : Prop := (∀ a b : Int, am_r32 a → am_r32 b → lw_Pr RI 27 127 [iV a, iV b])
def lw_O26 (RI : am_M → Prop) : Prop := (∀ a b : Int, am_r32 a → am_r32 b → lw_Pr RI 28 128 [iV a, iV b])
def lw_O27 (RI : am_M → Prop) : Prop := (∀ a b : Int, am_r32 a → am_r32 b → lw_Pr RI 29 130 [iV a, iV b])
def lw_O28 (RI : am_M → Prop) : Prop := (∀ a b : Int, am_r32 a → (b = 0 ∨ b = 1) → lw_Pr RI 30 131 [iV a, iV b])
def lw_O29 (RI : am_M → Prop) : Prop := (∀ a b : Int, am_r32 a → am_r32 b → lw_Pr RI 31 133 [iV a, iV b])
def lw_O30 (RI : am_M → Prop) : Prop := (∀ a b c : Int, am_r32 a → am_r32 b → am_r32 c → lw_Pr RI 32 134 [iV a, iV b, iV c])
def lw_O31 (RI : am_M → Prop) : Prop := (∀ a : Int, am_r32 a → lw_Pr RI 33 136 [iV a])
def lw_O32 (RI : am_M → Prop) : Prop := (∀ a : Int, am_r32 a → lw_Pr RI 34 138 [iV a])
def lw_O33 (RI : am_M → Prop) : Prop := (∀ a : Int, am_r32 a → lw_Pr RI 38 139 [iV a])
def lw_O34 (RI : am_M → Prop) : Prop := (∀ a : Int, am_r32 a → lw_Pr RI 39 149 [iV a])
def lw_O35 (RI : am_M → Prop) : Prop := (∀ a b : Int, am_r32 a → am_r32 b → lw_Pr RI 40 151 [iV a, iV b])
def lw_O36 (RI : am_M → Prop) : Prop := (∀ a b : Int, am_r32 a → am_r32 b → lw_Pr RI 41 152 [iV a, iV b])
def lw_O37 (RI : am_M → Prop) : Prop := (∀ a b : Int, am_r32 a → am_r32 b → lw_Pr RI 42 163 [iV a, iV b])
def lw_O38 (RI : am_M → Prop) : Prop := (∀ a b c : Int, am_r32 a → am_r32 b → am_r32 c → lw_Pr RI 43 164 [iV a, iV b, iV c])
def lw_O39 (RI : am_M → Prop) : Prop := (∀ a b c : Int, am_r32 a → am_r32 b → (c = 0 ∨ c = 1) → lw_Pr RI 44 165 [iV a, iV b, iV c])
def lw_O40 (RI : am_M → Prop) : Prop := (∀ a : Int, am_r32 a → lw_Pr RI 45 166 [iV a])
def lw_O41 (RI : am_M → Prop) : Prop := (∀ a b c : Int, am_r32 a → am_r32 b → am_r32 c → lw_Pr RI 46 168 [iV a, iV b, iV c])
def lw_O42 (RI : am_M → Prop) : Prop := (∀ a : Int, am_r32 a → lw_Pr RI 47 169 [iV a])
def lw_O43 (RI : am_M → Prop) : Prop := (∀ a : Int, am_r32 a → lw_Pr RI 48 170 [iV a])
def lw_All (RI : am_M → Prop) : Prop := lw_O0 RI ∧ lw_O1 RI ∧ lw_O2 RI ∧ lw_O3 RI ∧ lw_O4 RI ∧ lw_O5 RI ∧ lw_O6 RI ∧ lw_O7 RI ∧ lw_O8 RI ∧ lw_O9 RI ∧ lw_O10 RI ∧ lw_O11 RI ∧ lw_O12 RI ∧ lw_O13 RI ∧ lw_O14 RI ∧ lw_O15 RI ∧ lw_O16 RI ∧ lw_O17 RI ∧ lw_O18 RI ∧ lw_O19 RI ∧ lw_O20 RI ∧ lw_O21 RI ∧ lw_O22 RI ∧ lw_O23 RI ∧ lw_O24 RI ∧ lw_O25 RI ∧ lw_O26 RI ∧ lw_O27 RI ∧ lw_O28 RI ∧ lw_O29 RI ∧ lw_O30 RI ∧ lw_O31 RI ∧ lw_O32 RI ∧ lw_O33 RI ∧ lw_O34 RI ∧ lw_O35 RI ∧ lw_O36 RI ∧ lw_O37 RI ∧ lw_O38 RI ∧ lw_O39 RI ∧ lw_O40 RI ∧ lw_O41 RI ∧ lw_O42 RI ∧ lw_O43 RI
theorem lw_bz (x : Int) : (if x = 0 then (0 : Int) else 1) = 0 ∨ (if x = 0 then (0 : Int) else 1) = 1 := by split <;> simp
theorem lw_d33 : decode code 33 = .ok (.tableswitch 1600 0 43 #[191, 254, 277, 300, 333, 376, 429, 472, 495, 518, 551, 574, 607, 620, 653, 686, 719, 742, 775, 818, 841, 864, 887, 910, 944, 968, 1001, 1034, 1068, 1117, 1150, 1193, 1217, 1240, 1263, 1286, 1319, 1352, 1385, 1428, 1487, 1511, 1554, 1577], 191) := by decide +kernel
set_option maxHeartbeats 4000000 in
set_option maxRecDepth 100000 in
theorem lw_loop {p : Program} {l : Launch} {e : Env} {s : State} {m : MethodId} {below : List Frame} {meth : Method} {c : Code} {b L : Nat} {xs : Nat → Int32} {u : am_U} {RI : am_M → Prop} {cells slots : Nat} (C : lw_Cx p s m c b L xs u) (hr : meth.sig.returnType = ret) (hlocks : meth.locks = false) (hLaw : lw_All RI) (hcs : cells ≤ 600000) (hss : slots ≤ 7302250) :
    ∀ (n i : Nat), L + 6 ≤ i + n → i ≤ L + 6 → ∀ (M : am_M) (H : Heap) (locs : List Loc) (ls : Array Slot), RI M → am_wf M → va_P u.1 am_cl (am_wl u M) H → va_S (lw_A s) s.heap H locs → lw_Ls u b i ls → W p l e room_1 s m #[Value.ref b] below meth c H locs cells slots (lw_Z below #[Value.ref b] s) (F0 m 18 ls []) := by
  intro n
  induction n with
  | zero =>
    intro i h1 h2 M H locs ls hRI hM hP hS hl
    obtain ⟨hx, hb, hml, hown, hts, hX, hbl, hL, hK, hEv, hAd, hAW⟩ := id C
    refine lv_iload_n hx hb (show decode code 18 = .ok (.iload_n 3, 1) by decide +kernel) rfl (lv_at hl 0 rfl) ?_
    refine lv_aload_n hx hb (show decode code 19 = .ok (.aload_n 0, 1) by decide +kernel) rfl (lv_at hl 3 rfl) ?_
    refine va_slen hx hb hX hbl (Nat.not_le.mpr hbl) hS (show decode code 20 = .ok (.arraylength, 1) by decide +kernel) ?_
    refine lv_bipush (v := 6) hx hb (show decode code 21 = .ok (.bipush 6, 2) by decide +kernel) (by decide) ?_
    refine lv_isub hx hb (show decode code 23 = .ok (.isub, 1) by decide +kernel) ?_
    have e6 : Int32.ofNat L - 6 = Int32.ofInt ((L : Int) - 6) := by rw [nm_nat]; exact nm_sub (L : Int) 6
    rw [e6]
    refine lv_icmp_gt (tgt := 1639) hx hb (show decode code 24 = .ok (.if_icmp .gt 1615, 3) by decide +kernel) (by decide) (fun _ => ?_) (fun h => absurd ((nm_lt ⟨by omega, by omega⟩ ⟨by omega, by omega⟩).mpr (by omega)) h)
    refine lv_iconst (v := 1) hx hb (show decode code 1639 = .ok (.iconst 1, 1) by decide +kernel) (by decide) ?_
    refine va_forget (fun q hq => hS.2.2 q hq) ?_
    refine W.widen (k := 600000) (n := 7302250) hcs hss ?_
    exact lw_ret hx hb hr hlocks (show decode code 1640 = .ok (.ireturn, 1) by decide +kernel)
  | succ n ih =>
    intro i h1 h2 M H locs ls hRI hM hP hS hl
    obtain ⟨hx, hb, hml, hown, hts, hX, hbl, hL, hK, hEv, hAd, hAW⟩ := id C
    refine lv_iload_n hx hb (show decode code 18 = .ok (.iload_n 3, 1) by decide +kernel) rfl (lv_at hl 0 rfl) ?_
    refine lv_aload_n hx hb (show decode code 19 = .ok (.aload_n 0, 1) by decide +kernel) rfl (lv_at hl 3 rfl) ?_
    refine va_slen hx hb hX hbl (Nat.not_le.mpr hbl) hS (show decode code 20 = .ok (.arraylength, 1) by decide +kernel) ?_
    refine lv_bipush (v := 6) hx hb (show decode code 21 = .ok (.bipush 6, 2) by decide +kernel) (by decide) ?_
    refine lv_isub hx hb (show decode code 23 = .ok (.isub, 1) by decide +kernel) ?_
    have e6 : Int32.ofNat L - 6 = Int32.ofInt ((L : Int) - 6) := by rw [nm_nat]; exact nm_sub (L : Int) 6
    rw [e6]
    have hir : am_r32 (i : Int) := ⟨by omega, by omega⟩
    refine lv_icmp_gt (tgt := 1639) hx hb (show decode code 24 = .ok (.if_icmp .gt 1615, 3) by decide +kernel) (by decide) (fun _ => ?_) (fun h => ?_)
    · refine lv_iconst (v := 1) hx hb (show decode code 1639 = .ok (.iconst 1, 1) by decide +kernel) (by decide) ?_
      refine va_forget (fun q hq => hS.2.2 q hq) ?_
      refine W.widen (k := 600000) (n := 7302250) hcs hss ?_
      exact lw_ret hx hb hr hlocks (show decode code 1640 = .ok (.ireturn, 1) by decide +kernel)
    · have hi : i + 5 < L := by
        rcases Nat.lt_or_ge (i + 5) L with z | z
        · exact z
        · exact absurd ((nm_lt ⟨by omega, by omega⟩ hir).mpr (by omega)) h
      refine lv_aload_n hx hb (show decode code 27 = .ok (.aload_n 0, 1) by decide +kernel) rfl (lv_at hl 3 rfl) ?_
      refine lv_iload_n hx hb (show decode code 28 = .ok (.iload_n 3, 1) by decide +kernel) rfl (lv_at hl 0 rfl) ?_
      refine va_sld hx hb hX hbl (Nat.not_le.mpr hbl) hS (nm_in hir (by omega) (by omega)) (show decode code 29 = .ok (.iaload, 1) by decide +kernel) ?_
      refine lv_bipush (v := 63) hx hb (show decode code 30 = .ok (.bipush 63, 2) by decide +kernel) (by decide) ?_
      refine lv_iand hx hb (show decode code 32 = .ok (.iand, 1) by decide +kernel) ?_
      have hnext : ∀ (M2 : am_M) (H2 : Heap) (locs2 : List Loc), RI M2 → am_wf M2 → va_P u.1 am_cl (am_wl u M2) H2 → va_S (lw_A s) s.heap H2 locs2 → W p l e room_1 s m #[Value.ref b] below meth c H2 locs2 cells slots (lw_Z below #[Value.ref b] s) (F0 m 1633 ls []) := by
        intro M2 H2 locs2 q1 q2 q3 q4
        refine lv_iinc (v := Int32.ofInt ((i + 6 : Nat) : Int)) (k := 0) (lv' := [(3, .int (Int32.ofInt ((i + 6 : Nat) : Int))), (2, .ref (u.2.2 72)), (1, .ref (u.2.2 70)), (0, .ref b)]) hx hb (show decode code 1633 = .ok (.iinc 3 6, 3) by decide +kernel) hl rfl (by rw [nm_add]; rfl) (by decide) rfl (fun ls2 hl2 => ?_)
        refine lv_goto (tgt := 18) hx hb (show decode code 1636 = .ok (.goto (-1618), 3) by decide +kernel) (by decide) ?_
        exact ih (i + 6) (by omega) (by omega) M2 H2 locs2 ls2 q1 q2 q3 q4 hl2
      generalize hkey : (xs (Int32.ofInt (i : Int)).toNatClampNeg &&& 63) = key
      obtain ⟨o0, o1, o2, o3, o4, o5, o6, o7, o8, o9, o10, o11, o12, o13, o14, o15, o16, o17, o18, o19, o20, o21, o22, o23, o24, o25, o26, o27, o28, o29, o30, o31, o32, o33, o34, o35, o36, o37, o38, o39, o40, o41, o42, o43⟩ := hLaw
      rcases (show key.toInt = 0 ∨ key.toInt = 1 ∨ key.toInt = 2 ∨ key.toInt = 3 ∨ key.toInt = 4 ∨ key.toInt = 5 ∨ key.toInt = 6 ∨ key.toInt = 7 ∨ key.toInt = 8 ∨ key.toInt = 9 ∨ key.toInt = 10 ∨ key.toInt = 11 ∨ key.toInt = 12 ∨ key.toInt = 13 ∨ key.toInt = 14 ∨ key.toInt = 15 ∨ key.toInt = 16 ∨ key.toInt = 17 ∨ key.toInt = 18 ∨ key.toInt = 19 ∨ key.toInt = 20 ∨ key.toInt = 21 ∨ key.toInt = 22 ∨ key.toInt = 23 ∨ key.toInt = 24 ∨ key.toInt = 25 ∨ key.toInt = 26 ∨ key.toInt = 27 ∨ key.toInt = 28 ∨ key.toInt = 29 ∨ key.toInt = 30 ∨ key.toInt = 31 ∨ key.toInt = 32 ∨ key.toInt = 33 ∨ key.toInt = 34 ∨ key.toInt = 35 ∨ key.toInt = 36 ∨ key.toInt = 37 ∨ key.toInt = 38 ∨ key.toInt = 39 ∨ key.toInt = 40 ∨ key.toInt = 41 ∨ key.toInt = 42 ∨ key.toInt = 43 ∨ (key.toInt < 0 ∨ 43 < key.toInt) by omega) with hk | hk | hk | hk | hk | hk | hk | hk | hk | hk | hk | hk | hk | hk | hk | hk | hk | hk | hk | hk | hk | hk | hk | hk | hk | hk | hk | hk | hk | hk | hk | hk | hk | hk | hk | hk | hk | hk | hk | hk | hk | hk | hk | hk | hk
      · refine lv_tableIn (tgt := 224) (off := 191) hx hb lw_d33 (by omega) (by omega) (by rw [hk]; rfl) (by decide) ?_
        exact lc_0 C hl hi hS hP hM hRI hcs hss (o0 (xs (i + 1)).toInt (xs (i + 2)).toInt (xs (i + 3)).toInt (xs (i + 4)).toInt (xs (i + 5)).toInt (nm_ir _) (nm_ir _) (nm_ir _) (nm_ir _) (nm_ir _)) hnext
      · refine lv_tableIn (tgt := 287) (off := 254) hx hb lw_d33 (by omega) (by omega) (by rw [hk]; rfl) (by decide) ?_
        exact lc_1 C hl hi hS hP hM hRI hcs hss (o1 (xs (i + 1)).toInt (nm_ir _)) hnext
      · refine lv_tableIn (tgt := 310) (off := 277) hx hb lw_d33 (by omega) (by omega) (by rw [hk]; rfl) (by decide) ?_
        exact lc_2 C hl hi hS hP hM hRI hcs hss (o2 (xs (i + 1)).toInt (nm_ir _)) hnext
      · refine lv_tableIn (tgt := 333) (off := 300) hx hb lw_d33 (by omega) (by omega) (by rw [hk]; rfl) (by decide) ?_
        exact lc_3 C hl hi hS hP hM hRI hcs hss (o3 (xs (i + 1)).toInt (xs (i + 2)).toInt (nm_ir _) (nm_ir _)) hnext
      · refine lv_tableIn (tgt := 366) (off := 333) hx hb lw_d33 (by omega) (by omega) (by rw [hk]; rfl) (by decide) ?_
        exact lc_4 C hl hi hS hP hM hRI hcs hss (o4 (xs (i + 1)).toInt (xs (i + 2)).toInt (xs (i + 3)).toInt (nm_ir _) (nm_ir _) (nm_ir _)) hnext
      · refine lv_tableIn (tgt := 409) (off := 376) hx hb lw_d33 (by omega) (by omega) (by rw [hk]; rfl) (by decide) ?_
        exact lc_5 C hl hi hS hP hM hRI hcs hss (o5 (xs (i + 1)).toInt (xs (i + 2)).toInt (xs (i + 3)).toInt (xs (i + 4)).toInt (nm_ir _) (nm_ir _) (nm_ir _) (nm_ir _)) hnext
      · refine lv_tableIn (tgt := 462) (off := 429) hx hb lw_d33 (by omega) (by omega) (by rw [hk]; rfl) (by decide) ?_
        exact lc_6 C hl hi hS hP hM hRI hcs hss (o6 (xs (i + 1)).toInt (xs (i + 2)).toInt (xs (i + 3)).toInt (nm_ir _) (nm_ir _) (nm_ir _)) hnext
      · refine lv_tableIn (tgt := 505) (off := 472) hx hb lw_d33 (by omega) (by omega) (by rw [hk]; rfl) (by decide) ?_
        exact lc_7 C hl hi hS hP hM hRI hcs hss (o7 (xs (i + 1)).toInt (nm_ir _)) hnext
      · refine lv_tableIn (tgt := 528) (off := 495) hx hb lw_d33 (by omega) (by omega) (by rw [hk]; rfl) (by decide) ?_
        exact lc_8 C hl hi hS hP hM hRI hcs hss (o8 (xs (i + 1)).toInt (nm_ir _)) hnext
      · refine lv_tableIn (tgt := 551) (off := 518) hx hb lw_d33 (by omega) (by omega) (by rw [hk]; rfl) (by decide) ?_
        exact lc_9 C hl hi hS hP hM hRI hcs hss (o9 (xs (i + 1)).toInt (xs (i + 2)).toInt (nm_ir _) (nm_ir _)) hnext
      · refine lv_tableIn (tgt := 584) (off := 551) hx hb lw_d33 (by omega) (by omega) (by rw [hk]; rfl) (by decide) ?_
        exact lc_10 C hl hi hS hP hM hRI hcs hss (o10 (xs (i + 1)).toInt (nm_ir _)) hnext
      · refine lv_tableIn (tgt := 607) (off := 574) hx hb lw_d33 (by omega) (by omega) (by rw [hk]; rfl) (by decide) ?_
        exact lc_11 C hl hi hS hP hM hRI hcs hss (o11 (xs (i + 1)).toInt (xs (i + 2)).toInt (nm_ir _) (nm_ir _)) hnext
      · refine lv_tableIn (tgt := 640) (off := 607) hx hb lw_d33 (by omega) (by omega) (by rw [hk]; rfl) (by decide) ?_
        exact lc_12 C hl hi hS hP hM hRI hcs hss (o12  ) hnext
      · refine lv_tableIn (tgt := 653) (off := 620) hx hb lw_d33 (by omega) (by omega) (by rw [hk]; rfl) (by decide) ?_
        exact lc_13 C hl hi hS hP hM hRI hcs hss (o13 (xs (i + 1)).toInt (xs (i + 2)).toInt (nm_ir _) (nm_ir _)) hnext
      · refine lv_tableIn (tgt := 686) (off := 653) hx hb lw_d33 (by omega) (by omega) (by rw [hk]; rfl) (by decide) ?_
        exact lc_14 C hl hi hS hP hM hRI hcs hss (o14 (xs (i + 1)).toInt (xs (i + 2)).toInt (nm_ir _) (nm_ir _)) hnext
      · refine lv_tableIn (tgt := 719) (off := 686) hx hb lw_d33 (by omega) (by omega) (by rw [hk]; rfl) (by decide) ?_
        exact lc_15 C hl hi hS hP hM hRI hcs hss (o15 (xs (i + 1)).toInt (xs (i + 2)).toInt (nm_ir _) (nm_ir _)) hnext
      · refine lv_tableIn (tgt := 752) (off := 719) hx hb lw_d33 (by omega) (by omega) (by rw [hk]; rfl) (by decide) ?_
        exact lc_16 C hl hi hS hP hM hRI hcs hss (o16 (xs (i + 1)).toInt (nm_ir _)) hnext
      · refine lv_tableIn (tgt := 775) (off := 742) hx hb lw_d33 (by omega) (by omega) (by rw [hk]; rfl) (by decide) ?_
        exact lc_17 C hl hi hS hP hM hRI hcs hss (o17 (xs (i + 1)).toInt (xs (i + 2)).toInt (nm_ir _) (nm_ir _)) hnext
      · refine lv_tableIn (tgt := 808) (off := 775) hx hb lw_d33 (by omega) (by omega) (by rw [hk]; rfl) (by decide) ?_
        exact lc_18 C hl hi hS hP hM hRI hcs hss (o18 (xs (i + 1)).toInt (xs (i + 2)).toInt (xs (i + 3)).toInt (nm_ir _) (nm_ir _) (nm_ir _)) hnext
      · refine lv_tableIn (tgt := 851) (off := 818) hx hb lw_d33 (by omega) (by omega) (by rw [hk]; rfl) (by decide) ?_
        exact lc_19 C hl hi hS hP hM hRI hcs hss (o19 (xs (i + 1)).toInt (nm_ir _)) hnext
      · refine lv_tableIn (tgt := 874) (off := 841) hx hb lw_d33 (by omega) (by omega) (by rw [hk]; rfl) (by decide) ?_
        exact lc_20 C hl hi hS hP hM hRI hcs hss (o20 (xs (i + 1)).toInt (nm_ir _)) hnext
      · refine lv_tableIn (tgt := 897) (off := 864) hx hb lw_d33 (by omega) (by omega) (by rw [hk]; rfl) (by decide) ?_
        exact lc_21 C hl hi hS hP hM hRI hcs hss (o21 (xs (i + 1)).toInt (nm_ir _)) hnext
      · refine lv_tableIn (tgt := 920) (off := 887) hx hb lw_d33 (by omega) (by omega) (by rw [hk]; rfl) (by decide) ?_
        exact lc_22 C hl hi hS hP hM hRI hcs hss (o22 (xs (i + 1)).toInt (nm_ir _)) hnext
      · refine lv_tableIn (tgt := 943) (off := 910) hx hb lw_d33 (by omega) (by omega) (by rw [hk]; rfl) (by decide) ?_
        exact lc_23 C hl hi hS hP hM hRI hcs hss (o23 (xs (i + 1)).toInt (xs (i + 2)).toInt (nm_ir _) (nm_ir _)) hnext
      · refine lv_tableIn (tgt := 977) (off := 944) hx hb lw_d33 (by omega) (by omega) (by rw [hk]; rfl) (by decide) ?_
        exact lc_24 C hl hi hS hP hM hRI hcs hss (o24 (xs (i + 1)).toInt (nm_ir _)) hnext
      · refine lv_tableIn (tgt := 1001) (off := 968) hx hb lw_d33 (by omega) (by omega) (by rw [hk]; rfl) (by decide) ?_
        exact lc_25 C hl hi hS hP hM hRI hcs hss (o25 (xs (i + 1)).toInt (xs (i + 2)).toInt (nm_ir _) (nm_ir _)) hnext
      · refine lv_tableIn (tgt := 1034) (off := 1001) hx hb lw_d33 (by omega) (by omega) (by rw [hk]; rfl) (by decide) ?_
        exact lc_26 C hl hi hS hP hM hRI hcs hss (o26 (xs (i + 1)).toInt (xs (i + 2)).toInt (nm_ir _) (nm_ir _)) hnext
      · refine lv_tableIn (tgt := 1067) (off := 1034) hx hb lw_d33 (by omega) (by omega) (by rw [hk]; rfl) (by decide) ?_
        exact lc_27 C hl hi hS hP hM hRI hcs hss (o27 (xs (i + 1)).toInt (xs (i + 2)).toInt (nm_ir _) (nm_ir _)) hnext
      · refine lv_tableIn (tgt := 1101) (off := 1068) hx hb lw_d33 (by omega) (by omega) (by rw [hk]; rfl) (by decide) ?_
        exact lc_28 C hl hi hS hP hM hRI hcs hss (o28 (xs (i + 1)).toInt (if (xs (i + 2)).toInt = 0 then 0 else 1) (nm_ir _) (lw_bz _)) hnext
      · refine lv_tableIn (tgt := 1150) (off := 1117) hx hb lw_d33 (by omega) (by omega) (by rw [hk]; rfl) (by decide) ?_
        exact lc_29 C hl hi hS hP hM hRI hcs hss (o29 (xs (i + 1)).toInt (xs (i + 2)).toInt (nm_ir _) (nm_ir _)) hnext
      · refine lv_tableIn (tgt := 1183) (off := 1150) hx hb lw_d33 (by omega) (by omega) (by rw [hk]; rfl) (by decide) ?_
        exact lc_30 C hl hi hS hP hM hRI hcs hss (o30 (xs (i + 1)).toInt (xs (i + 2)).toInt (xs (i + 3)).toInt (nm_ir _) (nm_ir _) (nm_ir _)) hnext
      · refine lv_tableIn (tgt := 1226) (off := 1193) hx hb lw_d33 (by omega) (by omega) (by rw [hk]; rfl) (by decide) ?_
        exact lc_31 C hl hi hS hP hM hRI hcs hss (o31 (xs (i + 1)).toInt (nm_ir _)) hnext
      · refine lv_tableIn (tgt := 1250) (off := 1217) hx hb lw_d33 (by omega) (by omega) (by rw [hk]; rfl) (by decide) ?_
        exact lc_32 C hl hi hS hP hM hRI hcs hss (o32 (xs (i + 1)).toInt (nm_ir _)) hnext
      · refine lv_tableIn (tgt := 1273) (off := 1240) hx hb lw_d33 (by omega) (by omega) (by rw [hk]; rfl) (by decide) ?_
        exact lc_33 C hl hi hS hP hM hRI hcs hss (o33 (xs (i + 1)).toInt (nm_ir _)) hnext
      · refine lv_tableIn (tgt := 1296) (off := 1263) hx hb lw_d33 (by omega) (by omega) (by rw [hk]; rfl) (by decide) ?_
        exact lc_34 C hl hi hS hP hM hRI hcs hss (o34 (xs (i + 1)).toInt (nm_ir _)) hnext
      · refine lv_tableIn (tgt := 1319) (off := 1286) hx hb lw_d33 (by omega) (by omega) (by rw [hk]; rfl) (by decide) ?_
        exact lc_35 C hl hi hS hP hM hRI hcs hss (o35 (xs (i + 1)).toInt (xs (i + 2)).toInt (nm_ir _) (nm_ir _)) hnext
      · refine lv_tableIn (tgt := 1352) (off := 1319) hx hb lw_d33 (by omega) (by omega) (by rw [hk]; rfl) (by decide) ?_
        exact lc_36 C hl hi hS hP hM hRI hcs hss (o36 (xs (i + 1)).toInt (xs (i + 2)).toInt (nm_ir _) (nm_ir _)) hnext
      · refine lv_tableIn (tgt := 1385) (off := 1352) hx hb lw_d33 (by omega) (by omega) (by rw [hk]; rfl) (by decide) ?_
        exact lc_37 C hl hi hS hP hM hRI hcs hss (o37 (xs (i + 1)).toInt (xs (i + 2)).toInt (nm_ir _) (nm_ir _)) hnext
      · refine lv_tableIn (tgt := 1418) (off := 1385) hx hb lw_d33 (by omega) (by omega) (by rw [hk]; rfl) (by decide) ?_
        exact lc_38 C hl hi hS hP hM hRI hcs hss (o38 (xs (i + 1)).toInt (xs (i + 2)).toInt (xs (i + 3)).toInt (nm_ir _) (nm_ir _) (nm_ir _)) hnext
      · refine lv_tableIn (tgt := 1461) (off := 1428) hx hb lw_d33 (by omega) (by omega) (by rw [hk]; rfl) (by decide) ?_
        exact lc_39 C hl hi hS hP hM hRI hcs hss (o39 (xs (i + 1)).toInt (xs (i + 2)).toInt (if (xs (i + 3)).toInt = 0 then 0 else 1) (nm_ir _) (nm_ir _) (lw_bz _)) hnext
      · refine lv_tableIn (tgt := 1520) (off := 1487) hx hb lw_d33 (by omega) (by omega) (by rw [hk]; rfl) (by decide) ?_
        exact lc_40 C hl hi hS hP hM hRI hcs hss (o40 (xs (i + 1)).toInt (nm_ir _)) hnext
      · refine lv_tableIn (tgt := 1544) (off := 1511) hx hb lw_d33 (by omega) (by omega) (by rw [hk]; rfl) (by decide) ?_
        exact lc_41 C hl hi hS hP hM hRI hcs hss (o41 (xs (i + 1)).toInt (xs (i + 2)).toInt (xs (i + 3)).toInt (nm_ir _) (nm_ir _) (nm_ir _)) hnext
      · refine lv_tableIn (tgt := 1587) (off := 1554) hx hb lw_d33 (by omega) (by omega) (by rw [hk]; rfl) (by decide) ?_
        exact lc_42 C hl hi hS hP hM hRI hcs hss (o42 (xs (i + 1)).toInt (nm_ir _)) hnext
      · refine lv_tableIn (tgt := 1610) (off := 1577) hx hb lw_d33 (by omega) (by omega) (by rw [hk]; rfl) (by decide) ?_
        exact lc_43 C hl hi hS hP hM hRI hcs hss (o43 (xs (i + 1)).toInt (nm_ir _)) hnext
      · refine lv_tableOut (tgt := 1633) hx hb lw_d33 hk (by decide) ?_
        exact hnext M H locs hRI hM hP hS
