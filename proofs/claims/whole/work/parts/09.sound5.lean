-- rows copied, switches, texts
theorem am_cpy_ne (M : am_M) (s0 sp d dp n : Nat) {b : Nat} (h : b ≠ d) : am_cpy M s0 sp d dp n b = M b := by
  funext j
  simp [am_cpy, h]
theorem am_wf_cpy {M : am_M} (h : am_wf M) {s0 d : Nat} (sp dp n : Nat) (hk : ∀ i j, am_lg s0 i = am_lg d j) : am_wf (am_cpy M s0 sp d dp n) := by
  intro b k
  by_cases e : b = d ∧ dp ≤ k ∧ k < dp + n
  · obtain ⟨rfl, e2⟩ := e
    have e1 : am_cpy M s0 sp b dp n b k = M s0 (sp + (k - dp)) := by simp [am_cpy, e2]
    rw [e1, ← hk (sp + (k - dp)) k]
    exact h _ _
  · have e1 : am_cpy M s0 sp d dp n b k = M b k := by simp only [am_cpy]; rw [if_neg e]
    rw [e1]
    exact h b k
theorem am_cpyI (M : am_M) (s0 sp d dp n : Nat) : va_cpy (fun j => Int32.ofInt (M s0 j)) (fun j => Int32.ofInt (M d j)) sp dp n = fun j => Int32.ofInt (am_cpy M s0 sp d dp n d j) := by
  funext j
  by_cases e : dp ≤ j ∧ j < dp + n
  · simp [va_cpy, am_cpy, e]
  · simp only [va_cpy, am_cpy, true_and]; rw [if_neg e, if_neg e]
theorem am_cpyL (M : am_M) (s0 sp d dp n : Nat) : va_cpy (fun j => Int64.ofInt (M s0 j)) (fun j => Int64.ofInt (M d j)) sp dp n = fun j => Int64.ofInt (am_cpy M s0 sp d dp n d j) := by
  funext j
  by_cases e : dp ≤ j ∧ j < dp + n
  · simp [va_cpy, am_cpy, e]
  · simp only [va_cpy, am_cpy, true_and]; rw [if_neg e, if_neg e]
theorem S_cpyI {cc : ByteArray} {own : String} {nL rk : Nat} {ret : Option FieldType} {pcs : Nat → Nat} {ix pc : Nat} {nx idx : Nat} (hrk : 1 ≤ rk) (hlk : Cond.methodLink own idx arraycopyName ∈ am_TS) (hnat : Cond.native arraycopyName ∈ am_TS) (hst2 : Cond.static arraycopyName ∈ am_TS) (hini : Cond.initialized "java/lang/System" ∈ am_TS) (hp : pcs ix = pc) (hn : pcs nx = pc + 3) (hd : decode cc pc = .ok (.invokestatic idx, 3)) : am_Sd cc own nL rk ret pcs ix (o_cpy 100 nx) := by
  intro p l e R s m args below meth c u res hcx E C hE hC ls st M h
  obtain ⟨hx, hb, hr, hml, hown, hts, hK, hEv, hAd, hlocks, rfl⟩ := hcx
  unfold o_cpy at h
  split at h
  · rename_i n dp d sp s0 r
    rcases am_ifs h with ⟨hq, h⟩ | ⟨hq, h⟩
    case inr => exact (am_no h).elim
    obtain ⟨q1, q2, q3, q4, q5, q6, q7, q8⟩ := id hq
    intro ls' H locs hL hst hM hP hS
    rw [hp]
    have ha : s0 < am_N := am_K_lt q1 (by omega)
    have hb0 : d < am_N := am_K_lt q2 (by omega)
    have r1 := am_h1 hst
    have r2 := am_h1 (am_ht hst)
    have r3 := am_h1 (am_ht (am_ht (am_ht hst)))
    have he0 : (am_wl u M)[s0]? = some (u.2.2 s0, .inl (u.2.1 0, am_LEN s0, .inl (fun j => Int32.ofInt (M s0 j)))) := by rw [am_wl_at ha, am_ce_i q1]
    have he1 : (am_wl u M)[d]? = some (u.2.2 d, .inl (u.2.1 0, am_LEN d, .inl (fun j => Int32.ofInt (M d j)))) := by rw [am_wl_at hb0, am_ce_i q2]
    have e2 : (am_wl u M).set d (u.2.2 d, .inl (u.2.1 0, am_LEN d, .inl (va_cpy (fun j => Int32.ofInt (M s0 j)) (fun j => Int32.ofInt (M d j)) sp.toNat dp.toNat n.toNat))) = am_wl u (am_cpy M s0 sp.toNat d dp.toNat n.toNat) := by
      refine am_wl_set hb0 ?_ (fun b hb => am_cpy_ne M _ _ _ _ _ hb)
      rw [am_ce_i q2, am_cpyI]
    have nn : ∀ z : Int, am_r32 z → 0 ≤ z → ¬ Int32.ofInt z < 0 := fun z hz h0 q => by
      have := (nm_lt (b := 0) hz ⟨by decide, by decide⟩).mp q
      omega
    refine va_copyi hx hb (by rw [hml, hL.1]) hown (hts _ hlk) (hts _ hnat) (hts _ hst2) (hts _ hini) hK hP (am_hD hAd) hS s0 d 0 0 he0 he1 (ty := .int) rfl rfl rfl (nn _ r3 q3) (nn _ r2 q4) (nn _ r1 q5) (by rw [nm_cl r3, nm_cl r1]; omega) (by rw [nm_cl r2, nm_cl r1]; omega) (fun _ _ => rfl) hrk (by rw [am_ctc]; show _ + (7 + 11) ≤ rk * 64; omega) hd (fun H1 locs1 hP1 hD1 hS1 => ?_)
    rw [nm_cl r1, nm_cl r2, nm_cl r3, e2] at hP1
    have k9 := hE _ _ _ _ h ls' H1 locs1 hL (am_ht (am_ht (am_ht (am_ht (am_ht hst))))) (am_wf_cpy hM _ _ _ (fun i j => by rw [am_lg_a hq.1 (by omega) (by omega), am_lg_a hq.2.1 (by omega) (by omega)])) hP1 hS1
    rw [hn] at k9
    exact k9
  · exact (am_no h).elim
theorem S_cpyL {cc : ByteArray} {own : String} {nL rk : Nat} {ret : Option FieldType} {pcs : Nat → Nat} {ix pc : Nat} {nx idx : Nat} (hrk : 1 ≤ rk) (hlk : Cond.methodLink own idx arraycopyName ∈ am_TS) (hnat : Cond.native arraycopyName ∈ am_TS) (hst2 : Cond.static arraycopyName ∈ am_TS) (hini : Cond.initialized "java/lang/System" ∈ am_TS) (hp : pcs ix = pc) (hn : pcs nx = pc + 3) (hd : decode cc pc = .ok (.invokestatic idx, 3)) : am_Sd cc own nL rk ret pcs ix (o_cpy 102 nx) := by
  intro p l e R s m args below meth c u res hcx E C hE hC ls st M h
  obtain ⟨hx, hb, hr, hml, hown, hts, hK, hEv, hAd, hlocks, rfl⟩ := hcx
  unfold o_cpy at h
  split at h
  · rename_i n dp d sp s0 r
    rcases am_ifs h with ⟨hq, h⟩ | ⟨hq, h⟩
    case inr => exact (am_no h).elim
    obtain ⟨q1, q2, q3, q4, q5, q6, q7, q8⟩ := id hq
    intro ls' H locs hL hst hM hP hS
    rw [hp]
    have ha : s0 < am_N := am_K_lt q1 (by omega)
    have hb0 : d < am_N := am_K_lt q2 (by omega)
    have r1 := am_h1 hst
    have r2 := am_h1 (am_ht hst)
    have r3 := am_h1 (am_ht (am_ht (am_ht hst)))
    have he0 : (am_wl u M)[s0]? = some (u.2.2 s0, .inl (u.2.1 2, am_LEN s0, .inr (.inl (fun j => Int64.ofInt (M s0 j))))) := by rw [am_wl_at ha, am_ce_l q1]
    have he1 : (am_wl u M)[d]? = some (u.2.2 d, .inl (u.2.1 2, am_LEN d, .inr (.inl (fun j => Int64.ofInt (M d j))))) := by rw [am_wl_at hb0, am_ce_l q2]
    have e2 : (am_wl u M).set d (u.2.2 d, .inl (u.2.1 2, am_LEN d, .inr (.inl (va_cpy (fun j => Int64.ofInt (M s0 j)) (fun j => Int64.ofInt (M d j)) sp.toNat dp.toNat n.toNat)))) = am_wl u (am_cpy M s0 sp.toNat d dp.toNat n.toNat) := by
      refine am_wl_set hb0 ?_ (fun b hb => am_cpy_ne M _ _ _ _ _ hb)
      rw [am_ce_l q2, am_cpyL]
    have nn : ∀ z : Int, am_r32 z → 0 ≤ z → ¬ Int32.ofInt z < 0 := fun z hz h0 q => by
      have := (nm_lt (b := 0) hz ⟨by decide, by decide⟩).mp q
      omega
    refine va_copyl hx hb (by rw [hml, hL.1]) hown (hts _ hlk) (hts _ hnat) (hts _ hst2) (hts _ hini) hK hP (am_hD hAd) hS s0 d 2 2 he0 he1 (ty := .long) rfl rfl rfl (nn _ r3 q3) (nn _ r2 q4) (nn _ r1 q5) (by rw [nm_cl r3, nm_cl r1]; omega) (by rw [nm_cl r2, nm_cl r1]; omega) (fun _ _ => rfl) hrk (by rw [am_ctc]; show _ + (7 + 11) ≤ rk * 64; omega) hd (fun H1 locs1 hP1 hD1 hS1 => ?_)
    rw [nm_cl r1, nm_cl r2, nm_cl r3, e2] at hP1
    have k9 := hE _ _ _ _ h ls' H1 locs1 hL (am_ht (am_ht (am_ht (am_ht (am_ht hst))))) (am_wf_cpy hM _ _ _ (fun i j => by rw [am_lg_aL hq.1, am_lg_aL hq.2.1])) hP1 hS1
    rw [hn] at k9
    exact k9
  · exact (am_no h).elim
theorem am_sws {v : Int} {k : Nat → am_A} {d : Nat} {E : am_E} {C : am_C} {r : Int × am_M} : ∀ (ts : List Nat) (lo : Int), a_sw v lo k d ts E C = some r → (∃ t, ts[(v - lo).toNat]? = some t ∧ lo ≤ v ∧ v < lo + ts.length ∧ k t E C = some r) ∨ ((v < lo ∨ lo + ts.length ≤ v) ∧ k d E C = some r) := by
  intro ts
  induction ts with
  | nil => intro lo h; exact Or.inr ⟨by simp; omega, h⟩
  | cons t ts ih =>
    intro lo h
    rcases am_ifs h with ⟨e, h7⟩ | ⟨e, h7⟩
    · subst e
      exact Or.inl ⟨t, by simp, by omega, by simp; omega, h7⟩
    · rcases ih (lo + 1) h7 with ⟨t2, h1, h2, h3, h4⟩ | ⟨h1, h2⟩
      · refine Or.inl ⟨t2, ?_, by omega, by simp; omega, h4⟩
        have e2 : (v - lo).toNat = (v - (lo + 1)).toNat + 1 := by omega
        rw [e2, List.getElem?_cons_succ]
        exact h1
      · exact Or.inr ⟨by simp; omega, h2⟩
theorem S_ts {cc : ByteArray} {own : String} {nL rk : Nat} {ret : Option FieldType} {pcs : Nat → Nat} {ix pc : Nat} {lo hi dflt : Int} {offs : Array Int} {len d : Nat} {ts : List Nat} (hhi : hi = lo + ts.length - 1) (hoffs : offs.toList = ts.map (fun t => (pcs t : Int) - pc)) (hdf : (pc : Int) + dflt = (pcs d : Int)) (hp : pcs ix = pc) (hd : decode cc pc = .ok (.tableswitch dflt lo hi offs, len)) : am_Sd cc own nL rk ret pcs ix (o_ts lo ts d) := by
  intro p l e R s m args below meth c u res hcx E C hE hC ls st M h
  obtain ⟨hx, hb, hr, hml, hown, hts, hK, hEv, hAd, hlocks, rfl⟩ := hcx
  unfold o_ts at h
  split at h
  · rename_i v r
    intro ls' H locs hL hst hM hP hS
    rw [hp]
    have hv := nm_i (am_h1 hst)
    rcases am_sws ts lo h with ⟨t, h1, h2, h3, h⟩ | ⟨h1, h⟩
    · refine lv_tableIn (tgt := pcs t) (off := (pcs t : Int) - pc) hx hb hd (by rw [hv]; omega) (by rw [hv]; omega) ?_ (by omega) ?_
      · rw [hv, ← Array.getElem?_toList, hoffs, List.getElem?_map, h1]
        rfl
      · exact hE _ _ _ _ h ls' H locs hL (am_ht hst) hM hP hS
    · refine lv_tableOut (tgt := pcs d) hx hb hd (by rw [hv]; omega) hdf ?_
      exact hE _ _ _ _ h ls' H locs hL (am_ht hst) hM hP hS
  · exact (am_no h).elim
theorem S_lk2 {cc : ByteArray} {own : String} {nL rk : Nat} {ret : Option FieldType} {pcs : Nat → Nat} {ix pc : Nat} {dflt o1 o2 x1 x2 : Int} {len d t1 t2 : Nat} (hx12 : x1 < x2) (h1 : (pc : Int) + o1 = (pcs t1 : Int)) (h2 : (pc : Int) + o2 = (pcs t2 : Int)) (hdf : (pc : Int) + dflt = (pcs d : Int)) (hp : pcs ix = pc) (hd : decode cc pc = .ok (.lookupswitch dflt #[(x1, o1), (x2, o2)], len)) : am_Sd cc own nL rk ret pcs ix (o_lk [(x1, t1), (x2, t2)] d) := by
  intro p l e R s m args below meth c u res hcx E C hE hC ls st M h
  obtain ⟨hx, hb, hr, hml, hown, hts, hK, hEv, hAd, hlocks, rfl⟩ := hcx
  unfold o_lk at h
  split at h
  · rename_i v r
    intro ls' H locs hL hst hM hP hS
    rw [hp]
    have hv := nm_i (am_h1 hst)
    have hsrt : ((#[(x1, o1), (x2, o2)] : Array (Int × Int)).toList.zip ((#[(x1, o1), (x2, o2)] : Array (Int × Int)).toList.drop 1)).all (fun (a, next) => a.1 < next.1) = true := by simp [hx12]
    rcases am_ifs h with ⟨e, h⟩ | ⟨e, h⟩
    · refine lv_lookup (tgt := pcs t1) (off := o1) hx hb hd hsrt ?_ h1 ?_
      · rw [hv]; show Op.lookupswitch.offset [(x1, o1), (x2, o2)] dflt v = o1
        rw [Op.lookupswitch.offset_cons, if_pos e.symm]
      · exact hE _ _ _ _ h ls' H locs hL (am_ht hst) hM hP hS
    · rcases am_ifs h with ⟨e2, h⟩ | ⟨e2, h⟩
      · refine lv_lookup (tgt := pcs t2) (off := o2) hx hb hd hsrt ?_ h2 ?_
        · rw [hv]; show Op.lookupswitch.offset [(x1, o1), (x2, o2)] dflt v = o2
          rw [Op.lookupswitch.offset_cons, if_neg (fun q => e q.symm), Op.lookupswitch.offset_cons, if_pos e2.symm]
        · exact hE _ _ _ _ h ls' H locs hL (am_ht hst) hM hP hS
      · refine lv_lookup (tgt := pcs d) (off := dflt) hx hb hd hsrt ?_ hdf ?_
        · rw [hv]; show Op.lookupswitch.offset [(x1, o1), (x2, o2)] dflt v = dflt
          rw [Op.lookupswitch.offset_cons, if_neg (fun q => e q.symm), Op.lookupswitch.offset_cons, if_neg (fun q => e2 q.symm), Op.lookupswitch.offset_nil]
        · exact hE _ _ _ _ h ls' H locs hL (am_ht hst) hM hP hS
  · exact (am_no h).elim
theorem S_cr0 {cc : ByteArray} {own : String} {nL rk : Nat} {ret : Option FieldType} {pcs : Nat → Nat} {ix pc : Nat} {nx : Nat} (hown0 : own = "WarabandiDesk$Reader") (hp : pcs ix = pc) (hn : pcs nx = pc + 2) (hd : decode cc pc = .ok (.ldc 165, 2)) : am_Sd cc own nL rk ret pcs ix (o_cr 1000 nx) := by
  intro p l e R s m args below meth c u res hcx E C hE hC ls st M h
  obtain ⟨hx, hb, hr, hml, hown, hts, hK, hEv, hAd, hlocks, rfl⟩ := hcx
  subst hown0
  intro ls' H locs hL hst hM hP hS
  rw [hp]
  obtain ⟨-, adV, h2, h3, h4, h5, h6⟩ := id hEv
  refine va_ldcS hx hb hown h3 hd ?_
  have k9 := hE _ _ _ _ h ls' H locs hL (am_hc (v := rV 1000) trivial hst) hM hP hS
  rw [hn] at k9
  exact k9
theorem S_cr1 {cc : ByteArray} {own : String} {nL rk : Nat} {ret : Option FieldType} {pcs : Nat → Nat} {ix pc : Nat} {nx : Nat} (hown0 : own = "WarabandiDeskModel") (hp : pcs ix = pc) (hn : pcs nx = pc + 2) (hd : decode cc pc = .ok (.ldc 123, 2)) : am_Sd cc own nL rk ret pcs ix (o_cr 1001 nx) := by
  intro p l e R s m args below meth c u res hcx E C hE hC ls st M h
  obtain ⟨hx, hb, hr, hml, hown, hts, hK, hEv, hAd, hlocks, rfl⟩ := hcx
  subst hown0
  intro ls' H locs hL hst hM hP hS
  rw [hp]
  obtain ⟨-, adV, h2, h3, h4, h5, h6⟩ := id hEv
  refine va_ldcS hx hb hown h4 hd ?_
  have k9 := hE _ _ _ _ h ls' H locs hL (am_hc (v := rV 1001) trivial hst) hM hP hS
  rw [hn] at k9
  exact k9
