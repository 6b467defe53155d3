-- fields, rows, calls
theorem am_lg_o {a ci j : Nat} (hk : am_K a = ci) (hci : ci < 100) (hft : am_FT ci j ≠ 1) : am_lg a j = false := by
  unfold am_lg
  rw [hk, Bool.or_eq_false_iff]
  refine ⟨?_, ?_⟩
  · rw [Bool.eq_false_iff]; intro q; have := Nat.eq_of_beq_eq_true q; omega
  · rw [Bool.eq_false_iff]; intro q; exact hft (Nat.eq_of_beq_eq_true q)
theorem am_lg_L {a ci j : Nat} (hk : am_K a = ci) (hft : am_FT ci j = 1) : am_lg a j = true := by
  unfold am_lg
  rw [hk, hft]
  simp
theorem am_FT_a {k j : Nat} (h : 100 ≤ k) : am_FT k j = 9 := by
  unfold am_FT
  rw [am_n1_out (d := ([] : List Nat)) (n := k) (by exact Nat.le_trans (by decide) h)]
  rfl
theorem am_lg_a {a j : Nat} {k : Nat} (hk : am_K a = k) (h1 : 100 ≤ k) (h2 : k ≠ 102) : am_lg a j = false := by
  unfold am_lg
  rw [hk, am_FT_a h1, Bool.or_eq_false_iff]
  refine ⟨?_, rfl⟩
  rw [Bool.eq_false_iff]; intro q; exact h2 (Nat.eq_of_beq_eq_true q)
theorem am_lg_aL {a j : Nat} (hk : am_K a = 102) : am_lg a j = true := by
  unfold am_lg
  rw [hk]
  rfl
theorem am_LEN_le (a : Nat) : am_LEN a ≤ 2048 := am_n2_in (P := fun n => n ≤ 2048) (by decide) (by decide) a
theorem am_fv_i {u : am_U} {f : Nat → Int} {a ci j : Nat} (hk : am_K a = ci) (h1 : am_FT ci j = 0 ∨ am_FT ci j = 3) : am_fv u f a j = .int (Int32.ofInt (f j)) := by
  unfold am_fv
  rw [hk]
  rcases h1 with e | e <;> rw [e] <;> rfl
theorem am_fv_l {u : am_U} {f : Nat → Int} {a ci j : Nat} (hk : am_K a = ci) (h1 : am_FT ci j = 1) : am_fv u f a j = .long (Int64.ofInt (f j)) := by
  unfold am_fv
  rw [hk, h1]
  rfl
theorem am_fv_r {u : am_U} {f : Nat → Int} {a ci j : Nat} (hk : am_K a = ci) (h1 : am_FT ci j = 2) : am_fv u f a j = .ref (u.2.2 (am_REF a j)) := by
  unfold am_fv
  rw [hk, h1]
  rfl
/-- what the tables say of a class -/
def am_Cl (ci : Nat) (C : String) (T : u_T) (N : Nat) : Prop := am_cl[ci]? = some (C, T, N) ∧ ci < 100 ∧ am_NF ci = N ∧ ∀ w ∈ u_ws C T N, w ∈ am_TS
def am_Lk (own : String) (idx : Nat) (T : u_T) (j : Nat) : Prop := Cond.fieldLink own idx (T j).1 (T j).2.1 (T j).2.2.1 ∈ am_TS
def am_Ln (own : String) (idx : Nat) (T : u_T) (j : Nat) (host : String) : Prop := Cond.fieldLinkNest own idx (T j).1 (T j).2.1 (T j).2.2.1 host ∈ am_NW
theorem S_gi {cc : ByteArray} {own : String} {nL rk : Nat} {ret : Option FieldType} {pcs : Nat → Nat} {ix pc : Nat} {ci j nx idx N : Nat} {C : String} {T : u_T} (hcl : am_Cl ci C T N) (hj : j < N) (hft : am_FT ci j = 0 ∨ am_FT ci j = 3) (hlk : am_Lk own idx T j) (hp : pcs ix = pc) (hn : pcs nx = pc + 3) (hd : decode cc pc = .ok (.getfield idx, 3)) : am_Sd cc own nL rk ret pcs ix (o_gi ci j nx) := by
  intro p l e R s m args below meth c u res hcx E C hE hC ls st M h
  obtain ⟨hx, hb, hr, hml, hown, hts, hK, hEv, hAd, hlocks, rfl⟩ := hcx
  unfold o_gi at h
  split at h
  · rename_i a r
    obtain ⟨hk, h⟩ := am_bfs h
    have hk := Nat.eq_of_beq_eq_true hk
    intro ls' H locs hL hst hM hP hS
    rw [hp]
    have ha : a < am_N := am_K_lt hk (by have := hcl.2.1; omega)
    have he : (am_wl u M)[a]? = some (u.2.2 a, .inr (ci, am_fs u (M a) a)) := by rw [am_wl_at ha, am_ce_obj hk hcl.2.1]
    refine va_get (v := .int (Int32.ofInt (M a j))) hx hb hts hcl.2.2.2 hown hK hP a he hcl.1 j hj (hts _ hlk) (fun _ z => z) ?_ hd ?_
    · rw [am_fs_at (by rw [hk, hcl.2.2.1]; exact hj), am_fv_i hk hft]
    · have k9 := hE _ _ _ _ h ls' H locs hL (am_hc (am_wf_i hM (am_lg_o hk hcl.2.1 (by rcases hft with q | q <;> omega))) (am_ht hst)) hM hP hS
      rw [hn] at k9
      exact k9
  · exact (am_no h).elim
theorem S_giN {cc : ByteArray} {own : String} {nL rk : Nat} {ret : Option FieldType} {pcs : Nat → Nat} {ix pc : Nat} {ci j nx idx N : Nat} {C : String} {T : u_T} {host : String} (hcl : am_Cl ci C T N) (hj : j < N) (hft : am_FT ci j = 0 ∨ am_FT ci j = 3) (hlk : am_Ln own idx T j host) (hp : pcs ix = pc) (hn : pcs nx = pc + 3) (hd : decode cc pc = .ok (.getfield idx, 3)) : am_Sd cc own nL rk ret pcs ix (o_gi ci j nx) := by
  intro p l e R s m args below meth c u res hcx E C hE hC ls st M h
  obtain ⟨hx, hb, hr, hml, hown, hts, hK, hEv, hAd, hlocks, rfl⟩ := hcx
  unfold o_gi at h
  split at h
  · rename_i a r
    obtain ⟨hk, h⟩ := am_bfs h
    have hk := Nat.eq_of_beq_eq_true hk
    intro ls' H locs hL hst hM hP hS
    rw [hp]
    have ha : a < am_N := am_K_lt hk (by have := hcl.2.1; omega)
    have he : (am_wl u M)[a]? = some (u.2.2 a, .inr (ci, am_fs u (M a) a)) := by rw [am_wl_at ha, am_ce_obj hk hcl.2.1]
    refine va_getN (v := .int (Int32.ofInt (M a j))) hx hb hts hcl.2.2.2 hown hK hP a he hcl.1 j hj (va_Nw.use rfl (hEv.1 _ hlk)) (fun _ z => z) ?_ hd ?_
    · rw [am_fs_at (by rw [hk, hcl.2.2.1]; exact hj), am_fv_i hk hft]
    · have k9 := hE _ _ _ _ h ls' H locs hL (am_hc (am_wf_i hM (am_lg_o hk hcl.2.1 (by rcases hft with q | q <;> omega))) (am_ht hst)) hM hP hS
      rw [hn] at k9
      exact k9
  · exact (am_no h).elim
theorem S_gL {cc : ByteArray} {own : String} {nL rk : Nat} {ret : Option FieldType} {pcs : Nat → Nat} {ix pc : Nat} {ci j nx idx N : Nat} {C : String} {T : u_T} (hcl : am_Cl ci C T N) (hj : j < N) (hft : am_FT ci j = 1) (hlk : am_Lk own idx T j) (hp : pcs ix = pc) (hn : pcs nx = pc + 3) (hd : decode cc pc = .ok (.getfield idx, 3)) : am_Sd cc own nL rk ret pcs ix (o_gL ci j nx) := by
  intro p l e R s m args below meth c u res hcx E C hE hC ls st M h
  obtain ⟨hx, hb, hr, hml, hown, hts, hK, hEv, hAd, hlocks, rfl⟩ := hcx
  unfold o_gL at h
  split at h
  · rename_i a r
    obtain ⟨hk, h⟩ := am_bfs h
    have hk := Nat.eq_of_beq_eq_true hk
    intro ls' H locs hL hst hM hP hS
    rw [hp]
    have ha : a < am_N := am_K_lt hk (by have := hcl.2.1; omega)
    have he : (am_wl u M)[a]? = some (u.2.2 a, .inr (ci, am_fs u (M a) a)) := by rw [am_wl_at ha, am_ce_obj hk hcl.2.1]
    refine va_get (v := .long (Int64.ofInt (M a j))) hx hb hts hcl.2.2.2 hown hK hP a he hcl.1 j hj (hts _ hlk) (fun _ z => z) ?_ hd ?_
    · rw [am_fs_at (by rw [hk, hcl.2.2.1]; exact hj), am_fv_l hk hft]
    · have k9 := hE _ _ _ _ h ls' H locs hL (am_hc (am_wf_l hM (am_lg_L hk hft)) (am_ht hst)) hM hP hS
      rw [hn] at k9
      exact k9
  · exact (am_no h).elim
theorem S_gLN {cc : ByteArray} {own : String} {nL rk : Nat} {ret : Option FieldType} {pcs : Nat → Nat} {ix pc : Nat} {ci j nx idx N : Nat} {C : String} {T : u_T} {host : String} (hcl : am_Cl ci C T N) (hj : j < N) (hft : am_FT ci j = 1) (hlk : am_Ln own idx T j host) (hp : pcs ix = pc) (hn : pcs nx = pc + 3) (hd : decode cc pc = .ok (.getfield idx, 3)) : am_Sd cc own nL rk ret pcs ix (o_gL ci j nx) := by
  intro p l e R s m args below meth c u res hcx E C hE hC ls st M h
  obtain ⟨hx, hb, hr, hml, hown, hts, hK, hEv, hAd, hlocks, rfl⟩ := hcx
  unfold o_gL at h
  split at h
  · rename_i a r
    obtain ⟨hk, h⟩ := am_bfs h
    have hk := Nat.eq_of_beq_eq_true hk
    intro ls' H locs hL hst hM hP hS
    rw [hp]
    have ha : a < am_N := am_K_lt hk (by have := hcl.2.1; omega)
    have he : (am_wl u M)[a]? = some (u.2.2 a, .inr (ci, am_fs u (M a) a)) := by rw [am_wl_at ha, am_ce_obj hk hcl.2.1]
    refine va_getN (v := .long (Int64.ofInt (M a j))) hx hb hts hcl.2.2.2 hown hK hP a he hcl.1 j hj (va_Nw.use rfl (hEv.1 _ hlk)) (fun _ z => z) ?_ hd ?_
    · rw [am_fs_at (by rw [hk, hcl.2.2.1]; exact hj), am_fv_l hk hft]
    · have k9 := hE _ _ _ _ h ls' H locs hL (am_hc (am_wf_l hM (am_lg_L hk hft)) (am_ht hst)) hM hP hS
      rw [hn] at k9
      exact k9
  · exact (am_no h).elim
theorem S_gr {cc : ByteArray} {own : String} {nL rk : Nat} {ret : Option FieldType} {pcs : Nat → Nat} {ix pc : Nat} {ci j nx idx N : Nat} {C : String} {T : u_T} (hcl : am_Cl ci C T N) (hj : j < N) (hft : am_FT ci j = 2) (hlk : am_Lk own idx T j) (hp : pcs ix = pc) (hn : pcs nx = pc + 3) (hd : decode cc pc = .ok (.getfield idx, 3)) : am_Sd cc own nL rk ret pcs ix (o_gr ci j nx) := by
  intro p l e R s m args below meth c u res hcx E C hE hC ls st M h
  obtain ⟨hx, hb, hr, hml, hown, hts, hK, hEv, hAd, hlocks, rfl⟩ := hcx
  unfold o_gr at h
  split at h
  · rename_i a r
    obtain ⟨hk, h⟩ := am_bfs h
    have hk := Nat.eq_of_beq_eq_true hk
    intro ls' H locs hL hst hM hP hS
    rw [hp]
    have ha : a < am_N := am_K_lt hk (by have := hcl.2.1; omega)
    have he : (am_wl u M)[a]? = some (u.2.2 a, .inr (ci, am_fs u (M a) a)) := by rw [am_wl_at ha, am_ce_obj hk hcl.2.1]
    refine va_get (v := .ref (u.2.2 (am_REF a j))) hx hb hts hcl.2.2.2 hown hK hP a he hcl.1 j hj (hts _ hlk) (fun _ z => z) ?_ hd ?_
    · rw [am_fs_at (by rw [hk, hcl.2.2.1]; exact hj), am_fv_r hk hft]
    · have k9 := hE _ _ _ _ h ls' H locs hL (am_hc (trivial) (am_ht hst)) hM hP hS
      rw [hn] at k9
      exact k9
  · exact (am_no h).elim
theorem S_grN {cc : ByteArray} {own : String} {nL rk : Nat} {ret : Option FieldType} {pcs : Nat → Nat} {ix pc : Nat} {ci j nx idx N : Nat} {C : String} {T : u_T} {host : String} (hcl : am_Cl ci C T N) (hj : j < N) (hft : am_FT ci j = 2) (hlk : am_Ln own idx T j host) (hp : pcs ix = pc) (hn : pcs nx = pc + 3) (hd : decode cc pc = .ok (.getfield idx, 3)) : am_Sd cc own nL rk ret pcs ix (o_gr ci j nx) := by
  intro p l e R s m args below meth c u res hcx E C hE hC ls st M h
  obtain ⟨hx, hb, hr, hml, hown, hts, hK, hEv, hAd, hlocks, rfl⟩ := hcx
  unfold o_gr at h
  split at h
  · rename_i a r
    obtain ⟨hk, h⟩ := am_bfs h
    have hk := Nat.eq_of_beq_eq_true hk
    intro ls' H locs hL hst hM hP hS
    rw [hp]
    have ha : a < am_N := am_K_lt hk (by have := hcl.2.1; omega)
    have he : (am_wl u M)[a]? = some (u.2.2 a, .inr (ci, am_fs u (M a) a)) := by rw [am_wl_at ha, am_ce_obj hk hcl.2.1]
    refine va_getN (v := .ref (u.2.2 (am_REF a j))) hx hb hts hcl.2.2.2 hown hK hP a he hcl.1 j hj (va_Nw.use rfl (hEv.1 _ hlk)) (fun _ z => z) ?_ hd ?_
    · rw [am_fs_at (by rw [hk, hcl.2.2.1]; exact hj), am_fv_r hk hft]
    · have k9 := hE _ _ _ _ h ls' H locs hL (am_hc (trivial) (am_ht hst)) hM hP hS
      rw [hn] at k9
      exact k9
  · exact (am_no h).elim
theorem S_pi {cc : ByteArray} {own : String} {nL rk : Nat} {ret : Option FieldType} {pcs : Nat → Nat} {ix pc : Nat} {ci j nx idx N : Nat} {C : String} {T : u_T} {ty0 : Nat → FieldType} (hcl : am_Cl ci C T N) (hty : ∀ k, k < N → parseFieldDescriptor (T k).2.2.1 = some (ty0 k)) (hnm : ∀ a, a < N → ∀ b, b < N → a ≠ b → (T a).2.1 ≠ (T b).2.1) (hj : j < N) (hft : am_FT ci j = 0) (hfin : (T j).2.2.2 = false) (hpd : parseFieldDescriptor (T j).2.2.1 = some .int) (hlk : am_Lk own idx T j) (hp : pcs ix = pc) (hn : pcs nx = pc + 3) (hd : decode cc pc = .ok (.putfield idx, 3)) : am_Sd cc own nL rk ret pcs ix (o_pi ci j nx) := by
  intro p l e R s m args below meth c u res hcx E C hE hC ls st M h
  obtain ⟨hx, hb, hr, hml, hown, hts, hK, hEv, hAd, hlocks, rfl⟩ := hcx
  unfold o_pi at h
  split at h
  · rename_i v a r
    obtain ⟨hk, h⟩ := am_bfs h
    have hk := Nat.eq_of_beq_eq_true hk
    intro ls' H locs hL hst hM hP hS
    rw [hp]
    have ha : a < am_N := am_K_lt hk (by have := hcl.2.1; omega)
    have he : (am_wl u M)[a]? = some (u.2.2 a, .inr (ci, am_fs u (M a) a)) := by rw [am_wl_at ha, am_ce_obj hk hcl.2.1]
    have e2 : (am_wl u M).set a (u.2.2 a, .inr (ci, (am_fs u (M a) a).set j (.int (Int32.ofInt v)))) = am_wl u (am_up M a j v) := by
      refine am_wl_set ha ?_ (fun b hb => am_up_ne M a j v hb)
      rw [am_ce_obj hk hcl.2.1, am_fs_set (g := am_up M a j v a) ?_ (fun k q => am_up_nj M a j v q)]
      rw [am_fv_i hk (Or.inl hft), am_up_at]
    refine va_put (v := .int (Int32.ofInt v)) (ty := .int) hx hb hts hcl.2.2.2 ty0 hty hnm hown hK hP (am_hD hAd) hS a he hcl.1 j hj (hts _ hlk) (fun _ z => z) hfin hpd rfl rfl (by rw [am_fs_len, hk, hcl.2.2.1]; exact hj) hd (fun H1 locs1 hP1 hD1 hS1 => ?_)
    rw [e2] at hP1
    have k9 := hE _ _ _ _ h ls' H1 locs1 hL (am_ht (am_ht hst)) (am_wf_upi hM (am_lg_o hk hcl.2.1 (by omega)) (am_h1 hst)) hP1 hS1
    rw [hn] at k9
    exact k9
  · exact (am_no h).elim
theorem S_piN {cc : ByteArray} {own : String} {nL rk : Nat} {ret : Option FieldType} {pcs : Nat → Nat} {ix pc : Nat} {ci j nx idx N : Nat} {C : String} {T : u_T} {host : String} {ty0 : Nat → FieldType} (hcl : am_Cl ci C T N) (hty : ∀ k, k < N → parseFieldDescriptor (T k).2.2.1 = some (ty0 k)) (hnm : ∀ a, a < N → ∀ b, b < N → a ≠ b → (T a).2.1 ≠ (T b).2.1) (hj : j < N) (hft : am_FT ci j = 0) (hfin : (T j).2.2.2 = false) (hpd : parseFieldDescriptor (T j).2.2.1 = some .int) (hlk : am_Ln own idx T j host) (hp : pcs ix = pc) (hn : pcs nx = pc + 3) (hd : decode cc pc = .ok (.putfield idx, 3)) : am_Sd cc own nL rk ret pcs ix (o_pi ci j nx) := by
  intro p l e R s m args below meth c u res hcx E C hE hC ls st M h
  obtain ⟨hx, hb, hr, hml, hown, hts, hK, hEv, hAd, hlocks, rfl⟩ := hcx
  unfold o_pi at h
  split at h
  · rename_i v a r
    obtain ⟨hk, h⟩ := am_bfs h
    have hk := Nat.eq_of_beq_eq_true hk
    intro ls' H locs hL hst hM hP hS
    rw [hp]
    have ha : a < am_N := am_K_lt hk (by have := hcl.2.1; omega)
    have he : (am_wl u M)[a]? = some (u.2.2 a, .inr (ci, am_fs u (M a) a)) := by rw [am_wl_at ha, am_ce_obj hk hcl.2.1]
    have e2 : (am_wl u M).set a (u.2.2 a, .inr (ci, (am_fs u (M a) a).set j (.int (Int32.ofInt v)))) = am_wl u (am_up M a j v) := by
      refine am_wl_set ha ?_ (fun b hb => am_up_ne M a j v hb)
      rw [am_ce_obj hk hcl.2.1, am_fs_set (g := am_up M a j v a) ?_ (fun k q => am_up_nj M a j v q)]
      rw [am_fv_i hk (Or.inl hft), am_up_at]
    refine va_putN (v := .int (Int32.ofInt v)) (ty := .int) hx hb hts hcl.2.2.2 ty0 hty hnm hown hK hP (am_hD hAd) hS a he hcl.1 j hj (va_Nw.use rfl (hEv.1 _ hlk)) (fun _ z => z) hfin hpd rfl rfl (by rw [am_fs_len, hk, hcl.2.2.1]; exact hj) hd (fun H1 locs1 hP1 hD1 hS1 => ?_)
    rw [e2] at hP1
    have k9 := hE _ _ _ _ h ls' H1 locs1 hL (am_ht (am_ht hst)) (am_wf_upi hM (am_lg_o hk hcl.2.1 (by omega)) (am_h1 hst)) hP1 hS1
    rw [hn] at k9
    exact k9
  · exact (am_no h).elim
theorem S_pL {cc : ByteArray} {own : String} {nL rk : Nat} {ret : Option FieldType} {pcs : Nat → Nat} {ix pc : Nat} {ci j nx idx N : Nat} {C : String} {T : u_T} {ty0 : Nat → FieldType} (hcl : am_Cl ci C T N) (hty : ∀ k, k < N → parseFieldDescriptor (T k).2.2.1 = some (ty0 k)) (hnm : ∀ a, a < N → ∀ b, b < N → a ≠ b → (T a).2.1 ≠ (T b).2.1) (hj : j < N) (hft : am_FT ci j = 1) (hfin : (T j).2.2.2 = false) (hpd : parseFieldDescriptor (T j).2.2.1 = some .long) (hlk : am_Lk own idx T j) (hp : pcs ix = pc) (hn : pcs nx = pc + 3) (hd : decode cc pc = .ok (.putfield idx, 3)) : am_Sd cc own nL rk ret pcs ix (o_pL ci j nx) := by
  intro p l e R s m args below meth c u res hcx E C hE hC ls st M h
  obtain ⟨hx, hb, hr, hml, hown, hts, hK, hEv, hAd, hlocks, rfl⟩ := hcx
  unfold o_pL at h
  split at h
  · rename_i v a r
    obtain ⟨hk, h⟩ := am_bfs h
    have hk := Nat.eq_of_beq_eq_true hk
    intro ls' H locs hL hst hM hP hS
    rw [hp]
    have ha : a < am_N := am_K_lt hk (by have := hcl.2.1; omega)
    have he : (am_wl u M)[a]? = some (u.2.2 a, .inr (ci, am_fs u (M a) a)) := by rw [am_wl_at ha, am_ce_obj hk hcl.2.1]
    have e2 : (am_wl u M).set a (u.2.2 a, .inr (ci, (am_fs u (M a) a).set j (.long (Int64.ofInt v)))) = am_wl u (am_up M a j v) := by
      refine am_wl_set ha ?_ (fun b hb => am_up_ne M a j v hb)
      rw [am_ce_obj hk hcl.2.1, am_fs_set (g := am_up M a j v a) ?_ (fun k q => am_up_nj M a j v q)]
      rw [am_fv_l hk hft, am_up_at]
    refine va_put (v := .long (Int64.ofInt v)) (ty := .long) hx hb hts hcl.2.2.2 ty0 hty hnm hown hK hP (am_hD hAd) hS a he hcl.1 j hj (hts _ hlk) (fun _ z => z) hfin hpd rfl rfl (by rw [am_fs_len, hk, hcl.2.2.1]; exact hj) hd (fun H1 locs1 hP1 hD1 hS1 => ?_)
    rw [e2] at hP1
    have k9 := hE _ _ _ _ h ls' H1 locs1 hL (am_ht (am_ht hst)) (am_wf_upl hM (am_lg_L hk hft) (am_h1 hst)) hP1 hS1
    rw [hn] at k9
    exact k9
  · exact (am_no h).elim
theorem S_pLN {cc : ByteArray} {own : String} {nL rk : Nat} {ret : Option FieldType} {pcs : Nat → Nat} {ix pc : Nat} {ci j nx idx N : Nat} {C : String} {T : u_T} {host : String} {ty0 : Nat → FieldType} (hcl : am_Cl ci C T N) (hty : ∀ k, k < N → parseFieldDescriptor (T k).2.2.1 = some (ty0 k)) (hnm : ∀ a, a < N → ∀ b, b < N → a ≠ b → (T a).2.1 ≠ (T b).2.1) (hj : j < N) (hft : am_FT ci j = 1) (hfin : (T j).2.2.2 = false) (hpd : parseFieldDescriptor (T j).2.2.1 = some .long) (hlk : am_Ln own idx T j host) (hp : pcs ix = pc) (hn : pcs nx = pc + 3) (hd : decode cc pc = .ok (.putfield idx, 3)) : am_Sd cc own nL rk ret pcs ix (o_pL ci j nx) := by
  intro p l e R s m args below meth c u res hcx E C hE hC ls st M h
  obtain ⟨hx, hb, hr, hml, hown, hts, hK, hEv, hAd, hlocks, rfl⟩ := hcx
  unfold o_pL at h
  split at h
  · rename_i v a r
    obtain ⟨hk, h⟩ := am_bfs h
    have hk := Nat.eq_of_beq_eq_true hk
    intro ls' H locs hL hst hM hP hS
    rw [hp]
    have ha : a < am_N := am_K_lt hk (by have := hcl.2.1; omega)
    have he : (am_wl u M)[a]? = some (u.2.2 a, .inr (ci, am_fs u (M a) a)) := by rw [am_wl_at ha, am_ce_obj hk hcl.2.1]
    have e2 : (am_wl u M).set a (u.2.2 a, .inr (ci, (am_fs u (M a) a).set j (.long (Int64.ofInt v)))) = am_wl u (am_up M a j v) := by
      refine am_wl_set ha ?_ (fun b hb => am_up_ne M a j v hb)
      rw [am_ce_obj hk hcl.2.1, am_fs_set (g := am_up M a j v a) ?_ (fun k q => am_up_nj M a j v q)]
      rw [am_fv_l hk hft, am_up_at]
    refine va_putN (v := .long (Int64.ofInt v)) (ty := .long) hx hb hts hcl.2.2.2 ty0 hty hnm hown hK hP (am_hD hAd) hS a he hcl.1 j hj (va_Nw.use rfl (hEv.1 _ hlk)) (fun _ z => z) hfin hpd rfl rfl (by rw [am_fs_len, hk, hcl.2.2.1]; exact hj) hd (fun H1 locs1 hP1 hD1 hS1 => ?_)
    rw [e2] at hP1
    have k9 := hE _ _ _ _ h ls' H1 locs1 hL (am_ht (am_ht hst)) (am_wf_upl hM (am_lg_L hk hft) (am_h1 hst)) hP1 hS1
    rw [hn] at k9
    exact k9
  · exact (am_no h).elim
theorem S_pz {cc : ByteArray} {own : String} {nL rk : Nat} {ret : Option FieldType} {pcs : Nat → Nat} {ix pc : Nat} {ci j nx idx N : Nat} {C : String} {T : u_T} {ty0 : Nat → FieldType} (hcl : am_Cl ci C T N) (hty : ∀ k, k < N → parseFieldDescriptor (T k).2.2.1 = some (ty0 k)) (hnm : ∀ a, a < N → ∀ b, b < N → a ≠ b → (T a).2.1 ≠ (T b).2.1) (hj : j < N) (hft : am_FT ci j = 3) (hfin : (T j).2.2.2 = false) (hpd : parseFieldDescriptor (T j).2.2.1 = some .boolean) (hlk : am_Lk own idx T j) (hp : pcs ix = pc) (hn : pcs nx = pc + 3) (hd : decode cc pc = .ok (.putfield idx, 3)) : am_Sd cc own nL rk ret pcs ix (o_pz ci j nx) := by
  intro p l e R s m args below meth c u res hcx E C hE hC ls st M h
  obtain ⟨hx, hb, hr, hml, hown, hts, hK, hEv, hAd, hlocks, rfl⟩ := hcx
  unfold o_pz at h
  split at h
  · rename_i v a r
    obtain ⟨hk, h⟩ := am_bfs h
    have hk := Nat.eq_of_beq_eq_true hk
    rcases am_ifs h with ⟨hz, h⟩ | ⟨hz, h⟩
    case inr => exact (am_no h).elim
    intro ls' H locs hL hst hM hP hS
    rw [hp]
    have ha : a < am_N := am_K_lt hk (by have := hcl.2.1; omega)
    have he : (am_wl u M)[a]? = some (u.2.2 a, .inr (ci, am_fs u (M a) a)) := by rw [am_wl_at ha, am_ce_obj hk hcl.2.1]
    have e2 : (am_wl u M).set a (u.2.2 a, .inr (ci, (am_fs u (M a) a).set j (.int (Int32.ofInt v)))) = am_wl u (am_up M a j v) := by
      refine am_wl_set ha ?_ (fun b hb => am_up_ne M a j v hb)
      rw [am_ce_obj hk hcl.2.1, am_fs_set (g := am_up M a j v a) ?_ (fun k q => am_up_nj M a j v q)]
      rw [am_fv_i hk (Or.inr hft), am_up_at]
    refine va_put (v := .int (Int32.ofInt v)) (ty := .boolean) hx hb hts hcl.2.2.2 ty0 hty hnm hown hK hP (am_hD hAd) hS a he hcl.1 j hj (hts _ hlk) (fun _ z => z) hfin hpd (by rcases hz with rfl | rfl <;> rfl) (by rcases hz with rfl | rfl <;> rfl) (by rw [am_fs_len, hk, hcl.2.2.1]; exact hj) hd (fun H1 locs1 hP1 hD1 hS1 => ?_)
    rw [e2] at hP1
    have k9 := hE _ _ _ _ h ls' H1 locs1 hL (am_ht (am_ht hst)) (am_wf_upi hM (am_lg_o hk hcl.2.1 (by omega)) (am_h1 hst)) hP1 hS1
    rw [hn] at k9
    exact k9
  · exact (am_no h).elim
theorem S_pzN {cc : ByteArray} {own : String} {nL rk : Nat} {ret : Option FieldType} {pcs : Nat → Nat} {ix pc : Nat} {ci j nx idx N : Nat} {C : String} {T : u_T} {host : String} {ty0 : Nat → FieldType} (hcl : am_Cl ci C T N) (hty : ∀ k, k < N → parseFieldDescriptor (T k).2.2.1 = some (ty0 k)) (hnm : ∀ a, a < N → ∀ b, b < N → a ≠ b → (T a).2.1 ≠ (T b).2.1) (hj : j < N) (hft : am_FT ci j = 3) (hfin : (T j).2.2.2 = false) (hpd : parseFieldDescriptor (T j).2.2.1 = some .boolean) (hlk : am_Ln own idx T j host) (hp : pcs ix = pc) (hn : pcs nx = pc + 3) (hd : decode cc pc = .ok (.putfield idx, 3)) : am_Sd cc own nL rk ret pcs ix (o_pz ci j nx) := by
  intro p l e R s m args below meth c u res hcx E C hE hC ls st M h
  obtain ⟨hx, hb, hr, hml, hown, hts, hK, hEv, hAd, hlocks, rfl⟩ := hcx
  unfold o_pz at h
  split at h
  · rename_i v a r
    obtain ⟨hk, h⟩ := am_bfs h
    have hk := Nat.eq_of_beq_eq_true hk
    rcases am_ifs h with ⟨hz, h⟩ | ⟨hz, h⟩
    case inr => exact (am_no h).elim
    intro ls' H locs hL hst hM hP hS
    rw [hp]
    have ha : a < am_N := am_K_lt hk (by have := hcl.2.1; omega)
    have he : (am_wl u M)[a]? = some (u.2.2 a, .inr (ci, am_fs u (M a) a)) := by rw [am_wl_at ha, am_ce_obj hk hcl.2.1]
    have e2 : (am_wl u M).set a (u.2.2 a, .inr (ci, (am_fs u (M a) a).set j (.int (Int32.ofInt v)))) = am_wl u (am_up M a j v) := by
      refine am_wl_set ha ?_ (fun b hb => am_up_ne M a j v hb)
      rw [am_ce_obj hk hcl.2.1, am_fs_set (g := am_up M a j v a) ?_ (fun k q => am_up_nj M a j v q)]
      rw [am_fv_i hk (Or.inr hft), am_up_at]
    refine va_putN (v := .int (Int32.ofInt v)) (ty := .boolean) hx hb hts hcl.2.2.2 ty0 hty hnm hown hK hP (am_hD hAd) hS a he hcl.1 j hj (va_Nw.use rfl (hEv.1 _ hlk)) (fun _ z => z) hfin hpd (by rcases hz with rfl | rfl <;> rfl) (by rcases hz with rfl | rfl <;> rfl) (by rw [am_fs_len, hk, hcl.2.2.1]; exact hj) hd (fun H1 locs1 hP1 hD1 hS1 => ?_)
    rw [e2] at hP1
    have k9 := hE _ _ _ _ h ls' H1 locs1 hL (am_ht (am_ht hst)) (am_wf_upi hM (am_lg_o hk hcl.2.1 (by omega)) (am_h1 hst)) hP1 hS1
    rw [hn] at k9
    exact k9
  · exact (am_no h).elim
theorem S_ia {cc : ByteArray} {own : String} {nL rk : Nat} {ret : Option FieldType} {pcs : Nat → Nat} {ix pc : Nat} {nx : Nat} (hp : pcs ix = pc) (hn : pcs nx = pc + 1) (hd : decode cc pc = .ok (.iaload, 1)) : am_Sd cc own nL rk ret pcs ix (o_ia nx) := by
  intro p l e R s m args below meth c u res hcx E C hE hC ls st M h
  obtain ⟨hx, hb, hr, hml, hown, hts, hK, hEv, hAd, hlocks, rfl⟩ := hcx
  unfold o_ia at h
  split at h
  · rename_i i a r
    obtain ⟨hk, h⟩ := am_bfs h
    have hk := Nat.eq_of_beq_eq_true hk
    obtain ⟨hi, h⟩ := am_bds h
    intro ls' H locs hL hst hM hP hS
    rw [hp]
    have ha : a < am_N := am_K_lt hk (by omega)
    have he : (am_wl u M)[a]? = some (u.2.2 a, .inl (u.2.1 0, am_LEN a, .inl (fun j => Int32.ofInt (M a j)))) := by rw [am_wl_at ha, am_ce_i hk]
    refine va_iald hx hb hK hP a 0 he rfl (nm_in (am_h1 hst) hi.1 hi.2) hd ?_
    rw [nm_cl (am_h1 hst)]
    have k9 := hE _ _ _ _ h ls' H locs hL (am_hc (am_wf_i hM (am_lg_a hk (by omega) (by omega))) (am_ht (am_ht hst))) hM hP hS
    rw [hn] at k9
    exact k9
  · exact (am_no h).elim
theorem S_ba {cc : ByteArray} {own : String} {nL rk : Nat} {ret : Option FieldType} {pcs : Nat → Nat} {ix pc : Nat} {nx : Nat} (hp : pcs ix = pc) (hn : pcs nx = pc + 1) (hd : decode cc pc = .ok (.baload, 1)) : am_Sd cc own nL rk ret pcs ix (o_ba nx) := by
  intro p l e R s m args below meth c u res hcx E C hE hC ls st M h
  obtain ⟨hx, hb, hr, hml, hown, hts, hK, hEv, hAd, hlocks, rfl⟩ := hcx
  unfold o_ba at h
  split at h
  · rename_i i a r
    obtain ⟨hk, h⟩ := am_bfs h
    have hk := Nat.eq_of_beq_eq_true hk
    obtain ⟨hi, h⟩ := am_bds h
    intro ls' H locs hL hst hM hP hS
    rw [hp]
    have ha : a < am_N := am_K_lt hk (by omega)
    have he : (am_wl u M)[a]? = some (u.2.2 a, .inl (u.2.1 1, am_LEN a, .inl (fun j => Int32.ofInt (M a j)))) := by rw [am_wl_at ha, am_ce_b hk]
    refine va_bald hx hb hK hP a 1 he rfl (nm_in (am_h1 hst) hi.1 hi.2) hd ?_
    rw [nm_cl (am_h1 hst)]
    have k9 := hE _ _ _ _ h ls' H locs hL (am_hc (am_wf_i hM (am_lg_a hk (by omega) (by omega))) (am_ht (am_ht hst))) hM hP hS
    rw [hn] at k9
    exact k9
  · exact (am_no h).elim
theorem S_la {cc : ByteArray} {own : String} {nL rk : Nat} {ret : Option FieldType} {pcs : Nat → Nat} {ix pc : Nat} {nx : Nat} (hp : pcs ix = pc) (hn : pcs nx = pc + 1) (hd : decode cc pc = .ok (.laload, 1)) : am_Sd cc own nL rk ret pcs ix (o_la nx) := by
  intro p l e R s m args below meth c u res hcx E C hE hC ls st M h
  obtain ⟨hx, hb, hr, hml, hown, hts, hK, hEv, hAd, hlocks, rfl⟩ := hcx
  unfold o_la at h
  split at h
  · rename_i i a r
    obtain ⟨hk, h⟩ := am_bfs h
    have hk := Nat.eq_of_beq_eq_true hk
    obtain ⟨hi, h⟩ := am_bds h
    intro ls' H locs hL hst hM hP hS
    rw [hp]
    have ha : a < am_N := am_K_lt hk (by omega)
    have he : (am_wl u M)[a]? = some (u.2.2 a, .inl (u.2.1 2, am_LEN a, .inr (.inl (fun j => Int64.ofInt (M a j))))) := by rw [am_wl_at ha, am_ce_l hk]
    refine va_lald hx hb hK hP a 2 he rfl (nm_in (am_h1 hst) hi.1 hi.2) hd ?_
    rw [nm_cl (am_h1 hst)]
    have k9 := hE _ _ _ _ h ls' H locs hL (am_hc (am_wf_l hM (am_lg_aL hk)) (am_ht (am_ht hst))) hM hP hS
    rw [hn] at k9
    exact k9
  · exact (am_no h).elim
theorem am_updI (M : am_M) (a i : Nat) (v : Int) : upd (fun j => Int32.ofInt (M a j)) i (Int32.ofInt v) = fun j => Int32.ofInt (am_up M a i v a j) := by
  funext j
  by_cases e : j = i
  · subst e; simp [upd, am_up]
  · simp [upd, am_up, e]
theorem am_updL (M : am_M) (a i : Nat) (v : Int) : vp_updL (fun j => Int64.ofInt (M a j)) i (Int64.ofInt v) = fun j => Int64.ofInt (am_up M a i v a j) := by
  funext j
  by_cases e : j = i
  · subst e; simp [vp_updL, am_up]
  · simp [vp_updL, am_up, e]
theorem S_iw {cc : ByteArray} {own : String} {nL rk : Nat} {ret : Option FieldType} {pcs : Nat → Nat} {ix pc : Nat} {nx : Nat} (hp : pcs ix = pc) (hn : pcs nx = pc + 1) (hd : decode cc pc = .ok (.iastore, 1)) : am_Sd cc own nL rk ret pcs ix (o_iw nx) := by
  intro p l e R s m args below meth c u res hcx E C hE hC ls st M h
  obtain ⟨hx, hb, hr, hml, hown, hts, hK, hEv, hAd, hlocks, rfl⟩ := hcx
  unfold o_iw at h
  split at h
  · rename_i v i a r
    obtain ⟨hk, h⟩ := am_bfs h
    have hk := Nat.eq_of_beq_eq_true hk
    obtain ⟨hi, h⟩ := am_bds h
    intro ls' H locs hL hst hM hP hS
    rw [hp]
    have ha : a < am_N := am_K_lt hk (by omega)
    have he : (am_wl u M)[a]? = some (u.2.2 a, .inl (u.2.1 0, am_LEN a, .inl (fun j => Int32.ofInt (M a j)))) := by rw [am_wl_at ha, am_ce_i hk]
    have e2 : (am_wl u M).set a (u.2.2 a, .inl (u.2.1 0, am_LEN a, .inl (upd (fun j => Int32.ofInt (M a j)) i.toNat (Int32.ofInt v)))) = am_wl u (am_up M a i.toNat v) := by
      refine am_wl_set ha ?_ (fun b hb => am_up_ne M a _ v hb)
      rw [am_ce_i hk, am_updI]
    refine va_iast hx hb hK hP (am_hD hAd) hS a 0 he rfl (nm_in (am_h1 (am_ht hst)) hi.1 hi.2) hd (fun H1 locs1 hP1 hD1 hS1 => ?_)
    rw [nm_cl (am_h1 (am_ht hst)), e2] at hP1
    have k9 := hE _ _ _ _ h ls' H1 locs1 hL (am_ht (am_ht (am_ht hst))) (am_wf_upi hM (am_lg_a hk (by omega) (by omega)) (am_h1 hst)) hP1 hS1
    rw [hn] at k9
    exact k9
  · exact (am_no h).elim
theorem S_bw {cc : ByteArray} {own : String} {nL rk : Nat} {ret : Option FieldType} {pcs : Nat → Nat} {ix pc : Nat} {nx : Nat} (hp : pcs ix = pc) (hn : pcs nx = pc + 1) (hd : decode cc pc = .ok (.bastore, 1)) : am_Sd cc own nL rk ret pcs ix (o_bw nx) := by
  intro p l e R s m args below meth c u res hcx E C hE hC ls st M h
  obtain ⟨hx, hb, hr, hml, hown, hts, hK, hEv, hAd, hlocks, rfl⟩ := hcx
  unfold o_bw at h
  split at h
  · rename_i v i a r
    obtain ⟨hk, h⟩ := am_bfs h
    have hk := Nat.eq_of_beq_eq_true hk
    obtain ⟨hi, h⟩ := am_bds h
    rcases am_ifs h with ⟨hz, h⟩ | ⟨hz, h⟩
    case inr => exact (am_no h).elim
    intro ls' H locs hL hst hM hP hS
    rw [hp]
    have ha : a < am_N := am_K_lt hk (by omega)
    have he : (am_wl u M)[a]? = some (u.2.2 a, .inl (u.2.1 1, am_LEN a, .inl (fun j => Int32.ofInt (M a j)))) := by rw [am_wl_at ha, am_ce_b hk]
    have e2 : (am_wl u M).set a (u.2.2 a, .inl (u.2.1 1, am_LEN a, .inl (upd (fun j => Int32.ofInt (M a j)) i.toNat (Int32.ofInt v)))) = am_wl u (am_up M a i.toNat v) := by
      refine am_wl_set ha ?_ (fun b hb => am_up_ne M a _ v hb)
      rw [am_ce_b hk, am_updI]
    refine va_bast hx hb hK hP (am_hD hAd) hS a 1 he rfl (nm_in (am_h1 (am_ht hst)) hi.1 hi.2) hd (fun H1 locs1 hP1 hD1 hS1 => ?_)
    rw [nm_cl (am_h1 (am_ht hst)), nm_by hz.1 hz.2, e2] at hP1
    have k9 := hE _ _ _ _ h ls' H1 locs1 hL (am_ht (am_ht (am_ht hst))) (am_wf_upi hM (am_lg_a hk (by omega) (by omega)) (am_h1 hst)) hP1 hS1
    rw [hn] at k9
    exact k9
  · exact (am_no h).elim
theorem S_lw {cc : ByteArray} {own : String} {nL rk : Nat} {ret : Option FieldType} {pcs : Nat → Nat} {ix pc : Nat} {nx : Nat} (hp : pcs ix = pc) (hn : pcs nx = pc + 1) (hd : decode cc pc = .ok (.lastore, 1)) : am_Sd cc own nL rk ret pcs ix (o_lw nx) := by
  intro p l e R s m args below meth c u res hcx E C hE hC ls st M h
  obtain ⟨hx, hb, hr, hml, hown, hts, hK, hEv, hAd, hlocks, rfl⟩ := hcx
  unfold o_lw at h
  split at h
  · rename_i v i a r
    obtain ⟨hk, h⟩ := am_bfs h
    have hk := Nat.eq_of_beq_eq_true hk
    obtain ⟨hi, h⟩ := am_bds h
    intro ls' H locs hL hst hM hP hS
    rw [hp]
    have ha : a < am_N := am_K_lt hk (by omega)
    have he : (am_wl u M)[a]? = some (u.2.2 a, .inl (u.2.1 2, am_LEN a, .inr (.inl (fun j => Int64.ofInt (M a j))))) := by rw [am_wl_at ha, am_ce_l hk]
    have e2 : (am_wl u M).set a (u.2.2 a, .inl (u.2.1 2, am_LEN a, .inr (.inl (vp_updL (fun j => Int64.ofInt (M a j)) i.toNat (Int64.ofInt v))))) = am_wl u (am_up M a i.toNat v) := by
      refine am_wl_set ha ?_ (fun b hb => am_up_ne M a _ v hb)
      rw [am_ce_l hk, am_updL]
    refine va_last hx hb hK hP (am_hD hAd) hS a 2 he rfl (nm_in (am_h1 (am_ht hst)) hi.1 hi.2) hd (fun H1 locs1 hP1 hD1 hS1 => ?_)
    rw [nm_cl (am_h1 (am_ht hst)), e2] at hP1
    have k9 := hE _ _ _ _ h ls' H1 locs1 hL (am_ht (am_ht (am_ht hst))) (am_wf_upl hM (am_lg_aL hk) (am_h1 hst)) hP1 hS1
    rw [hn] at k9
    exact k9
  · exact (am_no h).elim
theorem S_len {cc : ByteArray} {own : String} {nL rk : Nat} {ret : Option FieldType} {pcs : Nat → Nat} {ix pc : Nat} {nx : Nat} (hp : pcs ix = pc) (hn : pcs nx = pc + 1) (hd : decode cc pc = .ok (.arraylength, 1)) : am_Sd cc own nL rk ret pcs ix (o_len nx) := by
  intro p l e R s m args below meth c u res hcx E C hE hC ls st M h
  obtain ⟨hx, hb, hr, hml, hown, hts, hK, hEv, hAd, hlocks, rfl⟩ := hcx
  unfold o_len at h
  split at h
  · rename_i a r
    obtain ⟨hk, h⟩ := am_bfs h
    have hk := Nat.eq_of_beq_eq_true hk
    intro ls' H locs hL hst hM hP hS
    rw [hp]
    have ha : a < am_N := am_K_lt hk (by omega)
    have he : (am_wl u M)[a]? = some (u.2.2 a, .inl (u.2.1 0, am_LEN a, .inl (fun j => Int32.ofInt (M a j)))) := by rw [am_wl_at ha, am_ce_i hk]
    refine va_alen hx hb hK hP a 0 he (ty := .int) rfl (nm_nat _) hd ?_
    have k9 := hE _ _ _ _ h ls' H locs hL (am_hc (v := iV (am_LEN a : Int)) ⟨by omega, by have := am_LEN_le a; omega⟩ (am_ht hst)) hM hP hS
    rw [hn] at k9
    exact k9
  · exact (am_no h).elim
theorem S_mx {cc : ByteArray} {own : String} {nL rk : Nat} {ret : Option FieldType} {pcs : Nat → Nat} {ix pc : Nat} {nx idx : Nat} (hrk : 1 ≤ rk) (hlk : Cond.methodLink own idx Lib.Math.max.name ∈ am_TS) (hst2 : Cond.static Lib.Math.max.name ∈ am_TS) (hini : Cond.initialized "java/lang/Math" ∈ am_TS) (hco : Cond.code Lib.Math.max.name Lib.Math.max.code 2 (some .int) ∈ am_TS) (hp : pcs ix = pc) (hn : pcs nx = pc + 3) (hd : decode cc pc = .ok (.invokestatic idx, 3)) : am_Sd cc own nL rk ret pcs ix (o_mx nx) := by
  intro p l e R s m args below meth c u res hcx E C hE hC ls st M h
  obtain ⟨hx, hb, hr, hml, hown, hts, hK, hEv, hAd, hlocks, rfl⟩ := hcx
  unfold o_mx at h
  split at h
  · rename_i b a r
    obtain ⟨hct, h⟩ := am_bfs h
    have hct := Nat.le_of_ble_eq_true hct
    intro ls' H locs hL hst hM hP hS
    rw [hp]
    refine va_mmax hx hb (by rw [hml, hL.1]) hown (hts _ hlk) (hts _ hst2) (hts _ hini) (hts _ hco) (by exact hrk) (by rw [am_ctc]; show _ ≤ rk * 64; omega) (Nat.le_refl 0) (Nat.le_refl 0) hd ?_
    rw [nm_mx (am_h1 (am_ht hst)) (am_h1 hst)]
    have k9 := hE _ _ _ _ h ls' H locs hL (am_hc (by have h5 := am_h1 hst; have h6 := am_h1 (am_ht hst); exact ⟨by have := h5.1; have := h6.1; omega, by have := h5.2; have := h6.2; omega⟩) (am_ht (am_ht hst))) hM hP hS
    rw [hn] at k9
    exact k9
  · exact (am_no h).elim
theorem S_mn {cc : ByteArray} {own : String} {nL rk : Nat} {ret : Option FieldType} {pcs : Nat → Nat} {ix pc : Nat} {nx idx : Nat} (hrk : 1 ≤ rk) (hlk : Cond.methodLink own idx Lib.Math.min.name ∈ am_TS) (hst2 : Cond.static Lib.Math.min.name ∈ am_TS) (hini : Cond.initialized "java/lang/Math" ∈ am_TS) (hco : Cond.code Lib.Math.min.name Lib.Math.min.code 2 (some .int) ∈ am_TS) (hp : pcs ix = pc) (hn : pcs nx = pc + 3) (hd : decode cc pc = .ok (.invokestatic idx, 3)) : am_Sd cc own nL rk ret pcs ix (o_mn nx) := by
  intro p l e R s m args below meth c u res hcx E C hE hC ls st M h
  obtain ⟨hx, hb, hr, hml, hown, hts, hK, hEv, hAd, hlocks, rfl⟩ := hcx
  unfold o_mn at h
  split at h
  · rename_i b a r
    obtain ⟨hct, h⟩ := am_bfs h
    have hct := Nat.le_of_ble_eq_true hct
    intro ls' H locs hL hst hM hP hS
    rw [hp]
    refine va_mmin hx hb (by rw [hml, hL.1]) hown (hts _ hlk) (hts _ hst2) (hts _ hini) (hts _ hco) (by exact hrk) (by rw [am_ctc]; show _ ≤ rk * 64; omega) (Nat.le_refl 0) (Nat.le_refl 0) hd ?_
    rw [nm_mn (am_h1 (am_ht hst)) (am_h1 hst)]
    have k9 := hE _ _ _ _ h ls' H locs hL (am_hc (by have h5 := am_h1 hst; have h6 := am_h1 (am_ht hst); exact ⟨by have := h5.1; have := h6.1; omega, by have := h5.2; have := h6.2; omega⟩) (am_ht (am_ht hst))) hM hP hS
    rw [hn] at k9
    exact k9
  · exact (am_no h).elim
theorem nm_lmx {a b : Int} (ha : am_r64 a) (hb : am_r64 b) : (if Int64.ofInt b < Int64.ofInt a then Int64.ofInt a else Int64.ofInt b) = Int64.ofInt (max a b) := by
  by_cases h : b < a
  · rw [if_pos ((nm_llt hb ha).mpr h), Int.max_eq_left (by omega)]
  · rw [if_neg (fun q => h ((nm_llt hb ha).mp q)), Int.max_eq_right (by omega)]
theorem nm_lmn {a b : Int} (ha : am_r64 a) (hb : am_r64 b) : (if Int64.ofInt b < Int64.ofInt a then Int64.ofInt b else Int64.ofInt a) = Int64.ofInt (min a b) := by
  by_cases h : b < a
  · rw [if_pos ((nm_llt hb ha).mpr h), Int.min_eq_right (by omega)]
  · rw [if_neg (fun q => h ((nm_llt hb ha).mp q)), Int.min_eq_left (by omega)]
theorem S_lmx {cc : ByteArray} {own : String} {nL rk : Nat} {ret : Option FieldType} {pcs : Nat → Nat} {ix pc : Nat} {nx idx : Nat} (hrk : 1 ≤ rk) (hlk : Cond.methodLink own idx Lib.MathLoose.max_long.x ∈ am_TS) (hst2 : Cond.static Lib.MathLoose.max_long.x ∈ am_TS) (hini : Cond.initialized "java/lang/Math" ∈ am_TS) (hco : Cond.code Lib.MathLoose.max_long.x Lib.MathLoose.max_long.code 4 (some .long) ∈ am_TS) (hp : pcs ix = pc) (hn : pcs nx = pc + 3) (hd : decode cc pc = .ok (.invokestatic idx, 3)) : am_Sd cc own nL rk ret pcs ix (o_lmx nx) := by
  intro p l e R s m args below meth c u res hcx E C hE hC ls st M h
  obtain ⟨hx, hb, hr, hml, hown, hts, hK, hEv, hAd, hlocks, rfl⟩ := hcx
  unfold o_lmx at h
  split at h
  · rename_i b a r
    obtain ⟨hct, h⟩ := am_bfs h
    have hct := Nat.le_of_ble_eq_true hct
    intro ls' H locs hL hst hM hP hS
    rw [hp]
    refine va_mmax_long hx hb (by rw [hml, hL.1]) hown (hts _ hlk) (hts _ hst2) (hts _ hini) (hts _ hco) (by exact hrk) (by rw [am_ctc]; show _ ≤ rk * 64; omega) (Nat.le_refl 0) (Nat.le_refl 0) hd ?_
    rw [nm_lmx (am_h1 (am_ht hst)) (am_h1 hst)]
    have k9 := hE _ _ _ _ h ls' H locs hL (am_hc (by have h5 := am_h1 hst; have h6 := am_h1 (am_ht hst); exact ⟨by have := h5.1; have := h6.1; omega, by have := h5.2; have := h6.2; omega⟩) (am_ht (am_ht hst))) hM hP hS
    rw [hn] at k9
    exact k9
  · exact (am_no h).elim
theorem S_lmn {cc : ByteArray} {own : String} {nL rk : Nat} {ret : Option FieldType} {pcs : Nat → Nat} {ix pc : Nat} {nx idx : Nat} (hrk : 1 ≤ rk) (hlk : Cond.methodLink own idx Lib.MathLoose.min_long.x ∈ am_TS) (hst2 : Cond.static Lib.MathLoose.min_long.x ∈ am_TS) (hini : Cond.initialized "java/lang/Math" ∈ am_TS) (hco : Cond.code Lib.MathLoose.min_long.x Lib.MathLoose.min_long.code 4 (some .long) ∈ am_TS) (hp : pcs ix = pc) (hn : pcs nx = pc + 3) (hd : decode cc pc = .ok (.invokestatic idx, 3)) : am_Sd cc own nL rk ret pcs ix (o_lmn nx) := by
  intro p l e R s m args below meth c u res hcx E C hE hC ls st M h
  obtain ⟨hx, hb, hr, hml, hown, hts, hK, hEv, hAd, hlocks, rfl⟩ := hcx
  unfold o_lmn at h
  split at h
  · rename_i b a r
    obtain ⟨hct, h⟩ := am_bfs h
    have hct := Nat.le_of_ble_eq_true hct
    intro ls' H locs hL hst hM hP hS
    rw [hp]
    refine va_mmin_long hx hb (by rw [hml, hL.1]) hown (hts _ hlk) (hts _ hst2) (hts _ hini) (hts _ hco) (by exact hrk) (by rw [am_ctc]; show _ ≤ rk * 64; omega) (Nat.le_refl 0) (Nat.le_refl 0) hd ?_
    rw [nm_lmn (am_h1 (am_ht hst)) (am_h1 hst)]
    have k9 := hE _ _ _ _ h ls' H locs hL (am_hc (by have h5 := am_h1 hst; have h6 := am_h1 (am_ht hst); exact ⟨by have := h5.1; have := h6.1; omega, by have := h5.2; have := h6.2; omega⟩) (am_ht (am_ht hst))) hM hP hS
    rw [hn] at k9
    exact k9
  · exact (am_no h).elim
theorem am_sps : ∀ (n : Nat) (acc st as r : List am_V), am_sp n acc st = some (as, r) → as.reverse ++ r = acc.reverse ++ st ∧ as.length = acc.length + n := by
  intro n
  induction n with
  | zero => intro acc st as r h; cases h; exact ⟨rfl, rfl⟩
  | succ n ih =>
    intro acc st as r h
    cases st with
    | nil => simp [am_sp] at h
    | cons v st =>
      obtain ⟨h1, h2⟩ := ih (v :: acc) st as r h
      refine ⟨by rw [h1]; simp, by rw [h2]; simp; omega⟩
theorem am_blind (u : am_U) (as : List am_V) (M : am_M) : FrameBlind (am_Pc u as M) := fun a U g mk q => by
  obtain ⟨q0, qP, qK, qE⟩ := q
  exact ⟨q0, qP, va_K.moved (u := U) (U := U.calling g mk a) (Vm.Alike.refl U.vm) qK, am_Ev_same qE rfl rfl⟩
/-- what the tables say of a method -/
def am_My (y n : Nat) : Prop := Cond.code (am_nm y) (am_by y) (am_mL y) (am_re y) ∈ am_TS ∧ Cond.initialized (am_nm y).cls ∈ am_TS ∧ ((am_nm y).cls ≠ "java/lang/invoke/MethodHandle" ∧ (am_nm y).cls ≠ "java/lang/invoke/VarHandle") ∧ (parseMethodDescriptor (am_nm y).desc).map (fun d => d.parameters.length) = some n
theorem am_CB {s : State} {args : Array Value} {own : String} {idx y n rk : Nat} (hts : ∀ w ∈ am_TS, w.before args s = true) (hy : am_My y n) (hlk : Cond.methodLink own idx (am_nm y) ∈ am_TS) (hrk : am_rk y + 1 ≤ rk) (hlo : am_mL y + 19 + am_rk y * 64 ≤ rk * 64) : CallB (am_rm rk) s args own idx (am_nm y) (am_by y) (am_mL y) (am_re y) (am_ws y) (am_rm (am_rk y)) 0 0 n := by
  refine ⟨rfl, rfl, hrk, by show 8 + (am_mL y + 11) + am_rk y * 64 ≤ rk * 64; omega, pay_in hts (fun w hw => ?_), List.mem_cons_self, hts _ hy.1, hts _ hy.2.1, hy.2.2.1, fun sig h => ?_, hts _ hlk⟩
  · have hm : w ∈ am_TS := by
      rcases List.mem_cons.mp hw with e | e
      · rw [e]; exact hy.1
      · exact e
    exact ⟨hm, good_of_word (List.mem_filter.mp hm).2⟩
  · have h2 := hy.2.2.2
    rw [h] at h2
    exact (Option.some.inj h2).symm
theorem am_lrm {ad : Nat → Nat} {m : MethodId} {pc : Nat} {ls : Array Slot} {st : List Value} {r : List am_V} (h : am_ct r ≤ 8) : 2 * (F0 m pc ls st).monitorRoom + ((r.map (am_rv ad)).map fun v => v.category).sum ≤ 8 := lv_room (by rw [am_ctc]; exact h)
theorem S_cv0 {cc : ByteArray} {own : String} {nL rk : Nat} {ret : Option FieldType} {pcs : Nat → Nat} {ix pc : Nat} {y n nx idx : Nat} (hy : am_My y n) (hlk : Cond.methodLink own idx (am_nm y) ∈ am_TS) (hrt : am_rc (am_re y) = 0) (hrk : am_rk y + 1 ≤ rk) (hlo : am_mL y + 19 + am_rk y * 64 ≤ rk * 64) {ci N : Nat} {C : String} {T : u_T} (hcl : am_Cl ci C T N) (hins : Cond.instanceMethod (am_nm y) ∈ am_TS) (hsel : Cond.selects C (am_nm y) (am_nm y) ∈ am_TS) (hp : pcs ix = pc) (hn : pcs nx = pc + 3) (hd : decode cc pc = .ok (.invokevirtual idx, 3)) : am_Sd cc own nL rk ret pcs ix (o_cv y n ci 0 nx) := by
  intro p l e R s m args below meth c u res hcx E C hE hC ls st M h
  obtain ⟨hx, hb, hr, hml, hown, hts, hK, hEv, hAd, hlocks, rfl⟩ := hcx
  unfold o_cv at h
  rcases hsp : am_sp n [] st with _ | ⟨as, _ | ⟨(v0 | (v0 | a)), r⟩⟩ <;> rw [hsp] at h <;> first | exact (am_no h).elim | skip
  · skip
    obtain ⟨hk, h⟩ := am_bfs h
    have hk := Nat.eq_of_beq_eq_true hk
    obtain ⟨hct, h⟩ := am_bfs h
    have hct := Nat.le_of_ble_eq_true hct
    obtain ⟨hs1, hs2⟩ := am_sps _ _ _ _ _ hsp
    simp only [List.reverse_nil, List.nil_append, List.length_nil, Nat.zero_add] at hs1 hs2
    simp only [a_ca] at h
    cases hc0 : C y (rV a :: as) M with
    | none => rw [hc0] at h; cases h
    | some q =>
      obtain ⟨v, M'⟩ := q
      rw [hc0] at h
      simp only [am_cb] at h
      intro ls' H locs hL hst hM hP hS
      rw [hp]
      have ha : a < am_N := am_K_lt hk (by have := hcl.2.1; omega)
      have he : (am_wl u M)[a]? = some (u.2.2 a, .inr (ci, am_fs u (M a) a)) := by rw [am_wl_at ha, am_ce_obj hk hcl.2.1]
      have hsta : ∀ v ∈ as, am_rg v := fun v hv => hst v (by rw [← hs1]; exact List.mem_append_left _ (List.mem_reverse.mpr hv))
      have hstr : ∀ v ∈ r, am_rg v := fun v hv => hst v (by rw [← hs1]; exact List.mem_append_right _ (List.mem_cons_of_mem _ hv))
      have hmet := hC y (rV a :: as) M v M' hc0 (am_hc trivial hsta) hM
      unfold am_Mt at hmet
      rw [hrt] at hmet
      have hrun := va_runV (As := as.map (am_rv u.2.2)) (rest := r.map (am_rv u.2.2)) (g := F0 m pc ls' (st.map (am_rv u.2.2))) (e := e) (below := below) (meth := meth) (locs := locs) (cells := 0) (slots := 0) (H := H) (b := u.2.2 a) ⟨hx, hb, hml, hown, hts⟩ hmet ⟨am_CB hts hy hlk hrk hlo, hts _ hins, hts _ hsel⟩ ⟨am_blind u _ M, va_recv hK hP hcl.1 he, fun U hU hW => ⟨rfl, by rw [hU]; exact hP, va_K.moved hW.alike hK, am_Ev_warm hEv hS hW hU⟩⟩ rfl (by rw [List.length_map]; exact hs2) hL.1 (by rw [← hs1]; simp [am_rv]) (am_lrm hct) hd ⟨Nat.le_refl 0, Nat.le_refl 0⟩
      refine va_callv (S := Unit) (a := #[]) hrun hS (fun q _ h => h) (fun q h => h) (fun uu t H1 locs1 ht hvm hpost hB hz hk2 hS1 => ?_)
      have k9 := hE _ _ _ _ h ls' H1 locs1 hL hstr hB.2 (by rw [← ht]; exact hB.1) hS1
      rw [hn] at k9
      exact k9
theorem S_cv1 {cc : ByteArray} {own : String} {nL rk : Nat} {ret : Option FieldType} {pcs : Nat → Nat} {ix pc : Nat} {y n nx idx : Nat} (hy : am_My y n) (hlk : Cond.methodLink own idx (am_nm y) ∈ am_TS) (hrt : am_rc (am_re y) = 1) (hrk : am_rk y + 1 ≤ rk) (hlo : am_mL y + 19 + am_rk y * 64 ≤ rk * 64) {ci N : Nat} {C : String} {T : u_T} (hcl : am_Cl ci C T N) (hins : Cond.instanceMethod (am_nm y) ∈ am_TS) (hsel : Cond.selects C (am_nm y) (am_nm y) ∈ am_TS) (hp : pcs ix = pc) (hn : pcs nx = pc + 3) (hd : decode cc pc = .ok (.invokevirtual idx, 3)) : am_Sd cc own nL rk ret pcs ix (o_cv y n ci 1 nx) := by
  intro p l e R s m args below meth c u res hcx E C hE hC ls st M h
  obtain ⟨hx, hb, hr, hml, hown, hts, hK, hEv, hAd, hlocks, rfl⟩ := hcx
  unfold o_cv at h
  rcases hsp : am_sp n [] st with _ | ⟨as, _ | ⟨(v0 | (v0 | a)), r⟩⟩ <;> rw [hsp] at h <;> first | exact (am_no h).elim | skip
  · skip
    obtain ⟨hk, h⟩ := am_bfs h
    have hk := Nat.eq_of_beq_eq_true hk
    obtain ⟨hct, h⟩ := am_bfs h
    have hct := Nat.le_of_ble_eq_true hct
    obtain ⟨hs1, hs2⟩ := am_sps _ _ _ _ _ hsp
    simp only [List.reverse_nil, List.nil_append, List.length_nil, Nat.zero_add] at hs1 hs2
    simp only [a_ca] at h
    cases hc0 : C y (rV a :: as) M with
    | none => rw [hc0] at h; cases h
    | some q =>
      obtain ⟨v, M'⟩ := q
      rw [hc0] at h
      simp only [am_cb] at h
      intro ls' H locs hL hst hM hP hS
      rw [hp]
      have ha : a < am_N := am_K_lt hk (by have := hcl.2.1; omega)
      have he : (am_wl u M)[a]? = some (u.2.2 a, .inr (ci, am_fs u (M a) a)) := by rw [am_wl_at ha, am_ce_obj hk hcl.2.1]
      have hsta : ∀ v ∈ as, am_rg v := fun v hv => hst v (by rw [← hs1]; exact List.mem_append_left _ (List.mem_reverse.mpr hv))
      have hstr : ∀ v ∈ r, am_rg v := fun v hv => hst v (by rw [← hs1]; exact List.mem_append_right _ (List.mem_cons_of_mem _ hv))
      have hmet := hC y (rV a :: as) M v M' hc0 (am_hc trivial hsta) hM
      unfold am_Mt at hmet
      rw [hrt] at hmet
      have hrun := va_runV (As := as.map (am_rv u.2.2)) (rest := r.map (am_rv u.2.2)) (g := F0 m pc ls' (st.map (am_rv u.2.2))) (e := e) (below := below) (meth := meth) (locs := locs) (cells := 0) (slots := 0) (H := H) (b := u.2.2 a) ⟨hx, hb, hml, hown, hts⟩ hmet ⟨am_CB hts hy hlk hrk hlo, hts _ hins, hts _ hsel⟩ ⟨am_blind u _ M, va_recv hK hP hcl.1 he, fun U hU hW => ⟨rfl, by rw [hU]; exact hP, va_K.moved hW.alike hK, am_Ev_warm hEv hS hW hU⟩⟩ rfl (by rw [List.length_map]; exact hs2) hL.1 (by rw [← hs1]; simp [am_rv]) (am_lrm hct) hd ⟨Nat.le_refl 0, Nat.le_refl 0⟩
      refine va_calli (S := Unit) (a := #[]) hrun hS (fun q _ h => h) (fun q h => h) (fun x uu t H1 locs1 ht hvm hpost hB hz hk2 hS1 => ?_)
      have k9 := hE _ _ _ _ h ls' H1 locs1 hL (am_hc hpost.2 hstr) hB.2 (by rw [← ht]; exact hB.1) hS1
      rw [hn] at k9
      rw [hpost.1]
      exact k9
theorem S_cv2 {cc : ByteArray} {own : String} {nL rk : Nat} {ret : Option FieldType} {pcs : Nat → Nat} {ix pc : Nat} {y n nx idx : Nat} (hy : am_My y n) (hlk : Cond.methodLink own idx (am_nm y) ∈ am_TS) (hrt : am_rc (am_re y) = 2) (hrk : am_rk y + 1 ≤ rk) (hlo : am_mL y + 19 + am_rk y * 64 ≤ rk * 64) {ci N : Nat} {C : String} {T : u_T} (hcl : am_Cl ci C T N) (hins : Cond.instanceMethod (am_nm y) ∈ am_TS) (hsel : Cond.selects C (am_nm y) (am_nm y) ∈ am_TS) (hp : pcs ix = pc) (hn : pcs nx = pc + 3) (hd : decode cc pc = .ok (.invokevirtual idx, 3)) : am_Sd cc own nL rk ret pcs ix (o_cv y n ci 2 nx) := by
  intro p l e R s m args below meth c u res hcx E C hE hC ls st M h
  obtain ⟨hx, hb, hr, hml, hown, hts, hK, hEv, hAd, hlocks, rfl⟩ := hcx
  unfold o_cv at h
  rcases hsp : am_sp n [] st with _ | ⟨as, _ | ⟨(v0 | (v0 | a)), r⟩⟩ <;> rw [hsp] at h <;> first | exact (am_no h).elim | skip
  · skip
    obtain ⟨hk, h⟩ := am_bfs h
    have hk := Nat.eq_of_beq_eq_true hk
    obtain ⟨hct, h⟩ := am_bfs h
    have hct := Nat.le_of_ble_eq_true hct
    obtain ⟨hs1, hs2⟩ := am_sps _ _ _ _ _ hsp
    simp only [List.reverse_nil, List.nil_append, List.length_nil, Nat.zero_add] at hs1 hs2
    simp only [a_ca] at h
    cases hc0 : C y (rV a :: as) M with
    | none => rw [hc0] at h; cases h
    | some q =>
      obtain ⟨v, M'⟩ := q
      rw [hc0] at h
      simp only [am_cb] at h
      intro ls' H locs hL hst hM hP hS
      rw [hp]
      have ha : a < am_N := am_K_lt hk (by have := hcl.2.1; omega)
      have he : (am_wl u M)[a]? = some (u.2.2 a, .inr (ci, am_fs u (M a) a)) := by rw [am_wl_at ha, am_ce_obj hk hcl.2.1]
      have hsta : ∀ v ∈ as, am_rg v := fun v hv => hst v (by rw [← hs1]; exact List.mem_append_left _ (List.mem_reverse.mpr hv))
      have hstr : ∀ v ∈ r, am_rg v := fun v hv => hst v (by rw [← hs1]; exact List.mem_append_right _ (List.mem_cons_of_mem _ hv))
      have hmet := hC y (rV a :: as) M v M' hc0 (am_hc trivial hsta) hM
      unfold am_Mt at hmet
      rw [hrt] at hmet
      have hrun := va_runV (As := as.map (am_rv u.2.2)) (rest := r.map (am_rv u.2.2)) (g := F0 m pc ls' (st.map (am_rv u.2.2))) (e := e) (below := below) (meth := meth) (locs := locs) (cells := 0) (slots := 0) (H := H) (b := u.2.2 a) ⟨hx, hb, hml, hown, hts⟩ hmet ⟨am_CB hts hy hlk hrk hlo, hts _ hins, hts _ hsel⟩ ⟨am_blind u _ M, va_recv hK hP hcl.1 he, fun U hU hW => ⟨rfl, by rw [hU]; exact hP, va_K.moved hW.alike hK, am_Ev_warm hEv hS hW hU⟩⟩ rfl (by rw [List.length_map]; exact hs2) hL.1 (by rw [← hs1]; simp [am_rv]) (am_lrm hct) hd ⟨Nat.le_refl 0, Nat.le_refl 0⟩
      refine va_calll (S := Unit) (a := #[]) hrun hS (fun q _ h => h) (fun q h => h) (fun x uu t H1 locs1 ht hvm hpost hB hz hk2 hS1 => ?_)
      have k9 := hE _ _ _ _ h ls' H1 locs1 hL (am_hc hpost.2 hstr) hB.2 (by rw [← ht]; exact hB.1) hS1
      rw [hn] at k9
      rw [hpost.1]
      exact k9
theorem S_cs0 {cc : ByteArray} {own : String} {nL rk : Nat} {ret : Option FieldType} {pcs : Nat → Nat} {ix pc : Nat} {y n nx idx : Nat} (hy : am_My y n) (hlk : Cond.methodLink own idx (am_nm y) ∈ am_TS) (hrt : am_rc (am_re y) = 0) (hrk : am_rk y + 1 ≤ rk) (hlo : am_mL y + 19 + am_rk y * 64 ≤ rk * 64) (hsta2 : Cond.static (am_nm y) ∈ am_TS) (hp : pcs ix = pc) (hn : pcs nx = pc + 3) (hd : decode cc pc = .ok (.invokestatic idx, 3)) : am_Sd cc own nL rk ret pcs ix (o_cs y n 0 nx) := by
  intro p l e R s m args below meth c u res hcx E C hE hC ls st M h
  obtain ⟨hx, hb, hr, hml, hown, hts, hK, hEv, hAd, hlocks, rfl⟩ := hcx
  unfold o_cs at h
  rcases hsp : am_sp n [] st with _ | ⟨as, r⟩ <;> rw [hsp] at h <;> first | exact (am_no h).elim | skip
  · skip
    obtain ⟨hct, h⟩ := am_bfs h
    have hct := Nat.le_of_ble_eq_true hct
    obtain ⟨hs1, hs2⟩ := am_sps _ _ _ _ _ hsp
    simp only [List.reverse_nil, List.nil_append, List.length_nil, Nat.zero_add] at hs1 hs2
    simp only [a_ca] at h
    cases hc0 : C y as M with
    | none => rw [hc0] at h; cases h
    | some q =>
      obtain ⟨v, M'⟩ := q
      rw [hc0] at h
      simp only [am_cb] at h
      intro ls' H locs hL hst hM hP hS
      rw [hp]
      have hsta : ∀ v ∈ as, am_rg v := fun v hv => hst v (by rw [← hs1]; exact List.mem_append_left _ (List.mem_reverse.mpr hv))
      have hstr : ∀ v ∈ r, am_rg v := fun v hv => hst v (by rw [← hs1]; exact List.mem_append_right _ hv)
      have hmet := hC y as M v M' hc0 hsta hM
      unfold am_Mt at hmet
      rw [hrt] at hmet
      have hrun := va_runS (As := as.map (am_rv u.2.2)) (rest := r.map (am_rv u.2.2)) (g := F0 m pc ls' (st.map (am_rv u.2.2))) (e := e) (below := below) (meth := meth) (locs := locs) (cells := 0) (slots := 0) (H := H) ⟨hx, hb, hml, hown, hts⟩ hmet ⟨am_CB hts hy hlk hrk hlo, hts _ hsta2⟩ ⟨am_blind u _ M, fun U hU hW => ⟨rfl, by rw [hU]; exact hP, va_K.moved hW.alike hK, am_Ev_warm hEv hS hW hU⟩⟩ rfl (by rw [List.length_map]; exact hs2) hL.1 (by rw [← hs1]; simp) (am_lrm hct) hd ⟨Nat.le_refl 0, Nat.le_refl 0⟩
      refine va_callv (S := Unit) (a := #[]) hrun hS (fun q _ h => h) (fun q h => h) (fun uu t H1 locs1 ht hvm hpost hB hz hk2 hS1 => ?_)
      have k9 := hE _ _ _ _ h ls' H1 locs1 hL hstr hB.2 (by rw [← ht]; exact hB.1) hS1
      rw [hn] at k9
      exact k9
theorem S_cs1 {cc : ByteArray} {own : String} {nL rk : Nat} {ret : Option FieldType} {pcs : Nat → Nat} {ix pc : Nat} {y n nx idx : Nat} (hy : am_My y n) (hlk : Cond.methodLink own idx (am_nm y) ∈ am_TS) (hrt : am_rc (am_re y) = 1) (hrk : am_rk y + 1 ≤ rk) (hlo : am_mL y + 19 + am_rk y * 64 ≤ rk * 64) (hsta2 : Cond.static (am_nm y) ∈ am_TS) (hp : pcs ix = pc) (hn : pcs nx = pc + 3) (hd : decode cc pc = .ok (.invokestatic idx, 3)) : am_Sd cc own nL rk ret pcs ix (o_cs y n 1 nx) := by
  intro p l e R s m args below meth c u res hcx E C hE hC ls st M h
  obtain ⟨hx, hb, hr, hml, hown, hts, hK, hEv, hAd, hlocks, rfl⟩ := hcx
  unfold o_cs at h
  rcases hsp : am_sp n [] st with _ | ⟨as, r⟩ <;> rw [hsp] at h <;> first | exact (am_no h).elim | skip
  · skip
    obtain ⟨hct, h⟩ := am_bfs h
    have hct := Nat.le_of_ble_eq_true hct
    obtain ⟨hs1, hs2⟩ := am_sps _ _ _ _ _ hsp
    simp only [List.reverse_nil, List.nil_append, List.length_nil, Nat.zero_add] at hs1 hs2
    simp only [a_ca] at h
    cases hc0 : C y as M with
    | none => rw [hc0] at h; cases h
    | some q =>
      obtain ⟨v, M'⟩ := q
      rw [hc0] at h
      simp only [am_cb] at h
      intro ls' H locs hL hst hM hP hS
      rw [hp]
      have hsta : ∀ v ∈ as, am_rg v := fun v hv => hst v (by rw [← hs1]; exact List.mem_append_left _ (List.mem_reverse.mpr hv))
      have hstr : ∀ v ∈ r, am_rg v := fun v hv => hst v (by rw [← hs1]; exact List.mem_append_right _ hv)
      have hmet := hC y as M v M' hc0 hsta hM
      unfold am_Mt at hmet
      rw [hrt] at hmet
      have hrun := va_runS (As := as.map (am_rv u.2.2)) (rest := r.map (am_rv u.2.2)) (g := F0 m pc ls' (st.map (am_rv u.2.2))) (e := e) (below := below) (meth := meth) (locs := locs) (cells := 0) (slots := 0) (H := H) ⟨hx, hb, hml, hown, hts⟩ hmet ⟨am_CB hts hy hlk hrk hlo, hts _ hsta2⟩ ⟨am_blind u _ M, fun U hU hW => ⟨rfl, by rw [hU]; exact hP, va_K.moved hW.alike hK, am_Ev_warm hEv hS hW hU⟩⟩ rfl (by rw [List.length_map]; exact hs2) hL.1 (by rw [← hs1]; simp) (am_lrm hct) hd ⟨Nat.le_refl 0, Nat.le_refl 0⟩
      refine va_calli (S := Unit) (a := #[]) hrun hS (fun q _ h => h) (fun q h => h) (fun x uu t H1 locs1 ht hvm hpost hB hz hk2 hS1 => ?_)
      have k9 := hE _ _ _ _ h ls' H1 locs1 hL (am_hc hpost.2 hstr) hB.2 (by rw [← ht]; exact hB.1) hS1
      rw [hn] at k9
      rw [hpost.1]
      exact k9
theorem S_cs2 {cc : ByteArray} {own : String} {nL rk : Nat} {ret : Option FieldType} {pcs : Nat → Nat} {ix pc : Nat} {y n nx idx : Nat} (hy : am_My y n) (hlk : Cond.methodLink own idx (am_nm y) ∈ am_TS) (hrt : am_rc (am_re y) = 2) (hrk : am_rk y + 1 ≤ rk) (hlo : am_mL y + 19 + am_rk y * 64 ≤ rk * 64) (hsta2 : Cond.static (am_nm y) ∈ am_TS) (hp : pcs ix = pc) (hn : pcs nx = pc + 3) (hd : decode cc pc = .ok (.invokestatic idx, 3)) : am_Sd cc own nL rk ret pcs ix (o_cs y n 2 nx) := by
  intro p l e R s m args below meth c u res hcx E C hE hC ls st M h
  obtain ⟨hx, hb, hr, hml, hown, hts, hK, hEv, hAd, hlocks, rfl⟩ := hcx
  unfold o_cs at h
  rcases hsp : am_sp n [] st with _ | ⟨as, r⟩ <;> rw [hsp] at h <;> first | exact (am_no h).elim | skip
  · skip
    obtain ⟨hct, h⟩ := am_bfs h
    have hct := Nat.le_of_ble_eq_true hct
    obtain ⟨hs1, hs2⟩ := am_sps _ _ _ _ _ hsp
    simp only [List.reverse_nil, List.nil_append, List.length_nil, Nat.zero_add] at hs1 hs2
    simp only [a_ca] at h
    cases hc0 : C y as M with
    | none => rw [hc0] at h; cases h
    | some q =>
      obtain ⟨v, M'⟩ := q
      rw [hc0] at h
      simp only [am_cb] at h
      intro ls' H locs hL hst hM hP hS
      rw [hp]
      have hsta : ∀ v ∈ as, am_rg v := fun v hv => hst v (by rw [← hs1]; exact List.mem_append_left _ (List.mem_reverse.mpr hv))
      have hstr : ∀ v ∈ r, am_rg v := fun v hv => hst v (by rw [← hs1]; exact List.mem_append_right _ hv)
      have hmet := hC y as M v M' hc0 hsta hM
      unfold am_Mt at hmet
      rw [hrt] at hmet
      have hrun := va_runS (As := as.map (am_rv u.2.2)) (rest := r.map (am_rv u.2.2)) (g := F0 m pc ls' (st.map (am_rv u.2.2))) (e := e) (below := below) (meth := meth) (locs := locs) (cells := 0) (slots := 0) (H := H) ⟨hx, hb, hml, hown, hts⟩ hmet ⟨am_CB hts hy hlk hrk hlo, hts _ hsta2⟩ ⟨am_blind u _ M, fun U hU hW => ⟨rfl, by rw [hU]; exact hP, va_K.moved hW.alike hK, am_Ev_warm hEv hS hW hU⟩⟩ rfl (by rw [List.length_map]; exact hs2) hL.1 (by rw [← hs1]; simp) (am_lrm hct) hd ⟨Nat.le_refl 0, Nat.le_refl 0⟩
      refine va_calll (S := Unit) (a := #[]) hrun hS (fun q _ h => h) (fun q h => h) (fun x uu t H1 locs1 ht hvm hpost hB hz hk2 hS1 => ?_)
      have k9 := hE _ _ _ _ h ls' H1 locs1 hL (am_hc hpost.2 hstr) hB.2 (by rw [← ht]; exact hB.1) hS1
      rw [hn] at k9
      rw [hpost.1]
      exact k9
