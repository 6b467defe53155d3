-- one row for each kind of instruction: the small machine's step is the real one's
theorem S_ci_iconst {cc : ByteArray} {own : String} {nL rk : Nat} {ret : Option FieldType} {pcs : Nat → Nat} {ix pc : Nat} {v : Int} {nx : Nat} {n : Int} (hv : Int32.ofInt n = Int32.ofInt v) (hvr : am_r32 v) (hp : pcs ix = pc) (hn : pcs nx = pc + 1) (hd : decode cc pc = .ok (.iconst n, 1)) : am_Sd cc own nL rk ret pcs ix (o_ci v nx) := by
  intro p l e R s m args below meth c u res hcx E C hE hC ls st M h
  obtain ⟨hx, hb, hr, hml, hown, hts, hK, hEv, hAd, hlocks, rfl⟩ := hcx
  intro ls' H locs hL hst hM hP hS
  rw [hp]
  refine lv_iconst (v := Int32.ofInt v) hx hb hd hv ?_
  have k9 := hE _ _ _ _ h ls' H locs hL (am_hc hvr hst) hM hP hS
  rw [hn] at k9
  exact k9
theorem S_ci_bipush {cc : ByteArray} {own : String} {nL rk : Nat} {ret : Option FieldType} {pcs : Nat → Nat} {ix pc : Nat} {v : Int} {nx : Nat} {n : Int} (hv : (Int8.ofInt n).toInt32 = Int32.ofInt v) (hvr : am_r32 v) (hp : pcs ix = pc) (hn : pcs nx = pc + 2) (hd : decode cc pc = .ok (.bipush n, 2)) : am_Sd cc own nL rk ret pcs ix (o_ci v nx) := by
  intro p l e R s m args below meth c u res hcx E C hE hC ls st M h
  obtain ⟨hx, hb, hr, hml, hown, hts, hK, hEv, hAd, hlocks, rfl⟩ := hcx
  intro ls' H locs hL hst hM hP hS
  rw [hp]
  refine lv_bipush (v := Int32.ofInt v) hx hb hd hv ?_
  have k9 := hE _ _ _ _ h ls' H locs hL (am_hc hvr hst) hM hP hS
  rw [hn] at k9
  exact k9
theorem S_ci_sipush {cc : ByteArray} {own : String} {nL rk : Nat} {ret : Option FieldType} {pcs : Nat → Nat} {ix pc : Nat} {v : Int} {nx : Nat} {n : Int} (hv : (Int16.ofInt n).toInt32 = Int32.ofInt v) (hvr : am_r32 v) (hp : pcs ix = pc) (hn : pcs nx = pc + 3) (hd : decode cc pc = .ok (.sipush n, 3)) : am_Sd cc own nL rk ret pcs ix (o_ci v nx) := by
  intro p l e R s m args below meth c u res hcx E C hE hC ls st M h
  obtain ⟨hx, hb, hr, hml, hown, hts, hK, hEv, hAd, hlocks, rfl⟩ := hcx
  intro ls' H locs hL hst hM hP hS
  rw [hp]
  refine lv_sipush (v := Int32.ofInt v) hx hb hd hv ?_
  have k9 := hE _ _ _ _ h ls' H locs hL (am_hc hvr hst) hM hP hS
  rw [hn] at k9
  exact k9
theorem S_ci_ldc {cc : ByteArray} {own : String} {nL rk : Nat} {ret : Option FieldType} {pcs : Nat → Nat} {ix pc : Nat} {v : Int} {nx : Nat} {n : Nat} (hv : Jvm.Cond.constant own n (Int32.ofInt v) ∈ am_TS) (hvr : am_r32 v) (hp : pcs ix = pc) (hn : pcs nx = pc + 2) (hd : decode cc pc = .ok (.ldc n, 2)) : am_Sd cc own nL rk ret pcs ix (o_ci v nx) := by
  intro p l e R s m args below meth c u res hcx E C hE hC ls st M h
  obtain ⟨hx, hb, hr, hml, hown, hts, hK, hEv, hAd, hlocks, rfl⟩ := hcx
  intro ls' H locs hL hst hM hP hS
  rw [hp]
  refine lv_ldc (v := Int32.ofInt v) hx hb hown (hts _ hv) hd ?_
  have k9 := hE _ _ _ _ h ls' H locs hL (am_hc hvr hst) hM hP hS
  rw [hn] at k9
  exact k9
theorem S_ci_ldcw {cc : ByteArray} {own : String} {nL rk : Nat} {ret : Option FieldType} {pcs : Nat → Nat} {ix pc : Nat} {v : Int} {nx : Nat} {n : Nat} (hv : Jvm.Cond.constant own n (Int32.ofInt v) ∈ am_TS) (hvr : am_r32 v) (hp : pcs ix = pc) (hn : pcs nx = pc + 3) (hd : decode cc pc = .ok (.ldc_w n, 3)) : am_Sd cc own nL rk ret pcs ix (o_ci v nx) := by
  intro p l e R s m args below meth c u res hcx E C hE hC ls st M h
  obtain ⟨hx, hb, hr, hml, hown, hts, hK, hEv, hAd, hlocks, rfl⟩ := hcx
  intro ls' H locs hL hst hM hP hS
  rw [hp]
  refine lv_ldcw (v := Int32.ofInt v) hx hb hown (hts _ hv) hd ?_
  have k9 := hE _ _ _ _ h ls' H locs hL (am_hc hvr hst) hM hP hS
  rw [hn] at k9
  exact k9
theorem S_cl_lconst {cc : ByteArray} {own : String} {nL rk : Nat} {ret : Option FieldType} {pcs : Nat → Nat} {ix pc : Nat} {v : Int} {nx : Nat} {n : Fin 2} (hv : Int64.ofNat (n : Nat) = Int64.ofInt v) (hvr : am_r64 v) (hp : pcs ix = pc) (hn : pcs nx = pc + 1) (hd : decode cc pc = .ok (.lconst n, 1)) : am_Sd cc own nL rk ret pcs ix (o_cl v nx) := by
  intro p l e R s m args below meth c u res hcx E C hE hC ls st M h
  obtain ⟨hx, hb, hr, hml, hown, hts, hK, hEv, hAd, hlocks, rfl⟩ := hcx
  intro ls' H locs hL hst hM hP hS
  rw [hp]
  refine lv_lconst (v := Int64.ofInt v) hx hb hd hv ?_
  have k9 := hE _ _ _ _ h ls' H locs hL (am_hc hvr hst) hM hP hS
  rw [hn] at k9
  exact k9
theorem S_cl_ldc2 {cc : ByteArray} {own : String} {nL rk : Nat} {ret : Option FieldType} {pcs : Nat → Nat} {ix pc : Nat} {v : Int} {nx : Nat} {n : Nat} (hv : Jvm.Cond.constantLong own n (Int64.ofInt v) ∈ am_TS) (hvr : am_r64 v) (hp : pcs ix = pc) (hn : pcs nx = pc + 3) (hd : decode cc pc = .ok (.ldc2_w n, 3)) : am_Sd cc own nL rk ret pcs ix (o_cl v nx) := by
  intro p l e R s m args below meth c u res hcx E C hE hC ls st M h
  obtain ⟨hx, hb, hr, hml, hown, hts, hK, hEv, hAd, hlocks, rfl⟩ := hcx
  intro ls' H locs hL hst hM hP hS
  rw [hp]
  refine lv_ldc2 (v := Int64.ofInt v) hx hb hown (hts _ hv) hd ?_
  have k9 := hE _ _ _ _ h ls' H locs hL (am_hc hvr hst) hM hP hS
  rw [hn] at k9
  exact k9
theorem S_il {cc : ByteArray} {own : String} {nL rk : Nat} {ret : Option FieldType} {pcs : Nat → Nat} {ix pc : Nat} {i nx : Nat}  (hp : pcs ix = pc) (hn : pcs nx = pc + 2) (hd : decode cc pc = .ok (.iload i, 2)) : am_Sd cc own nL rk ret pcs ix (o_il i nx) := by
  intro p l e R s m args below meth c u res hcx E C hE hC ls st M h
  obtain ⟨hx, hb, hr, hml, hown, hts, hK, hEv, hAd, hlocks, rfl⟩ := hcx
  unfold o_il at h
  rcases hg : am_gl ls i with _ | (v | (v | v)) <;> rw [hg] at h <;> first | exact (am_no h).elim | skip
  intro ls' H locs hL hst hM hP hS
  rw [hp]
  have q := hL.2.2 i _ hg
  refine lv_iload hx hb hd q.2 ?_
  have k9 := hE _ _ _ _ h ls' H locs hL (am_hc q.1 hst) hM hP hS
  rw [hn] at k9
  exact k9
theorem S_il_n {cc : ByteArray} {own : String} {nL rk : Nat} {ret : Option FieldType} {pcs : Nat → Nat} {ix pc : Nat} {i nx : Nat} {k : Fin 4} (hk : (k : Nat) = i) (hp : pcs ix = pc) (hn : pcs nx = pc + 1) (hd : decode cc pc = .ok (.iload_n k, 1)) : am_Sd cc own nL rk ret pcs ix (o_il i nx) := by
  intro p l e R s m args below meth c u res hcx E C hE hC ls st M h
  obtain ⟨hx, hb, hr, hml, hown, hts, hK, hEv, hAd, hlocks, rfl⟩ := hcx
  unfold o_il at h
  rcases hg : am_gl ls i with _ | (v | (v | v)) <;> rw [hg] at h <;> first | exact (am_no h).elim | skip
  intro ls' H locs hL hst hM hP hS
  rw [hp]
  have q := hL.2.2 i _ hg
  refine lv_iload_n hx hb hd hk q.2 ?_
  have k9 := hE _ _ _ _ h ls' H locs hL (am_hc q.1 hst) hM hP hS
  rw [hn] at k9
  exact k9
theorem S_ll {cc : ByteArray} {own : String} {nL rk : Nat} {ret : Option FieldType} {pcs : Nat → Nat} {ix pc : Nat} {i nx : Nat}  (hp : pcs ix = pc) (hn : pcs nx = pc + 2) (hd : decode cc pc = .ok (.lload i, 2)) : am_Sd cc own nL rk ret pcs ix (o_ll i nx) := by
  intro p l e R s m args below meth c u res hcx E C hE hC ls st M h
  obtain ⟨hx, hb, hr, hml, hown, hts, hK, hEv, hAd, hlocks, rfl⟩ := hcx
  unfold o_ll at h
  rcases hg : am_gl ls i with _ | (v | (v | v)) <;> rw [hg] at h <;> first | exact (am_no h).elim | skip
  intro ls' H locs hL hst hM hP hS
  rw [hp]
  have q := hL.2.2 i _ hg
  refine lv_lload hx hb hd q.2 ?_
  have k9 := hE _ _ _ _ h ls' H locs hL (am_hc q.1 hst) hM hP hS
  rw [hn] at k9
  exact k9
theorem S_ll_n {cc : ByteArray} {own : String} {nL rk : Nat} {ret : Option FieldType} {pcs : Nat → Nat} {ix pc : Nat} {i nx : Nat} {k : Fin 4} (hk : (k : Nat) = i) (hp : pcs ix = pc) (hn : pcs nx = pc + 1) (hd : decode cc pc = .ok (.lload_n k, 1)) : am_Sd cc own nL rk ret pcs ix (o_ll i nx) := by
  intro p l e R s m args below meth c u res hcx E C hE hC ls st M h
  obtain ⟨hx, hb, hr, hml, hown, hts, hK, hEv, hAd, hlocks, rfl⟩ := hcx
  unfold o_ll at h
  rcases hg : am_gl ls i with _ | (v | (v | v)) <;> rw [hg] at h <;> first | exact (am_no h).elim | skip
  intro ls' H locs hL hst hM hP hS
  rw [hp]
  have q := hL.2.2 i _ hg
  refine lv_lload_n hx hb hd hk q.2 ?_
  have k9 := hE _ _ _ _ h ls' H locs hL (am_hc q.1 hst) hM hP hS
  rw [hn] at k9
  exact k9
theorem S_al {cc : ByteArray} {own : String} {nL rk : Nat} {ret : Option FieldType} {pcs : Nat → Nat} {ix pc : Nat} {i nx : Nat}  (hp : pcs ix = pc) (hn : pcs nx = pc + 2) (hd : decode cc pc = .ok (.aload i, 2)) : am_Sd cc own nL rk ret pcs ix (o_al i nx) := by
  intro p l e R s m args below meth c u res hcx E C hE hC ls st M h
  obtain ⟨hx, hb, hr, hml, hown, hts, hK, hEv, hAd, hlocks, rfl⟩ := hcx
  unfold o_al at h
  rcases hg : am_gl ls i with _ | (v | (v | v)) <;> rw [hg] at h <;> first | exact (am_no h).elim | skip
  intro ls' H locs hL hst hM hP hS
  rw [hp]
  have q := hL.2.2 i _ hg
  refine lv_aload hx hb hd q.2 ?_
  have k9 := hE _ _ _ _ h ls' H locs hL (am_hc q.1 hst) hM hP hS
  rw [hn] at k9
  exact k9
theorem S_al_n {cc : ByteArray} {own : String} {nL rk : Nat} {ret : Option FieldType} {pcs : Nat → Nat} {ix pc : Nat} {i nx : Nat} {k : Fin 4} (hk : (k : Nat) = i) (hp : pcs ix = pc) (hn : pcs nx = pc + 1) (hd : decode cc pc = .ok (.aload_n k, 1)) : am_Sd cc own nL rk ret pcs ix (o_al i nx) := by
  intro p l e R s m args below meth c u res hcx E C hE hC ls st M h
  obtain ⟨hx, hb, hr, hml, hown, hts, hK, hEv, hAd, hlocks, rfl⟩ := hcx
  unfold o_al at h
  rcases hg : am_gl ls i with _ | (v | (v | v)) <;> rw [hg] at h <;> first | exact (am_no h).elim | skip
  intro ls' H locs hL hst hM hP hS
  rw [hp]
  have q := hL.2.2 i _ hg
  refine lv_aload_n hx hb hd hk q.2 ?_
  have k9 := hE _ _ _ _ h ls' H locs hL (am_hc q.1 hst) hM hP hS
  rw [hn] at k9
  exact k9
theorem S_is {cc : ByteArray} {own : String} {nL rk : Nat} {ret : Option FieldType} {pcs : Nat → Nat} {ix pc : Nat} {i nx : Nat}  (hi : i < nL) (hp : pcs ix = pc) (hn : pcs nx = pc + 2) (hd : decode cc pc = .ok (.istore i, 2)) : am_Sd cc own nL rk ret pcs ix (o_is i nx) := by
  intro p l e R s m args below meth c u res hcx E C hE hC ls st M h
  obtain ⟨hx, hb, hr, hml, hown, hts, hK, hEv, hAd, hlocks, rfl⟩ := hcx
  unfold o_is at h
  split at h
  · rw [am_fl_eq] at h
    intro ls' H locs hL hst hM hP hS
    rw [hp]
    refine lv_istore hx hb hd (am_pr_has hL) hi rfl (fun ls2 h2 => ?_)
    have k9 := hE _ _ _ _ h ls2 H locs (am_LR_s1 hL (am_h1 hst) h2) (am_ht hst) hM hP hS
    rw [hn] at k9
    exact k9
  · exact (am_no h).elim
theorem S_is_n {cc : ByteArray} {own : String} {nL rk : Nat} {ret : Option FieldType} {pcs : Nat → Nat} {ix pc : Nat} {i nx : Nat} {k : Fin 4} (hk : (k : Nat) = i) (hi : i < nL) (hp : pcs ix = pc) (hn : pcs nx = pc + 1) (hd : decode cc pc = .ok (.istore_n k, 1)) : am_Sd cc own nL rk ret pcs ix (o_is i nx) := by
  intro p l e R s m args below meth c u res hcx E C hE hC ls st M h
  obtain ⟨hx, hb, hr, hml, hown, hts, hK, hEv, hAd, hlocks, rfl⟩ := hcx
  unfold o_is at h
  split at h
  · rw [am_fl_eq] at h
    intro ls' H locs hL hst hM hP hS
    rw [hp]
    refine lv_istore_n hx hb hd hk (am_pr_has hL) hi rfl (fun ls2 h2 => ?_)
    have k9 := hE _ _ _ _ h ls2 H locs (am_LR_s1 hL (am_h1 hst) h2) (am_ht hst) hM hP hS
    rw [hn] at k9
    exact k9
  · exact (am_no h).elim
theorem S_lS {cc : ByteArray} {own : String} {nL rk : Nat} {ret : Option FieldType} {pcs : Nat → Nat} {ix pc : Nat} {i nx : Nat}  (hi : i + 1 < nL) (hp : pcs ix = pc) (hn : pcs nx = pc + 2) (hd : decode cc pc = .ok (.lstore i, 2)) : am_Sd cc own nL rk ret pcs ix (o_lS i nx) := by
  intro p l e R s m args below meth c u res hcx E C hE hC ls st M h
  obtain ⟨hx, hb, hr, hml, hown, hts, hK, hEv, hAd, hlocks, rfl⟩ := hcx
  unfold o_lS at h
  split at h
  · rw [am_fl_eq] at h
    intro ls' H locs hL hst hM hP hS
    rw [hp]
    refine lv_lstore hx hb hd (am_pr_has hL) hi rfl (fun ls2 h2 => ?_)
    have k9 := hE _ _ _ _ h ls2 H locs (am_LR_s2 hL (am_h1 hst) h2) (am_ht hst) hM hP hS
    rw [hn] at k9
    exact k9
  · exact (am_no h).elim
theorem S_lS_n {cc : ByteArray} {own : String} {nL rk : Nat} {ret : Option FieldType} {pcs : Nat → Nat} {ix pc : Nat} {i nx : Nat} {k : Fin 4} (hk : (k : Nat) = i) (hi : i + 1 < nL) (hp : pcs ix = pc) (hn : pcs nx = pc + 1) (hd : decode cc pc = .ok (.lstore_n k, 1)) : am_Sd cc own nL rk ret pcs ix (o_lS i nx) := by
  intro p l e R s m args below meth c u res hcx E C hE hC ls st M h
  obtain ⟨hx, hb, hr, hml, hown, hts, hK, hEv, hAd, hlocks, rfl⟩ := hcx
  unfold o_lS at h
  split at h
  · rw [am_fl_eq] at h
    intro ls' H locs hL hst hM hP hS
    rw [hp]
    refine lv_lstore_n hx hb hd hk (am_pr_has hL) hi rfl (fun ls2 h2 => ?_)
    have k9 := hE _ _ _ _ h ls2 H locs (am_LR_s2 hL (am_h1 hst) h2) (am_ht hst) hM hP hS
    rw [hn] at k9
    exact k9
  · exact (am_no h).elim
theorem S_as {cc : ByteArray} {own : String} {nL rk : Nat} {ret : Option FieldType} {pcs : Nat → Nat} {ix pc : Nat} {i nx : Nat}  (hi : i < nL) (hp : pcs ix = pc) (hn : pcs nx = pc + 2) (hd : decode cc pc = .ok (.astore i, 2)) : am_Sd cc own nL rk ret pcs ix (o_as i nx) := by
  intro p l e R s m args below meth c u res hcx E C hE hC ls st M h
  obtain ⟨hx, hb, hr, hml, hown, hts, hK, hEv, hAd, hlocks, rfl⟩ := hcx
  unfold o_as at h
  split at h
  · rw [am_fl_eq] at h
    intro ls' H locs hL hst hM hP hS
    rw [hp]
    refine lv_astore hx hb hd (am_pr_has hL) hi rfl (fun ls2 h2 => ?_)
    have k9 := hE _ _ _ _ h ls2 H locs (am_LR_s1 hL (am_h1 hst) h2) (am_ht hst) hM hP hS
    rw [hn] at k9
    exact k9
  · exact (am_no h).elim
theorem S_as_n {cc : ByteArray} {own : String} {nL rk : Nat} {ret : Option FieldType} {pcs : Nat → Nat} {ix pc : Nat} {i nx : Nat} {k : Fin 4} (hk : (k : Nat) = i) (hi : i < nL) (hp : pcs ix = pc) (hn : pcs nx = pc + 1) (hd : decode cc pc = .ok (.astore_n k, 1)) : am_Sd cc own nL rk ret pcs ix (o_as i nx) := by
  intro p l e R s m args below meth c u res hcx E C hE hC ls st M h
  obtain ⟨hx, hb, hr, hml, hown, hts, hK, hEv, hAd, hlocks, rfl⟩ := hcx
  unfold o_as at h
  split at h
  · rw [am_fl_eq] at h
    intro ls' H locs hL hst hM hP hS
    rw [hp]
    refine lv_astore_n hx hb hd hk (am_pr_has hL) hi rfl (fun ls2 h2 => ?_)
    have k9 := hE _ _ _ _ h ls2 H locs (am_LR_s1 hL (am_h1 hst) h2) (am_ht hst) hM hP hS
    rw [hn] at k9
    exact k9
  · exact (am_no h).elim
theorem S_inc {cc : ByteArray} {own : String} {nL rk : Nat} {ret : Option FieldType} {pcs : Nat → Nat} {ix pc : Nat} {i nx : Nat} {d : Int} (hi : i < nL) (hp : pcs ix = pc) (hn : pcs nx = pc + 3) (hd : decode cc pc = .ok (.iinc i d, 3)) : am_Sd cc own nL rk ret pcs ix (o_inc i d nx) := by
  intro p l e R s m args below meth c u res hcx E C hE hC ls st M h
  obtain ⟨hx, hb, hr, hml, hown, hts, hK, hEv, hAd, hlocks, rfl⟩ := hcx
  unfold o_inc at h
  rcases hg : am_gl ls i with _ | (v | (v | v)) <;> rw [hg] at h <;> first | exact (am_no h).elim | skip
  obtain ⟨hr2, h⟩ := am_cks h
  rw [am_fl_eq] at h
  intro ls' H locs hL hst hM hP hS
  rw [hp]
  obtain ⟨k0, hk0⟩ := List.getElem?_of_mem (am_pr_mem hL hg)
  refine lv_iinc (x := Int32.ofInt v) (v := Int32.ofInt (v + d)) hx hb hd (am_pr_has hL) hk0 (nm_add v d) hi rfl (fun ls2 h2 => ?_)
  have k9 := hE _ _ _ _ h ls2 H locs (am_LR_s1 (v := iV (v + d)) hL hr2 h2) hst hM hP hS
  rw [hn] at k9
  exact k9
theorem S_add {cc : ByteArray} {own : String} {nL rk : Nat} {ret : Option FieldType} {pcs : Nat → Nat} {ix pc : Nat} {nx : Nat} (hp : pcs ix = pc) (hn : pcs nx = pc + 1) (hd : decode cc pc = .ok (.iadd, 1)) : am_Sd cc own nL rk ret pcs ix (o_add nx) := by
  intro p l e R s m args below meth c u res hcx E C hE hC ls st M h
  obtain ⟨hx, hb, hr, hml, hown, hts, hK, hEv, hAd, hlocks, rfl⟩ := hcx
  unfold o_add at h
  split at h
  · obtain ⟨hr2, h⟩ := am_cks h
    intro ls' H locs hL hst hM hP hS
    rw [hp]
    refine lv_iadd hx hb hd ?_
    rw [nm_add]
    have k9 := hE _ _ _ _ h ls' H locs hL (am_hc hr2 (am_ht (am_ht hst))) hM hP hS
    rw [hn] at k9
    exact k9
  · exact (am_no h).elim
theorem S_sub {cc : ByteArray} {own : String} {nL rk : Nat} {ret : Option FieldType} {pcs : Nat → Nat} {ix pc : Nat} {nx : Nat} (hp : pcs ix = pc) (hn : pcs nx = pc + 1) (hd : decode cc pc = .ok (.isub, 1)) : am_Sd cc own nL rk ret pcs ix (o_sub nx) := by
  intro p l e R s m args below meth c u res hcx E C hE hC ls st M h
  obtain ⟨hx, hb, hr, hml, hown, hts, hK, hEv, hAd, hlocks, rfl⟩ := hcx
  unfold o_sub at h
  split at h
  · obtain ⟨hr2, h⟩ := am_cks h
    intro ls' H locs hL hst hM hP hS
    rw [hp]
    refine lv_isub hx hb hd ?_
    rw [nm_sub]
    have k9 := hE _ _ _ _ h ls' H locs hL (am_hc hr2 (am_ht (am_ht hst))) hM hP hS
    rw [hn] at k9
    exact k9
  · exact (am_no h).elim
theorem S_mul {cc : ByteArray} {own : String} {nL rk : Nat} {ret : Option FieldType} {pcs : Nat → Nat} {ix pc : Nat} {nx : Nat} (hp : pcs ix = pc) (hn : pcs nx = pc + 1) (hd : decode cc pc = .ok (.imul, 1)) : am_Sd cc own nL rk ret pcs ix (o_mul nx) := by
  intro p l e R s m args below meth c u res hcx E C hE hC ls st M h
  obtain ⟨hx, hb, hr, hml, hown, hts, hK, hEv, hAd, hlocks, rfl⟩ := hcx
  unfold o_mul at h
  split at h
  · obtain ⟨hr2, h⟩ := am_cks h
    intro ls' H locs hL hst hM hP hS
    rw [hp]
    refine lv_imul hx hb hd ?_
    rw [nm_mul]
    have k9 := hE _ _ _ _ h ls' H locs hL (am_hc hr2 (am_ht (am_ht hst))) hM hP hS
    rw [hn] at k9
    exact k9
  · exact (am_no h).elim
theorem S_ladd {cc : ByteArray} {own : String} {nL rk : Nat} {ret : Option FieldType} {pcs : Nat → Nat} {ix pc : Nat} {nx : Nat} (hp : pcs ix = pc) (hn : pcs nx = pc + 1) (hd : decode cc pc = .ok (.ladd, 1)) : am_Sd cc own nL rk ret pcs ix (o_ladd nx) := by
  intro p l e R s m args below meth c u res hcx E C hE hC ls st M h
  obtain ⟨hx, hb, hr, hml, hown, hts, hK, hEv, hAd, hlocks, rfl⟩ := hcx
  unfold o_ladd at h
  split at h
  · obtain ⟨hr2, h⟩ := am_cls h
    intro ls' H locs hL hst hM hP hS
    rw [hp]
    refine lv_ladd hx hb hd ?_
    rw [nm_ladd]
    have k9 := hE _ _ _ _ h ls' H locs hL (am_hc hr2 (am_ht (am_ht hst))) hM hP hS
    rw [hn] at k9
    exact k9
  · exact (am_no h).elim
theorem S_lsub {cc : ByteArray} {own : String} {nL rk : Nat} {ret : Option FieldType} {pcs : Nat → Nat} {ix pc : Nat} {nx : Nat} (hp : pcs ix = pc) (hn : pcs nx = pc + 1) (hd : decode cc pc = .ok (.lsub, 1)) : am_Sd cc own nL rk ret pcs ix (o_lsub nx) := by
  intro p l e R s m args below meth c u res hcx E C hE hC ls st M h
  obtain ⟨hx, hb, hr, hml, hown, hts, hK, hEv, hAd, hlocks, rfl⟩ := hcx
  unfold o_lsub at h
  split at h
  · obtain ⟨hr2, h⟩ := am_cls h
    intro ls' H locs hL hst hM hP hS
    rw [hp]
    refine lv_lsub hx hb hd ?_
    rw [nm_lsub]
    have k9 := hE _ _ _ _ h ls' H locs hL (am_hc hr2 (am_ht (am_ht hst))) hM hP hS
    rw [hn] at k9
    exact k9
  · exact (am_no h).elim
theorem S_lmul {cc : ByteArray} {own : String} {nL rk : Nat} {ret : Option FieldType} {pcs : Nat → Nat} {ix pc : Nat} {nx : Nat} (hp : pcs ix = pc) (hn : pcs nx = pc + 1) (hd : decode cc pc = .ok (.lmul, 1)) : am_Sd cc own nL rk ret pcs ix (o_lmul nx) := by
  intro p l e R s m args below meth c u res hcx E C hE hC ls st M h
  obtain ⟨hx, hb, hr, hml, hown, hts, hK, hEv, hAd, hlocks, rfl⟩ := hcx
  unfold o_lmul at h
  split at h
  · obtain ⟨hr2, h⟩ := am_cls h
    intro ls' H locs hL hst hM hP hS
    rw [hp]
    refine lv_lmul hx hb hd ?_
    rw [nm_lmul]
    have k9 := hE _ _ _ _ h ls' H locs hL (am_hc hr2 (am_ht (am_ht hst))) hM hP hS
    rw [hn] at k9
    exact k9
  · exact (am_no h).elim
theorem S_div {cc : ByteArray} {own : String} {nL rk : Nat} {ret : Option FieldType} {pcs : Nat → Nat} {ix pc : Nat} {nx : Nat} (hp : pcs ix = pc) (hn : pcs nx = pc + 1) (hd : decode cc pc = .ok (.idiv, 1)) : am_Sd cc own nL rk ret pcs ix (o_div nx) := by
  intro p l e R s m args below meth c u res hcx E C hE hC ls st M h
  obtain ⟨hx, hb, hr, hml, hown, hts, hK, hEv, hAd, hlocks, rfl⟩ := hcx
  unfold o_div at h
  split at h
  · rename_i b a r
    rcases am_ifs h with ⟨-, h⟩ | ⟨hb0, h⟩
    · exact (am_no h).elim
    · obtain ⟨hr2, h⟩ := am_cks h
      intro ls' H locs hL hst hM hP hS
      rw [hp]
      refine lv_idiv hx hb hd (fun q => hb0 ((nm_eq (am_h1 hst) ⟨by decide, by decide⟩).mp q)) ?_
      rw [nm_div (am_h1 (am_ht hst)) (am_h1 hst) hr2]
      have k9 := hE _ _ _ _ h ls' H locs hL (am_hc (hr2) (am_ht (am_ht hst))) hM hP hS
      rw [hn] at k9
      exact k9
  · exact (am_no h).elim
theorem S_rem {cc : ByteArray} {own : String} {nL rk : Nat} {ret : Option FieldType} {pcs : Nat → Nat} {ix pc : Nat} {nx : Nat} (hp : pcs ix = pc) (hn : pcs nx = pc + 1) (hd : decode cc pc = .ok (.irem, 1)) : am_Sd cc own nL rk ret pcs ix (o_rem nx) := by
  intro p l e R s m args below meth c u res hcx E C hE hC ls st M h
  obtain ⟨hx, hb, hr, hml, hown, hts, hK, hEv, hAd, hlocks, rfl⟩ := hcx
  unfold o_rem at h
  split at h
  · rename_i b a r
    rcases am_ifs h with ⟨-, h⟩ | ⟨hb0, h⟩
    · exact (am_no h).elim
    · obtain ⟨hr2, h⟩ := am_cks h
      intro ls' H locs hL hst hM hP hS
      rw [hp]
      refine lv_irem hx hb hd (fun q => hb0 ((nm_eq (am_h1 hst) ⟨by decide, by decide⟩).mp q)) ?_
      rw [nm_rem (am_h1 (am_ht hst)) (am_h1 hst) hr2]
      have k9 := hE _ _ _ _ h ls' H locs hL (am_hc (nm_tmr hb0 (am_h1 hst)) (am_ht (am_ht hst))) hM hP hS
      rw [hn] at k9
      exact k9
  · exact (am_no h).elim
theorem S_ldiv {cc : ByteArray} {own : String} {nL rk : Nat} {ret : Option FieldType} {pcs : Nat → Nat} {ix pc : Nat} {nx : Nat} (hp : pcs ix = pc) (hn : pcs nx = pc + 1) (hd : decode cc pc = .ok (.ldiv, 1)) : am_Sd cc own nL rk ret pcs ix (o_ldiv nx) := by
  intro p l e R s m args below meth c u res hcx E C hE hC ls st M h
  obtain ⟨hx, hb, hr, hml, hown, hts, hK, hEv, hAd, hlocks, rfl⟩ := hcx
  unfold o_ldiv at h
  split at h
  · rename_i b a r
    rcases am_ifs h with ⟨-, h⟩ | ⟨hb0, h⟩
    · exact (am_no h).elim
    · obtain ⟨hr2, h⟩ := am_cls h
      intro ls' H locs hL hst hM hP hS
      rw [hp]
      refine lv_ldiv hx hb hd (fun q => hb0 ((nm_leq (am_h1 hst) ⟨by decide, by decide⟩).mp q)) ?_
      rw [nm_ldiv (am_h1 (am_ht hst)) (am_h1 hst) hr2]
      have k9 := hE _ _ _ _ h ls' H locs hL (am_hc (hr2) (am_ht (am_ht hst))) hM hP hS
      rw [hn] at k9
      exact k9
  · exact (am_no h).elim
theorem S_lrem {cc : ByteArray} {own : String} {nL rk : Nat} {ret : Option FieldType} {pcs : Nat → Nat} {ix pc : Nat} {nx : Nat} (hp : pcs ix = pc) (hn : pcs nx = pc + 1) (hd : decode cc pc = .ok (.lrem, 1)) : am_Sd cc own nL rk ret pcs ix (o_lrem nx) := by
  intro p l e R s m args below meth c u res hcx E C hE hC ls st M h
  obtain ⟨hx, hb, hr, hml, hown, hts, hK, hEv, hAd, hlocks, rfl⟩ := hcx
  unfold o_lrem at h
  split at h
  · rename_i b a r
    rcases am_ifs h with ⟨-, h⟩ | ⟨hb0, h⟩
    · exact (am_no h).elim
    · obtain ⟨hr2, h⟩ := am_cls h
      intro ls' H locs hL hst hM hP hS
      rw [hp]
      refine lv_lrem hx hb hd (fun q => hb0 ((nm_leq (am_h1 hst) ⟨by decide, by decide⟩).mp q)) ?_
      rw [nm_lrem (am_h1 (am_ht hst)) (am_h1 hst) hr2]
      have k9 := hE _ _ _ _ h ls' H locs hL (am_hc (nm_ltmr hb0 (am_h1 hst)) (am_ht (am_ht hst))) hM hP hS
      rw [hn] at k9
      exact k9
  · exact (am_no h).elim
theorem S_and {cc : ByteArray} {own : String} {nL rk : Nat} {ret : Option FieldType} {pcs : Nat → Nat} {ix pc : Nat} {nx : Nat} (hp : pcs ix = pc) (hn : pcs nx = pc + 1) (hd : decode cc pc = .ok (.iand, 1)) : am_Sd cc own nL rk ret pcs ix (o_and nx) := by
  intro p l e R s m args below meth c u res hcx E C hE hC ls st M h
  obtain ⟨hx, hb, hr, hml, hown, hts, hK, hEv, hAd, hlocks, rfl⟩ := hcx
  unfold o_and at h
  split at h
  · rename_i b a r
    intro ls' H locs hL hst hM hP hS
    rw [hp]
    refine lv_iand hx hb hd ?_
    rw [← nm_iof (Int32.ofInt a &&& Int32.ofInt b)]
    have k9 := hE _ _ _ _ h ls' H locs hL (am_hc (nm_ir _) (am_ht (am_ht hst))) hM hP hS
    rw [hn] at k9
    exact k9
  · exact (am_no h).elim
theorem S_or {cc : ByteArray} {own : String} {nL rk : Nat} {ret : Option FieldType} {pcs : Nat → Nat} {ix pc : Nat} {nx : Nat} (hp : pcs ix = pc) (hn : pcs nx = pc + 1) (hd : decode cc pc = .ok (.ior, 1)) : am_Sd cc own nL rk ret pcs ix (o_or nx) := by
  intro p l e R s m args below meth c u res hcx E C hE hC ls st M h
  obtain ⟨hx, hb, hr, hml, hown, hts, hK, hEv, hAd, hlocks, rfl⟩ := hcx
  unfold o_or at h
  split at h
  · rename_i b a r
    intro ls' H locs hL hst hM hP hS
    rw [hp]
    refine lv_ior hx hb hd ?_
    rw [← nm_iof (Int32.ofInt a ||| Int32.ofInt b)]
    have k9 := hE _ _ _ _ h ls' H locs hL (am_hc (nm_ir _) (am_ht (am_ht hst))) hM hP hS
    rw [hn] at k9
    exact k9
  · exact (am_no h).elim
theorem S_xor {cc : ByteArray} {own : String} {nL rk : Nat} {ret : Option FieldType} {pcs : Nat → Nat} {ix pc : Nat} {nx : Nat} (hp : pcs ix = pc) (hn : pcs nx = pc + 1) (hd : decode cc pc = .ok (.ixor, 1)) : am_Sd cc own nL rk ret pcs ix (o_xor nx) := by
  intro p l e R s m args below meth c u res hcx E C hE hC ls st M h
  obtain ⟨hx, hb, hr, hml, hown, hts, hK, hEv, hAd, hlocks, rfl⟩ := hcx
  unfold o_xor at h
  split at h
  · rename_i b a r
    intro ls' H locs hL hst hM hP hS
    rw [hp]
    refine lv_ixor hx hb hd ?_
    rw [← nm_iof (Int32.ofInt a ^^^ Int32.ofInt b)]
    have k9 := hE _ _ _ _ h ls' H locs hL (am_hc (nm_ir _) (am_ht (am_ht hst))) hM hP hS
    rw [hn] at k9
    exact k9
  · exact (am_no h).elim
theorem S_shl {cc : ByteArray} {own : String} {nL rk : Nat} {ret : Option FieldType} {pcs : Nat → Nat} {ix pc : Nat} {nx : Nat} (hp : pcs ix = pc) (hn : pcs nx = pc + 1) (hd : decode cc pc = .ok (.ishl, 1)) : am_Sd cc own nL rk ret pcs ix (o_shl nx) := by
  intro p l e R s m args below meth c u res hcx E C hE hC ls st M h
  obtain ⟨hx, hb, hr, hml, hown, hts, hK, hEv, hAd, hlocks, rfl⟩ := hcx
  unfold o_shl at h
  split at h
  · rename_i b a r
    intro ls' H locs hL hst hM hP hS
    rw [hp]
    refine lv_ishl hx hb hd ?_
    rw [← nm_iof (Int32.ofInt a <<< (Int32.ofInt b &&& 31))]
    have k9 := hE _ _ _ _ h ls' H locs hL (am_hc (nm_ir _) (am_ht (am_ht hst))) hM hP hS
    rw [hn] at k9
    exact k9
  · exact (am_no h).elim
theorem S_shr {cc : ByteArray} {own : String} {nL rk : Nat} {ret : Option FieldType} {pcs : Nat → Nat} {ix pc : Nat} {nx : Nat} (hp : pcs ix = pc) (hn : pcs nx = pc + 1) (hd : decode cc pc = .ok (.ishr, 1)) : am_Sd cc own nL rk ret pcs ix (o_shr nx) := by
  intro p l e R s m args below meth c u res hcx E C hE hC ls st M h
  obtain ⟨hx, hb, hr, hml, hown, hts, hK, hEv, hAd, hlocks, rfl⟩ := hcx
  unfold o_shr at h
  split at h
  · rename_i b a r
    intro ls' H locs hL hst hM hP hS
    rw [hp]
    refine lv_ishr hx hb hd ?_
    rw [← nm_iof (Int32.ofInt a >>> (Int32.ofInt b &&& 31))]
    have k9 := hE _ _ _ _ h ls' H locs hL (am_hc (nm_ir _) (am_ht (am_ht hst))) hM hP hS
    rw [hn] at k9
    exact k9
  · exact (am_no h).elim
theorem S_land {cc : ByteArray} {own : String} {nL rk : Nat} {ret : Option FieldType} {pcs : Nat → Nat} {ix pc : Nat} {nx : Nat} (hp : pcs ix = pc) (hn : pcs nx = pc + 1) (hd : decode cc pc = .ok (.land, 1)) : am_Sd cc own nL rk ret pcs ix (o_land nx) := by
  intro p l e R s m args below meth c u res hcx E C hE hC ls st M h
  obtain ⟨hx, hb, hr, hml, hown, hts, hK, hEv, hAd, hlocks, rfl⟩ := hcx
  unfold o_land at h
  split at h
  · rename_i b a r
    intro ls' H locs hL hst hM hP hS
    rw [hp]
    refine lv_land hx hb hd ?_
    rw [← nm_lof (Int64.ofInt a &&& Int64.ofInt b)]
    have k9 := hE _ _ _ _ h ls' H locs hL (am_hc (nm_lr _) (am_ht (am_ht hst))) hM hP hS
    rw [hn] at k9
    exact k9
  · exact (am_no h).elim
theorem S_lor {cc : ByteArray} {own : String} {nL rk : Nat} {ret : Option FieldType} {pcs : Nat → Nat} {ix pc : Nat} {nx : Nat} (hp : pcs ix = pc) (hn : pcs nx = pc + 1) (hd : decode cc pc = .ok (.lor, 1)) : am_Sd cc own nL rk ret pcs ix (o_lor nx) := by
  intro p l e R s m args below meth c u res hcx E C hE hC ls st M h
  obtain ⟨hx, hb, hr, hml, hown, hts, hK, hEv, hAd, hlocks, rfl⟩ := hcx
  unfold o_lor at h
  split at h
  · rename_i b a r
    intro ls' H locs hL hst hM hP hS
    rw [hp]
    refine lv_lor hx hb hd ?_
    rw [← nm_lof (Int64.ofInt a ||| Int64.ofInt b)]
    have k9 := hE _ _ _ _ h ls' H locs hL (am_hc (nm_lr _) (am_ht (am_ht hst))) hM hP hS
    rw [hn] at k9
    exact k9
  · exact (am_no h).elim
theorem S_lshl {cc : ByteArray} {own : String} {nL rk : Nat} {ret : Option FieldType} {pcs : Nat → Nat} {ix pc : Nat} {nx : Nat} (hp : pcs ix = pc) (hn : pcs nx = pc + 1) (hd : decode cc pc = .ok (.lshl, 1)) : am_Sd cc own nL rk ret pcs ix (o_lshl nx) := by
  intro p l e R s m args below meth c u res hcx E C hE hC ls st M h
  obtain ⟨hx, hb, hr, hml, hown, hts, hK, hEv, hAd, hlocks, rfl⟩ := hcx
  unfold o_lshl at h
  split at h
  · rename_i b a r
    intro ls' H locs hL hst hM hP hS
    rw [hp]
    refine lv_lshl (v := Int64.ofInt (am_lshl a b)) hx hb hd (nm_lof _).symm ?_
    have k9 := hE _ _ _ _ h ls' H locs hL (am_hc (nm_lr _) (am_ht (am_ht hst))) hM hP hS
    rw [hn] at k9
    exact k9
  · exact (am_no h).elim
theorem S_lshr {cc : ByteArray} {own : String} {nL rk : Nat} {ret : Option FieldType} {pcs : Nat → Nat} {ix pc : Nat} {nx : Nat} (hp : pcs ix = pc) (hn : pcs nx = pc + 1) (hd : decode cc pc = .ok (.lshr, 1)) : am_Sd cc own nL rk ret pcs ix (o_lshr nx) := by
  intro p l e R s m args below meth c u res hcx E C hE hC ls st M h
  obtain ⟨hx, hb, hr, hml, hown, hts, hK, hEv, hAd, hlocks, rfl⟩ := hcx
  unfold o_lshr at h
  split at h
  · rename_i b a r
    intro ls' H locs hL hst hM hP hS
    rw [hp]
    refine lv_lshr (v := Int64.ofInt (am_lshr a b)) hx hb hd (nm_lof _).symm ?_
    have k9 := hE _ _ _ _ h ls' H locs hL (am_hc (nm_lr _) (am_ht (am_ht hst))) hM hP hS
    rw [hn] at k9
    exact k9
  · exact (am_no h).elim
theorem S_i2l {cc : ByteArray} {own : String} {nL rk : Nat} {ret : Option FieldType} {pcs : Nat → Nat} {ix pc : Nat} {nx : Nat} (hp : pcs ix = pc) (hn : pcs nx = pc + 1) (hd : decode cc pc = .ok (.i2l, 1)) : am_Sd cc own nL rk ret pcs ix (o_i2l nx) := by
  intro p l e R s m args below meth c u res hcx E C hE hC ls st M h
  obtain ⟨hx, hb, hr, hml, hown, hts, hK, hEv, hAd, hlocks, rfl⟩ := hcx
  unfold o_i2l at h
  split at h
  · intro ls' H locs hL hst hM hP hS
    rw [hp]
    refine lv_i2l hx hb hd (nm_i2l (am_h1 hst)) ?_
    have k9 := hE _ _ _ _ h ls' H locs hL (am_hc ⟨by have := (am_h1 hst).1; omega, by have := (am_h1 hst).2; omega⟩ (am_ht hst)) hM hP hS
    rw [hn] at k9
    exact k9
  · exact (am_no h).elim
theorem S_l2i {cc : ByteArray} {own : String} {nL rk : Nat} {ret : Option FieldType} {pcs : Nat → Nat} {ix pc : Nat} {nx : Nat} (hp : pcs ix = pc) (hn : pcs nx = pc + 1) (hd : decode cc pc = .ok (.l2i, 1)) : am_Sd cc own nL rk ret pcs ix (o_l2i nx) := by
  intro p l e R s m args below meth c u res hcx E C hE hC ls st M h
  obtain ⟨hx, hb, hr, hml, hown, hts, hK, hEv, hAd, hlocks, rfl⟩ := hcx
  unfold o_l2i at h
  split at h
  · rename_i a r
    intro ls' H locs hL hst hM hP hS
    rw [hp]
    refine lv_l2i (v := Int32.ofInt (am_l2i a)) hx hb hd (nm_iof _).symm ?_
    have k9 := hE _ _ _ _ h ls' H locs hL (am_hc (nm_ir _) (am_ht hst)) hM hP hS
    rw [hn] at k9
    exact k9
  · exact (am_no h).elim
theorem S_i2b {cc : ByteArray} {own : String} {nL rk : Nat} {ret : Option FieldType} {pcs : Nat → Nat} {ix pc : Nat} {nx : Nat} (hp : pcs ix = pc) (hn : pcs nx = pc + 1) (hd : decode cc pc = .ok (.i2b, 1)) : am_Sd cc own nL rk ret pcs ix (o_i2b nx) := by
  intro p l e R s m args below meth c u res hcx E C hE hC ls st M h
  obtain ⟨hx, hb, hr, hml, hown, hts, hK, hEv, hAd, hlocks, rfl⟩ := hcx
  unfold o_i2b at h
  split at h
  · rename_i a r
    intro ls' H locs hL hst hM hP hS
    rw [hp]
    refine lv_i2b (v := Int32.ofInt (am_i2b a)) hx hb hd (nm_iof _).symm ?_
    have k9 := hE _ _ _ _ h ls' H locs hL (am_hc (nm_ir _) (am_ht hst)) hM hP hS
    rw [hn] at k9
    exact k9
  · exact (am_no h).elim
theorem S_lcmp {cc : ByteArray} {own : String} {nL rk : Nat} {ret : Option FieldType} {pcs : Nat → Nat} {ix pc : Nat} {nx : Nat} (hp : pcs ix = pc) (hn : pcs nx = pc + 1) (hd : decode cc pc = .ok (.lcmp, 1)) : am_Sd cc own nL rk ret pcs ix (o_lcmp nx) := by
  intro p l e R s m args below meth c u res hcx E C hE hC ls st M h
  obtain ⟨hx, hb, hr, hml, hown, hts, hK, hEv, hAd, hlocks, rfl⟩ := hcx
  unfold o_lcmp at h
  split at h
  · rename_i b a r
    intro ls' H locs hL hst hM hP hS
    rw [hp]
    refine W.lcmp hx hb hd ?_
    rw [nm_cmp (am_h1 (am_ht hst)) (am_h1 hst)]
    rcases am_ifs h with ⟨h1, h⟩ | ⟨h1, h⟩
    · rw [if_pos h1]
      have k9 := hE _ _ _ _ h ls' H locs hL (am_hc ⟨by decide, by decide⟩ (am_ht (am_ht hst))) hM hP hS
      rw [hn] at k9
      exact k9
    · rw [if_neg h1]
      rcases am_ifs h with ⟨h1, h⟩ | ⟨h1, h⟩
      · rw [if_pos h1]
        have k9 := hE _ _ _ _ h ls' H locs hL (am_hc ⟨by decide, by decide⟩ (am_ht (am_ht hst))) hM hP hS
        rw [hn] at k9
        exact k9
      · rw [if_neg h1]
        have k9 := hE _ _ _ _ h ls' H locs hL (am_hc ⟨by decide, by decide⟩ (am_ht (am_ht hst))) hM hP hS
        rw [hn] at k9
        exact k9
  · exact (am_no h).elim
theorem S_ieq {cc : ByteArray} {own : String} {nL rk : Nat} {ret : Option FieldType} {pcs : Nat → Nat} {ix pc : Nat} {t1 t2 tgt : Nat} {off : Int} (hp : pcs ix = pc) (hn1 : pcs t1 = tgt) (hn2 : pcs t2 = pc + 3) (hto : (pc : Int) + off = (tgt : Int)) (hd : decode cc pc = .ok (.if_icmp .eq off, 3)) : am_Sd cc own nL rk ret pcs ix (o_ieq t1 t2) := by
  intro p l e R s m args below meth c u res hcx E C hE hC ls st M h
  obtain ⟨hx, hb, hr, hml, hown, hts, hK, hEv, hAd, hlocks, rfl⟩ := hcx
  unfold o_ieq at h
  split at h
  · rename_i b a r
    intro ls' H locs hL hst hM hP hS
    rw [hp]
    refine lv_icmp_eq (tgt := tgt) hx hb hd hto (fun q => ?_) (fun q => ?_)
    · have z9 : a = b := (nm_eq (am_h1 (am_ht hst)) (am_h1 hst)).mp q
      rcases am_ifs h with ⟨h1, h⟩ | ⟨h1, h⟩
      · have k9 := hE _ _ _ _ h ls' H locs hL (am_ht (am_ht hst)) hM hP hS
        rw [hn1] at k9
        exact k9
      · exact absurd z9 h1
    · have z9 : ¬ (a = b) := fun z => q ((nm_eq (am_h1 (am_ht hst)) (am_h1 hst)).mpr z)
      rcases am_ifs h with ⟨h1, h⟩ | ⟨h1, h⟩
      · exact absurd h1 z9
      · have k9 := hE _ _ _ _ h ls' H locs hL (am_ht (am_ht hst)) hM hP hS
        rw [hn2] at k9
        exact k9
  · exact (am_no h).elim
theorem S_ine {cc : ByteArray} {own : String} {nL rk : Nat} {ret : Option FieldType} {pcs : Nat → Nat} {ix pc : Nat} {t1 t2 tgt : Nat} {off : Int} (hp : pcs ix = pc) (hn1 : pcs t1 = pc + 3) (hn2 : pcs t2 = tgt) (hto : (pc : Int) + off = (tgt : Int)) (hd : decode cc pc = .ok (.if_icmp .ne off, 3)) : am_Sd cc own nL rk ret pcs ix (o_ieq t1 t2) := by
  intro p l e R s m args below meth c u res hcx E C hE hC ls st M h
  obtain ⟨hx, hb, hr, hml, hown, hts, hK, hEv, hAd, hlocks, rfl⟩ := hcx
  unfold o_ieq at h
  split at h
  · rename_i b a r
    intro ls' H locs hL hst hM hP hS
    rw [hp]
    refine lv_icmp_ne (tgt := tgt) hx hb hd hto (fun q => ?_) (fun q => ?_)
    · have z9 : ¬ (a = b) := fun z => q ((nm_eq (am_h1 (am_ht hst)) (am_h1 hst)).mpr z)
      rcases am_ifs h with ⟨h1, h⟩ | ⟨h1, h⟩
      · exact absurd h1 z9
      · have k9 := hE _ _ _ _ h ls' H locs hL (am_ht (am_ht hst)) hM hP hS
        rw [hn2] at k9
        exact k9
    · have z9 : a = b := (nm_eq (am_h1 (am_ht hst)) (am_h1 hst)).mp q
      rcases am_ifs h with ⟨h1, h⟩ | ⟨h1, h⟩
      · have k9 := hE _ _ _ _ h ls' H locs hL (am_ht (am_ht hst)) hM hP hS
        rw [hn1] at k9
        exact k9
      · exact absurd z9 h1
  · exact (am_no h).elim
theorem S_ilt {cc : ByteArray} {own : String} {nL rk : Nat} {ret : Option FieldType} {pcs : Nat → Nat} {ix pc : Nat} {t1 t2 tgt : Nat} {off : Int} (hp : pcs ix = pc) (hn1 : pcs t1 = tgt) (hn2 : pcs t2 = pc + 3) (hto : (pc : Int) + off = (tgt : Int)) (hd : decode cc pc = .ok (.if_icmp .lt off, 3)) : am_Sd cc own nL rk ret pcs ix (o_ilt t1 t2) := by
  intro p l e R s m args below meth c u res hcx E C hE hC ls st M h
  obtain ⟨hx, hb, hr, hml, hown, hts, hK, hEv, hAd, hlocks, rfl⟩ := hcx
  unfold o_ilt at h
  split at h
  · rename_i b a r
    intro ls' H locs hL hst hM hP hS
    rw [hp]
    refine lv_icmp_lt (tgt := tgt) hx hb hd hto (fun q => ?_) (fun q => ?_)
    · have z9 : a < b := (nm_lt (am_h1 (am_ht hst)) (am_h1 hst)).mp q
      rcases am_ifs h with ⟨h1, h⟩ | ⟨h1, h⟩
      · have k9 := hE _ _ _ _ h ls' H locs hL (am_ht (am_ht hst)) hM hP hS
        rw [hn1] at k9
        exact k9
      · exact absurd z9 h1
    · have z9 : ¬ (a < b) := fun z => q ((nm_lt (am_h1 (am_ht hst)) (am_h1 hst)).mpr z)
      rcases am_ifs h with ⟨h1, h⟩ | ⟨h1, h⟩
      · exact absurd h1 z9
      · have k9 := hE _ _ _ _ h ls' H locs hL (am_ht (am_ht hst)) hM hP hS
        rw [hn2] at k9
        exact k9
  · exact (am_no h).elim
theorem S_ige {cc : ByteArray} {own : String} {nL rk : Nat} {ret : Option FieldType} {pcs : Nat → Nat} {ix pc : Nat} {t1 t2 tgt : Nat} {off : Int} (hp : pcs ix = pc) (hn1 : pcs t1 = pc + 3) (hn2 : pcs t2 = tgt) (hto : (pc : Int) + off = (tgt : Int)) (hd : decode cc pc = .ok (.if_icmp .ge off, 3)) : am_Sd cc own nL rk ret pcs ix (o_ilt t1 t2) := by
  intro p l e R s m args below meth c u res hcx E C hE hC ls st M h
  obtain ⟨hx, hb, hr, hml, hown, hts, hK, hEv, hAd, hlocks, rfl⟩ := hcx
  unfold o_ilt at h
  split at h
  · rename_i b a r
    intro ls' H locs hL hst hM hP hS
    rw [hp]
    refine lv_icmp_ge (tgt := tgt) hx hb hd hto (fun q => ?_) (fun q => ?_)
    · have z9 : ¬ (a < b) := by have z := (nm_le (am_h1 hst) (am_h1 (am_ht hst))).mp q; omega
      rcases am_ifs h with ⟨h1, h⟩ | ⟨h1, h⟩
      · exact absurd h1 z9
      · have k9 := hE _ _ _ _ h ls' H locs hL (am_ht (am_ht hst)) hM hP hS
        rw [hn2] at k9
        exact k9
    · have z9 : a < b := by have z : ¬ _ := fun z => q ((nm_le (am_h1 hst) (am_h1 (am_ht hst))).mpr z); omega
      rcases am_ifs h with ⟨h1, h⟩ | ⟨h1, h⟩
      · have k9 := hE _ _ _ _ h ls' H locs hL (am_ht (am_ht hst)) hM hP hS
        rw [hn1] at k9
        exact k9
      · exact absurd z9 h1
  · exact (am_no h).elim
theorem S_igt {cc : ByteArray} {own : String} {nL rk : Nat} {ret : Option FieldType} {pcs : Nat → Nat} {ix pc : Nat} {t1 t2 tgt : Nat} {off : Int} (hp : pcs ix = pc) (hn1 : pcs t1 = tgt) (hn2 : pcs t2 = pc + 3) (hto : (pc : Int) + off = (tgt : Int)) (hd : decode cc pc = .ok (.if_icmp .gt off, 3)) : am_Sd cc own nL rk ret pcs ix (o_igt t1 t2) := by
  intro p l e R s m args below meth c u res hcx E C hE hC ls st M h
  obtain ⟨hx, hb, hr, hml, hown, hts, hK, hEv, hAd, hlocks, rfl⟩ := hcx
  unfold o_igt at h
  split at h
  · rename_i b a r
    intro ls' H locs hL hst hM hP hS
    rw [hp]
    refine lv_icmp_gt (tgt := tgt) hx hb hd hto (fun q => ?_) (fun q => ?_)
    · have z9 : b < a := (nm_lt (am_h1 hst) (am_h1 (am_ht hst))).mp q
      rcases am_ifs h with ⟨h1, h⟩ | ⟨h1, h⟩
      · have k9 := hE _ _ _ _ h ls' H locs hL (am_ht (am_ht hst)) hM hP hS
        rw [hn1] at k9
        exact k9
      · exact absurd z9 h1
    · have z9 : ¬ (b < a) := fun z => q ((nm_lt (am_h1 hst) (am_h1 (am_ht hst))).mpr z)
      rcases am_ifs h with ⟨h1, h⟩ | ⟨h1, h⟩
      · exact absurd h1 z9
      · have k9 := hE _ _ _ _ h ls' H locs hL (am_ht (am_ht hst)) hM hP hS
        rw [hn2] at k9
        exact k9
  · exact (am_no h).elim
theorem S_ile {cc : ByteArray} {own : String} {nL rk : Nat} {ret : Option FieldType} {pcs : Nat → Nat} {ix pc : Nat} {t1 t2 tgt : Nat} {off : Int} (hp : pcs ix = pc) (hn1 : pcs t1 = pc + 3) (hn2 : pcs t2 = tgt) (hto : (pc : Int) + off = (tgt : Int)) (hd : decode cc pc = .ok (.if_icmp .le off, 3)) : am_Sd cc own nL rk ret pcs ix (o_igt t1 t2) := by
  intro p l e R s m args below meth c u res hcx E C hE hC ls st M h
  obtain ⟨hx, hb, hr, hml, hown, hts, hK, hEv, hAd, hlocks, rfl⟩ := hcx
  unfold o_igt at h
  split at h
  · rename_i b a r
    intro ls' H locs hL hst hM hP hS
    rw [hp]
    refine lv_icmp_le (tgt := tgt) hx hb hd hto (fun q => ?_) (fun q => ?_)
    · have z9 : ¬ (b < a) := by have z := (nm_le (am_h1 (am_ht hst)) (am_h1 hst)).mp q; omega
      rcases am_ifs h with ⟨h1, h⟩ | ⟨h1, h⟩
      · exact absurd h1 z9
      · have k9 := hE _ _ _ _ h ls' H locs hL (am_ht (am_ht hst)) hM hP hS
        rw [hn2] at k9
        exact k9
    · have z9 : b < a := by have z : ¬ _ := fun z => q ((nm_le (am_h1 (am_ht hst)) (am_h1 hst)).mpr z); omega
      rcases am_ifs h with ⟨h1, h⟩ | ⟨h1, h⟩
      · have k9 := hE _ _ _ _ h ls' H locs hL (am_ht (am_ht hst)) hM hP hS
        rw [hn1] at k9
        exact k9
      · exact absurd z9 h1
  · exact (am_no h).elim
theorem S_eq0 {cc : ByteArray} {own : String} {nL rk : Nat} {ret : Option FieldType} {pcs : Nat → Nat} {ix pc : Nat} {t1 t2 tgt : Nat} {off : Int} (hp : pcs ix = pc) (hn1 : pcs t1 = tgt) (hn2 : pcs t2 = pc + 3) (hto : (pc : Int) + off = (tgt : Int)) (hd : decode cc pc = .ok (.ifCond .eq off, 3)) : am_Sd cc own nL rk ret pcs ix (o_eq0 t1 t2) := by
  intro p l e R s m args below meth c u res hcx E C hE hC ls st M h
  obtain ⟨hx, hb, hr, hml, hown, hts, hK, hEv, hAd, hlocks, rfl⟩ := hcx
  unfold o_eq0 at h
  split at h
  · rename_i a r
    intro ls' H locs hL hst hM hP hS
    rw [hp]
    refine lv_if_eq (tgt := tgt) hx hb hd hto (fun q => ?_) (fun q => ?_)
    · have z9 : a = 0 := (nm_eq (am_h1 hst) ⟨by decide, by decide⟩).mp q
      rcases am_ifs h with ⟨h1, h⟩ | ⟨h1, h⟩
      · have k9 := hE _ _ _ _ h ls' H locs hL (am_ht hst) hM hP hS
        rw [hn1] at k9
        exact k9
      · exact absurd z9 h1
    · have z9 : ¬ (a = 0) := fun z => q ((nm_eq (am_h1 hst) ⟨by decide, by decide⟩).mpr z)
      rcases am_ifs h with ⟨h1, h⟩ | ⟨h1, h⟩
      · exact absurd h1 z9
      · have k9 := hE _ _ _ _ h ls' H locs hL (am_ht hst) hM hP hS
        rw [hn2] at k9
        exact k9
  · exact (am_no h).elim
theorem S_ne0 {cc : ByteArray} {own : String} {nL rk : Nat} {ret : Option FieldType} {pcs : Nat → Nat} {ix pc : Nat} {t1 t2 tgt : Nat} {off : Int} (hp : pcs ix = pc) (hn1 : pcs t1 = pc + 3) (hn2 : pcs t2 = tgt) (hto : (pc : Int) + off = (tgt : Int)) (hd : decode cc pc = .ok (.ifCond .ne off, 3)) : am_Sd cc own nL rk ret pcs ix (o_eq0 t1 t2) := by
  intro p l e R s m args below meth c u res hcx E C hE hC ls st M h
  obtain ⟨hx, hb, hr, hml, hown, hts, hK, hEv, hAd, hlocks, rfl⟩ := hcx
  unfold o_eq0 at h
  split at h
  · rename_i a r
    intro ls' H locs hL hst hM hP hS
    rw [hp]
    refine lv_if_ne (tgt := tgt) hx hb hd hto (fun q => ?_) (fun q => ?_)
    · have z9 : ¬ (a = 0) := fun z => q ((nm_eq (am_h1 hst) ⟨by decide, by decide⟩).mpr z)
      rcases am_ifs h with ⟨h1, h⟩ | ⟨h1, h⟩
      · exact absurd h1 z9
      · have k9 := hE _ _ _ _ h ls' H locs hL (am_ht hst) hM hP hS
        rw [hn2] at k9
        exact k9
    · have z9 : a = 0 := (nm_eq (am_h1 hst) ⟨by decide, by decide⟩).mp q
      rcases am_ifs h with ⟨h1, h⟩ | ⟨h1, h⟩
      · have k9 := hE _ _ _ _ h ls' H locs hL (am_ht hst) hM hP hS
        rw [hn1] at k9
        exact k9
      · exact absurd z9 h1
  · exact (am_no h).elim
theorem S_lt0 {cc : ByteArray} {own : String} {nL rk : Nat} {ret : Option FieldType} {pcs : Nat → Nat} {ix pc : Nat} {t1 t2 tgt : Nat} {off : Int} (hp : pcs ix = pc) (hn1 : pcs t1 = tgt) (hn2 : pcs t2 = pc + 3) (hto : (pc : Int) + off = (tgt : Int)) (hd : decode cc pc = .ok (.ifCond .lt off, 3)) : am_Sd cc own nL rk ret pcs ix (o_lt0 t1 t2) := by
  intro p l e R s m args below meth c u res hcx E C hE hC ls st M h
  obtain ⟨hx, hb, hr, hml, hown, hts, hK, hEv, hAd, hlocks, rfl⟩ := hcx
  unfold o_lt0 at h
  split at h
  · rename_i a r
    intro ls' H locs hL hst hM hP hS
    rw [hp]
    refine lv_if_lt (tgt := tgt) hx hb hd hto (fun q => ?_) (fun q => ?_)
    · have z9 : a < 0 := (nm_lt (am_h1 hst) ⟨by decide, by decide⟩).mp q
      rcases am_ifs h with ⟨h1, h⟩ | ⟨h1, h⟩
      · have k9 := hE _ _ _ _ h ls' H locs hL (am_ht hst) hM hP hS
        rw [hn1] at k9
        exact k9
      · exact absurd z9 h1
    · have z9 : ¬ (a < 0) := fun z => q ((nm_lt (am_h1 hst) ⟨by decide, by decide⟩).mpr z)
      rcases am_ifs h with ⟨h1, h⟩ | ⟨h1, h⟩
      · exact absurd h1 z9
      · have k9 := hE _ _ _ _ h ls' H locs hL (am_ht hst) hM hP hS
        rw [hn2] at k9
        exact k9
  · exact (am_no h).elim
theorem S_ge0 {cc : ByteArray} {own : String} {nL rk : Nat} {ret : Option FieldType} {pcs : Nat → Nat} {ix pc : Nat} {t1 t2 tgt : Nat} {off : Int} (hp : pcs ix = pc) (hn1 : pcs t1 = pc + 3) (hn2 : pcs t2 = tgt) (hto : (pc : Int) + off = (tgt : Int)) (hd : decode cc pc = .ok (.ifCond .ge off, 3)) : am_Sd cc own nL rk ret pcs ix (o_lt0 t1 t2) := by
  intro p l e R s m args below meth c u res hcx E C hE hC ls st M h
  obtain ⟨hx, hb, hr, hml, hown, hts, hK, hEv, hAd, hlocks, rfl⟩ := hcx
  unfold o_lt0 at h
  split at h
  · rename_i a r
    intro ls' H locs hL hst hM hP hS
    rw [hp]
    refine lv_if_ge (tgt := tgt) hx hb hd hto (fun q => ?_) (fun q => ?_)
    · have z9 : ¬ (a < 0) := by have z := (nm_le (a := 0) ⟨by decide, by decide⟩ (am_h1 hst)).mp q; omega
      rcases am_ifs h with ⟨h1, h⟩ | ⟨h1, h⟩
      · exact absurd h1 z9
      · have k9 := hE _ _ _ _ h ls' H locs hL (am_ht hst) hM hP hS
        rw [hn2] at k9
        exact k9
    · have z9 : a < 0 := by have z : ¬ _ := fun z => q ((nm_le (a := 0) ⟨by decide, by decide⟩ (am_h1 hst)).mpr z); omega
      rcases am_ifs h with ⟨h1, h⟩ | ⟨h1, h⟩
      · have k9 := hE _ _ _ _ h ls' H locs hL (am_ht hst) hM hP hS
        rw [hn1] at k9
        exact k9
      · exact absurd z9 h1
  · exact (am_no h).elim
theorem S_gt0 {cc : ByteArray} {own : String} {nL rk : Nat} {ret : Option FieldType} {pcs : Nat → Nat} {ix pc : Nat} {t1 t2 tgt : Nat} {off : Int} (hp : pcs ix = pc) (hn1 : pcs t1 = tgt) (hn2 : pcs t2 = pc + 3) (hto : (pc : Int) + off = (tgt : Int)) (hd : decode cc pc = .ok (.ifCond .gt off, 3)) : am_Sd cc own nL rk ret pcs ix (o_gt0 t1 t2) := by
  intro p l e R s m args below meth c u res hcx E C hE hC ls st M h
  obtain ⟨hx, hb, hr, hml, hown, hts, hK, hEv, hAd, hlocks, rfl⟩ := hcx
  unfold o_gt0 at h
  split at h
  · rename_i a r
    intro ls' H locs hL hst hM hP hS
    rw [hp]
    refine lv_if_gt (tgt := tgt) hx hb hd hto (fun q => ?_) (fun q => ?_)
    · have z9 : 0 < a := (nm_lt ⟨by decide, by decide⟩ (am_h1 hst)).mp q
      rcases am_ifs h with ⟨h1, h⟩ | ⟨h1, h⟩
      · have k9 := hE _ _ _ _ h ls' H locs hL (am_ht hst) hM hP hS
        rw [hn1] at k9
        exact k9
      · exact absurd z9 h1
    · have z9 : ¬ (0 < a) := fun z => q ((nm_lt ⟨by decide, by decide⟩ (am_h1 hst)).mpr z)
      rcases am_ifs h with ⟨h1, h⟩ | ⟨h1, h⟩
      · exact absurd h1 z9
      · have k9 := hE _ _ _ _ h ls' H locs hL (am_ht hst) hM hP hS
        rw [hn2] at k9
        exact k9
  · exact (am_no h).elim
theorem S_le0 {cc : ByteArray} {own : String} {nL rk : Nat} {ret : Option FieldType} {pcs : Nat → Nat} {ix pc : Nat} {t1 t2 tgt : Nat} {off : Int} (hp : pcs ix = pc) (hn1 : pcs t1 = pc + 3) (hn2 : pcs t2 = tgt) (hto : (pc : Int) + off = (tgt : Int)) (hd : decode cc pc = .ok (.ifCond .le off, 3)) : am_Sd cc own nL rk ret pcs ix (o_gt0 t1 t2) := by
  intro p l e R s m args below meth c u res hcx E C hE hC ls st M h
  obtain ⟨hx, hb, hr, hml, hown, hts, hK, hEv, hAd, hlocks, rfl⟩ := hcx
  unfold o_gt0 at h
  split at h
  · rename_i a r
    intro ls' H locs hL hst hM hP hS
    rw [hp]
    refine lv_if_le (tgt := tgt) hx hb hd hto (fun q => ?_) (fun q => ?_)
    · have z9 : ¬ (0 < a) := by have z := (nm_le (b := 0) (am_h1 hst) ⟨by decide, by decide⟩).mp q; omega
      rcases am_ifs h with ⟨h1, h⟩ | ⟨h1, h⟩
      · exact absurd h1 z9
      · have k9 := hE _ _ _ _ h ls' H locs hL (am_ht hst) hM hP hS
        rw [hn2] at k9
        exact k9
    · have z9 : 0 < a := by have z : ¬ _ := fun z => q ((nm_le (b := 0) (am_h1 hst) ⟨by decide, by decide⟩).mpr z); omega
      rcases am_ifs h with ⟨h1, h⟩ | ⟨h1, h⟩
      · have k9 := hE _ _ _ _ h ls' H locs hL (am_ht hst) hM hP hS
        rw [hn1] at k9
        exact k9
      · exact absurd z9 h1
  · exact (am_no h).elim
theorem S_goto {cc : ByteArray} {own : String} {nL rk : Nat} {ret : Option FieldType} {pcs : Nat → Nat} {ix pc : Nat} {t : Nat} {off : Int} {tgt : Nat} (hp : pcs ix = pc) (hn : pcs t = tgt) (hto : (pc : Int) + off = (tgt : Int)) (hd : decode cc pc = .ok (.goto off, 3)) : am_Sd cc own nL rk ret pcs ix (o_goto t) := by
  intro p l e R s m args below meth c u res hcx E C hE hC ls st M h
  obtain ⟨hx, hb, hr, hml, hown, hts, hK, hEv, hAd, hlocks, rfl⟩ := hcx
  intro ls' H locs hL hst hM hP hS
  rw [hp]
  refine lv_goto (tgt := tgt) hx hb hd hto ?_
  have k9 := hE _ _ _ _ h ls' H locs hL hst hM hP hS
  rw [hn] at k9
  exact k9
theorem S_dup {cc : ByteArray} {own : String} {nL rk : Nat} {ret : Option FieldType} {pcs : Nat → Nat} {ix pc : Nat} {nx : Nat} (hp : pcs ix = pc) (hn : pcs nx = pc + 1) (hd : decode cc pc = .ok (.dup, 1)) : am_Sd cc own nL rk ret pcs ix (o_dup nx) := by
  intro p l e R s m args below meth c u res hcx E C hE hC ls st M h
  obtain ⟨hx, hb, hr, hml, hown, hts, hK, hEv, hAd, hlocks, rfl⟩ := hcx
  unfold o_dup at h
  split at h
  · intro ls' H locs hL hst hM hP hS
    rw [hp]
    refine lv_dup hx hb hd rfl ?_
    have k9 := hE _ _ _ _ h ls' H locs hL (am_hc (am_h1 hst) hst) hM hP hS
    rw [hn] at k9
    exact k9
  · intro ls' H locs hL hst hM hP hS
    rw [hp]
    refine lv_dup hx hb hd rfl ?_
    have k9 := hE _ _ _ _ h ls' H locs hL (am_hc (am_h1 hst) hst) hM hP hS
    rw [hn] at k9
    exact k9
  · exact (am_no h).elim
theorem S_d2 {cc : ByteArray} {own : String} {nL rk : Nat} {ret : Option FieldType} {pcs : Nat → Nat} {ix pc : Nat} {nx : Nat} (hp : pcs ix = pc) (hn : pcs nx = pc + 1) (hd : decode cc pc = .ok (.dup2, 1)) : am_Sd cc own nL rk ret pcs ix (o_d2 nx) := by
  intro p l e R s m args below meth c u res hcx E C hE hC ls st M h
  obtain ⟨hx, hb, hr, hml, hown, hts, hK, hEv, hAd, hlocks, rfl⟩ := hcx
  unfold o_d2 at h
  split at h
  · intro ls' H locs hL hst hM hP hS
    rw [hp]
    refine lv_dup2_11 hx hb hd rfl rfl ?_
    have k9 := hE _ _ _ _ h ls' H locs hL (am_hc (am_h1 hst) (am_hc (am_h1 (am_ht hst)) hst)) hM hP hS
    rw [hn] at k9
    exact k9
  · exact (am_no h).elim
theorem S_pop2 {cc : ByteArray} {own : String} {nL rk : Nat} {ret : Option FieldType} {pcs : Nat → Nat} {ix pc : Nat} {nx : Nat} (hp : pcs ix = pc) (hn : pcs nx = pc + 1) (hd : decode cc pc = .ok (.pop2, 1)) : am_Sd cc own nL rk ret pcs ix (o_pop2 nx) := by
  intro p l e R s m args below meth c u res hcx E C hE hC ls st M h
  obtain ⟨hx, hb, hr, hml, hown, hts, hK, hEv, hAd, hlocks, rfl⟩ := hcx
  unfold o_pop2 at h
  split at h
  · intro ls' H locs hL hst hM hP hS
    rw [hp]
    refine lv_pop2_2 hx hb hd rfl ?_
    have k9 := hE _ _ _ _ h ls' H locs hL (am_ht hst) hM hP hS
    rw [hn] at k9
    exact k9
  · exact (am_no h).elim
theorem S_ri {cc : ByteArray} {own : String} {nL rk : Nat} {ret : Option FieldType} {pcs : Nat → Nat} {ix pc : Nat} (hre : ret = some .int) (hp : pcs ix = pc) (hd : decode cc pc = .ok (.ireturn, 1)) : am_Sd cc own nL rk ret pcs ix o_ri := by
  subst hre
  intro p l e R s m args below meth c u res hcx E C hE hC ls st M h
  obtain ⟨hx, hb, hr, hml, hown, hts, hK, hEv, hAd, hlocks, rfl⟩ := hcx
  unfold o_ri at h
  split at h
  · rename_i v
    cases h
    intro ls' H locs hL hst hM hP hS
    rw [hp]
    exact W.iret hx hb hr (fun t ht hW => ⟨⟨_, (), rfl, ⟨rfl, am_h1 hst⟩, by rw [ht]; exact hP, hM⟩, hS.F ht⟩) hS.2.2 hd hlocks
  · exact (am_no h).elim
theorem S_rz {cc : ByteArray} {own : String} {nL rk : Nat} {ret : Option FieldType} {pcs : Nat → Nat} {ix pc : Nat} (hre : ret = some .boolean) (hp : pcs ix = pc) (hd : decode cc pc = .ok (.ireturn, 1)) : am_Sd cc own nL rk ret pcs ix o_rz := by
  subst hre
  intro p l e R s m args below meth c u res hcx E C hE hC ls st M h
  obtain ⟨hx, hb, hr, hml, hown, hts, hK, hEv, hAd, hlocks, rfl⟩ := hcx
  unfold o_rz at h
  split at h
  · rename_i v
    rcases am_ifs h with ⟨h1, h⟩ | ⟨h1, h⟩
    · cases h
      intro ls' H locs hL hst hM hP hS
      rw [hp]
      refine W.zret (ty := .boolean) hx hb hr ?_ (fun t ht hW => ⟨⟨_, (), rfl, ⟨rfl, am_h1 hst⟩, by rw [ht]; exact hP, hM⟩, hS.F ht⟩) hS.2.2 hd hlocks
      rcases h1 with rfl | rfl <;> rfl
    · exact (am_no h).elim
  · exact (am_no h).elim
theorem S_rl {cc : ByteArray} {own : String} {nL rk : Nat} {ret : Option FieldType} {pcs : Nat → Nat} {ix pc : Nat} (hre : ret = some .long) (hp : pcs ix = pc) (hd : decode cc pc = .ok (.lreturn, 1)) : am_Sd cc own nL rk ret pcs ix o_rl := by
  subst hre
  intro p l e R s m args below meth c u res hcx E C hE hC ls st M h
  obtain ⟨hx, hb, hr, hml, hown, hts, hK, hEv, hAd, hlocks, rfl⟩ := hcx
  unfold o_rl at h
  split at h
  · rename_i v
    cases h
    intro ls' H locs hL hst hM hP hS
    rw [hp]
    exact W.lret hx hb hr (fun t ht hW => ⟨⟨_, (), rfl, ⟨rfl, am_h1 hst⟩, by rw [ht]; exact hP, hM⟩, hS.F ht⟩) hS.2.2 hd hlocks
  · exact (am_no h).elim
theorem S_rv {cc : ByteArray} {own : String} {nL rk : Nat} {ret : Option FieldType} {pcs : Nat → Nat} {ix pc : Nat} (hre : ret = none) (hp : pcs ix = pc) (hd : decode cc pc = .ok (.return_, 1)) : am_Sd cc own nL rk ret pcs ix o_rv := by
  subst hre
  intro p l e R s m args below meth c u res hcx E C hE hC ls st M h
  obtain ⟨hx, hb, hr, hml, hown, hts, hK, hEv, hAd, hlocks, rfl⟩ := hcx
  unfold o_rv at h
  split at h
  · cases h
    intro ls' H locs hL hst hM hP hS
    rw [hp]
    exact W.vret hx hb hr (fun t ht hW => ⟨⟨(), rfl, trivial, by rw [ht]; exact hP, hM⟩, hS.F ht⟩) hS.2.2 hd hlocks
  · exact (am_no h).elim
theorem S_no {cc : ByteArray} {own : String} {nL rk : Nat} {ret : Option FieldType} {pcs : Nat → Nat} {ix : Nat} : am_Sd cc own nL rk ret pcs ix o_no := by
  intro p l e R s m args below meth c u res hcx E C hE hC ls st M h
  obtain ⟨hx, hb, hr, hml, hown, hts, hK, hEv, hAd, hlocks, rfl⟩ := hcx
  exact (am_no h).elim
theorem S_mk {cc : ByteArray} {own : String} {nL rk : Nat} {ret : Option FieldType} {pcs : Nat → Nat} {ix : Nat} (mm : List Bool) {op : am_O} (ho : am_Sd cc own nL rk ret pcs ix op) : am_Sd cc own nL rk ret pcs ix (o_mk mm op) := by
  intro p l e R s m args below meth c u res hcx E C hE hC ls st M h
  unfold o_mk at h
  rw [am_fl_eq] at h
  intro ls' H locs hL hst hM hP hS
  exact ho p l e R s m args below meth c u res hcx E C hE hC _ _ _ h ls' H locs (am_LR_mk mm hL) hst hM hP hS
