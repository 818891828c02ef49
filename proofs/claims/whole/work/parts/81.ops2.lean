/-! ===== bell, ends, rest, flames, idle, vain ===== -/
noncomputable def gP (x : Int32) (F : Nat → Int32) : Int32 := match zix x 4 with
  | none => -(nI 2)
  | some p => F p
theorem gP_none {x : Int32} {F : Nat → Int32} (z : zix x 4 = none) : gP x F = -(nI 2) := by unfold gP; rw [z]
theorem gP_some {p : Nat} {F : Nat → Int32} (h : p < 4) : gP (nI p) F = F p := by unfold gP; rw [zix_n h (by omega)]
noncomputable def gC (n : Nat) (x : Int32) (F : Nat → Int32) : Int32 := match zix x n with
  | none => -(nI 2)
  | some p => F p
theorem gC_none {n : Nat} {x : Int32} {F : Nat → Int32} (z : zix x n = none) : gC n x F = -(nI 2) := by unfold gC; rw [z]
theorem gC_some {n c : Nat} {F : Nat → Int32} (h : c < n) (hn : n < 2 ^ 31) : gC n (nI c) F = F c := by unfold gC; rw [zix_n h hn]
noncomputable def fBell (R : RS) (k : Int32) : Int32 := match zix k R.2.1.length with
  | none => -(nI 1)
  | some j => nI (R.2.1.getD j 0 / 256)
theorem c_bellH {P : PL} {n : Nat} {f : Nat → Nat} {R : RS} {h : MH} {k : Int32} {Q : Option MV → MH → Prop} (hT : kT R.2 h) (ho : rOut P n f R) (kk : Q (some (.inl (fBell R k))) h) : (k < 0 → Q (some (.inl (-(nI 1)))) h) ∧ (¬ k < 0 → ((h.1 48 9 ≤ k → Q (some (.inl (-(nI 1)))) h) ∧ (¬ h.1 48 9 ≤ k → (vp_in k 40 ∧ Q (some (.inl ((h.1 56 k.toNatClampNeg) / (nI 256)))) h)))) := by
  have h40 := ho.1
  have e9 := hT.1
  rcases ix3 k (n := R.2.1.length) (by omega) with ⟨z, x1, _⟩ | ⟨z, x1, x2, _⟩ | ⟨j, hj, rfl, z⟩
  · have e : fBell R k = -(nI 1) := by unfold fBell; rw [z]
    rw [e] at kk
    simp (disch := omega) only [xle_t, xle_f, xlt_t, xlt_f, xeq_t, xeq_f, xle0_t, xle0_f, xlt0_f, x0lt_t, x0lt_f, x0le_t, xeq0_t, xeq0_f, xin, xem_f, xme_f, xlem_f, xlm_f, xml_t, xmle_t, nI_clamp, nI_add, pk_mul, pk_sub, zI_s, zI_k, zI_o, zL_s, zL_k, zL_o, zR_s, zR_k, zR_o, zIL, zIR, zIN, zLI, zLR, zLN, zRI, zRL, zRN, true_and, and_true, not_true_eq_false, not_false_eq_true, true_implies, false_implies, implies_true, forall_const, if_true, if_false, eq_self, false_and, and_false, implies_true, nI_l, ylle_t, ylle_f, xcl_t, xcl_f, x1]
    exact kk
  · have e : fBell R k = -(nI 1) := by unfold fBell; rw [z]
    rw [e] at kk
    simp (disch := omega) only [xle_t, xle_f, xlt_t, xlt_f, xeq_t, xeq_f, xle0_t, xle0_f, xlt0_f, x0lt_t, x0lt_f, x0le_t, xeq0_t, xeq0_f, xin, xem_f, xme_f, xlem_f, xlm_f, xml_t, xmle_t, nI_clamp, nI_add, pk_mul, pk_sub, zI_s, zI_k, zI_o, zL_s, zL_k, zL_o, zR_s, zR_k, zR_o, zIL, zIR, zIN, zLI, zLR, zLN, zRI, zRL, zRN, true_and, and_true, not_true_eq_false, not_false_eq_true, true_implies, false_implies, implies_true, forall_const, if_true, if_false, eq_self, false_and, and_false, implies_true, nI_l, ylle_t, ylle_f, xcl_t, xcl_f, x1, x2, e9]
    exact kk
  · have e : fBell R (nI j) = nI (R.2.1.getD j 0 / 256) := by unfold fBell; rw [z]
    rw [e] at kk
    have hb : R.2.1.getD j 0 ≤ 400000000 := by
      have hm : R.2.1.getD j 0 ∈ R.2.1 := by rw [List.getD_eq_getElem?_getD, List.getElem?_eq_getElem hj]; exact List.getElem_mem hj
      exact Nat.le_trans (ho.2.2.2.2.1.1 _ hm) ho.2.2.2.1
    have e56 := hT.2.1 j hj
    simp (disch := omega) only [xle_t, xle_f, xlt_t, xlt_f, xeq_t, xeq_f, xle0_t, xle0_f, xlt0_f, x0lt_t, x0lt_f, x0le_t, xeq0_t, xeq0_f, xin, xem_f, xme_f, xlem_f, xlm_f, xml_t, xmle_t, nI_clamp, nI_add, pk_mul, pk_sub, zI_s, zI_k, zI_o, zL_s, zL_k, zL_o, zR_s, zR_k, zR_o, zIL, zIR, zIN, zLI, zLR, zLN, zRI, zRL, zRN, true_and, and_true, not_true_eq_false, not_false_eq_true, true_implies, false_implies, implies_true, forall_const, if_true, if_false, eq_self, false_and, and_false, implies_true, nI_l, ylle_t, ylle_f, xcl_t, xcl_f, e9, e56, pk_div]
    exact kk
theorem n_bellH {P : PL} {n : Nat} {f : Nat → Nat} {R : RS} {h : MH} {k : Int32} {Q : Option MV → MH → Prop} (hT : mTT R.2 h) (ho : rOut P n f R) (kk : Q (some (.inl (fBell R k))) h) : (lN 0 ≤ k.toInt64 → ((k.toInt64 ≤ (h.1 111 25 - nI 1).toInt64 → (vp_in k 40 ∧ Q (some (.inl ((h.1 124 k.toNatClampNeg) / (nI 256)))) h)) ∧ (¬ k.toInt64 ≤ (h.1 111 25 - nI 1).toInt64 → Q (some (.inl (-(nI 1)))) h))) ∧ (¬ lN 0 ≤ k.toInt64 → Q (some (.inl (-(nI 1)))) h) := by
  have h40 := ho.1
  have e9 := hT.1
  rcases ix3 k (n := R.2.1.length) (by omega) with ⟨z, _, x1⟩ | ⟨z, _, _, x1, x2, _⟩ | ⟨j, hj, rfl, z⟩
  · have e : fBell R k = -(nI 1) := by unfold fBell; rw [z]
    rw [e] at kk
    simp (disch := omega) only [xle_t, xle_f, xlt_t, xlt_f, xeq_t, xeq_f, xle0_t, xle0_f, xlt0_f, x0lt_t, x0lt_f, x0le_t, xeq0_t, xeq0_f, xin, xem_f, xme_f, xlem_f, xlm_f, xml_t, xmle_t, nI_clamp, nI_add, pk_mul, pk_sub, zI_s, zI_k, zI_o, zL_s, zL_k, zL_o, zR_s, zR_k, zR_o, zIL, zIR, zIN, zLI, zLR, zLN, zRI, zRL, zRN, true_and, and_true, not_true_eq_false, not_false_eq_true, true_implies, false_implies, implies_true, forall_const, if_true, if_false, eq_self, false_and, and_false, implies_true, nI_l, ylle_t, ylle_f, xcl_t, xcl_f, x1]
    exact kk
  · have e : fBell R k = -(nI 1) := by unfold fBell; rw [z]
    rw [e] at kk
    simp (disch := omega) only [xle_t, xle_f, xlt_t, xlt_f, xeq_t, xeq_f, xle0_t, xle0_f, xlt0_f, x0lt_t, x0lt_f, x0le_t, xeq0_t, xeq0_f, xin, xem_f, xme_f, xlem_f, xlm_f, xml_t, xmle_t, nI_clamp, nI_add, pk_mul, pk_sub, zI_s, zI_k, zI_o, zL_s, zL_k, zL_o, zR_s, zR_k, zR_o, zIL, zIR, zIN, zLI, zLR, zLN, zRI, zRL, zRN, true_and, and_true, not_true_eq_false, not_false_eq_true, true_implies, false_implies, implies_true, forall_const, if_true, if_false, eq_self, false_and, and_false, implies_true, nI_l, ylle_t, ylle_f, xcl_t, xcl_f, x1, e9, x2]
    exact kk
  · have e : fBell R (nI j) = nI (R.2.1.getD j 0 / 256) := by unfold fBell; rw [z]
    rw [e] at kk
    have hb : R.2.1.getD j 0 ≤ 400000000 := by
      have hm : R.2.1.getD j 0 ∈ R.2.1 := by rw [List.getD_eq_getElem?_getD, List.getElem?_eq_getElem hj]; exact List.getElem_mem hj
      exact Nat.le_trans (ho.2.2.2.2.1.1 _ hm) ho.2.2.2.1
    have e56 := hT.2.1 j hj
    simp (disch := omega) only [xle_t, xle_f, xlt_t, xlt_f, xeq_t, xeq_f, xle0_t, xle0_f, xlt0_f, x0lt_t, x0lt_f, x0le_t, xeq0_t, xeq0_f, xin, xem_f, xme_f, xlem_f, xlm_f, xml_t, xmle_t, nI_clamp, nI_add, pk_mul, pk_sub, zI_s, zI_k, zI_o, zL_s, zL_k, zL_o, zR_s, zR_k, zR_o, zIL, zIR, zIN, zLI, zLR, zLN, zRI, zRL, zRN, true_and, and_true, not_true_eq_false, not_false_eq_true, true_implies, false_implies, implies_true, forall_const, if_true, if_false, eq_self, false_and, and_false, implies_true, nI_l, ylle_t, ylle_f, xcl_t, xcl_f, e9, e56, pk_div]
    exact kk
noncomputable def gBell (B : BK) (x k : Int32) : Int32 := gP x (fun p => fBell (rTo B.1 (B.2 p)) k)
theorem o_bell {B : BK} {h : MH} {d : Nat} {x y : Int32} {Q : Option MV → MH → Prop} (hr : zRf h) (hA : bAt B h 15) (hB : bOK B) (hd : 6 ≤ d) (kk : ∀ h', zRf h' → cF h h' → Q (some (.inl (gBell B x y))) h') : Con mX10_bell d 0 0 [.inr (.inr 1), .inl x, .inl y] h Q := by
  unfold gBell at kk
  refine u_X10_bell (d1' := 5) hr (by omega) (by omega) ?_
  rcases ix3 x (n := 4) (by omega) with ⟨z, x1, _⟩ | ⟨z, x1, x2, _⟩ | ⟨p, hp, rfl, z⟩
  · rw [gP_none z] at kk
    simp (disch := omega) only [xle_t, xle_f, xlt_t, xlt_f, xeq_t, xeq_f, xle0_t, xle0_f, xlt0_f, x0lt_t, x0lt_f, x0le_t, xeq0_t, xeq0_f, xin, xem_f, xme_f, xlem_f, xlm_f, xml_t, xmle_t, nI_clamp, nI_add, pk_mul, pk_sub, zI_s, zI_k, zI_o, zL_s, zL_k, zL_o, zR_s, zR_k, zR_o, zIL, zIR, zIN, zLI, zLR, zLN, zRI, zRL, zRN, true_and, and_true, not_true_eq_false, not_false_eq_true, true_implies, false_implies, implies_true, forall_const, if_true, if_false, eq_self, false_and, and_false, implies_true, nI_l, ylle_t, ylle_f, xcl_t, xcl_f, x1]
    exact kk h hr zF.rfl
  · rw [gP_none z] at kk
    simp (disch := omega) only [xle_t, xle_f, xlt_t, xlt_f, xeq_t, xeq_f, xle0_t, xle0_f, xlt0_f, x0lt_t, x0lt_f, x0le_t, xeq0_t, xeq0_f, xin, xem_f, xme_f, xlem_f, xlm_f, xml_t, xmle_t, nI_clamp, nI_add, pk_mul, pk_sub, zI_s, zI_k, zI_o, zL_s, zL_k, zL_o, zR_s, zR_k, zR_o, zIL, zIR, zIN, zLI, zLR, zLN, zRI, zRL, zRN, true_and, and_true, not_true_eq_false, not_false_eq_true, true_implies, false_implies, implies_true, forall_const, if_true, if_false, eq_self, false_and, and_false, implies_true, nI_l, ylle_t, ylle_f, xcl_t, xcl_f, x1, x2]
    exact kk h hr zF.rfl
  rw [gP_some hp] at kk
  simp (disch := omega) only [xle_t, xle_f, xlt_t, xlt_f, xeq_t, xeq_f, xle0_t, xle0_f, xlt0_f, x0lt_t, x0lt_f, x0le_t, xeq0_t, xeq0_f, xin, xem_f, xme_f, xlem_f, xlm_f, xml_t, xmle_t, nI_clamp, nI_add, pk_mul, pk_sub, zI_s, zI_k, zI_o, zL_s, zL_k, zL_o, zR_s, zR_k, zR_o, zIL, zIR, zIN, zLI, zLR, zLN, zRI, zRL, zRN, true_and, and_true, not_true_eq_false, not_false_eq_true, true_implies, false_implies, implies_true, forall_const, if_true, if_false, eq_self, false_and, and_false, implies_true, nI_l, ylle_t, ylle_f, xcl_t, xcl_f]
  refine c_pat hr hA hB hp (by omega) (fun h1 r1 f1 s1 => ?_)
  exact u_X10_bell_15 r1 (by omega) (c_bellH s1.1.2 (rTo_o hB hp) (kk h1 r1 f1.c))
theorem n_bell {B : BK} {h : MH} {d : Nat} {x y : Int32} {Q : Option MV → MH → Prop} (hr : zRf h) (hA : bIn B (h.1 112) 0) (hB : bOK B) (h28 : h.1 111 28 = -(nI 1)) (hd : 5 ≤ d) (kk : ∀ h', zRf h' → mK h h' → Q (some (.inl (gBell B x y))) h') : Con mX11_bell d 0 0 [.inr (.inr 111), .inl x, .inl y] h Q := by
  unfold gBell at kk
  have hA0 : bIn B ((zsI h 111 0 (nI 0)).1 112) 0 := hA
  refine u_X11_bell (d1' := 2) hr (by omega) (by omega) ?_
  rcases ix3 x (n := 4) (by omega) with ⟨z, _, x1⟩ | ⟨z, _, _, x1, _, x2, _⟩ | ⟨p, hp, rfl, z⟩
  · rw [gP_none z] at kk
    simp (disch := omega) only [xle_t, xle_f, xlt_t, xlt_f, xeq_t, xeq_f, xle0_t, xle0_f, xlt0_f, x0lt_t, x0lt_f, x0le_t, xeq0_t, xeq0_f, xin, xem_f, xme_f, xlem_f, xlm_f, xml_t, xmle_t, nI_clamp, nI_add, pk_mul, pk_sub, zI_s, zI_k, zI_o, zL_s, zL_k, zL_o, zR_s, zR_k, zR_o, zIL, zIR, zIN, zLI, zLR, zLN, zRI, zRL, zRN, true_and, and_true, not_true_eq_false, not_false_eq_true, true_implies, false_implies, implies_true, forall_const, if_true, if_false, eq_self, false_and, and_false, implies_true, nI_l, ylle_t, ylle_f, xcl_t, xcl_f, x1, y_3]
    exact kk _ hr (mK_0 h)
  · rw [gP_none z] at kk
    simp (disch := omega) only [xle_t, xle_f, xlt_t, xlt_f, xeq_t, xeq_f, xle0_t, xle0_f, xlt0_f, x0lt_t, x0lt_f, x0le_t, xeq0_t, xeq0_f, xin, xem_f, xme_f, xlem_f, xlm_f, xml_t, xmle_t, nI_clamp, nI_add, pk_mul, pk_sub, zI_s, zI_k, zI_o, zL_s, zL_k, zL_o, zR_s, zR_k, zR_o, zIL, zIR, zIN, zLI, zLR, zLN, zRI, zRL, zRN, true_and, and_true, not_true_eq_false, not_false_eq_true, true_implies, false_implies, implies_true, forall_const, if_true, if_false, eq_self, false_and, and_false, implies_true, nI_l, ylle_t, ylle_f, xcl_t, xcl_f, x1, y_3, x2 3 rfl]
    exact kk _ hr (mK_0 h)
  rw [gP_some hp] at kk
  simp (disch := omega) only [xle_t, xle_f, xlt_t, xlt_f, xeq_t, xeq_f, xle0_t, xle0_f, xlt0_f, x0lt_t, x0lt_f, x0le_t, xeq0_t, xeq0_f, xin, xem_f, xme_f, xlem_f, xlm_f, xml_t, xmle_t, nI_clamp, nI_add, pk_mul, pk_sub, zI_s, zI_k, zI_o, zL_s, zL_k, zL_o, zR_s, zR_k, zR_o, zIL, zIR, zIN, zLI, zLR, zLN, zRI, zRL, zRN, true_and, and_true, not_true_eq_false, not_false_eq_true, true_implies, false_implies, implies_true, forall_const, if_true, if_false, eq_self, false_and, and_false, implies_true, nI_l, ylle_t, ylle_f, xcl_t, xcl_f, y_3]
  refine n_ast hr hA0.1 hB.1 (by omega) (fun h1 r1 f1 m1 => ?_)
  have hA1 : bIn B (h1.1 112) 0 := by rw [f1.i (by omega)]; exact hA0
  have k1 := (mK_0 h).trans (mK_116 f1)
  refine u_X11_bell_19 (d1' := 4) r1 (by omega) ?_
  refine n_runs (lo := 40) r1 hp (fT_ok hB.1) m1 (mP.of hA1 hp (k1.2.2.2.2.trans h28)) (hB.2 p hp) (Or.inl ⟨rfl, rfl⟩) (by omega) (fun h2 r2 f2 s2 => ?_)
  have kk1 := kk h2 r2 (k1.trans f2.k)
  have s2' : mS B.1.1 (rTo B.1 (B.2 p)) h2 := s2
  have ho := rTo_o hB hp
  exact u_X11_bell_25 r2 (by omega) (n_bellH s2'.2 ho kk1)
def fEnd (R : RS) (c : Nat) : Int32 := if R.1.2.2.2.2.2 c = 0 then -(nI 1) else nI ((R.1.2.2.2.2.2 c - 1) / 256)
noncomputable def gEnds (B : BK) (x y : Int32) : Int32 := gP x (fun p => gC B.1.1 y (fun c => fEnd (rTo B.1 (B.2 p)) c))
theorem o_ends {B : BK} {h : MH} {d : Nat} {x y : Int32} {Q : Option MV → MH → Prop} (hr : zRf h) (hA : bAt B h 15) (hB : bOK B) (hd : 6 ≤ d) (kk : ∀ h', zRf h' → cF h h' → Q (some (.inl (gEnds B x y))) h') : Con mX10_ends d 0 0 [.inr (.inr 1), .inl x, .inl y] h Q := by
  unfold gEnds at kk
  have h8 := hB.1.1
  have hn0 : h.1 16 0 = nI B.1.1 := hA.1.1
  refine u_X10_ends (d1' := 5) hr (by omega) (by omega) ?_
  rcases ix3 x (n := 4) (by omega) with ⟨z, x1, _⟩ | ⟨z, x1, x2, _⟩ | ⟨p, hp, rfl, z⟩
  · rw [gP_none z] at kk
    simp (disch := omega) only [xle_t, xle_f, xlt_t, xlt_f, xeq_t, xeq_f, xle0_t, xle0_f, xlt0_f, x0lt_t, x0lt_f, x0le_t, xeq0_t, xeq0_f, xin, xem_f, xme_f, xlem_f, xlm_f, xml_t, xmle_t, nI_clamp, nI_add, pk_mul, pk_sub, zI_s, zI_k, zI_o, zL_s, zL_k, zL_o, zR_s, zR_k, zR_o, zIL, zIR, zIN, zLI, zLR, zLN, zRI, zRL, zRN, true_and, and_true, not_true_eq_false, not_false_eq_true, true_implies, false_implies, implies_true, forall_const, if_true, if_false, eq_self, false_and, and_false, implies_true, nI_l, ylle_t, ylle_f, xcl_t, xcl_f, x1]
    exact kk h hr zF.rfl
  · rw [gP_none z] at kk
    simp (disch := omega) only [xle_t, xle_f, xlt_t, xlt_f, xeq_t, xeq_f, xle0_t, xle0_f, xlt0_f, x0lt_t, x0lt_f, x0le_t, xeq0_t, xeq0_f, xin, xem_f, xme_f, xlem_f, xlm_f, xml_t, xmle_t, nI_clamp, nI_add, pk_mul, pk_sub, zI_s, zI_k, zI_o, zL_s, zL_k, zL_o, zR_s, zR_k, zR_o, zIL, zIR, zIN, zLI, zLR, zLN, zRI, zRL, zRN, true_and, and_true, not_true_eq_false, not_false_eq_true, true_implies, false_implies, implies_true, forall_const, if_true, if_false, eq_self, false_and, and_false, implies_true, nI_l, ylle_t, ylle_f, xcl_t, xcl_f, x1, x2]
    exact kk h hr zF.rfl
  rw [gP_some hp] at kk
  rcases ix3 y (n := B.1.1) (by omega) with ⟨z, x1, _⟩ | ⟨z, x1, x2, _⟩ | ⟨c, hc, rfl, z⟩
  · rw [gC_none z] at kk
    simp (disch := omega) only [xle_t, xle_f, xlt_t, xlt_f, xeq_t, xeq_f, xle0_t, xle0_f, xlt0_f, x0lt_t, x0lt_f, x0le_t, xeq0_t, xeq0_f, xin, xem_f, xme_f, xlem_f, xlm_f, xml_t, xmle_t, nI_clamp, nI_add, pk_mul, pk_sub, zI_s, zI_k, zI_o, zL_s, zL_k, zL_o, zR_s, zR_k, zR_o, zIL, zIR, zIN, zLI, zLR, zLN, zRI, zRL, zRN, true_and, and_true, not_true_eq_false, not_false_eq_true, true_implies, false_implies, implies_true, forall_const, if_true, if_false, eq_self, false_and, and_false, implies_true, nI_l, ylle_t, ylle_f, xcl_t, xcl_f, x1, hn0]
    exact kk h hr zF.rfl
  · rw [gC_none z] at kk
    simp (disch := omega) only [xle_t, xle_f, xlt_t, xlt_f, xeq_t, xeq_f, xle0_t, xle0_f, xlt0_f, x0lt_t, x0lt_f, x0le_t, xeq0_t, xeq0_f, xin, xem_f, xme_f, xlem_f, xlm_f, xml_t, xmle_t, nI_clamp, nI_add, pk_mul, pk_sub, zI_s, zI_k, zI_o, zL_s, zL_k, zL_o, zR_s, zR_k, zR_o, zIL, zIR, zIN, zLI, zLR, zLN, zRI, zRL, zRN, true_and, and_true, not_true_eq_false, not_false_eq_true, true_implies, false_implies, implies_true, forall_const, if_true, if_false, eq_self, false_and, and_false, implies_true, nI_l, ylle_t, ylle_f, xcl_t, xcl_f, x1, x2, hn0]
    exact kk h hr zF.rfl
  rw [gC_some hc (by omega)] at kk
  simp (disch := omega) only [xle_t, xle_f, xlt_t, xlt_f, xeq_t, xeq_f, xle0_t, xle0_f, xlt0_f, x0lt_t, x0lt_f, x0le_t, xeq0_t, xeq0_f, xin, xem_f, xme_f, xlem_f, xlm_f, xml_t, xmle_t, nI_clamp, nI_add, pk_mul, pk_sub, zI_s, zI_k, zI_o, zL_s, zL_k, zL_o, zR_s, zR_k, zR_o, zIL, zIR, zIN, zLI, zLR, zLN, zRI, zRL, zRN, true_and, and_true, not_true_eq_false, not_false_eq_true, true_implies, false_implies, implies_true, forall_const, if_true, if_false, eq_self, false_and, and_false, implies_true, nI_l, ylle_t, ylle_f, xcl_t, xcl_f, hn0]
  refine c_pat hr hA hB hp (by omega) (fun h1 r1 f1 s1 => ?_)
  have ho := rTo_o hB hp
  have hen := ho.2.2.2.2.1.2.1 c
  have hno := ho.2.2.2.1
  have kk1 := kk h1 r1 f1.c
  have e55 := (s1.1.1.2 c hc).2.2.2.1
  refine u_X10_ends_29 r1 ?_
  unfold fEnd at kk1
  unfold eI at e55
  by_cases q : (rTo B.1 (B.2 p)).1.2.2.2.2.2 c = 0
  · rw [if_pos q] at kk1 e55
    simp (disch := omega) only [xle_t, xle_f, xlt_t, xlt_f, xeq_t, xeq_f, xle0_t, xle0_f, xlt0_f, x0lt_t, x0lt_f, x0le_t, xeq0_t, xeq0_f, xin, xem_f, xme_f, xlem_f, xlm_f, xml_t, xmle_t, nI_clamp, nI_add, pk_mul, pk_sub, zI_s, zI_k, zI_o, zL_s, zL_k, zL_o, zR_s, zR_k, zR_o, zIL, zIR, zIN, zLI, zLR, zLN, zRI, zRL, zRN, true_and, and_true, not_true_eq_false, not_false_eq_true, true_implies, false_implies, implies_true, forall_const, if_true, if_false, eq_self, false_and, and_false, implies_true, nI_l, ylle_t, ylle_f, xcl_t, xcl_f, e55]
    exact kk1
  · rw [if_neg q] at kk1 e55
    simp (disch := omega) only [xle_t, xle_f, xlt_t, xlt_f, xeq_t, xeq_f, xle0_t, xle0_f, xlt0_f, x0lt_t, x0lt_f, x0le_t, xeq0_t, xeq0_f, xin, xem_f, xme_f, xlem_f, xlm_f, xml_t, xmle_t, nI_clamp, nI_add, pk_mul, pk_sub, zI_s, zI_k, zI_o, zL_s, zL_k, zL_o, zR_s, zR_k, zR_o, zIL, zIR, zIN, zLI, zLR, zLN, zRI, zRL, zRN, true_and, and_true, not_true_eq_false, not_false_eq_true, true_implies, false_implies, implies_true, forall_const, if_true, if_false, eq_self, false_and, and_false, implies_true, nI_l, ylle_t, ylle_f, xcl_t, xcl_f, e55, pk_div]
    exact kk1
theorem n_ends {B : BK} {h : MH} {d : Nat} {x y : Int32} {Q : Option MV → MH → Prop} (hr : zRf h) (hA : bIn B (h.1 112) 0) (hB : bOK B) (h28 : h.1 111 28 = -(nI 1)) (hd : 5 ≤ d) (kk : ∀ h', zRf h' → mK h h' → Q (some (.inl (gEnds B x y))) h') : Con mX11_ends d 0 0 [.inr (.inr 111), .inl x, .inl y] h Q := by
  unfold gEnds at kk
  have h8 := hB.1.1
  have hn0 : h.1 112 0 = nI B.1.1 := hA.1.1
  have hA0 : bIn B ((zsI h 111 0 (nI 0)).1 112) 0 := hA
  refine u_X11_ends (d1' := 2) hr (by omega) (by omega) ?_
  rcases ix3 x (n := 4) (by omega) with ⟨z, _, x1⟩ | ⟨z, _, _, x1, _, x2, _⟩ | ⟨p, hp, rfl, z⟩
  · rw [gP_none z] at kk
    simp (disch := omega) only [xle_t, xle_f, xlt_t, xlt_f, xeq_t, xeq_f, xle0_t, xle0_f, xlt0_f, x0lt_t, x0lt_f, x0le_t, xeq0_t, xeq0_f, xin, xem_f, xme_f, xlem_f, xlm_f, xml_t, xmle_t, nI_clamp, nI_add, pk_mul, pk_sub, zI_s, zI_k, zI_o, zL_s, zL_k, zL_o, zR_s, zR_k, zR_o, zIL, zIR, zIN, zLI, zLR, zLN, zRI, zRL, zRN, true_and, and_true, not_true_eq_false, not_false_eq_true, true_implies, false_implies, implies_true, forall_const, if_true, if_false, eq_self, false_and, and_false, implies_true, nI_l, ylle_t, ylle_f, xcl_t, xcl_f, x1, y_3]
    exact kk _ hr (mK_0 h)
  · rw [gP_none z] at kk
    simp (disch := omega) only [xle_t, xle_f, xlt_t, xlt_f, xeq_t, xeq_f, xle0_t, xle0_f, xlt0_f, x0lt_t, x0lt_f, x0le_t, xeq0_t, xeq0_f, xin, xem_f, xme_f, xlem_f, xlm_f, xml_t, xmle_t, nI_clamp, nI_add, pk_mul, pk_sub, zI_s, zI_k, zI_o, zL_s, zL_k, zL_o, zR_s, zR_k, zR_o, zIL, zIR, zIN, zLI, zLR, zLN, zRI, zRL, zRN, true_and, and_true, not_true_eq_false, not_false_eq_true, true_implies, false_implies, implies_true, forall_const, if_true, if_false, eq_self, false_and, and_false, implies_true, nI_l, ylle_t, ylle_f, xcl_t, xcl_f, x1, y_3, x2 3 rfl]
    exact kk _ hr (mK_0 h)
  rw [gP_some hp] at kk
  rcases ix3 y (n := B.1.1) (by omega) with ⟨z, _, x1⟩ | ⟨z, _, _, x1, x2, x3, _⟩ | ⟨c, hc, rfl, z⟩
  · rw [gC_none z] at kk
    simp (disch := omega) only [xle_t, xle_f, xlt_t, xlt_f, xeq_t, xeq_f, xle0_t, xle0_f, xlt0_f, x0lt_t, x0lt_f, x0le_t, xeq0_t, xeq0_f, xin, xem_f, xme_f, xlem_f, xlm_f, xml_t, xmle_t, nI_clamp, nI_add, pk_mul, pk_sub, zI_s, zI_k, zI_o, zL_s, zL_k, zL_o, zR_s, zR_k, zR_o, zIL, zIR, zIN, zLI, zLR, zLN, zRI, zRL, zRN, true_and, and_true, not_true_eq_false, not_false_eq_true, true_implies, false_implies, implies_true, forall_const, if_true, if_false, eq_self, false_and, and_false, implies_true, nI_l, ylle_t, ylle_f, xcl_t, xcl_f, x1, y_3, hn0]
    exact kk _ hr (mK_0 h)
  · rw [gC_none z] at kk
    simp (disch := omega) only [xle_t, xle_f, xlt_t, xlt_f, xeq_t, xeq_f, xle0_t, xle0_f, xlt0_f, x0lt_t, x0lt_f, x0le_t, xeq0_t, xeq0_f, xin, xem_f, xme_f, xlem_f, xlm_f, xml_t, xmle_t, nI_clamp, nI_add, pk_mul, pk_sub, zI_s, zI_k, zI_o, zL_s, zL_k, zL_o, zR_s, zR_k, zR_o, zIL, zIR, zIN, zLI, zLR, zLN, zRI, zRL, zRN, true_and, and_true, not_true_eq_false, not_false_eq_true, true_implies, false_implies, implies_true, forall_const, if_true, if_false, eq_self, false_and, and_false, implies_true, nI_l, ylle_t, ylle_f, xcl_t, xcl_f, x1, x2, y_3, hn0]
    exact kk _ hr (mK_0 h)
  rw [gC_some hc (by omega)] at kk
  simp (disch := omega) only [xle_t, xle_f, xlt_t, xlt_f, xeq_t, xeq_f, xle0_t, xle0_f, xlt0_f, x0lt_t, x0lt_f, x0le_t, xeq0_t, xeq0_f, xin, xem_f, xme_f, xlem_f, xlm_f, xml_t, xmle_t, nI_clamp, nI_add, pk_mul, pk_sub, zI_s, zI_k, zI_o, zL_s, zL_k, zL_o, zR_s, zR_k, zR_o, zIL, zIR, zIN, zLI, zLR, zLN, zRI, zRL, zRN, true_and, and_true, not_true_eq_false, not_false_eq_true, true_implies, false_implies, implies_true, forall_const, if_true, if_false, eq_self, false_and, and_false, implies_true, nI_l, ylle_t, ylle_f, xcl_t, xcl_f, y_3, hn0]
  refine n_ast hr hA0.1 hB.1 (by omega) (fun h1 r1 f1 m1 => ?_)
  have hA1 : bIn B (h1.1 112) 0 := by rw [f1.i (by omega)]; exact hA0
  have k1 := (mK_0 h).trans (mK_116 f1)
  refine u_X11_ends_27 (d1' := 4) r1 (by omega) ?_
  refine n_runs (lo := 40) r1 hp (fT_ok hB.1) m1 (mP.of hA1 hp (k1.2.2.2.2.trans h28)) (hB.2 p hp) (Or.inl ⟨rfl, rfl⟩) (by omega) (fun h2 r2 f2 s2 => ?_)
  have kk1 := kk h2 r2 (k1.trans f2.k)
  have s2' : mS B.1.1 (rTo B.1 (B.2 p)) h2 := s2
  have ho := rTo_o hB hp
  have hen := ho.2.2.2.2.1.2.1 c
  have hno := ho.2.2.2.1
  have e55 := (s2'.1 c (by omega)).2.2.2.2.1
  refine u_X11_ends_33 r2 ?_
  unfold fEnd at kk1
  unfold eI at e55
  by_cases q : (rTo B.1 (B.2 p)).1.2.2.2.2.2 c = 0
  · rw [if_pos q] at kk1 e55
    simp (disch := omega) only [xle_t, xle_f, xlt_t, xlt_f, xeq_t, xeq_f, xle0_t, xle0_f, xlt0_f, x0lt_t, x0lt_f, x0le_t, xeq0_t, xeq0_f, xin, xem_f, xme_f, xlem_f, xlm_f, xml_t, xmle_t, nI_clamp, nI_add, pk_mul, pk_sub, zI_s, zI_k, zI_o, zL_s, zL_k, zL_o, zR_s, zR_k, zR_o, zIL, zIR, zIN, zLI, zLR, zLN, zRI, zRL, zRN, true_and, and_true, not_true_eq_false, not_false_eq_true, true_implies, false_implies, implies_true, forall_const, if_true, if_false, eq_self, false_and, and_false, implies_true, nI_l, ylle_t, ylle_f, xcl_t, xcl_f, e55]
    exact kk1
  · rw [if_neg q] at kk1 e55
    simp (disch := omega) only [xle_t, xle_f, xlt_t, xlt_f, xeq_t, xeq_f, xle0_t, xle0_f, xlt0_f, x0lt_t, x0lt_f, x0le_t, xeq0_t, xeq0_f, xin, xem_f, xme_f, xlem_f, xlm_f, xml_t, xmle_t, nI_clamp, nI_add, pk_mul, pk_sub, zI_s, zI_k, zI_o, zL_s, zL_k, zL_o, zR_s, zR_k, zR_o, zIL, zIR, zIN, zLI, zLR, zLN, zRI, zRL, zRN, true_and, and_true, not_true_eq_false, not_false_eq_true, true_implies, false_implies, implies_true, forall_const, if_true, if_false, eq_self, false_and, and_false, implies_true, nI_l, ylle_t, ylle_f, xcl_t, xcl_f, e55, pk_div]
    exact kk1
noncomputable def gIdle (B : BK) (x : Int32) : Int32 := gP x (fun p => (((nI 1) <<< (nI (B.2 p).1 &&& 31)) - (nI 1)) &&& ((rTo B.1 (B.2 p)).2.2.2.1 ^^^ (-(nI 1))))
theorem o_idle {B : BK} {h : MH} {d : Nat} {x : Int32} {Q : Option MV → MH → Prop} (hr : zRf h) (hA : bAt B h 15) (hB : bOK B) (hd : 6 ≤ d) (kk : ∀ h', zRf h' → cF h h' → Q (some (.inl (gIdle B x))) h') : Con mX10_idle d 0 0 [.inr (.inr 1), .inl x] h Q := by
  unfold gIdle at kk
  refine u_X10_idle (d1' := 5) hr (by omega) (by omega) ?_
  rcases ix3 x (n := 4) (by omega) with ⟨z, x1, _⟩ | ⟨z, x1, x2, _⟩ | ⟨p, hp, rfl, z⟩
  · rw [gP_none z] at kk
    simp (disch := omega) only [xle_t, xle_f, xlt_t, xlt_f, xeq_t, xeq_f, xle0_t, xle0_f, xlt0_f, x0lt_t, x0lt_f, x0le_t, xeq0_t, xeq0_f, xin, xem_f, xme_f, xlem_f, xlm_f, xml_t, xmle_t, nI_clamp, nI_add, pk_mul, pk_sub, zI_s, zI_k, zI_o, zL_s, zL_k, zL_o, zR_s, zR_k, zR_o, zIL, zIR, zIN, zLI, zLR, zLN, zRI, zRL, zRN, true_and, and_true, not_true_eq_false, not_false_eq_true, true_implies, false_implies, implies_true, forall_const, if_true, if_false, eq_self, false_and, and_false, implies_true, nI_l, ylle_t, ylle_f, xcl_t, xcl_f, x1]
    exact kk h hr zF.rfl
  · rw [gP_none z] at kk
    simp (disch := omega) only [xle_t, xle_f, xlt_t, xlt_f, xeq_t, xeq_f, xle0_t, xle0_f, xlt0_f, x0lt_t, x0lt_f, x0le_t, xeq0_t, xeq0_f, xin, xem_f, xme_f, xlem_f, xlm_f, xml_t, xmle_t, nI_clamp, nI_add, pk_mul, pk_sub, zI_s, zI_k, zI_o, zL_s, zL_k, zL_o, zR_s, zR_k, zR_o, zIL, zIR, zIN, zLI, zLR, zLN, zRI, zRL, zRN, true_and, and_true, not_true_eq_false, not_false_eq_true, true_implies, false_implies, implies_true, forall_const, if_true, if_false, eq_self, false_and, and_false, implies_true, nI_l, ylle_t, ylle_f, xcl_t, xcl_f, x1, x2]
    exact kk h hr zF.rfl
  rw [gP_some hp] at kk
  simp (disch := omega) only [xle_t, xle_f, xlt_t, xlt_f, xeq_t, xeq_f, xle0_t, xle0_f, xlt0_f, x0lt_t, x0lt_f, x0le_t, xeq0_t, xeq0_f, xin, xem_f, xme_f, xlem_f, xlm_f, xml_t, xmle_t, nI_clamp, nI_add, pk_mul, pk_sub, zI_s, zI_k, zI_o, zL_s, zL_k, zL_o, zR_s, zR_k, zR_o, zIL, zIR, zIN, zLI, zLR, zLN, zRI, zRL, zRN, true_and, and_true, not_true_eq_false, not_false_eq_true, true_implies, false_implies, implies_true, forall_const, if_true, if_false, eq_self, false_and, and_false, implies_true, nI_l, ylle_t, ylle_f, xcl_t, xcl_f]
  refine c_pat hr hA hB hp (by omega) (fun h1 r1 f1 s1 => ?_)
  have e0 : h1.1 (22 + 6 * p) 0 = nI (B.2 p).1 := by rw [f1.i (by omega)]; exact (pAt.pl hA hp).1
  refine u_X10_idle_15 r1 ?_
  simp (disch := omega) only [xle_t, xle_f, xlt_t, xlt_f, xeq_t, xeq_f, xle0_t, xle0_f, xlt0_f, x0lt_t, x0lt_f, x0le_t, xeq0_t, xeq0_f, xin, xem_f, xme_f, xlem_f, xlm_f, xml_t, xmle_t, nI_clamp, nI_add, pk_mul, pk_sub, zI_s, zI_k, zI_o, zL_s, zL_k, zL_o, zR_s, zR_k, zR_o, zIL, zIR, zIN, zLI, zLR, zLN, zRI, zRL, zRN, true_and, and_true, not_true_eq_false, not_false_eq_true, true_implies, false_implies, implies_true, forall_const, if_true, if_false, eq_self, false_and, and_false, implies_true, nI_l, ylle_t, ylle_f, xcl_t, xcl_f, e0, s1.1.2.2.2.2.1]
  exact kk h1 r1 f1.c
theorem n_idle {B : BK} {h : MH} {d : Nat} {x : Int32} {Q : Option MV → MH → Prop} (hr : zRf h) (hA : bIn B (h.1 112) 0) (hB : bOK B) (h28 : h.1 111 28 = -(nI 1)) (hd : 5 ≤ d) (kk : ∀ h', zRf h' → mK h h' → Q (some (.inl (gIdle B x))) h') : Con mX11_idle d 0 0 [.inr (.inr 111), .inl x] h Q := by
  unfold gIdle at kk
  have hA0 : bIn B ((zsI h 111 0 (nI 0)).1 112) 0 := hA
  refine u_X11_idle (d1' := 2) hr (by omega) (by omega) ?_
  rcases ix3 x (n := 4) (by omega) with ⟨z, _, x1⟩ | ⟨z, _, _, x1, _, x2, _⟩ | ⟨p, hp, rfl, z⟩
  · rw [gP_none z] at kk
    simp (disch := omega) only [xle_t, xle_f, xlt_t, xlt_f, xeq_t, xeq_f, xle0_t, xle0_f, xlt0_f, x0lt_t, x0lt_f, x0le_t, xeq0_t, xeq0_f, xin, xem_f, xme_f, xlem_f, xlm_f, xml_t, xmle_t, nI_clamp, nI_add, pk_mul, pk_sub, zI_s, zI_k, zI_o, zL_s, zL_k, zL_o, zR_s, zR_k, zR_o, zIL, zIR, zIN, zLI, zLR, zLN, zRI, zRL, zRN, true_and, and_true, not_true_eq_false, not_false_eq_true, true_implies, false_implies, implies_true, forall_const, if_true, if_false, eq_self, false_and, and_false, implies_true, nI_l, ylle_t, ylle_f, xcl_t, xcl_f, x1, y_3]
    exact kk _ hr (mK_0 h)
  · rw [gP_none z] at kk
    simp (disch := omega) only [xle_t, xle_f, xlt_t, xlt_f, xeq_t, xeq_f, xle0_t, xle0_f, xlt0_f, x0lt_t, x0lt_f, x0le_t, xeq0_t, xeq0_f, xin, xem_f, xme_f, xlem_f, xlm_f, xml_t, xmle_t, nI_clamp, nI_add, pk_mul, pk_sub, zI_s, zI_k, zI_o, zL_s, zL_k, zL_o, zR_s, zR_k, zR_o, zIL, zIR, zIN, zLI, zLR, zLN, zRI, zRL, zRN, true_and, and_true, not_true_eq_false, not_false_eq_true, true_implies, false_implies, implies_true, forall_const, if_true, if_false, eq_self, false_and, and_false, implies_true, nI_l, ylle_t, ylle_f, xcl_t, xcl_f, x1, y_3, x2 3 rfl]
    exact kk _ hr (mK_0 h)
  rw [gP_some hp] at kk
  simp (disch := omega) only [xle_t, xle_f, xlt_t, xlt_f, xeq_t, xeq_f, xle0_t, xle0_f, xlt0_f, x0lt_t, x0lt_f, x0le_t, xeq0_t, xeq0_f, xin, xem_f, xme_f, xlem_f, xlm_f, xml_t, xmle_t, nI_clamp, nI_add, pk_mul, pk_sub, zI_s, zI_k, zI_o, zL_s, zL_k, zL_o, zR_s, zR_k, zR_o, zIL, zIR, zIN, zLI, zLR, zLN, zRI, zRL, zRN, true_and, and_true, not_true_eq_false, not_false_eq_true, true_implies, false_implies, implies_true, forall_const, if_true, if_false, eq_self, false_and, and_false, implies_true, nI_l, ylle_t, ylle_f, xcl_t, xcl_f, y_3]
  refine n_ast hr hA0.1 hB.1 (by omega) (fun h1 r1 f1 m1 => ?_)
  have hA1 : bIn B (h1.1 112) 0 := by rw [f1.i (by omega)]; exact hA0
  have k1 := (mK_0 h).trans (mK_116 f1)
  refine u_X11_idle_19 (d1' := 4) r1 (by omega) ?_
  refine n_runs (lo := 40) r1 hp (fT_ok hB.1) m1 (mP.of hA1 hp (k1.2.2.2.2.trans h28)) (hB.2 p hp) (Or.inl ⟨rfl, rfl⟩) (by omega) (fun h2 r2 f2 s2 => ?_)
  have kk1 := kk h2 r2 (k1.trans f2.k)
  have s2' : mS B.1.1 (rTo B.1 (B.2 p)) h2 := s2
  have ho := rTo_o hB hp
  have e0 : h2.1 112 (74 + 162 * p) = nI (B.2 p).1 := by
    rw [f2.1.i (by omega)]
    have := (hA1.2 p hp).1
    rw [Nat.zero_add] at this
    exact this
  refine u_X11_idle_25 r2 (by omega) ?_
  rw [pk_mul, nI_add]
  refine ⟨zia r2 (by decide) rfl (vp_in_nI (by omega) (by omega)), ?_⟩
  rw [nI_clamp (by omega), e0, s2'.2.2.2.2.2.1, Int32.and_comm]
  exact kk1
/-- the k-th that is so -/
def fKth (p : Nat → Bool) (k : Int32) (no : Nat → Int32) : Nat → Nat → Nat → Int32
  | 0, _, s => no s
  | m + 1, i, s => if p i = true then (if nI s = k then nI i else fKth p k no m (i + 1) (s + 1)) else fKth p k no m (i + 1) s
theorem fKth_tail {p : Nat → Bool} {k : Int32} {no : Nat → Int32} : ∀ (m i s : Nat), (∀ j, i ≤ j → p j = false) → fKth p k no m i s = no s
  | 0, _, _, _ => rfl
  | m + 1, i, s, h => by
    show (if p i = true then _ else fKth p k no m (i + 1) s) = _
    rw [if_neg (by rw [h i (Nat.le_refl _)]; decide)]
    exact fKth_tail m (i + 1) s (fun j hj => h j (by omega))
theorem fKth_cut {p : Nat → Bool} {k : Int32} {no : Nat → Int32} : ∀ (m e i s : Nat), (∀ j, i + m ≤ j → p j = false) → fKth p k no (m + e) i s = fKth p k no m i s
  | 0, e, i, s, h => by rw [Nat.zero_add]; exact fKth_tail e i s (fun j hj => h j (by omega))
  | m + 1, e, i, s, h => by
    rw [show m + 1 + e = (m + e) + 1 by omega]
    show (if p i = true then (if nI s = k then nI i else fKth p k no (m + e) (i + 1) (s + 1)) else fKth p k no (m + e) (i + 1) s) = if p i = true then (if nI s = k then nI i else fKth p k no m (i + 1) (s + 1)) else fKth p k no m (i + 1) s
    rw [fKth_cut m e (i + 1) (s + 1) (fun j hj => h j (by omega)), fKth_cut m e (i + 1) s (fun j hj => h j (by omega))]
noncomputable def gVain (B : BK) (x k : Int32) : Int32 := gP x (fun p => fKth (rTo B.1 (B.2 p)).2.2.1 k (fun _ => -(nI 1)) (B.2 p).2.1 0 0)
theorem xbL {w : Int64} {i : Nat} (hi : i < 64) : ((lg_cmp (((w.toUInt64 >>> ((nI i).toInt64.toUInt64 &&& Int64.toUInt64 63)).toInt64) &&& (lN 1)) (lN 0)) = 0) = (w.toBitVec.getLsbD i = false) := by
  refine propext ?_
  rw [lg_cmp_eq, wb_cu i hi]
  exact ts_bit hi (Nat.mod_eq_of_lt (by omega))
theorem xbLl {w : Int64} {i : Nat} (hi : i < 64) : ((lg_cmp (((w.toUInt64 >>> ((lN i).toUInt64 &&& Int64.toUInt64 63)).toInt64) &&& (lN 1)) (lN 0)) = 0) = (w.toBitVec.getLsbD i = false) := by
  rw [← nI_l (show i < 2 ^ 31 by omega)]
  exact xbL hi
theorem o_vain {B : BK} {h : MH} {d : Nat} {x y : Int32} {Q : Option MV → MH → Prop} (hr : zRf h) (hA : bAt B h 15) (hB : bOK B) (hd : 6 ≤ d) (kk : ∀ h', zRf h' → cF h h' → Q (some (.inl (gVain B x y))) h') : Con mX10_vain d 0 0 [.inr (.inr 1), .inl x, .inl y] h Q := by
  unfold gVain at kk
  refine u_X10_vain (d1' := 5) hr (by omega) (by omega) ?_
  rcases ix3 x (n := 4) (by omega) with ⟨z, x1, _⟩ | ⟨z, x1, x2, _⟩ | ⟨p, hp, rfl, z⟩
  · rw [gP_none z] at kk
    simp (disch := omega) only [xle_t, xle_f, xlt_t, xlt_f, xeq_t, xeq_f, xle0_t, xle0_f, xlt0_f, x0lt_t, x0lt_f, x0le_t, xeq0_t, xeq0_f, xin, xem_f, xme_f, xlem_f, xlm_f, xml_t, xmle_t, nI_clamp, nI_add, pk_mul, pk_sub, zI_s, zI_k, zI_o, zL_s, zL_k, zL_o, zR_s, zR_k, zR_o, zIL, zIR, zIN, zLI, zLR, zLN, zRI, zRL, zRN, true_and, and_true, not_true_eq_false, not_false_eq_true, true_implies, false_implies, implies_true, forall_const, if_true, if_false, eq_self, false_and, and_false, implies_true, nI_l, ylle_t, ylle_f, xcl_t, xcl_f, x1]
    exact kk h hr zF.rfl
  · rw [gP_none z] at kk
    simp (disch := omega) only [xle_t, xle_f, xlt_t, xlt_f, xeq_t, xeq_f, xle0_t, xle0_f, xlt0_f, x0lt_t, x0lt_f, x0le_t, xeq0_t, xeq0_f, xin, xem_f, xme_f, xlem_f, xlm_f, xml_t, xmle_t, nI_clamp, nI_add, pk_mul, pk_sub, zI_s, zI_k, zI_o, zL_s, zL_k, zL_o, zR_s, zR_k, zR_o, zIL, zIR, zIN, zLI, zLR, zLN, zRI, zRL, zRN, true_and, and_true, not_true_eq_false, not_false_eq_true, true_implies, false_implies, implies_true, forall_const, if_true, if_false, eq_self, false_and, and_false, implies_true, nI_l, ylle_t, ylle_f, xcl_t, xcl_f, x1, x2]
    exact kk h hr zF.rfl
  rw [gP_some hp] at kk
  simp (disch := omega) only [xle_t, xle_f, xlt_t, xlt_f, xeq_t, xeq_f, xle0_t, xle0_f, xlt0_f, x0lt_t, x0lt_f, x0le_t, xeq0_t, xeq0_f, xin, xem_f, xme_f, xlem_f, xlm_f, xml_t, xmle_t, nI_clamp, nI_add, pk_mul, pk_sub, zI_s, zI_k, zI_o, zL_s, zL_k, zL_o, zR_s, zR_k, zR_o, zIL, zIR, zIN, zLI, zLR, zLN, zRI, zRL, zRN, true_and, and_true, not_true_eq_false, not_false_eq_true, true_implies, false_implies, implies_true, forall_const, if_true, if_false, eq_self, false_and, and_false, implies_true, nI_l, ylle_t, ylle_f, xcl_t, xcl_f]
  refine c_pat hr hA hB hp (by omega) (fun h1 r1 f1 s1 => ?_)
  have ho := rTo_o hB hp
  have kk1 := kk h1 r1 f1.c
  have h40 := (hB.2 p hp).2.1
  rw [← fKth_cut (B.2 p).2.1 (40 - (B.2 p).2.1) 0 0 (fun j hj => ho.2.2.1 j (by omega)), show (B.2 p).2.1 + (40 - (B.2 p).2.1) = 40 by omega] at kk1
  have hbit := s1.1.2.2.2.1
  refine u_X10_vain_15 ?_
  generalize (rTo B.1 (B.2 p)).2.2.1 = va at kk1 hbit
  have L : ∀ m i s, i + m = 40 → s ≤ i → Q (some (.inl (fKth va y (fun _ => -(nI 1)) m i s))) h1 → J mX10_vain d 0 0 Q 0 0 20 [some (.inr (.inr 1)), some (.inl (nI p)), some (.inl y), some (.inl (nI s)), some (.inl (nI i))] [] h1 := by
    intro m
    induction m with
    | zero =>
      intro i s hi hs kq
      refine u_X10_vain_20 r1 ?_
      simp (disch := omega) only [xle_t, xle_f, xlt_t, xlt_f, xeq_t, xeq_f, xle0_t, xle0_f, xlt0_f, x0lt_t, x0lt_f, x0le_t, xeq0_t, xeq0_f, xin, xem_f, xme_f, xlem_f, xlm_f, xml_t, xmle_t, nI_clamp, nI_add, pk_mul, pk_sub, zI_s, zI_k, zI_o, zL_s, zL_k, zL_o, zR_s, zR_k, zR_o, zIL, zIR, zIN, zLI, zLR, zLN, zRI, zRL, zRN, true_and, and_true, not_true_eq_false, not_false_eq_true, true_implies, false_implies, implies_true, forall_const, if_true, if_false, eq_self, false_and, and_false, implies_true, nI_l, ylle_t, ylle_f, xcl_t, xcl_f]
      exact kq
    | succ m ih =>
      intro i s hi hs kq
      have kq' : Q (some (.inl (if va i = true then (if nI s = y then nI i else fKth va y (fun _ => -(nI 1)) m (i + 1) (s + 1)) else fKth va y (fun _ => -(nI 1)) m (i + 1) s))) h1 := kq
      refine u_X10_vain_20 r1 ?_
      have hb := xbLl (w := h1.2.1 48 10) (i := i) (by omega)
      rw [hbit i (by omega)] at hb
      by_cases v : va i = true
      · rw [if_pos v] at kq'
        have hb2 : (va i = false) = False := by rw [v]; exact eq_false (by decide)
        by_cases q : nI s = y
        · rw [if_pos q] at kq'
          simp (disch := omega) only [xle_t, xle_f, xlt_t, xlt_f, xeq_t, xeq_f, xle0_t, xle0_f, xlt0_f, x0lt_t, x0lt_f, x0le_t, xeq0_t, xeq0_f, xin, xem_f, xme_f, xlem_f, xlm_f, xml_t, xmle_t, nI_clamp, nI_add, pk_mul, pk_sub, zI_s, zI_k, zI_o, zL_s, zL_k, zL_o, zR_s, zR_k, zR_o, zIL, zIR, zIN, zLI, zLR, zLN, zRI, zRL, zRN, true_and, and_true, not_true_eq_false, not_false_eq_true, true_implies, false_implies, implies_true, forall_const, if_true, if_false, eq_self, false_and, and_false, implies_true, nI_l, ylle_t, ylle_f, xcl_t, xcl_f, hb, hb2, q]
          exact kq'
        · rw [if_neg q] at kq'
          simp (disch := omega) only [xle_t, xle_f, xlt_t, xlt_f, xeq_t, xeq_f, xle0_t, xle0_f, xlt0_f, x0lt_t, x0lt_f, x0le_t, xeq0_t, xeq0_f, xin, xem_f, xme_f, xlem_f, xlm_f, xml_t, xmle_t, nI_clamp, nI_add, pk_mul, pk_sub, zI_s, zI_k, zI_o, zL_s, zL_k, zL_o, zR_s, zR_k, zR_o, zIL, zIR, zIN, zLI, zLR, zLN, zRI, zRL, zRN, true_and, and_true, not_true_eq_false, not_false_eq_true, true_implies, false_implies, implies_true, forall_const, if_true, if_false, eq_self, false_and, and_false, implies_true, nI_l, ylle_t, ylle_f, xcl_t, xcl_f, hb, hb2, q]
          exact ih (i + 1) (s + 1) (by omega) (by omega) kq'
      · rw [if_neg v] at kq'
        have hb2 : (va i = false) = True := by
          cases z : va i with
          | false => exact eq_true rfl
          | true => exact absurd z v
        simp (disch := omega) only [xle_t, xle_f, xlt_t, xlt_f, xeq_t, xeq_f, xle0_t, xle0_f, xlt0_f, x0lt_t, x0lt_f, x0le_t, xeq0_t, xeq0_f, xin, xem_f, xme_f, xlem_f, xlm_f, xml_t, xmle_t, nI_clamp, nI_add, pk_mul, pk_sub, zI_s, zI_k, zI_o, zL_s, zL_k, zL_o, zR_s, zR_k, zR_o, zIL, zIR, zIN, zLI, zLR, zLN, zRI, zRL, zRN, true_and, and_true, not_true_eq_false, not_false_eq_true, true_implies, false_implies, implies_true, forall_const, if_true, if_false, eq_self, false_and, and_false, implies_true, nI_l, ylle_t, ylle_f, xcl_t, xcl_f, hb, hb2]
        exact ih (i + 1) s (by omega) (by omega) kq'
  exact L 40 0 0 (by omega) (by omega) kk1
theorem n_vain {B : BK} {h : MH} {d : Nat} {x y : Int32} {Q : Option MV → MH → Prop} (hr : zRf h) (hA : bIn B (h.1 112) 0) (hB : bOK B) (h28 : h.1 111 28 = -(nI 1)) (hd : 5 ≤ d) (kk : ∀ h', zRf h' → mK h h' → Q (some (.inl (gVain B x y))) h') : Con mX11_vain d 0 0 [.inr (.inr 111), .inl x, .inl y] h Q := by
  unfold gVain at kk
  have hA0 : bIn B ((zsI h 111 0 (nI 0)).1 112) 0 := hA
  refine u_X11_vain (d1' := 2) hr (by omega) (by omega) ?_
  rcases ix3 x (n := 4) (by omega) with ⟨z, _, x1⟩ | ⟨z, _, _, x1, _, x2, _⟩ | ⟨p, hp, rfl, z⟩
  · rw [gP_none z] at kk
    simp (disch := omega) only [xle_t, xle_f, xlt_t, xlt_f, xeq_t, xeq_f, xle0_t, xle0_f, xlt0_f, x0lt_t, x0lt_f, x0le_t, xeq0_t, xeq0_f, xin, xem_f, xme_f, xlem_f, xlm_f, xml_t, xmle_t, nI_clamp, nI_add, pk_mul, pk_sub, zI_s, zI_k, zI_o, zL_s, zL_k, zL_o, zR_s, zR_k, zR_o, zIL, zIR, zIN, zLI, zLR, zLN, zRI, zRL, zRN, true_and, and_true, not_true_eq_false, not_false_eq_true, true_implies, false_implies, implies_true, forall_const, if_true, if_false, eq_self, false_and, and_false, implies_true, nI_l, ylle_t, ylle_f, xcl_t, xcl_f, x1, y_3]
    exact kk _ hr (mK_0 h)
  · rw [gP_none z] at kk
    simp (disch := omega) only [xle_t, xle_f, xlt_t, xlt_f, xeq_t, xeq_f, xle0_t, xle0_f, xlt0_f, x0lt_t, x0lt_f, x0le_t, xeq0_t, xeq0_f, xin, xem_f, xme_f, xlem_f, xlm_f, xml_t, xmle_t, nI_clamp, nI_add, pk_mul, pk_sub, zI_s, zI_k, zI_o, zL_s, zL_k, zL_o, zR_s, zR_k, zR_o, zIL, zIR, zIN, zLI, zLR, zLN, zRI, zRL, zRN, true_and, and_true, not_true_eq_false, not_false_eq_true, true_implies, false_implies, implies_true, forall_const, if_true, if_false, eq_self, false_and, and_false, implies_true, nI_l, ylle_t, ylle_f, xcl_t, xcl_f, x1, y_3, x2 3 rfl]
    exact kk _ hr (mK_0 h)
  rw [gP_some hp] at kk
  simp (disch := omega) only [xle_t, xle_f, xlt_t, xlt_f, xeq_t, xeq_f, xle0_t, xle0_f, xlt0_f, x0lt_t, x0lt_f, x0le_t, xeq0_t, xeq0_f, xin, xem_f, xme_f, xlem_f, xlm_f, xml_t, xmle_t, nI_clamp, nI_add, pk_mul, pk_sub, zI_s, zI_k, zI_o, zL_s, zL_k, zL_o, zR_s, zR_k, zR_o, zIL, zIR, zIN, zLI, zLR, zLN, zRI, zRL, zRN, true_and, and_true, not_true_eq_false, not_false_eq_true, true_implies, false_implies, implies_true, forall_const, if_true, if_false, eq_self, false_and, and_false, implies_true, nI_l, ylle_t, ylle_f, xcl_t, xcl_f, y_3]
  refine n_ast hr hA0.1 hB.1 (by omega) (fun h1 r1 f1 m1 => ?_)
  have hA1 : bIn B (h1.1 112) 0 := by rw [f1.i (by omega)]; exact hA0
  have k1 := (mK_0 h).trans (mK_116 f1)
  refine u_X11_vain_19 (d1' := 4) r1 (by omega) ?_
  refine n_runs (lo := 40) r1 hp (fT_ok hB.1) m1 (mP.of hA1 hp (k1.2.2.2.2.trans h28)) (hB.2 p hp) (Or.inl ⟨rfl, rfl⟩) (by omega) (fun h2 r2 f2 s2 => ?_)
  have kk1 := kk h2 r2 (k1.trans f2.k)
  have s2' : mS B.1.1 (rTo B.1 (B.2 p)) h2 := s2
  have ho := rTo_o hB hp
  have h40 := (hB.2 p hp).2.1
  have e75 : h2.1 112 (75 + 162 * p) = nI (B.2 p).2.1 := by
    rw [f2.1.i (by omega)]
    have := (hA1.2 p hp).2.1
    rw [show 0 + 74 + 162 * p + 1 = 75 + 162 * p by omega] at this
    exact this
  have hz : zokA h2 112 20 (nI (75 + 162 * p)) := zia r2 (by decide) rfl (vp_in_nI (by omega) (by omega))
  have hbit := s2'.2.2.2.2.1
  refine u_X11_vain_25 ?_
  generalize (rTo B.1 (B.2 p)).2.2.1 = va at kk1 hbit
  generalize hA9 : (B.2 p).2.1 = na at kk1 h40 e75
  have L : ∀ m i s, i + m = na → s ≤ i → Q (some (.inl (fKth va y (fun _ => -(nI 1)) m i s))) h2 → J mX11_vain d 0 0 Q 0 0 30 [some (.inr (.inr 111)), some (.inl (nI p)), some (.inl y), some (.inl (nI s)), some (.inl (nI i))] [] h2 := by
    intro m
    induction m with
    | zero =>
      intro i s hi hs kq
      refine u_X11_vain_30 r2 (by omega) ?_
      simp (disch := omega) only [xle_t, xle_f, xlt_t, xlt_f, xeq_t, xeq_f, xle0_t, xle0_f, xlt0_f, x0lt_t, x0lt_f, x0le_t, xeq0_t, xeq0_f, xin, xem_f, xme_f, xlem_f, xlm_f, xml_t, xmle_t, nI_clamp, nI_add, pk_mul, pk_sub, zI_s, zI_k, zI_o, zL_s, zL_k, zL_o, zR_s, zR_k, zR_o, zIL, zIR, zIN, zLI, zLR, zLN, zRI, zRL, zRN, true_and, and_true, not_true_eq_false, not_false_eq_true, true_implies, false_implies, implies_true, forall_const, if_true, if_false, eq_self, false_and, and_false, implies_true, nI_l, ylle_t, ylle_f, xcl_t, xcl_f, hz, e75]
      exact kq
    | succ m ih =>
      intro i s hi hs kq
      have kq' : Q (some (.inl (if va i = true then (if nI s = y then nI i else fKth va y (fun _ => -(nI 1)) m (i + 1) (s + 1)) else fKth va y (fun _ => -(nI 1)) m (i + 1) s))) h2 := kq
      have hb := hbit i (by omega)
      refine u_X11_vain_30 r2 (by omega) ?_
      by_cases v : va i = true
      · rw [if_pos v] at kq'
        have hb2 : h2.1 125 i = nI 1 := by rw [hb]; unfold bI; rw [if_pos v]
        by_cases q : nI s = y
        · rw [if_pos q] at kq'
          simp (disch := omega) only [xle_t, xle_f, xlt_t, xlt_f, xeq_t, xeq_f, xle0_t, xle0_f, xlt0_f, x0lt_t, x0lt_f, x0le_t, xeq0_t, xeq0_f, xin, xem_f, xme_f, xlem_f, xlm_f, xml_t, xmle_t, nI_clamp, nI_add, pk_mul, pk_sub, zI_s, zI_k, zI_o, zL_s, zL_k, zL_o, zR_s, zR_k, zR_o, zIL, zIR, zIN, zLI, zLR, zLN, zRI, zRL, zRN, true_and, and_true, not_true_eq_false, not_false_eq_true, true_implies, false_implies, implies_true, forall_const, if_true, if_false, eq_self, false_and, and_false, implies_true, nI_l, ylle_t, ylle_f, xcl_t, xcl_f, hz, e75, hb2, q]
          exact kq'
        · rw [if_neg q] at kq'
          simp (disch := omega) only [xle_t, xle_f, xlt_t, xlt_f, xeq_t, xeq_f, xle0_t, xle0_f, xlt0_f, x0lt_t, x0lt_f, x0le_t, xeq0_t, xeq0_f, xin, xem_f, xme_f, xlem_f, xlm_f, xml_t, xmle_t, nI_clamp, nI_add, pk_mul, pk_sub, zI_s, zI_k, zI_o, zL_s, zL_k, zL_o, zR_s, zR_k, zR_o, zIL, zIR, zIN, zLI, zLR, zLN, zRI, zRL, zRN, true_and, and_true, not_true_eq_false, not_false_eq_true, true_implies, false_implies, implies_true, forall_const, if_true, if_false, eq_self, false_and, and_false, implies_true, nI_l, ylle_t, ylle_f, xcl_t, xcl_f, hz, e75, hb2, q]
          exact ih (i + 1) (s + 1) (by omega) (by omega) kq'
      · rw [if_neg v] at kq'
        have hb2 : h2.1 125 i = nI 0 := by rw [hb]; unfold bI; rw [if_neg v]
        simp (disch := omega) only [xle_t, xle_f, xlt_t, xlt_f, xeq_t, xeq_f, xle0_t, xle0_f, xlt0_f, x0lt_t, x0lt_f, x0le_t, xeq0_t, xeq0_f, xin, xem_f, xme_f, xlem_f, xlm_f, xml_t, xmle_t, nI_clamp, nI_add, pk_mul, pk_sub, zI_s, zI_k, zI_o, zL_s, zL_k, zL_o, zR_s, zR_k, zR_o, zIL, zIR, zIN, zLI, zLR, zLN, zRI, zRL, zRN, true_and, and_true, not_true_eq_false, not_false_eq_true, true_implies, false_implies, implies_true, forall_const, if_true, if_false, eq_self, false_and, and_false, implies_true, nI_l, ylle_t, ylle_f, xcl_t, xcl_f, hz, e75, hb2]
        exact ih (i + 1) s (by omega) (by omega) kq'
  exact L na 0 0 (by omega) (by omega) kk1
