/-! ===== run, bell, ends, rest, flames, idle, vain ===== -/
def fWx (C : CE) (f : Nat → Nat) (R : RS) : Nat := zsum (fun c => C.2.2.2.1 c * (f c - R.1.2.2.1 c) / f c) C.1
theorem fWx_b {C : CE} {f : Nat → Nat} {R : RS} (hC : cOK C) {n : Nat} (hn : n ≤ C.1) : zsum (fun c => C.2.2.2.1 c * (f c - R.1.2.2.1 c) / f c) n ≤ n * 999 := zsum_le (fun k hk => by
  have h1 := (hC.2 k (by omega)).2.2.1.2
  show C.2.2.2.1 k * (f k - R.1.2.2.1 k) / f k ≤ 999
  by_cases h0 : f k = 0
  · rw [h0, Nat.div_zero]; omega
  · refine Nat.le_trans ((Nat.div_le_iff_le_mul_add_pred (by omega)).mpr ?_) h1
    have h2 : C.2.2.2.1 k * (f k - R.1.2.2.1 k) ≤ C.2.2.2.1 k * f k := Nat.mul_le_mul_left _ (Nat.sub_le _ _)
    rw [Nat.mul_comm (f k)]
    omega)
noncomputable def fRunW (C : CE) (P : PL) (w : Nat) : Int32 :=
  if w = 0 then nI (rTo C P).2.1.length else if w = 1 then nI ((rTo C P).2.2.2.2.2 / 256) else if w = 2 then nI (fb_ct (rTo C P).2.2.1 40) else if w = 3 then nI (rTo C P).2.2.2.2.1 else nI (fWx C (fT C) (rTo C P))
noncomputable def gRun (B : BK) (x y : Int32) : Int32 := match zix x 4 with
  | none => -(nI 2)
  | some p => match zix y 5 with
    | none => -(nI 2)
    | some w => fRunW B.1 (B.2 p) w
theorem rTo_o {B : BK} (hB : bOK B) {p : Nat} (hp : p < 4) : rOut (B.2 p) B.1.1 (fT B.1) (rTo B.1 (B.2 p)) := rPlay_o (hB.2 p hp) (fT_ok hB.1)
theorem c_wxr {C : CE} {f : Nat → Nat} {R : RS} {h : MH} {d : Nat} {Q : Option MV → MH → Prop} (hr : zRf h) (hA : cAt C h 16) (hC : cOK C) (hF : fOK C.1 f) (hR : kR C.1 f R h) (hy : rY f R) (kk : Q (some (.inl (nI (fWx C f R)))) h) : Con mX10_waxOfRun d 0 0 [.inr (.inr 1)] h Q := by
  have h8 := hC.1
  refine u_X10_waxOfRun ?_
  have L : ∀ m c, c + m = C.1 → ∀ u, J mX10_waxOfRun d 0 0 Q 0 0 4 [some (.inr (.inr 1)), some (.inl (nI (zsum (fun c => C.2.2.2.1 c * (f c - R.1.2.2.1 c) / f c) c))), some (.inl (nI c)), u, none] [] h := by
    intro m
    induction m with
    | zero =>
      intro c hc u
      obtain rfl : c = C.1 := by omega
      refine u_X10_waxOfRun_4 hr ?_
      simp (disch := omega) only [xle_t, xle_f, xlt_t, xlt_f, xeq_t, xeq_f, xle0_t, xle0_f, xlt0_f, x0lt_t, x0lt_f, x0le_t, xeq0_t, xeq0_f, xin, xem_f, xme_f, xlem_f, xlm_f, xml_t, xmle_t, nI_clamp, nI_add, pk_mul, pk_sub, zI_s, zI_k, zI_o, zL_s, zL_k, zL_o, zR_s, zR_k, zR_o, zIL, zIR, zIN, zLI, zLR, zLN, zRI, zRL, zRN, true_and, and_true, not_true_eq_false, not_false_eq_true, true_implies, false_implies, implies_true, forall_const, if_true, if_false, eq_self, false_and, and_false, implies_true, nI_l, ylle_t, ylle_f, xcl_t, xcl_f, hA.1]
      exact kk
    | succ m ih =>
      intro c hc u
      have hf := hF.le (c := c) (by omega)
      have hf0 := (hF.2.1 c (by omega)).2
      have how := hy.2.2 c
      have hw := (hC.2 c (by omega)).2.2.1.2
      have a1 : h.1 19 c = nI (C.2.2.2.1 c) := (hA.2 c (by omega)).2.2.1
      have a2 := hR.2 c (by omega)
      have a3 := (hR.1.1.2 c (by omega)).2.2.1
      have hm : C.2.2.2.1 c * (f c - R.1.2.2.1 c) ≤ 999 * 400000000 := Nat.mul_le_mul hw (by omega)
      have cm : (lg_cmp (lN (f c)) (lN 0) ≤ 0) = False := by
        rw [propext (lg_cmp_le _ _), ylle_f (by omega) (by omega)]
      have ne0 : ¬ lN (f c) = 0 := by
        intro z
        have z2 : lN (f c) = lN 0 := z
        rw [pk_lEQ (by omega) (by omega)] at z2
        omega
      have hb := fWx_b (f := f) (R := R) hC (n := c) (by omega)
      refine u_X10_waxOfRun_4 hr ?_
      simp (disch := omega) only [xle_t, xle_f, xlt_t, xlt_f, xeq_t, xeq_f, xle0_t, xle0_f, xlt0_f, x0lt_t, x0lt_f, x0le_t, xeq0_t, xeq0_f, xin, xem_f, xme_f, xlem_f, xlm_f, xml_t, xmle_t, nI_clamp, nI_add, pk_mul, pk_sub, zI_s, zI_k, zI_o, zL_s, zL_k, zL_o, zR_s, zR_k, zR_o, zIL, zIR, zIN, zLI, zLR, zLN, zRI, zRL, zRN, true_and, and_true, not_true_eq_false, not_false_eq_true, true_implies, false_implies, implies_true, forall_const, if_true, if_false, eq_self, false_and, and_false, implies_true, nI_l, ylle_t, ylle_f, xcl_t, xcl_f, hA.1, a1, a2, a3, cm, ne0, lN_sub, lN_mul, pk_lDiv, lN_i]
      exact ih (c + 1) (by omega) _
  exact L C.1 0 (by omega) none
theorem n_wxr {C : CE} {f : Nat → Nat} {R : RS} {n : Nat} {h : MH} {d : Nat} {Q : Option MV → MH → Prop} (hr : zRf h) (hA : cIn C (h.1 112) 0) (hC : cOK C) (hF : fOK C.1 f) (hf : mFi f h) (hS : mS n R h) (hy : rY f R) (kk : Q (some (.inl (nI (fWx C f R)))) h) : Con mX11_waxBurnt d 0 0 [.inr (.inr 111)] h Q := by
  have h8 := hC.1
  refine u_X11_waxBurnt ?_
  have L : ∀ m c, c + m = C.1 → J mX11_waxBurnt d 0 0 Q 0 0 4 [some (.inr (.inr 111)), some (.inl (nI (zsum (fun c => C.2.2.2.1 c * (f c - R.1.2.2.1 c) / f c) c))), some (.inl (nI c))] [] h := by
    intro m
    induction m with
    | zero =>
      intro c hc
      obtain rfl : c = C.1 := by omega
      refine u_X11_waxBurnt_4 hr ?_
      simp (disch := omega) only [xle_t, xle_f, xlt_t, xlt_f, xeq_t, xeq_f, xle0_t, xle0_f, xlt0_f, x0lt_t, x0lt_f, x0le_t, xeq0_t, xeq0_f, xin, xem_f, xme_f, xlem_f, xlm_f, xml_t, xmle_t, nI_clamp, nI_add, pk_mul, pk_sub, zI_s, zI_k, zI_o, zL_s, zL_k, zL_o, zR_s, zR_k, zR_o, zIL, zIR, zIN, zLI, zLR, zLN, zRI, zRL, zRN, true_and, and_true, not_true_eq_false, not_false_eq_true, true_implies, false_implies, implies_true, forall_const, if_true, if_false, eq_self, false_and, and_false, implies_true, nI_l, ylle_t, ylle_f, xcl_t, xcl_f, hA.1]
      exact kk
    | succ m ih =>
      intro c hc
      have hfl := hF.le (c := c) (by omega)
      have hf0 := (hF.2.1 c (by omega)).2
      have how := hy.2.2 c
      have hw := (hC.2 c (by omega)).2.2.1.2
      have a1 : h.1 112 (57 + c) = nI (C.2.2.2.1 c) := by
        have := (hA.2.2 c (by omega)).2.2.1
        rw [Nat.zero_add] at this
        exact this
      have a2 := hf c (by omega)
      have a3 := (hS.1 c (by omega)).2.2.1
      have hm : C.2.2.2.1 c * (f c - R.1.2.2.1 c) ≤ 999 * 400000000 := Nat.mul_le_mul hw (by omega)
      have ne0 : ¬ lN (f c) = 0 := by
        intro z
        have z2 : lN (f c) = lN 0 := z
        rw [pk_lEQ (by omega) (by omega)] at z2
        omega
      refine u_X11_waxBurnt_4 hr ?_
      simp (disch := omega) only [xle_t, xle_f, xlt_t, xlt_f, xeq_t, xeq_f, xle0_t, xle0_f, xlt0_f, x0lt_t, x0lt_f, x0le_t, xeq0_t, xeq0_f, xin, xem_f, xme_f, xlem_f, xlm_f, xml_t, xmle_t, nI_clamp, nI_add, pk_mul, pk_sub, zI_s, zI_k, zI_o, zL_s, zL_k, zL_o, zR_s, zR_k, zR_o, zIL, zIR, zIN, zLI, zLR, zLN, zRI, zRL, zRN, true_and, and_true, not_true_eq_false, not_false_eq_true, true_implies, false_implies, implies_true, forall_const, if_true, if_false, eq_self, false_and, and_false, implies_true, nI_l, ylle_t, ylle_f, xcl_t, xcl_f, hA.1, a1, a2, a3, ne0, lN_sub, lN_mul, pk_lDiv, lN_i]
      exact ih (c + 1) (by omega)
  exact L C.1 0 (by omega)
/-- what the class may change where it plays -/
def cF (h h' : MH) : Prop := zF (fun a => a < 48 ∨ 57 < a) h h'
theorem zF.c {h h' : MH} (f : zF (fun a => a < 48 ∨ 56 < a) h h') : cF h h' := f.weak (fun a q => by omega)
theorem va_40 {P : PL} {n : Nat} {f : Nat → Nat} {R : RS} (hP : pOK P) (h : rOut P n f R) : ∀ k, 40 ≤ k → R.2.2.1 k = false := fun k hk => h.2.2.1 k (by have := hP.2.1; omega)
theorem fb_ct_tail {p : Nat → Bool} {m : Nat} (h : ∀ k, m ≤ k → p k = false) : ∀ n, fb_ct p (m + n) = fb_ct p m
  | 0 => rfl
  | n + 1 => by
    rw [show m + (n + 1) = (m + n) + 1 by omega, fb_ct_succ, h _ (by omega), fb_ct_tail h n]; rfl
theorem o_run {B : BK} {h : MH} {d : Nat} {x y : Int32} {Q : Option MV → MH → Prop} (hr : zRf h) (hA : bAt B h 15) (hB : bOK B) (hd : 6 ≤ d) (kk : ∀ h', zRf h' → cF h h' → Q (some (.inl (gRun B x y))) h') : Con mX10_run d 0 0 [.inr (.inr 1), .inl x, .inl y] h Q := by
  refine u_X10_run (d1' := 5) hr (by omega) (by omega) ?_
  rcases ix3 x (n := 4) (by omega) with ⟨z, x1, _⟩ | ⟨z, x1, x2, _⟩ | ⟨p, hp, rfl, z⟩
  · have e : gRun B x y = -(nI 2) := by unfold gRun; rw [z]
    rw [e] at kk
    simp (disch := omega) only [xle_t, xle_f, xlt_t, xlt_f, xeq_t, xeq_f, xle0_t, xle0_f, xlt0_f, x0lt_t, x0lt_f, x0le_t, xeq0_t, xeq0_f, xin, xem_f, xme_f, xlem_f, xlm_f, xml_t, xmle_t, nI_clamp, nI_add, pk_mul, pk_sub, zI_s, zI_k, zI_o, zL_s, zL_k, zL_o, zR_s, zR_k, zR_o, zIL, zIR, zIN, zLI, zLR, zLN, zRI, zRL, zRN, true_and, and_true, not_true_eq_false, not_false_eq_true, true_implies, false_implies, implies_true, forall_const, if_true, if_false, eq_self, false_and, and_false, implies_true, nI_l, ylle_t, ylle_f, xcl_t, xcl_f, x1]
    exact kk h hr zF.rfl
  · have e : gRun B x y = -(nI 2) := by unfold gRun; rw [z]
    rw [e] at kk
    simp (disch := omega) only [xle_t, xle_f, xlt_t, xlt_f, xeq_t, xeq_f, xle0_t, xle0_f, xlt0_f, x0lt_t, x0lt_f, x0le_t, xeq0_t, xeq0_f, xin, xem_f, xme_f, xlem_f, xlm_f, xml_t, xmle_t, nI_clamp, nI_add, pk_mul, pk_sub, zI_s, zI_k, zI_o, zL_s, zL_k, zL_o, zR_s, zR_k, zR_o, zIL, zIR, zIN, zLI, zLR, zLN, zRI, zRL, zRN, true_and, and_true, not_true_eq_false, not_false_eq_true, true_implies, false_implies, implies_true, forall_const, if_true, if_false, eq_self, false_and, and_false, implies_true, nI_l, ylle_t, ylle_f, xcl_t, xcl_f, x1, x2]
    exact kk h hr zF.rfl
  rcases ix3 y (n := 5) (by omega) with ⟨zy, x1, _⟩ | ⟨zy, x1, _, _, _, _, x2, _⟩ | ⟨w, hw, rfl, zy⟩
  · have e : gRun B (nI p) y = -(nI 2) := by unfold gRun; simp only [z, zy]
    rw [e] at kk
    simp (disch := omega) only [xle_t, xle_f, xlt_t, xlt_f, xeq_t, xeq_f, xle0_t, xle0_f, xlt0_f, x0lt_t, x0lt_f, x0le_t, xeq0_t, xeq0_f, xin, xem_f, xme_f, xlem_f, xlm_f, xml_t, xmle_t, nI_clamp, nI_add, pk_mul, pk_sub, zI_s, zI_k, zI_o, zL_s, zL_k, zL_o, zR_s, zR_k, zR_o, zIL, zIR, zIN, zLI, zLR, zLN, zRI, zRL, zRN, true_and, and_true, not_true_eq_false, not_false_eq_true, true_implies, false_implies, implies_true, forall_const, if_true, if_false, eq_self, false_and, and_false, implies_true, nI_l, ylle_t, ylle_f, xcl_t, xcl_f, x1]
    exact kk h hr zF.rfl
  · have e : gRun B (nI p) y = -(nI 2) := by unfold gRun; simp only [z, zy]
    rw [e] at kk
    simp (disch := omega) only [xle_t, xle_f, xlt_t, xlt_f, xeq_t, xeq_f, xle0_t, xle0_f, xlt0_f, x0lt_t, x0lt_f, x0le_t, xeq0_t, xeq0_f, xin, xem_f, xme_f, xlem_f, xlm_f, xml_t, xmle_t, nI_clamp, nI_add, pk_mul, pk_sub, zI_s, zI_k, zI_o, zL_s, zL_k, zL_o, zR_s, zR_k, zR_o, zIL, zIR, zIN, zLI, zLR, zLN, zRI, zRL, zRN, true_and, and_true, not_true_eq_false, not_false_eq_true, true_implies, false_implies, implies_true, forall_const, if_true, if_false, eq_self, false_and, and_false, implies_true, nI_l, ylle_t, ylle_f, xcl_t, xcl_f, x1, x2 4 rfl]
    exact kk h hr zF.rfl
  have e : gRun B (nI p) (nI w) = fRunW B.1 (B.2 p) w := by unfold gRun; simp only [z, zy]
  rw [e] at kk
  simp (disch := omega) only [xle_t, xle_f, xlt_t, xlt_f, xeq_t, xeq_f, xle0_t, xle0_f, xlt0_f, x0lt_t, x0lt_f, x0le_t, xeq0_t, xeq0_f, xin, xem_f, xme_f, xlem_f, xlm_f, xml_t, xmle_t, nI_clamp, nI_add, pk_mul, pk_sub, zI_s, zI_k, zI_o, zL_s, zL_k, zL_o, zR_s, zR_k, zR_o, zIL, zIR, zIN, zLI, zLR, zLN, zRI, zRL, zRN, true_and, and_true, not_true_eq_false, not_false_eq_true, true_implies, false_implies, implies_true, forall_const, if_true, if_false, eq_self, false_and, and_false, implies_true, nI_l, ylle_t, ylle_f, xcl_t, xcl_f]
  refine c_pat hr hA hB hp (by omega) (fun h1 r1 f1 s1 => ?_)
  have kk1 := kk h1 r1 f1.c
  have ho := rTo_o hB hp
  obtain ⟨o1, o2, o3, o4, o5, o6⟩ := ho
  refine u_X10_run_24 ?_
  have h5 : w = 0 ∨ w = 1 ∨ w = 2 ∨ w = 3 ∨ w = 4 := by omega
  rcases h5 with q | q | q | q | q
  · subst q
    refine s_tableIn dX10_run_25 (by decide) (by decide) (off := 31) rfl (tgt := 56) rfl (u_X10_run_56 r1 ?_)
    rw [s1.1.2.1]
    exact kk1
  · subst q
    refine s_tableIn dX10_run_25 (by decide) (by decide) (off := 39) rfl (tgt := 64) rfl (u_X10_run_64 r1 ?_)
    simp (disch := omega) only [xle_t, xle_f, xlt_t, xlt_f, xeq_t, xeq_f, xle0_t, xle0_f, xlt0_f, x0lt_t, x0lt_f, x0le_t, xeq0_t, xeq0_f, xin, xem_f, xme_f, xlem_f, xlm_f, xml_t, xmle_t, nI_clamp, nI_add, pk_mul, pk_sub, zI_s, zI_k, zI_o, zL_s, zL_k, zL_o, zR_s, zR_k, zR_o, zIL, zIR, zIN, zLI, zLR, zLN, zRI, zRL, zRN, true_and, and_true, not_true_eq_false, not_false_eq_true, true_implies, false_implies, implies_true, forall_const, if_true, if_false, eq_self, false_and, and_false, implies_true, nI_l, ylle_t, ylle_f, xcl_t, xcl_f, s1.1.2.2.2.2.2.2, pk_div]
    exact kk1
  · subst q
    refine s_tableIn dX10_run_25 (by decide) (by decide) (off := 51) rfl (tgt := 76) rfl (u_X10_run_76 (d1' := 0) r1 (by omega) ?_)
    refine c_bitL _ (u_X10_run_86 ?_)
    have e2 : fb_ct (fun i => (h1.2.1 48 10).toBitVec.getLsbD i) 64 = fb_ct (rTo B.1 (B.2 p)).2.2.1 40 := by
      rw [fb_ct_cong (fun k hk => s1.1.2.2.2.1 k hk)]
      have h40 := (hB.2 p hp).2.1
      exact fb_ct_tail (m := 40) (fun k hk => o3 k (by omega)) 24
    rw [e2]
    exact kk1
  · subst q
    refine s_tableIn dX10_run_25 (by decide) (by decide) (off := 62) rfl (tgt := 87) rfl (u_X10_run_87 r1 ?_)
    rw [s1.1.2.2.2.2.2.1]
    exact kk1
  · subst q
    refine s_tableOut dX10_run_25 (Or.inr (by decide)) (tgt := 95) rfl (u_X10_run_95 (d1' := 0) r1 (by omega) ?_)
    refine c_wxr r1 ?_ hB.1 (fT_ok hB.1) s1 o5 (u_X10_run_99 ?_)
    · exact hA.1.keep (fun k hk => f1.i (by omega))
    · exact kk1
theorem n_run {B : BK} {h : MH} {d : Nat} {x y : Int32} {Q : Option MV → MH → Prop} (hr : zRf h) (hA : bIn B (h.1 112) 0) (hB : bOK B) (h28 : h.1 111 28 = -(nI 1)) (hd : 5 ≤ d) (kk : ∀ h', zRf h' → mK h h' → Q (some (.inl (gRun B x y))) h') : Con mX11_run d 0 0 [.inr (.inr 111), .inl x, .inl y] h Q := by
  refine u_X11_run (d1' := 2) hr (by omega) (by omega) ?_
  rcases ix3 x (n := 4) (by omega) with ⟨z, _, x1⟩ | ⟨z, _, _, x1, _, x2, _⟩ | ⟨p, hp, rfl, z⟩
  · have e : gRun B x y = -(nI 2) := by unfold gRun; rw [z]
    rw [e] at kk
    simp (disch := omega) only [xle_t, xle_f, xlt_t, xlt_f, xeq_t, xeq_f, xle0_t, xle0_f, xlt0_f, x0lt_t, x0lt_f, x0le_t, xeq0_t, xeq0_f, xin, xem_f, xme_f, xlem_f, xlm_f, xml_t, xmle_t, nI_clamp, nI_add, pk_mul, pk_sub, zI_s, zI_k, zI_o, zL_s, zL_k, zL_o, zR_s, zR_k, zR_o, zIL, zIR, zIN, zLI, zLR, zLN, zRI, zRL, zRN, true_and, and_true, not_true_eq_false, not_false_eq_true, true_implies, false_implies, implies_true, forall_const, if_true, if_false, eq_self, false_and, and_false, implies_true, nI_l, ylle_t, ylle_f, xcl_t, xcl_f, x1]
    exact kk _ hr (mK_0 h)
  · have e : gRun B x y = -(nI 2) := by unfold gRun; rw [z]
    rw [e] at kk
    simp (disch := omega) only [xle_t, xle_f, xlt_t, xlt_f, xeq_t, xeq_f, xle0_t, xle0_f, xlt0_f, x0lt_t, x0lt_f, x0le_t, xeq0_t, xeq0_f, xin, xem_f, xme_f, xlem_f, xlm_f, xml_t, xmle_t, nI_clamp, nI_add, pk_mul, pk_sub, zI_s, zI_k, zI_o, zL_s, zL_k, zL_o, zR_s, zR_k, zR_o, zIL, zIR, zIN, zLI, zLR, zLN, zRI, zRL, zRN, true_and, and_true, not_true_eq_false, not_false_eq_true, true_implies, false_implies, implies_true, forall_const, if_true, if_false, eq_self, false_and, and_false, implies_true, nI_l, ylle_t, ylle_f, xcl_t, xcl_f, x1, y_3, x2 3 rfl]
    exact kk _ hr (mK_0 h)
  rcases ix3 y (n := 5) (by omega) with ⟨zy, _, x1⟩ | ⟨zy, _, _, x1, _, x2, _⟩ | ⟨w, hw, rfl, zy⟩
  · have e : gRun B (nI p) y = -(nI 2) := by unfold gRun; simp only [z, zy]
    rw [e] at kk
    simp (disch := omega) only [xle_t, xle_f, xlt_t, xlt_f, xeq_t, xeq_f, xle0_t, xle0_f, xlt0_f, x0lt_t, x0lt_f, x0le_t, xeq0_t, xeq0_f, xin, xem_f, xme_f, xlem_f, xlm_f, xml_t, xmle_t, nI_clamp, nI_add, pk_mul, pk_sub, zI_s, zI_k, zI_o, zL_s, zL_k, zL_o, zR_s, zR_k, zR_o, zIL, zIR, zIN, zLI, zLR, zLN, zRI, zRL, zRN, true_and, and_true, not_true_eq_false, not_false_eq_true, true_implies, false_implies, implies_true, forall_const, if_true, if_false, eq_self, false_and, and_false, implies_true, nI_l, ylle_t, ylle_f, xcl_t, xcl_f, x1, y_3]
    exact kk _ hr (mK_0 h)
  · have e : gRun B (nI p) y = -(nI 2) := by unfold gRun; simp only [z, zy]
    rw [e] at kk
    simp (disch := omega) only [xle_t, xle_f, xlt_t, xlt_f, xeq_t, xeq_f, xle0_t, xle0_f, xlt0_f, x0lt_t, x0lt_f, x0le_t, xeq0_t, xeq0_f, xin, xem_f, xme_f, xlem_f, xlm_f, xml_t, xmle_t, nI_clamp, nI_add, pk_mul, pk_sub, zI_s, zI_k, zI_o, zL_s, zL_k, zL_o, zR_s, zR_k, zR_o, zIL, zIR, zIN, zLI, zLR, zLN, zRI, zRL, zRN, true_and, and_true, not_true_eq_false, not_false_eq_true, true_implies, false_implies, implies_true, forall_const, if_true, if_false, eq_self, false_and, and_false, implies_true, nI_l, ylle_t, ylle_f, xcl_t, xcl_f, x1, y_3, y_4, x2 4 rfl]
    exact kk _ hr (mK_0 h)
  have e : gRun B (nI p) (nI w) = fRunW B.1 (B.2 p) w := by unfold gRun; simp only [z, zy]
  rw [e] at kk
  simp (disch := omega) only [xle_t, xle_f, xlt_t, xlt_f, xeq_t, xeq_f, xle0_t, xle0_f, xlt0_f, x0lt_t, x0lt_f, x0le_t, xeq0_t, xeq0_f, xin, xem_f, xme_f, xlem_f, xlm_f, xml_t, xmle_t, nI_clamp, nI_add, pk_mul, pk_sub, zI_s, zI_k, zI_o, zL_s, zL_k, zL_o, zR_s, zR_k, zR_o, zIL, zIR, zIN, zLI, zLR, zLN, zRI, zRL, zRN, true_and, and_true, not_true_eq_false, not_false_eq_true, true_implies, false_implies, implies_true, forall_const, if_true, if_false, eq_self, false_and, and_false, implies_true, nI_l, ylle_t, ylle_f, xcl_t, xcl_f, y_3, y_4]
  have hA0 : bIn B ((zsI h 111 0 (nI 0)).1 112) 0 := hA
  refine n_ast hr hA0.1 hB.1 (by omega) (fun h1 r1 f1 m1 => ?_)
  have hA1 : bIn B (h1.1 112) 0 := by rw [f1.i (by omega)]; exact hA0
  have k1 := (mK_0 h).trans (mK_116 f1)
  refine u_X11_run_31 (d1' := 4) r1 (by omega) ?_
  refine n_runs (lo := 40) r1 hp (fT_ok hB.1) m1 (mP.of hA1 hp (k1.2.2.2.2.trans h28)) (hB.2 p hp) (Or.inl ⟨rfl, rfl⟩) (by omega) (fun h2 r2 f2 s2 => ?_)
  have kk1 := kk h2 r2 (k1.trans f2.k)
  have ho := rTo_o hB hp
  obtain ⟨o1, o2, o3, o4, o5, o6⟩ := ho
  have s2' : mS B.1.1 (rTo B.1 (B.2 p)) h2 := s2
  have t := s2'.2
  refine u_X11_run_37 (d1' := 0) r2 (by omega) ?_
  have h5 : w = 0 ∨ w = 1 ∨ w = 2 ∨ w = 3 ∨ w = 4 := by omega
  rcases h5 with q | q | q | q | q
  · subst q
    simp (disch := omega) only [xle_t, xle_f, xlt_t, xlt_f, xeq_t, xeq_f, xle0_t, xle0_f, xlt0_f, x0lt_t, x0lt_f, x0le_t, xeq0_t, xeq0_f, xin, xem_f, xme_f, xlem_f, xlm_f, xml_t, xmle_t, nI_clamp, nI_add, pk_mul, pk_sub, zI_s, zI_k, zI_o, zL_s, zL_k, zL_o, zR_s, zR_k, zR_o, zIL, zIR, zIN, zLI, zLR, zLN, zRI, zRL, zRN, true_and, and_true, not_true_eq_false, not_false_eq_true, true_implies, false_implies, implies_true, forall_const, if_true, if_false, eq_self, false_and, and_false, implies_true, nI_l, ylle_t, ylle_f, xcl_t, xcl_f, t.1]
    exact kk1
  · subst q
    simp (disch := omega) only [xle_t, xle_f, xlt_t, xlt_f, xeq_t, xeq_f, xle0_t, xle0_f, xlt0_f, x0lt_t, x0lt_f, x0le_t, xeq0_t, xeq0_f, xin, xem_f, xme_f, xlem_f, xlm_f, xml_t, xmle_t, nI_clamp, nI_add, pk_mul, pk_sub, zI_s, zI_k, zI_o, zL_s, zL_k, zL_o, zR_s, zR_k, zR_o, zIL, zIR, zIN, zLI, zLR, zLN, zRI, zRL, zRN, true_and, and_true, not_true_eq_false, not_false_eq_true, true_implies, false_implies, implies_true, forall_const, if_true, if_false, eq_self, false_and, and_false, implies_true, nI_l, ylle_t, ylle_f, xcl_t, xcl_f, t.2.2.2.2.2.2, pk_div]
    exact kk1
  · subst q
    simp (disch := omega) only [xle_t, xle_f, xlt_t, xlt_f, xeq_t, xeq_f, xle0_t, xle0_f, xlt0_f, x0lt_t, x0lt_f, x0le_t, xeq0_t, xeq0_f, xin, xem_f, xme_f, xlem_f, xlm_f, xml_t, xmle_t, nI_clamp, nI_add, pk_mul, pk_sub, zI_s, zI_k, zI_o, zL_s, zL_k, zL_o, zR_s, zR_k, zR_o, zIL, zIR, zIN, zLI, zLR, zLN, zRI, zRL, zRN, true_and, and_true, not_true_eq_false, not_false_eq_true, true_implies, false_implies, implies_true, forall_const, if_true, if_false, eq_self, false_and, and_false, implies_true, nI_l, ylle_t, ylle_f, xcl_t, xcl_f, t.2.2.1]
    exact kk1
  · subst q
    simp (disch := omega) only [xle_t, xle_f, xlt_t, xlt_f, xeq_t, xeq_f, xle0_t, xle0_f, xlt0_f, x0lt_t, x0lt_f, x0le_t, xeq0_t, xeq0_f, xin, xem_f, xme_f, xlem_f, xlm_f, xml_t, xmle_t, nI_clamp, nI_add, pk_mul, pk_sub, zI_s, zI_k, zI_o, zL_s, zL_k, zL_o, zR_s, zR_k, zR_o, zIL, zIR, zIN, zLI, zLR, zLN, zRI, zRL, zRN, true_and, and_true, not_true_eq_false, not_false_eq_true, true_implies, false_implies, implies_true, forall_const, if_true, if_false, eq_self, false_and, and_false, implies_true, nI_l, ylle_t, ylle_f, xcl_t, xcl_f, t.2.2.2.2.2.1]
    exact kk1
  · subst q
    simp (disch := omega) only [xle_t, xle_f, xlt_t, xlt_f, xeq_t, xeq_f, xle0_t, xle0_f, xlt0_f, x0lt_t, x0lt_f, x0le_t, xeq0_t, xeq0_f, xin, xem_f, xme_f, xlem_f, xlm_f, xml_t, xmle_t, nI_clamp, nI_add, pk_mul, pk_sub, zI_s, zI_k, zI_o, zL_s, zL_k, zL_o, zR_s, zR_k, zR_o, zIL, zIR, zIN, zLI, zLR, zLN, zRI, zRL, zRN, true_and, and_true, not_true_eq_false, not_false_eq_true, true_implies, false_implies, implies_true, forall_const, if_true, if_false, eq_self, false_and, and_false, implies_true, nI_l, ylle_t, ylle_f, xcl_t, xcl_f]
    have hA2 : bIn B (h2.1 112) 0 := by rw [f2.1.i (by omega)]; exact hA1
    refine n_wxr r2 hA2.1 hB.1 (fT_ok hB.1) (fun c hc => ?_) s2' o5 (u_X11_run_92 ?_)
    · rw [f2.1.i (by omega)]; exact m1 c hc
    · exact kk1
