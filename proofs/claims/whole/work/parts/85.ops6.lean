/-! ===== chime, spare ===== -/
def fC1 (e : Nat → Bool) : Nat → Nat → Nat → Nat
  | 0, _, a => a
  | m + 1, j, a => fC1 e m (j + 1) (a + if e j = true then 1 else 0)
def fC2 (e : Nat → Nat → Bool) (nb : Nat) : Nat → Nat → Nat → Nat
  | 0, _, a => a
  | m + 1, i, a => fC2 e nb m (i + 1) (fC1 (e i) nb 0 a)
theorem fC1_le (e : Nat → Bool) : ∀ m j a, fC1 e m j a ≤ a + m
  | 0, _, a => Nat.le_refl _
  | m + 1, j, a => by
    have := fC1_le e m (j + 1) (a + if e j = true then 1 else 0)
    have h2 : (if e j = true then 1 else 0) ≤ 1 := by split <;> omega
    show fC1 e m (j + 1) (a + if e j = true then 1 else 0) ≤ a + (m + 1)
    omega
noncomputable def fChi (a b : List Nat) : Nat := fC2 (fun i j => decide (a.getD i 0 = b.getD j 0)) b.length a.length 0 0
noncomputable def gChime (B : BK) (x y : Int32) : Int32 := gP x (fun p => gP y (fun q => nI (fChi (rTo B.1 (B.2 p)).2.1 (rTo B.1 (B.2 q)).2.1)))
/-- kept bells -/
def kKb (l : List Nat) (h : MH) : Prop := ∀ k, k < l.length → h.1 57 k = nI (l.getD k 0)
theorem c_keepb {R : RS} {h : MH} {d : Nat} {Q : Option MV → MH → Prop} (hr : zRf h) (hT : kT R.2 h) (h40 : R.2.1.length ≤ 40) (hd : 1 ≤ d) (kk : ∀ h', zRf h' → zF (fun a => a ≠ 57) h h' → kKb R.2.1 h' → Q (some (.inl (nI R.2.1.length))) h') : Con mX10_keepBells d 0 0 [.inr (.inr 1)] h Q := by
  refine u_X10_keepBells hr hd ?_
  rw [zC_o _ _ _ _ _ (by omega), hT.1]
  refine kk _ (zRf_C hr _ _ _ _ _) (zF_C _ _ _ _ _ (by omega)) (fun k hk => ?_)
  rw [zC_s _ _ _ _ (by omega)]
  exact hT.2.1 k hk
theorem o_chime {B : BK} {h : MH} {d : Nat} {x y : Int32} {Q : Option MV → MH → Prop} (hr : zRf h) (hA : bAt B h 15) (hB : bOK B) (hd : 6 ≤ d) (kk : ∀ h', zRf h' → cF h h' → Q (some (.inl (gChime B x y))) h') : Con mX10_chime d 0 0 [.inr (.inr 1), .inl x, .inl y] h Q := by
  unfold gChime at kk
  refine u_X10_chime (d1' := 5) hr (by omega) (by omega) ?_
  rcases ix3 x (n := 4) (by omega) with ⟨z, x1, _⟩ | ⟨z, x1, x2, _⟩ | ⟨p, hp, rfl, z⟩
  · rw [gP_none z] at kk
    simp (disch := omega) only [xle_t, xle_f, xlt_t, xlt_f, xeq_t, xeq_f, xle0_t, xle0_f, xlt0_f, x0lt_t, x0lt_f, x0le_t, xeq0_t, xeq0_f, xin, xem_f, xme_f, xlem_f, xlm_f, xml_t, xmle_t, nI_clamp, nI_add, pk_mul, pk_sub, zI_s, zI_k, zI_o, zL_s, zL_k, zL_o, zR_s, zR_k, zR_o, zIL, zIR, zIN, zLI, zLR, zLN, zRI, zRL, zRN, true_and, and_true, not_true_eq_false, not_false_eq_true, true_implies, false_implies, implies_true, forall_const, if_true, if_false, eq_self, false_and, and_false, implies_true, nI_l, ylle_t, ylle_f, xcl_t, xcl_f, x1]
    exact kk h hr zF.rfl
  · rw [gP_none z] at kk
    simp (disch := omega) only [xle_t, xle_f, xlt_t, xlt_f, xeq_t, xeq_f, xle0_t, xle0_f, xlt0_f, x0lt_t, x0lt_f, x0le_t, xeq0_t, xeq0_f, xin, xem_f, xme_f, xlem_f, xlm_f, xml_t, xmle_t, nI_clamp, nI_add, pk_mul, pk_sub, zI_s, zI_k, zI_o, zL_s, zL_k, zL_o, zR_s, zR_k, zR_o, zIL, zIR, zIN, zLI, zLR, zLN, zRI, zRL, zRN, true_and, and_true, not_true_eq_false, not_false_eq_true, true_implies, false_implies, implies_true, forall_const, if_true, if_false, eq_self, false_and, and_false, implies_true, nI_l, ylle_t, ylle_f, xcl_t, xcl_f, x1, x2]
    exact kk h hr zF.rfl
  rw [gP_some hp] at kk
  rcases ix3 y (n := 4) (by omega) with ⟨z, x1, _⟩ | ⟨z, x1, x2, _⟩ | ⟨q, hq, rfl, z⟩
  · rw [gP_none z] at kk
    simp (disch := omega) only [xle_t, xle_f, xlt_t, xlt_f, xeq_t, xeq_f, xle0_t, xle0_f, xlt0_f, x0lt_t, x0lt_f, x0le_t, xeq0_t, xeq0_f, xin, xem_f, xme_f, xlem_f, xlm_f, xml_t, xmle_t, nI_clamp, nI_add, pk_mul, pk_sub, zI_s, zI_k, zI_o, zL_s, zL_k, zL_o, zR_s, zR_k, zR_o, zIL, zIR, zIN, zLI, zLR, zLN, zRI, zRL, zRN, true_and, and_true, not_true_eq_false, not_false_eq_true, true_implies, false_implies, implies_true, forall_const, if_true, if_false, eq_self, false_and, and_false, implies_true, nI_l, ylle_t, ylle_f, xcl_t, xcl_f, x1]
    exact kk h hr zF.rfl
  · rw [gP_none z] at kk
    simp (disch := omega) only [xle_t, xle_f, xlt_t, xlt_f, xeq_t, xeq_f, xle0_t, xle0_f, xlt0_f, x0lt_t, x0lt_f, x0le_t, xeq0_t, xeq0_f, xin, xem_f, xme_f, xlem_f, xlm_f, xml_t, xmle_t, nI_clamp, nI_add, pk_mul, pk_sub, zI_s, zI_k, zI_o, zL_s, zL_k, zL_o, zR_s, zR_k, zR_o, zIL, zIR, zIN, zLI, zLR, zLN, zRI, zRL, zRN, true_and, and_true, not_true_eq_false, not_false_eq_true, true_implies, false_implies, implies_true, forall_const, if_true, if_false, eq_self, false_and, and_false, implies_true, nI_l, ylle_t, ylle_f, xcl_t, xcl_f, x1, x2]
    exact kk h hr zF.rfl
  rw [gP_some hq] at kk
  simp (disch := omega) only [xle_t, xle_f, xlt_t, xlt_f, xeq_t, xeq_f, xle0_t, xle0_f, xlt0_f, x0lt_t, x0lt_f, x0le_t, xeq0_t, xeq0_f, xin, xem_f, xme_f, xlem_f, xlm_f, xml_t, xmle_t, nI_clamp, nI_add, pk_mul, pk_sub, zI_s, zI_k, zI_o, zL_s, zL_k, zL_o, zR_s, zR_k, zR_o, zIL, zIR, zIN, zLI, zLR, zLN, zRI, zRL, zRN, true_and, and_true, not_true_eq_false, not_false_eq_true, true_implies, false_implies, implies_true, forall_const, if_true, if_false, eq_self, false_and, and_false, implies_true, nI_l, ylle_t, ylle_f, xcl_t, xcl_f]
  have hop := rTo_o hB hp
  have hoq := rTo_o hB hq
  refine c_pat hr hA hB hp (by omega) (fun h1 r1 f1 s1 => ?_)
  refine u_X10_chime_22 (d1' := 1) r1 (by omega) ?_
  refine c_keepb r1 s1.1.2 hop.1 (by omega) (fun h2 r2 f2 b2 => ?_)
  refine u_X10_chime_26 (d1' := 5) r2 (by omega) ?_
  have hA2 : bAt B h2 15 := (hA.keepF (f1.weak (fun a q => by omega))).keepF (f2.weak (fun a q => by omega))
  refine c_pat r2 hA2 hB hq (by omega) (fun h3 r3 f3 s3 => ?_)
  have kk1 := kk h3 r3 ((f1.c.trans (f2.weak (fun a q => by omega))).trans f3.c)
  have b3 : kKb (rTo B.1 (B.2 p)).2.1 h3 := fun k hk => by rw [f3.i (by omega)]; exact b2 k hk
  have t3 := s3.1.2
  have ha : ∀ j, j < (rTo B.1 (B.2 p)).2.1.length → (rTo B.1 (B.2 p)).2.1.getD j 0 ≤ 400000000 := fun j hj => hop.be hj
  have hb : ∀ j, j < (rTo B.1 (B.2 q)).2.1.length → (rTo B.1 (B.2 q)).2.1.getD j 0 ≤ 400000000 := fun j hj => hoq.be hj
  have na := hop.1
  have nb := hoq.1
  unfold fChi at kk1
  generalize (rTo B.1 (B.2 p)).2.1 = la at kk1 b3 ha na
  obtain ⟨t31, t32, _⟩ := t3
  generalize (rTo B.1 (B.2 q)).2.1 = lb at kk1 t31 t32 hb nb
  refine u_X10_chime_32 ?_
  have L : ∀ m i a, i + m = la.length → a ≤ i * 40 → Q (some (.inl (nI (fC2 (fun i j => decide (la.getD i 0 = lb.getD j 0)) lb.length m i a)))) h3 → ∀ u, J mX10_chime d 0 0 Q 0 0 38 [some (.inr (.inr 1)), some (.inl (nI p)), some (.inl (nI q)), some (.inl (nI la.length)), some (.inl (nI a)), some (.inl (nI i)), u] [] h3 := by
    intro m
    induction m with
    | zero =>
      intro i a hi hle kq u
      refine u_X10_chime_38 ?_
      simp (disch := omega) only [xle_t, xle_f, xlt_t, xlt_f, xeq_t, xeq_f, xle0_t, xle0_f, xlt0_f, x0lt_t, x0lt_f, x0le_t, xeq0_t, xeq0_f, xin, xem_f, xme_f, xlem_f, xlm_f, xml_t, xmle_t, nI_clamp, nI_add, pk_mul, pk_sub, zI_s, zI_k, zI_o, zL_s, zL_k, zL_o, zR_s, zR_k, zR_o, zIL, zIR, zIN, zLI, zLR, zLN, zRI, zRL, zRN, true_and, and_true, not_true_eq_false, not_false_eq_true, true_implies, false_implies, implies_true, forall_const, if_true, if_false, eq_self, false_and, and_false, implies_true, nI_l, ylle_t, ylle_f, xcl_t, xcl_f]
      exact kq
    | succ m ih =>
      intro i a hi hle kq u
      have kq' : Q (some (.inl (nI (fC2 (fun i j => decide (la.getD i 0 = lb.getD j 0)) lb.length m (i + 1) (fC1 (fun j => decide (la.getD i 0 = lb.getD j 0)) lb.length 0 a))))) h3 := kq
      refine u_X10_chime_38 ?_
      simp (disch := omega) only [xle_t, xle_f, xlt_t, xlt_f, xeq_t, xeq_f, xle0_t, xle0_f, xlt0_f, x0lt_t, x0lt_f, x0le_t, xeq0_t, xeq0_f, xin, xem_f, xme_f, xlem_f, xlm_f, xml_t, xmle_t, nI_clamp, nI_add, pk_mul, pk_sub, zI_s, zI_k, zI_o, zL_s, zL_k, zL_o, zR_s, zR_k, zR_o, zIL, zIR, zIN, zLI, zLR, zLN, zRI, zRL, zRN, true_and, and_true, not_true_eq_false, not_false_eq_true, true_implies, false_implies, implies_true, forall_const, if_true, if_false, eq_self, false_and, and_false, implies_true, nI_l, ylle_t, ylle_f, xcl_t, xcl_f]
      have e57 := b3 i (by omega)
      have hai := ha i (by omega)
      have M : ∀ m' j a', j + m' = lb.length → a' ≤ a + j → fC1 (fun j => decide (la.getD i 0 = lb.getD j 0)) m' j a' = fC1 (fun j => decide (la.getD i 0 = lb.getD j 0)) lb.length 0 a → J mX10_chime d 0 0 Q 0 0 47 [some (.inr (.inr 1)), some (.inl (nI p)), some (.inl (nI q)), some (.inl (nI la.length)), some (.inl (nI a')), some (.inl (nI i)), some (.inl (nI j))] [] h3 := by
        intro m'
        induction m' with
        | zero =>
          intro j a' hj ha' e
          have e' : a' = fC1 (fun j => decide (la.getD i 0 = lb.getD j 0)) lb.length 0 a := e
          refine u_X10_chime_47 r3 ?_
          simp (disch := omega) only [xle_t, xle_f, xlt_t, xlt_f, xeq_t, xeq_f, xle0_t, xle0_f, xlt0_f, x0lt_t, x0lt_f, x0le_t, xeq0_t, xeq0_f, xin, xem_f, xme_f, xlem_f, xlm_f, xml_t, xmle_t, nI_clamp, nI_add, pk_mul, pk_sub, zI_s, zI_k, zI_o, zL_s, zL_k, zL_o, zR_s, zR_k, zR_o, zIL, zIR, zIN, zLI, zLR, zLN, zRI, zRL, zRN, true_and, and_true, not_true_eq_false, not_false_eq_true, true_implies, false_implies, implies_true, forall_const, if_true, if_false, eq_self, false_and, and_false, implies_true, nI_l, ylle_t, ylle_f, xcl_t, xcl_f, t31]
          refine ih (i + 1) a' (by omega) (by omega) ?_ _
          rw [e']; exact kq'
        | succ m' ihM =>
          intro j a' hj ha' e
          have e' : fC1 (fun j => decide (la.getD i 0 = lb.getD j 0)) m' (j + 1) (a' + if decide (la.getD i 0 = lb.getD j 0) = true then 1 else 0) = fC1 (fun j => decide (la.getD i 0 = lb.getD j 0)) lb.length 0 a := e
          have e56 := t32 j (by omega)
          have hbj := hb j (by omega)
          refine u_X10_chime_47 r3 ?_
          by_cases z : la.getD i 0 = lb.getD j 0
          · rw [if_pos (decide_eq_true z)] at e'
            simp (disch := omega) only [xle_t, xle_f, xlt_t, xlt_f, xeq_t, xeq_f, xle0_t, xle0_f, xlt0_f, x0lt_t, x0lt_f, x0le_t, xeq0_t, xeq0_f, xin, xem_f, xme_f, xlem_f, xlm_f, xml_t, xmle_t, nI_clamp, nI_add, pk_mul, pk_sub, zI_s, zI_k, zI_o, zL_s, zL_k, zL_o, zR_s, zR_k, zR_o, zIL, zIR, zIN, zLI, zLR, zLN, zRI, zRL, zRN, true_and, and_true, not_true_eq_false, not_false_eq_true, true_implies, false_implies, implies_true, forall_const, if_true, if_false, eq_self, false_and, and_false, implies_true, nI_l, ylle_t, ylle_f, xcl_t, xcl_f, t31, e57, e56]
            exact ihM (j + 1) (a' + 1) (by omega) (by omega) e'
          · rw [if_neg (by rw [decide_eq_false z]; decide)] at e'
            simp (disch := omega) only [xle_t, xle_f, xlt_t, xlt_f, xeq_t, xeq_f, xle0_t, xle0_f, xlt0_f, x0lt_t, x0lt_f, x0le_t, xeq0_t, xeq0_f, xin, xem_f, xme_f, xlem_f, xlm_f, xml_t, xmle_t, nI_clamp, nI_add, pk_mul, pk_sub, zI_s, zI_k, zI_o, zL_s, zL_k, zL_o, zR_s, zR_k, zR_o, zIL, zIR, zIN, zLI, zLR, zLN, zRI, zRL, zRN, true_and, and_true, not_true_eq_false, not_false_eq_true, true_implies, false_implies, implies_true, forall_const, if_true, if_false, eq_self, false_and, and_false, implies_true, nI_l, ylle_t, ylle_f, xcl_t, xcl_f, t31, e57, e56]
            exact ihM (j + 1) a' (by omega) (by omega) e'
      exact M lb.length 0 a (by omega) (by omega) rfl
  exact L la.length 0 0 (by omega) (by omega) kk1 none
theorem n_chime {B : BK} {h : MH} {d : Nat} {x y : Int32} {Q : Option MV → MH → Prop} (hr : zRf h) (hA : bIn B (h.1 112) 0) (hB : bOK B) (h28 : h.1 111 28 = -(nI 1)) (hd : 6 ≤ d) (kk : ∀ h', zRf h' → mK h h' → Q (some (.inl (gChime B x y))) h') : Con mX11_chime d 0 0 [.inr (.inr 111), .inl x, .inl y] h Q := by
  unfold gChime at kk
  have hA0 : bIn B ((zsI h 111 0 (nI 0)).1 112) 0 := hA
  refine u_X11_chime (d1' := 5) hr (by omega) (by omega) ?_
  rcases ix3 x (n := 4) (by omega) with ⟨z, _, x1⟩ | ⟨z, _, _, x1, _, x2, _⟩ | ⟨p, hp, rfl, z⟩
  · rw [gP_none z] at kk
    simp (disch := omega) only [xle_t, xle_f, xlt_t, xlt_f, xeq_t, xeq_f, xle0_t, xle0_f, xlt0_f, x0lt_t, x0lt_f, x0le_t, xeq0_t, xeq0_f, xin, xem_f, xme_f, xlem_f, xlm_f, xml_t, xmle_t, nI_clamp, nI_add, pk_mul, pk_sub, zI_s, zI_k, zI_o, zL_s, zL_k, zL_o, zR_s, zR_k, zR_o, zIL, zIR, zIN, zLI, zLR, zLN, zRI, zRL, zRN, true_and, and_true, not_true_eq_false, not_false_eq_true, true_implies, false_implies, implies_true, forall_const, if_true, if_false, eq_self, false_and, and_false, implies_true, nI_l, ylle_t, ylle_f, xcl_t, xcl_f, x1, y_3]
    exact kk _ hr (mK_0 h)
  · rw [gP_none z] at kk
    simp (disch := omega) only [xle_t, xle_f, xlt_t, xlt_f, xeq_t, xeq_f, xle0_t, xle0_f, xlt0_f, x0lt_t, x0lt_f, x0le_t, xeq0_t, xeq0_f, xin, xem_f, xme_f, xlem_f, xlm_f, xml_t, xmle_t, nI_clamp, nI_add, pk_mul, pk_sub, zI_s, zI_k, zI_o, zL_s, zL_k, zL_o, zR_s, zR_k, zR_o, zIL, zIR, zIN, zLI, zLR, zLN, zRI, zRL, zRN, true_and, and_true, not_true_eq_false, not_false_eq_true, true_implies, false_implies, implies_true, forall_const, if_true, if_false, eq_self, false_and, and_false, implies_true, nI_l, ylle_t, ylle_f, xcl_t, xcl_f, x1, y_3, x2 3 rfl]
    exact kk _ hr (mK_0 h)
  rw [gP_some hp] at kk
  rcases ix3 y (n := 4) (by omega) with ⟨z, _, x1⟩ | ⟨z, _, _, x1, _, x2, _⟩ | ⟨q, hq, rfl, z⟩
  · rw [gP_none z] at kk
    simp (disch := omega) only [xle_t, xle_f, xlt_t, xlt_f, xeq_t, xeq_f, xle0_t, xle0_f, xlt0_f, x0lt_t, x0lt_f, x0le_t, xeq0_t, xeq0_f, xin, xem_f, xme_f, xlem_f, xlm_f, xml_t, xmle_t, nI_clamp, nI_add, pk_mul, pk_sub, zI_s, zI_k, zI_o, zL_s, zL_k, zL_o, zR_s, zR_k, zR_o, zIL, zIR, zIN, zLI, zLR, zLN, zRI, zRL, zRN, true_and, and_true, not_true_eq_false, not_false_eq_true, true_implies, false_implies, implies_true, forall_const, if_true, if_false, eq_self, false_and, and_false, implies_true, nI_l, ylle_t, ylle_f, xcl_t, xcl_f, x1, y_3]
    exact kk _ hr (mK_0 h)
  · rw [gP_none z] at kk
    simp (disch := omega) only [xle_t, xle_f, xlt_t, xlt_f, xeq_t, xeq_f, xle0_t, xle0_f, xlt0_f, x0lt_t, x0lt_f, x0le_t, xeq0_t, xeq0_f, xin, xem_f, xme_f, xlem_f, xlm_f, xml_t, xmle_t, nI_clamp, nI_add, pk_mul, pk_sub, zI_s, zI_k, zI_o, zL_s, zL_k, zL_o, zR_s, zR_k, zR_o, zIL, zIR, zIN, zLI, zLR, zLN, zRI, zRL, zRN, true_and, and_true, not_true_eq_false, not_false_eq_true, true_implies, false_implies, implies_true, forall_const, if_true, if_false, eq_self, false_and, and_false, implies_true, nI_l, ylle_t, ylle_f, xcl_t, xcl_f, x1, y_3, x2 3 rfl]
    exact kk _ hr (mK_0 h)
  rw [gP_some hq] at kk
  simp (disch := omega) only [xle_t, xle_f, xlt_t, xlt_f, xeq_t, xeq_f, xle0_t, xle0_f, xlt0_f, x0lt_t, x0lt_f, x0le_t, xeq0_t, xeq0_f, xin, xem_f, xme_f, xlem_f, xlm_f, xml_t, xmle_t, nI_clamp, nI_add, pk_mul, pk_sub, zI_s, zI_k, zI_o, zL_s, zL_k, zL_o, zR_s, zR_k, zR_o, zIL, zIR, zIN, zLI, zLR, zLN, zRI, zRL, zRN, true_and, and_true, not_true_eq_false, not_false_eq_true, true_implies, false_implies, implies_true, forall_const, if_true, if_false, eq_self, false_and, and_false, implies_true, nI_l, ylle_t, ylle_f, xcl_t, xcl_f, y_3]
  have hop := rTo_o hB hp
  have hoq := rTo_o hB hq
  have k0 := mK_0 h
  refine n_hears hr hA0 hB (k0.2.2.2.2.trans h28) hp (by omega) (fun h1 r1 k1 s1 he1 _ => ?_)
  have k01 := k0.trans k1
  have hA1 : bIn B (h1.1 112) 0 := by rw [k1.1.i (by omega)]; exact hA0
  refine u_X11_chime_27 (d1' := 2) r1 (by omega) ?_
  refine n_ast r1 hA1.1 hB.1 (by omega) (fun h2 r2 f2 m2 => ?_)
  have hA2 : bIn B (h2.1 112) 0 := by rw [f2.i (by omega)]; exact hA1
  have k02 := k01.trans (mK_116 f2)
  refine u_X11_chime_31 (d1' := 4) r2 (by omega) ?_
  refine n_runs (lo := 40) r2 hq (fT_ok hB.1) m2 (mP.of hA2 hq (k02.2.2.2.2.trans h28)) (hB.2 q hq) (Or.inl ⟨rfl, rfl⟩) (by omega) (fun h3 r3 f3 s3 => ?_)
  have kk1 := kk h3 r3 (k02.trans f3.k)
  have s3' : mS B.1.1 (rTo B.1 (B.2 q)) h3 := s3
  have he3 : mHe (rTo B.1 (B.2 p)).2.1 h3 := by
    refine ⟨?_, fun k hk => ?_⟩
    · rw [f3.2 32 (by omega), f2.i (by omega)]; exact he1.1
    · rw [f3.1.i (by omega), f2.i (by omega)]; exact he1.2 k hk
  have ha : ∀ j, j < (rTo B.1 (B.2 p)).2.1.length → (rTo B.1 (B.2 p)).2.1.getD j 0 ≤ 400000000 ∧ 256 ∣ (rTo B.1 (B.2 p)).2.1.getD j 0 := fun j hj => ⟨hop.be hj, rTo_d hB hp _ (getD_mem hj)⟩
  have hb : ∀ j, j < (rTo B.1 (B.2 q)).2.1.length → (rTo B.1 (B.2 q)).2.1.getD j 0 ≤ 400000000 ∧ 256 ∣ (rTo B.1 (B.2 q)).2.1.getD j 0 := fun j hj => ⟨hoq.be hj, rTo_d hB hq _ (getD_mem hj)⟩
  have na := hop.1
  have nb := hoq.1
  obtain ⟨t31, t32, _⟩ := s3'.2
  obtain ⟨he1, he2⟩ := he3
  unfold fChi at kk1
  generalize (rTo B.1 (B.2 p)).2.1 = la at kk1 he1 he2 ha na
  generalize (rTo B.1 (B.2 q)).2.1 = lb at kk1 t31 t32 hb nb
  refine u_X11_chime_37 ?_
  have L : ∀ m i a, i + m = la.length → a ≤ i * 40 → Q (some (.inl (nI (fC2 (fun i j => decide (la.getD i 0 = lb.getD j 0)) lb.length m i a)))) h3 → ∀ u, J mX11_chime d 0 0 Q 0 0 42 [some (.inr (.inr 111)), some (.inl (nI p)), some (.inl (nI q)), some (.inl (nI a)), some (.inl (nI i)), u] [] h3 := by
    intro m
    induction m with
    | zero =>
      intro i a hi hle kq u
      refine u_X11_chime_42 r3 ?_
      simp (disch := omega) only [xle_t, xle_f, xlt_t, xlt_f, xeq_t, xeq_f, xle0_t, xle0_f, xlt0_f, x0lt_t, x0lt_f, x0le_t, xeq0_t, xeq0_f, xin, xem_f, xme_f, xlem_f, xlm_f, xml_t, xmle_t, nI_clamp, nI_add, pk_mul, pk_sub, zI_s, zI_k, zI_o, zL_s, zL_k, zL_o, zR_s, zR_k, zR_o, zIL, zIR, zIN, zLI, zLR, zLN, zRI, zRL, zRN, true_and, and_true, not_true_eq_false, not_false_eq_true, true_implies, false_implies, implies_true, forall_const, if_true, if_false, eq_self, false_and, and_false, implies_true, nI_l, ylle_t, ylle_f, xcl_t, xcl_f, he1]
      exact kq
    | succ m ih =>
      intro i a hi hle kq u
      have kq' : Q (some (.inl (nI (fC2 (fun i j => decide (la.getD i 0 = lb.getD j 0)) lb.length m (i + 1) (fC1 (fun j => decide (la.getD i 0 = lb.getD j 0)) lb.length 0 a))))) h3 := kq
      refine u_X11_chime_42 r3 ?_
      simp (disch := omega) only [xle_t, xle_f, xlt_t, xlt_f, xeq_t, xeq_f, xle0_t, xle0_f, xlt0_f, x0lt_t, x0lt_f, x0le_t, xeq0_t, xeq0_f, xin, xem_f, xme_f, xlem_f, xlm_f, xml_t, xmle_t, nI_clamp, nI_add, pk_mul, pk_sub, zI_s, zI_k, zI_o, zL_s, zL_k, zL_o, zR_s, zR_k, zR_o, zIL, zIR, zIN, zLI, zLR, zLN, zRI, zRL, zRN, true_and, and_true, not_true_eq_false, not_false_eq_true, true_implies, false_implies, implies_true, forall_const, if_true, if_false, eq_self, false_and, and_false, implies_true, nI_l, ylle_t, ylle_f, xcl_t, xcl_f, he1]
      have e57 := he2 i (by omega)
      obtain ⟨hai, hai2⟩ := ha i (by omega)
      have M : ∀ m' j a', j + m' = lb.length → a' ≤ a + j → fC1 (fun j => decide (la.getD i 0 = lb.getD j 0)) m' j a' = fC1 (fun j => decide (la.getD i 0 = lb.getD j 0)) lb.length 0 a → J mX11_chime d 0 0 Q 0 0 54 [some (.inr (.inr 111)), some (.inl (nI p)), some (.inl (nI q)), some (.inl (nI a')), some (.inl (nI i)), some (.inl (nI j))] [] h3 := by
        intro m'
        induction m' with
        | zero =>
          intro j a' hj ha' e
          have e' : a' = fC1 (fun j => decide (la.getD i 0 = lb.getD j 0)) lb.length 0 a := e
          refine u_X11_chime_54 r3 ?_
          simp (disch := omega) only [xle_t, xle_f, xlt_t, xlt_f, xeq_t, xeq_f, xle0_t, xle0_f, xlt0_f, x0lt_t, x0lt_f, x0le_t, xeq0_t, xeq0_f, xin, xem_f, xme_f, xlem_f, xlm_f, xml_t, xmle_t, nI_clamp, nI_add, pk_mul, pk_sub, zI_s, zI_k, zI_o, zL_s, zL_k, zL_o, zR_s, zR_k, zR_o, zIL, zIR, zIN, zLI, zLR, zLN, zRI, zRL, zRN, true_and, and_true, not_true_eq_false, not_false_eq_true, true_implies, false_implies, implies_true, forall_const, if_true, if_false, eq_self, false_and, and_false, implies_true, nI_l, ylle_t, ylle_f, xcl_t, xcl_f, t31]
          refine ih (i + 1) a' (by omega) (by omega) ?_ _
          rw [e']; exact kq'
        | succ m' ihM =>
          intro j a' hj ha' e
          have e' : fC1 (fun j => decide (la.getD i 0 = lb.getD j 0)) m' (j + 1) (a' + if decide (la.getD i 0 = lb.getD j 0) = true then 1 else 0) = fC1 (fun j => decide (la.getD i 0 = lb.getD j 0)) lb.length 0 a := e
          have e56 := t32 j (by omega)
          obtain ⟨hbj, hbj2⟩ := hb j (by omega)
          refine u_X11_chime_54 r3 ?_
          by_cases z : la.getD i 0 = lb.getD j 0
          · rw [if_pos (decide_eq_true z)] at e'
            simp (disch := omega) only [xle_t, xle_f, xlt_t, xlt_f, xeq_t, xeq_f, xle0_t, xle0_f, xlt0_f, x0lt_t, x0lt_f, x0le_t, xeq0_t, xeq0_f, xin, xem_f, xme_f, xlem_f, xlm_f, xml_t, xmle_t, nI_clamp, nI_add, pk_mul, pk_sub, zI_s, zI_k, zI_o, zL_s, zL_k, zL_o, zR_s, zR_k, zR_o, zIL, zIR, zIN, zLI, zLR, zLN, zRI, zRL, zRN, true_and, and_true, not_true_eq_false, not_false_eq_true, true_implies, false_implies, implies_true, forall_const, if_true, if_false, eq_self, false_and, and_false, implies_true, nI_l, ylle_t, ylle_f, xcl_t, xcl_f, t31, e57, e56, pk_div]
            exact ihM (j + 1) (a' + 1) (by omega) (by omega) e'
          · rw [if_neg (by rw [decide_eq_false z]; decide)] at e'
            have z2 : la.getD i 0 / 256 ≠ lb.getD j 0 / 256 := by omega
            simp (disch := omega) only [xle_t, xle_f, xlt_t, xlt_f, xeq_t, xeq_f, xle0_t, xle0_f, xlt0_f, x0lt_t, x0lt_f, x0le_t, xeq0_t, xeq0_f, xin, xem_f, xme_f, xlem_f, xlm_f, xml_t, xmle_t, nI_clamp, nI_add, pk_mul, pk_sub, zI_s, zI_k, zI_o, zL_s, zL_k, zL_o, zR_s, zR_k, zR_o, zIL, zIR, zIN, zLI, zLR, zLN, zRI, zRL, zRN, true_and, and_true, not_true_eq_false, not_false_eq_true, true_implies, false_implies, implies_true, forall_const, if_true, if_false, eq_self, false_and, and_false, implies_true, nI_l, ylle_t, ylle_f, xcl_t, xcl_f, t31, e57, e56, pk_div]
            exact ihM (j + 1) a' (by omega) (by omega) e'
      exact M lb.length 0 a (by omega) (by omega) rfl
  exact L la.length 0 0 (by omega) (by omega) kk1 none
/-! spare -/
theorem list_eq {a b : List Nat} (h : a.length = b.length) (h2 : ∀ k, k < a.length → a.getD k 0 = b.getD k 0) : a = b := by
  refine List.ext_getElem h (fun k h1 h3 => ?_)
  have := h2 k h1
  rw [List.getD_eq_getElem?_getD, List.getD_eq_getElem?_getD, List.getElem?_eq_getElem h1, List.getElem?_eq_getElem h3] at this
  exact this
theorem c_rings {R : RS} {l : List Nat} {h : MH} {d : Nat} {Q : Option MV → MH → Prop} (hr : zRf h) (hT : kT R.2 h) (h40 : R.2.1.length ≤ 40) (l40 : l.length ≤ 40) (hb : ∀ j, j < R.2.1.length → R.2.1.getD j 0 ≤ 400000000) (hl : ∀ j, j < l.length → l.getD j 0 ≤ 400000000) (hk : kKb l h) (kk : Q (some (.inl (if R.2.1 = l then nI 1 else nI 0))) h) : Con mX10_ringsAsKept d 0 0 [.inr (.inr 1), .inl (nI l.length)] h Q := by
  obtain ⟨t1, t2, _⟩ := hT
  refine u_X10_ringsAsKept hr ?_
  by_cases q : R.2.1.length = l.length
  · simp (disch := omega) only [xle_t, xle_f, xlt_t, xlt_f, xeq_t, xeq_f, xle0_t, xle0_f, xlt0_f, x0lt_t, x0lt_f, x0le_t, xeq0_t, xeq0_f, xin, xem_f, xme_f, xlem_f, xlm_f, xml_t, xmle_t, nI_clamp, nI_add, pk_mul, pk_sub, zI_s, zI_k, zI_o, zL_s, zL_k, zL_o, zR_s, zR_k, zR_o, zIL, zIR, zIN, zLI, zLR, zLN, zRI, zRL, zRN, true_and, and_true, not_true_eq_false, not_false_eq_true, true_implies, false_implies, implies_true, forall_const, if_true, if_false, eq_self, false_and, and_false, implies_true, nI_l, ylle_t, ylle_f, xcl_t, xcl_f, t1]
    have L : ∀ m i, i + m = R.2.1.length → (∀ k, k < i → R.2.1.getD k 0 = l.getD k 0) → J mX10_ringsAsKept d 0 0 Q 0 0 15 [some (.inr (.inr 1)), some (.inl (nI l.length)), some (.inl (nI i))] [] h := by
      intro m
      induction m with
      | zero =>
        intro i hi hx
        refine u_X10_ringsAsKept_15 hr ?_
        simp (disch := omega) only [xle_t, xle_f, xlt_t, xlt_f, xeq_t, xeq_f, xle0_t, xle0_f, xlt0_f, x0lt_t, x0lt_f, x0le_t, xeq0_t, xeq0_f, xin, xem_f, xme_f, xlem_f, xlm_f, xml_t, xmle_t, nI_clamp, nI_add, pk_mul, pk_sub, zI_s, zI_k, zI_o, zL_s, zL_k, zL_o, zR_s, zR_k, zR_o, zIL, zIR, zIN, zLI, zLR, zLN, zRI, zRL, zRN, true_and, and_true, not_true_eq_false, not_false_eq_true, true_implies, false_implies, implies_true, forall_const, if_true, if_false, eq_self, false_and, and_false, implies_true, nI_l, ylle_t, ylle_f, xcl_t, xcl_f, t1]
        rw [if_pos (list_eq q (fun k hk => hx k (by omega)))] at kk
        exact kk
      | succ m ih =>
        intro i hi hx
        have e1 := t2 i (by omega)
        have e2 := hk i (by omega)
        have b1 := hb i (by omega)
        have b2 := hl i (by omega)
        refine u_X10_ringsAsKept_15 hr ?_
        by_cases z : R.2.1.getD i 0 = l.getD i 0
        · simp (disch := omega) only [xle_t, xle_f, xlt_t, xlt_f, xeq_t, xeq_f, xle0_t, xle0_f, xlt0_f, x0lt_t, x0lt_f, x0le_t, xeq0_t, xeq0_f, xin, xem_f, xme_f, xlem_f, xlm_f, xml_t, xmle_t, nI_clamp, nI_add, pk_mul, pk_sub, zI_s, zI_k, zI_o, zL_s, zL_k, zL_o, zR_s, zR_k, zR_o, zIL, zIR, zIN, zLI, zLR, zLN, zRI, zRL, zRN, true_and, and_true, not_true_eq_false, not_false_eq_true, true_implies, false_implies, implies_true, forall_const, if_true, if_false, eq_self, false_and, and_false, implies_true, nI_l, ylle_t, ylle_f, xcl_t, xcl_f, t1, e1, e2]
          refine ih (i + 1) (by omega) (fun k hk => ?_)
          by_cases y : k = i
          · rw [y]; exact z
          · exact hx k (by omega)
        · simp (disch := omega) only [xle_t, xle_f, xlt_t, xlt_f, xeq_t, xeq_f, xle0_t, xle0_f, xlt0_f, x0lt_t, x0lt_f, x0le_t, xeq0_t, xeq0_f, xin, xem_f, xme_f, xlem_f, xlm_f, xml_t, xmle_t, nI_clamp, nI_add, pk_mul, pk_sub, zI_s, zI_k, zI_o, zL_s, zL_k, zL_o, zR_s, zR_k, zR_o, zIL, zIR, zIN, zLI, zLR, zLN, zRI, zRL, zRN, true_and, and_true, not_true_eq_false, not_false_eq_true, true_implies, false_implies, implies_true, forall_const, if_true, if_false, eq_self, false_and, and_false, implies_true, nI_l, ylle_t, ylle_f, xcl_t, xcl_f, t1, e1, e2]
          rw [if_neg (fun w => z (by rw [w]))] at kk
          exact kk
    exact L R.2.1.length 0 (by omega) (fun k hk => absurd hk (Nat.not_lt_zero _))
  · simp (disch := omega) only [xle_t, xle_f, xlt_t, xlt_f, xeq_t, xeq_f, xle0_t, xle0_f, xlt0_f, x0lt_t, x0lt_f, x0le_t, xeq0_t, xeq0_f, xin, xem_f, xme_f, xlem_f, xlm_f, xml_t, xmle_t, nI_clamp, nI_add, pk_mul, pk_sub, zI_s, zI_k, zI_o, zL_s, zL_k, zL_o, zR_s, zR_k, zR_o, zIL, zIR, zIN, zLI, zLR, zLN, zRI, zRL, zRN, true_and, and_true, not_true_eq_false, not_false_eq_true, true_implies, false_implies, implies_true, forall_const, if_true, if_false, eq_self, false_and, and_false, implies_true, nI_l, ylle_t, ylle_f, xcl_t, xcl_f, t1]
    rw [if_neg (fun w => q (by rw [w]))] at kk
    exact kk
noncomputable def fSp (C : CE) (P : PL) (i : Nat) : Bool := decide ((rPlay P C.1 i 1024000000 (fT C)).2.1 = (rTo C P).2.1)
noncomputable def gSpare (B : BK) (x k : Int32) : Int32 := gP x (fun p => fKth (fSp B.1 (B.2 p)) k (fun _ => -(nI 1)) (B.2 p).2.1 0 0)
theorem o_spare {B : BK} {h : MH} {d : Nat} {x y : Int32} {Q : Option MV → MH → Prop} (hr : zRf h) (hA : bAt B h 15) (hB : bOK B) (hd : 6 ≤ d) (kk : ∀ h', zRf h' → cF h h' → Q (some (.inl (gSpare B x y))) h') : Con mX10_spare d 0 0 [.inr (.inr 1), .inl x, .inl y] h Q := by
  unfold gSpare at kk
  refine u_X10_spare (d1' := 5) hr (by omega) (by omega) ?_
  rcases ix3 x (n := 4) (by omega) with ⟨z, x1, _⟩ | ⟨z, x1, x2, _⟩ | ⟨p, hp, rfl, z⟩
  · rw [gP_none z] at kk
    simp (disch := omega) only [xle_t, xle_f, xlt_t, xlt_f, xeq_t, xeq_f, xle0_t, xle0_f, xlt0_f, x0lt_t, x0lt_f, x0le_t, xeq0_t, xeq0_f, xin, xem_f, xme_f, xlem_f, xlm_f, xml_t, xmle_t, nI_clamp, nI_add, pk_mul, pk_sub, zI_s, zI_k, zI_o, zL_s, zL_k, zL_o, zR_s, zR_k, zR_o, zIL, zIR, zIN, zLI, zLR, zLN, zRI, zRL, zRN, true_and, and_true, not_true_eq_false, not_false_eq_true, true_implies, false_implies, implies_true, forall_const, if_true, if_false, eq_self, false_and, and_false, implies_true, nI_l, ylle_t, ylle_f, xcl_t, xcl_f, x1]
    exact kk h hr zF.rfl
  · rw [gP_none z] at kk
    simp (disch := omega) only [xle_t, xle_f, xlt_t, xlt_f, xeq_t, xeq_f, xle0_t, xle0_f, xlt0_f, x0lt_t, x0lt_f, x0le_t, xeq0_t, xeq0_f, xin, xem_f, xme_f, xlem_f, xlm_f, xml_t, xmle_t, nI_clamp, nI_add, pk_mul, pk_sub, zI_s, zI_k, zI_o, zL_s, zL_k, zL_o, zR_s, zR_k, zR_o, zIL, zIR, zIN, zLI, zLR, zLN, zRI, zRL, zRN, true_and, and_true, not_true_eq_false, not_false_eq_true, true_implies, false_implies, implies_true, forall_const, if_true, if_false, eq_self, false_and, and_false, implies_true, nI_l, ylle_t, ylle_f, xcl_t, xcl_f, x1, x2]
    exact kk h hr zF.rfl
  rw [gP_some hp] at kk
  simp (disch := omega) only [xle_t, xle_f, xlt_t, xlt_f, xeq_t, xeq_f, xle0_t, xle0_f, xlt0_f, x0lt_t, x0lt_f, x0le_t, xeq0_t, xeq0_f, xin, xem_f, xme_f, xlem_f, xlm_f, xml_t, xmle_t, nI_clamp, nI_add, pk_mul, pk_sub, zI_s, zI_k, zI_o, zL_s, zL_k, zL_o, zR_s, zR_k, zR_o, zIL, zIR, zIN, zLI, zLR, zLN, zRI, zRL, zRN, true_and, and_true, not_true_eq_false, not_false_eq_true, true_implies, false_implies, implies_true, forall_const, if_true, if_false, eq_self, false_and, and_false, implies_true, nI_l, ylle_t, ylle_f, xcl_t, xcl_f]
  have hop := rTo_o hB hp
  have h40 := (hB.2 p hp).2.1
  refine c_pat hr hA hB hp (by omega) (fun h1 r1 f1 s1 => ?_)
  refine u_X10_spare_15 (d1' := 1) r1 (by omega) ?_
  refine c_keepb r1 s1.1.2 hop.1 (by omega) (fun h2 r2 f2 b2 => ?_)
  refine u_X10_spare_19 ?_
  have F2 : cF h h2 := f1.c.trans (f2.weak (fun a q => by omega))
  have L : ∀ m i s, i + m = (B.2 p).2.1 → s ≤ i → ∀ g : MH, zRf g → cF h g → kKb (rTo B.1 (B.2 p)).2.1 g → g.1 48 0 = nI B.1.1 → (∀ c, c < B.1.1 → g.1 49 c = nI (fT B.1 c)) → (∀ g', zRf g' → cF h g' → Q (some (.inl (fKth (fSp B.1 (B.2 p)) y (fun _ => -(nI 1)) m i s))) g') → J mX10_spare d 0 0 Q 0 0 26 [some (.inr (.inr 1)), some (.inl (nI p)), some (.inl y), some (.inl (nI (rTo B.1 (B.2 p)).2.1.length)), some (.inl (nI s)), some (.inl (nI i))] [] g := by
    intro m
    induction m with
    | zero =>
      intro i s hi hs g rg fg bg g0 g49 kq
      have hAg : bAt B g 15 := hA.keepF (fg.weak (fun a q => by omega))
      have e1 := (pAt.pl hAg hp).2.1
      refine u_X10_spare_26 (d1' := 0) rg (by omega) ?_
      simp (disch := omega) only [xle_t, xle_f, xlt_t, xlt_f, xeq_t, xeq_f, xle0_t, xle0_f, xlt0_f, x0lt_t, x0lt_f, x0le_t, xeq0_t, xeq0_f, xin, xem_f, xme_f, xlem_f, xlm_f, xml_t, xmle_t, nI_clamp, nI_add, pk_mul, pk_sub, zI_s, zI_k, zI_o, zL_s, zL_k, zL_o, zR_s, zR_k, zR_o, zIL, zIR, zIN, zLI, zLR, zLN, zRI, zRL, zRN, true_and, and_true, not_true_eq_false, not_false_eq_true, true_implies, false_implies, implies_true, forall_const, if_true, if_false, eq_self, false_and, and_false, implies_true, nI_l, ylle_t, ylle_f, xcl_t, xcl_f, e1]
      exact kq g rg fg
    | succ m ih =>
      intro i s hi hs g rg fg bg g0 g49 kq
      have kq' : ∀ g', zRf g' → cF h g' → Q (some (.inl (if fSp B.1 (B.2 p) i = true then (if nI s = y then nI i else fKth (fSp B.1 (B.2 p)) y (fun _ => -(nI 1)) m (i + 1) (s + 1)) else fKth (fSp B.1 (B.2 p)) y (fun _ => -(nI 1)) m (i + 1) s))) g' := kq
      have hAg : bAt B g 15 := hA.keepF (fg.weak (fun a q => by omega))
      have e1 := (pAt.pl hAg hp).2.1
      refine u_X10_spare_26 (d1' := 4) rg (by omega) ?_
      simp (disch := omega) only [xle_t, xle_f, xlt_t, xlt_f, xeq_t, xeq_f, xle0_t, xle0_f, xlt0_f, x0lt_t, x0lt_f, x0le_t, xeq0_t, xeq0_f, xin, xem_f, xme_f, xlem_f, xlm_f, xml_t, xmle_t, nI_clamp, nI_add, pk_mul, pk_sub, zI_s, zI_k, zI_o, zL_s, zL_k, zL_o, zR_s, zR_k, zR_o, zIL, zIR, zIN, zLI, zLR, zLN, zRI, zRL, zRN, true_and, and_true, not_true_eq_false, not_false_eq_true, true_implies, false_implies, implies_true, forall_const, if_true, if_false, eq_self, false_and, and_false, implies_true, nI_l, ylle_t, ylle_f, xcl_t, xcl_f, e1]
      have hlo : nI i = loI i := (if_pos (by omega)).symm
      have := c_playat (Q := (zrv fun h' => J mX10_spare d 0 0 Q 0 0 63 [some (.inr (.inr 1)), some (.inl (nI p)), some (.inl y), some (.inl (nI (rTo B.1 (B.2 p)).2.1.length)), some (.inl (nI s)), some (.inl (nI i))] [] h')) (d := 4) (lo := i) (u := 1024000000) rg hAg hB hp (fT_ok hB.1) g0 g49 (by omega) (by omega) (fun g2 r2 f2 s2 => ?_)
      · rw [← hlo] at this
        exact this
      · have ho2 := rPlay_o (lo := i) (u := 1024000000) (hB.2 p hp) (fT_ok hB.1)
        have bg2 : kKb (rTo B.1 (B.2 p)).2.1 g2 := fun k hk => by rw [f2.i (by omega)]; exact bg k hk
        refine u_X10_spare_63 (d1' := 0) r2 (by omega) ?_
        refine c_rings r2 s2.1.2 ho2.1 hop.1 (fun j hj => ho2.be hj) (fun j hj => hop.be hj) bg2 ?_
        refine u_X10_spare_68 ?_
        have fg2 : cF h g2 := fg.trans f2.c
        by_cases q : (rPlay (B.2 p) B.1.1 i 1024000000 (fT B.1)).2.1 = (rTo B.1 (B.2 p)).2.1
        · have q2 : fSp B.1 (B.2 p) i = true := decide_eq_true q
          rw [if_pos q2] at kq'
          rw [if_pos q]
          by_cases z : nI s = y
          · rw [if_pos z] at kq'
            simp (disch := omega) only [xle_t, xle_f, xlt_t, xlt_f, xeq_t, xeq_f, xle0_t, xle0_f, xlt0_f, x0lt_t, x0lt_f, x0le_t, xeq0_t, xeq0_f, xin, xem_f, xme_f, xlem_f, xlm_f, xml_t, xmle_t, nI_clamp, nI_add, pk_mul, pk_sub, zI_s, zI_k, zI_o, zL_s, zL_k, zL_o, zR_s, zR_k, zR_o, zIL, zIR, zIN, zLI, zLR, zLN, zRI, zRL, zRN, true_and, and_true, not_true_eq_false, not_false_eq_true, true_implies, false_implies, implies_true, forall_const, if_true, if_false, eq_self, false_and, and_false, implies_true, nI_l, ylle_t, ylle_f, xcl_t, xcl_f, z]
            exact kq' g2 r2 fg2
          · rw [if_neg z] at kq'
            simp (disch := omega) only [xle_t, xle_f, xlt_t, xlt_f, xeq_t, xeq_f, xle0_t, xle0_f, xlt0_f, x0lt_t, x0lt_f, x0le_t, xeq0_t, xeq0_f, xin, xem_f, xme_f, xlem_f, xlm_f, xml_t, xmle_t, nI_clamp, nI_add, pk_mul, pk_sub, zI_s, zI_k, zI_o, zL_s, zL_k, zL_o, zR_s, zR_k, zR_o, zIL, zIR, zIN, zLI, zLR, zLN, zRI, zRL, zRN, true_and, and_true, not_true_eq_false, not_false_eq_true, true_implies, false_implies, implies_true, forall_const, if_true, if_false, eq_self, false_and, and_false, implies_true, nI_l, ylle_t, ylle_f, xcl_t, xcl_f, z]
            exact ih (i + 1) (s + 1) (by omega) (by omega) g2 r2 fg2 bg2 s2.1.1.1 s2.2 kq'
        · have q2 : ¬ fSp B.1 (B.2 p) i = true := by
            intro w
            exact q (of_decide_eq_true w)
          rw [if_neg q2] at kq'
          rw [if_neg q]
          simp (disch := omega) only [xle_t, xle_f, xlt_t, xlt_f, xeq_t, xeq_f, xle0_t, xle0_f, xlt0_f, x0lt_t, x0lt_f, x0le_t, xeq0_t, xeq0_f, xin, xem_f, xme_f, xlem_f, xlm_f, xml_t, xmle_t, nI_clamp, nI_add, pk_mul, pk_sub, zI_s, zI_k, zI_o, zL_s, zL_k, zL_o, zR_s, zR_k, zR_o, zIL, zIR, zIN, zLI, zLR, zLN, zRI, zRL, zRN, true_and, and_true, not_true_eq_false, not_false_eq_true, true_implies, false_implies, implies_true, forall_const, if_true, if_false, eq_self, false_and, and_false, implies_true, nI_l, ylle_t, ylle_f, xcl_t, xcl_f]
          exact ih (i + 1) s (by omega) (by omega) g2 r2 fg2 bg2 s2.1.1.1 s2.2 kq'
  exact L (B.2 p).2.1 0 0 (by omega) (by omega) h2 r2 F2 b2 (by rw [f2.i (by omega)]; exact s1.1.1.1) (fun c hc => by rw [f2.i (by omega)]; exact s1.2 c hc) kk
theorem n_isp {B : BK} {h : MH} {d p i : Nat} {Q : Option MV → MH → Prop} (hr : zRf h) (hA : bIn B (h.1 112) 0) (hB : bOK B) (h28 : h.1 111 28 = -(nI 1)) (hp : p < 4) (hi : i < 40) (he : mHe (rTo B.1 (B.2 p)).2.1 h) (hd : 5 ≤ d) (kk : ∀ h', zRf h' → mK h h' → mHe (rTo B.1 (B.2 p)).2.1 h' → Q (some (.inl (bI (fSp B.1 (B.2 p) i)))) h') : Con mX11_isSpare d 0 0 [.inr (.inr 111), .inl (nI p), .inl (nI i)] h Q := by
  refine u_X11_isSpare (d1' := 2) hr (by omega) ?_
  have hA0 : bIn B ((zsI h 111 28 (nI i)).1 112) 0 := hA
  refine n_ast (h := zsI h 111 28 (nI i)) hr hA0.1 hB.1 (by omega) (fun h1 r1 f1 m1 => ?_)
  have hA1 : bIn B (h1.1 112) 0 := by rw [f1.i (by omega)]; exact hA0
  have e28 : h1.1 111 28 = loI i := by
    rw [f1.i (by omega), zI_s]
    exact (if_pos hi).symm
  refine u_X11_isSpare_9 (d1' := 4) r1 (by omega) ?_
  refine n_runs (lo := i) r1 hp (fT_ok hB.1) m1 (mP.of hA1 hp e28) (hB.2 p hp) (Or.inl ⟨rfl, rfl⟩) (by omega) (fun h2 r2 f2 s2 => ?_)
  have ho2 := rPlay_o (lo := i) (u := 1024000000) (hB.2 p hp) (fT_ok hB.1)
  have hop := rTo_o hB hp
  have F : zF (fun a => a ≤ 110 ∨ 142 < a ∨ a = 112 ∨ a = 113 ∨ a = 114 ∨ (140 ≤ a ∧ a ≤ 142)) h (zsI h2 111 28 (-(nI 1))) := (((zF_I _ _ _ (by omega)).trans (f1.weak (fun a q => by omega))).trans (f2.1.weak (fun a q => by omega))).trans (zF_I _ _ _ (by omega))
  have k3 : mK h (zsI h2 111 28 (-(nI 1))) := by
    refine ⟨F, ?_, ?_, ?_, ?_⟩
    · rw [zI_k _ _ _ (by omega), f2.2 5 (by omega), f1.i (by omega), zI_k _ _ _ (by omega)]
    · rw [zI_k _ _ _ (by omega), f2.2 13 (by omega), f1.i (by omega), zI_k _ _ _ (by omega)]
    · rw [zI_k _ _ _ (by omega), f2.2 14 (by omega), f1.i (by omega), zI_k _ _ _ (by omega)]
    · rw [zI_s, h28]
  have he3 : mHe (rTo B.1 (B.2 p)).2.1 (zsI h2 111 28 (-(nI 1))) := by
    refine ⟨?_, fun k hk => ?_⟩
    · rw [zI_k _ _ _ (by omega), f2.2 32 (by omega), f1.i (by omega), zI_k _ _ _ (by omega)]; exact he.1
    · rw [zI_o _ _ _ (by omega), f2.1.i (by omega), f1.i (by omega), zI_o _ _ _ (by omega)]; exact he.2 k hk
  have kk1 := kk (zsI h2 111 28 (-(nI 1))) r2 k3 he3
  have e25 : (zsI h2 111 28 (-(nI 1))).1 111 25 = nI (rPlay (B.2 p) B.1.1 i 1024000000 (fT B.1)).2.1.length := by rw [zI_k _ _ _ (by omega)]; exact s2.2.1
  have e124 : ∀ k, k < (rPlay (B.2 p) B.1.1 i 1024000000 (fT B.1)).2.1.length → (zsI h2 111 28 (-(nI 1))).1 124 k = nI ((rPlay (B.2 p) B.1.1 i 1024000000 (fT B.1)).2.1.getD k 0) := fun k hk => by rw [zI_o _ _ _ (by omega)]; exact s2.2.2.1 k hk
  have r3 : zRf (zsI h2 111 28 (-(nI 1))) := r2
  refine u_X11_isSpare_15 r2 ?_
  generalize zsI h2 111 28 (-(nI 1)) = h3 at he3 kk1 e25 e124 r3
  have ha : ∀ j, j < (rPlay (B.2 p) B.1.1 i 1024000000 (fT B.1)).2.1.length → (rPlay (B.2 p) B.1.1 i 1024000000 (fT B.1)).2.1.getD j 0 ≤ 400000000 ∧ 256 ∣ (rPlay (B.2 p) B.1.1 i 1024000000 (fT B.1)).2.1.getD j 0 := fun j hj => ⟨ho2.be hj, rPlay_d (hB.2 p hp) (fT_ok hB.1) fT_16 _ (getD_mem hj)⟩
  have hb : ∀ j, j < (rTo B.1 (B.2 p)).2.1.length → (rTo B.1 (B.2 p)).2.1.getD j 0 ≤ 400000000 ∧ 256 ∣ (rTo B.1 (B.2 p)).2.1.getD j 0 := fun j hj => ⟨hop.be hj, rTo_d hB hp _ (getD_mem hj)⟩
  have na := ho2.1
  have nb := hop.1
  obtain ⟨he1, he2⟩ := he3
  have eS : fSp B.1 (B.2 p) i = decide ((rPlay (B.2 p) B.1.1 i 1024000000 (fT B.1)).2.1 = (rTo B.1 (B.2 p)).2.1) := rfl
  rw [eS] at kk1
  generalize (rPlay (B.2 p) B.1.1 i 1024000000 (fT B.1)).2.1 = la at kk1 e25 e124 ha na
  generalize (rTo B.1 (B.2 p)).2.1 = lb at kk1 he1 he2 hb nb
  by_cases q : la.length = lb.length
  · simp (disch := omega) only [xle_t, xle_f, xlt_t, xlt_f, xeq_t, xeq_f, xle0_t, xle0_f, xlt0_f, x0lt_t, x0lt_f, x0le_t, xeq0_t, xeq0_f, xin, xem_f, xme_f, xlem_f, xlm_f, xml_t, xmle_t, nI_clamp, nI_add, pk_mul, pk_sub, zI_s, zI_k, zI_o, zL_s, zL_k, zL_o, zR_s, zR_k, zR_o, zIL, zIR, zIN, zLI, zLR, zLN, zRI, zRL, zRN, true_and, and_true, not_true_eq_false, not_false_eq_true, true_implies, false_implies, implies_true, forall_const, if_true, if_false, eq_self, false_and, and_false, implies_true, nI_l, ylle_t, ylle_f, xcl_t, xcl_f, e25, he1]
    have L : ∀ m j, j + m = la.length → (∀ k, k < j → la.getD k 0 = lb.getD k 0) → J mX11_isSpare d 0 0 Q 0 0 35 [some (.inr (.inr 111)), some (.inl (nI p)), some (.inl (nI i)), some (.inl (nI j))] [] h3 := by
      intro m
      induction m with
      | zero =>
        intro j hj hx
        refine u_X11_isSpare_35 r3 ?_
        simp (disch := omega) only [xle_t, xle_f, xlt_t, xlt_f, xeq_t, xeq_f, xle0_t, xle0_f, xlt0_f, x0lt_t, x0lt_f, x0le_t, xeq0_t, xeq0_f, xin, xem_f, xme_f, xlem_f, xlm_f, xml_t, xmle_t, nI_clamp, nI_add, pk_mul, pk_sub, zI_s, zI_k, zI_o, zL_s, zL_k, zL_o, zR_s, zR_k, zR_o, zIL, zIR, zIN, zLI, zLR, zLN, zRI, zRL, zRN, true_and, and_true, not_true_eq_false, not_false_eq_true, true_implies, false_implies, implies_true, forall_const, if_true, if_false, eq_self, false_and, and_false, implies_true, nI_l, ylle_t, ylle_f, xcl_t, xcl_f, e25]
        rw [decide_eq_true (list_eq q (fun k hk => hx k (by omega)))] at kk1
        exact kk1
      | succ m ih =>
        intro j hj hx
        have e1 := e124 j (by omega)
        have e2 := he2 j (by omega)
        obtain ⟨b1, b11⟩ := ha j (by omega)
        obtain ⟨b2, b22⟩ := hb j (by omega)
        refine u_X11_isSpare_35 r3 ?_
        by_cases z : la.getD j 0 = lb.getD j 0
        · simp (disch := omega) only [xle_t, xle_f, xlt_t, xlt_f, xeq_t, xeq_f, xle0_t, xle0_f, xlt0_f, x0lt_t, x0lt_f, x0le_t, xeq0_t, xeq0_f, xin, xem_f, xme_f, xlem_f, xlm_f, xml_t, xmle_t, nI_clamp, nI_add, pk_mul, pk_sub, zI_s, zI_k, zI_o, zL_s, zL_k, zL_o, zR_s, zR_k, zR_o, zIL, zIR, zIN, zLI, zLR, zLN, zRI, zRL, zRN, true_and, and_true, not_true_eq_false, not_false_eq_true, true_implies, false_implies, implies_true, forall_const, if_true, if_false, eq_self, false_and, and_false, implies_true, nI_l, ylle_t, ylle_f, xcl_t, xcl_f, e25, e1, e2, pk_div]
          refine ih (j + 1) (by omega) (fun k hk => ?_)
          by_cases y : k = j
          · rw [y]; exact z
          · exact hx k (by omega)
        · have z2 : la.getD j 0 / 256 ≠ lb.getD j 0 / 256 := by omega
          simp (disch := omega) only [xle_t, xle_f, xlt_t, xlt_f, xeq_t, xeq_f, xle0_t, xle0_f, xlt0_f, x0lt_t, x0lt_f, x0le_t, xeq0_t, xeq0_f, xin, xem_f, xme_f, xlem_f, xlm_f, xml_t, xmle_t, nI_clamp, nI_add, pk_mul, pk_sub, zI_s, zI_k, zI_o, zL_s, zL_k, zL_o, zR_s, zR_k, zR_o, zIL, zIR, zIN, zLI, zLR, zLN, zRI, zRL, zRN, true_and, and_true, not_true_eq_false, not_false_eq_true, true_implies, false_implies, implies_true, forall_const, if_true, if_false, eq_self, false_and, and_false, implies_true, nI_l, ylle_t, ylle_f, xcl_t, xcl_f, e25, e1, e2, pk_div]
          rw [decide_eq_false (fun w => z (by rw [w]))] at kk1
          exact kk1
    exact L la.length 0 (by omega) (fun k hk => absurd hk (Nat.not_lt_zero _))
  · simp (disch := omega) only [xle_t, xle_f, xlt_t, xlt_f, xeq_t, xeq_f, xle0_t, xle0_f, xlt0_f, x0lt_t, x0lt_f, x0le_t, xeq0_t, xeq0_f, xin, xem_f, xme_f, xlem_f, xlm_f, xml_t, xmle_t, nI_clamp, nI_add, pk_mul, pk_sub, zI_s, zI_k, zI_o, zL_s, zL_k, zL_o, zR_s, zR_k, zR_o, zIL, zIR, zIN, zLI, zLR, zLN, zRI, zRL, zRN, true_and, and_true, not_true_eq_false, not_false_eq_true, true_implies, false_implies, implies_true, forall_const, if_true, if_false, eq_self, false_and, and_false, implies_true, nI_l, ylle_t, ylle_f, xcl_t, xcl_f, e25, he1]
    rw [decide_eq_false (fun w => q (by rw [w]))] at kk1
    exact kk1
theorem n_spare {B : BK} {h : MH} {d : Nat} {x y : Int32} {Q : Option MV → MH → Prop} (hr : zRf h) (hA : bIn B (h.1 112) 0) (hB : bOK B) (h28 : h.1 111 28 = -(nI 1)) (hd : 6 ≤ d) (kk : ∀ h', zRf h' → mK h h' → Q (some (.inl (gSpare B x y))) h') : Con mX11_spare d 0 0 [.inr (.inr 111), .inl x, .inl y] h Q := by
  unfold gSpare at kk
  have hA0 : bIn B ((zsI h 111 0 (nI 0)).1 112) 0 := hA
  refine u_X11_spare (d1' := 5) hr (by omega) (by omega) ?_
  rcases ix3 x (n := 4) (by omega) with ⟨z, _, x1⟩ | ⟨z, _, _, x1, _, x2, _⟩ | ⟨p, hp, rfl, z⟩
  · rw [gP_none z] at kk
    simp (disch := omega) only [xle_t, xle_f, xlt_t, xlt_f, xeq_t, xeq_f, xle0_t, xle0_f, xlt0_f, x0lt_t, x0lt_f, x0le_t, xeq0_t, xeq0_f, xin, xem_f, xme_f, xlem_f, xlm_f, xml_t, xmle_t, nI_clamp, nI_add, pk_mul, pk_sub, zI_s, zI_k, zI_o, zL_s, zL_k, zL_o, zR_s, zR_k, zR_o, zIL, zIR, zIN, zLI, zLR, zLN, zRI, zRL, zRN, true_and, and_true, not_true_eq_false, not_false_eq_true, true_implies, false_implies, implies_true, forall_const, if_true, if_false, eq_self, false_and, and_false, implies_true, nI_l, ylle_t, ylle_f, xcl_t, xcl_f, x1, y_3]
    exact kk _ hr (mK_0 h)
  · rw [gP_none z] at kk
    simp (disch := omega) only [xle_t, xle_f, xlt_t, xlt_f, xeq_t, xeq_f, xle0_t, xle0_f, xlt0_f, x0lt_t, x0lt_f, x0le_t, xeq0_t, xeq0_f, xin, xem_f, xme_f, xlem_f, xlm_f, xml_t, xmle_t, nI_clamp, nI_add, pk_mul, pk_sub, zI_s, zI_k, zI_o, zL_s, zL_k, zL_o, zR_s, zR_k, zR_o, zIL, zIR, zIN, zLI, zLR, zLN, zRI, zRL, zRN, true_and, and_true, not_true_eq_false, not_false_eq_true, true_implies, false_implies, implies_true, forall_const, if_true, if_false, eq_self, false_and, and_false, implies_true, nI_l, ylle_t, ylle_f, xcl_t, xcl_f, x1, y_3, x2 3 rfl]
    exact kk _ hr (mK_0 h)
  rw [gP_some hp] at kk
  simp (disch := omega) only [xle_t, xle_f, xlt_t, xlt_f, xeq_t, xeq_f, xle0_t, xle0_f, xlt0_f, x0lt_t, x0lt_f, x0le_t, xeq0_t, xeq0_f, xin, xem_f, xme_f, xlem_f, xlm_f, xml_t, xmle_t, nI_clamp, nI_add, pk_mul, pk_sub, zI_s, zI_k, zI_o, zL_s, zL_k, zL_o, zR_s, zR_k, zR_o, zIL, zIR, zIN, zLI, zLR, zLN, zRI, zRL, zRN, true_and, and_true, not_true_eq_false, not_false_eq_true, true_implies, false_implies, implies_true, forall_const, if_true, if_false, eq_self, false_and, and_false, implies_true, nI_l, ylle_t, ylle_f, xcl_t, xcl_f, y_3]
  have h40 := (hB.2 p hp).2.1
  have k0 := mK_0 h
  refine n_hears hr hA0 hB (k0.2.2.2.2.trans h28) hp (by omega) (fun h1 r1 k1 s1 he1 _ => ?_)
  refine u_X11_spare_20 ?_
  have L : ∀ m i s, i + m = (B.2 p).2.1 → s ≤ i → ∀ g : MH, zRf g → mK h g → mHe (rTo B.1 (B.2 p)).2.1 g → (∀ g', zRf g' → mK h g' → Q (some (.inl (fKth (fSp B.1 (B.2 p)) y (fun _ => -(nI 1)) m i s))) g') → J mX11_spare d 0 0 Q 0 0 25 [some (.inr (.inr 111)), some (.inl (nI p)), some (.inl y), some (.inl (nI s)), some (.inl (nI i))] [] g := by
    intro m
    induction m with
    | zero =>
      intro i s hi hs g rg kg hg kq
      have hAg : bIn B (g.1 112) 0 := by rw [kg.1.i (by omega)]; exact hA
      have e75 : g.1 112 (75 + 162 * p) = nI (B.2 p).2.1 := by
        have := (hAg.2 p hp).2.1
        rw [show 0 + 74 + 162 * p + 1 = 75 + 162 * p by omega] at this
        exact this
      have hz : zokA g 112 20 (nI (75 + 162 * p)) := zia rg (by decide) rfl (vp_in_nI (by omega) (by omega))
      refine u_X11_spare_25 (d1' := 0) rg (by omega) (by omega) ?_
      simp (disch := omega) only [xle_t, xle_f, xlt_t, xlt_f, xeq_t, xeq_f, xle0_t, xle0_f, xlt0_f, x0lt_t, x0lt_f, x0le_t, xeq0_t, xeq0_f, xin, xem_f, xme_f, xlem_f, xlm_f, xml_t, xmle_t, nI_clamp, nI_add, pk_mul, pk_sub, zI_s, zI_k, zI_o, zL_s, zL_k, zL_o, zR_s, zR_k, zR_o, zIL, zIR, zIN, zLI, zLR, zLN, zRI, zRL, zRN, true_and, and_true, not_true_eq_false, not_false_eq_true, true_implies, false_implies, implies_true, forall_const, if_true, if_false, eq_self, false_and, and_false, implies_true, nI_l, ylle_t, ylle_f, xcl_t, xcl_f, hz, e75]
      exact kq g rg kg
    | succ m ih =>
      intro i s hi hs g rg kg hg kq
      have kq' : ∀ g', zRf g' → mK h g' → Q (some (.inl (if fSp B.1 (B.2 p) i = true then (if nI s = y then nI i else fKth (fSp B.1 (B.2 p)) y (fun _ => -(nI 1)) m (i + 1) (s + 1)) else fKth (fSp B.1 (B.2 p)) y (fun _ => -(nI 1)) m (i + 1) s))) g' := kq
      have hAg : bIn B (g.1 112) 0 := by rw [kg.1.i (by omega)]; exact hA
      have e75 : g.1 112 (75 + 162 * p) = nI (B.2 p).2.1 := by
        have := (hAg.2 p hp).2.1
        rw [show 0 + 74 + 162 * p + 1 = 75 + 162 * p by omega] at this
        exact this
      have hz : zokA g 112 20 (nI (75 + 162 * p)) := zia rg (by decide) rfl (vp_in_nI (by omega) (by omega))
      refine u_X11_spare_25 (d1' := 5) rg (by omega) (by omega) ?_
      simp (disch := omega) only [xle_t, xle_f, xlt_t, xlt_f, xeq_t, xeq_f, xle0_t, xle0_f, xlt0_f, x0lt_t, x0lt_f, x0le_t, xeq0_t, xeq0_f, xin, xem_f, xme_f, xlem_f, xlm_f, xml_t, xmle_t, nI_clamp, nI_add, pk_mul, pk_sub, zI_s, zI_k, zI_o, zL_s, zL_k, zL_o, zR_s, zR_k, zR_o, zIL, zIR, zIN, zLI, zLR, zLN, zRI, zRL, zRN, true_and, and_true, not_true_eq_false, not_false_eq_true, true_implies, false_implies, implies_true, forall_const, if_true, if_false, eq_self, false_and, and_false, implies_true, nI_l, ylle_t, ylle_f, xcl_t, xcl_f, hz, e75]
      refine n_isp rg hAg hB (kg.2.2.2.2.trans h28) hp (by omega) hg (by omega) (fun g2 r2 k2 he2 => ?_)
      refine u_X11_spare_49 ?_
      by_cases q : fSp B.1 (B.2 p) i = true
      · rw [if_pos q] at kq'
        have eb : bI (fSp B.1 (B.2 p) i) = nI 1 := if_pos q
        by_cases z : nI s = y
        · rw [if_pos z] at kq'
          simp (disch := omega) only [xle_t, xle_f, xlt_t, xlt_f, xeq_t, xeq_f, xle0_t, xle0_f, xlt0_f, x0lt_t, x0lt_f, x0le_t, xeq0_t, xeq0_f, xin, xem_f, xme_f, xlem_f, xlm_f, xml_t, xmle_t, nI_clamp, nI_add, pk_mul, pk_sub, zI_s, zI_k, zI_o, zL_s, zL_k, zL_o, zR_s, zR_k, zR_o, zIL, zIR, zIN, zLI, zLR, zLN, zRI, zRL, zRN, true_and, and_true, not_true_eq_false, not_false_eq_true, true_implies, false_implies, implies_true, forall_const, if_true, if_false, eq_self, false_and, and_false, implies_true, nI_l, ylle_t, ylle_f, xcl_t, xcl_f, eb, z]
          exact kq' g2 r2 (kg.trans k2)
        · rw [if_neg z] at kq'
          simp (disch := omega) only [xle_t, xle_f, xlt_t, xlt_f, xeq_t, xeq_f, xle0_t, xle0_f, xlt0_f, x0lt_t, x0lt_f, x0le_t, xeq0_t, xeq0_f, xin, xem_f, xme_f, xlem_f, xlm_f, xml_t, xmle_t, nI_clamp, nI_add, pk_mul, pk_sub, zI_s, zI_k, zI_o, zL_s, zL_k, zL_o, zR_s, zR_k, zR_o, zIL, zIR, zIN, zLI, zLR, zLN, zRI, zRL, zRN, true_and, and_true, not_true_eq_false, not_false_eq_true, true_implies, false_implies, implies_true, forall_const, if_true, if_false, eq_self, false_and, and_false, implies_true, nI_l, ylle_t, ylle_f, xcl_t, xcl_f, eb, z]
          exact ih (i + 1) (s + 1) (by omega) (by omega) g2 r2 (kg.trans k2) he2 kq'
      · rw [if_neg q] at kq'
        have eb : bI (fSp B.1 (B.2 p) i) = nI 0 := if_neg q
        simp (disch := omega) only [xle_t, xle_f, xlt_t, xlt_f, xeq_t, xeq_f, xle0_t, xle0_f, xlt0_f, x0lt_t, x0lt_f, x0le_t, xeq0_t, xeq0_f, xin, xem_f, xme_f, xlem_f, xlm_f, xml_t, xmle_t, nI_clamp, nI_add, pk_mul, pk_sub, zI_s, zI_k, zI_o, zL_s, zL_k, zL_o, zR_s, zR_k, zR_o, zIL, zIR, zIN, zLI, zLR, zLN, zRI, zRL, zRN, true_and, and_true, not_true_eq_false, not_false_eq_true, true_implies, false_implies, implies_true, forall_const, if_true, if_false, eq_self, false_and, and_false, implies_true, nI_l, ylle_t, ylle_f, xcl_t, xcl_f, eb]
        exact ih (i + 1) s (by omega) (by omega) g2 r2 (kg.trans k2) he2 kq'
  exact L (B.2 p).2.1 0 0 (by omega) (by omega) h1 r1 (k0.trans k1) he1 kk
