/-! ===== the class's plan ===== -/
def zT6 (h : MH) (a b : Nat) : MH := zcI (zcI (zcI (zcI (zcI (zsI (zsI h a 0 (h.1 b 0)) a 1 ((zsI h a 0 (h.1 b 0)).1 b 1)) (b + 1) (a + 1) 0 0 20) (b + 2) (a + 2) 0 0 20) (b + 3) (a + 3) 0 0 40) (b + 4) (a + 4) 0 0 40) (b + 5) (a + 5) 0 0 40
theorem pT_at {P : PL} {h : MH} {a b : Nat} (q : pAt P h b) (hP : pOK P) (hab : b + 5 < a ∨ a + 5 < b) : pAt P (zT6 h a b) a := by
  obtain ⟨q0, q1, q2, q3⟩ := q
  have h20 := hP.1
  have h40 := hP.2.1
  unfold zT6
  refine ⟨?_, ?_, fun r hr => ?_, fun k hk => ?_⟩
  · rw [zC_o _ _ _ _ _ (by omega), zC_o _ _ _ _ _ (by omega), zC_o _ _ _ _ _ (by omega), zC_o _ _ _ _ _ (by omega), zC_o _ _ _ _ _ (by omega), zI_k _ _ _ (by omega), zI_s]; exact q0
  · rw [zC_o _ _ _ _ _ (by omega), zC_o _ _ _ _ _ (by omega), zC_o _ _ _ _ _ (by omega), zC_o _ _ _ _ _ (by omega), zC_o _ _ _ _ _ (by omega), zI_s, zI_o _ _ _ (by omega)]; exact q1
  · obtain ⟨b1, b2⟩ := q2 r hr
    refine ⟨?_, ?_⟩
    · rw [zC_o _ _ _ _ _ (by omega), zC_o _ _ _ _ _ (by omega), zC_o _ _ _ _ _ (by omega), zC_o _ _ _ _ _ (by omega), zC_s _ _ _ _ (by omega), zI_o _ _ _ (by omega), zI_o _ _ _ (by omega)]; exact b1
    · rw [zC_o _ _ _ _ _ (by omega), zC_o _ _ _ _ _ (by omega), zC_o _ _ _ _ _ (by omega), zC_s _ _ _ _ (by omega), zC_o _ _ _ _ _ (by omega), zI_o _ _ _ (by omega), zI_o _ _ _ (by omega)]; exact b2
  · obtain ⟨b1, b2, b3⟩ := q3 k hk
    refine ⟨?_, ?_, ?_⟩
    · rw [zC_o _ _ _ _ _ (by omega), zC_o _ _ _ _ _ (by omega), zC_s _ _ _ _ (by omega), zC_o _ _ _ _ _ (by omega), zC_o _ _ _ _ _ (by omega), zI_o _ _ _ (by omega), zI_o _ _ _ (by omega)]; exact b1
    · rw [zC_o _ _ _ _ _ (by omega), zC_s _ _ _ _ (by omega), zC_o _ _ _ _ _ (by omega), zC_o _ _ _ _ _ (by omega), zC_o _ _ _ _ _ (by omega), zI_o _ _ _ (by omega), zI_o _ _ _ (by omega)]; exact b2
    · rw [zC_s _ _ _ _ (by omega), zC_o _ _ _ _ _ (by omega), zC_o _ _ _ _ _ (by omega), zC_o _ _ _ _ _ (by omega), zC_o _ _ _ _ _ (by omega), zI_o _ _ _ (by omega), zI_o _ _ _ (by omega)]; exact b3
theorem pT_f (h : MH) (b : Nat) {a : Nat} : zF (fun c => c < a ∨ a + 5 < c) h (zT6 h a b) := by
  unfold zT6
  exact (zF_I _ _ _ (by omega)).trans ((zF_I _ _ _ (by omega)).trans ((zF_C _ _ _ _ _ (by omega)).trans ((zF_C _ _ _ _ _ (by omega)).trans ((zF_C _ _ _ _ _ (by omega)).trans ((zF_C _ _ _ _ _ (by omega)).trans (zF_C _ _ _ _ _ (by omega)))))))
theorem o_pla {f : Nat → Nat} {n T p : Nat} {h : MH} {d : Nat} {Q : Option MV → MH → Prop} (hZ : kStr) (hr : zRf h) (hk : kC f n h) (hp : p < 4) (h1 : h.1 1 0 = nI T) (hT : n ≤ T ∧ T ≤ 400) (hd : 17 ≤ d) (k0 : ∀ e h', pPl f n 21 (kTk f n 0) pNil = .inl e → zRf h' → zF (fun a => a ≠ 1 ∧ a ≠ 2 ∧ (a < 9 ∨ 14 < a)) h h' → (∀ k, k ≠ 0 → h'.1 1 k = h.1 1 k) → h'.1 1 0 = nI 0 → h'.1 2 6 = nI e.1 → h'.1 2 7 = nI e.2 → Q (some (.inl (-(nI 30) - nI e.1))) h') (k1 : ∀ P h', pPl f n 21 (kTk f n 0) pNil = .inr P → pOK P → zRf h' → zF (fun a => a ≠ 1 ∧ a ≠ 2 ∧ (a < 9 ∨ (14 < a ∧ (a < 22 + 6 * p ∨ 27 + 6 * p < a) ∧ a ≠ 58))) h h' → (∀ k, k ≠ 0 → h'.1 1 k = h.1 1 k) → h'.1 1 0 = nI 0 → h'.1 2 6 = nI 0 → h'.1 2 7 = -(nI 1) → pAt P h' (22 + 6 * p) → h'.1 58 0 = -(nI 1) → Q (some (.inl (nI P.1))) h') : Con mX10_plan d 0 0 [.inr (.inr 1), .inl (nI p), .inl (nI n)] h Q := by
  have h4 := hk.1
  refine u_X10_plan (d1' := 16) hr (by omega) (by omega) ?_
  simp (disch := omega) only [xle_t, xle_f, xlt_t, xlt_f, xeq_t, xeq_f, xle0_t, xle0_f, xlt0_f, x0lt_t, x0lt_f, x0le_t, xeq0_t, xeq0_f, xin, xem_f, xme_f, xlem_f, xlm_f, xml_t, xmle_t, nI_clamp, nI_add, pk_mul, pk_sub, zI_s, zI_k, zI_o, zL_s, zL_k, zL_o, zR_s, zR_k, zR_o, zIL, zIR, zIN, zLI, zLR, zLN, zRI, zRL, zRN, true_and, and_true, not_true_eq_false, not_false_eq_true, true_implies, false_implies, implies_true, forall_const, if_true, if_false, eq_self, false_and, and_false, implies_true, nI_l, ylle_t, ylle_f, xcl_t, xcl_f, h1]
  refine c_rpl (h := zsI h 1 0 (nI 0)) hZ hr (hk.keep (zI_o _ _ _ (by decide))) (by omega) (fun e h2 pe r2 g2 e6 e7 => ?_) (fun P h2 pe r2 g2 e6 e7 q2 hP => ?_)
  · refine u_X10_plan_42 (d1' := 0) r2 (by omega) ?_
    simp (disch := omega) only [xle_t, xle_f, xlt_t, xlt_f, xeq_t, xeq_f, xle0_t, xle0_f, xlt0_f, x0lt_t, x0lt_f, x0le_t, xeq0_t, xeq0_f, xin, xem_f, xme_f, xlem_f, xlm_f, xml_t, xmle_t, nI_clamp, nI_add, pk_mul, pk_sub, zI_s, zI_k, zI_o, zL_s, zL_k, zL_o, zR_s, zR_k, zR_o, zIL, zIR, zIN, zLI, zLR, zLN, zRI, zRL, zRN, true_and, and_true, not_true_eq_false, not_false_eq_true, true_implies, false_implies, implies_true, forall_const, if_true, if_false, eq_self, false_and, and_false, implies_true, nI_l, ylle_t, ylle_f, xcl_t, xcl_f, e6]
    refine k0 e h2 pe r2 ((zF_I _ _ _ (by omega)).trans (g2.weak (fun a q => q.2))) (fun k q => ?_) ?_ e6 e7
    · rw [g2.i (by omega), zI_k _ _ _ q]
    · rw [g2.i (by omega), zI_s]
  · refine u_X10_plan_42 (d1' := 1) r2 (by omega) ?_
    simp (disch := omega) only [xle_t, xle_f, xlt_t, xlt_f, xeq_t, xeq_f, xle0_t, xle0_f, xlt0_f, x0lt_t, x0lt_f, x0le_t, xeq0_t, xeq0_f, xin, xem_f, xme_f, xlem_f, xlm_f, xml_t, xmle_t, nI_clamp, nI_add, pk_mul, pk_sub, zI_s, zI_k, zI_o, zL_s, zL_k, zL_o, zR_s, zR_k, zR_o, zIL, zIR, zIN, zLI, zLR, zLN, zRI, zRL, zRN, true_and, and_true, not_true_eq_false, not_false_eq_true, true_implies, false_implies, implies_true, forall_const, if_true, if_false, eq_self, false_and, and_false, implies_true, nI_l, ylle_t, ylle_f, xcl_t, xcl_f]
    have zp : ∀ p, p < 4 → (zk (22 + 6 * p)).1 = 5 := by decide
    refine u_X5_takeFrom r2 (by omega) ⟨zo r2 (by decide) rfl, zo r2 (by omega) (zp p hp), ?_⟩
    have qa := pT_at (a := 22 + 6 * p) q2 hP (by omega)
    have fa := pT_f h2 9 (a := 22 + 6 * p)
    have ra : zRf (zT6 h2 (22 + 6 * p) 9) := r2
    show J mX10_plan d 0 0 Q 0 0 72 _ [] (zT6 h2 (22 + 6 * p) 9)
    generalize zT6 h2 (22 + 6 * p) 9 = h3 at qa fa ra
    have e22 : h3.1 (22 + 6 * p) 0 = nI P.1 := qa.1
    refine u_X10_plan_72 ra ?_
    have fin := k1 P (zsI h3 58 0 (-(nI 1))) pe hP ra ((zF_I _ _ _ (by omega)).trans ((g2.weak (fun a q => by omega)).trans ((fa.weak (fun a q => by omega)).trans (zF_I _ _ _ (by omega))))) (fun k q => ?_) ?_ ?_ ?_ (qa.keep (fun k hk' => ?_)) ?_
    · simp (disch := omega) only [xle_t, xle_f, xlt_t, xlt_f, xeq_t, xeq_f, xle0_t, xle0_f, xlt0_f, x0lt_t, x0lt_f, x0le_t, xeq0_t, xeq0_f, xin, xem_f, xme_f, xlem_f, xlm_f, xml_t, xmle_t, nI_clamp, nI_add, pk_mul, pk_sub, zI_s, zI_k, zI_o, zL_s, zL_k, zL_o, zR_s, zR_k, zR_o, zIL, zIR, zIN, zLI, zLR, zLN, zRI, zRL, zRN, true_and, and_true, not_true_eq_false, not_false_eq_true, true_implies, false_implies, implies_true, forall_const, if_true, if_false, eq_self, false_and, and_false, implies_true, nI_l, ylle_t, ylle_f, xcl_t, xcl_f, e22]
      exact fin
    · rw [zI_p _ _ _ _ (by decide), fa.i (by omega), g2.i (by omega), zI_k _ _ _ q]
    · rw [zI_p _ _ _ _ (by decide), fa.i (by omega), g2.i (by omega), zI_s]
    · rw [zI_p _ _ _ _ (by decide), fa.i (by omega)]; exact e6
    · rw [zI_p _ _ _ _ (by decide), fa.i (by omega)]; exact e7
    · rw [zI_o _ _ _ (by omega)]
    · rw [zI_s]
