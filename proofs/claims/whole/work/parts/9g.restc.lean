/-! ===== the class's restore ===== -/
theorem o_rest5 {h : MH} {d i : Nat} {Q : Option MV → MH → Prop} (hr : zRf h) (hi : i < 2) (h0 : h.2.2.1 46 i = 0) (hd : 1 ≤ d) (kk : Q (some (.inl (-(nI 5)))) h) : Con mX10_restore d 0 0 [.inr (.inr 1), .inl (nI i)] h Q := by
  refine u_X10_restore (d1' := 0) hr (by omega) ?_
  simp (disch := omega) only [xle_t, xle_f, xlt_t, xlt_f, xeq_t, xeq_f, xle0_t, xle0_f, xlt0_f, x0lt_t, x0lt_f, x0le_t, xeq0_t, xeq0_f, xin, xem_f, xme_f, xlem_f, xlm_f, xml_t, xmle_t, nI_clamp, nI_add, pk_mul, pk_sub, zI_s, zI_k, zI_o, zL_s, zL_k, zL_o, zR_s, zR_k, zR_o, zIL, zIR, zIN, zLI, zLR, zLN, zRI, zRL, zRN, true_and, and_true, not_true_eq_false, not_false_eq_true, true_implies, false_implies, implies_true, forall_const, if_true, if_false, eq_self, false_and, and_false, implies_true, nI_l, ylle_t, ylle_f, xcl_t, xcl_f, h0]
  exact kk
theorem o_restore {B : BK} {h : MH} {d i b : Nat} {Q : Option MV → MH → Prop} (hr : zRf h) (hi : i < 2) (h0 : h.2.2.1 46 i = b) (hB : bOK B) (hA : bAt B h b) (hb : 60 < b) (hz : ∀ h', zF (fun a => a < 15 ∨ 45 < a) h h' → bZ h' b) (hd : 3 ≤ d) (kk : ∀ h', zRf h' → zF (fun a => a < 15 ∨ (45 < a ∧ a ≠ 58 ∧ a ≠ 97 ∧ a ≠ 99 ∧ a ≠ 101)) h h' → bAt B h' 15 → h'.1 58 0 = -(nI 1) → h'.1 97 0 = nI 0 → h'.1 99 0 = nI 0 → h'.1 101 0 = nI 0 → Q (some (.inl (nI 0))) h') : Con mX10_restore d 0 0 [.inr (.inr 1), .inl (nI i)] h Q := by
  have nb : ¬ b = 0 := by omega
  refine u_X10_restore (d1' := 2) hr (by omega) ?_
  simp (disch := omega) only [xle_t, xle_f, xlt_t, xlt_f, xeq_t, xeq_f, xle0_t, xle0_f, xlt0_f, x0lt_t, x0lt_f, x0le_t, xeq0_t, xeq0_f, xin, xem_f, xme_f, xlem_f, xlm_f, xml_t, xmle_t, nI_clamp, nI_add, pk_mul, pk_sub, zI_s, zI_k, zI_o, zL_s, zL_k, zL_o, zR_s, zR_k, zR_o, zIL, zIR, zIN, zLI, zLR, zLN, zRI, zRL, zRN, true_and, and_true, not_true_eq_false, not_false_eq_true, true_implies, false_implies, implies_true, forall_const, if_true, if_false, eq_self, false_and, and_false, implies_true, nI_l, ylle_t, ylle_f, xcl_t, xcl_f, h0, nb]
  refine c_btake hr hB hA hb hz (by omega) (fun h3 r3 f3 q3 => ?_)
  refine u_X10_restore_37 (d1' := 0) r3 (by omega) ?_
  refine u_X10_forgetCellar r3 ?_
  refine u_X10_restore_41 ?_
  refine kk (zsI (zsI (zsI (zsI h3 58 0 (-(nI 1))) 97 0 (nI 0)) 99 0 (nI 0)) 101 0 (nI 0)) r3 ((f3.weak (fun a q => by omega)).trans ((zF_I _ _ _ (by omega)).trans ((zF_I _ _ _ (by omega)).trans ((zF_I _ _ _ (by omega)).trans (zF_I _ _ _ (by omega)))))) ⟨q3.1.keep (fun k hk => ?_), fun p hp => (q3.2 p hp).keep (fun k hk => ?_)⟩ ?_ ?_ ?_ ?_
  · rw [zI_o _ _ _ (by omega), zI_o _ _ _ (by omega), zI_o _ _ _ (by omega), zI_o _ _ _ (by omega)]
  · rw [zI_o _ _ _ (by omega), zI_o _ _ _ (by omega), zI_o _ _ _ (by omega), zI_o _ _ _ (by omega)]
  · rw [zI_p _ _ _ _ (by decide), zI_p _ _ _ _ (by decide), zI_p _ _ _ _ (by decide), zI_s]
  · rw [zI_p _ _ _ _ (by decide), zI_p _ _ _ _ (by decide), zI_s]
  · rw [zI_p _ _ _ _ (by decide), zI_s]
  · rw [zI_s]
