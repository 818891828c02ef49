/-! ===== the class's cellar, plan ===== -/
def zT5 (h : MH) (a b n1 n2 n3 n4 : Nat) : MH := zcI (zcI (zcI (zcI (zsI h a 0 (h.1 b 0)) (b + 1) (a + 1) 0 0 n1) (b + 2) (a + 2) 0 0 n2) (b + 3) (a + 3) 0 0 n3) (b + 4) (a + 4) 0 0 n4
theorem cT_at {C : CE} {h : MH} {a b : Nat} (q : cAt C h b) (hC : cOK C) (hab : b + 4 < a ∨ a + 4 < b) : cAt C (zT5 h a b 8 48 8 8) a := by
  obtain ⟨q0, q1⟩ := q
  have h8 := hC.1
  unfold zT5
  refine ⟨?_, fun c hc => ?_⟩
  · rw [zC_o _ _ _ _ _ (by omega), zC_o _ _ _ _ _ (by omega), zC_o _ _ _ _ _ (by omega), zC_o _ _ _ _ _ (by omega), zI_s]; exact q0
  · obtain ⟨b1, b2, b3, b4⟩ := q1 c hc
    have h6 := (hC.2 c hc).1.2
    refine ⟨?_, fun k hk => ?_, ?_, ?_⟩
    · rw [zC_o _ _ _ _ _ (by omega), zC_o _ _ _ _ _ (by omega), zC_o _ _ _ _ _ (by omega), zC_s _ _ _ _ (by omega), zI_o _ _ _ (by omega)]; exact b1
    · rw [zC_o _ _ _ _ _ (by omega), zC_o _ _ _ _ _ (by omega), zC_s _ _ _ _ (by omega), zC_o _ _ _ _ _ (by omega), zI_o _ _ _ (by omega)]; exact b2 k hk
    · rw [zC_o _ _ _ _ _ (by omega), zC_s _ _ _ _ (by omega), zC_o _ _ _ _ _ (by omega), zC_o _ _ _ _ _ (by omega), zI_o _ _ _ (by omega)]; exact b3
    · rw [zC_s _ _ _ _ (by omega), zC_o _ _ _ _ _ (by omega), zC_o _ _ _ _ _ (by omega), zC_o _ _ _ _ _ (by omega), zI_o _ _ _ (by omega)]; exact b4
theorem cT_f (h : MH) (b : Nat) {a n1 n2 n3 n4 : Nat} : zF (fun c => c < a ∨ a + 4 < c) h (zT5 h a b n1 n2 n3 n4) := by
  unfold zT5
  exact (zF_I _ _ _ (by omega)).trans ((zF_C _ _ _ _ _ (by omega)).trans ((zF_C _ _ _ _ _ (by omega)).trans ((zF_C _ _ _ _ _ (by omega)).trans (zF_C _ _ _ _ _ (by omega)))))
theorem zsIr {h : MH} (hr : zRf h) (a k : Nat) (v : Int32) : zRf (zsI h a k v) := hr
theorem o_cel {f : Nat → Nat} {n T : Nat} {h : MH} {d : Nat} {Q : Option MV → MH → Prop} (hZ : kStr) (hr : zRf h) (hk : kC f n h) (h1 : h.1 1 0 = nI T) (hT : n ≤ T ∧ T ≤ 400) (hd : 15 ≤ d) (k0 : ∀ e h', pCel f n 9 (kTk f n 0) cNil = .inl e → zRf h' → zF (fun a => a ≠ 1 ∧ a ≠ 2 ∧ (a < 4 ∨ 8 < a)) h h' → (∀ k, k ≠ 0 → h'.1 1 k = h.1 1 k) → h'.1 1 0 = nI 0 → h'.1 2 6 = nI e.1 → h'.1 2 7 = nI e.2 → Q (some (.inl (-(nI 30) - nI e.1))) h') (k1 : ∀ C h', pCel f n 9 (kTk f n 0) cNil = .inr C → cOK C → zRf h' → zF (fun a => a ≠ 1 ∧ a ≠ 2 ∧ (a < 4 ∨ (8 < a ∧ a < 16) ∨ (20 < a ∧ a ≠ 58 ∧ a ≠ 97 ∧ a ≠ 99 ∧ a ≠ 101))) h h' → (∀ k, k ≠ 0 → h'.1 1 k = h.1 1 k) → h'.1 1 0 = nI 0 → h'.1 2 6 = nI 0 → h'.1 2 7 = -(nI 1) → cAt C h' 16 → h'.1 58 0 = -(nI 1) → h'.1 97 0 = nI 0 → h'.1 99 0 = nI 0 → h'.1 101 0 = nI 0 → Q (some (.inl (nI C.1))) h') : Con mX10_cellar d 0 0 [.inr (.inr 1), .inl (nI n)] h Q := by
  have h4 := hk.1
  refine u_X10_cellar (d1' := 14) hr (by omega) ?_
  simp (disch := omega) only [xle_t, xle_f, xlt_t, xlt_f, xeq_t, xeq_f, xle0_t, xle0_f, xlt0_f, x0lt_t, x0lt_f, x0le_t, xeq0_t, xeq0_f, xin, xem_f, xme_f, xlem_f, xlm_f, xml_t, xmle_t, nI_clamp, nI_add, pk_mul, pk_sub, zI_s, zI_k, zI_o, zL_s, zL_k, zL_o, zR_s, zR_k, zR_o, zIL, zIR, zIN, zLI, zLR, zLN, zRI, zRL, zRN, true_and, and_true, not_true_eq_false, not_false_eq_true, true_implies, false_implies, implies_true, forall_const, if_true, if_false, eq_self, false_and, and_false, implies_true, nI_l, ylle_t, ylle_f, xcl_t, xcl_f, h1]
  refine c_rcel (h := zsI h 1 0 (nI 0)) hZ hr (hk.keep (zI_o _ _ _ (by decide))) (by omega) (fun e h2 pe r2 g2 e6 e7 => ?_) (fun C h2 pe r2 g2 e6 e7 q2 hC => ?_)
  · refine u_X10_cellar_32 (d1' := 0) r2 (by omega) ?_
    simp (disch := omega) only [xle_t, xle_f, xlt_t, xlt_f, xeq_t, xeq_f, xle0_t, xle0_f, xlt0_f, x0lt_t, x0lt_f, x0le_t, xeq0_t, xeq0_f, xin, xem_f, xme_f, xlem_f, xlm_f, xml_t, xmle_t, nI_clamp, nI_add, pk_mul, pk_sub, zI_s, zI_k, zI_o, zL_s, zL_k, zL_o, zR_s, zR_k, zR_o, zIL, zIR, zIN, zLI, zLR, zLN, zRI, zRL, zRN, true_and, and_true, not_true_eq_false, not_false_eq_true, true_implies, false_implies, implies_true, forall_const, if_true, if_false, eq_self, false_and, and_false, implies_true, nI_l, ylle_t, ylle_f, xcl_t, xcl_f, e6]
    refine k0 e h2 pe r2 ((zF_I _ _ _ (by omega)).trans (g2.weak (fun a q => q.2))) (fun k q => ?_) ?_ e6 e7
    · rw [g2.i (by omega), zI_k _ _ _ q]
    · rw [g2.i (by omega), zI_s]
  · refine u_X10_cellar_32 (d1' := 1) r2 (by omega) ?_
    simp (disch := omega) only [xle_t, xle_f, xlt_t, xlt_f, xeq_t, xeq_f, xle0_t, xle0_f, xlt0_f, x0lt_t, x0lt_f, x0le_t, xeq0_t, xeq0_f, xin, xem_f, xme_f, xlem_f, xlm_f, xml_t, xmle_t, nI_clamp, nI_add, pk_mul, pk_sub, zI_s, zI_k, zI_o, zL_s, zL_k, zL_o, zR_s, zR_k, zR_o, zIL, zIR, zIN, zLI, zLR, zLN, zRI, zRL, zRN, true_and, and_true, not_true_eq_false, not_false_eq_true, true_implies, false_implies, implies_true, forall_const, if_true, if_false, eq_self, false_and, and_false, implies_true, nI_l, ylle_t, ylle_f, xcl_t, xcl_f]
    refine u_X2_takeFrom r2 (by omega) ⟨zo r2 (by decide) rfl, zo r2 (by decide) rfl, ?_⟩
    have qa := cT_at (a := 16) q2 hC (by omega)
    have fa := cT_f h2 4 (a := 16) (n1 := 8) (n2 := 48) (n3 := 8) (n4 := 8)
    have ra : zRf (zT5 h2 16 4 8 48 8 8) := r2
    show J mX10_cellar d 0 0 Q 0 0 60 _ [] (zT5 h2 16 4 8 48 8 8)
    generalize zT5 h2 16 4 8 48 8 8 = h3 at qa fa ra
    refine u_X10_cellar_60 (d1' := 0) ra (by omega) ?_
    refine u_X10_forgetCellar ra ?_
    refine u_X10_cellar_64 (zsIr (zsIr (zsIr (zsIr ra _ _ _) _ _ _) _ _ _) _ _ _) ?_
    have e16 : (zsI (zsI (zsI (zsI h3 58 0 (-(nI 1))) 97 0 (nI 0)) 99 0 (nI 0)) 101 0 (nI 0)).1 16 0 = nI C.1 := by
      rw [zI_o _ _ _ (by decide), zI_o _ _ _ (by decide), zI_o _ _ _ (by decide), zI_o _ _ _ (by decide)]; exact qa.1
    have fin := k1 C (zsI (zsI (zsI (zsI h3 58 0 (-(nI 1))) 97 0 (nI 0)) 99 0 (nI 0)) 101 0 (nI 0)) pe hC ra ((zF_I _ _ _ (by omega)).trans ((g2.weak (fun a q => by omega)).trans ((fa.weak (fun a q => by omega)).trans ((zF_I _ _ _ (by omega)).trans ((zF_I _ _ _ (by omega)).trans ((zF_I _ _ _ (by omega)).trans (zF_I _ _ _ (by omega)))))))) (fun k q => ?_) ?_ ?_ ?_ (qa.keep (fun k hk' => ?_)) ?_ ?_ ?_ ?_
    · rw [← e16] at fin
      exact fin
    · rw [zI_p _ _ _ _ (by decide), zI_p _ _ _ _ (by decide), zI_p _ _ _ _ (by decide), zI_p _ _ _ _ (by decide), fa.i (by omega), g2.i (by omega), zI_k _ _ _ q]
    · rw [zI_p _ _ _ _ (by decide), zI_p _ _ _ _ (by decide), zI_p _ _ _ _ (by decide), zI_p _ _ _ _ (by decide), fa.i (by omega), g2.i (by omega), zI_s]
    · rw [zI_p _ _ _ _ (by decide), zI_p _ _ _ _ (by decide), zI_p _ _ _ _ (by decide), zI_p _ _ _ _ (by decide), fa.i (by omega)]; exact e6
    · rw [zI_p _ _ _ _ (by decide), zI_p _ _ _ _ (by decide), zI_p _ _ _ _ (by decide), zI_p _ _ _ _ (by decide), fa.i (by omega)]; exact e7
    · rw [zI_o _ _ _ (by omega), zI_o _ _ _ (by omega), zI_o _ _ _ (by omega), zI_o _ _ _ (by omega)]
    · rw [zI_p _ _ _ _ (by decide), zI_p _ _ _ _ (by decide), zI_p _ _ _ _ (by decide), zI_s]
    · rw [zI_p _ _ _ _ (by decide), zI_p _ _ _ _ (by decide), zI_s]
    · rw [zI_p _ _ _ _ (by decide), zI_s]
    · rw [zI_s]
