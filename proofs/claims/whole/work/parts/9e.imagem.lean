/-! ===== the reference's image, restore ===== -/
theorem n_image {h : MH} {d i : Nat} {Q : Option MV → MH → Prop} (hr : zRf h) (hi : i < 2) (hd : 1 ≤ d) (kk : ∀ h', zRf h' → zF (fun a => a ≠ 111 ∧ a ≠ 112 ∧ a ≠ 113) h h' → (∀ k, k ≠ 0 → h'.1 111 k = h.1 111 k) → (∀ k, k < 722 → h'.1 112 (722 * (i + 1) + k) = h.1 112 k) → (∀ k, (k < 722 * (i + 1) ∨ 722 * (i + 1) + 722 ≤ k) → h'.1 112 k = h.1 112 k) → h'.1 113 i = nI 1 → (∀ k, k ≠ i → h'.1 113 k = h.1 113 k) → Q (some (.inl (nI 0))) h') : Con mX11_image d 0 0 [.inr (.inr 111), .inl (nI i)] h Q := by
  refine u_X11_image hr (by omega) ?_
  simp (disch := omega) only [xle_t, xle_f, xlt_t, xlt_f, xeq_t, xeq_f, xle0_t, xle0_f, xlt0_f, x0lt_t, x0lt_f, x0le_t, xeq0_t, xeq0_f, xin, xem_f, xme_f, xlem_f, xlm_f, xml_t, xmle_t, nI_clamp, nI_add, pk_mul, pk_sub, zI_s, zI_k, zI_o, zL_s, zL_k, zL_o, zR_s, zR_k, zR_o, zIL, zIR, zIN, zLI, zLR, zLN, zRI, zRL, zRN, true_and, and_true, not_true_eq_false, not_false_eq_true, true_implies, false_implies, implies_true, forall_const, if_true, if_false, eq_self, false_and, and_false, implies_true, nI_l, ylle_t, ylle_f, xcl_t, xcl_f]
  have L : ∀ m k, k + m = 722 → ∀ g : MH, zRf g → zF (fun a => a ≠ 111 ∧ a ≠ 112) h g → (∀ k, k ≠ 0 → g.1 111 k = h.1 111 k) → (∀ j, j < k → g.1 112 (722 * (i + 1) + j) = h.1 112 j) → (∀ j, (j < 722 * (i + 1) ∨ 722 * (i + 1) + k ≤ j) → g.1 112 j = h.1 112 j) → J mX11_image d 0 0 Q 0 0 20 [some (.inr (.inr 111)), some (.inl (nI i)), some (.inl (nI k))] [] g := by
    intro m
    induction m with
    | zero =>
      intro k hk g rg fg e1 u1 u2
      obtain rfl : k = 722 := by omega
      refine u_X11_image_20 rg ?_
      simp (disch := omega) only [xle_t, xle_f, xlt_t, xlt_f, xeq_t, xeq_f, xle0_t, xle0_f, xlt0_f, x0lt_t, x0lt_f, x0le_t, xeq0_t, xeq0_f, xin, xem_f, xme_f, xlem_f, xlm_f, xml_t, xmle_t, nI_clamp, nI_add, pk_mul, pk_sub, zI_s, zI_k, zI_o, zL_s, zL_k, zL_o, zR_s, zR_k, zR_o, zIL, zIR, zIN, zLI, zLR, zLN, zRI, zRL, zRN, true_and, and_true, not_true_eq_false, not_false_eq_true, true_implies, false_implies, implies_true, forall_const, if_true, if_false, eq_self, false_and, and_false, implies_true, nI_l, ylle_t, ylle_f, xcl_t, xcl_f]
      refine kk _ rg ((fg.weak (fun a q => ⟨q.1, q.2.1⟩)).trans (zF_I _ _ _ (by omega))) (fun k q => (zI_p _ _ _ _ (by decide)).trans (e1 k q)) (fun k hk' => (zI_p _ _ _ _ (by decide)).trans (u1 k hk')) (fun k hk' => (zI_p _ _ _ _ (by decide)).trans (u2 k hk')) (zI_s _ _ _ _) (fun k hk' => ?_)
      rw [zI_k _ _ _ hk', fg.i (by omega)]
    | succ m ih =>
      intro k hk g rg fg e1 u1 u2
      have ek : g.1 112 k = h.1 112 k := u2 k (by omega)
      refine u_X11_image_20 rg ?_
      simp (disch := omega) only [xle_t, xle_f, xlt_t, xlt_f, xeq_t, xeq_f, xle0_t, xle0_f, xlt0_f, x0lt_t, x0lt_f, x0le_t, xeq0_t, xeq0_f, xin, xem_f, xme_f, xlem_f, xlm_f, xml_t, xmle_t, nI_clamp, nI_add, pk_mul, pk_sub, zI_s, zI_k, zI_o, zL_s, zL_k, zL_o, zR_s, zR_k, zR_o, zIL, zIR, zIN, zLI, zLR, zLN, zRI, zRL, zRN, true_and, and_true, not_true_eq_false, not_false_eq_true, true_implies, false_implies, implies_true, forall_const, if_true, if_false, eq_self, false_and, and_false, implies_true, nI_l, ylle_t, ylle_f, xcl_t, xcl_f, ek]
      refine ih (k + 1) (by omega) _ rg (fg.trans (zF_I _ _ _ (by omega))) (fun k q => (zI_p _ _ _ _ (by decide)).trans (e1 k q)) (fun j hj => ?_) (fun j hj => ?_)
      · by_cases y : j = k
        · rw [y, zI_s]
        · rw [zI_k _ _ _ (by omega)]; exact u1 j (by omega)
      · rw [zI_k _ _ _ (by omega)]; exact u2 j (by omega)
  exact L 722 0 (by omega) _ hr (zF_I _ _ _ (by omega)) (fun k q => zI_k _ _ _ q) (fun j hj => by omega) (fun j hj => by rw [zI_o _ _ _ (by decide)])
theorem n_rest5 {h : MH} {d i : Nat} {Q : Option MV → MH → Prop} (hr : zRf h) (hi : i < 2) (h0 : h.1 113 i = nI 0) (hd : 1 ≤ d) (kk : Q (some (.inl (-(nI 5)))) (zsI h 111 0 (nI 0))) : Con mX11_restore d 0 0 [.inr (.inr 111), .inl (nI i)] h Q := by
  refine u_X11_restore hr (by omega) ?_
  simp (disch := omega) only [xle_t, xle_f, xlt_t, xlt_f, xeq_t, xeq_f, xle0_t, xle0_f, xlt0_f, x0lt_t, x0lt_f, x0le_t, xeq0_t, xeq0_f, xin, xem_f, xme_f, xlem_f, xlm_f, xml_t, xmle_t, nI_clamp, nI_add, pk_mul, pk_sub, zI_s, zI_k, zI_o, zL_s, zL_k, zL_o, zR_s, zR_k, zR_o, zIL, zIR, zIN, zLI, zLR, zLN, zRI, zRL, zRN, true_and, and_true, not_true_eq_false, not_false_eq_true, true_implies, false_implies, implies_true, forall_const, if_true, if_false, eq_self, false_and, and_false, implies_true, nI_l, ylle_t, ylle_f, xcl_t, xcl_f, h0]
  exact kk
theorem n_restore {h : MH} {d i : Nat} {Q : Option MV → MH → Prop} (hr : zRf h) (hi : i < 2) (h0 : h.1 113 i = nI 1) (hd : 1 ≤ d) (kk : ∀ h', zRf h' → zF (fun a => a ≠ 111 ∧ a ≠ 112) h h' → (∀ k, k ≠ 0 → h'.1 111 k = h.1 111 k) → (∀ k, k < 722 → h'.1 112 k = h.1 112 (722 * (i + 1) + k)) → (∀ k, 722 ≤ k → h'.1 112 k = h.1 112 k) → Q (some (.inl (nI 0))) h') : Con mX11_restore d 0 0 [.inr (.inr 111), .inl (nI i)] h Q := by
  refine u_X11_restore hr (by omega) ?_
  simp (disch := omega) only [xle_t, xle_f, xlt_t, xlt_f, xeq_t, xeq_f, xle0_t, xle0_f, xlt0_f, x0lt_t, x0lt_f, x0le_t, xeq0_t, xeq0_f, xin, xem_f, xme_f, xlem_f, xlm_f, xml_t, xmle_t, nI_clamp, nI_add, pk_mul, pk_sub, zI_s, zI_k, zI_o, zL_s, zL_k, zL_o, zR_s, zR_k, zR_o, zIL, zIR, zIN, zLI, zLR, zLN, zRI, zRL, zRN, true_and, and_true, not_true_eq_false, not_false_eq_true, true_implies, false_implies, implies_true, forall_const, if_true, if_false, eq_self, false_and, and_false, implies_true, nI_l, ylle_t, ylle_f, xcl_t, xcl_f, h0]
  have L : ∀ m k, k + m = 722 → ∀ g : MH, zRf g → zF (fun a => a ≠ 111 ∧ a ≠ 112) h g → (∀ k, k ≠ 0 → g.1 111 k = h.1 111 k) → (∀ j, j < k → g.1 112 j = h.1 112 (722 * (i + 1) + j)) → (∀ j, 722 ≤ j → g.1 112 j = h.1 112 j) → J mX11_restore d 0 0 Q 0 0 32 [some (.inr (.inr 111)), some (.inl (nI i)), some (.inl (nI k))] [] g := by
    intro m
    induction m with
    | zero =>
      intro k hk g rg fg e1 u1 u2
      obtain rfl : k = 722 := by omega
      refine u_X11_restore_32 rg ?_
      simp (disch := omega) only [xle_t, xle_f, xlt_t, xlt_f, xeq_t, xeq_f, xle0_t, xle0_f, xlt0_f, x0lt_t, x0lt_f, x0le_t, xeq0_t, xeq0_f, xin, xem_f, xme_f, xlem_f, xlm_f, xml_t, xmle_t, nI_clamp, nI_add, pk_mul, pk_sub, zI_s, zI_k, zI_o, zL_s, zL_k, zL_o, zR_s, zR_k, zR_o, zIL, zIR, zIN, zLI, zLR, zLN, zRI, zRL, zRN, true_and, and_true, not_true_eq_false, not_false_eq_true, true_implies, false_implies, implies_true, forall_const, if_true, if_false, eq_self, false_and, and_false, implies_true, nI_l, ylle_t, ylle_f, xcl_t, xcl_f]
      exact kk g rg fg e1 u1 u2
    | succ m ih =>
      intro k hk g rg fg e1 u1 u2
      have ek : g.1 112 (722 * (i + 1) + k) = h.1 112 (722 * (i + 1) + k) := u2 _ (by omega)
      refine u_X11_restore_32 rg ?_
      simp (disch := omega) only [xle_t, xle_f, xlt_t, xlt_f, xeq_t, xeq_f, xle0_t, xle0_f, xlt0_f, x0lt_t, x0lt_f, x0le_t, xeq0_t, xeq0_f, xin, xem_f, xme_f, xlem_f, xlm_f, xml_t, xmle_t, nI_clamp, nI_add, pk_mul, pk_sub, zI_s, zI_k, zI_o, zL_s, zL_k, zL_o, zR_s, zR_k, zR_o, zIL, zIR, zIN, zLI, zLR, zLN, zRI, zRL, zRN, true_and, and_true, not_true_eq_false, not_false_eq_true, true_implies, false_implies, implies_true, forall_const, if_true, if_false, eq_self, false_and, and_false, implies_true, nI_l, ylle_t, ylle_f, xcl_t, xcl_f, ek]
      refine ih (k + 1) (by omega) _ rg (fg.trans (zF_I _ _ _ (by omega))) (fun k q => (zI_p _ _ _ _ (by decide)).trans (e1 k q)) (fun j hj => ?_) (fun j hj => ?_)
      · by_cases y : j = k
        · rw [y, zI_s]
        · rw [zI_k _ _ _ (by omega)]; exact u1 j (by omega)
      · rw [zI_k _ _ _ (by omega)]; exact u2 j hj
  exact L 722 0 (by omega) _ hr (zF_I _ _ _ (by omega)) (fun k q => zI_k _ _ _ q) (fun j hj => by omega) (fun j hj => by rw [zI_o _ _ _ (by decide)])
