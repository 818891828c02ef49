/-! ===== the reference's plan ===== -/
theorem n_pla {f : Nat → Nat} {n T p : Nat} {h : MH} {d : Nat} {Q : Option MV → MH → Prop} (hZ : kStr) (hr : zRf h) (hk : kM f n h) (hp : p < 4) (h5 : h.1 111 5 = nI T) (hT : n ≤ T ∧ T ≤ 400) (hd : 17 ≤ d) (k0 : ∀ e h', pPl f n 21 (kTk f n 0) pNil = .inl e → (1 ≤ e.1 ∧ e.1 ≤ 4) → zRf h' → zMc h h' → h'.1 112 = h.1 112 → h'.1 111 5 = nI 0 → h'.1 111 13 = nI e.1 → h'.1 111 14 = nI e.2 → Q (some (.inl (-(nI (30 + e.1))))) h') (k1 : ∀ P h', pPl f n 21 (kTk f n 0) pNil = .inr P → zRf h' → zMc h h' → pIn P (h'.1 112) (74 + 162 * p) → (∀ k, (k < 74 + 162 * p ∨ 74 + 162 * p + 162 ≤ k) → h'.1 112 k = h.1 112 k) → h'.1 111 5 = nI 0 → h'.1 111 13 = nI 0 → h'.1 111 14 = -(nI 1) → Q (some (.inl (nI P.1))) h') : Con mX11_plan d 0 0 [.inr (.inr 111), .inl (nI p), .inl (nI n)] h Q := by
  have h4 := hk.1
  refine u_X11_plan (d1' := 15) hr (by omega) (by omega) ?_
  simp (disch := omega) only [xle_t, xle_f, xlt_t, xlt_f, xeq_t, xeq_f, xle0_t, xle0_f, xlt0_f, x0lt_t, x0lt_f, x0le_t, xeq0_t, xeq0_f, xin, xem_f, xme_f, xlem_f, xlm_f, xml_t, xmle_t, nI_clamp, nI_add, pk_mul, pk_sub, zI_s, zI_k, zI_o, zL_s, zL_k, zL_o, zR_s, zR_k, zR_o, zIL, zIR, zIN, zLI, zLR, zLN, zRI, zRL, zRN, true_and, and_true, not_true_eq_false, not_false_eq_true, true_implies, false_implies, implies_true, forall_const, if_true, if_false, eq_self, false_and, and_false, implies_true, nI_l, ylle_t, ylle_f, xcl_t, xcl_f, h5, y_3]
  refine n_begins (h := zsI h 111 0 (nI 0)) hZ hr (hk.keep (zI_o _ _ _ (by decide))) (by omega) (fun h1 R1 f1 a1 a5 a115 => ?_)
  have fz : zF (fun a => a ≠ 111 ∧ a ≠ 112 ∧ a ≠ 115) h h1 := (zF_I _ _ _ (by omega)).trans (f1.weak (fun a q => ⟨q.1, q.2.2⟩))
  have f112 : h1.1 112 = h.1 112 := by rw [f1.i (by omega), zI_o _ _ _ (by decide)]
  have g1 : ∀ k, (0 < k ∧ k < 5) ∨ 12 < k → h1.1 111 k = h.1 111 k := fun k q => by rw [a1 k (by omega), zI_k _ _ _ (by omega)]
  have L : ∀ m i, i + m = 21 → ∀ (P : PL) (t : TK) (g : MH), P.1 = i → pOK P → mR f n t g → mV h1 g → pMd P g → pPl f n 21 (kTk f n 0) pNil = pPl f n m t P → J mX11_plan d 0 0 Q 0 0 42 [some (.inr (.inr 111)), some (.inl (nI p)), some (.inl (nI n)), none] [] g := by
    intro m
    induction m with
    | zero =>
      intro i hi P t g hC hO Rg vg qg E
      have := hO.1
      omega
    | succ m ih =>
      intro i hi P t g hC hO Rg vg qg E
      have E2 : pPl f n (m + 1) t P = if t.1 = 14 then .inr P else match pRu f n t P with
        | .inl e => .inl e
        | .inr (P', t3) => pPl f n m (kNx f n t3) P' := rfl
      rw [E2] at E
      have w0 := Rg.2.2.2.2
      have q9 := Rg.2.2.1.2.2.2.1
      have h15 := Rg.2.2.2.1.1
      refine u_X11_plan_42 (d1' := 16) (d2' := 16) (d3' := 16) Rg.1 (by omega) (by omega) (by omega) ?_
      by_cases c14 : t.1 = 14
      · rw [if_pos c14] at E
        simp (disch := omega) only [xle_t, xle_f, xlt_t, xlt_f, xeq_t, xeq_f, xle0_t, xle0_f, xlt0_f, x0lt_t, x0lt_f, x0le_t, xeq0_t, xeq0_f, xin, xem_f, xme_f, xlem_f, xlm_f, xml_t, xmle_t, nI_clamp, nI_add, pk_mul, pk_sub, zI_s, zI_k, zI_o, zL_s, zL_k, zL_o, zR_s, zR_k, zR_o, zIL, zIR, zIN, zLI, zLR, zLN, zRI, zRL, zRN, true_and, and_true, not_true_eq_false, not_false_eq_true, true_implies, false_implies, implies_true, forall_const, if_true, if_false, eq_self, false_and, and_false, implies_true, nI_l, ylle_t, ylle_f, xcl_t, xcl_f, w0, q9, c14]
        refine n_told Rg.1 w0 ?_
        refine u_X11_plan_81 ?_
        have ci := qg.i
        generalize hg0 : zsI (zsI g 111 13 (nI 0)) 111 14 (-(nI 1)) = g0
        have r0 : zRf g0 := by rw [← hg0]; exact Rg.1
        have c0 : g0.1 115 = g.1 115 := by rw [← hg0, zI_o _ _ _ (by decide), zI_o _ _ _ (by decide)]
        have z0 : zMc h g0 := by
          rw [← hg0]
          refine ⟨fz.trans ((vg.1.weak (fun a q => ⟨q.1, q.2.2⟩)).trans ((zF_I _ _ _ (by omega)).trans (zF_I _ _ _ (by omega)))), fun k q => ?_⟩
          rw [zI_k _ _ _ (by omega), zI_k _ _ _ (by omega), vg.2 k (by omega)]; exact g1 k (by omega)
        have x112 : g0.1 112 = h.1 112 := by rw [← hg0, zI_o _ _ _ (by decide), zI_o _ _ _ (by decide), vg.1.i (by omega)]; exact f112
        have x5 : g0.1 111 5 = nI 0 := by rw [← hg0, zI_k _ _ _ (by decide), zI_k _ _ _ (by decide), vg.2 5 (by omega)]; exact a5
        have x13 : g0.1 111 13 = nI 0 := by rw [← hg0, zI_k _ _ _ (by decide), zI_s]
        have x14 : g0.1 111 14 = -(nI 1) := by rw [← hg0, zI_s]
        have zA : ∀ g' : MH, zRf g' → ∀ j, j < 2166 → zokA g' 112 20 (nI j) := fun g' rg' j hj => zia rg' (by decide) rfl (vp_in_nI (by omega) (by omega))
        have L2 : ∀ m' i', i' + m' = 162 → ∀ g' : MH, zRf g' → zF (fun a => a ≠ 112) g0 g' → (∀ k, k < i' → g'.1 112 (74 + 162 * p + k) = g.1 115 (74 + k)) → (∀ k, (k < 74 + 162 * p ∨ 74 + 162 * p + 162 ≤ k) → g'.1 112 k = h.1 112 k) → J mX11_plan d 0 0 Q 0 0 84 [some (.inr (.inr 111)), some (.inl (nI p)), some (.inl (nI n)), some (.inl (nI i'))] [] g' := by
          intro m'
          induction m' with
          | zero =>
            intro i' hi' g' r' f' u1 u2
            obtain rfl : i' = 162 := by omega
            have e74 : g'.1 112 (74 + 162 * p) = nI P.1 := by
              have := u1 0 (by omega)
              rw [Nat.add_zero, Nat.add_zero] at this
              rw [this]; exact ci.1
            have z1 := zA g' r' (74 + 162 * p) (by omega)
            refine u_X11_plan_84 r' (by omega) ?_
            simp (disch := omega) only [xle_t, xle_f, xlt_t, xlt_f, xeq_t, xeq_f, xle0_t, xle0_f, xlt0_f, x0lt_t, x0lt_f, x0le_t, xeq0_t, xeq0_f, xin, xem_f, xme_f, xlem_f, xlm_f, xml_t, xmle_t, nI_clamp, nI_add, pk_mul, pk_sub, zI_s, zI_k, zI_o, zL_s, zL_k, zL_o, zR_s, zR_k, zR_o, zIL, zIR, zIN, zLI, zLR, zLN, zRI, zRL, zRN, true_and, and_true, not_true_eq_false, not_false_eq_true, true_implies, false_implies, implies_true, forall_const, if_true, if_false, eq_self, false_and, and_false, implies_true, nI_l, ylle_t, ylle_f, xcl_t, xcl_f, e74, z1]
            have b20 := hO.1
            have b40 := hO.2.1
            refine k1 P g' E r' ⟨z0.1.trans (f'.weak (fun a q => q.2.1)), fun k q => ?_⟩ ⟨e74, ?_, fun r hr' => ?_, fun k hk' => ?_⟩ u2 ?_ ?_ ?_
            · rw [f'.i (by omega)]; exact z0.2 k q
            · rw [u1 1 (by omega)]; exact ci.2.1
            · obtain ⟨d1, d2⟩ := ci.2.2.1 r hr'
              rw [show 74 + 162 * p + 2 + r = 74 + 162 * p + (2 + r) by omega, show 74 + 162 * p + 22 + r = 74 + 162 * p + (22 + r) by omega, u1 _ (by omega), u1 _ (by omega), ← Nat.add_assoc, ← Nat.add_assoc]
              exact ⟨d1, d2⟩
            · have d1 := ci.2.2.2 k hk'
              rw [show 74 + 162 * p + 42 + k = 74 + 162 * p + (42 + k) by omega, u1 _ (by omega), ← Nat.add_assoc]
              exact d1
            · rw [f'.i (by omega)]; exact x5
            · rw [f'.i (by omega)]; exact x13
            · rw [f'.i (by omega)]; exact x14
          | succ m' ih2 =>
            intro i' hi' g' r' f' u1 u2
            have e115 : g'.1 115 (74 + i') = g.1 115 (74 + i') := by rw [f'.i (by omega), c0]
            have z1 := zA g' r' (74 + 162 * p + i') (by omega)
            refine u_X11_plan_84 r' (by omega) ?_
            simp (disch := omega) only [xle_t, xle_f, xlt_t, xlt_f, xeq_t, xeq_f, xle0_t, xle0_f, xlt0_f, x0lt_t, x0lt_f, x0le_t, xeq0_t, xeq0_f, xin, xem_f, xme_f, xlem_f, xlm_f, xml_t, xmle_t, nI_clamp, nI_add, pk_mul, pk_sub, zI_s, zI_k, zI_o, zL_s, zL_k, zL_o, zR_s, zR_k, zR_o, zIL, zIR, zIN, zLI, zLR, zLN, zRI, zRL, zRN, true_and, and_true, not_true_eq_false, not_false_eq_true, true_implies, false_implies, implies_true, forall_const, if_true, if_false, eq_self, false_and, and_false, implies_true, nI_l, ylle_t, ylle_f, xcl_t, xcl_f, e115, z1]
            refine ih2 (i' + 1) (by omega) _ r' (f'.trans (zF_I _ _ _ (by omega))) (fun k hk' => ?_) (fun k hk' => ?_)
            · by_cases y : k = i'
              · rw [y, zI_s]
              · rw [zI_k _ _ _ (by omega)]; exact u1 k (by omega)
            · rw [zI_k _ _ _ (by omega)]; exact u2 k hk'
        exact L2 162 0 (by omega) g0 r0 zF.rfl (fun k hk' => by omega) (fun k hk' => by rw [x112])
      · rw [if_neg c14] at E
        simp (disch := omega) only [xle_t, xle_f, xlt_t, xlt_f, xeq_t, xeq_f, xle0_t, xle0_f, xlt0_f, x0lt_t, x0lt_f, x0le_t, xeq0_t, xeq0_f, xin, xem_f, xme_f, xlem_f, xlm_f, xml_t, xmle_t, nI_clamp, nI_add, pk_mul, pk_sub, zI_s, zI_k, zI_o, zL_s, zL_k, zL_o, zR_s, zR_k, zR_o, zIL, zIR, zIN, zLI, zLR, zLN, zRI, zRL, zRN, true_and, and_true, not_true_eq_false, not_false_eq_true, true_implies, false_implies, implies_true, forall_const, if_true, if_false, eq_self, false_and, and_false, implies_true, nI_l, ylle_t, ylle_f, xcl_t, xcl_f, w0, q9, c14]
        refine n_rule hZ hO Rg qg (by omega) (fun e h2 pe he r2 v2 b1 b2 => ?_) (fun P' t' h2 pe R2 v2 q2 hO2 hn2 => ?_)
        · simp only [pe] at E
          refine u_X11_plan_62 ?_
          have ne : ¬ e.1 = 0 := by omega
          refine u_X11_plan_42 (d1' := 15) (d2' := 15) (d3' := 15) r2 (by omega) (by omega) (by omega) ?_
          simp (disch := omega) only [xle_t, xle_f, xlt_t, xlt_f, xeq_t, xeq_f, xle0_t, xle0_f, xlt0_f, x0lt_t, x0lt_f, x0le_t, xeq0_t, xeq0_f, xin, xem_f, xme_f, xlem_f, xlm_f, xml_t, xmle_t, nI_clamp, nI_add, pk_mul, pk_sub, zI_s, zI_k, zI_o, zL_s, zL_k, zL_o, zR_s, zR_k, zR_o, zIL, zIR, zIN, zLI, zLR, zLN, zRI, zRL, zRN, true_and, and_true, not_true_eq_false, not_false_eq_true, true_implies, false_implies, implies_true, forall_const, if_true, if_false, eq_self, false_and, and_false, implies_true, nI_l, ylle_t, ylle_f, xcl_t, xcl_f, b1, ne]
          refine n_toldW r2 b1 he ?_
          refine u_X11_plan_76 ?_
          have vv := vg.trans v2
          refine k0 e _ E he r2 ⟨fz.trans ((vv.1.weak (fun a q => ⟨q.1, q.2.2⟩)).trans ((zF_I _ _ _ (by omega)).trans (zF_I _ _ _ (by omega)))), fun k q => ?_⟩ ?_ ?_ ?_ ?_
          · rw [zI_k _ _ _ (by omega), zI_k _ _ _ (by omega), vv.2 k (by omega)]; exact g1 k (by omega)
          · rw [zI_o _ _ _ (by decide), zI_o _ _ _ (by decide), vv.1.i (by omega)]; exact f112
          · rw [zI_k _ _ _ (by decide), zI_k _ _ _ (by decide), vv.2 5 (by omega)]; exact a5
          · rw [zI_k _ _ _ (by decide), zI_s]
          · rw [zI_s]; exact b2
        · simp only [pe] at E
          refine u_X11_plan_62 ?_
          exact ih (i + 1) (by omega) P' _ h2 (by rw [hn2, hC]) hO2 R2 (vg.trans v2) q2 E
  refine L 21 0 (by omega) pNil (kTk f n 0) h1 rfl pNil_ok R1 mV.rfl ⟨a115 74 (by omega), a115 75 (by omega), fun r hr' => absurd hr' (Nat.not_lt_zero _), fun k hk' => absurd hk' (Nat.not_lt_zero _)⟩ rfl
