/-! ===== the reference's cellar ===== -/
theorem n_toldW {h : MH} {d e : Nat} {Q : Option MV → MH → Prop} (hr : zRf h) (h0 : h.1 111 11 = nI e) (he : 1 ≤ e ∧ e ≤ 4) (kk : Q (some (.inl (-(nI (30 + e))))) (zsI (zsI h 111 13 (nI e)) 111 14 (h.1 111 12))) : Con mX11_told d 0 0 [.inr (.inr 111)] h Q := by
  have es : ∀ e, 1 ≤ e → e ≤ 4 → -(nI 30) - nI e = -(nI (30 + e)) := by
    intro e h1 h4
    obtain rfl | rfl | rfl | rfl : e = 1 ∨ e = 2 ∨ e = 3 ∨ e = 4 := by omega
    · decide
    · decide
    · decide
    · decide
  have e1 := es e he.1 he.2
  refine u_X11_told hr ?_
  simp (disch := omega) only [xle_t, xle_f, xlt_t, xlt_f, xeq_t, xeq_f, xle0_t, xle0_f, xlt0_f, x0lt_t, x0lt_f, x0le_t, xeq0_t, xeq0_f, xin, xem_f, xme_f, xlem_f, xlm_f, xml_t, xmle_t, nI_clamp, nI_add, pk_mul, pk_sub, zI_s, zI_k, zI_o, zL_s, zL_k, zL_o, zR_s, zR_k, zR_o, zIL, zIR, zIN, zLI, zLR, zLN, zRI, zRL, zRN, true_and, and_true, not_true_eq_false, not_false_eq_true, true_implies, false_implies, implies_true, forall_const, if_true, if_false, eq_self, false_and, and_false, implies_true, nI_l, ylle_t, ylle_f, xcl_t, xcl_f, h0, e1]
  exact kk
theorem n_told {h : MH} {d : Nat} {Q : Option MV → MH → Prop} (hr : zRf h) (h0 : h.1 111 11 = nI 0) (kk : Q (some (.inl (nI 0))) (zsI (zsI h 111 13 (nI 0)) 111 14 (-(nI 1)))) : Con mX11_told d 0 0 [.inr (.inr 111)] h Q := by
  refine u_X11_told hr ?_
  simp (disch := omega) only [xle_t, xle_f, xlt_t, xlt_f, xeq_t, xeq_f, xle0_t, xle0_f, xlt0_f, x0lt_t, x0lt_f, x0le_t, xeq0_t, xeq0_f, xin, xem_f, xme_f, xlem_f, xlm_f, xml_t, xmle_t, nI_clamp, nI_add, pk_mul, pk_sub, zI_s, zI_k, zI_o, zL_s, zL_k, zL_o, zR_s, zR_k, zR_o, zIL, zIR, zIN, zLI, zLR, zLN, zRI, zRL, zRN, true_and, and_true, not_true_eq_false, not_false_eq_true, true_implies, false_implies, implies_true, forall_const, if_true, if_false, eq_self, false_and, and_false, implies_true, nI_l, ylle_t, ylle_f, xcl_t, xcl_f, h0]
  exact kk
def cNil : CE := (0, fun _ => 0, fun _ _ => 0, fun _ => 0, fun _ => 0)
def zMc (h h' : MH) : Prop := zF (fun a => a ≠ 111 ∧ a ≠ 112 ∧ a ≠ 115) h h' ∧ (∀ k, (0 < k ∧ k < 5) ∨ 14 < k → h'.1 111 k = h.1 111 k)
theorem n_cel {f : Nat → Nat} {n T : Nat} {h : MH} {d : Nat} {Q : Option MV → MH → Prop} (hZ : kStr) (hr : zRf h) (hk : kM f n h) (h5 : h.1 111 5 = nI T) (hT : n ≤ T ∧ T ≤ 400) (hd : 16 ≤ d) (k0 : ∀ e h', pCel f n 9 (kTk f n 0) cNil = .inl e → (1 ≤ e.1 ∧ e.1 ≤ 4) → zRf h' → zMc h h' → h'.1 112 = h.1 112 → h'.1 111 5 = nI 0 → h'.1 111 13 = nI e.1 → h'.1 111 14 = nI e.2 → Q (some (.inl (-(nI (30 + e.1))))) h') (k1 : ∀ C h', pCel f n 9 (kTk f n 0) cNil = .inr C → zRf h' → zMc h h' → cIn C (h'.1 112) 0 → (∀ k, 74 ≤ k → h'.1 112 k = h.1 112 k) → h'.1 111 5 = nI 0 → h'.1 111 13 = nI 0 → h'.1 111 14 = -(nI 1) → Q (some (.inl (nI C.1))) h') : Con mX11_cellar d 0 0 [.inr (.inr 111), .inl (nI n)] h Q := by
  have h4 := hk.1
  refine u_X11_cellar (d1' := 15) hr (by omega) (by omega) ?_
  simp (disch := omega) only [xle_t, xle_f, xlt_t, xlt_f, xeq_t, xeq_f, xle0_t, xle0_f, xlt0_f, x0lt_t, x0lt_f, x0le_t, xeq0_t, xeq0_f, xin, xem_f, xme_f, xlem_f, xlm_f, xml_t, xmle_t, nI_clamp, nI_add, pk_mul, pk_sub, zI_s, zI_k, zI_o, zL_s, zL_k, zL_o, zR_s, zR_k, zR_o, zIL, zIR, zIN, zLI, zLR, zLN, zRI, zRL, zRN, true_and, and_true, not_true_eq_false, not_false_eq_true, true_implies, false_implies, implies_true, forall_const, if_true, if_false, eq_self, false_and, and_false, implies_true, nI_l, ylle_t, ylle_f, xcl_t, xcl_f, h5]
  refine n_begins (h := zsI h 111 0 (nI 0)) hZ hr (hk.keep (zI_o _ _ _ (by decide))) (by omega) (fun h1 R1 f1 a1 a5 a115 => ?_)
  have fz : zF (fun a => a ≠ 111 ∧ a ≠ 112 ∧ a ≠ 115) h h1 := (zF_I _ _ _ (by omega)).trans (f1.weak (fun a q => ⟨q.1, q.2.2⟩))
  have f112 : h1.1 112 = h.1 112 := by rw [f1.i (by omega), zI_o _ _ _ (by decide)]
  have g1 : ∀ k, (0 < k ∧ k < 5) ∨ 12 < k → h1.1 111 k = h.1 111 k := fun k q => by rw [a1 k (by omega), zI_k _ _ _ (by omega)]
  have L : ∀ m i, i + m = 9 → ∀ (C : CE) (t : TK) (g : MH), C.1 = i → mR f n t g → mV h1 g → cFr C g → pCel f n 9 (kTk f n 0) cNil = pCel f n m t C → J mX11_cellar d 0 0 Q 0 0 27 [some (.inr (.inr 111)), some (.inl (nI n)), none] [] g := by
    intro m
    induction m with
    | zero =>
      intro i hi C t g hC Rg vg qg E
      have := qg.2.1
      omega
    | succ m ih =>
      intro i hi C t g hC Rg vg qg E
      have E2 : pCel f n (m + 1) t C = if t.1 = 14 then .inr C else match pLn f n t C with
        | .inl e => .inl e
        | .inr (C', t3) => pCel f n m (kNx f n t3) C' := rfl
      rw [E2] at E
      have w0 := Rg.2.2.2.2
      have q9 := Rg.2.2.1.2.2.2.1
      have h15 := Rg.2.2.2.1.1
      refine u_X11_cellar_27 (d1' := 15) (d2' := 15) (d3' := 15) Rg.1 (by omega) (by omega) (by omega) ?_
      by_cases c14 : t.1 = 14
      · rw [if_pos c14] at E
        simp (disch := omega) only [xle_t, xle_f, xlt_t, xlt_f, xeq_t, xeq_f, xle0_t, xle0_f, xlt0_f, x0lt_t, x0lt_f, x0le_t, xeq0_t, xeq0_f, xin, xem_f, xme_f, xlem_f, xlm_f, xml_t, xmle_t, nI_clamp, nI_add, pk_mul, pk_sub, zI_s, zI_k, zI_o, zL_s, zL_k, zL_o, zR_s, zR_k, zR_o, zIL, zIR, zIN, zLI, zLR, zLN, zRI, zRL, zRN, true_and, and_true, not_true_eq_false, not_false_eq_true, true_implies, false_implies, implies_true, forall_const, if_true, if_false, eq_self, false_and, and_false, implies_true, nI_l, ylle_t, ylle_f, xcl_t, xcl_f, w0, q9, c14]
        refine n_told Rg.1 w0 ?_
        refine u_X11_cellar_66 ?_
        have ci := qg.i
        generalize hg0 : zsI (zsI g 111 13 (nI 0)) 111 14 (-(nI 1)) = g0
        have r0 : zRf g0 := by rw [← hg0]; exact Rg.1
        have c0 : g0.1 115 = g.1 115 := by rw [← hg0, zI_o _ _ _ (by decide), zI_o _ _ _ (by decide)]
        have z0 : zMc h g0 := by
          rw [← hg0]
          refine ⟨fz.trans ((vg.1.weak (fun a q => ⟨q.1, q.2.2⟩)).trans ((zF_I _ _ _ (by omega)).trans (zF_I _ _ _ (by omega)))), fun k q => ?_⟩
          rw [zI_k _ _ _ (by omega), zI_k _ _ _ (by omega), vg.2 k (by omega)]; exact g1 k (by omega)
        have x112 : g0.1 112 = h.1 112 := by rw [← hg0, zI_o _ _ _ (by decide), zI_o _ _ _ (by decide), vg.1.i (by omega)]; exact f112
        have x5 : g0.1 111 5 = nI 0 := by rw [← hg0, zI_k _ _ _ (by decide), zI_k _ _ _ (by decide), vg.2 5 (by omega)]; exact a5
        have x13 : g0.1 111 13 = nI 0 := by rw [← hg0, zI_k _ _ _ (by decide), zI_s]
        have x14 : g0.1 111 14 = -(nI 1) := by rw [← hg0, zI_s]
        have L2 : ∀ m' i', i' + m' = 74 → ∀ g' : MH, zRf g' → zF (fun a => a ≠ 112) g0 g' → (∀ k, k < i' → g'.1 112 k = g.1 115 k) → (∀ k, 74 ≤ k → g'.1 112 k = h.1 112 k) → J mX11_cellar d 0 0 Q 0 0 69 [some (.inr (.inr 111)), some (.inl (nI n)), some (.inl (nI i'))] [] g' := by
          intro m'
          induction m' with
          | zero =>
            intro i' hi' g' r' f' u1 u2
            obtain rfl : i' = 74 := by omega
            have e73 : g'.1 112 73 = nI C.1 := by rw [u1 73 (by omega)]; exact ci.2.1
            refine u_X11_cellar_69 r' ?_
            simp (disch := omega) only [xle_t, xle_f, xlt_t, xlt_f, xeq_t, xeq_f, xle0_t, xle0_f, xlt0_f, x0lt_t, x0lt_f, x0le_t, xeq0_t, xeq0_f, xin, xem_f, xme_f, xlem_f, xlm_f, xml_t, xmle_t, nI_clamp, nI_add, pk_mul, pk_sub, zI_s, zI_k, zI_o, zL_s, zL_k, zL_o, zR_s, zR_k, zR_o, zIL, zIR, zIN, zLI, zLR, zLN, zRI, zRL, zRN, true_and, and_true, not_true_eq_false, not_false_eq_true, true_implies, false_implies, implies_true, forall_const, if_true, if_false, eq_self, false_and, and_false, implies_true, nI_l, ylle_t, ylle_f, xcl_t, xcl_f, e73]
            refine k1 C g' E r' ⟨z0.1.trans (f'.weak (fun a q => q.2.1)), fun k q => ?_⟩ ⟨?_, ?_, fun c hc => ?_⟩ u2 ?_ ?_ ?_
            · rw [f'.i (by omega)]; exact z0.2 k q
            · rw [u1 0 (by omega)]; exact ci.1
            · exact e73
            · obtain ⟨d1, d2, d3, d4⟩ := ci.2.2 c hc
              have b8 := qg.2.1
              have b6 := qg.2.2 c hc
              refine ⟨by rw [u1 _ (by omega)]; exact d1, fun k hk' => ?_, by rw [u1 _ (by omega)]; exact d3, by rw [u1 _ (by omega)]; exact d4⟩
              rw [u1 _ (by omega)]; exact d2 k hk'
            · rw [f'.i (by omega)]; exact x5
            · rw [f'.i (by omega)]; exact x13
            · rw [f'.i (by omega)]; exact x14
          | succ m' ih2 =>
            intro i' hi' g' r' f' u1 u2
            have e115 : g'.1 115 i' = g.1 115 i' := by rw [f'.i (by omega), c0]
            refine u_X11_cellar_69 r' ?_
            simp (disch := omega) only [xle_t, xle_f, xlt_t, xlt_f, xeq_t, xeq_f, xle0_t, xle0_f, xlt0_f, x0lt_t, x0lt_f, x0le_t, xeq0_t, xeq0_f, xin, xem_f, xme_f, xlem_f, xlm_f, xml_t, xmle_t, nI_clamp, nI_add, pk_mul, pk_sub, zI_s, zI_k, zI_o, zL_s, zL_k, zL_o, zR_s, zR_k, zR_o, zIL, zIR, zIN, zLI, zLR, zLN, zRI, zRL, zRN, true_and, and_true, not_true_eq_false, not_false_eq_true, true_implies, false_implies, implies_true, forall_const, if_true, if_false, eq_self, false_and, and_false, implies_true, nI_l, ylle_t, ylle_f, xcl_t, xcl_f, e115]
            refine ih2 (i' + 1) (by omega) _ r' (f'.trans (zF_I _ _ _ (by omega))) (fun k hk' => ?_) (fun k hk' => ?_)
            · by_cases y : k = i'
              · rw [y, zI_s]
              · rw [zI_k _ _ _ y]; exact u1 k (by omega)
            · rw [zI_k _ _ _ (by omega)]; exact u2 k hk'
        exact L2 74 0 (by omega) g0 r0 zF.rfl (fun k hk' => by omega) (fun k hk' => by rw [x112])
      · rw [if_neg c14] at E
        simp (disch := omega) only [xle_t, xle_f, xlt_t, xlt_f, xeq_t, xeq_f, xle0_t, xle0_f, xlt0_f, x0lt_t, x0lt_f, x0le_t, xeq0_t, xeq0_f, xin, xem_f, xme_f, xlem_f, xlm_f, xml_t, xmle_t, nI_clamp, nI_add, pk_mul, pk_sub, zI_s, zI_k, zI_o, zL_s, zL_k, zL_o, zR_s, zR_k, zR_o, zIL, zIR, zIN, zLI, zLR, zLN, zRI, zRL, zRN, true_and, and_true, not_true_eq_false, not_false_eq_true, true_implies, false_implies, implies_true, forall_const, if_true, if_false, eq_self, false_and, and_false, implies_true, nI_l, ylle_t, ylle_f, xcl_t, xcl_f, w0, q9, c14]
        refine n_line hZ Rg qg (by omega) (fun e h2 pe he r2 v2 b1 b2 => ?_) (fun C' t' h2 pe R2 v2 q2 => ?_)
        · simp only [pe] at E
          refine u_X11_cellar_47 ?_
          have ne : ¬ e.1 = 0 := by omega
          refine u_X11_cellar_27 (d1' := 15) (d2' := 15) (d3' := 15) r2 (by omega) (by omega) (by omega) ?_
          simp (disch := omega) only [xle_t, xle_f, xlt_t, xlt_f, xeq_t, xeq_f, xle0_t, xle0_f, xlt0_f, x0lt_t, x0lt_f, x0le_t, xeq0_t, xeq0_f, xin, xem_f, xme_f, xlem_f, xlm_f, xml_t, xmle_t, nI_clamp, nI_add, pk_mul, pk_sub, zI_s, zI_k, zI_o, zL_s, zL_k, zL_o, zR_s, zR_k, zR_o, zIL, zIR, zIN, zLI, zLR, zLN, zRI, zRL, zRN, true_and, and_true, not_true_eq_false, not_false_eq_true, true_implies, false_implies, implies_true, forall_const, if_true, if_false, eq_self, false_and, and_false, implies_true, nI_l, ylle_t, ylle_f, xcl_t, xcl_f, b1, ne]
          refine n_toldW r2 b1 he ?_
          refine u_X11_cellar_61 ?_
          have vv := vg.trans v2
          refine k0 e _ E he r2 ⟨fz.trans ((vv.1.weak (fun a q => ⟨q.1, q.2.2⟩)).trans ((zF_I _ _ _ (by omega)).trans (zF_I _ _ _ (by omega)))), fun k q => ?_⟩ ?_ ?_ ?_ ?_
          · rw [zI_k _ _ _ (by omega), zI_k _ _ _ (by omega), vv.2 k (by omega)]; exact g1 k (by omega)
          · rw [zI_o _ _ _ (by decide), zI_o _ _ _ (by decide), vv.1.i (by omega)]; exact f112
          · rw [zI_k _ _ _ (by decide), zI_k _ _ _ (by decide), vv.2 5 (by omega)]; exact a5
          · rw [zI_k _ _ _ (by decide), zI_s]
          · rw [zI_s]; exact b2
        · simp only [pe] at E
          refine u_X11_cellar_47 ?_
          exact ih (i + 1) (by omega) C' _ h2 (by rw [pLn_n pe, hC]) R2 (vg.trans v2) q2 E
  refine L 9 0 (by omega) cNil (kTk f n 0) h1 rfl R1 mV.rfl ⟨⟨a115 0 (by omega), a115 73 (by omega), fun c hc => absurd hc (Nat.not_lt_zero _), fun c c1 c2 => a115 _ (by omega)⟩, by show 0 ≤ 8; omega, fun c hc => absurd hc (Nat.not_lt_zero _)⟩ rfl
