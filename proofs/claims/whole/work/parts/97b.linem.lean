/-! readCandle -/
theorem y_60 : (60 : Int64) = lN 60 := rfl
theorem mR_5 {f : Nat → Nat} {n : Nat} {t : TK} {h : MH} (R : mR f n t h) (k : Nat) (v : Int32) : mR f n t (zsI h 115 k v) := by
  obtain ⟨hr, hk, ⟨q8, q6, q7, q9, q10⟩, hG, h0⟩ := R
  exact ⟨hr, hk.keep (zI_o _ _ _ (by decide)), ⟨(zI_p _ _ _ _ (by decide)).trans q8, (zI_p _ _ _ _ (by decide)).trans q6, (zI_p _ _ _ _ (by decide)).trans q7, (zI_p _ _ _ _ (by decide)).trans q9, fun z => (zI_p _ _ _ _ (by decide)).trans (q10 z)⟩, hG, (zI_p _ _ _ _ (by decide)).trans h0⟩
theorem cTm.up {C : CE} {h : MH} (q : cTm C C.1 h) : cTm C (C.1 + 1) h := ⟨q.1, q.2.1, q.2.2.1, fun c c1 c2 => q.2.2.2 c (by omega) c2⟩
theorem n_line {f : Nat → Nat} {n : Nat} {t : TK} {C : CE} {h : MH} {d : Nat} {Q : Option MV → MH → Prop} (hZ : kStr) (R : mR f n t h) (q : cFr C h) (hd : 15 ≤ d) (k0 : ∀ e h', pLn f n t C = .inl e → (1 ≤ e.1 ∧ e.1 ≤ 4) → zRf h' → mV h h' → h'.1 111 11 = nI e.1 → h'.1 111 12 = nI e.2 → Q none h') (k1 : ∀ C' t' h', pLn f n t C = .inr (C', t') → mR f n (kNx f n t') h' → mV h h' → cFr C' h' → Q none h') : Con mX11_readCandle d 0 0 [.inr (.inr 111)] h Q := by
  have R0 := R
  obtain ⟨hr, hk, ⟨q8, q6, q7, q9, q10⟩, hG, h0⟩ := R
  obtain ⟨qT, q6m⟩ := q
  have hc8 := q6m.1
  have e115 : h.1 115 0 = nI C.1 := qT.1
  have h15 := hG.1
  refine u_X11_readCandle (d1' := 12) (d2' := 12) (d3' := 12) (d4' := 12) (d5' := 12) hr (by omega) (by omega) (by omega) (by omega) (by omega) (by omega) ?_
  unfold pLn at k0 k1
  by_cases c0 : t.1 = 0
  · simp only [if_pos c0] at k0 k1
    by_cases c8 : C.1 < 8
    · simp only [if_pos c8] at k0 k1
      have nc8 : ¬ C.1 = 8 := by omega
      simp (disch := omega) only [xle_t, xle_f, xlt_t, xlt_f, xeq_t, xeq_f, xle0_t, xle0_f, xlt0_f, x0lt_t, x0lt_f, x0le_t, xeq0_t, xeq0_f, xin, xem_f, xme_f, xlem_f, xlm_f, xml_t, xmle_t, nI_clamp, nI_add, pk_mul, pk_sub, zI_s, zI_k, zI_o, zL_s, zL_k, zL_o, zR_s, zR_k, zR_o, zIL, zIR, zIN, zLI, zLR, zLN, zRI, zRL, zRN, true_and, and_true, not_true_eq_false, not_false_eq_true, true_implies, false_implies, implies_true, forall_const, if_true, if_false, eq_self, false_and, and_false, implies_true, nI_l, ylle_t, ylle_f, xcl_t, xcl_f, h0, q9, c0, e115, nc8]
      refine n_nxt hZ R0 (by omega) (fun h1 R1 f1 => ?_)
      refine u_X11_readCandle_46 ?_
      have v1 : mV h h1 := f1.v
      have qT1 : cTm C C.1 h1 := qT.keep (f1.1.i (by omega))
      generalize hP : pPcs f n 8 0 (fun _ => 0) (kNx f n t) = P0 at k0 k1
      have K0 : ∀ (e : Nat × Nat) (g : MH), P0 = .inl e → (1 ≤ e.1 ∧ e.1 ≤ 4) → zRf g → mV h g → g.1 111 11 = nI e.1 → g.1 111 12 = nI e.2 → Q none g := fun e g pe he rg vg g1 g2 => k0 e g (by rw [pe]) he rg vg g1 g2
      have K1 : ∀ (k : Nat) (ms : Nat → Nat) (t1 : TK) (g : MH) (u : Option MV), P0 = .inr (k, ms, t1) → 1 ≤ k → k ≤ 6 → mR f n t1 g → mV h g → cQm C k ms 60 0 g → Con mX11_eats 13 0 0 [.inr (.inr 111), .inl (nI 1)] g (zri (fun x h' => J mX11_readCandle d 0 0 Q 0 0 149 [some (.inr (.inr 111)), some (.inl (nI C.1)), some (.inl (nI k)), u] [.inl x] h')) := by
        intro k ms t1 g u pe hk1 hk6 Rg vg qg
        simp only [pe] at k0 k1
        have T9 : ∀ (e : Nat × Nat) (g' : MH) (v : Option MV), (∀ g, zRf g → mV h g → g.1 111 11 = nI e.1 → g.1 111 12 = nI e.2 → Q none g) → zRf g' → mV h g' → g'.1 111 11 = nI e.1 → g'.1 111 12 = nI e.2 → J mX11_readCandle d 0 0 Q 0 0 199 [some (.inr (.inr 111)), some (.inl (nI C.1)), some (.inl (nI k)), v] [] g' := by
          intro e g' v ke rg' vg' a1 a2
          refine u_X11_readCandle_199 rg' ?_
          refine ke _ rg' ((vg'.trans (mV_5 _ _ _)).trans (mV_5 _ _ _)) ?_ ?_
          · rw [zI_p _ _ _ _ (by decide), zI_p _ _ _ _ (by decide)]; exact a1
          · rw [zI_p _ _ _ _ (by decide), zI_p _ _ _ _ (by decide)]; exact a2
        have K3 : ∀ (w dr : Nat) (t3 : TK) (g : MH) (v : Option MV), (∀ h', ¬ t3.1 = 13 → zRf h' → mV h h' → h'.1 111 11 = nI (pFl t3 2).1 → h'.1 111 12 = nI (pFl t3 2).2 → Q none h') → (∀ h', t3.1 = 13 → mR f n (kNx f n t3) h' → mV h h' → cFr (cAdd C k ms w dr) h' → Q none h') → mR f n t3 g → mV h g → cQm C k ms w dr g → Con mX11_needs 14 0 0 [.inr (.inr 111), .inl (nI 13)] g (zrv (fun h' => J mX11_readCandle d 0 0 Q 0 0 199 [some (.inr (.inr 111)), some (.inl (nI C.1)), some (.inl (nI k)), v] [] h')) := by
          intro w dr t3 g v e0 e1 Rg' vg' qg'
          refine n_needs hZ Rg' (by omega) (by omega) (fun z => ?_) (fun h2 z R2 f2 => ?_)
          · exact T9 (pFl t3 2) _ v (fun g' => e0 g' z) Rg'.1 (vg'.trans (mfH_v g _)) (mfH_1 g _) (mfH_2 g _)
          · have q2 : cQm C k ms w dr h2 := qg'.keep (f2.1.i (by omega))
            have x0 : h2.1 115 0 = nI C.1 := q2.1.1
            have x73 : h2.1 115 73 = nI C.1 := q2.1.2.1
            refine u_X11_readCandle_199 R2.1 ?_
            have fin := e1 _ z (mR_5 (mR_5 R2 0 (nI (C.1 + 1))) 73 (nI (C.1 + 1))) (((vg'.trans f2.v).trans (mV_5 _ _ _)).trans (mV_5 _ _ _)) (cQ_fin q2 q6m c8 hk6)
            simp (disch := omega) only [xle_t, xle_f, xlt_t, xlt_f, xeq_t, xeq_f, xle0_t, xle0_f, xlt0_f, x0lt_t, x0lt_f, x0le_t, xeq0_t, xeq0_f, xin, xem_f, xme_f, xlem_f, xlm_f, xml_t, xmle_t, nI_clamp, nI_add, pk_mul, pk_sub, zI_s, zI_k, zI_o, zL_s, zL_k, zL_o, zR_s, zR_k, zR_o, zIL, zIR, zIN, zLI, zLR, zLN, zRI, zRL, zRN, true_and, and_true, not_true_eq_false, not_false_eq_true, true_implies, false_implies, implies_true, forall_const, if_true, if_false, eq_self, false_and, and_false, implies_true, nI_l, ylle_t, ylle_f, xcl_t, xcl_f, x0, x73]
            exact fin
        have zA : ∀ g' : MH, zRf g' → ∀ j, j < 236 → zokA g' 115 20 (nI j) := fun g' rg' j hj => zia rg' (by decide) rfl (vp_in_nI (by omega) (by omega))
        have W4 : ∀ (e : Nat × Nat) (g' : MH) (v : Option MV), (1 ≤ e.1 ∧ e.1 ≤ 4) → (∀ g, zRf g → mV h g → g.1 111 11 = nI e.1 → g.1 111 12 = nI e.2 → Q none g) → zRf g' → mV h g' → g'.1 111 11 = nI e.1 → g'.1 111 12 = nI e.2 → Con mX11_eats 13 0 0 [.inr (.inr 111), .inl (nI 2)] g' (zri (fun x h' => J mX11_readCandle d 0 0 Q 0 0 174 [some (.inr (.inr 111)), some (.inl (nI C.1)), some (.inl (nI k)), v] [.inl x] h')) := by
          intro e g' v he ke rg' vg' a1 a2
          refine n_eatsW rg' a1 he (by omega) ?_
          refine u_X11_readCandle_174 (d1' := 14) (d2' := 13) rg' (by omega) (by omega) ?_
          simp (disch := omega) only [xle_t, xle_f, xlt_t, xlt_f, xeq_t, xeq_f, xle0_t, xle0_f, xlt0_f, x0lt_t, x0lt_f, x0le_t, xeq0_t, xeq0_f, xin, xem_f, xme_f, xlem_f, xlm_f, xml_t, xmle_t, nI_clamp, nI_add, pk_mul, pk_sub, zI_s, zI_k, zI_o, zL_s, zL_k, zL_o, zR_s, zR_k, zR_o, zIL, zIR, zIN, zLI, zLR, zLN, zRI, zRL, zRN, true_and, and_true, not_true_eq_false, not_false_eq_true, true_implies, false_implies, implies_true, forall_const, if_true, if_false, eq_self, false_and, and_false, implies_true, nI_l, ylle_t, ylle_f, xcl_t, xcl_f]
          exact n_needsW rg' a1 he (by omega) (T9 e g' v ke rg' vg' a1 a2)
        have K2 : ∀ (w : Nat) (t2 : TK) (g : MH) (v : Option MV), (∀ e h', (match pOpt f n t2 2 0 50 0 with
            | .inl e => .inl e
            | .inr (d, t3) => if t3.1 = 13 then .inr (cAdd C k ms w d, t3) else .inl (pFl t3 2) : (Nat × Nat) ⊕ (CE × TK)) = .inl e → (1 ≤ e.1 ∧ e.1 ≤ 4) → zRf h' → mV h h' → h'.1 111 11 = nI e.1 → h'.1 111 12 = nI e.2 → Q none h') → (∀ C' t' h', (match pOpt f n t2 2 0 50 0 with
            | .inl e => .inl e
            | .inr (d, t3) => if t3.1 = 13 then .inr (cAdd C k ms w d, t3) else .inl (pFl t3 2) : (Nat × Nat) ⊕ (CE × TK)) = .inr (C', t') → mR f n (kNx f n t') h' → mV h h' → cFr C' h' → Q none h') → mR f n t2 g → mV h g → cQm C k ms w 0 g → Con mX11_eats 13 0 0 [.inr (.inr 111), .inl (nI 2)] g (zri (fun x h' => J mX11_readCandle d 0 0 Q 0 0 174 [some (.inr (.inr 111)), some (.inl (nI C.1)), some (.inl (nI k)), v] [.inl x] h')) := by
          intro w t2 g v e0 e1 Rg' vg' qg'
          refine n_eats hZ Rg' (by omega) (by omega) (fun z => ?_) (fun h2 z R2 f2 => ?_)
          · rw [pOpt_no z] at e0 e1
            refine u_X11_readCandle_174 (d1' := 14) (d2' := 13) Rg'.1 (by omega) (by omega) ?_
            simp (disch := omega) only [xle_t, xle_f, xlt_t, xlt_f, xeq_t, xeq_f, xle0_t, xle0_f, xlt0_f, x0lt_t, x0lt_f, x0le_t, xeq0_t, xeq0_f, xin, xem_f, xme_f, xlem_f, xlm_f, xml_t, xmle_t, nI_clamp, nI_add, pk_mul, pk_sub, zI_s, zI_k, zI_o, zL_s, zL_k, zL_o, zR_s, zR_k, zR_o, zIL, zIR, zIN, zLI, zLR, zLN, zRI, zRL, zRN, true_and, and_true, not_true_eq_false, not_false_eq_true, true_implies, false_implies, implies_true, forall_const, if_true, if_false, eq_self, false_and, and_false, implies_true, nI_l, ylle_t, ylle_f, xcl_t, xcl_f]
            exact K3 w 0 t2 g v (fun h' y r' v' a1 a2 => e0 _ h' (if_neg y) (pFl_1 t2 (by omega) (by omega)) r' v' a1 a2) (fun h' y R' v' q' => e1 _ t2 h' (if_pos y) R' v' q') Rg' vg' qg'
          · have q2 : cQm C k ms w 0 h2 := qg'.keep (f2.1.i (by omega))
            refine u_X11_readCandle_174 (d1' := 14) (d2' := 13) R2.1 (by omega) (by omega) ?_
            simp (disch := omega) only [xle_t, xle_f, xlt_t, xlt_f, xeq_t, xeq_f, xle0_t, xle0_f, xlt0_f, x0lt_t, x0lt_f, x0le_t, xeq0_t, xeq0_f, xin, xem_f, xme_f, xlem_f, xlm_f, xml_t, xmle_t, nI_clamp, nI_add, pk_mul, pk_sub, zI_s, zI_k, zI_o, zL_s, zL_k, zL_o, zR_s, zR_k, zR_o, zIL, zIR, zIN, zLI, zLR, zLN, zRI, zRL, zRN, true_and, and_true, not_true_eq_false, not_false_eq_true, true_implies, false_implies, implies_true, forall_const, if_true, if_false, eq_self, false_and, and_false, implies_true, nI_l, ylle_t, ylle_f, xcl_t, xcl_f]
            refine n_takes hZ R2 (by omega) (by omega) (by omega) (fun e x pn he => ?_) (fun x h3 pn R3 f3 => ?_)
            · rw [pOpt_in z pn] at e0 e1
              have z1 := zA (mfH h2 e) R2.1 (65 + C.1) (by omega)
              refine u_X11_readCandle_192 (d1' := 14) (show zRf (mfH h2 e) from R2.1) (by omega) ⟨z1, ?_⟩
              rw [nI_clamp (by omega)]
              have a1 : (zsI (mfH h2 e) 115 (65 + C.1) x).1 111 11 = nI e.1 := (zI_p _ _ _ _ (by decide)).trans (mfH_1 h2 e)
              have a2 : (zsI (mfH h2 e) 115 (65 + C.1) x).1 111 12 = nI e.2 := (zI_p _ _ _ _ (by decide)).trans (mfH_2 h2 e)
              have vv : mV h (zsI (mfH h2 e) 115 (65 + C.1) x) := ((vg'.trans f2.v).trans (mfH_v h2 e)).trans (mV_5 _ _ _)
              exact n_needsW (h := zsI (mfH h2 e) 115 (65 + C.1) x) R2.1 a1 he (by omega) (T9 e _ v (fun g' r' v' b1 b2 => e0 e g' rfl he r' v' b1 b2) R2.1 vv a1 a2)
            · rw [pOpt_ok z pn] at e0 e1
              have z1 := zA h3 R3.1 (65 + C.1) (by omega)
              refine u_X11_readCandle_192 (d1' := 14) R3.1 (by omega) ⟨z1, ?_⟩
              rw [nI_clamp (by omega)]
              have q3 : cQm C k ms w 0 h3 := q2.keep (f3.1.i (by omega))
              refine K3 w x _ _ v (fun h' y r' v' a1 a2 => e0 _ h' (if_neg y) (pFl_1 _ (by omega) (by omega)) r' v' a1 a2) (fun h' y R' v' q' => e1 _ _ h' (if_pos y) R' v' q') (mR_5 R3 _ _) (((vg'.trans f2.v).trans f3.v).trans (mV_5 _ _ _)) ⟨q3.1.put q6m (by omega) (by omega), ?_, fun j hj => ?_, ?_, ?_⟩
              · rw [zI_k _ _ _ (by omega)]; exact q3.2.1
              · rw [zI_k _ _ _ (by omega)]; exact q3.2.2.1 j hj
              · rw [zI_k _ _ _ (by omega)]; exact q3.2.2.2.1
              · rw [zI_s]
        refine n_eats hZ Rg (by omega) (by omega) (fun z => ?_) (fun h2 z R2 f2 => ?_)
        · rw [pOpt_no z] at k0 k1
          refine u_X11_readCandle_149 (d1' := 13) (d2' := 13) Rg.1 (by omega) (by omega) ?_
          simp (disch := omega) only [xle_t, xle_f, xlt_t, xlt_f, xeq_t, xeq_f, xle0_t, xle0_f, xlt0_f, x0lt_t, x0lt_f, x0le_t, xeq0_t, xeq0_f, xin, xem_f, xme_f, xlem_f, xlm_f, xml_t, xmle_t, nI_clamp, nI_add, pk_mul, pk_sub, zI_s, zI_k, zI_o, zL_s, zL_k, zL_o, zR_s, zR_k, zR_o, zIL, zIR, zIN, zLI, zLR, zLN, zRI, zRL, zRN, true_and, and_true, not_true_eq_false, not_false_eq_true, true_implies, false_implies, implies_true, forall_const, if_true, if_false, eq_self, false_and, and_false, implies_true, nI_l, ylle_t, ylle_f, xcl_t, xcl_f]
          exact K2 60 t1 g u k0 k1 Rg vg qg
        · have q2 : cQm C k ms 60 0 h2 := qg.keep (f2.1.i (by omega))
          refine u_X11_readCandle_149 (d1' := 13) (d2' := 13) R2.1 (by omega) (by omega) ?_
          simp (disch := omega) only [xle_t, xle_f, xlt_t, xlt_f, xeq_t, xeq_f, xle0_t, xle0_f, xlt0_f, x0lt_t, x0lt_f, x0le_t, xeq0_t, xeq0_f, xin, xem_f, xme_f, xlem_f, xlm_f, xml_t, xmle_t, nI_clamp, nI_add, pk_mul, pk_sub, zI_s, zI_k, zI_o, zL_s, zL_k, zL_o, zR_s, zR_k, zR_o, zIL, zIR, zIN, zLI, zLR, zLN, zRI, zRL, zRN, true_and, and_true, not_true_eq_false, not_false_eq_true, true_implies, false_implies, implies_true, forall_const, if_true, if_false, eq_self, false_and, and_false, implies_true, nI_l, ylle_t, ylle_f, xcl_t, xcl_f]
          refine n_takes hZ R2 (by omega) (by omega) (by omega) (fun e x pn he => ?_) (fun x h3 pn R3 f3 => ?_)
          · rw [pOpt_in z pn] at k0 k1
            have z1 := zA (mfH h2 e) R2.1 (57 + C.1) (by omega)
            refine u_X11_readCandle_168 (d1' := 13) (show zRf (mfH h2 e) from R2.1) (by omega) ⟨z1, ?_⟩
            rw [nI_clamp (by omega)]
            have a1 : (zsI (mfH h2 e) 115 (57 + C.1) x).1 111 11 = nI e.1 := (zI_p _ _ _ _ (by decide)).trans (mfH_1 h2 e)
            have a2 : (zsI (mfH h2 e) 115 (57 + C.1) x).1 111 12 = nI e.2 := (zI_p _ _ _ _ (by decide)).trans (mfH_2 h2 e)
            have vv : mV h (zsI (mfH h2 e) 115 (57 + C.1) x) := ((vg.trans f2.v).trans (mfH_v h2 e)).trans (mV_5 _ _ _)
            exact W4 e _ u he (fun g' r' v' b1 b2 => k0 e g' rfl he r' v' b1 b2) R2.1 vv a1 a2
          · rw [pOpt_ok z pn] at k0 k1
            have z1 := zA h3 R3.1 (57 + C.1) (by omega)
            refine u_X11_readCandle_168 (d1' := 13) R3.1 (by omega) ⟨z1, ?_⟩
            rw [nI_clamp (by omega)]
            have q3 : cQm C k ms 60 0 h3 := q2.keep (f3.1.i (by omega))
            refine K2 x _ _ u k0 k1 (mR_5 R3 _ _) (((vg.trans f2.v).trans f3.v).trans (mV_5 _ _ _)) ⟨q3.1.put q6m (by omega) (by omega), ?_, fun j hj => ?_, ?_, ?_⟩
            · rw [zI_k _ _ _ (by omega)]; exact q3.2.1
            · rw [zI_k _ _ _ (by omega)]; exact q3.2.2.1 j hj
            · rw [zI_s]
            · rw [zI_k _ _ _ (by omega)]; exact q3.2.2.2.2
      clear k0 k1
      have S : ∀ (i : Nat) (ms : Nat → Nat) (t : TK) (g : MH) (u : Option MV) X, i ≤ 6 → mR f n t g → mV h g → cTm C C.1 g → (∀ j, j < i → g.1 115 (9 + 6 * C.1 + j) = nI (ms j)) → P0 = (if t.1 = 12 then (if 1 ≤ t.2.2.2 ∧ t.2.2.2 ≤ 60 then (if i < 6 then X else .inl (pFl t 4)) else .inl (pFl t 3)) else if i = 0 then .inl (pFl t 2) else .inr (i, ms, t)) → (i < 6 → P0 = X → ∀ g' u', mR f n (kNx f n t) g' → mV h g' → cTm C C.1 g' → (∀ j, j < i + 1 → g'.1 115 (9 + 6 * C.1 + j) = nI (kU ms i t.2.2.2 j)) → J mX11_readCandle d 0 0 Q 0 0 48 [some (.inr (.inr 111)), some (.inl (nI C.1)), some (.inl (nI (i + 1))), u'] [] g') → J mX11_readCandle d 0 0 Q 0 0 48 [some (.inr (.inr 111)), some (.inl (nI C.1)), some (.inl (nI i)), u] [] g := by
        intro i ms t g u X hi Rg vg cg mg E ih
        have Rg0 := Rg
        obtain ⟨rg, kg, ⟨p8, p6, p7, p9, p10⟩, Gg, g0⟩ := Rg
        have g15 := Gg.1
        have err : ∀ k v, P0 = .inl (pFl t k) → 1 ≤ k → k ≤ 4 → J mX11_readCandle d 0 0 Q 0 0 94 [some (.inr (.inr 111)), some (.inl (nI C.1)), some (.inl (nI i)), u] [.inl v] (mfH g (pFl t k)) := by
          intro k v pe ha hb
          have fl := pFl_1 t ha hb
          refine u_X11_readCandle_94 (show zRf (mfH g (pFl t k)) from rg) ?_
          have e11 := mfH_1 g (pFl t k)
          have kf := K0 _ (mfH g (pFl t k)) pe fl rg (vg.trans (mfH_v g _)) e11 (mfH_2 g _)
          have ne : ¬ (pFl t k).1 = 0 := by omega
          simp (disch := omega) only [xle_t, xle_f, xlt_t, xlt_f, xeq_t, xeq_f, xle0_t, xle0_f, xlt0_f, x0lt_t, x0lt_f, x0le_t, xeq0_t, xeq0_f, xin, xem_f, xme_f, xlem_f, xlm_f, xml_t, xmle_t, nI_clamp, nI_add, pk_mul, pk_sub, zI_s, zI_k, zI_o, zL_s, zL_k, zL_o, zR_s, zR_k, zR_o, zIL, zIR, zIN, zLI, zLR, zLN, zRI, zRL, zRN, true_and, and_true, not_true_eq_false, not_false_eq_true, true_implies, false_implies, implies_true, forall_const, if_true, if_false, eq_self, false_and, and_false, implies_true, nI_l, ylle_t, ylle_f, xcl_t, xcl_f, e11, ne]
          exact kf
        refine u_X11_readCandle_48 (d1' := 13) (d2' := 13) (d3' := 13) (d4' := 13) (d5' := 13) (d6' := 13) (d7' := 13) (d8' := 13) (d9' := 13) (d10' := 13) (d11' := 13) (d12' := 13) (d13' := 13) rg (by omega) (by omega) (by omega) (by omega) (by omega) (by omega) (by omega) (by omega) (by omega) (by omega) (by omega) (by omega) (by omega) (by omega) ?_
        by_cases c12 : t.1 = 12
        · rw [if_pos c12] at E
          have e10 := p10 c12
          have b10 := Gg.2.2.2.2 c12
          by_cases rn : 1 ≤ t.2.2.2 ∧ t.2.2.2 ≤ 60
          · rw [if_pos rn] at E
            have rn1 := rn.1
            have rn2 := rn.2
            have pn : pNum t 1 60 = .inr t.2.2.2 := by unfold pNum; rw [if_pos c12, if_pos rn]
            by_cases i6 : i < 6
            · rw [if_pos i6] at E
              have go : Con mX11_takes 13 0 0 [.inr (.inr 111), .inl (nI 1), .inl (nI 60)] g (zri (fun x h' => J mX11_readCandle d 0 0 Q 0 0 94 [some (.inr (.inr 111)), some (.inl (nI C.1)), some (.inl (nI i)), u] [.inl x] h')) := by
                refine n_takes hZ Rg0 (by omega) (by omega) (by omega) (fun e v pe _ => by rw [pn] at pe; cases pe) (fun v h2 pe R2 f2 => ?_)
                rw [pn] at pe
                have pv : t.2.2.2 = v := Sum.inr.inj pe
                refine u_X11_readCandle_94 R2.1 ?_
                have w0 := R2.2.2.2.2
                simp (disch := omega) only [xle_t, xle_f, xlt_t, xlt_f, xeq_t, xeq_f, xle0_t, xle0_f, xlt0_f, x0lt_t, x0lt_f, x0le_t, xeq0_t, xeq0_f, xin, xem_f, xme_f, xlem_f, xlm_f, xml_t, xmle_t, nI_clamp, nI_add, pk_mul, pk_sub, zI_s, zI_k, zI_o, zL_s, zL_k, zL_o, zR_s, zR_k, zR_o, zIL, zIR, zIN, zLI, zLR, zLN, zRI, zRL, zRN, true_and, and_true, not_true_eq_false, not_false_eq_true, true_implies, false_implies, implies_true, forall_const, if_true, if_false, eq_self, false_and, and_false, implies_true, nI_l, ylle_t, ylle_f, xcl_t, xcl_f, w0]
                refine ih i6 E _ _ (mR_5 R2 _ _) ((vg.trans f2.v).trans (mV_5 _ _ _)) (((cg.keep (f2.1.i (by omega)))).put q6m (by omega) (by omega)) (fun j hj => ?_)
                unfold kU
                by_cases y : j = i
                · rw [if_pos y, y, zI_s, pv]
                · rw [if_neg y, zI_k _ _ _ (by omega), f2.1.i (by omega)]
                  exact mg j (by omega)
              by_cases i0 : i = 0
              · simp (disch := omega) only [xle_t, xle_f, xlt_t, xlt_f, xeq_t, xeq_f, xle0_t, xle0_f, xlt0_f, x0lt_t, x0lt_f, x0le_t, xeq0_t, xeq0_f, xin, xem_f, xme_f, xlem_f, xlm_f, xml_t, xmle_t, nI_clamp, nI_add, pk_mul, pk_sub, zI_s, zI_k, zI_o, zL_s, zL_k, zL_o, zR_s, zR_k, zR_o, zIL, zIR, zIN, zLI, zLR, zLN, zRI, zRL, zRN, true_and, and_true, not_true_eq_false, not_false_eq_true, true_implies, false_implies, implies_true, forall_const, if_true, if_false, eq_self, false_and, and_false, implies_true, nI_l, ylle_t, ylle_f, xcl_t, xcl_f, i0]
                rw [i0] at go
                exact go
              · have i6' : ¬ i = 6 := by omega
                simp (disch := omega) only [xle_t, xle_f, xlt_t, xlt_f, xeq_t, xeq_f, xle0_t, xle0_f, xlt0_f, x0lt_t, x0lt_f, x0le_t, xeq0_t, xeq0_f, xin, xem_f, xme_f, xlem_f, xlm_f, xml_t, xmle_t, nI_clamp, nI_add, pk_mul, pk_sub, zI_s, zI_k, zI_o, zL_s, zL_k, zL_o, zR_s, zR_k, zR_o, zIL, zIR, zIN, zLI, zLR, zLN, zRI, zRL, zRN, true_and, and_true, not_true_eq_false, not_false_eq_true, true_implies, false_implies, implies_true, forall_const, if_true, if_false, eq_self, false_and, and_false, implies_true, nI_l, ylle_t, ylle_f, xcl_t, xcl_f, g0, p9, c12, i0, i6']
                exact go
            · rw [if_neg i6] at E
              have i6' : i = 6 := by omega
              subst i6'
              have kf : Con mX11_takes 13 0 0 [.inr (.inr 111), .inl (nI 1), .inl (nI 60)] (mfH g (pFl t 4)) (zri (fun x h' => J mX11_readCandle d 0 0 Q 0 0 94 [some (.inr (.inr 111)), some (.inl (nI C.1)), some (.inl (nI 6)), u] [.inl x] h')) := n_takesW (h := mfH g (pFl t 4)) rg (mfH_1 g _) (pFl_1 t (by omega) (by omega)) (by omega) (err 4 _ E (by omega) (by omega))
              have ep : pFl t 4 = (4, t.2.1) := by unfold pFl; rw [if_neg (by omega)]
              rw [ep] at kf
              unfold mfH at kf
              simp (disch := omega) only [xle_t, xle_f, xlt_t, xlt_f, xeq_t, xeq_f, xle0_t, xle0_f, xlt0_f, x0lt_t, x0lt_f, x0le_t, xeq0_t, xeq0_f, xin, xem_f, xme_f, xlem_f, xlm_f, xml_t, xmle_t, nI_clamp, nI_add, pk_mul, pk_sub, zI_s, zI_k, zI_o, zL_s, zL_k, zL_o, zR_s, zR_k, zR_o, zIL, zIR, zIN, zLI, zLR, zLN, zRI, zRL, zRN, true_and, and_true, not_true_eq_false, not_false_eq_true, true_implies, false_implies, implies_true, forall_const, if_true, if_false, eq_self, false_and, and_false, implies_true, nI_l, ylle_t, ylle_f, xcl_t, xcl_f, g0, p9, c12, e10, p6, y_60]
              exact kf
          · rw [if_neg rn] at E
            have pn : pNum t 1 60 = .inl (pFl t 3) := by unfold pNum; rw [if_pos c12, if_neg rn]
            have go : Con mX11_takes 13 0 0 [.inr (.inr 111), .inl (nI 1), .inl (nI 60)] g (zri (fun x h' => J mX11_readCandle d 0 0 Q 0 0 94 [some (.inr (.inr 111)), some (.inl (nI C.1)), some (.inl (nI i)), u] [.inl x] h')) := by
              refine n_takes hZ Rg0 (by omega) (by omega) (by omega) (fun e v pe _ => ?_) (fun v h2 pe R2 f2 => by rw [pn] at pe; cases pe)
              rw [pn] at pe
              rw [← Sum.inl.inj pe]
              exact err 3 v E (by omega) (by omega)
            by_cases i0 : i = 0
            · simp (disch := omega) only [xle_t, xle_f, xlt_t, xlt_f, xeq_t, xeq_f, xle0_t, xle0_f, xlt0_f, x0lt_t, x0lt_f, x0le_t, xeq0_t, xeq0_f, xin, xem_f, xme_f, xlem_f, xlm_f, xml_t, xmle_t, nI_clamp, nI_add, pk_mul, pk_sub, zI_s, zI_k, zI_o, zL_s, zL_k, zL_o, zR_s, zR_k, zR_o, zIL, zIR, zIN, zLI, zLR, zLN, zRI, zRL, zRN, true_and, and_true, not_true_eq_false, not_false_eq_true, true_implies, false_implies, implies_true, forall_const, if_true, if_false, eq_self, false_and, and_false, implies_true, nI_l, ylle_t, ylle_f, xcl_t, xcl_f, i0]
              rw [i0] at go
              exact go
            · by_cases i6 : i = 6
              · by_cases r1 : 1 ≤ t.2.2.2
                · have r2 : ¬ t.2.2.2 ≤ 60 := fun y => rn ⟨r1, y⟩
                  simp (disch := omega) only [xle_t, xle_f, xlt_t, xlt_f, xeq_t, xeq_f, xle0_t, xle0_f, xlt0_f, x0lt_t, x0lt_f, x0le_t, xeq0_t, xeq0_f, xin, xem_f, xme_f, xlem_f, xlm_f, xml_t, xmle_t, nI_clamp, nI_add, pk_mul, pk_sub, zI_s, zI_k, zI_o, zL_s, zL_k, zL_o, zR_s, zR_k, zR_o, zIL, zIR, zIN, zLI, zLR, zLN, zRI, zRL, zRN, true_and, and_true, not_true_eq_false, not_false_eq_true, true_implies, false_implies, implies_true, forall_const, if_true, if_false, eq_self, false_and, and_false, implies_true, nI_l, ylle_t, ylle_f, xcl_t, xcl_f, g0, p9, c12, i0, i6, e10, r2, y_60]
                  rw [i6] at go
                  exact go
                · simp (disch := omega) only [xle_t, xle_f, xlt_t, xlt_f, xeq_t, xeq_f, xle0_t, xle0_f, xlt0_f, x0lt_t, x0lt_f, x0le_t, xeq0_t, xeq0_f, xin, xem_f, xme_f, xlem_f, xlm_f, xml_t, xmle_t, nI_clamp, nI_add, pk_mul, pk_sub, zI_s, zI_k, zI_o, zL_s, zL_k, zL_o, zR_s, zR_k, zR_o, zIL, zIR, zIN, zLI, zLR, zLN, zRI, zRL, zRN, true_and, and_true, not_true_eq_false, not_false_eq_true, true_implies, false_implies, implies_true, forall_const, if_true, if_false, eq_self, false_and, and_false, implies_true, nI_l, ylle_t, ylle_f, xcl_t, xcl_f, g0, p9, c12, i0, i6, e10, r1, y_60]
                  rw [i6] at go
                  exact go
              · simp (disch := omega) only [xle_t, xle_f, xlt_t, xlt_f, xeq_t, xeq_f, xle0_t, xle0_f, xlt0_f, x0lt_t, x0lt_f, x0le_t, xeq0_t, xeq0_f, xin, xem_f, xme_f, xlem_f, xlm_f, xml_t, xmle_t, nI_clamp, nI_add, pk_mul, pk_sub, zI_s, zI_k, zI_o, zL_s, zL_k, zL_o, zR_s, zR_k, zR_o, zIL, zIR, zIN, zLI, zLR, zLN, zRI, zRL, zRN, true_and, and_true, not_true_eq_false, not_false_eq_true, true_implies, false_implies, implies_true, forall_const, if_true, if_false, eq_self, false_and, and_false, implies_true, nI_l, ylle_t, ylle_f, xcl_t, xcl_f, g0, p9, c12, i0, i6]
                exact go
        · rw [if_neg c12] at E
          by_cases i0 : i = 0
          · rw [if_pos i0] at E
            have pn : pNum t 1 60 = .inl (pFl t 2) := by unfold pNum; rw [if_neg c12]
            have go : Con mX11_takes 13 0 0 [.inr (.inr 111), .inl (nI 1), .inl (nI 60)] g (zri (fun x h' => J mX11_readCandle d 0 0 Q 0 0 94 [some (.inr (.inr 111)), some (.inl (nI C.1)), some (.inl (nI i)), u] [.inl x] h')) := by
              refine n_takes hZ Rg0 (by omega) (by omega) (by omega) (fun e v pe _ => ?_) (fun v h2 pe R2 f2 => by rw [pn] at pe; cases pe)
              rw [pn] at pe
              rw [← Sum.inl.inj pe]
              exact err 2 v E (by omega) (by omega)
            simp (disch := omega) only [xle_t, xle_f, xlt_t, xlt_f, xeq_t, xeq_f, xle0_t, xle0_f, xlt0_f, x0lt_t, x0lt_f, x0le_t, xeq0_t, xeq0_f, xin, xem_f, xme_f, xlem_f, xlm_f, xml_t, xmle_t, nI_clamp, nI_add, pk_mul, pk_sub, zI_s, zI_k, zI_o, zL_s, zL_k, zL_o, zR_s, zR_k, zR_o, zIL, zIR, zIN, zLI, zLR, zLN, zRI, zRL, zRN, true_and, and_true, not_true_eq_false, not_false_eq_true, true_implies, false_implies, implies_true, forall_const, if_true, if_false, eq_self, false_and, and_false, implies_true, nI_l, ylle_t, ylle_f, xcl_t, xcl_f, i0]
            rw [i0] at go
            exact go
          · rw [if_neg i0] at E
            simp (disch := omega) only [xle_t, xle_f, xlt_t, xlt_f, xeq_t, xeq_f, xle0_t, xle0_f, xlt0_f, x0lt_t, x0lt_f, x0le_t, xeq0_t, xeq0_f, xin, xem_f, xme_f, xlem_f, xlm_f, xml_t, xmle_t, nI_clamp, nI_add, pk_mul, pk_sub, zI_s, zI_k, zI_o, zL_s, zL_k, zL_o, zR_s, zR_k, zR_o, zIL, zIR, zIN, zLI, zLR, zLN, zRI, zRL, zRN, true_and, and_true, not_true_eq_false, not_false_eq_true, true_implies, false_implies, implies_true, forall_const, if_true, if_false, eq_self, false_and, and_false, implies_true, nI_l, ylle_t, ylle_f, xcl_t, xcl_f, g0, p9, c12, i0]
            refine K1 i ms t _ u E (by omega) hi ?_ ((vg.trans (mV_5 _ _ _)).trans (mV_5 _ _ _)) ⟨?_, ?_, fun j hj => ?_, ?_, ?_⟩
            · exact mR_5 (mR_5 Rg0 _ _) _ _
            · exact (cg.up.put q6m (by omega) (by omega)).put q6m (by omega) (by omega)
            · rw [zI_k _ _ _ (by omega), zI_s]
            · rw [zI_k _ _ _ (by omega), zI_k _ _ _ (by omega)]; exact mg j hj
            · rw [zI_s]
            · rw [zI_k _ _ _ (by omega), zI_k _ _ _ (by omega)]; exact cg.2.2.2 C.1 (by omega) c8
      have L : ∀ m i, i + m = 6 → ∀ (ms : Nat → Nat) (t : TK) (g : MH) (u : Option MV), mR f n t g → mV h g → cTm C C.1 g → (∀ j, j < i → g.1 115 (9 + 6 * C.1 + j) = nI (ms j)) → P0 = pPcs f n (m + 2) i ms t → J mX11_readCandle d 0 0 Q 0 0 48 [some (.inr (.inr 111)), some (.inl (nI C.1)), some (.inl (nI i)), u] [] g := by
        intro m
        induction m with
        | zero =>
          intro i hi ms t g u Rg vg cg mg E
          exact S i ms t g u (pPcs f n 1 (i + 1) (kU ms i t.2.2.2) (kNx f n t)) (by omega) Rg vg cg mg E (fun z => by omega)
        | succ m ih =>
          intro i hi ms t g u Rg vg cg mg E
          exact S i ms t g u (pPcs f n (m + 2) (i + 1) (kU ms i t.2.2.2) (kNx f n t)) (by omega) Rg vg cg mg E (fun z E' g' u' R' v' c' m' => ih (i + 1) (by omega) _ _ g' u' R' v' c' m' E')
      exact L 6 0 (by omega) (fun _ => 0) (kNx f n t) h1 none R1 v1 qT1 (fun j hj => by omega) hP.symm
    · simp only [if_neg c8] at k0
      have e8 : C.1 = 8 := by omega
      have kf := k0 (pFl t 4) (mfH h (pFl t 4)) rfl (pFl_1 t (by omega) (by omega)) hr (mfH_v h _) (mfH_1 h _) (mfH_2 h _)
      unfold pFl mfH at kf
      rw [if_neg (by omega)] at kf
      simp (disch := omega) only [xle_t, xle_f, xlt_t, xlt_f, xeq_t, xeq_f, xle0_t, xle0_f, xlt0_f, x0lt_t, x0lt_f, x0le_t, xeq0_t, xeq0_f, xin, xem_f, xme_f, xlem_f, xlm_f, xml_t, xmle_t, nI_clamp, nI_add, pk_mul, pk_sub, zI_s, zI_k, zI_o, zL_s, zL_k, zL_o, zR_s, zR_k, zR_o, zIL, zIR, zIN, zLI, zLR, zLN, zRI, zRL, zRN, true_and, and_true, not_true_eq_false, not_false_eq_true, true_implies, false_implies, implies_true, forall_const, if_true, if_false, eq_self, false_and, and_false, implies_true, nI_l, ylle_t, ylle_f, xcl_t, xcl_f, h0, q9, c0, e115, e8, q6]
      exact kf
  · simp only [if_neg c0] at k0
    have kf := k0 (pFl t 2) (mfH h (pFl t 2)) rfl (pFl_1 t (by omega) (by omega)) hr (mfH_v h _) (mfH_1 h _) (mfH_2 h _)
    unfold pFl mfH at kf
    by_cases c15 : t.1 = 15
    · rw [if_pos c15] at kf
      simp (disch := omega) only [xle_t, xle_f, xlt_t, xlt_f, xeq_t, xeq_f, xle0_t, xle0_f, xlt0_f, x0lt_t, x0lt_f, x0le_t, xeq0_t, xeq0_f, xin, xem_f, xme_f, xlem_f, xlm_f, xml_t, xmle_t, nI_clamp, nI_add, pk_mul, pk_sub, zI_s, zI_k, zI_o, zL_s, zL_k, zL_o, zR_s, zR_k, zR_o, zIL, zIR, zIN, zLI, zLR, zLN, zRI, zRL, zRN, true_and, and_true, not_true_eq_false, not_false_eq_true, true_implies, false_implies, implies_true, forall_const, if_true, if_false, eq_self, false_and, and_false, implies_true, nI_l, ylle_t, ylle_f, xcl_t, xcl_f, h0, q9, c15, q6]
      exact kf
    · rw [if_neg c15] at kf
      simp (disch := omega) only [xle_t, xle_f, xlt_t, xlt_f, xeq_t, xeq_f, xle0_t, xle0_f, xlt0_f, x0lt_t, x0lt_f, x0le_t, xeq0_t, xeq0_f, xin, xem_f, xme_f, xlem_f, xlm_f, xml_t, xmle_t, nI_clamp, nI_add, pk_mul, pk_sub, zI_s, zI_k, zI_o, zL_s, zL_k, zL_o, zR_s, zR_k, zR_o, zIL, zIR, zIN, zLI, zLR, zLN, zRI, zRL, zRN, true_and, and_true, not_true_eq_false, not_false_eq_true, true_implies, false_implies, implies_true, forall_const, if_true, if_false, eq_self, false_and, and_false, implies_true, nI_l, ylle_t, ylle_f, xcl_t, xcl_f, h0, q9, c0, c15, q6]
      exact kf
