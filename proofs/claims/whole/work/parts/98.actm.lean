/-! ===== the reference's readAct, readRule ===== -/
/-- a plan in the making, its last rule not counted yet -/
def pMm (P : PL) (h : MH) : Prop := h.1 115 74 = nI (P.1 - 1) ∧ h.1 115 75 = nI P.2.1 ∧ (∀ r, r < P.1 → h.1 115 (76 + r) = pBy (P.2.2.1 r) ∧ h.1 115 (96 + r) = nI (pFr P r)) ∧ ∀ k, k < P.2.1 → h.1 115 (116 + k) = nI (((P.2.2.2.2 k).1 + 6) * 100 + 10 * (P.2.2.2.2 k).2.1 + (P.2.2.2.2 k).2.2)
def pMd (P : PL) (h : MH) : Prop := h.1 115 74 = nI P.1 ∧ h.1 115 75 = nI P.2.1 ∧ (∀ r, r < P.1 → h.1 115 (76 + r) = pBy (P.2.2.1 r) ∧ h.1 115 (96 + r) = nI (pFr P r)) ∧ ∀ k, k < P.2.1 → h.1 115 (116 + k) = nI (((P.2.2.2.2 k).1 + 6) * 100 + 10 * (P.2.2.2.2 k).2.1 + (P.2.2.2.2 k).2.2)
theorem pMm.keep {P : PL} {h h' : MH} (q : pMm P h) (e : h'.1 115 = h.1 115) : pMm P h' := by unfold pMm; rw [e]; exact q
theorem pMd.keep {P : PL} {h h' : MH} (q : pMd P h) (e : h'.1 115 = h.1 115) : pMd P h' := by unfold pMd; rw [e]; exact q
theorem pMd.i {P : PL} {h : MH} (q : pMd P h) : pIn P (h.1 115) 74 := by
  obtain ⟨a, b, c, d⟩ := q
  refine ⟨a, b, fun r hr => ?_, fun k hk => ?_⟩
  · rw [show 74 + 2 + r = 76 + r by omega, show 74 + 22 + r = 96 + r by omega]; exact c r hr
  · rw [show 74 + 42 + k = 116 + k by omega]; exact d k hk
theorem pMm_act {P : PL} {a : Nat × Nat × Nat} {h : MH} (q : pMm P h) (h20 : P.1 ≤ 20) (h40 : P.2.1 < 40) : pMm (pAddA P a) (zsI (zsI h 115 (116 + P.2.1) (nI ((a.1 + 6) * 100 + 10 * a.2.1 + a.2.2))) 115 75 (nI (P.2.1 + 1))) := by
  obtain ⟨q1, q2, q3, q4⟩ := q
  refine ⟨?_, ?_, fun r hr => ?_, fun k hk => ?_⟩
  · rw [zI_k _ _ _ (by omega), zI_k _ _ _ (by omega)]; exact q1
  · rw [zI_s]; rfl
  · have hr' : r < P.1 := hr
    obtain ⟨b1, b2⟩ := q3 r hr'
    rw [zI_k _ _ _ (by omega), zI_k _ _ _ (by omega), zI_k _ _ _ (by omega), zI_k _ _ _ (by omega)]
    refine ⟨b1, ?_⟩
    rw [b2]
    have : pFr (pAddA P a) r = pFr P r := by
      unfold pFr
      by_cases r0 : r = 0
      · rw [if_pos r0, if_pos r0]
      · rw [if_neg r0, if_neg r0]
        exact if_neg (by omega)
    rw [this]
  · have hk' : k < P.2.1 + 1 := hk
    rw [zI_k _ _ _ (by omega)]
    by_cases y : k = P.2.1
    · have e1 : (pAddA P a).2.2.2.2 k = a := if_pos y
      rw [e1, y, zI_s]
    · have e1 : (pAddA P a).2.2.2.2 k = P.2.2.2.2 k := if_neg y
      rw [e1, zI_k _ _ _ (by omega)]
      exact q4 k (by omega)
theorem pMd_rule {P : PL} {b : Nat} {h : MH} (q : pMd P h) (hO : pOK P) (h20 : P.1 < 20) : pMm (pAddR P b) (zsI (zsI h 115 (76 + P.1) (pBy b)) 115 (96 + P.1) (nI P.2.1)) := by
  obtain ⟨q1, q2, q3, q4⟩ := q
  have h40 := hO.2.1
  refine ⟨?_, ?_, fun r hr => ?_, fun k hk => ?_⟩
  · rw [zI_k _ _ _ (by omega), zI_k _ _ _ (by omega)]; exact q1
  · rw [zI_k _ _ _ (by omega), zI_k _ _ _ (by omega)]; exact q2
  · have hr' : r < P.1 + 1 := hr
    have e2 : pFr (pAddR P b) r = pFr P r := by
      unfold pFr
      by_cases r0 : r = 0
      · rw [if_pos r0, if_pos r0]
      · rw [if_neg r0, if_neg r0]
        exact if_neg (by omega)
    by_cases y : r = P.1
    · have e1 : (pAddR P b).2.2.1 r = b := if_pos y
      rw [e1, e2, y, zI_k _ _ _ (by omega), zI_s, zI_s, ← hO.2.2.2.1]
      exact ⟨rfl, rfl⟩
    · have e1 : (pAddR P b).2.2.1 r = P.2.2.1 r := if_neg y
      rw [e1, e2, zI_k _ _ _ (by omega), zI_k _ _ _ (by omega), zI_k _ _ _ (by omega), zI_k _ _ _ (by omega)]
      exact q3 r (by omega)
  · have hk' : k < P.2.1 := hk
    rw [zI_k _ _ _ (by omega), zI_k _ _ _ (by omega)]
    exact q4 k hk'
theorem pMm_end {P : PL} {h : MH} (q : pMm P h) (h1 : 0 < P.1) : pMd P (zsI h 115 74 (nI P.1)) := by
  obtain ⟨q1, q2, q3, q4⟩ := q
  refine ⟨?_, ?_, fun r hr => ?_, fun k hk => ?_⟩
  · rw [zI_s]
  · rw [zI_k _ _ _ (by omega)]; exact q2
  · rw [zI_k _ _ _ (by omega), zI_k _ _ _ (by omega)]; exact q3 r hr
  · rw [zI_k _ _ _ (by omega)]; exact q4 k hk
theorem y_6 : (6 : Int64) = lN 6 := rfl
theorem y_10 : (10 : Int64) = lN 10 := rfl
theorem n_act {f : Nat → Nat} {n : Nat} {t : TK} {P : PL} {h : MH} {d : Nat} {Q : Option MV → MH → Prop} (hZ : kStr) (hP : pOK P) (R : mR f n t h) (q : pMm P h) (h1 : 0 < P.1) (hd : 14 ≤ d) (k0 : ∀ e h', pAct f n t P.2.1 = .inl e → (1 ≤ e.1 ∧ e.1 ≤ 4) → zRf h' → mV h h' → h'.1 111 11 = nI e.1 → h'.1 111 12 = nI e.2 → Q none h') (k1 : ∀ a t' h', pAct f n t P.2.1 = .inr (a, t') → mR f n t' h' → mV h h' → pMm (pAddA P a) h' → pOK (pAddA P a) → Q none h') : Con mX11_readAct d 0 0 [.inr (.inr 111)] h Q := by
  have R0 := R
  obtain ⟨hr, hk, ⟨q8, q6, q7, q9, q10⟩, hG, h0⟩ := R
  have h15 := hG.1
  have h20 := hP.1
  have h40 := hP.2.1
  have e75 : h.1 115 75 = nI P.2.1 := q.2.1
  refine u_X11_readAct (d1' := 12) (d2' := 12) (d3' := 12) (d4' := 12) (d5' := 12) (d6' := 12) (d7' := 12) hr (by omega) (by omega) (by omega) (by omega) (by omega) (by omega) (by omega) (by omega) ?_
  unfold pAct at k0 k1
  by_cases c : 6 ≤ t.1 ∧ t.1 ≤ 10
  · simp only [if_pos c] at k0 k1
    have c1 := c.1
    have c2 := c.2
    by_cases c4 : P.2.1 < 40
    · simp only [if_pos c4] at k0 k1
      have nc4 : ¬ P.2.1 = 40 := by omega
      simp (disch := omega) only [xle_t, xle_f, xlt_t, xlt_f, xeq_t, xeq_f, xle0_t, xle0_f, xlt0_f, x0lt_t, x0lt_f, x0le_t, xeq0_t, xeq0_f, xin, xem_f, xme_f, xlem_f, xlm_f, xml_t, xmle_t, nI_clamp, nI_add, pk_mul, pk_sub, zI_s, zI_k, zI_o, zL_s, zL_k, zL_o, zR_s, zR_k, zR_o, zIL, zIR, zIN, zLI, zLR, zLN, zRI, zRL, zRN, true_and, and_true, not_true_eq_false, not_false_eq_true, true_implies, false_implies, implies_true, forall_const, if_true, if_false, eq_self, false_and, and_false, implies_true, nI_l, ylle_t, ylle_f, xcl_t, xcl_f, h0, q9, y_6, y_10, e75, nc4]
      refine n_nxt hZ R0 (by omega) (fun h2 R2 f2 => ?_)
      have w2 := R2.2.2.2.2
      have qm2 : pMm P h2 := q.keep (f2.1.i (by omega))
      have e75' : h2.1 115 75 = nI P.2.1 := qm2.2.1
      have put : ∀ (a : Nat × Nat × Nat) (t' : TK) (g : MH) (z : Nat), (6 ≤ a.1 + 6 ∧ a.1 ≤ 4 ∧ a.2.1 ≤ 7 ∧ a.2.2 ≤ 7) → z = (a.1 + 6) * 100 + 10 * a.2.1 + a.2.2 → pMm P g → mR f n t' g → mV h g → (∀ h', mR f n t' h' → mV h h' → pMm (pAddA P a) h' → pOK (pAddA P a) → Q none h') → Q none (zsI (zsI g 115 (116 + P.2.1) (nI z)) 115 75 (nI (P.2.1 + 1))) := by
        intro a t' g z ha hz qg Rg vg kq
        rw [hz]
        exact kq _ (mR_5 (mR_5 Rg _ _) _ _) ((vg.trans (mV_5 _ _ _)).trans (mV_5 _ _ _)) (pMm_act qg h20 c4) (pAddA_ok hP h1 c4 ha.2)
      refine u_X11_readAct_69 (d1' := 13) (d2' := 13) R2.1 (by omega) (by omega) ?_
      by_cases c10 : t.1 = 10
      · simp only [if_pos c10] at k1
        have fin := put (4, 0, 0) (kNx f n t) h2
        simp (disch := omega) only [xle_t, xle_f, xlt_t, xlt_f, xeq_t, xeq_f, xle0_t, xle0_f, xlt0_f, x0lt_t, x0lt_f, x0le_t, xeq0_t, xeq0_f, xin, xem_f, xme_f, xlem_f, xlm_f, xml_t, xmle_t, nI_clamp, nI_add, pk_mul, pk_sub, zI_s, zI_k, zI_o, zL_s, zL_k, zL_o, zR_s, zR_k, zR_o, zIL, zIR, zIN, zLI, zLR, zLN, zRI, zRL, zRN, true_and, and_true, not_true_eq_false, not_false_eq_true, true_implies, false_implies, implies_true, forall_const, if_true, if_false, eq_self, false_and, and_false, implies_true, nI_l, ylle_t, ylle_f, xcl_t, xcl_f, w2, c10, e75']
        exact fin _ (by decide) (by show _ = (4 + 6) * 100 + 10 * 0 + 0; omega) qm2 R2 f2.v (fun h' a1 a2 a3 a4 => k1 _ _ h' rfl a1 a2 a3 a4)
      · simp only [if_neg c10] at k0 k1
        simp (disch := omega) only [xle_t, xle_f, xlt_t, xlt_f, xeq_t, xeq_f, xle0_t, xle0_f, xlt0_f, x0lt_t, x0lt_f, x0le_t, xeq0_t, xeq0_f, xin, xem_f, xme_f, xlem_f, xlm_f, xml_t, xmle_t, nI_clamp, nI_add, pk_mul, pk_sub, zI_s, zI_k, zI_o, zL_s, zL_k, zL_o, zR_s, zR_k, zR_o, zIL, zIR, zIN, zLI, zLR, zLN, zRI, zRL, zRN, true_and, and_true, not_true_eq_false, not_false_eq_true, true_implies, false_implies, implies_true, forall_const, if_true, if_false, eq_self, false_and, and_false, implies_true, nI_l, ylle_t, ylle_f, xcl_t, xcl_f, c10]
        refine n_takes hZ R2 (by omega) (by omega) (by omega) (fun e v pn he => ?_) (fun v h3 pn R3 f3 => ?_)
        · simp only [pn] at k0
          have e11 := mfH_1 h2 e
          have kf := k0 e (mfH h2 e) rfl he R2.1 (f2.v.trans (mfH_v h2 e)) e11 (mfH_2 h2 e)
          have ne : ¬ e.1 = 0 := by omega
          refine u_X11_readAct_86 (d1' := 13) (show zRf (mfH h2 e) from R2.1) (by omega) ?_
          by_cases c9 : t.1 = 9
          · simp (disch := omega) only [xle_t, xle_f, xlt_t, xlt_f, xeq_t, xeq_f, xle0_t, xle0_f, xlt0_f, x0lt_t, x0lt_f, x0le_t, xeq0_t, xeq0_f, xin, xem_f, xme_f, xlem_f, xlm_f, xml_t, xmle_t, nI_clamp, nI_add, pk_mul, pk_sub, zI_s, zI_k, zI_o, zL_s, zL_k, zL_o, zR_s, zR_k, zR_o, zIL, zIR, zIN, zLI, zLR, zLN, zRI, zRL, zRN, true_and, and_true, not_true_eq_false, not_false_eq_true, true_implies, false_implies, implies_true, forall_const, if_true, if_false, eq_self, false_and, and_false, implies_true, nI_l, ylle_t, ylle_f, xcl_t, xcl_f, c9]
            refine n_takesW (h := mfH h2 e) R2.1 e11 he (by omega) ?_
            refine u_X11_readAct_100 (show zRf (mfH h2 e) from R2.1) ?_
            simp (disch := omega) only [xle_t, xle_f, xlt_t, xlt_f, xeq_t, xeq_f, xle0_t, xle0_f, xlt0_f, x0lt_t, x0lt_f, x0le_t, xeq0_t, xeq0_f, xin, xem_f, xme_f, xlem_f, xlm_f, xml_t, xmle_t, nI_clamp, nI_add, pk_mul, pk_sub, zI_s, zI_k, zI_o, zL_s, zL_k, zL_o, zR_s, zR_k, zR_o, zIL, zIR, zIN, zLI, zLR, zLN, zRI, zRL, zRN, true_and, and_true, not_true_eq_false, not_false_eq_true, true_implies, false_implies, implies_true, forall_const, if_true, if_false, eq_self, false_and, and_false, implies_true, nI_l, ylle_t, ylle_f, xcl_t, xcl_f, e11, ne]
            exact kf
          · simp (disch := omega) only [xle_t, xle_f, xlt_t, xlt_f, xeq_t, xeq_f, xle0_t, xle0_f, xlt0_f, x0lt_t, x0lt_f, x0le_t, xeq0_t, xeq0_f, xin, xem_f, xme_f, xlem_f, xlm_f, xml_t, xmle_t, nI_clamp, nI_add, pk_mul, pk_sub, zI_s, zI_k, zI_o, zL_s, zL_k, zL_o, zR_s, zR_k, zR_o, zIL, zIR, zIN, zLI, zLR, zLN, zRI, zRL, zRN, true_and, and_true, not_true_eq_false, not_false_eq_true, true_implies, false_implies, implies_true, forall_const, if_true, if_false, eq_self, false_and, and_false, implies_true, nI_l, ylle_t, ylle_f, xcl_t, xcl_f, c9, e11, ne]
            exact kf
        · simp only [pn] at k0 k1
          have vb := pNum_b pn
          have w3 := R3.2.2.2.2
          have qm3 : pMm P h3 := qm2.keep (f3.1.i (by omega))
          have e753 : h3.1 115 75 = nI P.2.1 := qm3.2.1
          refine u_X11_readAct_86 (d1' := 13) R3.1 (by omega) ?_
          by_cases c9 : t.1 = 9
          · simp only [if_pos c9] at k0 k1
            simp (disch := omega) only [xle_t, xle_f, xlt_t, xlt_f, xeq_t, xeq_f, xle0_t, xle0_f, xlt0_f, x0lt_t, x0lt_f, x0le_t, xeq0_t, xeq0_f, xin, xem_f, xme_f, xlem_f, xlm_f, xml_t, xmle_t, nI_clamp, nI_add, pk_mul, pk_sub, zI_s, zI_k, zI_o, zL_s, zL_k, zL_o, zR_s, zR_k, zR_o, zIL, zIR, zIN, zLI, zLR, zLN, zRI, zRL, zRN, true_and, and_true, not_true_eq_false, not_false_eq_true, true_implies, false_implies, implies_true, forall_const, if_true, if_false, eq_self, false_and, and_false, implies_true, nI_l, ylle_t, ylle_f, xcl_t, xcl_f, c9]
            refine n_takes hZ R3 (by omega) (by omega) (by omega) (fun e v2 pn2 he => ?_) (fun v2 h4 pn2 R4 f4 => ?_)
            · simp only [pn2] at k0
              have e11 := mfH_1 h3 e
              have kf := k0 e (mfH h3 e) rfl he R3.1 ((f2.v.trans f3.v).trans (mfH_v h3 e)) e11 (mfH_2 h3 e)
              have ne : ¬ e.1 = 0 := by omega
              refine u_X11_readAct_100 (show zRf (mfH h3 e) from R3.1) ?_
              simp (disch := omega) only [xle_t, xle_f, xlt_t, xlt_f, xeq_t, xeq_f, xle0_t, xle0_f, xlt0_f, x0lt_t, x0lt_f, x0le_t, xeq0_t, xeq0_f, xin, xem_f, xme_f, xlem_f, xlm_f, xml_t, xmle_t, nI_clamp, nI_add, pk_mul, pk_sub, zI_s, zI_k, zI_o, zL_s, zL_k, zL_o, zR_s, zR_k, zR_o, zIL, zIR, zIN, zLI, zLR, zLN, zRI, zRL, zRN, true_and, and_true, not_true_eq_false, not_false_eq_true, true_implies, false_implies, implies_true, forall_const, if_true, if_false, eq_self, false_and, and_false, implies_true, nI_l, ylle_t, ylle_f, xcl_t, xcl_f, e11, ne]
              exact kf
            · simp only [pn2] at k1
              have vb2 := pNum_b pn2
              have w4 := R4.2.2.2.2
              have qm4 : pMm P h4 := qm3.keep (f4.1.i (by omega))
              have e754 : h4.1 115 75 = nI P.2.1 := qm4.2.1
              have fin := put (3, v, v2) (kNx f n (kNx f n (kNx f n t))) h4
              refine u_X11_readAct_100 R4.1 ?_
              simp (disch := omega) only [xle_t, xle_f, xlt_t, xlt_f, xeq_t, xeq_f, xle0_t, xle0_f, xlt0_f, x0lt_t, x0lt_f, x0le_t, xeq0_t, xeq0_f, xin, xem_f, xme_f, xlem_f, xlm_f, xml_t, xmle_t, nI_clamp, nI_add, pk_mul, pk_sub, zI_s, zI_k, zI_o, zL_s, zL_k, zL_o, zR_s, zR_k, zR_o, zIL, zIR, zIN, zLI, zLR, zLN, zRI, zRL, zRN, true_and, and_true, not_true_eq_false, not_false_eq_true, true_implies, false_implies, implies_true, forall_const, if_true, if_false, eq_self, false_and, and_false, implies_true, nI_l, ylle_t, ylle_f, xcl_t, xcl_f, w4, c9, e754]
              exact fin _ ⟨by omega, by show 3 ≤ 4; omega, vb.2, vb2.2⟩ (by show _ = (3 + 6) * 100 + 10 * v + v2; omega) qm4 R4 ((f2.v.trans f3.v).trans f4.v) (fun h' a1 a2 a3 a4 => k1 _ _ h' rfl a1 a2 a3 a4)
          · simp only [if_neg c9] at k1
            have fin := put (t.1 - 6, v, 0) (kNx f n (kNx f n t)) h3
            simp (disch := omega) only [xle_t, xle_f, xlt_t, xlt_f, xeq_t, xeq_f, xle0_t, xle0_f, xlt0_f, x0lt_t, x0lt_f, x0le_t, xeq0_t, xeq0_f, xin, xem_f, xme_f, xlem_f, xlm_f, xml_t, xmle_t, nI_clamp, nI_add, pk_mul, pk_sub, zI_s, zI_k, zI_o, zL_s, zL_k, zL_o, zR_s, zR_k, zR_o, zIL, zIR, zIN, zLI, zLR, zLN, zRI, zRL, zRN, true_and, and_true, not_true_eq_false, not_false_eq_true, true_implies, false_implies, implies_true, forall_const, if_true, if_false, eq_self, false_and, and_false, implies_true, nI_l, ylle_t, ylle_f, xcl_t, xcl_f, c9, w3, e753]
            exact fin _ ⟨by omega, by show t.1 - 6 ≤ 4; omega, vb.2, by show 0 ≤ 7; omega⟩ (by show _ = (t.1 - 6 + 6) * 100 + 10 * v + 0; omega) qm3 R3 (f2.v.trans f3.v) (fun h' a1 a2 a3 a4 => k1 _ _ h' rfl a1 a2 a3 a4)
    · simp only [if_neg c4] at k0
      have e4 : P.2.1 = 40 := by omega
      have kf := k0 (pFl t 4) (mfH h (pFl t 4)) rfl (pFl_1 t (by omega) (by omega)) hr (mfH_v h _) (mfH_1 h _) (mfH_2 h _)
      unfold pFl mfH at kf
      rw [if_neg (by omega)] at kf
      have n15 : ¬ t.1 = 15 := by omega
      simp (disch := omega) only [xle_t, xle_f, xlt_t, xlt_f, xeq_t, xeq_f, xle0_t, xle0_f, xlt0_f, x0lt_t, x0lt_f, x0le_t, xeq0_t, xeq0_f, xin, xem_f, xme_f, xlem_f, xlm_f, xml_t, xmle_t, nI_clamp, nI_add, pk_mul, pk_sub, zI_s, zI_k, zI_o, zL_s, zL_k, zL_o, zR_s, zR_k, zR_o, zIL, zIR, zIN, zLI, zLR, zLN, zRI, zRL, zRN, true_and, and_true, not_true_eq_false, not_false_eq_true, true_implies, false_implies, implies_true, forall_const, if_true, if_false, eq_self, false_and, and_false, implies_true, nI_l, ylle_t, ylle_f, xcl_t, xcl_f, h0, q9, y_6, y_10, e75, e4, n15, q6]
      exact kf
  · simp only [if_neg c] at k0
    have kf := k0 (pFl t 2) (mfH h (pFl t 2)) rfl (pFl_1 t (by omega) (by omega)) hr (mfH_v h _) (mfH_1 h _) (mfH_2 h _)
    unfold pFl mfH at kf
    by_cases c15 : t.1 = 15
    · rw [if_pos c15] at kf
      simp (disch := omega) only [xle_t, xle_f, xlt_t, xlt_f, xeq_t, xeq_f, xle0_t, xle0_f, xlt0_f, x0lt_t, x0lt_f, x0le_t, xeq0_t, xeq0_f, xin, xem_f, xme_f, xlem_f, xlm_f, xml_t, xmle_t, nI_clamp, nI_add, pk_mul, pk_sub, zI_s, zI_k, zI_o, zL_s, zL_k, zL_o, zR_s, zR_k, zR_o, zIL, zIR, zIN, zLI, zLR, zLN, zRI, zRL, zRN, true_and, and_true, not_true_eq_false, not_false_eq_true, true_implies, false_implies, implies_true, forall_const, if_true, if_false, eq_self, false_and, and_false, implies_true, nI_l, ylle_t, ylle_f, xcl_t, xcl_f, h0, q9, c15, y_6, y_10, q6]
      exact kf
    · rw [if_neg c15] at kf
      by_cases c6 : 6 ≤ t.1
      · have c10 : ¬ t.1 ≤ 10 := fun y => c ⟨c6, y⟩
        simp (disch := omega) only [xle_t, xle_f, xlt_t, xlt_f, xeq_t, xeq_f, xle0_t, xle0_f, xlt0_f, x0lt_t, x0lt_f, x0le_t, xeq0_t, xeq0_f, xin, xem_f, xme_f, xlem_f, xlm_f, xml_t, xmle_t, nI_clamp, nI_add, pk_mul, pk_sub, zI_s, zI_k, zI_o, zL_s, zL_k, zL_o, zR_s, zR_k, zR_o, zIL, zIR, zIN, zLI, zLR, zLN, zRI, zRL, zRN, true_and, and_true, not_true_eq_false, not_false_eq_true, true_implies, false_implies, implies_true, forall_const, if_true, if_false, eq_self, false_and, and_false, implies_true, nI_l, ylle_t, ylle_f, xcl_t, xcl_f, h0, q9, y_6, y_10, c15, c6, c10, q6]
        exact kf
      · simp (disch := omega) only [xle_t, xle_f, xlt_t, xlt_f, xeq_t, xeq_f, xle0_t, xle0_f, xlt0_f, x0lt_t, x0lt_f, x0le_t, xeq0_t, xeq0_f, xin, xem_f, xme_f, xlem_f, xlm_f, xml_t, xmle_t, nI_clamp, nI_add, pk_mul, pk_sub, zI_s, zI_k, zI_o, zL_s, zL_k, zL_o, zR_s, zR_k, zR_o, zIL, zIR, zIN, zLI, zLR, zLN, zRI, zRL, zRN, true_and, and_true, not_true_eq_false, not_false_eq_true, true_implies, false_implies, implies_true, forall_const, if_true, if_false, eq_self, false_and, and_false, implies_true, nI_l, ylle_t, ylle_f, xcl_t, xcl_f, h0, q9, y_6, y_10, c15, c6, q6]
        exact kf
theorem n_actW {h : MH} {d e : Nat} {Q : Option MV → MH → Prop} (hr : zRf h) (h0 : h.1 111 11 = nI e) (he : 1 ≤ e ∧ e ≤ 4) (hd : 1 ≤ d) (kk : Q none h) : Con mX11_readAct d 0 0 [.inr (.inr 111)] h Q := by
  refine u_X11_readAct (d1' := 0) (d2' := 0) (d3' := 0) (d4' := 0) (d5' := 0) (d6' := 0) (d7' := 0) hr (by omega) (by omega) (by omega) (by omega) (by omega) (by omega) (by omega) (by omega) ?_
  simp (disch := omega) only [xle_t, xle_f, xlt_t, xlt_f, xeq_t, xeq_f, xle0_t, xle0_f, xlt0_f, x0lt_t, x0lt_f, x0le_t, xeq0_t, xeq0_f, xin, xem_f, xme_f, xlem_f, xlm_f, xml_t, xmle_t, nI_clamp, nI_add, pk_mul, pk_sub, zI_s, zI_k, zI_o, zL_s, zL_k, zL_o, zR_s, zR_k, zR_o, zIL, zIR, zIN, zLI, zLR, zLN, zRI, zRL, zRN, true_and, and_true, not_true_eq_false, not_false_eq_true, true_implies, false_implies, implies_true, forall_const, if_true, if_false, eq_self, false_and, and_false, implies_true, nI_l, ylle_t, ylle_f, xcl_t, xcl_f, h0]
  exact kk
