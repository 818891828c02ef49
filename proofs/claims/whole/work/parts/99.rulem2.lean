/-! ===== the reference's readRule, plan text, cellar text ===== -/
theorem pActs_s (f : Nat → Nat) (n m : Nat) (t : TK) (P : PL) : pActs f n (m + 1) t P = match pAct f n t P.2.1 with
    | .inl e => .inl e
    | .inr (a, t1) => if t1.1 = 5 then pActs f n m (kNx f n t1) (pAddA P a) else if t1.1 = 13 then .inr (pAddA P a, t1) else .inl (pFl t1 2) := rfl
theorem n_rule {f : Nat → Nat} {n : Nat} {t : TK} {P : PL} {h : MH} {d : Nat} {Q : Option MV → MH → Prop} (hZ : kStr) (hP : pOK P) (R : mR f n t h) (q : pMd P h) (hd : 15 ≤ d) (k0 : ∀ e h', pRu f n t P = .inl e → (1 ≤ e.1 ∧ e.1 ≤ 4) → zRf h' → mV h h' → h'.1 111 11 = nI e.1 → h'.1 111 12 = nI e.2 → Q none h') (k1 : ∀ P' t' h', pRu f n t P = .inr (P', t') → mR f n (kNx f n t') h' → mV h h' → pMd P' h' → pOK P' → P'.1 = P.1 + 1 → Q none h') : Con mX11_readRule d 0 0 [.inr (.inr 111)] h Q := by
  have R0 := R
  obtain ⟨hr, hk, ⟨q8, q6, q7, q9, q10⟩, hG, h0⟩ := R
  have h15 := hG.1
  have h20 := hP.1
  have h40 := hP.2.1
  have e74 : h.1 115 74 = nI P.1 := q.1
  have e75 : h.1 115 75 = nI P.2.1 := q.2.1
  have err : ∀ (k : Nat), pRu f n t P = .inl (pFl t k) → 1 ≤ k → k ≤ 4 → J mX11_readRule d 0 0 Q 0 0 43 [some (.inr (.inr 111)), some (.inl (nI P.1)), none] [] (mfH h (pFl t k)) := by
    intro k pe ha hb
    have fl := pFl_1 t ha hb
    have e11 := mfH_1 h (pFl t k)
    have kf := k0 _ (mfH h (pFl t k)) pe fl hr (mfH_v h _) e11 (mfH_2 h _)
    have ne : ¬ (pFl t k).1 = 0 := by omega
    refine u_X11_readRule_43 (d1' := 12) (d2' := 12) (show zRf (mfH h (pFl t k)) from hr) (by omega) (by omega) ?_
    simp (disch := omega) only [xle_t, xle_f, xlt_t, xlt_f, xeq_t, xeq_f, xle0_t, xle0_f, xlt0_f, x0lt_t, x0lt_f, x0le_t, xeq0_t, xeq0_f, xin, xem_f, xme_f, xlem_f, xlm_f, xml_t, xmle_t, nI_clamp, nI_add, pk_mul, pk_sub, zI_s, zI_k, zI_o, zL_s, zL_k, zL_o, zR_s, zR_k, zR_o, zIL, zIR, zIN, zLI, zLR, zLN, zRI, zRL, zRN, true_and, and_true, not_true_eq_false, not_false_eq_true, true_implies, false_implies, implies_true, forall_const, if_true, if_false, eq_self, false_and, and_false, implies_true, nI_l, ylle_t, ylle_f, xcl_t, xcl_f, e11, ne]
    exact kf
  have T : ∀ (e : Nat × Nat) (g : MH) (v : Int32), (1 ≤ e.1 ∧ e.1 ≤ 4) → pRu f n t P = .inl e → zRf g → mV h g → g.1 111 11 = nI e.1 → g.1 111 12 = nI e.2 → J mX11_readRule d 0 0 Q 0 0 113 [some (.inr (.inr 111)), some (.inl (nI P.1)), some (.inl v)] [] g := by
    intro e g v he pe rg vg a1 a2
    refine u_X11_readRule_113 (d1' := 13) rg (by omega) ?_
    refine n_eatsW rg a1 he (by omega) ?_
    refine u_X11_readRule_118 (d1' := 14) (d2' := 14) rg (by omega) (by omega) ?_
    simp (disch := omega) only [xle_t, xle_f, xlt_t, xlt_f, xeq_t, xeq_f, xle0_t, xle0_f, xlt0_f, x0lt_t, x0lt_f, x0le_t, xeq0_t, xeq0_f, xin, xem_f, xme_f, xlem_f, xlm_f, xml_t, xmle_t, nI_clamp, nI_add, pk_mul, pk_sub, zI_s, zI_k, zI_o, zL_s, zL_k, zL_o, zR_s, zR_k, zR_o, zIL, zIR, zIN, zLI, zLR, zLN, zRI, zRL, zRN, true_and, and_true, not_true_eq_false, not_false_eq_true, true_implies, false_implies, implies_true, forall_const, if_true, if_false, eq_self, false_and, and_false, implies_true, nI_l, ylle_t, ylle_f, xcl_t, xcl_f]
    refine n_needsW rg a1 he (by omega) ?_
    refine u_X11_readRule_134 rg ?_
    exact k0 e _ pe he rg (vg.trans (mV_5 _ _ _)) ((zI_p _ _ _ _ (by decide)).trans a1) ((zI_p _ _ _ _ (by decide)).trans a2)
  have A : ∀ (m : Nat) (P1 : PL) (t1 : TK) (g : MH) (v : Int32) (Qc : Option MV → MH → Prop), 41 ≤ m + P1.2.1 → pOK P1 → P1.1 = P.1 + 1 → mR f n t1 g → mV h g → pMm P1 g → pRu f n t P = pActs f n m t1 P1 → (∀ h', J mX11_readRule d 0 0 Q 0 0 113 [some (.inr (.inr 111)), some (.inl (nI P.1)), some (.inl v)] [] h' → Qc none h') → Con mX11_readAct 14 0 0 [.inr (.inr 111)] g Qc := by
    intro m
    induction m with
    | zero =>
      intro P1 t1 g v Qc hm hO1 hn1 Rg vg qg pe kc
      have := hO1.2.1
      omega
    | succ m ih =>
      intro P1 t1 g v Qc hm hO1 hn1 Rg vg qg pe kc
      rw [pActs_s] at pe
      refine n_act hZ hO1 Rg qg (by omega) (by omega) (fun e h2 pa he r2 v2 a1 a2 => ?_) (fun a t2 h2 pa R2 v2 q2 hO2 => ?_)
      · simp only [pa] at pe
        exact kc h2 (T e h2 v he pe r2 (vg.trans v2) a1 a2)
      · simp only [pa] at pe
        have hn2 : (pAddA P1 a).1 = P.1 + 1 := hn1
        refine kc h2 (u_X11_readRule_113 (d1' := 13) R2.1 (by omega) ?_)
        refine n_eats hZ R2 (by omega) (by omega) (fun z => ?_) (fun h3 z R3 f3 => ?_)
        · rw [if_neg z] at pe
          refine u_X11_readRule_118 (d1' := 14) (d2' := 14) R2.1 (by omega) (by omega) ?_
          simp (disch := omega) only [xle_t, xle_f, xlt_t, xlt_f, xeq_t, xeq_f, xle0_t, xle0_f, xlt0_f, x0lt_t, x0lt_f, x0le_t, xeq0_t, xeq0_f, xin, xem_f, xme_f, xlem_f, xlm_f, xml_t, xmle_t, nI_clamp, nI_add, pk_mul, pk_sub, zI_s, zI_k, zI_o, zL_s, zL_k, zL_o, zR_s, zR_k, zR_o, zIL, zIR, zIN, zLI, zLR, zLN, zRI, zRL, zRN, true_and, and_true, not_true_eq_false, not_false_eq_true, true_implies, false_implies, implies_true, forall_const, if_true, if_false, eq_self, false_and, and_false, implies_true, nI_l, ylle_t, ylle_f, xcl_t, xcl_f]
          refine n_needs hZ R2 (by omega) (by omega) (fun y => ?_) (fun h4 y R4 f4 => ?_)
          · rw [if_neg y] at pe
            refine u_X11_readRule_134 (show zRf (mfH h2 (pFl t2 2)) from R2.1) ?_
            exact k0 _ _ pe (pFl_1 t2 (by omega) (by omega)) R2.1 (((vg.trans v2).trans (mfH_v h2 _)).trans (mV_5 _ _ _)) ((zI_p _ _ _ _ (by decide)).trans (mfH_1 h2 _)) ((zI_p _ _ _ _ (by decide)).trans (mfH_2 h2 _))
          · rw [if_pos y] at pe
            have q4 : pMm (pAddA P1 a) h4 := q2.keep (f4.1.i (by omega))
            have x74 : h4.1 115 74 = nI P.1 := by rw [q4.1, hn2]; rfl
            have fin := k1 _ _ (zsI h4 115 74 (nI (pAddA P1 a).1)) pe (mR_5 R4 _ _) (((vg.trans v2).trans f4.v).trans (mV_5 _ _ _)) (pMm_end q4 (by omega)) hO2 hn2
            rw [hn2] at fin
            refine u_X11_readRule_134 R4.1 ?_
            simp (disch := omega) only [xle_t, xle_f, xlt_t, xlt_f, xeq_t, xeq_f, xle0_t, xle0_f, xlt0_f, x0lt_t, x0lt_f, x0le_t, xeq0_t, xeq0_f, xin, xem_f, xme_f, xlem_f, xlm_f, xml_t, xmle_t, nI_clamp, nI_add, pk_mul, pk_sub, zI_s, zI_k, zI_o, zL_s, zL_k, zL_o, zR_s, zR_k, zR_o, zIL, zIR, zIN, zLI, zLR, zLN, zRI, zRL, zRN, true_and, and_true, not_true_eq_false, not_false_eq_true, true_implies, false_implies, implies_true, forall_const, if_true, if_false, eq_self, false_and, and_false, implies_true, nI_l, ylle_t, ylle_f, xcl_t, xcl_f, x74]
            exact fin
        · rw [if_pos z] at pe
          refine u_X11_readRule_118 (d1' := 14) (d2' := 14) R3.1 (by omega) (by omega) ?_
          simp (disch := omega) only [xle_t, xle_f, xlt_t, xlt_f, xeq_t, xeq_f, xle0_t, xle0_f, xlt0_f, x0lt_t, x0lt_f, x0le_t, xeq0_t, xeq0_f, xin, xem_f, xme_f, xlem_f, xlm_f, xml_t, xmle_t, nI_clamp, nI_add, pk_mul, pk_sub, zI_s, zI_k, zI_o, zL_s, zL_k, zL_o, zR_s, zR_k, zR_o, zIL, zIR, zIN, zLI, zLR, zLN, zRI, zRL, zRN, true_and, and_true, not_true_eq_false, not_false_eq_true, true_implies, false_implies, implies_true, forall_const, if_true, if_false, eq_self, false_and, and_false, implies_true, nI_l, ylle_t, ylle_f, xcl_t, xcl_f]
          refine ih (pAddA P1 a) _ h3 v _ (by show 41 ≤ m + (P1.2.1 + 1); omega) hO2 hn2 R3 ((vg.trans v2).trans f3.v) (q2.keep (f3.1.i (by omega))) pe (fun h' hj => ?_)
          exact u_X11_readRule_125 hj
  refine u_X11_readRule hr (by omega) ?_
  have zA : ∀ g' : MH, zRf g' → ∀ j, j < 236 → zokA g' 115 20 (nI j) := fun g' rg' j hj => zia rg' (by decide) rfl (vp_in_nI (by omega) (by omega))
  by_cases c4 : t.1 = 4
  · have n3 : ¬ t.1 = 3 := by omega
    by_cases c20 : P.1 < 20
    · have nc : ¬ P.1 = 20 := by omega
      have pe : pRu f n t P = match pNum (kNx f n t) 0 7 with
        | .inl e => .inl e
        | .inr b => pActs f n 41 (kNx f n (kNx f n t)) (pAddR P b) := by unfold pRu; rw [if_pos c4, if_pos c20]; cases pNum (kNx f n t) 0 7 <;> rfl
      simp (disch := omega) only [xle_t, xle_f, xlt_t, xlt_f, xeq_t, xeq_f, xle0_t, xle0_f, xlt0_f, x0lt_t, x0lt_f, x0le_t, xeq0_t, xeq0_f, xin, xem_f, xme_f, xlem_f, xlm_f, xml_t, xmle_t, nI_clamp, nI_add, pk_mul, pk_sub, zI_s, zI_k, zI_o, zL_s, zL_k, zL_o, zR_s, zR_k, zR_o, zIL, zIR, zIN, zLI, zLR, zLN, zRI, zRL, zRN, true_and, and_true, not_true_eq_false, not_false_eq_true, true_implies, false_implies, implies_true, forall_const, if_true, if_false, eq_self, false_and, and_false, implies_true, nI_l, ylle_t, ylle_f, xcl_t, xcl_f, h0, q9, n3, c4, e74]
      refine u_X11_readRule_32 hr (by omega) ?_
      simp (disch := omega) only [xle_t, xle_f, xlt_t, xlt_f, xeq_t, xeq_f, xle0_t, xle0_f, xlt0_f, x0lt_t, x0lt_f, x0le_t, xeq0_t, xeq0_f, xin, xem_f, xme_f, xlem_f, xlm_f, xml_t, xmle_t, nI_clamp, nI_add, pk_mul, pk_sub, zI_s, zI_k, zI_o, zL_s, zL_k, zL_o, zR_s, zR_k, zR_o, zIL, zIR, zIN, zLI, zLR, zLN, zRI, zRL, zRN, true_and, and_true, not_true_eq_false, not_false_eq_true, true_implies, false_implies, implies_true, forall_const, if_true, if_false, eq_self, false_and, and_false, implies_true, nI_l, ylle_t, ylle_f, xcl_t, xcl_f, nc]
      refine u_X11_readRule_43 (d1' := 12) (d2' := 12) hr (by omega) (by omega) ?_
      simp (disch := omega) only [xle_t, xle_f, xlt_t, xlt_f, xeq_t, xeq_f, xle0_t, xle0_f, xlt0_f, x0lt_t, x0lt_f, x0le_t, xeq0_t, xeq0_f, xin, xem_f, xme_f, xlem_f, xlm_f, xml_t, xmle_t, nI_clamp, nI_add, pk_mul, pk_sub, zI_s, zI_k, zI_o, zL_s, zL_k, zL_o, zR_s, zR_k, zR_o, zIL, zIR, zIN, zLI, zLR, zLN, zRI, zRL, zRN, true_and, and_true, not_true_eq_false, not_false_eq_true, true_implies, false_implies, implies_true, forall_const, if_true, if_false, eq_self, false_and, and_false, implies_true, nI_l, ylle_t, ylle_f, xcl_t, xcl_f, h0, q9, n3]
      refine n_nxt hZ R0 (by omega) (fun h2 R2 f2 => ?_)
      have q2 : pMd P h2 := q.keep (f2.1.i (by omega))
      refine u_X11_readRule_69 (d1' := 13) (d2' := 14) R2.1 (by omega) (by omega) ?_
      simp (disch := omega) only [xle_t, xle_f, xlt_t, xlt_f, xeq_t, xeq_f, xle0_t, xle0_f, xlt0_f, x0lt_t, x0lt_f, x0le_t, xeq0_t, xeq0_f, xin, xem_f, xme_f, xlem_f, xlm_f, xml_t, xmle_t, nI_clamp, nI_add, pk_mul, pk_sub, zI_s, zI_k, zI_o, zL_s, zL_k, zL_o, zR_s, zR_k, zR_o, zIL, zIR, zIN, zLI, zLR, zLN, zRI, zRL, zRN, true_and, and_true, not_true_eq_false, not_false_eq_true, true_implies, false_implies, implies_true, forall_const, if_true, if_false, eq_self, false_and, and_false, implies_true, nI_l, ylle_t, ylle_f, xcl_t, xcl_f]
      refine n_takes hZ R2 (by omega) (by omega) (by omega) (fun e x pn he => ?_) (fun x h3 pn R3 f3 => ?_)
      · simp only [pn] at pe
        have z1 := zA (mfH h2 e) R2.1 (76 + P.1) (by omega)
        have a1 := mfH_1 h2 e
        have a2 := mfH_2 h2 e
        refine u_X11_readRule_92 (d1' := 14) (show zRf (mfH h2 e) from R2.1) (by omega) ?_
        simp (disch := omega) only [xle_t, xle_f, xlt_t, xlt_f, xeq_t, xeq_f, xle0_t, xle0_f, xlt0_f, x0lt_t, x0lt_f, x0le_t, xeq0_t, xeq0_f, xin, xem_f, xme_f, xlem_f, xlm_f, xml_t, xmle_t, nI_clamp, nI_add, pk_mul, pk_sub, zI_s, zI_k, zI_o, zL_s, zL_k, zL_o, zR_s, zR_k, zR_o, zIL, zIR, zIN, zLI, zLR, zLN, zRI, zRL, zRN, true_and, and_true, not_true_eq_false, not_false_eq_true, true_implies, false_implies, implies_true, forall_const, if_true, if_false, eq_self, false_and, and_false, implies_true, nI_l, ylle_t, ylle_f, xcl_t, xcl_f, z1]
        refine n_actW (e := e.1) R2.1 ?_ he (by omega) (T e _ _ he pe R2.1 (((f2.v.trans (mfH_v h2 e)).trans (mV_5 _ _ _)).trans (mV_5 _ _ _)) ?_ ?_)
        · rw [zI_p _ _ _ _ (by decide), zI_p _ _ _ _ (by decide)]; exact a1
        · rw [zI_p _ _ _ _ (by decide), zI_p _ _ _ _ (by decide)]; exact a1
        · rw [zI_p _ _ _ _ (by decide), zI_p _ _ _ _ (by decide)]; exact a2
      · simp only [pn] at pe
        have xb := pNum_b pn
        have q3 : pMd P h3 := q2.keep (f3.1.i (by omega))
        have z1 := zA h3 R3.1 (76 + P.1) (by omega)
        have x75 : h3.1 115 75 = nI P.2.1 := q3.2.1
        have eb : pBy x = nI x := by unfold pBy; rw [if_pos (by omega)]
        have go := pMd_rule (b := x) q3 hP c20
        rw [eb] at go
        refine u_X11_readRule_92 (d1' := 14) R3.1 (by omega) ?_
        simp (disch := omega) only [xle_t, xle_f, xlt_t, xlt_f, xeq_t, xeq_f, xle0_t, xle0_f, xlt0_f, x0lt_t, x0lt_f, x0le_t, xeq0_t, xeq0_f, xin, xem_f, xme_f, xlem_f, xlm_f, xml_t, xmle_t, nI_clamp, nI_add, pk_mul, pk_sub, zI_s, zI_k, zI_o, zL_s, zL_k, zL_o, zR_s, zR_k, zR_o, zIL, zIR, zIN, zLI, zLR, zLN, zRI, zRL, zRN, true_and, and_true, not_true_eq_false, not_false_eq_true, true_implies, false_implies, implies_true, forall_const, if_true, if_false, eq_self, false_and, and_false, implies_true, nI_l, ylle_t, ylle_f, xcl_t, xcl_f, z1, x75]
        exact A 41 (pAddR P x) _ _ _ _ (by show 41 ≤ 41 + P.2.1; omega) (pAddR_ok hP c20 (by omega)) rfl (mR_5 (mR_5 R3 _ _) _ _) (((f2.v.trans f3.v).trans (mV_5 _ _ _)).trans (mV_5 _ _ _)) go pe (fun h' hj => hj)
    · have e20 : P.1 = 20 := by omega
      have pe : pRu f n t P = .inl (pFl t 4) := by unfold pRu; rw [if_pos c4, if_neg c20]
      have kf := err 4 pe (by omega) (by omega)
      unfold pFl mfH at kf
      rw [if_neg (by omega)] at kf
      simp (disch := omega) only [xle_t, xle_f, xlt_t, xlt_f, xeq_t, xeq_f, xle0_t, xle0_f, xlt0_f, x0lt_t, x0lt_f, x0le_t, xeq0_t, xeq0_f, xin, xem_f, xme_f, xlem_f, xlm_f, xml_t, xmle_t, nI_clamp, nI_add, pk_mul, pk_sub, zI_s, zI_k, zI_o, zL_s, zL_k, zL_o, zR_s, zR_k, zR_o, zIL, zIR, zIN, zLI, zLR, zLN, zRI, zRL, zRN, true_and, and_true, not_true_eq_false, not_false_eq_true, true_implies, false_implies, implies_true, forall_const, if_true, if_false, eq_self, false_and, and_false, implies_true, nI_l, ylle_t, ylle_f, xcl_t, xcl_f, h0, q9, n3, c4, e74]
      refine u_X11_readRule_32 hr (by omega) ?_
      rw [e20] at kf ⊢
      simp (disch := omega) only [xle_t, xle_f, xlt_t, xlt_f, xeq_t, xeq_f, xle0_t, xle0_f, xlt0_f, x0lt_t, x0lt_f, x0le_t, xeq0_t, xeq0_f, xin, xem_f, xme_f, xlem_f, xlm_f, xml_t, xmle_t, nI_clamp, nI_add, pk_mul, pk_sub, zI_s, zI_k, zI_o, zL_s, zL_k, zL_o, zR_s, zR_k, zR_o, zIL, zIR, zIN, zLI, zLR, zLN, zRI, zRL, zRN, true_and, and_true, not_true_eq_false, not_false_eq_true, true_implies, false_implies, implies_true, forall_const, if_true, if_false, eq_self, false_and, and_false, implies_true, nI_l, ylle_t, ylle_f, xcl_t, xcl_f, h0, q9, c4, q6]
      exact kf
  · by_cases c3 : t.1 = 3
    · by_cases c20 : P.1 < 20
      · have nc : ¬ P.1 = 20 := by omega
        have pe : pRu f n t P = pActs f n 41 (kNx f n t) (pAddR P 8) := by unfold pRu; rw [if_neg c4, if_pos c3, if_pos c20]
        simp (disch := omega) only [xle_t, xle_f, xlt_t, xlt_f, xeq_t, xeq_f, xle0_t, xle0_f, xlt0_f, x0lt_t, x0lt_f, x0le_t, xeq0_t, xeq0_f, xin, xem_f, xme_f, xlem_f, xlm_f, xml_t, xmle_t, nI_clamp, nI_add, pk_mul, pk_sub, zI_s, zI_k, zI_o, zL_s, zL_k, zL_o, zR_s, zR_k, zR_o, zIL, zIR, zIN, zLI, zLR, zLN, zRI, zRL, zRN, true_and, and_true, not_true_eq_false, not_false_eq_true, true_implies, false_implies, implies_true, forall_const, if_true, if_false, eq_self, false_and, and_false, implies_true, nI_l, ylle_t, ylle_f, xcl_t, xcl_f, h0, q9, c3, e74]
        refine u_X11_readRule_32 hr (by omega) ?_
        simp (disch := omega) only [xle_t, xle_f, xlt_t, xlt_f, xeq_t, xeq_f, xle0_t, xle0_f, xlt0_f, x0lt_t, x0lt_f, x0le_t, xeq0_t, xeq0_f, xin, xem_f, xme_f, xlem_f, xlm_f, xml_t, xmle_t, nI_clamp, nI_add, pk_mul, pk_sub, zI_s, zI_k, zI_o, zL_s, zL_k, zL_o, zR_s, zR_k, zR_o, zIL, zIR, zIN, zLI, zLR, zLN, zRI, zRL, zRN, true_and, and_true, not_true_eq_false, not_false_eq_true, true_implies, false_implies, implies_true, forall_const, if_true, if_false, eq_self, false_and, and_false, implies_true, nI_l, ylle_t, ylle_f, xcl_t, xcl_f, nc]
        refine u_X11_readRule_43 (d1' := 12) (d2' := 12) hr (by omega) (by omega) ?_
        simp (disch := omega) only [xle_t, xle_f, xlt_t, xlt_f, xeq_t, xeq_f, xle0_t, xle0_f, xlt0_f, x0lt_t, x0lt_f, x0le_t, xeq0_t, xeq0_f, xin, xem_f, xme_f, xlem_f, xlm_f, xml_t, xmle_t, nI_clamp, nI_add, pk_mul, pk_sub, zI_s, zI_k, zI_o, zL_s, zL_k, zL_o, zR_s, zR_k, zR_o, zIL, zIR, zIN, zLI, zLR, zLN, zRI, zRL, zRN, true_and, and_true, not_true_eq_false, not_false_eq_true, true_implies, false_implies, implies_true, forall_const, if_true, if_false, eq_self, false_and, and_false, implies_true, nI_l, ylle_t, ylle_f, xcl_t, xcl_f, h0, q9, c3]
        refine n_nxt hZ R0 (by omega) (fun h2 R2 f2 => ?_)
        have q2 : pMd P h2 := q.keep (f2.1.i (by omega))
        have z1 := zA h2 R2.1 (76 + P.1) (by omega)
        have x75 : h2.1 115 75 = nI P.2.1 := q2.2.1
        have go := pMd_rule (b := 8) q2 hP c20
        rw [show pBy 8 = -(nI 1) from rfl] at go
        refine u_X11_readRule_69 (d1' := 13) (d2' := 14) R2.1 (by omega) (by omega) ?_
        simp (disch := omega) only [xle_t, xle_f, xlt_t, xlt_f, xeq_t, xeq_f, xle0_t, xle0_f, xlt0_f, x0lt_t, x0lt_f, x0le_t, xeq0_t, xeq0_f, xin, xem_f, xme_f, xlem_f, xlm_f, xml_t, xmle_t, nI_clamp, nI_add, pk_mul, pk_sub, zI_s, zI_k, zI_o, zL_s, zL_k, zL_o, zR_s, zR_k, zR_o, zIL, zIR, zIN, zLI, zLR, zLN, zRI, zRL, zRN, true_and, and_true, not_true_eq_false, not_false_eq_true, true_implies, false_implies, implies_true, forall_const, if_true, if_false, eq_self, false_and, and_false, implies_true, nI_l, ylle_t, ylle_f, xcl_t, xcl_f, z1, x75]
        exact A 41 (pAddR P 8) _ _ _ _ (by show 41 ≤ 41 + P.2.1; omega) (pAddR_ok hP c20 (by omega)) rfl (mR_5 (mR_5 R2 _ _) _ _) ((f2.v.trans (mV_5 _ _ _)).trans (mV_5 _ _ _)) go pe (fun h' hj => hj)
      · have e20 : P.1 = 20 := by omega
        have pe : pRu f n t P = .inl (pFl t 4) := by unfold pRu; rw [if_neg c4, if_pos c3, if_neg c20]
        have kf := err 4 pe (by omega) (by omega)
        unfold pFl mfH at kf
        rw [if_neg (by omega)] at kf
        simp (disch := omega) only [xle_t, xle_f, xlt_t, xlt_f, xeq_t, xeq_f, xle0_t, xle0_f, xlt0_f, x0lt_t, x0lt_f, x0le_t, xeq0_t, xeq0_f, xin, xem_f, xme_f, xlem_f, xlm_f, xml_t, xmle_t, nI_clamp, nI_add, pk_mul, pk_sub, zI_s, zI_k, zI_o, zL_s, zL_k, zL_o, zR_s, zR_k, zR_o, zIL, zIR, zIN, zLI, zLR, zLN, zRI, zRL, zRN, true_and, and_true, not_true_eq_false, not_false_eq_true, true_implies, false_implies, implies_true, forall_const, if_true, if_false, eq_self, false_and, and_false, implies_true, nI_l, ylle_t, ylle_f, xcl_t, xcl_f, h0, q9, c3, e74]
        refine u_X11_readRule_32 hr (by omega) ?_
        rw [e20] at kf ⊢
        simp (disch := omega) only [xle_t, xle_f, xlt_t, xlt_f, xeq_t, xeq_f, xle0_t, xle0_f, xlt0_f, x0lt_t, x0lt_f, x0le_t, xeq0_t, xeq0_f, xin, xem_f, xme_f, xlem_f, xlm_f, xml_t, xmle_t, nI_clamp, nI_add, pk_mul, pk_sub, zI_s, zI_k, zI_o, zL_s, zL_k, zL_o, zR_s, zR_k, zR_o, zIL, zIR, zIN, zLI, zLR, zLN, zRI, zRL, zRN, true_and, and_true, not_true_eq_false, not_false_eq_true, true_implies, false_implies, implies_true, forall_const, if_true, if_false, eq_self, false_and, and_false, implies_true, nI_l, ylle_t, ylle_f, xcl_t, xcl_f, h0, q9, c3, q6]
        exact kf
    · have pe : pRu f n t P = .inl (pFl t 2) := by unfold pRu; rw [if_neg c4, if_neg c3]
      have kf := err 2 pe (by omega) (by omega)
      unfold pFl mfH at kf
      by_cases c15 : t.1 = 15
      · rw [if_pos c15] at kf
        simp (disch := omega) only [xle_t, xle_f, xlt_t, xlt_f, xeq_t, xeq_f, xle0_t, xle0_f, xlt0_f, x0lt_t, x0lt_f, x0le_t, xeq0_t, xeq0_f, xin, xem_f, xme_f, xlem_f, xlm_f, xml_t, xmle_t, nI_clamp, nI_add, pk_mul, pk_sub, zI_s, zI_k, zI_o, zL_s, zL_k, zL_o, zR_s, zR_k, zR_o, zIL, zIR, zIN, zLI, zLR, zLN, zRI, zRL, zRN, true_and, and_true, not_true_eq_false, not_false_eq_true, true_implies, false_implies, implies_true, forall_const, if_true, if_false, eq_self, false_and, and_false, implies_true, nI_l, ylle_t, ylle_f, xcl_t, xcl_f, h0, q9, c15, e74, q6]
        exact kf
      · rw [if_neg c15] at kf
        simp (disch := omega) only [xle_t, xle_f, xlt_t, xlt_f, xeq_t, xeq_f, xle0_t, xle0_f, xlt0_f, x0lt_t, x0lt_f, x0le_t, xeq0_t, xeq0_f, xin, xem_f, xme_f, xlem_f, xlm_f, xml_t, xmle_t, nI_clamp, nI_add, pk_mul, pk_sub, zI_s, zI_k, zI_o, zL_s, zL_k, zL_o, zR_s, zR_k, zR_o, zIL, zIR, zIN, zLI, zLR, zLN, zRI, zRL, zRN, true_and, and_true, not_true_eq_false, not_false_eq_true, true_implies, false_implies, implies_true, forall_const, if_true, if_false, eq_self, false_and, and_false, implies_true, nI_l, ylle_t, ylle_f, xcl_t, xcl_f, h0, q9, c3, c4, c15, e74, q6]
        exact kf
