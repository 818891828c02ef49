/-! ===== doRules, play (class) ===== -/
def loI (lo : Nat) : Int32 := if lo < 40 then nI lo else -(nI 1)
theorem loI_eq {lo k : Nat} (hk : k < 40) : (nI k = loI lo) = (k = lo) := by
  unfold loI
  by_cases e : lo < 40
  · rw [if_pos e, xeq_i (by omega) (by omega)]
  · rw [if_neg e, xem_f (by omega)]
    exact (eq_false (by omega)).symm
theorem pBy_eq {b c : Nat} (hb : b ≤ 8) (hc : c ≤ 8) : (pBy b = pBy c) = (b = c) := by
  have hall : ∀ b, b ≤ 8 → ∀ c, c ≤ 8 → (pBy b = pBy c ↔ b = c) := by decide +kernel
  exact propext (hall b hb c hc)
def kP (P : PL) (pa lo : Nat) (h : MH) : Prop := h.2.2.1 48 14 = pa ∧ zokO h pa 5 ∧ pa + 5 < 48 ∧ pAt P h pa ∧ h.1 48 15 = loI lo
theorem kP.keep {P : PL} {pa lo : Nat} {h h' : MH} (q : kP P pa lo h) (f : kF h h') : kP P pa lo h' := by
  obtain ⟨q1, q2, q3, q4, q5⟩ := q
  refine ⟨f.2.1.trans q1, ⟨q2.1, ?_, q2.2.2⟩, q3, q4.keep (fun k hk => f.1.i (by omega)), f.2.2.trans q5⟩
  rw [f.1.2]; exact q2.2.1
theorem xbitL (x : Int64) {k : Nat} (hk : k < 64) {i : Nat} (hi : i < 64) : (x ||| (lN 1 <<< ((nI k).toInt64 &&& 63))).toBitVec.getLsbD i = (x.toBitVec.getLsbD i || decide (i = k)) := by
  rw [wb_shl 1 hk, Int64.toBitVec_or, BitVec.getLsbD_or, wb_tb, BitVec.getLsbD_ofNat, Nat.one_mul, decide_eq_true hi, Bool.true_and, Nat.testBit_two_pow]
  by_cases e : i = k
  · rw [decide_eq_true e, decide_eq_true e.symm]
  · rw [decide_eq_false e, decide_eq_false (fun z => e z.symm)]
theorem c_rules {P : PL} {n lo c pa : Nat} {R : RS} {h : MH} {d : Nat} {Q : Option MV → MH → Prop} (hr : zRf h) (hS : kS n R h) (hV : rV n R) (hp : kP P pa lo h) (hO : pOK P) (hc : c ≤ 8) (hbe : R.2.1.length + wg P c P.1 0 ≤ 40) (hli : R.2.2.2.2.1 + 2 * wg P c P.1 0 ≤ 1000) (hd : 3 ≤ d) (kk : ∀ h', zRf h' → kF h h' → kS n (rRules P n lo c P.1 0 R) h' → Q none h') : Con mX8_doRules d 0 0 [.inr (.inr 48), .inl (pBy c)] h Q := by
  have h20 := hO.1
  have h40 := hO.2.1
  refine u_X8_doRules ?_
  -- the acts of a rule
  have A : ∀ (r : Nat), r < P.1 → ∀ (X : Nat → Nat → RS → Prop), (∀ (k : Nat) (R' : RS) (g : MH), zRf g → kF h g → kS n R' g → rV n R' → J mX8_doRules d 0 0 Q 0 0 2 [some (.inr (.inr 48)), some (.inl (pBy c)), some (.inl (nI (r + 1))), some (.inl (nI k))] [] g ∨ ¬ X 0 k R') → (∀ m k R', X (m + 1) k R' → X m (k + 1) (if k = lo then R' else rAct n k (P.2.2.2.2 k) R')) → ∀ m k, k + m = P.2.2.2.1 r → ∀ (R' : RS) (g : MH), X m k R' → zRf g → kF h g → kS n R' g → rV n R' → R'.2.1.length + m ≤ 40 → R'.2.2.2.2.1 + 2 * m ≤ 1000 → J mX8_doRules d 0 0 Q 0 0 47 [some (.inr (.inr 48)), some (.inl (pBy c)), some (.inl (nI r)), some (.inl (nI k))] [] g := by
    intro r hrr X hX0 hX m
    have hU := (hO.2.2.1 r hrr).2.1
    induction m with
    | zero =>
      intro k hk R' g x0 rg fg sg vg b1 b2
      obtain ⟨p1, p2, p3, p4, p5⟩ := hp.keep fg
      refine u_X8_doRules_47 (d1' := 0) rg (by omega) ?_
      have e2 := (p4.2.2.1 r hrr).2
      simp (disch := omega) only [xle_t, xle_f, xlt_t, xlt_f, xeq_t, xeq_f, xle0_t, xle0_f, xlt0_f, x0lt_t, x0lt_f, x0le_t, xeq0_t, xeq0_f, xin, xem_f, xme_f, xlem_f, xlm_f, xml_t, xmle_t, nI_clamp, nI_add, pk_mul, pk_sub, zI_s, zI_k, zI_o, zL_s, zL_k, zL_o, zR_s, zR_k, zR_o, zIL, zIR, zIN, zLI, zLR, zLN, zRI, zRL, zRN, true_and, and_true, not_true_eq_false, not_false_eq_true, true_implies, false_implies, implies_true, forall_const, if_true, if_false, eq_self, false_and, and_false, implies_true, p1, p2, e2]
      rcases hX0 k R' g rg fg sg vg with z | z
      · exact z
      · exact absurd x0 z
    | succ m ih =>
      intro k hk R' g x0 rg fg sg vg b1 b2
      have hkp := hp.keep fg
      obtain ⟨p1, p2, p3, p4, p5⟩ := hkp
      have hx1 := hX m k R' x0
      refine u_X8_doRules_47 (d1' := 2) rg (by omega) ?_
      have e2 := (p4.2.2.1 r hrr).2
      have el := loI_eq (lo := lo) (k := k) (by omega)
      by_cases e : k = lo
      · rw [if_pos e] at hx1
        have el2 : (nI k = loI lo) = True := by rw [el]; exact eq_true e
        simp (disch := omega) only [xle_t, xle_f, xlt_t, xlt_f, xeq_t, xeq_f, xle0_t, xle0_f, xlt0_f, x0lt_t, x0lt_f, x0le_t, xeq0_t, xeq0_f, xin, xem_f, xme_f, xlem_f, xlm_f, xml_t, xmle_t, nI_clamp, nI_add, pk_mul, pk_sub, zI_s, zI_k, zI_o, zL_s, zL_k, zL_o, zR_s, zR_k, zR_o, zIL, zIR, zIN, zLI, zLR, zLN, zRI, zRL, zRN, true_and, and_true, not_true_eq_false, not_false_eq_true, true_implies, false_implies, implies_true, forall_const, if_true, if_false, eq_self, false_and, and_false, implies_true, p1, p2, e2, p5, el2]
        exact ih (k + 1) (by omega) R' g hx1 rg fg sg vg (by omega) (by omega)
      · rw [if_neg e] at hx1
        simp (disch := omega) only [xle_t, xle_f, xlt_t, xlt_f, xeq_t, xeq_f, xle0_t, xle0_f, xlt0_f, x0lt_t, x0lt_f, x0le_t, xeq0_t, xeq0_f, xin, xem_f, xme_f, xlem_f, xlm_f, xml_t, xmle_t, nI_clamp, nI_add, pk_mul, pk_sub, zI_s, zI_k, zI_o, zL_s, zL_k, zL_o, zR_s, zR_k, zR_o, zIL, zIR, zIN, zLI, zLR, zLN, zRI, zRL, zRN, true_and, and_true, not_true_eq_false, not_false_eq_true, true_implies, false_implies, implies_true, forall_const, if_true, if_false, eq_self, false_and, and_false, implies_true, p1, p2, e2, p5, el, e]
        obtain ⟨c1, c2, c3, c4, c5⟩ := rAct_b n k (P.2.2.2.2 k) R'
        refine c_actx (P := P) rg sg vg p1 p2 p4 hO (by omega) (by omega) (by omega) (by omega) (fun z => ?_) (fun g2 r2 f2 s2 => ?_)
        · refine u_X8_doRules_73 rg ?_
          simp (disch := omega) only [xle_t, xle_f, xlt_t, xlt_f, xeq_t, xeq_f, xle0_t, xle0_f, xlt0_f, x0lt_t, x0lt_f, x0le_t, xeq0_t, xeq0_f, xin, xem_f, xme_f, xlem_f, xlm_f, xml_t, xmle_t, nI_clamp, nI_add, pk_mul, pk_sub, zI_s, zI_k, zI_o, zL_s, zL_k, zL_o, zR_s, zR_k, zR_o, zIL, zIR, zIN, zLI, zLR, zLN, zRI, zRL, zRN, true_and, and_true, not_true_eq_false, not_false_eq_true, true_implies, false_implies, implies_true, forall_const, if_true, if_false, eq_self, false_and, and_false, implies_true]
          refine ih (k + 1) (by omega) _ _ hx1 rg (fg.trans kF_L) ?_ (rV_act vg) (by omega) (by omega)
          rw [z]
          obtain ⟨t1, t2, t3, t4⟩ := sg.2
          refine ⟨sg.1, t1, t2, fun i hi => ?_, t4⟩
          rw [zL_s, xbitL _ (by omega) hi, t3 i hi]
          show _ = kU R'.2.2.1 k true i
          by_cases y : i = k
          · rw [y, kU_s]; simp
          · rw [kU_o _ _ y, decide_eq_false y, Bool.or_false]
        · refine u_X8_doRules_73 r2 ?_
          simp (disch := omega) only [xle_t, xle_f, xlt_t, xlt_f, xeq_t, xeq_f, xle0_t, xle0_f, xlt0_f, x0lt_t, x0lt_f, x0le_t, xeq0_t, xeq0_f, xin, xem_f, xme_f, xlem_f, xlm_f, xml_t, xmle_t, nI_clamp, nI_add, pk_mul, pk_sub, zI_s, zI_k, zI_o, zL_s, zL_k, zL_o, zR_s, zR_k, zR_o, zIL, zIR, zIN, zLI, zLR, zLN, zRI, zRL, zRN, true_and, and_true, not_true_eq_false, not_false_eq_true, true_implies, false_implies, implies_true, forall_const, if_true, if_false, eq_self, false_and, and_false, implies_true]
          exact ih (k + 1) (by omega) _ _ hx1 r2 (fg.trans f2) s2 (rV_act vg) (by omega) (by omega)
  have L : ∀ m r, r + m = P.1 → ∀ (R' : RS) (g : MH) (u : Option MV), zRf g → kF h g → kS n R' g → rV n R' → R'.2.1.length + wg P c m r ≤ 40 → R'.2.2.2.2.1 + 2 * wg P c m r ≤ 1000 → rRules P n lo c m r R' = rRules P n lo c P.1 0 R → J mX8_doRules d 0 0 Q 0 0 2 [some (.inr (.inr 48)), some (.inl (pBy c)), some (.inl (nI r)), u] [] g := by
    intro m
    induction m with
    | zero =>
      intro r hrm R' g u rg fg sg vg b1 b2 e
      obtain ⟨p1, p2, p3, p4, p5⟩ := hp.keep fg
      refine u_X8_doRules_2 rg (by omega) ?_
      simp (disch := omega) only [xle_t, xle_f, xlt_t, xlt_f, xeq_t, xeq_f, xle0_t, xle0_f, xlt0_f, x0lt_t, x0lt_f, x0le_t, xeq0_t, xeq0_f, xin, xem_f, xme_f, xlem_f, xlm_f, xml_t, xmle_t, nI_clamp, nI_add, pk_mul, pk_sub, zI_s, zI_k, zI_o, zL_s, zL_k, zL_o, zR_s, zR_k, zR_o, zIL, zIR, zIN, zLI, zLR, zLN, zRI, zRL, zRN, true_and, and_true, not_true_eq_false, not_false_eq_true, true_implies, false_implies, implies_true, forall_const, if_true, if_false, eq_self, false_and, and_false, implies_true, p1, p2, p4.1]
      have e' : R' = rRules P n lo c P.1 0 R := e
      rw [e'] at sg
      exact kk g rg fg sg
    | succ m ih =>
      intro r hrm R' g u rg fg sg vg b1 b2 e
      have hkp := hp.keep fg
      obtain ⟨p1, p2, p3, p4, p5⟩ := hkp
      obtain ⟨o1, o2, o3⟩ := hO.2.2.1 r (by omega)
      have e' : rRules P n lo c m (r + 1) (if P.2.2.1 r = c then rActs P n lo (P.2.2.2.1 r - pFr P r) (pFr P r) (rDone R' r) else R') = rRules P n lo c P.1 0 R := e
      have w' : wg P c (m + 1) r = (if P.2.2.1 r = c then pCnt P r else 0) + wg P c m (r + 1) := rfl
      refine u_X8_doRules_2 rg (by omega) ?_
      have eb := (p4.2.2.1 r (by omega)).1
      have ebe := pBy_eq (b := P.2.2.1 r) (c := c) o1 hc
      by_cases z : P.2.2.1 r = c
      · rw [if_pos z] at e' w'
        have goal : J mX8_doRules d 0 0 Q 0 0 47 [some (.inr (.inr 48)), some (.inl (pBy c)), some (.inl (nI r)), some (.inl (nI (pFr P r)))] [] (zsI g 48 11 ((g.1 48 11) ||| ((nI 1) <<< (nI r &&& 31)))) := by
          obtain ⟨q1, q2, q3, q4⟩ := rActs_b P n lo (P.2.2.2.1 r - pFr P r) (pFr P r) (rDone R' r)
          refine A r (by omega) (fun m' k' R2 => rActs P n lo m' k' R2 = rActs P n lo (P.2.2.2.1 r - pFr P r) (pFr P r) (rDone R' r)) (fun k' R2 g2 r2 f2 s2 v2 => ?_) (fun m' k' R2 x => x) (P.2.2.2.1 r - pFr P r) (pFr P r) (by omega) (rDone R' r) _ rfl rg (fg.trans (kF_I (by omega) (by omega))) ?_ vg ?_ ?_
          · by_cases y : R2 = rActs P n lo (P.2.2.2.1 r - pFr P r) (pFr P r) (rDone R' r)
            · refine Or.inl ?_
              have y2 : R2.2.1.length ≤ R'.2.1.length + pCnt P r := by rw [y]; exact q1
              have y3 : R2.2.2.2.2.1 ≤ R'.2.2.2.2.1 + 2 * pCnt P r := by rw [y]; exact q2
              refine ih (r + 1) (by omega) R2 g2 _ r2 f2 s2 v2 (by omega) (by omega) ?_
              rw [y]; exact e'
            · exact Or.inr y
          · obtain ⟨t1, t2, t3, t4, t5, t6⟩ := sg.2
            refine ⟨sg.1.keep (zI_k _ _ _ (by omega)) (fun a h1 h2 => zI_o _ _ _ (by omega)), ?_, fun k hk => ?_, t3, ?_, ?_, ?_⟩
            · rw [zI_k _ _ _ (by omega)]; exact t1
            · rw [zI_o _ _ _ (by omega)]; exact t2 k hk
            · rw [zI_s, t4]; rfl
            · rw [zI_k _ _ _ (by omega)]; exact t5
            · rw [zI_k _ _ _ (by omega)]; exact t6
          · show R'.2.1.length + _ ≤ 40
            unfold pCnt at w'
            omega
          · show R'.2.2.2.2.1 + _ ≤ 1000
            unfold pCnt at w'
            omega
        by_cases r0 : r = 0
        · have er : pFr P r = 0 := if_pos r0
          rw [er] at goal
          simp (disch := omega) only [xle_t, xle_f, xlt_t, xlt_f, xeq_t, xeq_f, xle0_t, xle0_f, xlt0_f, x0lt_t, x0lt_f, x0le_t, xeq0_t, xeq0_f, xin, xem_f, xme_f, xlem_f, xlm_f, xml_t, xmle_t, nI_clamp, nI_add, pk_mul, pk_sub, zI_s, zI_k, zI_o, zL_s, zL_k, zL_o, zR_s, zR_k, zR_o, zIL, zIR, zIN, zLI, zLR, zLN, zRI, zRL, zRN, true_and, and_true, not_true_eq_false, not_false_eq_true, true_implies, false_implies, implies_true, forall_const, if_true, if_false, eq_self, false_and, and_false, implies_true, p1, p2, p4.1, eb, ebe, z]
          exact goal
        · have er : pFr P r = P.2.2.2.1 (r - 1) := if_neg r0
          have e22 := (p4.2.2.1 (r - 1) (by omega)).2
          rw [er] at goal
          have ne1 : pa ≠ 48 := by omega
          have ne2 : pa + 2 ≠ 48 := by omega
          simp (disch := omega) only [xle_t, xle_f, xlt_t, xlt_f, xeq_t, xeq_f, xle0_t, xle0_f, xlt0_f, x0lt_t, x0lt_f, x0le_t, xeq0_t, xeq0_f, xin, xem_f, xme_f, xlem_f, xlm_f, xml_t, xmle_t, nI_clamp, nI_add, pk_mul, pk_sub, zI_s, zI_k, zI_o, zL_s, zL_k, zL_o, zR_s, zR_k, zR_o, zIL, zIR, zIN, zLI, zLR, zLN, zRI, zRL, zRN, true_and, and_true, not_true_eq_false, not_false_eq_true, true_implies, false_implies, implies_true, forall_const, if_true, if_false, eq_self, false_and, and_false, implies_true, p1, p2, p4.1, eb, ebe, z, e22]
          exact goal
      · rw [if_neg z] at e' w'
        simp (disch := omega) only [xle_t, xle_f, xlt_t, xlt_f, xeq_t, xeq_f, xle0_t, xle0_f, xlt0_f, x0lt_t, x0lt_f, x0le_t, xeq0_t, xeq0_f, xin, xem_f, xme_f, xlem_f, xlm_f, xml_t, xmle_t, nI_clamp, nI_add, pk_mul, pk_sub, zI_s, zI_k, zI_o, zL_s, zL_k, zL_o, zR_s, zR_k, zR_o, zIL, zIR, zIN, zLI, zLR, zLN, zRI, zRL, zRN, true_and, and_true, not_true_eq_false, not_false_eq_true, true_implies, false_implies, implies_true, forall_const, if_true, if_false, eq_self, false_and, and_false, implies_true, p1, p2, p4.1, eb, ebe, z]
        exact ih (r + 1) (by omega) R' g _ rg fg sg vg (by omega) (by omega) e'
  exact L P.1 0 (by omega) R h none hr kF.rfl hS hV hbe hli rfl
