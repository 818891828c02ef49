/-! ===== doAct, doRules (class) ===== -/
theorem rV.st0 {n : Nat} {R : RS} (h : rV n R) {c : Nat} (hc : c < n) : R.1.2.2.2.2.1 c = 0 ↔ R.1.1 c ≠ 0 := by
  constructor
  · intro z; have := h.2.1 c hc z; omega
  · intro z
    by_cases w : R.1.2.2.2.2.1 c = 0
    · exact w
    · exact absurd ((h.1.2.2.1 c hc).2.1 w).2 z
theorem c_actx {P : PL} {n k pa : Nat} {R : RS} {h : MH} {d : Nat} {Q : Option MV → MH → Prop} (hr : zRf h) (hS : kS n R h) (hV : rV n R) (hp : h.2.2.1 48 14 = pa) (hpo : zokO h pa 5) (hP : pAt P h pa) (hO : pOK P) (hk : k < P.2.1) (hbe : R.2.1.length < 40) (hli : R.2.2.2.2.1 ≤ 1000) (hd : 2 ≤ d) (k0 : rAct n k (P.2.2.2.2 k) R = rVn k R → Q (some (.inl (nI 0))) h) (k1 : ∀ h', zRf h' → kF h h' → kS n (rAct n k (P.2.2.2.2 k) R) h' → Q (some (.inl (nI 1))) h') : Con mX8_doAct d 0 0 [.inr (.inr 48), .inl (nI k)] h Q := by
  obtain ⟨hK, hT⟩ := hS
  have h8 := hV.1.1
  have h40 := hO.2.1
  obtain ⟨b1, b2, b3⟩ := hO.2.2.2.2 k hk
  obtain ⟨e3, e4, e5⟩ := hP.2.2.2 k hk
  refine u_X8_doAct hr ?_
  simp (disch := omega) only [xle_t, xle_f, xlt_t, xlt_f, xeq_t, xeq_f, xle0_t, xle0_f, xlt0_f, x0lt_t, x0lt_f, x0le_t, xeq0_t, xeq0_f, xin, xem_f, xme_f, xlem_f, xlm_f, xml_t, xmle_t, nI_clamp, nI_add, pk_mul, pk_sub, zI_s, zI_k, zI_o, zL_s, zL_k, zL_o, zR_s, zR_k, zR_o, zIL, zIR, zIN, zLI, zLR, zLN, zRI, zRL, zRN, true_and, and_true, not_true_eq_false, not_false_eq_true, true_implies, false_implies, implies_true, forall_const, if_true, if_false, eq_self, false_and, and_false, implies_true, hp, hpo, e3, e4]
  generalize P.2.2.2.2 k = a at b1 b2 b3 e3 e4 e5 k0 k1
  have h5 : a.1 = 0 ∨ a.1 = 1 ∨ a.1 = 2 ∨ a.1 = 3 ∨ a.1 = 4 := by omega
  have stn : ∀ (x : Nat), x < n → (R.1.2.2.2.2.1 x = 0 ↔ R.1.1 x ≠ 0) := fun x hx => hV.st0 hx
  have vain : a.1 ≠ 4 → a.1 ≠ 3 → ¬ (a.2.1 < n ∧ R.1.2.2.2.2.1 a.2.1 = 0 ∧ (if a.1 = 2 then 0 < R.1.2.1 a.2.1 else R.1.2.1 a.2.1 < 2)) → Q (some (.inl (nI 0))) h := by
    intro z4 z3 z
    refine k0 ?_
    unfold rAct
    rw [if_neg z4, if_neg z3, if_neg z]
  have good : a.1 ≠ 4 → a.1 ≠ 3 → (a.2.1 < n ∧ R.1.2.2.2.2.1 a.2.1 = 0 ∧ (if a.1 = 2 then 0 < R.1.2.1 a.2.1 else R.1.2.1 a.2.1 < 2)) → rAct n k a R = rGive R a.2.1 (if a.1 = 2 then 0 else if a.1 = 1 then 2 else R.1.2.1 a.2.1 + 1) := by
    intro z4 z3 z
    unfold rAct
    rw [if_neg z4, if_neg z3, if_pos z]
  rcases h5 with q | q | q | q | q
  · -- light
    rw [q]
    refine s_tableIn dX8_doAct_19 (by decide) (by decide) (off := 29) rfl (tgt := 48) rfl ?_
    refine u_X8_doAct_48 (d1' := 1) hr (by omega) (by omega) ?_
    by_cases an : a.2.1 < n
    · obtain ⟨c0, c1, _⟩ := hK.2 _ an
      have ra := hV.re _ an
      have fa := (hV.1.2.2.1 _ an).1
      by_cases ar : R.1.1 a.2.1 = 0
      · simp (disch := omega) only [xle_t, xle_f, xlt_t, xlt_f, xeq_t, xeq_f, xle0_t, xle0_f, xlt0_f, x0lt_t, x0lt_f, x0le_t, xeq0_t, xeq0_f, xin, xem_f, xme_f, xlem_f, xlm_f, xml_t, xmle_t, nI_clamp, nI_add, pk_mul, pk_sub, zI_s, zI_k, zI_o, zL_s, zL_k, zL_o, zR_s, zR_k, zR_o, zIL, zIR, zIN, zLI, zLR, zLN, zRI, zRL, zRN, true_and, and_true, not_true_eq_false, not_false_eq_true, true_implies, false_implies, implies_true, forall_const, if_true, if_false, eq_self, false_and, and_false, implies_true, hK.1, c0]
        exact vain (by omega) (by omega) (fun z => absurd ar ((stn _ an).mp z.2.1))
      · simp (disch := omega) only [xle_t, xle_f, xlt_t, xlt_f, xeq_t, xeq_f, xle0_t, xle0_f, xlt0_f, x0lt_t, x0lt_f, x0le_t, xeq0_t, xeq0_f, xin, xem_f, xme_f, xlem_f, xlm_f, xml_t, xmle_t, nI_clamp, nI_add, pk_mul, pk_sub, zI_s, zI_k, zI_o, zL_s, zL_k, zL_o, zR_s, zR_k, zR_o, zIL, zIR, zIN, zLI, zLR, zLN, zRI, zRL, zRN, true_and, and_true, not_true_eq_false, not_false_eq_true, true_implies, false_implies, implies_true, forall_const, if_true, if_false, eq_self, false_and, and_false, implies_true, hK.1, c0, c1]
        refine c_give hr ⟨hK, hT⟩ h8 an fa (by omega) hli (by omega) (fun z => ?_) (fun z h1 r1 f1 s1 => ?_)
        · refine u_X8_doAct_69 ?_
          simp (disch := omega) only [xle_t, xle_f, xlt_t, xlt_f, xeq_t, xeq_f, xle0_t, xle0_f, xlt0_f, x0lt_t, x0lt_f, x0le_t, xeq0_t, xeq0_f, xin, xem_f, xme_f, xlem_f, xlm_f, xml_t, xmle_t, nI_clamp, nI_add, pk_mul, pk_sub, zI_s, zI_k, zI_o, zL_s, zL_k, zL_o, zR_s, zR_k, zR_o, zIL, zIR, zIN, zLI, zLR, zLN, zRI, zRL, zRN, true_and, and_true, not_true_eq_false, not_false_eq_true, true_implies, false_implies, implies_true, forall_const, if_true, if_false, eq_self, false_and, and_false, implies_true]
          refine vain (by omega) (by omega) (fun w => ?_)
          have := w.2.2
          rw [if_neg (by omega)] at this
          omega
        · refine u_X8_doAct_69 ?_
          simp (disch := omega) only [xle_t, xle_f, xlt_t, xlt_f, xeq_t, xeq_f, xle0_t, xle0_f, xlt0_f, x0lt_t, x0lt_f, x0le_t, xeq0_t, xeq0_f, xin, xem_f, xme_f, xlem_f, xlm_f, xml_t, xmle_t, nI_clamp, nI_add, pk_mul, pk_sub, zI_s, zI_k, zI_o, zL_s, zL_k, zL_o, zR_s, zR_k, zR_o, zIL, zIR, zIN, zLI, zLR, zLN, zRI, zRL, zRN, true_and, and_true, not_true_eq_false, not_false_eq_true, true_implies, false_implies, implies_true, forall_const, if_true, if_false, eq_self, false_and, and_false, implies_true]
          refine k1 h1 r1 f1 ?_
          rw [good (by omega) (by omega) ⟨an, (stn _ an).mpr ar, by rw [if_neg (by omega)]; omega⟩, if_neg (by omega), if_neg (by omega)]
          exact s1
    · simp (disch := omega) only [xle_t, xle_f, xlt_t, xlt_f, xeq_t, xeq_f, xle0_t, xle0_f, xlt0_f, x0lt_t, x0lt_f, x0le_t, xeq0_t, xeq0_f, xin, xem_f, xme_f, xlem_f, xlm_f, xml_t, xmle_t, nI_clamp, nI_add, pk_mul, pk_sub, zI_s, zI_k, zI_o, zL_s, zL_k, zL_o, zR_s, zR_k, zR_o, zIL, zIR, zIN, zLI, zLR, zLN, zRI, zRL, zRN, true_and, and_true, not_true_eq_false, not_false_eq_true, true_implies, false_implies, implies_true, forall_const, if_true, if_false, eq_self, false_and, and_false, implies_true, hK.1]
      exact vain (by omega) (by omega) (fun z => absurd z.1 an)
  · -- both
    rw [q]
    refine s_tableIn dX8_doAct_19 (by decide) (by decide) (off := 59) rfl (tgt := 78) rfl ?_
    refine u_X8_doAct_78 (d1' := 1) hr (by omega) (by omega) ?_
    by_cases an : a.2.1 < n
    · obtain ⟨c0, c1, _⟩ := hK.2 _ an
      have ra := hV.re _ an
      have fa := (hV.1.2.2.1 _ an).1
      by_cases ar : R.1.1 a.2.1 = 0
      · simp (disch := omega) only [xle_t, xle_f, xlt_t, xlt_f, xeq_t, xeq_f, xle0_t, xle0_f, xlt0_f, x0lt_t, x0lt_f, x0le_t, xeq0_t, xeq0_f, xin, xem_f, xme_f, xlem_f, xlm_f, xml_t, xmle_t, nI_clamp, nI_add, pk_mul, pk_sub, zI_s, zI_k, zI_o, zL_s, zL_k, zL_o, zR_s, zR_k, zR_o, zIL, zIR, zIN, zLI, zLR, zLN, zRI, zRL, zRN, true_and, and_true, not_true_eq_false, not_false_eq_true, true_implies, false_implies, implies_true, forall_const, if_true, if_false, eq_self, false_and, and_false, implies_true, hK.1, c0]
        exact vain (by omega) (by omega) (fun z => absurd ar ((stn _ an).mp z.2.1))
      · by_cases f2 : R.1.2.1 a.2.1 < 2
        · simp (disch := omega) only [xle_t, xle_f, xlt_t, xlt_f, xeq_t, xeq_f, xle0_t, xle0_f, xlt0_f, x0lt_t, x0lt_f, x0le_t, xeq0_t, xeq0_f, xin, xem_f, xme_f, xlem_f, xlm_f, xml_t, xmle_t, nI_clamp, nI_add, pk_mul, pk_sub, zI_s, zI_k, zI_o, zL_s, zL_k, zL_o, zR_s, zR_k, zR_o, zIL, zIR, zIN, zLI, zLR, zLN, zRI, zRL, zRN, true_and, and_true, not_true_eq_false, not_false_eq_true, true_implies, false_implies, implies_true, forall_const, if_true, if_false, eq_self, false_and, and_false, implies_true, hK.1, c0, c1]
          refine c_give hr ⟨hK, hT⟩ h8 an fa (by omega) hli (by omega) (fun z => absurd (Nat.le_refl 2) z) (fun z h1 r1 f1 s1 => ?_)
          refine u_X8_doAct_102 ?_
          simp (disch := omega) only [xle_t, xle_f, xlt_t, xlt_f, xeq_t, xeq_f, xle0_t, xle0_f, xlt0_f, x0lt_t, x0lt_f, x0le_t, xeq0_t, xeq0_f, xin, xem_f, xme_f, xlem_f, xlm_f, xml_t, xmle_t, nI_clamp, nI_add, pk_mul, pk_sub, zI_s, zI_k, zI_o, zL_s, zL_k, zL_o, zR_s, zR_k, zR_o, zIL, zIR, zIN, zLI, zLR, zLN, zRI, zRL, zRN, true_and, and_true, not_true_eq_false, not_false_eq_true, true_implies, false_implies, implies_true, forall_const, if_true, if_false, eq_self, false_and, and_false, implies_true]
          refine k1 h1 r1 f1 ?_
          rw [good (by omega) (by omega) ⟨an, (stn _ an).mpr ar, by rw [if_neg (by omega)]; omega⟩, if_neg (by omega), if_pos (by omega)]
          exact s1
        · simp (disch := omega) only [xle_t, xle_f, xlt_t, xlt_f, xeq_t, xeq_f, xle0_t, xle0_f, xlt0_f, x0lt_t, x0lt_f, x0le_t, xeq0_t, xeq0_f, xin, xem_f, xme_f, xlem_f, xlm_f, xml_t, xmle_t, nI_clamp, nI_add, pk_mul, pk_sub, zI_s, zI_k, zI_o, zL_s, zL_k, zL_o, zR_s, zR_k, zR_o, zIL, zIR, zIN, zLI, zLR, zLN, zRI, zRL, zRN, true_and, and_true, not_true_eq_false, not_false_eq_true, true_implies, false_implies, implies_true, forall_const, if_true, if_false, eq_self, false_and, and_false, implies_true, hK.1, c0, c1]
          refine vain (by omega) (by omega) (fun w => ?_)
          have := w.2.2
          rw [if_neg (by omega)] at this
          omega
    · simp (disch := omega) only [xle_t, xle_f, xlt_t, xlt_f, xeq_t, xeq_f, xle0_t, xle0_f, xlt0_f, x0lt_t, x0lt_f, x0le_t, xeq0_t, xeq0_f, xin, xem_f, xme_f, xlem_f, xlm_f, xml_t, xmle_t, nI_clamp, nI_add, pk_mul, pk_sub, zI_s, zI_k, zI_o, zL_s, zL_k, zL_o, zR_s, zR_k, zR_o, zIL, zIR, zIN, zLI, zLR, zLN, zRI, zRL, zRN, true_and, and_true, not_true_eq_false, not_false_eq_true, true_implies, false_implies, implies_true, forall_const, if_true, if_false, eq_self, false_and, and_false, implies_true, hK.1]
      exact vain (by omega) (by omega) (fun z => absurd z.1 an)
  · -- out
    rw [q]
    refine s_tableIn dX8_doAct_19 (by decide) (by decide) (off := 92) rfl (tgt := 111) rfl ?_
    refine u_X8_doAct_111 (d1' := 1) hr (by omega) (by omega) ?_
    by_cases an : a.2.1 < n
    · obtain ⟨c0, c1, _⟩ := hK.2 _ an
      have ra := hV.re _ an
      have fa := (hV.1.2.2.1 _ an).1
      by_cases ar : R.1.1 a.2.1 = 0
      · simp (disch := omega) only [xle_t, xle_f, xlt_t, xlt_f, xeq_t, xeq_f, xle0_t, xle0_f, xlt0_f, x0lt_t, x0lt_f, x0le_t, xeq0_t, xeq0_f, xin, xem_f, xme_f, xlem_f, xlm_f, xml_t, xmle_t, nI_clamp, nI_add, pk_mul, pk_sub, zI_s, zI_k, zI_o, zL_s, zL_k, zL_o, zR_s, zR_k, zR_o, zIL, zIR, zIN, zLI, zLR, zLN, zRI, zRL, zRN, true_and, and_true, not_true_eq_false, not_false_eq_true, true_implies, false_implies, implies_true, forall_const, if_true, if_false, eq_self, false_and, and_false, implies_true, hK.1, c0]
        exact vain (by omega) (by omega) (fun z => absurd ar ((stn _ an).mp z.2.1))
      · by_cases f2 : 0 < R.1.2.1 a.2.1
        · simp (disch := omega) only [xle_t, xle_f, xlt_t, xlt_f, xeq_t, xeq_f, xle0_t, xle0_f, xlt0_f, x0lt_t, x0lt_f, x0le_t, xeq0_t, xeq0_f, xin, xem_f, xme_f, xlem_f, xlm_f, xml_t, xmle_t, nI_clamp, nI_add, pk_mul, pk_sub, zI_s, zI_k, zI_o, zL_s, zL_k, zL_o, zR_s, zR_k, zR_o, zIL, zIR, zIN, zLI, zLR, zLN, zRI, zRL, zRN, true_and, and_true, not_true_eq_false, not_false_eq_true, true_implies, false_implies, implies_true, forall_const, if_true, if_false, eq_self, false_and, and_false, implies_true, hK.1, c0, c1]
          refine c_give hr ⟨hK, hT⟩ h8 an fa (by omega) hli (by omega) (fun z => absurd (Nat.zero_le 2) z) (fun z h1 r1 f1 s1 => ?_)
          refine u_X8_doAct_134 ?_
          simp (disch := omega) only [xle_t, xle_f, xlt_t, xlt_f, xeq_t, xeq_f, xle0_t, xle0_f, xlt0_f, x0lt_t, x0lt_f, x0le_t, xeq0_t, xeq0_f, xin, xem_f, xme_f, xlem_f, xlm_f, xml_t, xmle_t, nI_clamp, nI_add, pk_mul, pk_sub, zI_s, zI_k, zI_o, zL_s, zL_k, zL_o, zR_s, zR_k, zR_o, zIL, zIR, zIN, zLI, zLR, zLN, zRI, zRL, zRN, true_and, and_true, not_true_eq_false, not_false_eq_true, true_implies, false_implies, implies_true, forall_const, if_true, if_false, eq_self, false_and, and_false, implies_true]
          refine k1 h1 r1 f1 ?_
          rw [good (by omega) (by omega) ⟨an, (stn _ an).mpr ar, by rw [if_pos (by omega)]; omega⟩, if_pos (by omega)]
          exact s1
        · simp (disch := omega) only [xle_t, xle_f, xlt_t, xlt_f, xeq_t, xeq_f, xle0_t, xle0_f, xlt0_f, x0lt_t, x0lt_f, x0le_t, xeq0_t, xeq0_f, xin, xem_f, xme_f, xlem_f, xlm_f, xml_t, xmle_t, nI_clamp, nI_add, pk_mul, pk_sub, zI_s, zI_k, zI_o, zL_s, zL_k, zL_o, zR_s, zR_k, zR_o, zIL, zIR, zIN, zLI, zLR, zLN, zRI, zRL, zRN, true_and, and_true, not_true_eq_false, not_false_eq_true, true_implies, false_implies, implies_true, forall_const, if_true, if_false, eq_self, false_and, and_false, implies_true, hK.1, c0, c1]
          refine vain (by omega) (by omega) (fun w => ?_)
          have := w.2.2
          rw [if_pos (by omega)] at this
          omega
    · simp (disch := omega) only [xle_t, xle_f, xlt_t, xlt_f, xeq_t, xeq_f, xle0_t, xle0_f, xlt0_f, x0lt_t, x0lt_f, x0le_t, xeq0_t, xeq0_f, xin, xem_f, xme_f, xlem_f, xlm_f, xml_t, xmle_t, nI_clamp, nI_add, pk_mul, pk_sub, zI_s, zI_k, zI_o, zL_s, zL_k, zL_o, zR_s, zR_k, zR_o, zIL, zIR, zIN, zLI, zLR, zLN, zRI, zRL, zRN, true_and, and_true, not_true_eq_false, not_false_eq_true, true_implies, false_implies, implies_true, forall_const, if_true, if_false, eq_self, false_and, and_false, implies_true, hK.1]
      exact vain (by omega) (by omega) (fun z => absurd z.1 an)
  · -- join
    rw [q]
    refine s_tableIn dX8_doAct_19 (by decide) (by decide) (off := 124) rfl (tgt := 143) rfl ?_
    refine u_X8_doAct_143 (d1' := 1) hr (by omega) ?_
    simp (disch := omega) only [xle_t, xle_f, xlt_t, xlt_f, xeq_t, xeq_f, xle0_t, xle0_f, xlt0_f, x0lt_t, x0lt_f, x0le_t, xeq0_t, xeq0_f, xin, xem_f, xme_f, xlem_f, xlm_f, xml_t, xmle_t, nI_clamp, nI_add, pk_mul, pk_sub, zI_s, zI_k, zI_o, zL_s, zL_k, zL_o, zR_s, zR_k, zR_o, zIL, zIR, zIN, zLI, zLR, zLN, zRI, zRL, zRN, true_and, and_true, not_true_eq_false, not_false_eq_true, true_implies, false_implies, implies_true, forall_const, if_true, if_false, eq_self, false_and, and_false, implies_true, hp, hpo, e5]
    refine c_join hr ⟨hK, hT⟩ hV b2 b3 (by omega) (fun z => ?_) (fun z h1 r1 f1 s1 => ?_)
    · refine u_X8_doAct_157 ?_
      refine ⟨Or.inl rfl, k0 ?_⟩
      unfold rAct
      rw [q, if_neg (by omega), if_pos rfl, if_neg z]
    · refine u_X8_doAct_157 ?_
      refine ⟨Or.inr rfl, k1 h1 r1 f1 ?_⟩
      have e : rAct n k a R = rJoin R a.2.1 a.2.2 := by
        unfold rAct
        rw [q, if_neg (by omega), if_pos rfl, if_pos z]
      rw [e]; exact s1
  · -- bell
    rw [q]
    refine s_tableOut dX8_doAct_19 (Or.inr (by decide)) (tgt := 158) rfl ?_
    refine u_X8_doAct_158 hr (by omega) ?_
    obtain ⟨t1, t2, t3, t4, t5, t6⟩ := hT
    simp (disch := omega) only [xle_t, xle_f, xlt_t, xlt_f, xeq_t, xeq_f, xle0_t, xle0_f, xlt0_f, x0lt_t, x0lt_f, x0le_t, xeq0_t, xeq0_f, xin, xem_f, xme_f, xlem_f, xlm_f, xml_t, xmle_t, nI_clamp, nI_add, pk_mul, pk_sub, zI_s, zI_k, zI_o, zL_s, zL_k, zL_o, zR_s, zR_k, zR_o, zIL, zIR, zIN, zLI, zLR, zLN, zRI, zRL, zRN, true_and, and_true, not_true_eq_false, not_false_eq_true, true_implies, false_implies, implies_true, forall_const, if_true, if_false, eq_self, false_and, and_false, implies_true, t1, t6]
    have e : rAct n k a R = rRing R := by
      unfold rAct
      rw [q, if_pos rfl]
    refine k1 _ hr ((kF_I (by omega) (by omega)).trans (kF_I (by omega) (by omega))) ?_
    rw [e]
    refine ⟨hK.keep ?_ (fun a h1 h2 => ?_), ?_, fun j hj => ?_, t3, ?_, ?_, ?_⟩
    · rw [zI_k _ _ _ (by omega), zI_o _ _ _ (by omega)]
    · rw [zI_o _ _ _ (by omega), zI_o _ _ _ (by omega)]
    · rw [zI_s]
      show _ = nI (R.2.1 ++ [R.2.2.2.2.2]).length
      rw [List.length_append]; rfl
    · have hj' : j < (R.2.1 ++ [R.2.2.2.2.2]).length := hj
      rw [List.length_append] at hj'
      show _ = nI ((R.2.1 ++ [R.2.2.2.2.2]).getD j 0)
      rw [zI_o _ _ _ (by omega)]
      by_cases y : j = R.2.1.length
      · rw [y, zI_s, List.getD_eq_getElem?_getD, List.getElem?_append_right (Nat.le_refl _), Nat.sub_self]; rfl
      · have hj2 : j < R.2.1.length := by
          have : j < R.2.1.length + 1 := hj'
          omega
        rw [zI_k _ _ _ y, t2 j hj2, List.getD_eq_getElem?_getD, List.getD_eq_getElem?_getD, List.getElem?_append_left hj2]
    · rw [zI_k _ _ _ (by omega), zI_o _ _ _ (by omega)]; exact t4
    · rw [zI_k _ _ _ (by omega), zI_o _ _ _ (by omega)]; exact t5
    · rw [zI_k _ _ _ (by omega), zI_o _ _ _ (by omega)]; exact t6
