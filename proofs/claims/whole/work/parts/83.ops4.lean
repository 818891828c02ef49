/-! ===== days, would, night ===== -/
theorem y64_lo {y : Int32} {a : Nat} (ha : a < 2 ^ 31) : (lN a ≤ y.toInt64) = (nI a ≤ y) := by
  refine propext ?_
  rw [wle, w64, pk_lT (by omega), Int32.le_iff_toInt_le, nI_toInt ha]
theorem y64_hi {y : Int32} {b : Nat} (hb : b < 2 ^ 31) : (y.toInt64 ≤ lN b) = (y ≤ nI b) := by
  refine propext ?_
  rw [wle, w64, pk_lT (by omega), Int32.le_iff_toInt_le, nI_toInt hb]
theorem y_400 : (400 : Int64) = lN 400 := rfl
theorem y_200k : (200000 : Int64) = lN 200000 := rfl
theorem bd3 (y : Int32) {a b : Nat} (hb : b < 2 ^ 31) (hab : a ≤ b) : ((y < nI a) = True ∧ (nI a ≤ y) = False) ∨ ((y < nI a) = False ∧ (nI a ≤ y) = True ∧ (y ≤ nI b) = False) ∨ ∃ k, a ≤ k ∧ k ≤ b ∧ y = nI k := by
  by_cases h : y < nI a
  · exact Or.inl ⟨eq_true h, eq_false (Int32.not_le.mpr h)⟩
  · have h1 : nI a ≤ y := Int32.not_lt.mp h
    by_cases h2 : y ≤ nI b
    · refine Or.inr (Or.inr ?_)
      have h0 : ¬ y < 0 := by
        intro q
        rw [Int32.lt_iff_toInt_lt] at q
        rw [Int32.le_iff_toInt_le, nI_toInt (by omega)] at h1
        have : (0 : Int32).toInt = 0 := rfl
        omega
      obtain ⟨j, hj, rfl⟩ := nI_of h0
      rw [nI_leI (by omega) (by omega)] at h1 h2
      exact ⟨j, h1, h2, rfl⟩
    · exact Or.inr (Or.inl ⟨eq_false h, eq_true h1, eq_false h2⟩)
noncomputable def gD (y : Int32) (F : Nat → Int32) : Int32 := if nI 1 ≤ y ∧ y ≤ nI 400 then F y.toNatClampNeg else -(nI 3)
noncomputable def fDay (C : CE) (P : PL) (c k : Nat) : Int32 := if (rTo C P).1.2.2.1 c < fT C c then nI k else nI 0
noncomputable def gDays (B : BK) (x y w : Int32) : Int32 := gP x (fun p => if w = -(nI 1) then gD y (fun k => nI (fWx B.1 (fT B.1) (rTo B.1 (B.2 p)) * k)) else gC B.1.1 w (fun c => gD y (fun k => fDay B.1 (B.2 p) c k)))
theorem gD_lo {y : Int32} {F : Nat → Int32} (h : (nI 1 ≤ y) = False) : gD y F = -(nI 3) := by unfold gD; rw [if_neg (fun z => (h ▸ z.1 : False))]
theorem gD_hi {y : Int32} {F : Nat → Int32} (h : (y ≤ nI 400) = False) : gD y F = -(nI 3) := by unfold gD; rw [if_neg (fun z => (h ▸ z.2 : False))]
theorem gD_in {k : Nat} {F : Nat → Int32} (h1 : 1 ≤ k) (h2 : k ≤ 400) : gD (nI k) F = F k := by unfold gD; rw [if_pos ⟨nI_le h1 (by omega), nI_le h2 (by omega)⟩, nI_clamp (by omega)]
theorem o_days {B : BK} {h : MH} {d : Nat} {x y w : Int32} {Q : Option MV → MH → Prop} (hr : zRf h) (hA : bAt B h 15) (hB : bOK B) (hd : 6 ≤ d) (kk : ∀ h', zRf h' → cF h h' → Q (some (.inl (gDays B x y w))) h') : Con mX10_days d 0 0 [.inr (.inr 1), .inl x, .inl y, .inl w] h Q := by
  unfold gDays at kk
  have h8 := hB.1.1
  have hn0 : h.1 16 0 = nI B.1.1 := hA.1.1
  refine u_X10_days (d1' := 5) (d2' := 5) hr (by omega) (by omega) (by omega) ?_
  rcases ix3 x (n := 4) (by omega) with ⟨z, x1, _⟩ | ⟨z, x1, x2, _⟩ | ⟨p, hp, rfl, z⟩
  · rw [gP_none z] at kk
    simp (disch := omega) only [xle_t, xle_f, xlt_t, xlt_f, xeq_t, xeq_f, xle0_t, xle0_f, xlt0_f, x0lt_t, x0lt_f, x0le_t, xeq0_t, xeq0_f, xin, xem_f, xme_f, xlem_f, xlm_f, xml_t, xmle_t, nI_clamp, nI_add, pk_mul, pk_sub, zI_s, zI_k, zI_o, zL_s, zL_k, zL_o, zR_s, zR_k, zR_o, zIL, zIR, zIN, zLI, zLR, zLN, zRI, zRL, zRN, true_and, and_true, not_true_eq_false, not_false_eq_true, true_implies, false_implies, implies_true, forall_const, if_true, if_false, eq_self, false_and, and_false, implies_true, nI_l, ylle_t, ylle_f, xcl_t, xcl_f, x1]
    exact kk h hr zF.rfl
  · rw [gP_none z] at kk
    simp (disch := omega) only [xle_t, xle_f, xlt_t, xlt_f, xeq_t, xeq_f, xle0_t, xle0_f, xlt0_f, x0lt_t, x0lt_f, x0le_t, xeq0_t, xeq0_f, xin, xem_f, xme_f, xlem_f, xlm_f, xml_t, xmle_t, nI_clamp, nI_add, pk_mul, pk_sub, zI_s, zI_k, zI_o, zL_s, zL_k, zL_o, zR_s, zR_k, zR_o, zIL, zIR, zIN, zLI, zLR, zLN, zRI, zRL, zRN, true_and, and_true, not_true_eq_false, not_false_eq_true, true_implies, false_implies, implies_true, forall_const, if_true, if_false, eq_self, false_and, and_false, implies_true, nI_l, ylle_t, ylle_f, xcl_t, xcl_f, x1, x2]
    exact kk h hr zF.rfl
  rw [gP_some hp] at kk
  have ho := rTo_o hB hp
  by_cases wn : w = -(nI 1)
  · rw [if_pos wn] at kk
    rcases bd3 y (a := 1) (b := 400) (by omega) (by omega) with ⟨y1, y2⟩ | ⟨y1, y2, y3⟩ | ⟨k, k1, k2, rfl⟩
    · rw [gD_lo y2] at kk
      simp (disch := omega) only [xle_t, xle_f, xlt_t, xlt_f, xeq_t, xeq_f, xle0_t, xle0_f, xlt0_f, x0lt_t, x0lt_f, x0le_t, xeq0_t, xeq0_f, xin, xem_f, xme_f, xlem_f, xlm_f, xml_t, xmle_t, nI_clamp, nI_add, pk_mul, pk_sub, zI_s, zI_k, zI_o, zL_s, zL_k, zL_o, zR_s, zR_k, zR_o, zIL, zIR, zIN, zLI, zLR, zLN, zRI, zRL, zRN, true_and, and_true, not_true_eq_false, not_false_eq_true, true_implies, false_implies, implies_true, forall_const, if_true, if_false, eq_self, false_and, and_false, implies_true, nI_l, ylle_t, ylle_f, xcl_t, xcl_f, wn, y1]
      exact kk h hr zF.rfl
    · rw [gD_hi y3] at kk
      simp (disch := omega) only [xle_t, xle_f, xlt_t, xlt_f, xeq_t, xeq_f, xle0_t, xle0_f, xlt0_f, x0lt_t, x0lt_f, x0le_t, xeq0_t, xeq0_f, xin, xem_f, xme_f, xlem_f, xlm_f, xml_t, xmle_t, nI_clamp, nI_add, pk_mul, pk_sub, zI_s, zI_k, zI_o, zL_s, zL_k, zL_o, zR_s, zR_k, zR_o, zIL, zIR, zIN, zLI, zLR, zLN, zRI, zRL, zRN, true_and, and_true, not_true_eq_false, not_false_eq_true, true_implies, false_implies, implies_true, forall_const, if_true, if_false, eq_self, false_and, and_false, implies_true, nI_l, ylle_t, ylle_f, xcl_t, xcl_f, wn, y1, y3]
      exact kk h hr zF.rfl
    · rw [gD_in k1 k2] at kk
      simp (disch := omega) only [xle_t, xle_f, xlt_t, xlt_f, xeq_t, xeq_f, xle0_t, xle0_f, xlt0_f, x0lt_t, x0lt_f, x0le_t, xeq0_t, xeq0_f, xin, xem_f, xme_f, xlem_f, xlm_f, xml_t, xmle_t, nI_clamp, nI_add, pk_mul, pk_sub, zI_s, zI_k, zI_o, zL_s, zL_k, zL_o, zR_s, zR_k, zR_o, zIL, zIR, zIN, zLI, zLR, zLN, zRI, zRL, zRN, true_and, and_true, not_true_eq_false, not_false_eq_true, true_implies, false_implies, implies_true, forall_const, if_true, if_false, eq_self, false_and, and_false, implies_true, nI_l, ylle_t, ylle_f, xcl_t, xcl_f, wn]
      refine c_pat hr hA hB hp (by omega) (fun g r1 f1 s1 => ?_)
      refine u_X10_days_49 (d1' := 0) r1 (by omega) ?_
      simp (disch := omega) only [xle_t, xle_f, xlt_t, xlt_f, xeq_t, xeq_f, xle0_t, xle0_f, xlt0_f, x0lt_t, x0lt_f, x0le_t, xeq0_t, xeq0_f, xin, xem_f, xme_f, xlem_f, xlm_f, xml_t, xmle_t, nI_clamp, nI_add, pk_mul, pk_sub, zI_s, zI_k, zI_o, zL_s, zL_k, zL_o, zR_s, zR_k, zR_o, zIL, zIR, zIN, zLI, zLR, zLN, zRI, zRL, zRN, true_and, and_true, not_true_eq_false, not_false_eq_true, true_implies, false_implies, implies_true, forall_const, if_true, if_false, eq_self, false_and, and_false, implies_true, nI_l, ylle_t, ylle_f, xcl_t, xcl_f]
      refine c_wxr r1 (hA.1.keep (fun k hk => f1.i (by omega))) hB.1 (fT_ok hB.1) s1 ho.2.2.2.2.1 (u_X10_days_58 ?_)
      rw [pk_mul]
      exact kk g r1 f1.c
  · rw [if_neg wn] at kk
    rcases ix3 w (n := B.1.1) (by omega) with ⟨z, x1, _⟩ | ⟨z, x1, x2, _⟩ | ⟨c, hc, rfl, z⟩
    · rw [gC_none z] at kk
      simp (disch := omega) only [xle_t, xle_f, xlt_t, xlt_f, xeq_t, xeq_f, xle0_t, xle0_f, xlt0_f, x0lt_t, x0lt_f, x0le_t, xeq0_t, xeq0_f, xin, xem_f, xme_f, xlem_f, xlm_f, xml_t, xmle_t, nI_clamp, nI_add, pk_mul, pk_sub, zI_s, zI_k, zI_o, zL_s, zL_k, zL_o, zR_s, zR_k, zR_o, zIL, zIR, zIN, zLI, zLR, zLN, zRI, zRL, zRN, true_and, and_true, not_true_eq_false, not_false_eq_true, true_implies, false_implies, implies_true, forall_const, if_true, if_false, eq_self, false_and, and_false, implies_true, nI_l, ylle_t, ylle_f, xcl_t, xcl_f, x1, hn0, wn]
      exact kk h hr zF.rfl
    · rw [gC_none z] at kk
      simp (disch := omega) only [xle_t, xle_f, xlt_t, xlt_f, xeq_t, xeq_f, xle0_t, xle0_f, xlt0_f, x0lt_t, x0lt_f, x0le_t, xeq0_t, xeq0_f, xin, xem_f, xme_f, xlem_f, xlm_f, xml_t, xmle_t, nI_clamp, nI_add, pk_mul, pk_sub, zI_s, zI_k, zI_o, zL_s, zL_k, zL_o, zR_s, zR_k, zR_o, zIL, zIR, zIN, zLI, zLR, zLN, zRI, zRL, zRN, true_and, and_true, not_true_eq_false, not_false_eq_true, true_implies, false_implies, implies_true, forall_const, if_true, if_false, eq_self, false_and, and_false, implies_true, nI_l, ylle_t, ylle_f, xcl_t, xcl_f, x1, x2, hn0, wn]
      exact kk h hr zF.rfl
    rw [gC_some hc (by omega)] at kk
    rcases bd3 y (a := 1) (b := 400) (by omega) (by omega) with ⟨y1, y2⟩ | ⟨y1, y2, y3⟩ | ⟨k, k1, k2, rfl⟩
    · rw [gD_lo y2] at kk
      simp (disch := omega) only [xle_t, xle_f, xlt_t, xlt_f, xeq_t, xeq_f, xle0_t, xle0_f, xlt0_f, x0lt_t, x0lt_f, x0le_t, xeq0_t, xeq0_f, xin, xem_f, xme_f, xlem_f, xlm_f, xml_t, xmle_t, nI_clamp, nI_add, pk_mul, pk_sub, zI_s, zI_k, zI_o, zL_s, zL_k, zL_o, zR_s, zR_k, zR_o, zIL, zIR, zIN, zLI, zLR, zLN, zRI, zRL, zRN, true_and, and_true, not_true_eq_false, not_false_eq_true, true_implies, false_implies, implies_true, forall_const, if_true, if_false, eq_self, false_and, and_false, implies_true, nI_l, ylle_t, ylle_f, xcl_t, xcl_f, hn0, y1]
      exact kk h hr zF.rfl
    · rw [gD_hi y3] at kk
      simp (disch := omega) only [xle_t, xle_f, xlt_t, xlt_f, xeq_t, xeq_f, xle0_t, xle0_f, xlt0_f, x0lt_t, x0lt_f, x0le_t, xeq0_t, xeq0_f, xin, xem_f, xme_f, xlem_f, xlm_f, xml_t, xmle_t, nI_clamp, nI_add, pk_mul, pk_sub, zI_s, zI_k, zI_o, zL_s, zL_k, zL_o, zR_s, zR_k, zR_o, zIL, zIR, zIN, zLI, zLR, zLN, zRI, zRL, zRN, true_and, and_true, not_true_eq_false, not_false_eq_true, true_implies, false_implies, implies_true, forall_const, if_true, if_false, eq_self, false_and, and_false, implies_true, nI_l, ylle_t, ylle_f, xcl_t, xcl_f, hn0, y1, y3]
      exact kk h hr zF.rfl
    · rw [gD_in k1 k2] at kk
      simp (disch := omega) only [xle_t, xle_f, xlt_t, xlt_f, xeq_t, xeq_f, xle0_t, xle0_f, xlt0_f, x0lt_t, x0lt_f, x0le_t, xeq0_t, xeq0_f, xin, xem_f, xme_f, xlem_f, xlm_f, xml_t, xmle_t, nI_clamp, nI_add, pk_mul, pk_sub, zI_s, zI_k, zI_o, zL_s, zL_k, zL_o, zR_s, zR_k, zR_o, zIL, zIR, zIN, zLI, zLR, zLN, zRI, zRL, zRN, true_and, and_true, not_true_eq_false, not_false_eq_true, true_implies, false_implies, implies_true, forall_const, if_true, if_false, eq_self, false_and, and_false, implies_true, nI_l, ylle_t, ylle_f, xcl_t, xcl_f, hn0]
      refine c_pat hr hA hB hp (by omega) (fun g r1 f1 s1 => ?_)
      have kk1 := kk g r1 f1.c
      have e49 := s1.2 c hc
      have e52 := (s1.1.1.2 c hc).2.2.1
      have b1 := (fT_ok hB.1).le hc
      have b2 := ho.2.2.2.2.1.2.2 c
      unfold fDay at kk1
      refine u_X10_days_49 (d1' := 0) r1 (by omega) ?_
      by_cases q : (rTo B.1 (B.2 p)).1.2.2.1 c < fT B.1 c
      · rw [if_pos q] at kk1
        simp (disch := omega) only [xle_t, xle_f, xlt_t, xlt_f, xeq_t, xeq_f, xle0_t, xle0_f, xlt0_f, x0lt_t, x0lt_f, x0le_t, xeq0_t, xeq0_f, xin, xem_f, xme_f, xlem_f, xlm_f, xml_t, xmle_t, nI_clamp, nI_add, pk_mul, pk_sub, zI_s, zI_k, zI_o, zL_s, zL_k, zL_o, zR_s, zR_k, zR_o, zIL, zIR, zIN, zLI, zLR, zLN, zRI, zRL, zRN, true_and, and_true, not_true_eq_false, not_false_eq_true, true_implies, false_implies, implies_true, forall_const, if_true, if_false, eq_self, false_and, and_false, implies_true, nI_l, ylle_t, ylle_f, xcl_t, xcl_f, e49, e52]
        exact kk1
      · rw [if_neg q] at kk1
        simp (disch := omega) only [xle_t, xle_f, xlt_t, xlt_f, xeq_t, xeq_f, xle0_t, xle0_f, xlt0_f, x0lt_t, x0lt_f, x0le_t, xeq0_t, xeq0_f, xin, xem_f, xme_f, xlem_f, xlm_f, xml_t, xmle_t, nI_clamp, nI_add, pk_mul, pk_sub, zI_s, zI_k, zI_o, zL_s, zL_k, zL_o, zR_s, zR_k, zR_o, zIL, zIR, zIN, zLI, zLR, zLN, zRI, zRL, zRN, true_and, and_true, not_true_eq_false, not_false_eq_true, true_implies, false_implies, implies_true, forall_const, if_true, if_false, eq_self, false_and, and_false, implies_true, nI_l, ylle_t, ylle_f, xcl_t, xcl_f, e49, e52]
        exact kk1
theorem n_days {B : BK} {h : MH} {d : Nat} {x y w : Int32} {Q : Option MV → MH → Prop} (hr : zRf h) (hA : bIn B (h.1 112) 0) (hB : bOK B) (h28 : h.1 111 28 = -(nI 1)) (hd : 5 ≤ d) (kk : ∀ h', zRf h' → mK h h' → Q (some (.inl (gDays B x y w))) h') : Con mX11_days d 0 0 [.inr (.inr 111), .inl x, .inl y, .inl w] h Q := by
  unfold gDays at kk
  have h8 := hB.1.1
  have hn0 : h.1 112 0 = nI B.1.1 := hA.1.1
  have hA0 : bIn B ((zsI h 111 0 (nI 0)).1 112) 0 := hA
  refine u_X11_days (d1' := 2) (d2' := 2) hr (by omega) (by omega) (by omega) ?_
  rcases ix3 x (n := 4) (by omega) with ⟨z, _, x1⟩ | ⟨z, _, _, x1, _, x2, _⟩ | ⟨p, hp, rfl, z⟩
  · rw [gP_none z] at kk
    simp (disch := omega) only [xle_t, xle_f, xlt_t, xlt_f, xeq_t, xeq_f, xle0_t, xle0_f, xlt0_f, x0lt_t, x0lt_f, x0le_t, xeq0_t, xeq0_f, xin, xem_f, xme_f, xlem_f, xlm_f, xml_t, xmle_t, nI_clamp, nI_add, pk_mul, pk_sub, zI_s, zI_k, zI_o, zL_s, zL_k, zL_o, zR_s, zR_k, zR_o, zIL, zIR, zIN, zLI, zLR, zLN, zRI, zRL, zRN, true_and, and_true, not_true_eq_false, not_false_eq_true, true_implies, false_implies, implies_true, forall_const, if_true, if_false, eq_self, false_and, and_false, implies_true, nI_l, ylle_t, ylle_f, xcl_t, xcl_f, x1, y_3]
    exact kk _ hr (mK_0 h)
  · rw [gP_none z] at kk
    simp (disch := omega) only [xle_t, xle_f, xlt_t, xlt_f, xeq_t, xeq_f, xle0_t, xle0_f, xlt0_f, x0lt_t, x0lt_f, x0le_t, xeq0_t, xeq0_f, xin, xem_f, xme_f, xlem_f, xlm_f, xml_t, xmle_t, nI_clamp, nI_add, pk_mul, pk_sub, zI_s, zI_k, zI_o, zL_s, zL_k, zL_o, zR_s, zR_k, zR_o, zIL, zIR, zIN, zLI, zLR, zLN, zRI, zRL, zRN, true_and, and_true, not_true_eq_false, not_false_eq_true, true_implies, false_implies, implies_true, forall_const, if_true, if_false, eq_self, false_and, and_false, implies_true, nI_l, ylle_t, ylle_f, xcl_t, xcl_f, x1, y_3, x2 3 rfl]
    exact kk _ hr (mK_0 h)
  rw [gP_some hp] at kk
  have lo1 := y64_lo (y := y) (a := 1) (by omega)
  have hi4 := y64_hi (y := y) (b := 400) (by omega)
  by_cases wn : w = -(nI 1)
  · rw [if_pos wn] at kk
    rcases bd3 y (a := 1) (b := 400) (by omega) (by omega) with ⟨y1, y2⟩ | ⟨y1, y2, y3⟩ | ⟨k, k1, k2, rfl⟩
    · rw [gD_lo y2] at kk
      simp (disch := omega) only [xle_t, xle_f, xlt_t, xlt_f, xeq_t, xeq_f, xle0_t, xle0_f, xlt0_f, x0lt_t, x0lt_f, x0le_t, xeq0_t, xeq0_f, xin, xem_f, xme_f, xlem_f, xlm_f, xml_t, xmle_t, nI_clamp, nI_add, pk_mul, pk_sub, zI_s, zI_k, zI_o, zL_s, zL_k, zL_o, zR_s, zR_k, zR_o, zIL, zIR, zIN, zLI, zLR, zLN, zRI, zRL, zRN, true_and, and_true, not_true_eq_false, not_false_eq_true, true_implies, false_implies, implies_true, forall_const, if_true, if_false, eq_self, false_and, and_false, implies_true, nI_l, ylle_t, ylle_f, xcl_t, xcl_f, y_3, wn, lo1, y2]
      exact kk _ hr (mK_0 h)
    · rw [gD_hi y3] at kk
      simp (disch := omega) only [xle_t, xle_f, xlt_t, xlt_f, xeq_t, xeq_f, xle0_t, xle0_f, xlt0_f, x0lt_t, x0lt_f, x0le_t, xeq0_t, xeq0_f, xin, xem_f, xme_f, xlem_f, xlm_f, xml_t, xmle_t, nI_clamp, nI_add, pk_mul, pk_sub, zI_s, zI_k, zI_o, zL_s, zL_k, zL_o, zR_s, zR_k, zR_o, zIL, zIR, zIN, zLI, zLR, zLN, zRI, zRL, zRN, true_and, and_true, not_true_eq_false, not_false_eq_true, true_implies, false_implies, implies_true, forall_const, if_true, if_false, eq_self, false_and, and_false, implies_true, nI_l, ylle_t, ylle_f, xcl_t, xcl_f, y_3, y_400, wn, lo1, y2, hi4, y3]
      exact kk _ hr (mK_0 h)
    · rw [gD_in k1 k2] at kk
      simp (disch := omega) only [xle_t, xle_f, xlt_t, xlt_f, xeq_t, xeq_f, xle0_t, xle0_f, xlt0_f, x0lt_t, x0lt_f, x0le_t, xeq0_t, xeq0_f, xin, xem_f, xme_f, xlem_f, xlm_f, xml_t, xmle_t, nI_clamp, nI_add, pk_mul, pk_sub, zI_s, zI_k, zI_o, zL_s, zL_k, zL_o, zR_s, zR_k, zR_o, zIL, zIR, zIN, zLI, zLR, zLN, zRI, zRL, zRN, true_and, and_true, not_true_eq_false, not_false_eq_true, true_implies, false_implies, implies_true, forall_const, if_true, if_false, eq_self, false_and, and_false, implies_true, nI_l, ylle_t, ylle_f, xcl_t, xcl_f, y_3, y_400, wn]
      refine n_ast hr hA0.1 hB.1 (by omega) (fun h1 r1 f1 m1 => ?_)
      have hA1 : bIn B (h1.1 112) 0 := by rw [f1.i (by omega)]; exact hA0
      have k1 := (mK_0 h).trans (mK_116 f1)
      refine u_X11_days_47 (d1' := 4) r1 (by omega) ?_
      refine n_runs (lo := 40) r1 hp (fT_ok hB.1) m1 (mP.of hA1 hp (k1.2.2.2.2.trans h28)) (hB.2 p hp) (Or.inl ⟨rfl, rfl⟩) (by omega) (fun h2 r2 f2 s2 => ?_)
      have kk1 := kk h2 r2 (k1.trans f2.k)
      have s2' : mS B.1.1 (rTo B.1 (B.2 p)) h2 := s2
      have ho := rTo_o hB hp
      have hA2 : bIn B (h2.1 112) 0 := by rw [f2.1.i (by omega)]; exact hA1
      refine u_X11_days_53 (d1' := 0) r2 (by omega) ?_
      simp (disch := omega) only [xle_t, xle_f, xlt_t, xlt_f, xeq_t, xeq_f, xle0_t, xle0_f, xlt0_f, x0lt_t, x0lt_f, x0le_t, xeq0_t, xeq0_f, xin, xem_f, xme_f, xlem_f, xlm_f, xml_t, xmle_t, nI_clamp, nI_add, pk_mul, pk_sub, zI_s, zI_k, zI_o, zL_s, zL_k, zL_o, zR_s, zR_k, zR_o, zIL, zIR, zIN, zLI, zLR, zLN, zRI, zRL, zRN, true_and, and_true, not_true_eq_false, not_false_eq_true, true_implies, false_implies, implies_true, forall_const, if_true, if_false, eq_self, false_and, and_false, implies_true, nI_l, ylle_t, ylle_f, xcl_t, xcl_f]
      refine n_wxr r2 hA2.1 hB.1 (fT_ok hB.1) (fun c hc => ?_) s2' ho.2.2.2.2.1 (u_X11_days_62 ?_)
      · rw [f2.1.i (by omega)]; exact m1 c hc
      · rw [pk_mul]
        exact kk1
  · rw [if_neg wn] at kk
    rcases ix3 w (n := B.1.1) (by omega) with ⟨z, _, x1⟩ | ⟨z, _, _, x1, x2, x3, _⟩ | ⟨c, hc, rfl, z⟩
    · rw [gC_none z] at kk
      simp (disch := omega) only [xle_t, xle_f, xlt_t, xlt_f, xeq_t, xeq_f, xle0_t, xle0_f, xlt0_f, x0lt_t, x0lt_f, x0le_t, xeq0_t, xeq0_f, xin, xem_f, xme_f, xlem_f, xlm_f, xml_t, xmle_t, nI_clamp, nI_add, pk_mul, pk_sub, zI_s, zI_k, zI_o, zL_s, zL_k, zL_o, zR_s, zR_k, zR_o, zIL, zIR, zIN, zLI, zLR, zLN, zRI, zRL, zRN, true_and, and_true, not_true_eq_false, not_false_eq_true, true_implies, false_implies, implies_true, forall_const, if_true, if_false, eq_self, false_and, and_false, implies_true, nI_l, ylle_t, ylle_f, xcl_t, xcl_f, x1, y_3, hn0, wn]
      exact kk _ hr (mK_0 h)
    · rw [gC_none z] at kk
      simp (disch := omega) only [xle_t, xle_f, xlt_t, xlt_f, xeq_t, xeq_f, xle0_t, xle0_f, xlt0_f, x0lt_t, x0lt_f, x0le_t, xeq0_t, xeq0_f, xin, xem_f, xme_f, xlem_f, xlm_f, xml_t, xmle_t, nI_clamp, nI_add, pk_mul, pk_sub, zI_s, zI_k, zI_o, zL_s, zL_k, zL_o, zR_s, zR_k, zR_o, zIL, zIR, zIN, zLI, zLR, zLN, zRI, zRL, zRN, true_and, and_true, not_true_eq_false, not_false_eq_true, true_implies, false_implies, implies_true, forall_const, if_true, if_false, eq_self, false_and, and_false, implies_true, nI_l, ylle_t, ylle_f, xcl_t, xcl_f, x1, x2, y_3, hn0, wn]
      exact kk _ hr (mK_0 h)
    rw [gC_some hc (by omega)] at kk
    rcases bd3 y (a := 1) (b := 400) (by omega) (by omega) with ⟨y1, y2⟩ | ⟨y1, y2, y3⟩ | ⟨k, k1, k2, rfl⟩
    · rw [gD_lo y2] at kk
      simp (disch := omega) only [xle_t, xle_f, xlt_t, xlt_f, xeq_t, xeq_f, xle0_t, xle0_f, xlt0_f, x0lt_t, x0lt_f, x0le_t, xeq0_t, xeq0_f, xin, xem_f, xme_f, xlem_f, xlm_f, xml_t, xmle_t, nI_clamp, nI_add, pk_mul, pk_sub, zI_s, zI_k, zI_o, zL_s, zL_k, zL_o, zR_s, zR_k, zR_o, zIL, zIR, zIN, zLI, zLR, zLN, zRI, zRL, zRN, true_and, and_true, not_true_eq_false, not_false_eq_true, true_implies, false_implies, implies_true, forall_const, if_true, if_false, eq_self, false_and, and_false, implies_true, nI_l, ylle_t, ylle_f, xcl_t, xcl_f, y_3, hn0, lo1, y2]
      exact kk _ hr (mK_0 h)
    · rw [gD_hi y3] at kk
      simp (disch := omega) only [xle_t, xle_f, xlt_t, xlt_f, xeq_t, xeq_f, xle0_t, xle0_f, xlt0_f, x0lt_t, x0lt_f, x0le_t, xeq0_t, xeq0_f, xin, xem_f, xme_f, xlem_f, xlm_f, xml_t, xmle_t, nI_clamp, nI_add, pk_mul, pk_sub, zI_s, zI_k, zI_o, zL_s, zL_k, zL_o, zR_s, zR_k, zR_o, zIL, zIR, zIN, zLI, zLR, zLN, zRI, zRL, zRN, true_and, and_true, not_true_eq_false, not_false_eq_true, true_implies, false_implies, implies_true, forall_const, if_true, if_false, eq_self, false_and, and_false, implies_true, nI_l, ylle_t, ylle_f, xcl_t, xcl_f, y_3, y_400, hn0, lo1, y2, hi4, y3]
      exact kk _ hr (mK_0 h)
    · rw [gD_in k1 k2] at kk
      simp (disch := omega) only [xle_t, xle_f, xlt_t, xlt_f, xeq_t, xeq_f, xle0_t, xle0_f, xlt0_f, x0lt_t, x0lt_f, x0le_t, xeq0_t, xeq0_f, xin, xem_f, xme_f, xlem_f, xlm_f, xml_t, xmle_t, nI_clamp, nI_add, pk_mul, pk_sub, zI_s, zI_k, zI_o, zL_s, zL_k, zL_o, zR_s, zR_k, zR_o, zIL, zIR, zIN, zLI, zLR, zLN, zRI, zRL, zRN, true_and, and_true, not_true_eq_false, not_false_eq_true, true_implies, false_implies, implies_true, forall_const, if_true, if_false, eq_self, false_and, and_false, implies_true, nI_l, ylle_t, ylle_f, xcl_t, xcl_f, y_3, y_400, hn0]
      refine n_ast hr hA0.1 hB.1 (by omega) (fun h1 r1 f1 m1 => ?_)
      have hA1 : bIn B (h1.1 112) 0 := by rw [f1.i (by omega)]; exact hA0
      have k1 := (mK_0 h).trans (mK_116 f1)
      refine u_X11_days_47 (d1' := 4) r1 (by omega) ?_
      refine n_runs (lo := 40) r1 hp (fT_ok hB.1) m1 (mP.of hA1 hp (k1.2.2.2.2.trans h28)) (hB.2 p hp) (Or.inl ⟨rfl, rfl⟩) (by omega) (fun h2 r2 f2 s2 => ?_)
      have kk1 := kk h2 r2 (k1.trans f2.k)
      have s2' : mS B.1.1 (rTo B.1 (B.2 p)) h2 := s2
      have ho := rTo_o hB hp
      have e49 : h2.1 116 c = nI (fT B.1 c) := by rw [f2.1.i (by omega)]; exact m1 c (by omega)
      have e52 := (s2'.1 c (by omega)).2.2.1
      have b1 := (fT_ok hB.1).le hc
      have b2 := ho.2.2.2.2.1.2.2 c
      unfold fDay at kk1
      refine u_X11_days_53 (d1' := 0) r2 (by omega) ?_
      by_cases q : (rTo B.1 (B.2 p)).1.2.2.1 c < fT B.1 c
      · rw [if_pos q] at kk1
        simp (disch := omega) only [xle_t, xle_f, xlt_t, xlt_f, xeq_t, xeq_f, xle0_t, xle0_f, xlt0_f, x0lt_t, x0lt_f, x0le_t, xeq0_t, xeq0_f, xin, xem_f, xme_f, xlem_f, xlm_f, xml_t, xmle_t, nI_clamp, nI_add, pk_mul, pk_sub, zI_s, zI_k, zI_o, zL_s, zL_k, zL_o, zR_s, zR_k, zR_o, zIL, zIR, zIN, zLI, zLR, zLN, zRI, zRL, zRN, true_and, and_true, not_true_eq_false, not_false_eq_true, true_implies, false_implies, implies_true, forall_const, if_true, if_false, eq_self, false_and, and_false, implies_true, nI_l, ylle_t, ylle_f, xcl_t, xcl_f, e49, e52]
        exact kk1
      · rw [if_neg q] at kk1
        simp (disch := omega) only [xle_t, xle_f, xlt_t, xlt_f, xeq_t, xeq_f, xle0_t, xle0_f, xlt0_f, x0lt_t, x0lt_f, x0le_t, xeq0_t, xeq0_f, xin, xem_f, xme_f, xlem_f, xlm_f, xml_t, xmle_t, nI_clamp, nI_add, pk_mul, pk_sub, zI_s, zI_k, zI_o, zL_s, zL_k, zL_o, zR_s, zR_k, zR_o, zIL, zIR, zIN, zLI, zLR, zLN, zRI, zRL, zRN, true_and, and_true, not_true_eq_false, not_false_eq_true, true_implies, false_implies, implies_true, forall_const, if_true, if_false, eq_self, false_and, and_false, implies_true, nI_l, ylle_t, ylle_f, xcl_t, xcl_f, e49, e52]
        exact kk1
/-! would -/
theorem fT_sum {C : CE} (hC : cOK C) : fb_sm (fT C) C.1 ≤ 188743680 := by
  have : fb_sm (fT C) C.1 ≤ C.1 * 23592960 := fb_sm_bound (fun k hk => by
    have e : fT C k = cS C k * 256 := if_pos hk
    have := cS_le hC hk
    omega)
  have h8 := hC.1
  omega
theorem fT_w {C : CE} (hC : cOK C) {c w : Nat} (hc : c < C.1) (h1 : 1 ≤ w) (h2 : w ≤ 200000) : fOK C.1 (kU (fT C) c (w * 256)) := by
  have hF := fT_ok hC
  refine ⟨hF.1, fun x hx => ?_, fun x hx => ?_, ?_⟩
  · by_cases e : x = c
    · rw [e, kU_s]; exact ⟨Nat.dvd_mul_left _ _, by omega⟩
    · rw [kU_o _ _ e]; exact hF.2.1 x hx
  · rw [kU_o _ _ (by omega)]; exact hF.2.2.1 x hx
  · have e := fb_sm_upd (fT C) (w * 256) hc
    have e2 : fb_sm (kU (fT C) c (w * 256)) C.1 + fT C c = fb_sm (fT C) C.1 + w * 256 := e
    have := fT_sum hC
    omega
noncomputable def fWould (C : CE) (P : PL) (k : Int32) (c : Nat) (m : Int32) : Int32 :=
  if 1 ≤ (cS C c : Int) + m.toInt ∧ (cS C c : Int) + m.toInt ≤ 200000 then fBell (rPlay P C.1 40 1024000000 (kU (fT C) c (((cS C c : Int) + m.toInt).toNat * 256))) k else -(nI 3)
noncomputable def gWould (B : BK) (x k y m : Int32) : Int32 := gP x (fun p => gC B.1.1 y (fun c => fWould B.1 (B.2 p) k c m))
theorem w_sum {s : Nat} (hs : s ≤ 92160) (m : Int32) : (lN s + m.toInt64).toInt = (s : Int) + m.toInt := by
  have h1 : -2147483648 ≤ m.toInt := Int32.le_toInt m
  have h2 : m.toInt < 2147483648 := Int32.toInt_lt m
  rw [Int64.toInt_add, pk_lT (by omega), w64]
  exact Int.bmod_eq_of_le (by omega) (by omega)
theorem w_sumN {s : Nat} (hs : s ≤ 92160) {m : Int32} (h : 1 ≤ (s : Int) + m.toInt) (h2 : (s : Int) + m.toInt ≤ 200000) : lN s + m.toInt64 = lN ((s : Int) + m.toInt).toNat ∧ nI s + m = nI ((s : Int) + m.toInt).toNat := by
  refine ⟨Int64.toInt_inj.mp ?_, Int32.toInt_inj.mp ?_⟩
  · rw [w_sum hs, pk_lT (by omega)]; omega
  · rw [Int32.toInt_add, nI_toInt (by omega), nI_toInt (by omega), Int.bmod_eq_of_le (by omega) (by omega)]; omega
theorem o_would {B : BK} {h : MH} {d : Nat} {x k y m : Int32} {Q : Option MV → MH → Prop} (hr : zRf h) (hA : bAt B h 15) (hB : bOK B) (hd : 6 ≤ d) (kk : ∀ h', zRf h' → cF h h' → Q (some (.inl (gWould B x k y m))) h') : Con mX10_would d 0 0 [.inr (.inr 1), .inl x, .inl k, .inl y, .inl m] h Q := by
  unfold gWould at kk
  have h8 := hB.1.1
  have hn0 : h.1 16 0 = nI B.1.1 := hA.1.1
  refine u_X10_would (d1' := 4) hr (by omega) (by omega) ?_
  rcases ix3 x (n := 4) (by omega) with ⟨z, x1, _⟩ | ⟨z, x1, x2, _⟩ | ⟨p, hp, rfl, z⟩
  · rw [gP_none z] at kk
    simp (disch := omega) only [xle_t, xle_f, xlt_t, xlt_f, xeq_t, xeq_f, xle0_t, xle0_f, xlt0_f, x0lt_t, x0lt_f, x0le_t, xeq0_t, xeq0_f, xin, xem_f, xme_f, xlem_f, xlm_f, xml_t, xmle_t, nI_clamp, nI_add, pk_mul, pk_sub, zI_s, zI_k, zI_o, zL_s, zL_k, zL_o, zR_s, zR_k, zR_o, zIL, zIR, zIN, zLI, zLR, zLN, zRI, zRL, zRN, true_and, and_true, not_true_eq_false, not_false_eq_true, true_implies, false_implies, implies_true, forall_const, if_true, if_false, eq_self, false_and, and_false, implies_true, nI_l, ylle_t, ylle_f, xcl_t, xcl_f, x1]
    exact kk h hr zF.rfl
  · rw [gP_none z] at kk
    simp (disch := omega) only [xle_t, xle_f, xlt_t, xlt_f, xeq_t, xeq_f, xle0_t, xle0_f, xlt0_f, x0lt_t, x0lt_f, x0le_t, xeq0_t, xeq0_f, xin, xem_f, xme_f, xlem_f, xlm_f, xml_t, xmle_t, nI_clamp, nI_add, pk_mul, pk_sub, zI_s, zI_k, zI_o, zL_s, zL_k, zL_o, zR_s, zR_k, zR_o, zIL, zIR, zIN, zLI, zLR, zLN, zRI, zRL, zRN, true_and, and_true, not_true_eq_false, not_false_eq_true, true_implies, false_implies, implies_true, forall_const, if_true, if_false, eq_self, false_and, and_false, implies_true, nI_l, ylle_t, ylle_f, xcl_t, xcl_f, x1, x2]
    exact kk h hr zF.rfl
  rw [gP_some hp] at kk
  rcases ix3 y (n := B.1.1) (by omega) with ⟨z, x1, _⟩ | ⟨z, x1, x2, _⟩ | ⟨c, hc, rfl, z⟩
  · rw [gC_none z] at kk
    simp (disch := omega) only [xle_t, xle_f, xlt_t, xlt_f, xeq_t, xeq_f, xle0_t, xle0_f, xlt0_f, x0lt_t, x0lt_f, x0le_t, xeq0_t, xeq0_f, xin, xem_f, xme_f, xlem_f, xlm_f, xml_t, xmle_t, nI_clamp, nI_add, pk_mul, pk_sub, zI_s, zI_k, zI_o, zL_s, zL_k, zL_o, zR_s, zR_k, zR_o, zIL, zIR, zIN, zLI, zLR, zLN, zRI, zRL, zRN, true_and, and_true, not_true_eq_false, not_false_eq_true, true_implies, false_implies, implies_true, forall_const, if_true, if_false, eq_self, false_and, and_false, implies_true, nI_l, ylle_t, ylle_f, xcl_t, xcl_f, x1, hn0]
    exact kk h hr zF.rfl
  · rw [gC_none z] at kk
    simp (disch := omega) only [xle_t, xle_f, xlt_t, xlt_f, xeq_t, xeq_f, xle0_t, xle0_f, xlt0_f, x0lt_t, x0lt_f, x0le_t, xeq0_t, xeq0_f, xin, xem_f, xme_f, xlem_f, xlm_f, xml_t, xmle_t, nI_clamp, nI_add, pk_mul, pk_sub, zI_s, zI_k, zI_o, zL_s, zL_k, zL_o, zR_s, zR_k, zR_o, zIL, zIR, zIN, zLI, zLR, zLN, zRI, zRL, zRN, true_and, and_true, not_true_eq_false, not_false_eq_true, true_implies, false_implies, implies_true, forall_const, if_true, if_false, eq_self, false_and, and_false, implies_true, nI_l, ylle_t, ylle_f, xcl_t, xcl_f, x1, x2, hn0]
    exact kk h hr zF.rfl
  rw [gC_some hc (by omega)] at kk
  simp (disch := omega) only [xle_t, xle_f, xlt_t, xlt_f, xeq_t, xeq_f, xle0_t, xle0_f, xlt0_f, x0lt_t, x0lt_f, x0le_t, xeq0_t, xeq0_f, xin, xem_f, xme_f, xlem_f, xlm_f, xml_t, xmle_t, nI_clamp, nI_add, pk_mul, pk_sub, zI_s, zI_k, zI_o, zL_s, zL_k, zL_o, zR_s, zR_k, zR_o, zIL, zIR, zIN, zLI, zLR, zLN, zRI, zRL, zRN, true_and, and_true, not_true_eq_false, not_false_eq_true, true_implies, false_implies, implies_true, forall_const, if_true, if_false, eq_self, false_and, and_false, implies_true, nI_l, ylle_t, ylle_f, xcl_t, xcl_f, hn0]
  have hs := cS_le hB.1 hc
  refine c_sof hr hA.1 (zo hr (by decide) rfl) hB.1 hc (by omega) ?_
  unfold fWould at kk
  refine u_X10_would_35 (d1' := 4) hr (by omega) ?_
  have c1 : (lg_cmp (lN (cS B.1 c) + m.toInt64) (lN 1) < 0) = ((cS B.1 c : Int) + m.toInt < 1) := by
    refine propext ?_
    rw [lg_cmp_lt, Int64.lt_iff_toInt_lt, w_sum hs, pk_lT (by omega)]; rfl
  have c2 : (lg_cmp (lN (cS B.1 c) + m.toInt64) (lN 200000) ≤ 0) = ((cS B.1 c : Int) + m.toInt ≤ 200000) := by
    refine propext ?_
    rw [lg_cmp_le, wle, w_sum hs, pk_lT (by omega)]; rfl
  by_cases q1 : (cS B.1 c : Int) + m.toInt < 1
  · rw [if_neg (by omega)] at kk
    simp (disch := omega) only [xle_t, xle_f, xlt_t, xlt_f, xeq_t, xeq_f, xle0_t, xle0_f, xlt0_f, x0lt_t, x0lt_f, x0le_t, xeq0_t, xeq0_f, xin, xem_f, xme_f, xlem_f, xlm_f, xml_t, xmle_t, nI_clamp, nI_add, pk_mul, pk_sub, zI_s, zI_k, zI_o, zL_s, zL_k, zL_o, zR_s, zR_k, zR_o, zIL, zIR, zIN, zLI, zLR, zLN, zRI, zRL, zRN, true_and, and_true, not_true_eq_false, not_false_eq_true, true_implies, false_implies, implies_true, forall_const, if_true, if_false, eq_self, false_and, and_false, implies_true, nI_l, ylle_t, ylle_f, xcl_t, xcl_f, c1, q1]
    exact kk h hr zF.rfl
  by_cases q2 : (cS B.1 c : Int) + m.toInt ≤ 200000
  · rw [if_pos (by omega)] at kk
    simp (disch := omega) only [xle_t, xle_f, xlt_t, xlt_f, xeq_t, xeq_f, xle0_t, xle0_f, xlt0_f, x0lt_t, x0lt_f, x0le_t, xeq0_t, xeq0_f, xin, xem_f, xme_f, xlem_f, xlm_f, xml_t, xmle_t, nI_clamp, nI_add, pk_mul, pk_sub, zI_s, zI_k, zI_o, zL_s, zL_k, zL_o, zR_s, zR_k, zR_o, zIL, zIR, zIN, zLI, zLR, zLN, zRI, zRL, zRN, true_and, and_true, not_true_eq_false, not_false_eq_true, true_implies, false_implies, implies_true, forall_const, if_true, if_false, eq_self, false_and, and_false, implies_true, nI_l, ylle_t, ylle_f, xcl_t, xcl_f, c1, q1, y_200k, c2, q2]
    refine c_lay hr hA.1 hB.1 (by omega) (fun h1 r1 f1 a1 b1 => ?_)
    obtain ⟨e1, e2⟩ := w_sumN hs (by omega) q2
    rw [e1]
    generalize hW : ((cS B.1 c : Int) + m.toInt).toNat = W at kk e1 e2
    refine u_X10_would_75 (d1' := 4) r1 (by omega) ?_
    simp (disch := omega) only [xle_t, xle_f, xlt_t, xlt_f, xeq_t, xeq_f, xle0_t, xle0_f, xlt0_f, x0lt_t, x0lt_f, x0le_t, xeq0_t, xeq0_f, xin, xem_f, xme_f, xlem_f, xlm_f, xml_t, xmle_t, nI_clamp, nI_add, pk_mul, pk_sub, zI_s, zI_k, zI_o, zL_s, zL_k, zL_o, zR_s, zR_k, zR_o, zIL, zIR, zIN, zLI, zLR, zLN, zRI, zRL, zRN, true_and, and_true, not_true_eq_false, not_false_eq_true, true_implies, false_implies, implies_true, forall_const, if_true, if_false, eq_self, false_and, and_false, implies_true, nI_l, ylle_t, ylle_f, xcl_t, xcl_f, lN_i]
    refine c_playat (lo := 40) (u := 1024000000) (f := kU (fT B.1) c (W * 256)) r1 (hA.keepF ?_) hB hp (fT_w hB.1 hc (by omega) (by omega)) ?_ (fun z hz => ?_) (by omega) (by omega) (fun h2 r2 f2 s2 => ?_)
    · exact (f1.weak (fun a q => by omega)).trans (zF_I _ _ _ (by omega))
    · rw [zI_o _ _ _ (by omega)]; exact a1
    · by_cases e : z = c
      · rw [e, zI_s, kU_s]
      · rw [zI_k _ _ _ e, kU_o _ _ e]; exact b1 z hz
    · refine u_X10_would_110 r2 (by omega) (c_bellH s2.1.2 (rPlay_o (hB.2 p hp) (fT_w hB.1 hc (by omega) (by omega))) (kk h2 r2 ?_))
      exact ((f1.weak (fun a q => by omega)).trans (zF_I _ _ _ (by omega))).trans f2.c
  · rw [if_neg (by omega)] at kk
    simp (disch := omega) only [xle_t, xle_f, xlt_t, xlt_f, xeq_t, xeq_f, xle0_t, xle0_f, xlt0_f, x0lt_t, x0lt_f, x0le_t, xeq0_t, xeq0_f, xin, xem_f, xme_f, xlem_f, xlm_f, xml_t, xmle_t, nI_clamp, nI_add, pk_mul, pk_sub, zI_s, zI_k, zI_o, zL_s, zL_k, zL_o, zR_s, zR_k, zR_o, zIL, zIR, zIN, zLI, zLR, zLN, zRI, zRL, zRN, true_and, and_true, not_true_eq_false, not_false_eq_true, true_implies, false_implies, implies_true, forall_const, if_true, if_false, eq_self, false_and, and_false, implies_true, nI_l, ylle_t, ylle_f, xcl_t, xcl_f, c1, q1, y_200k, c2, q2]
    exact kk h hr zF.rfl
theorem n_would {B : BK} {h : MH} {d : Nat} {x k y m : Int32} {Q : Option MV → MH → Prop} (hr : zRf h) (hA : bIn B (h.1 112) 0) (hB : bOK B) (h28 : h.1 111 28 = -(nI 1)) (hd : 5 ≤ d) (kk : ∀ h', zRf h' → mK h h' → Q (some (.inl (gWould B x k y m))) h') : Con mX11_would d 0 0 [.inr (.inr 111), .inl x, .inl k, .inl y, .inl m] h Q := by
  unfold gWould at kk
  have h8 := hB.1.1
  have hn0 : h.1 112 0 = nI B.1.1 := hA.1.1
  have hA0 : bIn B ((zsI h 111 0 (nI 0)).1 112) 0 := hA
  refine u_X11_would (d1' := 1) hr (by omega) (by omega) ?_
  rcases ix3 x (n := 4) (by omega) with ⟨z, _, x1⟩ | ⟨z, _, _, x1, _, x2, _⟩ | ⟨p, hp, rfl, z⟩
  · rw [gP_none z] at kk
    simp (disch := omega) only [xle_t, xle_f, xlt_t, xlt_f, xeq_t, xeq_f, xle0_t, xle0_f, xlt0_f, x0lt_t, x0lt_f, x0le_t, xeq0_t, xeq0_f, xin, xem_f, xme_f, xlem_f, xlm_f, xml_t, xmle_t, nI_clamp, nI_add, pk_mul, pk_sub, zI_s, zI_k, zI_o, zL_s, zL_k, zL_o, zR_s, zR_k, zR_o, zIL, zIR, zIN, zLI, zLR, zLN, zRI, zRL, zRN, true_and, and_true, not_true_eq_false, not_false_eq_true, true_implies, false_implies, implies_true, forall_const, if_true, if_false, eq_self, false_and, and_false, implies_true, nI_l, ylle_t, ylle_f, xcl_t, xcl_f, x1, y_3]
    exact kk _ hr (mK_0 h)
  · rw [gP_none z] at kk
    simp (disch := omega) only [xle_t, xle_f, xlt_t, xlt_f, xeq_t, xeq_f, xle0_t, xle0_f, xlt0_f, x0lt_t, x0lt_f, x0le_t, xeq0_t, xeq0_f, xin, xem_f, xme_f, xlem_f, xlm_f, xml_t, xmle_t, nI_clamp, nI_add, pk_mul, pk_sub, zI_s, zI_k, zI_o, zL_s, zL_k, zL_o, zR_s, zR_k, zR_o, zIL, zIR, zIN, zLI, zLR, zLN, zRI, zRL, zRN, true_and, and_true, not_true_eq_false, not_false_eq_true, true_implies, false_implies, implies_true, forall_const, if_true, if_false, eq_self, false_and, and_false, implies_true, nI_l, ylle_t, ylle_f, xcl_t, xcl_f, x1, y_3, x2 3 rfl]
    exact kk _ hr (mK_0 h)
  rw [gP_some hp] at kk
  rcases ix3 y (n := B.1.1) (by omega) with ⟨z, _, x1⟩ | ⟨z, _, _, x1, x2, x3, _⟩ | ⟨c, hc, rfl, z⟩
  · rw [gC_none z] at kk
    simp (disch := omega) only [xle_t, xle_f, xlt_t, xlt_f, xeq_t, xeq_f, xle0_t, xle0_f, xlt0_f, x0lt_t, x0lt_f, x0le_t, xeq0_t, xeq0_f, xin, xem_f, xme_f, xlem_f, xlm_f, xml_t, xmle_t, nI_clamp, nI_add, pk_mul, pk_sub, zI_s, zI_k, zI_o, zL_s, zL_k, zL_o, zR_s, zR_k, zR_o, zIL, zIR, zIN, zLI, zLR, zLN, zRI, zRL, zRN, true_and, and_true, not_true_eq_false, not_false_eq_true, true_implies, false_implies, implies_true, forall_const, if_true, if_false, eq_self, false_and, and_false, implies_true, nI_l, ylle_t, ylle_f, xcl_t, xcl_f, x1, y_3, hn0]
    exact kk _ hr (mK_0 h)
  · rw [gC_none z] at kk
    simp (disch := omega) only [xle_t, xle_f, xlt_t, xlt_f, xeq_t, xeq_f, xle0_t, xle0_f, xlt0_f, x0lt_t, x0lt_f, x0le_t, xeq0_t, xeq0_f, xin, xem_f, xme_f, xlem_f, xlm_f, xml_t, xmle_t, nI_clamp, nI_add, pk_mul, pk_sub, zI_s, zI_k, zI_o, zL_s, zL_k, zL_o, zR_s, zR_k, zR_o, zIL, zIR, zIN, zLI, zLR, zLN, zRI, zRL, zRN, true_and, and_true, not_true_eq_false, not_false_eq_true, true_implies, false_implies, implies_true, forall_const, if_true, if_false, eq_self, false_and, and_false, implies_true, nI_l, ylle_t, ylle_f, xcl_t, xcl_f, x1, x2, y_3, hn0]
    exact kk _ hr (mK_0 h)
  rw [gC_some hc (by omega)] at kk
  simp (disch := omega) only [xle_t, xle_f, xlt_t, xlt_f, xeq_t, xeq_f, xle0_t, xle0_f, xlt0_f, x0lt_t, x0lt_f, x0le_t, xeq0_t, xeq0_f, xin, xem_f, xme_f, xlem_f, xlm_f, xml_t, xmle_t, nI_clamp, nI_add, pk_mul, pk_sub, zI_s, zI_k, zI_o, zL_s, zL_k, zL_o, zR_s, zR_k, zR_o, zIL, zIR, zIN, zLI, zLR, zLN, zRI, zRL, zRN, true_and, and_true, not_true_eq_false, not_false_eq_true, true_implies, false_implies, implies_true, forall_const, if_true, if_false, eq_self, false_and, and_false, implies_true, nI_l, ylle_t, ylle_f, xcl_t, xcl_f, y_3, hn0]
  have hs := cS_le hB.1 hc
  refine m_rest (h := zsI h 111 0 (nI 0)) (d := 1) hr hA0.1 hB.1 hc (by omega) ?_
  unfold fWould at kk
  refine u_X11_would_28 (d1' := 2) hr (by omega) (by omega) ?_
  have c1 : (lN 1 ≤ lN (cS B.1 c) + m.toInt64) = (1 ≤ (cS B.1 c : Int) + m.toInt) := by
    refine propext ?_
    rw [wle, w_sum hs, pk_lT (by omega)]; rfl
  have c2 : (lN (cS B.1 c) + m.toInt64 ≤ lN 200000) = ((cS B.1 c : Int) + m.toInt ≤ 200000) := by
    refine propext ?_
    rw [wle, w_sum hs, pk_lT (by omega)]; rfl
  by_cases q1 : 1 ≤ (cS B.1 c : Int) + m.toInt
  · by_cases q2 : (cS B.1 c : Int) + m.toInt ≤ 200000
    · rw [if_pos (by omega)] at kk
      simp (disch := omega) only [xle_t, xle_f, xlt_t, xlt_f, xeq_t, xeq_f, xle0_t, xle0_f, xlt0_f, x0lt_t, x0lt_f, x0le_t, xeq0_t, xeq0_f, xin, xem_f, xme_f, xlem_f, xlm_f, xml_t, xmle_t, nI_clamp, nI_add, pk_mul, pk_sub, zI_s, zI_k, zI_o, zL_s, zL_k, zL_o, zR_s, zR_k, zR_o, zIL, zIR, zIN, zLI, zLR, zLN, zRI, zRL, zRN, true_and, and_true, not_true_eq_false, not_false_eq_true, true_implies, false_implies, implies_true, forall_const, if_true, if_false, eq_self, false_and, and_false, implies_true, nI_l, ylle_t, ylle_f, xcl_t, xcl_f, c1, q1, y_200k, c2, q2]
      refine n_ast hr hA0.1 hB.1 (by omega) (fun h1 r1 f1 m1 => ?_)
      have hA1 : bIn B (h1.1 112) 0 := by rw [f1.i (by omega)]; exact hA0
      have k1 := (mK_0 h).trans (mK_116 f1)
      obtain ⟨e1, e2⟩ := w_sumN hs (by omega) q2
      have e9 : nI (cS B.1 c * 256) + m * nI 256 = nI (((cS B.1 c : Int) + m.toInt).toNat * 256) := by
        rw [← pk_mul, ← Int32.add_mul, e2, pk_mul]
      generalize hW : ((cS B.1 c : Int) + m.toInt).toNat = W at kk e1 e2 e9
      have e116 : h1.1 116 c = nI (cS B.1 c * 256) := by
        rw [m1 c (by omega)]
        unfold fT
        rw [if_pos hc]
      refine u_X11_would_50 (d1' := 4) r1 (by omega) ?_
      simp (disch := omega) only [xle_t, xle_f, xlt_t, xlt_f, xeq_t, xeq_f, xle0_t, xle0_f, xlt0_f, x0lt_t, x0lt_f, x0le_t, xeq0_t, xeq0_f, xin, xem_f, xme_f, xlem_f, xlm_f, xml_t, xmle_t, nI_clamp, nI_add, pk_mul, pk_sub, zI_s, zI_k, zI_o, zL_s, zL_k, zL_o, zR_s, zR_k, zR_o, zIL, zIR, zIN, zLI, zLR, zLN, zRI, zRL, zRN, true_and, and_true, not_true_eq_false, not_false_eq_true, true_implies, false_implies, implies_true, forall_const, if_true, if_false, eq_self, false_and, and_false, implies_true, nI_l, ylle_t, ylle_f, xcl_t, xcl_f, e116, e9]
      have hA2 : bIn B ((zsI h1 116 c (nI (W * 256))).1 112) 0 := by rw [zI_o _ _ _ (by omega)]; exact hA1
      have k2 : mK h (zsI h1 116 c (nI (W * 256))) := k1.trans (mK_116 (zF_I _ _ _ (by omega)))
      refine n_runs (lo := 40) (f := kU (fT B.1) c (W * 256)) r1 hp (fT_w hB.1 hc (by omega) (by omega)) (fun z hz => ?_) (mP.of hA2 hp (k2.2.2.2.2.trans h28)) (hB.2 p hp) (Or.inl ⟨rfl, rfl⟩) (by omega) (fun h2 r2 f2 s2 => ?_)
      · by_cases e : z = c
        · rw [e, zI_s, kU_s]
        · rw [zI_k _ _ _ e, kU_o _ _ e]; exact m1 z hz
      · exact u_X11_would_71 r2 (by omega) (n_bellH s2.2 (rPlay_o (hB.2 p hp) (fT_w hB.1 hc (by omega) (by omega))) (kk h2 r2 (k2.trans f2.k)))
    · rw [if_neg (by omega)] at kk
      simp (disch := omega) only [xle_t, xle_f, xlt_t, xlt_f, xeq_t, xeq_f, xle0_t, xle0_f, xlt0_f, x0lt_t, x0lt_f, x0le_t, xeq0_t, xeq0_f, xin, xem_f, xme_f, xlem_f, xlm_f, xml_t, xmle_t, nI_clamp, nI_add, pk_mul, pk_sub, zI_s, zI_k, zI_o, zL_s, zL_k, zL_o, zR_s, zR_k, zR_o, zIL, zIR, zIN, zLI, zLR, zLN, zRI, zRL, zRN, true_and, and_true, not_true_eq_false, not_false_eq_true, true_implies, false_implies, implies_true, forall_const, if_true, if_false, eq_self, false_and, and_false, implies_true, nI_l, ylle_t, ylle_f, xcl_t, xcl_f, c1, q1, y_200k, c2, q2]
      exact kk _ hr (mK_0 h)
  · rw [if_neg (by omega)] at kk
    simp (disch := omega) only [xle_t, xle_f, xlt_t, xlt_f, xeq_t, xeq_f, xle0_t, xle0_f, xlt0_f, x0lt_t, x0lt_f, x0le_t, xeq0_t, xeq0_f, xin, xem_f, xme_f, xlem_f, xlm_f, xml_t, xmle_t, nI_clamp, nI_add, pk_mul, pk_sub, zI_s, zI_k, zI_o, zL_s, zL_k, zL_o, zR_s, zR_k, zR_o, zIL, zIR, zIN, zLI, zLR, zLN, zRI, zRL, zRN, true_and, and_true, not_true_eq_false, not_false_eq_true, true_implies, false_implies, implies_true, forall_const, if_true, if_false, eq_self, false_and, and_false, implies_true, nI_l, ylle_t, ylle_f, xcl_t, xcl_f, c1, q1]
    exact kk _ hr (mK_0 h)
