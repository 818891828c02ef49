/-! ===== ways in the class: between, all marks, all wanted: from the root ===== -/
section WR
variable {C : CE} {S : Nat} {out : Bool}
theorem wAll_mom (hC : cOK C) (hS : wSet C S) {b : WN} (hb : b ∈ wAll C S out) {j : Nat} (hj : j ≤ b.1) : wG0 C S 8 / 2 ^ wN S 8 ∣ b.2.2.2 j ∧ b.2.2.2 j ≤ wAl C S := by
  rcases Nat.eq_zero_or_pos j with z | z
  · rw [z, (wAll_gr hC hS hb).2.2.2.2.2.1]
    exact ⟨⟨0, by rw [Nat.mul_zero]⟩, Nat.zero_le _⟩
  · obtain ⟨c, c1, c2, c3⟩ := wNd_anc (j := j) (wRt_I hC hS) hb (show (wRt C S).1 < j from z) hj
    obtain ⟨q1, _, q2, _⟩ := wAll_gr hC hS (out := out) c1
    rw [c2, c3] at q1 q2
    exact ⟨q1, q2⟩
theorem c_skB {T d : Nat} {h : MH} {Q : Option MV → MH → Prop} (hr : zRf h) (hC : cOK C) (hS : wSet C S) (hl : wLc C S 8 out h) (hTb : T < 2 ^ 31) (hd : 24 ≤ d)
    (kk : ∀ h', zRf h' → cY 62 h h' → Q (some (.inl (bI ((wAll C S out).any (bet T))))) h') :
    Con mX9_seek d 0 0 [.inr (.inr 62), .inl (nI 4), .inl (nI T)] h Q := by
  have hI := wRt_I hC hS
  have n4 := hS.2.2
  have ab := wAl_b hC hS
  obtain ⟨l0, l1, l2, l3, l4⟩ := id hl
  obtain ⟨g1, g2, g3⟩ := wG0_b hC hS.2.1 (c := 8)
  have none_ : (∀ b, b ∈ wAll C S out → ∀ i, i < b.1 → b.2.2.2 i + T ≠ b.2.2.2 b.1) → Q (some (.inl (nI 0))) h := fun q => by
    have e : (wAll C S out).any (bet T) = false := List.any_eq_false.mpr (fun b hb => by
      refine Bool.eq_false_iff.mp (decide_eq_false (fun ⟨i, i1, i2⟩ => q b hb i i1 i2)))
    have := kk h hr zF.rfl
    rw [e] at this
    exact this
  refine u_X9_seek (d1' := d - 1) hr (by omega) ?_
  have l2' : h.1 62 2 = nI (wAl C S) := l2
  rcases Nat.lt_or_ge (wAl C S) T with c1 | c1
  · simp (disch := omega) only [xle_t, xle_f, xlt_t, xlt_f, xeq_t, xeq_f, xle0_t, xle0_f, xlt0_f, x0lt_t, x0lt_f, x0le_t, xeq0_t, xeq0_f, xin, xem_f, xme_f, xlem_f, xlm_f, xml_t, xmle_t, nI_clamp, nI_add, pk_mul, pk_sub, zI_s, zI_k, zI_o, zL_s, zL_k, zL_o, zR_s, zR_k, zR_o, zIL, zIR, zIN, zLI, zLR, zLN, zRI, zRL, zRN, true_and, and_true, not_true_eq_false, not_false_eq_true, true_implies, false_implies, implies_true, forall_const, if_true, if_false, eq_self, false_and, and_false, implies_true, nI_l, ylle_t, ylle_f, xcl_t, xcl_f, l2']
    exact none_ (fun b hb i hi => by have := (wAll_gr hC hS hb).2.2.1; omega)
  · simp (disch := omega) only [xle_t, xle_f, xlt_t, xlt_f, xeq_t, xeq_f, xle0_t, xle0_f, xlt0_f, x0lt_t, x0lt_f, x0le_t, xeq0_t, xeq0_f, xin, xem_f, xme_f, xlem_f, xlm_f, xml_t, xmle_t, nI_clamp, nI_add, pk_mul, pk_sub, zI_s, zI_k, zI_o, zL_s, zL_k, zL_o, zR_s, zR_k, zR_o, zIL, zIR, zIN, zLI, zLR, zLN, zRI, zRL, zRN, true_and, and_true, not_true_eq_false, not_false_eq_true, true_implies, false_implies, implies_true, forall_const, if_true, if_false, eq_self, false_and, and_false, implies_true, nI_l, ylle_t, ylle_f, xcl_t, xcl_f, l2']
    refine c_ogr hr l0 l3 n4 g1 (g3 (wSet_n hC hS)) g2 hTb ?_
    refine u_X9_seek_13 (d1' := d - 1) hr (by omega) ?_
    by_cases z : wG0 C S 8 / 2 ^ wN S 8 ∣ T
    · rw [decide_eq_true z, show bI true = nI 1 from rfl]
      simp (disch := omega) only [xle_t, xle_f, xlt_t, xlt_f, xeq_t, xeq_f, xle0_t, xle0_f, xlt0_f, x0lt_t, x0lt_f, x0le_t, xeq0_t, xeq0_f, xin, xem_f, xme_f, xlem_f, xlm_f, xml_t, xmle_t, nI_clamp, nI_add, pk_mul, pk_sub, zI_s, zI_k, zI_o, zL_s, zL_k, zL_o, zR_s, zR_k, zR_o, zIL, zIR, zIN, zLI, zLR, zLN, zRI, zRL, zRN, true_and, and_true, not_true_eq_false, not_false_eq_true, true_implies, false_implies, implies_true, forall_const, if_true, if_false, eq_self, false_and, and_false, implies_true, nI_l, ylle_t, ylle_f, xcl_t, xcl_f]
      refine u_X9_begin hr (u_X9_seek_32 (d1' := d - 2) hr (by omega) ?_)
      have hl' : wLc C S 8 out (zsI (zsI h 62 4 (nI 4)) 62 5 (nI T)) := ⟨by simp (disch := omega) only [xle_t, xle_f, xlt_t, xlt_f, xeq_t, xeq_f, xle0_t, xle0_f, xlt0_f, x0lt_t, x0lt_f, x0le_t, xeq0_t, xeq0_f, xin, xem_f, xme_f, xlem_f, xlm_f, xml_t, xmle_t, nI_clamp, nI_add, pk_mul, pk_sub, zI_s, zI_k, zI_o, zL_s, zL_k, zL_o, zR_s, zR_k, zR_o, zIL, zIR, zIN, zLI, zLR, zLN, zRI, zRL, zRN, true_and, and_true, not_true_eq_false, not_false_eq_true, true_implies, false_implies, implies_true, forall_const, if_true, if_false, eq_self, false_and, and_false, implies_true, nI_l, ylle_t, ylle_f, xcl_t, xcl_f, l0], by simp (disch := omega) only [xle_t, xle_f, xlt_t, xlt_f, xeq_t, xeq_f, xle0_t, xle0_f, xlt0_f, x0lt_t, x0lt_f, x0le_t, xeq0_t, xeq0_f, xin, xem_f, xme_f, xlem_f, xlm_f, xml_t, xmle_t, nI_clamp, nI_add, pk_mul, pk_sub, zI_s, zI_k, zI_o, zL_s, zL_k, zL_o, zR_s, zR_k, zR_o, zIL, zIR, zIN, zLI, zLR, zLN, zRI, zRL, zRN, true_and, and_true, not_true_eq_false, not_false_eq_true, true_implies, false_implies, implies_true, forall_const, if_true, if_false, eq_self, false_and, and_false, implies_true, nI_l, ylle_t, ylle_f, xcl_t, xcl_f, l1], by simp (disch := omega) only [xle_t, xle_f, xlt_t, xlt_f, xeq_t, xeq_f, xle0_t, xle0_f, xlt0_f, x0lt_t, x0lt_f, x0le_t, xeq0_t, xeq0_f, xin, xem_f, xme_f, xlem_f, xlm_f, xml_t, xmle_t, nI_clamp, nI_add, pk_mul, pk_sub, zI_s, zI_k, zI_o, zL_s, zL_k, zL_o, zR_s, zR_k, zR_o, zIL, zIR, zIN, zLI, zLR, zLN, zRI, zRL, zRN, true_and, and_true, not_true_eq_false, not_false_eq_true, true_implies, false_implies, implies_true, forall_const, if_true, if_false, eq_self, false_and, and_false, implies_true, nI_l, ylle_t, ylle_f, xcl_t, xcl_f, l2], by simp (disch := omega) only [xle_t, xle_f, xlt_t, xlt_f, xeq_t, xeq_f, xle0_t, xle0_f, xlt0_f, x0lt_t, x0lt_f, x0le_t, xeq0_t, xeq0_f, xin, xem_f, xme_f, xlem_f, xlm_f, xml_t, xmle_t, nI_clamp, nI_add, pk_mul, pk_sub, zI_s, zI_k, zI_o, zL_s, zL_k, zL_o, zR_s, zR_k, zR_o, zIL, zIR, zIN, zLI, zLR, zLN, zRI, zRL, zRN, true_and, and_true, not_true_eq_false, not_false_eq_true, true_implies, false_implies, implies_true, forall_const, if_true, if_false, eq_self, false_and, and_false, implies_true, nI_l, ylle_t, ylle_f, xcl_t, xcl_f, l3], fun j hj => by simp (disch := omega) only [xle_t, xle_f, xlt_t, xlt_f, xeq_t, xeq_f, xle0_t, xle0_f, xlt0_f, x0lt_t, x0lt_f, x0le_t, xeq0_t, xeq0_f, xin, xem_f, xme_f, xlem_f, xlm_f, xml_t, xmle_t, nI_clamp, nI_add, pk_mul, pk_sub, zI_s, zI_k, zI_o, zL_s, zL_k, zL_o, zR_s, zR_k, zR_o, zIL, zIR, zIN, zLI, zLR, zLN, zRI, zRL, zRN, true_and, and_true, not_true_eq_false, not_false_eq_true, true_implies, false_implies, implies_true, forall_const, if_true, if_false, eq_self, false_and, and_false, implies_true, nI_l, ylle_t, ylle_f, xcl_t, xcl_f, l4 j hj]⟩
      have e2 : (zsI (zsI (zsI (zsI (zsI h 62 4 (nI 4)) 62 5 (nI T)) 62 6 (nI 0)) 62 7 (nI 0)) 64 0 (nI 0)).1 62 2 = nI (wAl C S) := by simp (disch := omega) only [xle_t, xle_f, xlt_t, xlt_f, xeq_t, xeq_f, xle0_t, xle0_f, xlt0_f, x0lt_t, x0lt_f, x0le_t, xeq0_t, xeq0_f, xin, xem_f, xme_f, xlem_f, xlm_f, xml_t, xmle_t, nI_clamp, nI_add, pk_mul, pk_sub, zI_s, zI_k, zI_o, zL_s, zL_k, zL_o, zR_s, zR_k, zR_o, zIL, zIR, zIN, zLI, zLR, zLN, zRI, zRL, zRN, true_and, and_true, not_true_eq_false, not_false_eq_true, true_implies, false_implies, implies_true, forall_const, if_true, if_false, eq_self, false_and, and_false, implies_true, nI_l, ylle_t, ylle_f, xcl_t, xcl_f, l2']
      rw [e2]
      obtain ⟨e, rfl⟩ : ∃ e, d = e + 4 := ⟨d - 4, by omega⟩
      refine c_go (a := wRt C S) (n := wN S 8) (k := 4) (w := 62) (d := e) (out := out) (U := fU (bet T)) (ov := fun f => f) (R := fR) (s := false) ?_ hI rfl (wC_rt hl') (Or.inl rfl) ?_ rfl fU_ov (fun _ _ q => q.1) fR_s (by omega) ?_ ?_
      · exact hr
      · exact ⟨by simp (disch := omega) only [xle_t, xle_f, xlt_t, xlt_f, xeq_t, xeq_f, xle0_t, xle0_f, xlt0_f, x0lt_t, x0lt_f, x0le_t, xeq0_t, xeq0_f, xin, xem_f, xme_f, xlem_f, xlm_f, xml_t, xmle_t, nI_clamp, nI_add, pk_mul, pk_sub, zI_s, zI_k, zI_o, zL_s, zL_k, zL_o, zR_s, zR_k, zR_o, zIL, zIR, zIN, zLI, zLR, zLN, zRI, zRL, zRN, true_and, and_true, not_true_eq_false, not_false_eq_true, true_implies, false_implies, implies_true, forall_const, if_true, if_false, eq_self, false_and, and_false, implies_true, nI_l, ylle_t, ylle_f, xcl_t, xcl_f]; rfl, by simp (disch := omega) only [xle_t, xle_f, xlt_t, xlt_f, xeq_t, xeq_f, xle0_t, xle0_f, xlt0_f, x0lt_t, x0lt_f, x0le_t, xeq0_t, xeq0_f, xin, xem_f, xme_f, xlem_f, xlm_f, xml_t, xmle_t, nI_clamp, nI_add, pk_mul, pk_sub, zI_s, zI_k, zI_o, zL_s, zL_k, zL_o, zR_s, zR_k, zR_o, zIL, zIR, zIN, zLI, zLR, zLN, zRI, zRL, zRN, true_and, and_true, not_true_eq_false, not_false_eq_true, true_implies, false_implies, implies_true, forall_const, if_true, if_false, eq_self, false_and, and_false, implies_true, nI_l, ylle_t, ylle_f, xcl_t, xcl_f]; rfl⟩
      · intro k' hk' W w0 w3 ok s' h' r' f' c' R' v' Q' kq
        obtain ⟨e, rfl⟩ : ∃ e', e = e' + 3 := ⟨e - 3, by omega⟩
        exact c_arB (by omega) k' e (wRt C S) W hI (wRt_M C S) w0 w3 ok (by show 0 + 1 + k' = 4; omega) (by omega) s' h' _ r' c' (by rw [f'.2.1 4 (by omega)]; simp (disch := omega) only [xle_t, xle_f, xlt_t, xlt_f, xeq_t, xeq_f, xle0_t, xle0_f, xlt0_f, x0lt_t, x0lt_f, x0le_t, xeq0_t, xeq0_f, xin, xem_f, xme_f, xlem_f, xlm_f, xml_t, xmle_t, nI_clamp, nI_add, pk_mul, pk_sub, zI_s, zI_k, zI_o, zL_s, zL_k, zL_o, zR_s, zR_k, zR_o, zIL, zIR, zIN, zLI, zLR, zLN, zRI, zRL, zRN, true_and, and_true, not_true_eq_false, not_false_eq_true, true_implies, false_implies, implies_true, forall_const, if_true, if_false, eq_self, false_and, and_false, implies_true, nI_l, ylle_t, ylle_f, xcl_t, xcl_f]) (by rw [f'.2.1 5 (by omega)]; simp (disch := omega) only [xle_t, xle_f, xlt_t, xlt_f, xeq_t, xeq_f, xle0_t, xle0_f, xlt0_f, x0lt_t, x0lt_f, x0le_t, xeq0_t, xeq0_f, xin, xem_f, xme_f, xlem_f, xlm_f, xml_t, xmle_t, nI_clamp, nI_add, pk_mul, pk_sub, zI_s, zI_k, zI_o, zL_s, zL_k, zL_o, zR_s, zR_k, zR_o, zIL, zIR, zIN, zLI, zLR, zLN, zRI, zRL, zRN, true_and, and_true, not_true_eq_false, not_false_eq_true, true_implies, false_implies, implies_true, forall_const, if_true, if_false, eq_self, false_and, and_false, implies_true, nI_l, ylle_t, ylle_f, xcl_t, xcl_f]) R' v' Q' kq
      · intro h' r' f' R'
        refine u_X9_seek_42 r' ?_
        have y : cY 62 h h' := (((zF_I _ _ _ (by omega)).trans (zF_I _ _ _ (by omega))).trans (cY_3 _)).trans (wFr.y f')
        have fin := kk h' r' y
        rw [fU_fold, Bool.false_or] at R'
        have e6 : h'.1 62 6 = bI ((wAll C S out).any (bet T)) := R'.2
        rw [e6]
        exact ⟨bI_or _, fin⟩
    · rw [decide_eq_false z, show bI false = nI 0 from rfl]
      simp (disch := omega) only [xle_t, xle_f, xlt_t, xlt_f, xeq_t, xeq_f, xle0_t, xle0_f, xlt0_f, x0lt_t, x0lt_f, x0le_t, xeq0_t, xeq0_f, xin, xem_f, xme_f, xlem_f, xlm_f, xml_t, xmle_t, nI_clamp, nI_add, pk_mul, pk_sub, zI_s, zI_k, zI_o, zL_s, zL_k, zL_o, zR_s, zR_k, zR_o, zIL, zIR, zIN, zLI, zLR, zLN, zRI, zRL, zRN, true_and, and_true, not_true_eq_false, not_false_eq_true, true_implies, false_implies, implies_true, forall_const, if_true, if_false, eq_self, false_and, and_false, implies_true, nI_l, ylle_t, ylle_f, xcl_t, xcl_f]
      exact none_ (fun b hb i hi q => z (by
        have y1 := (wAll_mom hC hS hb (Nat.le_of_lt hi)).1
        have y2 := (wAll_mom hC hS hb (Nat.le_refl _)).1
        rw [← q] at y2
        exact (Nat.dvd_add_right y1).mp y2))
theorem c_mkA {w d : Nat} {S0 : Nat → Bool} {h : MH} {Q : Option MV → MH → Prop} (hw9 : w = 98 ∨ w = 100) (hr : zRf h) (hC : cOK C) (hS : wSet C S) (hl : wLc C S 8 out h) (h0 : wKw S0 (h.2.1 w)) (hd : 24 ≤ d)
    (kk : ∀ h', zRf h' → cY w h h' → wKw ((wAll C S out).foldl mU S0) (h'.2.1 w) → Q none h') :
    Con mX9_markAll d 0 0 [.inr (.inr 62), .inr (.inr (w - 1))] h Q := by
  have hI := wRt_I hC hS
  obtain ⟨l0, l1, l2, l3, l4⟩ := id hl
  have r1 : zRf (zsI (zsR h 62 11 (w - 1)) 62 4 (nI 0)) := zRf_I (zRf_R hr _ rfl (by have := hr.n; omega)) _ _ _
  refine u_X9_markAll (d1' := d - 1) hr (by omega) ?_
  refine u_X9_begin r1 (u_X9_markAll_14 (d1' := d - 2) r1 (by omega) ?_)
  have hl' : wLc C S 8 out (zsI (zsR h 62 11 (w - 1)) 62 4 (nI 0)) := ⟨by simp (disch := omega) only [xle_t, xle_f, xlt_t, xlt_f, xeq_t, xeq_f, xle0_t, xle0_f, xlt0_f, x0lt_t, x0lt_f, x0le_t, xeq0_t, xeq0_f, xin, xem_f, xme_f, xlem_f, xlm_f, xml_t, xmle_t, nI_clamp, nI_add, pk_mul, pk_sub, zI_s, zI_k, zI_o, zL_s, zL_k, zL_o, zR_s, zR_k, zR_o, zIL, zIR, zIN, zLI, zLR, zLN, zRI, zRL, zRN, true_and, and_true, not_true_eq_false, not_false_eq_true, true_implies, false_implies, implies_true, forall_const, if_true, if_false, eq_self, false_and, and_false, implies_true, nI_l, ylle_t, ylle_f, xcl_t, xcl_f, l0], by simp (disch := omega) only [xle_t, xle_f, xlt_t, xlt_f, xeq_t, xeq_f, xle0_t, xle0_f, xlt0_f, x0lt_t, x0lt_f, x0le_t, xeq0_t, xeq0_f, xin, xem_f, xme_f, xlem_f, xlm_f, xml_t, xmle_t, nI_clamp, nI_add, pk_mul, pk_sub, zI_s, zI_k, zI_o, zL_s, zL_k, zL_o, zR_s, zR_k, zR_o, zIL, zIR, zIN, zLI, zLR, zLN, zRI, zRL, zRN, true_and, and_true, not_true_eq_false, not_false_eq_true, true_implies, false_implies, implies_true, forall_const, if_true, if_false, eq_self, false_and, and_false, implies_true, nI_l, ylle_t, ylle_f, xcl_t, xcl_f, l1], by simp (disch := omega) only [xle_t, xle_f, xlt_t, xlt_f, xeq_t, xeq_f, xle0_t, xle0_f, xlt0_f, x0lt_t, x0lt_f, x0le_t, xeq0_t, xeq0_f, xin, xem_f, xme_f, xlem_f, xlm_f, xml_t, xmle_t, nI_clamp, nI_add, pk_mul, pk_sub, zI_s, zI_k, zI_o, zL_s, zL_k, zL_o, zR_s, zR_k, zR_o, zIL, zIR, zIN, zLI, zLR, zLN, zRI, zRL, zRN, true_and, and_true, not_true_eq_false, not_false_eq_true, true_implies, false_implies, implies_true, forall_const, if_true, if_false, eq_self, false_and, and_false, implies_true, nI_l, ylle_t, ylle_f, xcl_t, xcl_f, l2], by simp (disch := omega) only [xle_t, xle_f, xlt_t, xlt_f, xeq_t, xeq_f, xle0_t, xle0_f, xlt0_f, x0lt_t, x0lt_f, x0le_t, xeq0_t, xeq0_f, xin, xem_f, xme_f, xlem_f, xlm_f, xml_t, xmle_t, nI_clamp, nI_add, pk_mul, pk_sub, zI_s, zI_k, zI_o, zL_s, zL_k, zL_o, zR_s, zR_k, zR_o, zIL, zIR, zIN, zLI, zLR, zLN, zRI, zRL, zRN, true_and, and_true, not_true_eq_false, not_false_eq_true, true_implies, false_implies, implies_true, forall_const, if_true, if_false, eq_self, false_and, and_false, implies_true, nI_l, ylle_t, ylle_f, xcl_t, xcl_f, l3], fun j hj => by simp (disch := omega) only [xle_t, xle_f, xlt_t, xlt_f, xeq_t, xeq_f, xle0_t, xle0_f, xlt0_f, x0lt_t, x0lt_f, x0le_t, xeq0_t, xeq0_f, xin, xem_f, xme_f, xlem_f, xlm_f, xml_t, xmle_t, nI_clamp, nI_add, pk_mul, pk_sub, zI_s, zI_k, zI_o, zL_s, zL_k, zL_o, zR_s, zR_k, zR_o, zIL, zIR, zIN, zLI, zLR, zLN, zRI, zRL, zRN, true_and, and_true, not_true_eq_false, not_false_eq_true, true_implies, false_implies, implies_true, forall_const, if_true, if_false, eq_self, false_and, and_false, implies_true, nI_l, ylle_t, ylle_f, xcl_t, xcl_f, l4 j hj]⟩
  have e2 : (zsI (zsI (zsI (zsI (zsR h 62 11 (w - 1)) 62 4 (nI 0)) 62 6 (nI 0)) 62 7 (nI 0)) 64 0 (nI 0)).1 62 2 = nI (wAl C S) := by simp (disch := omega) only [xle_t, xle_f, xlt_t, xlt_f, xeq_t, xeq_f, xle0_t, xle0_f, xlt0_f, x0lt_t, x0lt_f, x0le_t, xeq0_t, xeq0_f, xin, xem_f, xme_f, xlem_f, xlm_f, xml_t, xmle_t, nI_clamp, nI_add, pk_mul, pk_sub, zI_s, zI_k, zI_o, zL_s, zL_k, zL_o, zR_s, zR_k, zR_o, zIL, zIR, zIN, zLI, zLR, zLN, zRI, zRL, zRN, true_and, and_true, not_true_eq_false, not_false_eq_true, true_implies, false_implies, implies_true, forall_const, if_true, if_false, eq_self, false_and, and_false, implies_true, nI_l, ylle_t, ylle_f, xcl_t, xcl_f, l2]; rfl
  rw [e2]
  obtain ⟨e, rfl⟩ : ∃ e, d = e + 4 := ⟨d - 4, by omega⟩
  refine c_go (a := wRt C S) (n := wN S 8) (k := 4) (w := w) (d := e) (out := out) (U := mU) (ov := fun _ => false) (R := mkR w) (s := S0) ?_ hI rfl (wC_rt hl') (Or.inr (by omega)) ?_ rfl (fun _ _ q => by cases q) (fun _ _ q => q.1) ?_ (by omega) ?_ ?_
  · exact r1
  · refine ⟨by simp (disch := omega) only [xle_t, xle_f, xlt_t, xlt_f, xeq_t, xeq_f, xle0_t, xle0_f, xlt0_f, x0lt_t, x0lt_f, x0le_t, xeq0_t, xeq0_f, xin, xem_f, xme_f, xlem_f, xlm_f, xml_t, xmle_t, nI_clamp, nI_add, pk_mul, pk_sub, zI_s, zI_k, zI_o, zL_s, zL_k, zL_o, zR_s, zR_k, zR_o, zIL, zIR, zIN, zLI, zLR, zLN, zRI, zRL, zRN, true_and, and_true, not_true_eq_false, not_false_eq_true, true_implies, false_implies, implies_true, forall_const, if_true, if_false, eq_self, false_and, and_false, implies_true, nI_l, ylle_t, ylle_f, xcl_t, xcl_f], ?_⟩
    exact h0
  · intro s' h1 h2 _ q f
    exact ⟨by rw [f.i (by omega)]; exact q.1, by rw [f.l (by omega)]; exact q.2⟩
  · intro k' hk' W w0 w3 ok s' h' r' f' c' R' v' Q' kq
    obtain ⟨e, rfl⟩ : ∃ e', e = e' + 3 := ⟨e - 3, by omega⟩
    refine c_arM hw9 k' e (wRt C S) W hI w0 w3 ok (by show 0 + 1 + k' = 4; omega) (by omega) s' h' _ r' c' (by rw [f'.2.1 4 (by omega)]; simp (disch := omega) only [xle_t, xle_f, xlt_t, xlt_f, xeq_t, xeq_f, xle0_t, xle0_f, xlt0_f, x0lt_t, x0lt_f, x0le_t, xeq0_t, xeq0_f, xin, xem_f, xme_f, xlem_f, xlm_f, xml_t, xmle_t, nI_clamp, nI_add, pk_mul, pk_sub, zI_s, zI_k, zI_o, zL_s, zL_k, zL_o, zR_s, zR_k, zR_o, zIL, zIR, zIN, zLI, zLR, zLN, zRI, zRL, zRN, true_and, and_true, not_true_eq_false, not_false_eq_true, true_implies, false_implies, implies_true, forall_const, if_true, if_false, eq_self, false_and, and_false, implies_true, nI_l, ylle_t, ylle_f, xcl_t, xcl_f]) ?_ R' Q' kq
    rw [f'.2.2.2]
    exact zR_s _ _ _ _
  · intro h' r' f' R'
    refine u_X9_markAll_24 (kk h' r' ?_ R'.2)
    exact (((zF_R _ _ _ (by omega)).trans (zF_I _ _ _ (by omega))).trans (cY_3 _)).trans (wFr.y f')
theorem wTd_cnt {w : Nat} {ws : Nat → Nat} {b : WN} (hM : wMo b) (hs : ∀ i j, i < j → j < w → ws i < ws j) (h : wTd w ws b = true) : w ≤ b.1 := by
  have h' := of_decide_eq_true h
  have key : ∀ i, i < w → ∃ j, j < b.1 ∧ i ≤ j ∧ b.2.2.2 (j + 1) = ws i := by
    intro i
    induction i with
    | zero =>
      intro hi
      obtain ⟨j, j1, j2⟩ := h' 0 hi
      exact ⟨j, j1, Nat.zero_le _, j2⟩
    | succ i ih =>
      intro hi
      obtain ⟨j, j1, j2, j3⟩ := ih (by omega)
      obtain ⟨k, k1, k2⟩ := h' (i + 1) hi
      have lt := hs i (i + 1) (by omega) hi
      refine ⟨k, k1, ?_, k2⟩
      refine Nat.lt_of_not_le (fun q => ?_)
      have := hM.le (i := k + 1) (j := j + 1) (by omega) (by omega)
      omega
  rcases w with _ | w
  · exact Nat.zero_le _
  · obtain ⟨j, j1, j2, _⟩ := key w (by omega)
    omega
theorem c_skW {w d : Nat} {ws : Nat → Nat} {h : MH} {Q : Option MV → MH → Prop} (hr : zRf h) (hC : cOK C) (hS : wSet C S) (hl : wLc C S 8 out h) (hw4 : w ≤ 4) (hs : ∀ i j, i < j → j < w → ws i < ws j) (hsb : ∀ i, i < w → 1 ≤ ws i ∧ ws i ≤ 400000) (h10 : h.1 62 10 = nI w) (h63 : ∀ i, i < w → h.1 63 i = nI (ws i)) (hd : 24 ≤ d)
    (kk : ∀ h', zRf h' → zF (fun a => a < 62 ∨ 76 < a ∨ a = 63) h h' → h'.1 62 10 = nI w → Q (some (.inl (bI (decide (w = 0) || (wAll C S out).any (wTd w ws))))) h') :
    Con mX9_seekWanted d 0 0 [.inr (.inr 62)] h Q := by
  have hI := wRt_I hC hS
  have n4 := hS.2.2
  have ab := wAl_b hC hS
  obtain ⟨l0, l1, l2, l3, l4⟩ := id hl
  obtain ⟨g1, g2, g3⟩ := wG0_b hC hS.2.1 (c := 8)
  have l2' : h.1 62 2 = nI (wAl C S) := l2
  refine u_X9_seekWanted hr ?_
  rcases Nat.eq_zero_or_pos w with w0 | w0
  · have := kk h hr zF.rfl h10
    rw [decide_eq_true w0, Bool.true_or] at this
    simp (disch := omega) only [xle_t, xle_f, xlt_t, xlt_f, xeq_t, xeq_f, xle0_t, xle0_f, xlt0_f, x0lt_t, x0lt_f, x0le_t, xeq0_t, xeq0_f, xin, xem_f, xme_f, xlem_f, xlm_f, xml_t, xmle_t, nI_clamp, nI_add, pk_mul, pk_sub, zI_s, zI_k, zI_o, zL_s, zL_k, zL_o, zR_s, zR_k, zR_o, zIL, zIR, zIN, zLI, zLR, zLN, zRI, zRL, zRN, true_and, and_true, not_true_eq_false, not_false_eq_true, true_implies, false_implies, implies_true, forall_const, if_true, if_false, eq_self, false_and, and_false, implies_true, nI_l, ylle_t, ylle_f, xcl_t, xcl_f, h10]
    exact this
  rw [decide_eq_false (by omega), Bool.false_or] at kk
  have none_ : (∀ b, b ∈ wAll C S out → wTd w ws b = false) → Q (some (.inl (nI 0))) h := fun q => by
    have e : (wAll C S out).any (wTd w ws) = false := List.any_eq_false.mpr (fun b hb => Bool.eq_false_iff.mp (q b hb))
    have := kk h hr zF.rfl h10
    rw [e] at this
    exact this
  rcases Nat.lt_or_ge (wN S 8) w with c1 | c1
  · simp (disch := omega) only [xle_t, xle_f, xlt_t, xlt_f, xeq_t, xeq_f, xle0_t, xle0_f, xlt0_f, x0lt_t, x0lt_f, x0le_t, xeq0_t, xeq0_f, xin, xem_f, xme_f, xlem_f, xlm_f, xml_t, xmle_t, nI_clamp, nI_add, pk_mul, pk_sub, zI_s, zI_k, zI_o, zL_s, zL_k, zL_o, zR_s, zR_k, zR_o, zIL, zIR, zIN, zLI, zLR, zLN, zRI, zRL, zRN, true_and, and_true, not_true_eq_false, not_false_eq_true, true_implies, false_implies, implies_true, forall_const, if_true, if_false, eq_self, false_and, and_false, implies_true, nI_l, ylle_t, ylle_f, xcl_t, xcl_f, h10, l0]
    refine none_ (fun b hb => Bool.eq_false_iff.mpr (fun q => ?_))
    obtain ⟨_, b1, _, _, bM, _⟩ := wAll_gr hC hS hb
    have := wTd_cnt bM hs q
    omega
  have hl1 := h63 (w - 1) (by omega)
  have bl := (hsb (w - 1) (by omega)).2
  rcases Nat.lt_or_ge (wAl C S) (ws (w - 1)) with c2 | c2
  · simp (disch := omega) only [xle_t, xle_f, xlt_t, xlt_f, xeq_t, xeq_f, xle0_t, xle0_f, xlt0_f, x0lt_t, x0lt_f, x0le_t, xeq0_t, xeq0_f, xin, xem_f, xme_f, xlem_f, xlm_f, xml_t, xmle_t, nI_clamp, nI_add, pk_mul, pk_sub, zI_s, zI_k, zI_o, zL_s, zL_k, zL_o, zR_s, zR_k, zR_o, zIL, zIR, zIN, zLI, zLR, zLN, zRI, zRL, zRN, true_and, and_true, not_true_eq_false, not_false_eq_true, true_implies, false_implies, implies_true, forall_const, if_true, if_false, eq_self, false_and, and_false, implies_true, nI_l, ylle_t, ylle_f, xcl_t, xcl_f, h10, l0, hl1, l2']
    refine none_ (fun b hb => wTd_no (i := w - 1) (by omega) (fun j hj q => ?_))
    have := (wAll_mom hC hS hb (j := j + 1) (by omega)).2
    omega
  simp (disch := omega) only [xle_t, xle_f, xlt_t, xlt_f, xeq_t, xeq_f, xle0_t, xle0_f, xlt0_f, x0lt_t, x0lt_f, x0le_t, xeq0_t, xeq0_f, xin, xem_f, xme_f, xlem_f, xlm_f, xml_t, xmle_t, nI_clamp, nI_add, pk_mul, pk_sub, zI_s, zI_k, zI_o, zL_s, zL_k, zL_o, zR_s, zR_k, zR_o, zIL, zIR, zIN, zLI, zLR, zLN, zRI, zRL, zRN, true_and, and_true, not_true_eq_false, not_false_eq_true, true_implies, false_implies, implies_true, forall_const, if_true, if_false, eq_self, false_and, and_false, implies_true, nI_l, ylle_t, ylle_f, xcl_t, xcl_f, h10, l0, hl1, l2']
  have L : ∀ m i, i + m = w → J mX9_seekWanted d 0 0 Q 0 0 42 [some (.inr (.inr 62)), some (.inl (nI i))] [] h := by
    intro m
    induction m with
    | zero =>
      intro i hi
      refine u_X9_seekWanted_42 (d1' := d - 1) (d2' := d - 1) hr (by omega) (by omega) ?_
      simp (disch := omega) only [xle_t, xle_f, xlt_t, xlt_f, xeq_t, xeq_f, xle0_t, xle0_f, xlt0_f, x0lt_t, x0lt_f, x0le_t, xeq0_t, xeq0_f, xin, xem_f, xme_f, xlem_f, xlm_f, xml_t, xmle_t, nI_clamp, nI_add, pk_mul, pk_sub, zI_s, zI_k, zI_o, zL_s, zL_k, zL_o, zR_s, zR_k, zR_o, zIL, zIR, zIN, zLI, zLR, zLN, zRI, zRL, zRN, true_and, and_true, not_true_eq_false, not_false_eq_true, true_implies, false_implies, implies_true, forall_const, if_true, if_false, eq_self, false_and, and_false, implies_true, nI_l, ylle_t, ylle_f, xcl_t, xcl_f, h10]
      refine u_X9_begin hr (u_X9_seekWanted_80 (d1' := d - 2) hr (by omega) ?_)
      have hl' : wLc C S 8 out (zsI h 62 4 (nI 5)) := ⟨by simp (disch := omega) only [xle_t, xle_f, xlt_t, xlt_f, xeq_t, xeq_f, xle0_t, xle0_f, xlt0_f, x0lt_t, x0lt_f, x0le_t, xeq0_t, xeq0_f, xin, xem_f, xme_f, xlem_f, xlm_f, xml_t, xmle_t, nI_clamp, nI_add, pk_mul, pk_sub, zI_s, zI_k, zI_o, zL_s, zL_k, zL_o, zR_s, zR_k, zR_o, zIL, zIR, zIN, zLI, zLR, zLN, zRI, zRL, zRN, true_and, and_true, not_true_eq_false, not_false_eq_true, true_implies, false_implies, implies_true, forall_const, if_true, if_false, eq_self, false_and, and_false, implies_true, nI_l, ylle_t, ylle_f, xcl_t, xcl_f, l0], by simp (disch := omega) only [xle_t, xle_f, xlt_t, xlt_f, xeq_t, xeq_f, xle0_t, xle0_f, xlt0_f, x0lt_t, x0lt_f, x0le_t, xeq0_t, xeq0_f, xin, xem_f, xme_f, xlem_f, xlm_f, xml_t, xmle_t, nI_clamp, nI_add, pk_mul, pk_sub, zI_s, zI_k, zI_o, zL_s, zL_k, zL_o, zR_s, zR_k, zR_o, zIL, zIR, zIN, zLI, zLR, zLN, zRI, zRL, zRN, true_and, and_true, not_true_eq_false, not_false_eq_true, true_implies, false_implies, implies_true, forall_const, if_true, if_false, eq_self, false_and, and_false, implies_true, nI_l, ylle_t, ylle_f, xcl_t, xcl_f, l1], by simp (disch := omega) only [xle_t, xle_f, xlt_t, xlt_f, xeq_t, xeq_f, xle0_t, xle0_f, xlt0_f, x0lt_t, x0lt_f, x0le_t, xeq0_t, xeq0_f, xin, xem_f, xme_f, xlem_f, xlm_f, xml_t, xmle_t, nI_clamp, nI_add, pk_mul, pk_sub, zI_s, zI_k, zI_o, zL_s, zL_k, zL_o, zR_s, zR_k, zR_o, zIL, zIR, zIN, zLI, zLR, zLN, zRI, zRL, zRN, true_and, and_true, not_true_eq_false, not_false_eq_true, true_implies, false_implies, implies_true, forall_const, if_true, if_false, eq_self, false_and, and_false, implies_true, nI_l, ylle_t, ylle_f, xcl_t, xcl_f, l2], by simp (disch := omega) only [xle_t, xle_f, xlt_t, xlt_f, xeq_t, xeq_f, xle0_t, xle0_f, xlt0_f, x0lt_t, x0lt_f, x0le_t, xeq0_t, xeq0_f, xin, xem_f, xme_f, xlem_f, xlm_f, xml_t, xmle_t, nI_clamp, nI_add, pk_mul, pk_sub, zI_s, zI_k, zI_o, zL_s, zL_k, zL_o, zR_s, zR_k, zR_o, zIL, zIR, zIN, zLI, zLR, zLN, zRI, zRL, zRN, true_and, and_true, not_true_eq_false, not_false_eq_true, true_implies, false_implies, implies_true, forall_const, if_true, if_false, eq_self, false_and, and_false, implies_true, nI_l, ylle_t, ylle_f, xcl_t, xcl_f, l3], fun j hj => by simp (disch := omega) only [xle_t, xle_f, xlt_t, xlt_f, xeq_t, xeq_f, xle0_t, xle0_f, xlt0_f, x0lt_t, x0lt_f, x0le_t, xeq0_t, xeq0_f, xin, xem_f, xme_f, xlem_f, xlm_f, xml_t, xmle_t, nI_clamp, nI_add, pk_mul, pk_sub, zI_s, zI_k, zI_o, zL_s, zL_k, zL_o, zR_s, zR_k, zR_o, zIL, zIR, zIN, zLI, zLR, zLN, zRI, zRL, zRN, true_and, and_true, not_true_eq_false, not_false_eq_true, true_implies, false_implies, implies_true, forall_const, if_true, if_false, eq_self, false_and, and_false, implies_true, nI_l, ylle_t, ylle_f, xcl_t, xcl_f, l4 j hj]⟩
      have e2 : (zsI (zsI (zsI (zsI h 62 4 (nI 5)) 62 6 (nI 0)) 62 7 (nI 0)) 64 0 (nI 0)).1 62 2 = nI (wAl C S) := by simp (disch := omega) only [xle_t, xle_f, xlt_t, xlt_f, xeq_t, xeq_f, xle0_t, xle0_f, xlt0_f, x0lt_t, x0lt_f, x0le_t, xeq0_t, xeq0_f, xin, xem_f, xme_f, xlem_f, xlm_f, xml_t, xmle_t, nI_clamp, nI_add, pk_mul, pk_sub, zI_s, zI_k, zI_o, zL_s, zL_k, zL_o, zR_s, zR_k, zR_o, zIL, zIR, zIN, zLI, zLR, zLN, zRI, zRL, zRN, true_and, and_true, not_true_eq_false, not_false_eq_true, true_implies, false_implies, implies_true, forall_const, if_true, if_false, eq_self, false_and, and_false, implies_true, nI_l, ylle_t, ylle_f, xcl_t, xcl_f, l2']
      rw [e2]
      obtain ⟨e, rfl⟩ : ∃ e, d = e + 4 := ⟨d - 4, by omega⟩
      have ht : wWs w ws (zsI (zsI (zsI (zsI h 62 4 (nI 5)) 62 6 (nI 0)) 62 7 (nI 0)) 64 0 (nI 0)) := ⟨by simp (disch := omega) only [xle_t, xle_f, xlt_t, xlt_f, xeq_t, xeq_f, xle0_t, xle0_f, xlt0_f, x0lt_t, x0lt_f, x0le_t, xeq0_t, xeq0_f, xin, xem_f, xme_f, xlem_f, xlm_f, xml_t, xmle_t, nI_clamp, nI_add, pk_mul, pk_sub, zI_s, zI_k, zI_o, zL_s, zL_k, zL_o, zR_s, zR_k, zR_o, zIL, zIR, zIN, zLI, zLR, zLN, zRI, zRL, zRN, true_and, and_true, not_true_eq_false, not_false_eq_true, true_implies, false_implies, implies_true, forall_const, if_true, if_false, eq_self, false_and, and_false, implies_true, nI_l, ylle_t, ylle_f, xcl_t, xcl_f], by simp (disch := omega) only [xle_t, xle_f, xlt_t, xlt_f, xeq_t, xeq_f, xle0_t, xle0_f, xlt0_f, x0lt_t, x0lt_f, x0le_t, xeq0_t, xeq0_f, xin, xem_f, xme_f, xlem_f, xlm_f, xml_t, xmle_t, nI_clamp, nI_add, pk_mul, pk_sub, zI_s, zI_k, zI_o, zL_s, zL_k, zL_o, zR_s, zR_k, zR_o, zIL, zIR, zIN, zLI, zLR, zLN, zRI, zRL, zRN, true_and, and_true, not_true_eq_false, not_false_eq_true, true_implies, false_implies, implies_true, forall_const, if_true, if_false, eq_self, false_and, and_false, implies_true, nI_l, ylle_t, ylle_f, xcl_t, xcl_f, h10], fun i hi => by simp (disch := omega) only [xle_t, xle_f, xlt_t, xlt_f, xeq_t, xeq_f, xle0_t, xle0_f, xlt0_f, x0lt_t, x0lt_f, x0le_t, xeq0_t, xeq0_f, xin, xem_f, xme_f, xlem_f, xlm_f, xml_t, xmle_t, nI_clamp, nI_add, pk_mul, pk_sub, zI_s, zI_k, zI_o, zL_s, zL_k, zL_o, zR_s, zR_k, zR_o, zIL, zIR, zIN, zLI, zLR, zLN, zRI, zRL, zRN, true_and, and_true, not_true_eq_false, not_false_eq_true, true_implies, false_implies, implies_true, forall_const, if_true, if_false, eq_self, false_and, and_false, implies_true, nI_l, ylle_t, ylle_f, xcl_t, xcl_f, h63 i hi]⟩
      refine c_go (a := wRt C S) (n := wN S 8) (k := 4) (w := 62) (d := e) (out := out) (U := fU (wTd w ws)) (ov := fun f => f) (R := fR) (s := false) ?_ hI rfl (wC_rt hl') (Or.inl rfl) ?_ rfl fU_ov (fun _ _ q => q.1) fR_s (by omega) ?_ ?_
      · exact hr
      · exact ⟨by simp (disch := omega) only [xle_t, xle_f, xlt_t, xlt_f, xeq_t, xeq_f, xle0_t, xle0_f, xlt0_f, x0lt_t, x0lt_f, x0le_t, xeq0_t, xeq0_f, xin, xem_f, xme_f, xlem_f, xlm_f, xml_t, xmle_t, nI_clamp, nI_add, pk_mul, pk_sub, zI_s, zI_k, zI_o, zL_s, zL_k, zL_o, zR_s, zR_k, zR_o, zIL, zIR, zIN, zLI, zLR, zLN, zRI, zRL, zRN, true_and, and_true, not_true_eq_false, not_false_eq_true, true_implies, false_implies, implies_true, forall_const, if_true, if_false, eq_self, false_and, and_false, implies_true, nI_l, ylle_t, ylle_f, xcl_t, xcl_f]; rfl, by simp (disch := omega) only [xle_t, xle_f, xlt_t, xlt_f, xeq_t, xeq_f, xle0_t, xle0_f, xlt0_f, x0lt_t, x0lt_f, x0le_t, xeq0_t, xeq0_f, xin, xem_f, xme_f, xlem_f, xlm_f, xml_t, xmle_t, nI_clamp, nI_add, pk_mul, pk_sub, zI_s, zI_k, zI_o, zL_s, zL_k, zL_o, zR_s, zR_k, zR_o, zIL, zIR, zIN, zLI, zLR, zLN, zRI, zRL, zRN, true_and, and_true, not_true_eq_false, not_false_eq_true, true_implies, false_implies, implies_true, forall_const, if_true, if_false, eq_self, false_and, and_false, implies_true, nI_l, ylle_t, ylle_f, xcl_t, xcl_f]; rfl⟩
      · intro k' hk' W v0 v3 ok s' h' r' f' c' R' v' Q' kq
        obtain ⟨e, rfl⟩ : ∃ e', e = e' + 4 := ⟨e - 4, by omega⟩
        have vv : s' = false := v'
        rw [vv] at R' kq
        exact c_arW hw4 hs (fun i hi => (hsb i hi).2) k' e 0 (wRt C S) W hI (wRt_M C S) v0 v3 ok (by show 0 + 1 + k' = 4; omega) (by omega) ⟨w0, fun i hi => by omega, fun i _ hi => by have := (hsb i hi).1; show 0 < ws i; omega⟩ h' r' c' (ht.keep f' (by omega)) R' Q' kq
      · intro h' r' f' R'
        refine u_X9_seekWanted_90 r' ?_
        have y : zF (fun a => a < 62 ∨ 76 < a ∨ a = 63) h h' := ((zF_I _ _ _ (by omega)).trans (((zF_I _ _ _ (by omega)).trans (zF_I _ _ _ (by omega))).trans (zF_I _ _ _ (by omega)))).trans (f'.1.weak (fun a q => by show a ≠ 62 ∧ a ≠ 64 ∧ ¬ (66 + 0 < a ∧ a ≤ 70) ∧ ¬ (72 + 0 < a ∧ a ≤ 76) ∧ a ≠ 62; omega))
        have fin := kk h' r' y (by rw [f'.2.1 10 (by omega)]; simp (disch := omega) only [xle_t, xle_f, xlt_t, xlt_f, xeq_t, xeq_f, xle0_t, xle0_f, xlt0_f, x0lt_t, x0lt_f, x0le_t, xeq0_t, xeq0_f, xin, xem_f, xme_f, xlem_f, xlm_f, xml_t, xmle_t, nI_clamp, nI_add, pk_mul, pk_sub, zI_s, zI_k, zI_o, zL_s, zL_k, zL_o, zR_s, zR_k, zR_o, zIL, zIR, zIN, zLI, zLR, zLN, zRI, zRL, zRN, true_and, and_true, not_true_eq_false, not_false_eq_true, true_implies, false_implies, implies_true, forall_const, if_true, if_false, eq_self, false_and, and_false, implies_true, nI_l, ylle_t, ylle_f, xcl_t, xcl_f, h10])
        rw [fU_fold, Bool.false_or] at R'
        have e6 : h'.1 62 6 = bI ((wAll C S out).any (wTd w ws)) := R'.2
        rw [e6]
        exact ⟨bI_or _, fin⟩
    | succ m ih =>
      intro i hi
      have ei := h63 i (by omega)
      have bi := hsb i (by omega)
      refine u_X9_seekWanted_42 (d1' := d - 1) (d2' := d - 1) hr (by omega) (by omega) ?_
      simp (disch := omega) only [xle_t, xle_f, xlt_t, xlt_f, xeq_t, xeq_f, xle0_t, xle0_f, xlt0_f, x0lt_t, x0lt_f, x0le_t, xeq0_t, xeq0_f, xin, xem_f, xme_f, xlem_f, xlm_f, xml_t, xmle_t, nI_clamp, nI_add, pk_mul, pk_sub, zI_s, zI_k, zI_o, zL_s, zL_k, zL_o, zR_s, zR_k, zR_o, zIL, zIR, zIN, zLI, zLR, zLN, zRI, zRL, zRN, true_and, and_true, not_true_eq_false, not_false_eq_true, true_implies, false_implies, implies_true, forall_const, if_true, if_false, eq_self, false_and, and_false, implies_true, nI_l, ylle_t, ylle_f, xcl_t, xcl_f, h10, ei]
      refine c_ogr hr l0 l3 n4 g1 (g3 (wSet_n hC hS)) g2 (by omega) ?_
      refine u_X9_seekWanted_60 ?_
      by_cases z : wG0 C S 8 / 2 ^ wN S 8 ∣ ws i
      · rw [decide_eq_true z, show bI true = nI 1 from rfl]
        simp (disch := omega) only [xle_t, xle_f, xlt_t, xlt_f, xeq_t, xeq_f, xle0_t, xle0_f, xlt0_f, x0lt_t, x0lt_f, x0le_t, xeq0_t, xeq0_f, xin, xem_f, xme_f, xlem_f, xlm_f, xml_t, xmle_t, nI_clamp, nI_add, pk_mul, pk_sub, zI_s, zI_k, zI_o, zL_s, zL_k, zL_o, zR_s, zR_k, zR_o, zIL, zIR, zIN, zLI, zLR, zLN, zRI, zRL, zRN, true_and, and_true, not_true_eq_false, not_false_eq_true, true_implies, false_implies, implies_true, forall_const, if_true, if_false, eq_self, false_and, and_false, implies_true, nI_l, ylle_t, ylle_f, xcl_t, xcl_f]
        exact ih (i + 1) (by omega)
      · rw [decide_eq_false z, show bI false = nI 0 from rfl]
        simp (disch := omega) only [xle_t, xle_f, xlt_t, xlt_f, xeq_t, xeq_f, xle0_t, xle0_f, xlt0_f, x0lt_t, x0lt_f, x0le_t, xeq0_t, xeq0_f, xin, xem_f, xme_f, xlem_f, xlm_f, xml_t, xmle_t, nI_clamp, nI_add, pk_mul, pk_sub, zI_s, zI_k, zI_o, zL_s, zL_k, zL_o, zR_s, zR_k, zR_o, zIL, zIR, zIN, zLI, zLR, zLN, zRI, zRL, zRN, true_and, and_true, not_true_eq_false, not_false_eq_true, true_implies, false_implies, implies_true, forall_const, if_true, if_false, eq_self, false_and, and_false, implies_true, nI_l, ylle_t, ylle_f, xcl_t, xcl_f]
        exact none_ (fun b hb => wTd_no (i := i) (by omega) (fun j hj q => z (by rw [← q]; exact (wAll_mom hC hS hb (j := j + 1) (by omega)).1)))
  exact L w 0 (by omega)
end WR
