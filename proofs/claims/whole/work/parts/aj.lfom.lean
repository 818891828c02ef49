/-! ===== leastFor in the reference ===== -/
section OPS
variable {B : BK} {W : RW} {out : Bool} {h : MH} {d : Nat} {Q : Option MV → MH → Prop}
theorem n_lfo {y : Int32} (hr : zRf h) (hA : bIn B (h.1 112) 0) (hB : bOK B) (hW : rwM W h) (hWo : rwOK W) (hd : 12 ≤ d) (kk : ∀ h', zRf h' → mK h h' → Q (some (.inl (gLFo B W y out))) h') : Con mX11_leastFor d 0 0 [.inr (.inr 111), .inl y, .inl (bI out)] h Q := by
  unfold gLFo at kk
  have hC := hB.1
  have b8 := p2_8 hC.1
  have n8 := hC.1
  have p0 := Nat.two_pow_pos B.1.1
  refine u_X11_leastFor (d1' := d - 1) hr (by omega) (by omega) ?_
  rcases ix3 y (n := 4) (by omega) with ⟨z, _, x1⟩ | ⟨z, _, _, x1, _, x2, _⟩ | ⟨q, hq, rfl, z⟩
  · rw [gW_none z] at kk
    simp (disch := omega) only [xle_t, xle_f, xlt_t, xlt_f, xeq_t, xeq_f, xle0_t, xle0_f, xlt0_f, x0lt_t, x0lt_f, x0le_t, xeq0_t, xeq0_f, xin, xem_f, xme_f, xlem_f, xlm_f, xml_t, xmle_t, nI_clamp, nI_add, pk_mul, pk_sub, zI_s, zI_k, zI_o, zL_s, zL_k, zL_o, zR_s, zR_k, zR_o, zIL, zIR, zIN, zLI, zLR, zLN, zRI, zRL, zRN, true_and, and_true, not_true_eq_false, not_false_eq_true, true_implies, false_implies, implies_true, forall_const, if_true, if_false, eq_self, false_and, and_false, implies_true, nI_l, ylle_t, ylle_f, xcl_t, xcl_f, x1, y_3]
    exact kk _ hr (mK_0 h)
  · rw [gW_none z] at kk
    simp (disch := omega) only [xle_t, xle_f, xlt_t, xlt_f, xeq_t, xeq_f, xle0_t, xle0_f, xlt0_f, x0lt_t, x0lt_f, x0le_t, xeq0_t, xeq0_f, xin, xem_f, xme_f, xlem_f, xlm_f, xml_t, xmle_t, nI_clamp, nI_add, pk_mul, pk_sub, zI_s, zI_k, zI_o, zL_s, zL_k, zL_o, zR_s, zR_k, zR_o, zIL, zIR, zIN, zLI, zLR, zLN, zRI, zRL, zRN, true_and, and_true, not_true_eq_false, not_false_eq_true, true_implies, false_implies, implies_true, forall_const, if_true, if_false, eq_self, false_and, and_false, implies_true, nI_l, ylle_t, ylle_f, xcl_t, xcl_f, x1, y_3, x2 3 rfl]
    exact kk _ hr (mK_0 h)
  rcases hw : W q with _ | ⟨s, n, f⟩
  · rw [gW_no hq hw] at kk
    have e0 := (hW q hq).1 hw
    simp (disch := omega) only [xle_t, xle_f, xlt_t, xlt_f, xeq_t, xeq_f, xle0_t, xle0_f, xlt0_f, x0lt_t, x0lt_f, x0le_t, xeq0_t, xeq0_f, xin, xem_f, xme_f, xlem_f, xlm_f, xml_t, xmle_t, nI_clamp, nI_add, pk_mul, pk_sub, zI_s, zI_k, zI_o, zL_s, zL_k, zL_o, zR_s, zR_k, zR_o, zIL, zIR, zIN, zLI, zLR, zLN, zRI, zRL, zRN, true_and, and_true, not_true_eq_false, not_false_eq_true, true_implies, false_implies, implies_true, forall_const, if_true, if_false, eq_self, false_and, and_false, implies_true, nI_l, ylle_t, ylle_f, xcl_t, xcl_f, y_3, e0]
    exact kk _ hr (mK_0 h)
  rw [gW_so hq hw] at kk
  obtain ⟨e0, e1, e2⟩ := (hW q hq).2 s n f hw
  obtain ⟨s4, n40⟩ := hWo q s n f hw
  simp (disch := omega) only [xle_t, xle_f, xlt_t, xlt_f, xeq_t, xeq_f, xle0_t, xle0_f, xlt0_f, x0lt_t, x0lt_f, x0le_t, xeq0_t, xeq0_f, xin, xem_f, xme_f, xlem_f, xlm_f, xml_t, xmle_t, nI_clamp, nI_add, pk_mul, pk_sub, zI_s, zI_k, zI_o, zL_s, zL_k, zL_o, zR_s, zR_k, zR_o, zIL, zIR, zIN, zLI, zLR, zLN, zRI, zRL, zRN, true_and, and_true, not_true_eq_false, not_false_eq_true, true_implies, false_implies, implies_true, forall_const, if_true, if_false, eq_self, false_and, and_false, implies_true, nI_l, ylle_t, ylle_f, xcl_t, xcl_f, y_3, e0]
  have kk' : ∀ h', zRf h' → mK h h' → Q (some (.inl (gLs (fLs (fun S => wTg B.1 S out n f) (2 ^ B.1.1) 4 1) 1))) h' := kk
  clear kk
  refine n_wnt (n := n) (f := f) (zRf_I hr _ _ _) hq n40 (by simp (disch := omega) only [xle_t, xle_f, xlt_t, xlt_f, xeq_t, xeq_f, xle0_t, xle0_f, xlt0_f, x0lt_t, x0lt_f, x0le_t, xeq0_t, xeq0_f, xin, xem_f, xme_f, xlem_f, xlm_f, xml_t, xmle_t, nI_clamp, nI_add, pk_mul, pk_sub, zI_s, zI_k, zI_o, zL_s, zL_k, zL_o, zR_s, zR_k, zR_o, zIL, zIR, zIN, zLI, zLR, zLN, zRI, zRL, zRN, true_and, and_true, not_true_eq_false, not_false_eq_true, true_implies, false_implies, implies_true, forall_const, if_true, if_false, eq_self, false_and, and_false, implies_true, nI_l, ylle_t, ylle_f, xcl_t, xcl_f, e1]) (fun i hi => e2 i hi) (by omega) (fun h1 r1 k1 m1 => ?_)
  refine u_X11_leastFor_38 ?_
  have L : ∀ m z, z + m = 5 → ∀ h', zRf h' → mK h h' → mHd n f h' → (∀ h'', zRf h'' → mK h h'' → Q (some (.inl (gLs (fLs (fun S => wTg B.1 S out n f) (2 ^ B.1.1) m z) 1))) h'') → ∀ u, J mX11_leastFor d 0 0 Q 0 0 40 [some (.inr (.inr 111)), some (.inl (nI q)), some (.inl (bI out)), some (.inl (nI z)), u] [] h' := by
    intro m
    induction m with
    | zero =>
      intro z hz h' r' f' m' kq u
      refine u_X11_leastFor_40 ?_
      simp (disch := omega) only [xle_t, xle_f, xlt_t, xlt_f, xeq_t, xeq_f, xle0_t, xle0_f, xlt0_f, x0lt_t, x0lt_f, x0le_t, xeq0_t, xeq0_f, xin, xem_f, xme_f, xlem_f, xlm_f, xml_t, xmle_t, nI_clamp, nI_add, pk_mul, pk_sub, zI_s, zI_k, zI_o, zL_s, zL_k, zL_o, zR_s, zR_k, zR_o, zIL, zIR, zIN, zLI, zLR, zLN, zRI, zRL, zRN, true_and, and_true, not_true_eq_false, not_false_eq_true, true_implies, false_implies, implies_true, forall_const, if_true, if_false, eq_self, false_and, and_false, implies_true, nI_l, ylle_t, ylle_f, xcl_t, xcl_f]
      exact kq h' r' f'
    | succ m ih =>
      intro z hz h' r' f' m' kq u
      refine u_X11_leastFor_40 ?_
      simp (disch := omega) only [xle_t, xle_f, xlt_t, xlt_f, xeq_t, xeq_f, xle0_t, xle0_f, xlt0_f, x0lt_t, x0lt_f, x0le_t, xeq0_t, xeq0_f, xin, xem_f, xme_f, xlem_f, xlm_f, xml_t, xmle_t, nI_clamp, nI_add, pk_mul, pk_sub, zI_s, zI_k, zI_o, zL_s, zL_k, zL_o, zR_s, zR_k, zR_o, zIL, zIR, zIN, zLI, zLR, zLN, zRI, zRL, zRN, true_and, and_true, not_true_eq_false, not_false_eq_true, true_implies, false_implies, implies_true, forall_const, if_true, if_false, eq_self, false_and, and_false, implies_true, nI_l, ylle_t, ylle_f, xcl_t, xcl_f]
      have L2 : ∀ m' s, s + m' = 2 ^ B.1.1 → 1 ≤ s → ∀ h', zRf h' → mK h h' → mHd n f h' → (∀ h'', zRf h'' → mK h h'' → Q (some (.inl (gLs (match fFst (fun s => decide (wN s 8 = z) && wTg B.1 s out n f) m' s with
          | some s => some (z, s)
          | none => fLs (fun S => wTg B.1 S out n f) (2 ^ B.1.1) m (z + 1)) 1))) h'') → J mX11_leastFor d 0 0 Q 0 0 48 [some (.inr (.inr 111)), some (.inl (nI q)), some (.inl (bI out)), some (.inl (nI z)), some (.inl (nI s))] [] h' := by
        intro m'
        induction m' with
        | zero =>
          intro s hs s1 h' r' f' mm kq
          have hA' : cIn B.1 (h'.1 112) 0 := by rw [f'.1.i (by omega)]; exact hA.1
          have e0 : h'.1 112 0 = nI B.1.1 := hA'.1
          have es : nI 1 <<< (nI B.1.1 &&& 31) = nI (2 ^ B.1.1) := by rw [pk_shlN _ B.1.1 (s_l B.1.1 (by omega)) (by omega), Nat.one_mul]
          refine u_X11_leastFor_48 (d1' := d - 1) r' (by omega) ?_
          rw [e0, es]
          simp (disch := omega) only [xle_t, xle_f, xlt_t, xlt_f, xeq_t, xeq_f, xle0_t, xle0_f, xlt0_f, x0lt_t, x0lt_f, x0le_t, xeq0_t, xeq0_f, xin, xem_f, xme_f, xlem_f, xlm_f, xml_t, xmle_t, nI_clamp, nI_add, pk_mul, pk_sub, zI_s, zI_k, zI_o, zL_s, zL_k, zL_o, zR_s, zR_k, zR_o, zIL, zIR, zIN, zLI, zLR, zLN, zRI, zRL, zRN, true_and, and_true, not_true_eq_false, not_false_eq_true, true_implies, false_implies, implies_true, forall_const, if_true, if_false, eq_self, false_and, and_false, implies_true, nI_l, ylle_t, ylle_f, xcl_t, xcl_f]
          exact ih (z + 1) (by omega) h' r' f' mm kq _
        | succ m' ih2 =>
          intro s hs s1 h' r' f' mm kq
          have hA' : cIn B.1 (h'.1 112) 0 := by rw [f'.1.i (by omega)]; exact hA.1
          have e0 : h'.1 112 0 = nI B.1.1 := hA'.1
          have es : nI 1 <<< (nI B.1.1 &&& 31) = nI (2 ^ B.1.1) := by rw [pk_shlN _ B.1.1 (s_l B.1.1 (by omega)) (by omega), Nat.one_mul]
          have nb : wN s 8 ≤ 8 := fb_ct_le _ _
          have st : fFst (fun s => decide (wN s 8 = z) && wTg B.1 s out n f) (m' + 1) s = if (decide (wN s 8 = z) && wTg B.1 s out n f) = true then some s else fFst (fun s => decide (wN s 8 = z) && wTg B.1 s out n f) m' (s + 1) := rfl
          rw [st] at kq
          refine u_X11_leastFor_48 (d1' := d - 1) r' (by omega) ?_
          rw [e0, es]
          simp (disch := omega) only [xle_t, xle_f, xlt_t, xlt_f, xeq_t, xeq_f, xle0_t, xle0_f, xlt0_f, x0lt_t, x0lt_f, x0le_t, xeq0_t, xeq0_f, xin, xem_f, xme_f, xlem_f, xlm_f, xml_t, xmle_t, nI_clamp, nI_add, pk_mul, pk_sub, zI_s, zI_k, zI_o, zL_s, zL_k, zL_o, zR_s, zR_k, zR_o, zIL, zIR, zIN, zLI, zLR, zLN, zRI, zRL, zRN, true_and, and_true, not_true_eq_false, not_false_eq_true, true_implies, false_implies, implies_true, forall_const, if_true, if_false, eq_self, false_and, and_false, implies_true, nI_l, ylle_t, ylle_f, xcl_t, xcl_f]
          refine n_bts ?_
          rw [btN_n (by omega)]
          refine u_X11_leastFor_66 (d1' := d - 1) r' (by omega) ?_
          by_cases c1 : wN s 8 = z
          · simp (disch := omega) only [xle_t, xle_f, xlt_t, xlt_f, xeq_t, xeq_f, xle0_t, xle0_f, xlt0_f, x0lt_t, x0lt_f, x0le_t, xeq0_t, xeq0_f, xin, xem_f, xme_f, xlem_f, xlm_f, xml_t, xmle_t, nI_clamp, nI_add, pk_mul, pk_sub, zI_s, zI_k, zI_o, zL_s, zL_k, zL_o, zR_s, zR_k, zR_o, zIL, zIR, zIN, zLI, zLR, zLN, zRI, zRL, zRN, true_and, and_true, not_true_eq_false, not_false_eq_true, true_implies, false_implies, implies_true, forall_const, if_true, if_false, eq_self, false_and, and_false, implies_true, nI_l, ylle_t, ylle_f, xcl_t, xcl_f]
            have hS : wSet B.1 s := ⟨s1, by omega, by omega⟩
            refine n_atg r' hA' hC hS n40 mm (by omega) (fun h2 r2 f2 m2 => ?_)
            refine u_X11_leastFor_77 ?_
            rw [decide_eq_true c1, Bool.true_and] at kq
            cases ht : wTg B.1 s out n f with
            | true =>
              rw [ht, if_pos rfl] at kq
              rw [show bI true = nI 1 from rfl]
              have fin := kq h2 r2 (f'.trans f2)
              have fin' : Q (some (.inl (if (1 : Nat) = 0 then nI z else nI s))) h2 := fin
              rw [if_neg (by decide)] at fin'
              simp (disch := omega) only [xle_t, xle_f, xlt_t, xlt_f, xeq_t, xeq_f, xle0_t, xle0_f, xlt0_f, x0lt_t, x0lt_f, x0le_t, xeq0_t, xeq0_f, xin, xem_f, xme_f, xlem_f, xlm_f, xml_t, xmle_t, nI_clamp, nI_add, pk_mul, pk_sub, zI_s, zI_k, zI_o, zL_s, zL_k, zL_o, zR_s, zR_k, zR_o, zIL, zIR, zIN, zLI, zLR, zLN, zRI, zRL, zRN, true_and, and_true, not_true_eq_false, not_false_eq_true, true_implies, false_implies, implies_true, forall_const, if_true, if_false, eq_self, false_and, and_false, implies_true, nI_l, ylle_t, ylle_f, xcl_t, xcl_f]
              exact fin'
            | false =>
              rw [ht, if_neg (show ¬ (false = true) by decide)] at kq
              rw [show bI false = nI 0 from rfl]
              simp (disch := omega) only [xle_t, xle_f, xlt_t, xlt_f, xeq_t, xeq_f, xle0_t, xle0_f, xlt0_f, x0lt_t, x0lt_f, x0le_t, xeq0_t, xeq0_f, xin, xem_f, xme_f, xlem_f, xlm_f, xml_t, xmle_t, nI_clamp, nI_add, pk_mul, pk_sub, zI_s, zI_k, zI_o, zL_s, zL_k, zL_o, zR_s, zR_k, zR_o, zIL, zIR, zIN, zLI, zLR, zLN, zRI, zRL, zRN, true_and, and_true, not_true_eq_false, not_false_eq_true, true_implies, false_implies, implies_true, forall_const, if_true, if_false, eq_self, false_and, and_false, implies_true, nI_l, ylle_t, ylle_f, xcl_t, xcl_f]
              exact ih2 (s + 1) (by omega) (by omega) h2 r2 (f'.trans f2) m2 kq
          · rw [decide_eq_false c1, Bool.false_and, if_neg (show ¬ (false = true) by decide)] at kq
            simp (disch := omega) only [xle_t, xle_f, xlt_t, xlt_f, xeq_t, xeq_f, xle0_t, xle0_f, xlt0_f, x0lt_t, x0lt_f, x0le_t, xeq0_t, xeq0_f, xin, xem_f, xme_f, xlem_f, xlm_f, xml_t, xmle_t, nI_clamp, nI_add, pk_mul, pk_sub, zI_s, zI_k, zI_o, zL_s, zL_k, zL_o, zR_s, zR_k, zR_o, zIL, zIR, zIN, zLI, zLR, zLN, zRI, zRL, zRN, true_and, and_true, not_true_eq_false, not_false_eq_true, true_implies, false_implies, implies_true, forall_const, if_true, if_false, eq_self, false_and, and_false, implies_true, nI_l, ylle_t, ylle_f, xcl_t, xcl_f]
            exact ih2 (s + 1) (by omega) (by omega) h' r' f' mm kq
      exact L2 (2 ^ B.1.1 - 1) 1 (by omega) (by omega) h' r' f' m' kq
  exact L 4 1 (by omega) h1 r1 ((mK_0 h).trans k1) m1 kk' _
end OPS
