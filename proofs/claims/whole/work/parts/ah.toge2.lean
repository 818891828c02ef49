/-! ===== leastFor in the class; together in the reference ===== -/
section OPS
variable {B : BK} {W : RW} {out : Bool} {h : MH} {d : Nat} {Q : Option MV → MH → Prop}
theorem fLs_no {p : Nat → Bool} {N : Nat} (hp : ∀ s, 0 < s → s < N → wN s 8 ≤ 4 → p s = false) : ∀ m z, z + m ≤ 5 → fLs p N m z = none
  | 0, _, _ => rfl
  | m + 1, z, h => by
    show (match fFst (fun s => decide (wN s 8 = z) && p s) (N - 1) 1 with
      | some s => some (z, s)
      | none => fLs p N m (z + 1)) = none
    rw [fFst_none (fun j q1 q2 => by
      by_cases y : wN j 8 = z
      · rw [hp j (by omega) (by omega) (by omega), Bool.and_false]
      · rw [decide_eq_false y, Bool.false_and])]
    exact fLs_no hp m (z + 1) (by omega)
theorem o_lfo {y : Int32} (hr : zRf h) (hA : bAt B h 15) (hB : bOK B) (hW : rwC W h) (hWo : rwOK W) (hd : 28 ≤ d) (kk : ∀ h', zRf h' → cV h h' → Q (some (.inl (gLFo B W y out))) h') : Con mX10_leastFor d 0 0 [.inr (.inr 1), .inl y, .inl (bI out)] h Q := by
  unfold gLFo at kk
  have hC := hB.1
  have b8 := p2_8 hC.1
  have n8 := hC.1
  have p0 := Nat.two_pow_pos B.1.1
  refine u_X10_leastFor (d1' := d - 1) hr (by omega) (by omega) ?_
  rcases ix3 y (n := 4) (by omega) with ⟨z, x1, _⟩ | ⟨z, x1, x2, _⟩ | ⟨q, hq, rfl, z⟩
  · rw [gW_none z] at kk
    simp (disch := omega) only [xle_t, xle_f, xlt_t, xlt_f, xeq_t, xeq_f, xle0_t, xle0_f, xlt0_f, x0lt_t, x0lt_f, x0le_t, xeq0_t, xeq0_f, xin, xem_f, xme_f, xlem_f, xlm_f, xml_t, xmle_t, nI_clamp, nI_add, pk_mul, pk_sub, zI_s, zI_k, zI_o, zL_s, zL_k, zL_o, zR_s, zR_k, zR_o, zIL, zIR, zIN, zLI, zLR, zLN, zRI, zRL, zRN, true_and, and_true, not_true_eq_false, not_false_eq_true, true_implies, false_implies, implies_true, forall_const, if_true, if_false, eq_self, false_and, and_false, implies_true, nI_l, ylle_t, ylle_f, xcl_t, xcl_f, x1]
    exact kk h hr zF.rfl
  · rw [gW_none z] at kk
    simp (disch := omega) only [xle_t, xle_f, xlt_t, xlt_f, xeq_t, xeq_f, xle0_t, xle0_f, xlt0_f, x0lt_t, x0lt_f, x0le_t, xeq0_t, xeq0_f, xin, xem_f, xme_f, xlem_f, xlm_f, xml_t, xmle_t, nI_clamp, nI_add, pk_mul, pk_sub, zI_s, zI_k, zI_o, zL_s, zL_k, zL_o, zR_s, zR_k, zR_o, zIL, zIR, zIN, zLI, zLR, zLN, zRI, zRL, zRN, true_and, and_true, not_true_eq_false, not_false_eq_true, true_implies, false_implies, implies_true, forall_const, if_true, if_false, eq_self, false_and, and_false, implies_true, nI_l, ylle_t, ylle_f, xcl_t, xcl_f, x1, x2]
    exact kk h hr zF.rfl
  rcases hw : W q with _ | ⟨s, n, f⟩
  · rw [gW_no hq hw] at kk
    have e0 := (hW q hq).1 hw
    simp (disch := omega) only [xle_t, xle_f, xlt_t, xlt_f, xeq_t, xeq_f, xle0_t, xle0_f, xlt0_f, x0lt_t, x0lt_f, x0le_t, xeq0_t, xeq0_f, xin, xem_f, xme_f, xlem_f, xlm_f, xml_t, xmle_t, nI_clamp, nI_add, pk_mul, pk_sub, zI_s, zI_k, zI_o, zL_s, zL_k, zL_o, zR_s, zR_k, zR_o, zIL, zIR, zIN, zLI, zLR, zLN, zRI, zRL, zRN, true_and, and_true, not_true_eq_false, not_false_eq_true, true_implies, false_implies, implies_true, forall_const, if_true, if_false, eq_self, false_and, and_false, implies_true, nI_l, ylle_t, ylle_f, xcl_t, xcl_f, e0]
    exact kk h hr zF.rfl
  rw [gW_so hq hw] at kk
  obtain ⟨e0, e1, e2, e3⟩ := (hW q hq).2 s n f hw
  obtain ⟨s4, n40⟩ := hWo q s n f hw
  simp (disch := omega) only [xle_t, xle_f, xlt_t, xlt_f, xeq_t, xeq_f, xle0_t, xle0_f, xlt0_f, x0lt_t, x0lt_f, x0le_t, xeq0_t, xeq0_f, xin, xem_f, xme_f, xlem_f, xlm_f, xml_t, xmle_t, nI_clamp, nI_add, pk_mul, pk_sub, zI_s, zI_k, zI_o, zL_s, zL_k, zL_o, zR_s, zR_k, zR_o, zIL, zIR, zIN, zLI, zLR, zLN, zRI, zRL, zRN, true_and, and_true, not_true_eq_false, not_false_eq_true, true_implies, false_implies, implies_true, forall_const, if_true, if_false, eq_self, false_and, and_false, implies_true, nI_l, ylle_t, ylle_f, xcl_t, xcl_f, e0]
  refine c_wnt (n := n) (f := f) hr hq n40 e2 (fun i hi => by rw [show 103 + 2 * q + 1 = 104 + 2 * q by omega]; exact e3 i hi) (by omega) ?_ ?_
  · intro n0 no h1 r1 f1
    have fin := kk h1 r1 f1.v
    have e : fLs (fun S => wTg B.1 S out n f) (2 ^ B.1.1) 4 1 = none := fLs_no (fun s s1 s2 s3 => wTg_no hC ⟨s1, s2, s3⟩ (by omega) no) 4 1 (by omega)
    have fin' : Q (some (.inl (gLs (fLs (fun S => wTg B.1 S out n f) (2 ^ B.1.1) 4 1) 1))) h1 := fin
    rw [e] at fin'
    refine u_X10_leastFor_38 ?_
    simp (disch := omega) only [xle_t, xle_f, xlt_t, xlt_f, xeq_t, xeq_f, xle0_t, xle0_f, xlt0_f, x0lt_t, x0lt_f, x0le_t, xeq0_t, xeq0_f, xin, xem_f, xme_f, xlem_f, xlm_f, xml_t, xmle_t, nI_clamp, nI_add, pk_mul, pk_sub, zI_s, zI_k, zI_o, zL_s, zL_k, zL_o, zR_s, zR_k, zR_o, zIL, zIR, zIN, zLI, zLR, zLN, zRI, zRL, zRN, true_and, and_true, not_true_eq_false, not_false_eq_true, true_implies, false_implies, implies_true, forall_const, if_true, if_false, eq_self, false_and, and_false, implies_true, nI_l, ylle_t, ylle_f, xcl_t, xcl_f]
    exact fin'
  · intro w ws w4 sw bw ow pw h1 r1 f1 hw1
    refine u_X10_leastFor_38 ?_
    simp (disch := omega) only [xle_t, xle_f, xlt_t, xlt_f, xeq_t, xeq_f, xle0_t, xle0_f, xlt0_f, x0lt_t, x0lt_f, x0le_t, xeq0_t, xeq0_f, xin, xem_f, xme_f, xlem_f, xlm_f, xml_t, xmle_t, nI_clamp, nI_add, pk_mul, pk_sub, zI_s, zI_k, zI_o, zL_s, zL_k, zL_o, zR_s, zR_k, zR_o, zIL, zIR, zIN, zLI, zLR, zLN, zRI, zRL, zRN, true_and, and_true, not_true_eq_false, not_false_eq_true, true_implies, false_implies, implies_true, forall_const, if_true, if_false, eq_self, false_and, and_false, implies_true, nI_l, ylle_t, ylle_f, xcl_t, xcl_f]
    have kk' : ∀ h', zRf h' → cV h h' → Q (some (.inl (gLs (fLs (fun S => wTg B.1 S out n f) (2 ^ B.1.1) 4 1) 1))) h' := kk
    clear kk
    have L : ∀ m z, z + m = 5 → ∀ h', zRf h' → cV h h' → wHd w ws h' → (∀ h'', zRf h'' → cV h h'' → Q (some (.inl (gLs (fLs (fun S => wTg B.1 S out n f) (2 ^ B.1.1) m z) 1))) h'') → ∀ u, J mX10_leastFor d 0 0 Q 0 0 45 [some (.inr (.inr 1)), some (.inl (nI q)), some (.inl (bI out)), some (.inl (nI z)), u] [] h' := by
      intro m
      induction m with
      | zero =>
        intro z hz h' r' f' hw' kq u
        refine u_X10_leastFor_45 ?_
        simp (disch := omega) only [xle_t, xle_f, xlt_t, xlt_f, xeq_t, xeq_f, xle0_t, xle0_f, xlt0_f, x0lt_t, x0lt_f, x0le_t, xeq0_t, xeq0_f, xin, xem_f, xme_f, xlem_f, xlm_f, xml_t, xmle_t, nI_clamp, nI_add, pk_mul, pk_sub, zI_s, zI_k, zI_o, zL_s, zL_k, zL_o, zR_s, zR_k, zR_o, zIL, zIR, zIN, zLI, zLR, zLN, zRI, zRL, zRN, true_and, and_true, not_true_eq_false, not_false_eq_true, true_implies, false_implies, implies_true, forall_const, if_true, if_false, eq_self, false_and, and_false, implies_true, nI_l, ylle_t, ylle_f, xcl_t, xcl_f]
        exact kq h' r' f'
      | succ m ih =>
        intro z hz h' r' f' hw' kq u
        refine u_X10_leastFor_45 ?_
        simp (disch := omega) only [xle_t, xle_f, xlt_t, xlt_f, xeq_t, xeq_f, xle0_t, xle0_f, xlt0_f, x0lt_t, x0lt_f, x0le_t, xeq0_t, xeq0_f, xin, xem_f, xme_f, xlem_f, xlm_f, xml_t, xmle_t, nI_clamp, nI_add, pk_mul, pk_sub, zI_s, zI_k, zI_o, zL_s, zL_k, zL_o, zR_s, zR_k, zR_o, zIL, zIR, zIN, zLI, zLR, zLN, zRI, zRL, zRN, true_and, and_true, not_true_eq_false, not_false_eq_true, true_implies, false_implies, implies_true, forall_const, if_true, if_false, eq_self, false_and, and_false, implies_true, nI_l, ylle_t, ylle_f, xcl_t, xcl_f]
        have L2 : ∀ m' s, s + m' = 2 ^ B.1.1 → 1 ≤ s → ∀ h', zRf h' → cV h h' → wHd w ws h' → (∀ h'', zRf h'' → cV h h'' → Q (some (.inl (gLs (match fFst (fun s => decide (wN s 8 = z) && wTg B.1 s out n f) m' s with
            | some s => some (z, s)
            | none => fLs (fun S => wTg B.1 S out n f) (2 ^ B.1.1) m (z + 1)) 1))) h'') → J mX10_leastFor d 0 0 Q 0 0 53 [some (.inr (.inr 1)), some (.inl (nI q)), some (.inl (bI out)), some (.inl (nI z)), some (.inl (nI s))] [] h' := by
          intro m'
          induction m' with
          | zero =>
            intro s hs s1 h' r' f' hw' kq
            have hA' := hA.v f'
            have es : nI 1 <<< (nI B.1.1 &&& 31) = nI (2 ^ B.1.1) := by rw [pk_shlN _ B.1.1 (s_l B.1.1 (by omega)) (by omega), Nat.one_mul]
            refine u_X10_leastFor_53 (d1' := d - 1) r' (by omega) ?_
            rw [hA'.c16.1, es]
            simp (disch := omega) only [xle_t, xle_f, xlt_t, xlt_f, xeq_t, xeq_f, xle0_t, xle0_f, xlt0_f, x0lt_t, x0lt_f, x0le_t, xeq0_t, xeq0_f, xin, xem_f, xme_f, xlem_f, xlm_f, xml_t, xmle_t, nI_clamp, nI_add, pk_mul, pk_sub, zI_s, zI_k, zI_o, zL_s, zL_k, zL_o, zR_s, zR_k, zR_o, zIL, zIR, zIN, zLI, zLR, zLN, zRI, zRL, zRN, true_and, and_true, not_true_eq_false, not_false_eq_true, true_implies, false_implies, implies_true, forall_const, if_true, if_false, eq_self, false_and, and_false, implies_true, nI_l, ylle_t, ylle_f, xcl_t, xcl_f]
            exact ih (z + 1) (by omega) h' r' f' hw' kq _
          | succ m' ih2 =>
            intro s hs s1 h' r' f' hw' kq
            have hA' := hA.v f'
            have es : nI 1 <<< (nI B.1.1 &&& 31) = nI (2 ^ B.1.1) := by rw [pk_shlN _ B.1.1 (s_l B.1.1 (by omega)) (by omega), Nat.one_mul]
            have nb : wN s 8 ≤ 8 := fb_ct_le _ _
            have st : fFst (fun s => decide (wN s 8 = z) && wTg B.1 s out n f) (m' + 1) s = if (decide (wN s 8 = z) && wTg B.1 s out n f) = true then some s else fFst (fun s => decide (wN s 8 = z) && wTg B.1 s out n f) m' (s + 1) := rfl
            rw [st] at kq
            refine u_X10_leastFor_53 (d1' := d - 1) r' (by omega) ?_
            rw [hA'.c16.1, es]
            simp (disch := omega) only [xle_t, xle_f, xlt_t, xlt_f, xeq_t, xeq_f, xle0_t, xle0_f, xlt0_f, x0lt_t, x0lt_f, x0le_t, xeq0_t, xeq0_f, xin, xem_f, xme_f, xlem_f, xlm_f, xml_t, xmle_t, nI_clamp, nI_add, pk_mul, pk_sub, zI_s, zI_k, zI_o, zL_s, zL_k, zL_o, zR_s, zR_k, zR_o, zIL, zIR, zIN, zLI, zLR, zLN, zRI, zRL, zRN, true_and, and_true, not_true_eq_false, not_false_eq_true, true_implies, false_implies, implies_true, forall_const, if_true, if_false, eq_self, false_and, and_false, implies_true, nI_l, ylle_t, ylle_f, xcl_t, xcl_f]
            refine c_bit6 (by omega) ?_
            refine u_X10_leastFor_75 (d1' := d - 1) r' (by omega) ?_
            by_cases c1 : wN s 8 = z
            · simp (disch := omega) only [xle_t, xle_f, xlt_t, xlt_f, xeq_t, xeq_f, xle0_t, xle0_f, xlt0_f, x0lt_t, x0lt_f, x0le_t, xeq0_t, xeq0_f, xin, xem_f, xme_f, xlem_f, xlm_f, xml_t, xmle_t, nI_clamp, nI_add, pk_mul, pk_sub, zI_s, zI_k, zI_o, zL_s, zL_k, zL_o, zR_s, zR_k, zR_o, zIL, zIR, zIN, zLI, zLR, zLN, zRI, zRL, zRN, true_and, and_true, not_true_eq_false, not_false_eq_true, true_implies, false_implies, implies_true, forall_const, if_true, if_false, eq_self, false_and, and_false, implies_true, nI_l, ylle_t, ylle_f, xcl_t, xcl_f]
              have hS : wSet B.1 s := ⟨s1, by omega, by omega⟩
              refine c_atg r' hA' hB hS w4 sw bw ow pw hw' (by omega) (fun h2 r2 f2 hw2 => ?_)
              refine u_X10_leastFor_86 ?_
              rw [decide_eq_true c1, Bool.true_and] at kq
              cases ht : wTg B.1 s out n f with
              | true =>
                rw [ht, if_pos rfl] at kq
                rw [show bI true = nI 1 from rfl]
                have fin := kq h2 r2 (f'.trans f2)
                have fin' : Q (some (.inl (if (1 : Nat) = 0 then nI z else nI s))) h2 := fin
                rw [if_neg (by decide)] at fin'
                simp (disch := omega) only [xle_t, xle_f, xlt_t, xlt_f, xeq_t, xeq_f, xle0_t, xle0_f, xlt0_f, x0lt_t, x0lt_f, x0le_t, xeq0_t, xeq0_f, xin, xem_f, xme_f, xlem_f, xlm_f, xml_t, xmle_t, nI_clamp, nI_add, pk_mul, pk_sub, zI_s, zI_k, zI_o, zL_s, zL_k, zL_o, zR_s, zR_k, zR_o, zIL, zIR, zIN, zLI, zLR, zLN, zRI, zRL, zRN, true_and, and_true, not_true_eq_false, not_false_eq_true, true_implies, false_implies, implies_true, forall_const, if_true, if_false, eq_self, false_and, and_false, implies_true, nI_l, ylle_t, ylle_f, xcl_t, xcl_f]
                exact fin'
              | false =>
                rw [ht, if_neg (show ¬ (false = true) by decide)] at kq
                rw [show bI false = nI 0 from rfl]
                simp (disch := omega) only [xle_t, xle_f, xlt_t, xlt_f, xeq_t, xeq_f, xle0_t, xle0_f, xlt0_f, x0lt_t, x0lt_f, x0le_t, xeq0_t, xeq0_f, xin, xem_f, xme_f, xlem_f, xlm_f, xml_t, xmle_t, nI_clamp, nI_add, pk_mul, pk_sub, zI_s, zI_k, zI_o, zL_s, zL_k, zL_o, zR_s, zR_k, zR_o, zIL, zIR, zIN, zLI, zLR, zLN, zRI, zRL, zRN, true_and, and_true, not_true_eq_false, not_false_eq_true, true_implies, false_implies, implies_true, forall_const, if_true, if_false, eq_self, false_and, and_false, implies_true, nI_l, ylle_t, ylle_f, xcl_t, xcl_f]
                exact ih2 (s + 1) (by omega) (by omega) h2 r2 (f'.trans f2) hw2 kq
            · rw [decide_eq_false c1, Bool.false_and, if_neg (show ¬ (false = true) by decide)] at kq
              simp (disch := omega) only [xle_t, xle_f, xlt_t, xlt_f, xeq_t, xeq_f, xle0_t, xle0_f, xlt0_f, x0lt_t, x0lt_f, x0le_t, xeq0_t, xeq0_f, xin, xem_f, xme_f, xlem_f, xlm_f, xml_t, xmle_t, nI_clamp, nI_add, pk_mul, pk_sub, zI_s, zI_k, zI_o, zL_s, zL_k, zL_o, zR_s, zR_k, zR_o, zIL, zIR, zIN, zLI, zLR, zLN, zRI, zRL, zRN, true_and, and_true, not_true_eq_false, not_false_eq_true, true_implies, false_implies, implies_true, forall_const, if_true, if_false, eq_self, false_and, and_false, implies_true, nI_l, ylle_t, ylle_f, xcl_t, xcl_f]
              exact ih2 (s + 1) (by omega) (by omega) h' r' f' hw' kq
        exact L2 (2 ^ B.1.1 - 1) 1 (by omega) (by omega) h' r' f' hw' kq
    exact L 4 1 (by omega) h1 r1 f1.v hw1 kk' _
end OPS
