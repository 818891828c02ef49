/-! ===== together, leastFor ===== -/
section OPS
variable {B : BK} {W : RW} {out : Bool} {h : MH} {d : Nat} {Q : Option MV → MH → Prop}
def wTg (C : CE) (S : Nat) (out : Bool) (n : Nat) (f : Nat → Int64) : Bool := decide (n = 0) || (wAll C S out).any (rTd n f)
noncomputable def gTog (B : BK) (W : RW) (x : Int32) (out : Bool) (y : Int32) : Int32 := gW W y (fun _ w => gSet B.1 4 x (fun S => bI (wTg B.1 S out w.2.1 w.2.2)))
noncomputable def gLFo (B : BK) (W : RW) (y : Int32) (out : Bool) : Int32 := gW W y (fun _ w => gLs (fLs (fun S => wTg B.1 S out w.2.1 w.2.2) (2 ^ B.1.1) 4 1) 1)
def cV (h h' : MH) : Prop := zF (fun a => a < 62 ∨ 76 < a) h h'
theorem wFw'.v {h' : MH} (f : wFw' h h') : cV h h' := f.1.weak (fun a q => by omega)
theorem bAt.v {h' : MH} (q : bAt B h 15) (f : cV h h') : bAt B h' 15 := q.keep (fun k hk => f.i (by omega))
/-- areTogether, once the wanted stand there -/
theorem c_atg {S w n : Nat} {ws : Nat → Nat} {f : Nat → Int64} (hr : zRf h) (hA : bAt B h 15) (hB : bOK B) (hS : wSet B.1 S) (w4 : w ≤ 4) (sw : srt w ws) (bw : ∀ k, k < w → 1 ≤ ws k ∧ ws k ≤ 368656) (ow : wOf w ws n f) (pw : ∀ j, j < n → 0 ≤ (f j).toInt) (hw : wHd w ws h) (hd : 26 ≤ d) (kk : ∀ h', zRf h' → cV h h' → wHd w ws h' → Q (some (.inl (bI (wTg B.1 S out n f)))) h') : Con mX10_areTogether d 0 0 [.inr (.inr 1), .inl (nI S), .inl (bI out)] h Q := by
  refine u_X10_areTogether (d1' := d - 1) hr (by omega) ?_
  refine c_wly hr hA.c16 hB.1 hS (by omega) (fun h1 r1 f1 k1 q1 l1 => ?_)
  have hw1 : wHd w ws h1 := ⟨(k1 10 (by omega)).trans hw.1, fun k hk => by rw [f1.i (by omega)]; exact hw.2 k hk⟩
  refine u_X10_areTogether_16 (d1' := d - 1) r1 (by omega) ?_
  refine c_skW (w := w) (ws := ws) r1 hB.1 hS l1 w4 sw (fun i hi => by have := bw i hi; omega) hw1.1 hw1.2 (by omega) (fun h2 r2 f2 e10 => ?_)
  refine u_X10_areTogether_23 ⟨bI_or _, ?_⟩
  have e : (decide (w = 0) || (wAll B.1 S out).any (wTd w ws)) = wTg B.1 S out n f := by
    unfold wTg
    congr 1
    · refine decide_eq_decide.mpr ⟨fun q => ?_, fun q => ?_⟩
      · refine Classical.byContradiction fun y => ?_
        obtain ⟨x, hx⟩ : ∃ x : Nat, (f 0).toInt = (x : Int) := ⟨(f 0).toInt.toNat, by have := pw 0 (by omega); omega⟩
        obtain ⟨k, k1, _⟩ := (ow x).mpr ⟨0, by omega, hx⟩
        omega
      · refine Classical.byContradiction fun y => ?_
        obtain ⟨j, j1, _⟩ := (ow (ws 0)).mp ⟨0, by omega, rfl⟩
        omega
    · exact any_c (fun b _ => (rTd_w ow pw).symm)
  rw [e]
  exact kk h2 r2 ((f1.weak (fun a q => by omega)).trans (f2.weak (fun a q => by omega))) ⟨e10, fun k hk => by rw [f2.i (by omega)]; exact hw1.2 k hk⟩
theorem wTg_no {C : CE} {S n : Nat} {f : Nat → Int64} (hC : cOK C) (hS : wSet C S) (hn : n ≠ 0) (no : ∀ (C : CE) (S : Nat) (out : Bool), cOK C → wSet C S → ∀ b, b ∈ wAll C S out → rTd n f b = false) : wTg C S out n f = false := by
  unfold wTg
  rw [decide_eq_false hn, Bool.false_or]
  exact List.any_eq_false.mpr (fun b hb => Bool.eq_false_iff.mp (no C S out hC hS b hb))
theorem o_tog {x y : Int32} (hr : zRf h) (hA : bAt B h 15) (hB : bOK B) (hW : rwC W h) (hWo : rwOK W) (hd : 28 ≤ d) (kk : ∀ h', zRf h' → cV h h' → Q (some (.inl (gTog B W x out y))) h') : Con mX10_together d 0 0 [.inr (.inr 1), .inl x, .inl (bI out), .inl y] h Q := by
  unfold gTog at kk
  refine u_X10_together (d1' := d - 1) hr (by omega) (by omega) ?_
  rcases ix3 y (n := 4) (by omega) with ⟨z, x1, _⟩ | ⟨z, x1, x2, _⟩ | ⟨q, hq, rfl, z⟩
  · rw [gW_none z] at kk
    simp (disch := omega) only [xle_t, xle_f, xlt_t, xlt_f, xeq_t, xeq_f, xle0_t, xle0_f, xlt0_f, x0lt_t, x0lt_f, x0le_t, xeq0_t, xeq0_f, xin, xem_f, xme_f, xlem_f, xlm_f, xml_t, xmle_t, nI_clamp, nI_add, pk_mul, pk_sub, zI_s, zI_k, zI_o, zL_s, zL_k, zL_o, zR_s, zR_k, zR_o, zIL, zIR, zIN, zLI, zLR, zLN, zRI, zRL, zRN, true_and, and_true, not_true_eq_false, not_false_eq_true, true_implies, false_implies, implies_true, forall_const, if_true, if_false, eq_self, false_and, and_false, implies_true, nI_l, ylle_t, ylle_f, xcl_t, xcl_f, x1]
    exact kk h hr zF.rfl
  · rw [gW_none z] at kk
    simp (disch := omega) only [xle_t, xle_f, xlt_t, xlt_f, xeq_t, xeq_f, xle0_t, xle0_f, xlt0_f, x0lt_t, x0lt_f, x0le_t, xeq0_t, xeq0_f, xin, xem_f, xme_f, xlem_f, xlm_f, xml_t, xmle_t, nI_clamp, nI_add, pk_mul, pk_sub, zI_s, zI_k, zI_o, zL_s, zL_k, zL_o, zR_s, zR_k, zR_o, zIL, zIR, zIN, zLI, zLR, zLN, zRI, zRL, zRN, true_and, and_true, not_true_eq_false, not_false_eq_true, true_implies, false_implies, implies_true, forall_const, if_true, if_false, eq_self, false_and, and_false, implies_true, nI_l, ylle_t, ylle_f, xcl_t, xcl_f, x1, x2]
    exact kk h hr zF.rfl
  rcases hw : W q with _ | ⟨s, n, f⟩
  · rw [gW_no hq hw] at kk
    have e0 := (hW q hq).1 hw
    simp (disch := omega) only [xle_t, xle_f, xlt_t, xlt_f, xeq_t, xeq_f, xle0_t, xle0_f, xlt0_f, x0lt_t, x0lt_f, x0le_t, xeq0_t, xeq0_f, xin, xem_f, xme_f, xlem_f, xlm_f, xml_t, xmle_t, nI_clamp, nI_add, pk_mul, pk_sub, zI_s, zI_k, zI_o, zL_s, zL_k, zL_o, zR_s, zR_k, zR_o, zIL, zIR, zIN, zLI, zLR, zLN, zRI, zRL, zRN, true_and, and_true, not_true_eq_false, not_false_eq_true, true_implies, false_implies, implies_true, forall_const, if_true, if_false, eq_self, false_and, and_false, implies_true, nI_l, ylle_t, ylle_f, xcl_t, xcl_f, e0]
    exact kk h hr zF.rfl
  rw [gW_so hq hw] at kk
  obtain ⟨e0, e1, e2, e3⟩ := (hW q hq).2 s n f hw
  obtain ⟨s4, n40⟩ := hWo q s n f hw
  simp (disch := omega) only [xle_t, xle_f, xlt_t, xlt_f, xeq_t, xeq_f, xle0_t, xle0_f, xlt0_f, x0lt_t, x0lt_f, x0le_t, xeq0_t, xeq0_f, xin, xem_f, xme_f, xlem_f, xlm_f, xml_t, xmle_t, nI_clamp, nI_add, pk_mul, pk_sub, zI_s, zI_k, zI_o, zL_s, zL_k, zL_o, zR_s, zR_k, zR_o, zIL, zIR, zIN, zLI, zLR, zLN, zRI, zRL, zRN, true_and, and_true, not_true_eq_false, not_false_eq_true, true_implies, false_implies, implies_true, forall_const, if_true, if_false, eq_self, false_and, and_false, implies_true, nI_l, ylle_t, ylle_f, xcl_t, xcl_f, e0]
  refine c_ist hr hA.c16 hB.1 (by omega) (by omega) ?_ ?_
  · intro z9
    rw [gSet_0 z9] at kk
    refine u_X10_together_31 (d1' := d - 1) hr (by omega) ?_
    simp (disch := omega) only [xle_t, xle_f, xlt_t, xlt_f, xeq_t, xeq_f, xle0_t, xle0_f, xlt0_f, x0lt_t, x0lt_f, x0le_t, xeq0_t, xeq0_f, xin, xem_f, xme_f, xlem_f, xlm_f, xml_t, xmle_t, nI_clamp, nI_add, pk_mul, pk_sub, zI_s, zI_k, zI_o, zL_s, zL_k, zL_o, zR_s, zR_k, zR_o, zIL, zIR, zIN, zLI, zLR, zLN, zRI, zRL, zRN, true_and, and_true, not_true_eq_false, not_false_eq_true, true_implies, false_implies, implies_true, forall_const, if_true, if_false, eq_self, false_and, and_false, implies_true, nI_l, ylle_t, ylle_f, xcl_t, xcl_f]
    exact kk h hr zF.rfl
  · intro S z9 e hS _
    rw [gSet_1 z9] at kk
    refine u_X10_together_31 (d1' := d - 1) hr (by omega) ?_
    simp (disch := omega) only [xle_t, xle_f, xlt_t, xlt_f, xeq_t, xeq_f, xle0_t, xle0_f, xlt0_f, x0lt_t, x0lt_f, x0le_t, xeq0_t, xeq0_f, xin, xem_f, xme_f, xlem_f, xlm_f, xml_t, xmle_t, nI_clamp, nI_add, pk_mul, pk_sub, zI_s, zI_k, zI_o, zL_s, zL_k, zL_o, zR_s, zR_k, zR_o, zIL, zIR, zIN, zLI, zLR, zLN, zRI, zRL, zRN, true_and, and_true, not_true_eq_false, not_false_eq_true, true_implies, false_implies, implies_true, forall_const, if_true, if_false, eq_self, false_and, and_false, implies_true, nI_l, ylle_t, ylle_f, xcl_t, xcl_f]
    refine c_wnt (n := n) (f := f) hr hq n40 e2 (fun i hi => by rw [show 103 + 2 * q + 1 = 104 + 2 * q by omega]; exact e3 i hi) (by omega) ?_ ?_
    · intro n0 no h1 r1 f1
      have fin := kk h1 r1 f1.v
      rw [wTg_no hB.1 hS (by omega) no] at fin
      refine u_X10_together_50 (d1' := d - 1) r1 (by omega) ?_
      simp (disch := omega) only [xle_t, xle_f, xlt_t, xlt_f, xeq_t, xeq_f, xle0_t, xle0_f, xlt0_f, x0lt_t, x0lt_f, x0le_t, xeq0_t, xeq0_f, xin, xem_f, xme_f, xlem_f, xlm_f, xml_t, xmle_t, nI_clamp, nI_add, pk_mul, pk_sub, zI_s, zI_k, zI_o, zL_s, zL_k, zL_o, zR_s, zR_k, zR_o, zIL, zIR, zIN, zLI, zLR, zLN, zRI, zRL, zRN, true_and, and_true, not_true_eq_false, not_false_eq_true, true_implies, false_implies, implies_true, forall_const, if_true, if_false, eq_self, false_and, and_false, implies_true, nI_l, ylle_t, ylle_f, xcl_t, xcl_f]
      exact fin
    · intro w ws w4 sw bw ow pw h1 r1 f1 hw1
      refine u_X10_together_50 (d1' := d - 1) r1 (by omega) ?_
      simp (disch := omega) only [xle_t, xle_f, xlt_t, xlt_f, xeq_t, xeq_f, xle0_t, xle0_f, xlt0_f, x0lt_t, x0lt_f, x0le_t, xeq0_t, xeq0_f, xin, xem_f, xme_f, xlem_f, xlm_f, xml_t, xmle_t, nI_clamp, nI_add, pk_mul, pk_sub, zI_s, zI_k, zI_o, zL_s, zL_k, zL_o, zR_s, zR_k, zR_o, zIL, zIR, zIN, zLI, zLR, zLN, zRI, zRL, zRN, true_and, and_true, not_true_eq_false, not_false_eq_true, true_implies, false_implies, implies_true, forall_const, if_true, if_false, eq_self, false_and, and_false, implies_true, nI_l, ylle_t, ylle_f, xcl_t, xcl_f, e]
      refine c_atg r1 (hA.v f1.v) hB hS w4 sw bw ow pw hw1 (by omega) (fun h2 r2 f2 _ => ?_)
      have fin := kk h2 r2 (f1.v.trans f2)
      refine u_X10_together_59 ?_
      cases hf : wTg B.1 S out n f with
      | true =>
        rw [hf] at fin
        rw [show bI true = nI 1 from rfl] at fin ⊢
        simp (disch := omega) only [xle_t, xle_f, xlt_t, xlt_f, xeq_t, xeq_f, xle0_t, xle0_f, xlt0_f, x0lt_t, x0lt_f, x0le_t, xeq0_t, xeq0_f, xin, xem_f, xme_f, xlem_f, xlm_f, xml_t, xmle_t, nI_clamp, nI_add, pk_mul, pk_sub, zI_s, zI_k, zI_o, zL_s, zL_k, zL_o, zR_s, zR_k, zR_o, zIL, zIR, zIN, zLI, zLR, zLN, zRI, zRL, zRN, true_and, and_true, not_true_eq_false, not_false_eq_true, true_implies, false_implies, implies_true, forall_const, if_true, if_false, eq_self, false_and, and_false, implies_true, nI_l, ylle_t, ylle_f, xcl_t, xcl_f]
        exact fin
      | false =>
        rw [hf] at fin
        rw [show bI false = nI 0 from rfl] at fin ⊢
        simp (disch := omega) only [xle_t, xle_f, xlt_t, xlt_f, xeq_t, xeq_f, xle0_t, xle0_f, xlt0_f, x0lt_t, x0lt_f, x0le_t, xeq0_t, xeq0_f, xin, xem_f, xme_f, xlem_f, xlm_f, xml_t, xmle_t, nI_clamp, nI_add, pk_mul, pk_sub, zI_s, zI_k, zI_o, zL_s, zL_k, zL_o, zR_s, zR_k, zR_o, zIL, zIR, zIN, zLI, zLR, zLN, zRI, zRL, zRN, true_and, and_true, not_true_eq_false, not_false_eq_true, true_implies, false_implies, implies_true, forall_const, if_true, if_false, eq_self, false_and, and_false, implies_true, nI_l, ylle_t, ylle_f, xcl_t, xcl_f]
        exact fin
end OPS
