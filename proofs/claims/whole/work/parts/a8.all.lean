/-! ===== all times told: laid on both sides ===== -/
theorem c_clr {w d : Nat} {h : MH} {Q : Option MV → MH → Prop} (hr : zRf h) (hz : zokO h (w - 1) 3) (hw0 : 0 < w) (kk : ∀ h', zRf h' → zF (fun a => a ≠ w) h h' → h'.1 = h.1 → wKw (fun _ => false) (h'.2.1 w) → Q none h') : Con mX3_clear d 0 0 [.inr (.inr (w - 1))] h Q := by
  refine u_X3_clear ?_
  have L : ∀ m i, i + m = 361 → ∀ h', zRf h' → zF (fun a => a ≠ w) h h' → h'.1 = h.1 → (∀ j, j < i → h'.2.1 w j = lN 0) → J mX3_clear d 0 0 Q 0 0 2 [some (.inr (.inr (w - 1))), some (.inl (nI i))] [] h' := by
    intro m
    induction m with
    | zero =>
      intro i hi h' r' f' e' g'
      refine u_X3_clear_2 r' ?_
      simp (disch := omega) only [xle_t, xle_f, xlt_t, xlt_f, xeq_t, xeq_f, xle0_t, xle0_f, xlt0_f, x0lt_t, x0lt_f, x0le_t, xeq0_t, xeq0_f, xin, xem_f, xme_f, xlem_f, xlm_f, xml_t, xmle_t, nI_clamp, nI_add, pk_mul, pk_sub, zI_s, zI_k, zI_o, zL_s, zL_k, zL_o, zR_s, zR_k, zR_o, zIL, zIR, zIN, zLI, zLR, zLN, zRI, zRL, zRN, true_and, and_true, not_true_eq_false, not_false_eq_true, true_implies, false_implies, implies_true, forall_const, if_true, if_false, eq_self, false_and, and_false, implies_true, nI_l, ylle_t, ylle_f, xcl_t, xcl_f]
      refine kk h' r' f' e' (fun j hj => ?_)
      rw [g' (j / 64) (by omega)]
      show (BitVec.ofNat 64 0).getLsbD _ = false
      rw [BitVec.getLsbD_ofNat, Nat.zero_testBit, Bool.and_false]
    | succ m ih =>
      intro i hi h' r' f' e' g'
      have z' : zokO h' (w - 1) 3 := by
        have := hz.2.1
        refine ⟨hz.1, ?_, hz.2.2⟩
        rw [f'.2]
        exact this
      refine u_X3_clear_2 r' ?_
      rw [show w - 1 + 1 = w by omega]
      simp (disch := omega) only [xle_t, xle_f, xlt_t, xlt_f, xeq_t, xeq_f, xle0_t, xle0_f, xlt0_f, x0lt_t, x0lt_f, x0le_t, xeq0_t, xeq0_f, xin, xem_f, xme_f, xlem_f, xlm_f, xml_t, xmle_t, nI_clamp, nI_add, pk_mul, pk_sub, zI_s, zI_k, zI_o, zL_s, zL_k, zL_o, zR_s, zR_k, zR_o, zIL, zIR, zIN, zLI, zLR, zLN, zRI, zRL, zRN, true_and, and_true, not_true_eq_false, not_false_eq_true, true_implies, false_implies, implies_true, forall_const, if_true, if_false, eq_self, false_and, and_false, implies_true, nI_l, ylle_t, ylle_f, xcl_t, xcl_f]
      refine ⟨z', ih (i + 1) (by omega) _ r' (f'.trans (zF_L _ _ _ (by omega))) e' (fun j hj => ?_)⟩
      by_cases y : j = i
      · rw [y, zL_s]
      · rw [zL_k _ _ _ y]
        exact g' j (by omega)
  exact L 361 0 (by omega) h hr zF.rfl rfl (fun j hj => by omega)
section OPS
variable {B : BK} {out : Bool} {h : MH} {d : Nat} {Q : Option MV → MH → Prop}
def wMo' (out : Bool) : Nat := if out = true then 100 else 98
/-- what may change while all times of a set are marked: the ways, and one row of marks -/
theorem c_all {S : Nat} (hr : zRf h) (hA : bAt B h 15) (hB : bOK B) (hS : wSet B.1 S) (m0 : wMk B.1 false 98 h) (m1 : wMk B.1 true 100 h) (hd : 26 ≤ d) (kk : ∀ h', zRf h' → zF (fun a => a < 62 ∨ 100 < a) h h' → wMk B.1 false 98 h' → wMk B.1 true 100 h' → zokO h' (wMo' out - 1) 3 → wKw (fun i => wTm B.1 S out (16 * i)) (h'.2.1 (wMo' out)) → Q (some (.inr (.inr (wMo' out - 1)))) h') : Con mX10_allTold d 0 0 [.inr (.inr 1), .inl (nI S), .inl (bI out)] h Q := by
  have hC := hB.1
  have b8 := p2_8 hC.1
  have s1 := hS.2.1
  have s0 := hS.1
  have new : ∀ w, w = wMo' out → Con mX3_clear (d - 1) 0 0 [.inr (.inr (w - 1))] h (zrv fun h' => J mX10_allTold d 0 0 Q 0 0 28 [some (.inr (.inr 1)), some (.inl (nI S)), some (.inl (bI out)), some (.inr (.inr (w - 1)))] [] h') := by
    intro w hw
    have w9 : w = 98 ∨ w = 100 := by rw [hw]; unfold wMo'; split <;> omega
    have hz : zokO h (w - 1) 3 := by rcases w9 with q | q <;> rw [q] <;> exact zo hr (by decide) rfl
    refine c_clr hr hz (by omega) (fun h1 r1 f1 e1 K1 => ?_)
    refine u_X10_allTold_28 (d1' := d - 1) r1 (by omega) ?_
    have hA1 : cAt B.1 h1 16 := by unfold cAt; rw [e1]; exact hA.c16
    refine c_wly r1 hA1 hC hS (by omega) (fun h2 r2 f2 k2 q2 l2 => ?_)
    refine u_X10_allTold_44 (d1' := d - 1) r2 (by omega) ?_
    refine c_mkA w9 r2 hC hS l2 (S0 := fun _ => false) (by rw [f2.l (by omega)]; exact K1) (by omega) (fun h3 r3 f3 K3 => ?_)
    have K3' : wKw (fun i => wTm B.1 S out (16 * i)) (h3.2.1 w) := fun i hi => by rw [K3 i hi]; exact mU_tm hC hS i
    have hz3 : zokO h3 (w - 1) 3 := by rcases w9 with q | q <;> rw [q] <;> exact zo r3 (by decide) rfl
    refine u_X10_allTold_52 ⟨hz3, ?_⟩
    have F3 : zF (fun a => (a < 62 ∨ 76 < a) ∧ a ≠ w) h h3 := ((f1.weak (fun a q => q.2)).trans (f2.weak (fun a q => by omega))).trans f3
    have here : wMk B.1 out w (zsI h3 (w - 1) 0 (nI S)) := Or.inr ⟨S, hS, zI_s _ _ _ _, K3'⟩
    rw [hw]
    rw [hw] at F3 here K3' hz3
    refine kk _ r3 ((F3.weak (fun a q => ?_)).trans (zF_I _ _ _ ?_)) ?_ ?_ hz3 K3'
    · unfold wMo'; split <;> omega
    · unfold wMo'; split <;> omega
    · cases out with
      | false => exact here
      | true => exact m0.keep (by rw [zI_o _ _ _ (show 98 - 1 ≠ wMo' true - 1 by decide)]; exact F3.i ⟨by omega, by decide⟩) (F3.l ⟨by omega, by decide⟩)
    · cases out with
      | true => exact here
      | false => exact m1.keep (by rw [zI_o _ _ _ (show 100 - 1 ≠ wMo' false - 1 by decide)]; exact F3.i ⟨by omega, by decide⟩) (F3.l ⟨by omega, by decide⟩)
  refine u_X10_allTold (d1' := d - 1) (d2' := d - 1) hr (by omega) (by omega) ?_
  cases out with
  | false =>
    rw [show bI false = nI 0 from rfl] at new ⊢
    rcases id m0 with z | ⟨S0, hS0, z, K0⟩
    · simp (disch := omega) only [xle_t, xle_f, xlt_t, xlt_f, xeq_t, xeq_f, xle0_t, xle0_f, xlt0_f, x0lt_t, x0lt_f, x0le_t, xeq0_t, xeq0_f, xin, xem_f, xme_f, xlem_f, xlm_f, xml_t, xmle_t, nI_clamp, nI_add, pk_mul, pk_sub, zI_s, zI_k, zI_o, zL_s, zL_k, zL_o, zR_s, zR_k, zR_o, zIL, zIR, zIN, zLI, zLR, zLN, zRI, zRL, zRN, true_and, and_true, not_true_eq_false, not_false_eq_true, true_implies, false_implies, implies_true, forall_const, if_true, if_false, eq_self, false_and, and_false, implies_true, nI_l, ylle_t, ylle_f, xcl_t, xcl_f, show h.1 97 0 = nI 0 from z]
      exact new 98 rfl
    · have s01 := hS0.2.1
      by_cases e : S0 = S
      · rw [e] at z K0
        simp (disch := omega) only [xle_t, xle_f, xlt_t, xlt_f, xeq_t, xeq_f, xle0_t, xle0_f, xlt0_f, x0lt_t, x0lt_f, x0le_t, xeq0_t, xeq0_f, xin, xem_f, xme_f, xlem_f, xlm_f, xml_t, xmle_t, nI_clamp, nI_add, pk_mul, pk_sub, zI_s, zI_k, zI_o, zL_s, zL_k, zL_o, zR_s, zR_k, zR_o, zIL, zIR, zIN, zLI, zLR, zLN, zRI, zRL, zRN, true_and, and_true, not_true_eq_false, not_false_eq_true, true_implies, false_implies, implies_true, forall_const, if_true, if_false, eq_self, false_and, and_false, implies_true, nI_l, ylle_t, ylle_f, xcl_t, xcl_f, show h.1 97 0 = nI S from z]
        exact kk h hr zF.rfl m0 m1 (zo hr (by decide) rfl) K0
      · simp (disch := omega) only [xle_t, xle_f, xlt_t, xlt_f, xeq_t, xeq_f, xle0_t, xle0_f, xlt0_f, x0lt_t, x0lt_f, x0le_t, xeq0_t, xeq0_f, xin, xem_f, xme_f, xlem_f, xlm_f, xml_t, xmle_t, nI_clamp, nI_add, pk_mul, pk_sub, zI_s, zI_k, zI_o, zL_s, zL_k, zL_o, zR_s, zR_k, zR_o, zIL, zIR, zIN, zLI, zLR, zLN, zRI, zRL, zRN, true_and, and_true, not_true_eq_false, not_false_eq_true, true_implies, false_implies, implies_true, forall_const, if_true, if_false, eq_self, false_and, and_false, implies_true, nI_l, ylle_t, ylle_f, xcl_t, xcl_f, show h.1 97 0 = nI S0 from z]
        exact new 98 rfl
  | true =>
    rw [show bI true = nI 1 from rfl] at new ⊢
    rcases id m1 with z | ⟨S0, hS0, z, K0⟩
    · simp (disch := omega) only [xle_t, xle_f, xlt_t, xlt_f, xeq_t, xeq_f, xle0_t, xle0_f, xlt0_f, x0lt_t, x0lt_f, x0le_t, xeq0_t, xeq0_f, xin, xem_f, xme_f, xlem_f, xlm_f, xml_t, xmle_t, nI_clamp, nI_add, pk_mul, pk_sub, zI_s, zI_k, zI_o, zL_s, zL_k, zL_o, zR_s, zR_k, zR_o, zIL, zIR, zIN, zLI, zLR, zLN, zRI, zRL, zRN, true_and, and_true, not_true_eq_false, not_false_eq_true, true_implies, false_implies, implies_true, forall_const, if_true, if_false, eq_self, false_and, and_false, implies_true, nI_l, ylle_t, ylle_f, xcl_t, xcl_f, show h.1 99 0 = nI 0 from z]
      exact new 100 rfl
    · have s01 := hS0.2.1
      by_cases e : S0 = S
      · rw [e] at z K0
        simp (disch := omega) only [xle_t, xle_f, xlt_t, xlt_f, xeq_t, xeq_f, xle0_t, xle0_f, xlt0_f, x0lt_t, x0lt_f, x0le_t, xeq0_t, xeq0_f, xin, xem_f, xme_f, xlem_f, xlm_f, xml_t, xmle_t, nI_clamp, nI_add, pk_mul, pk_sub, zI_s, zI_k, zI_o, zL_s, zL_k, zL_o, zR_s, zR_k, zR_o, zIL, zIR, zIN, zLI, zLR, zLN, zRI, zRL, zRN, true_and, and_true, not_true_eq_false, not_false_eq_true, true_implies, false_implies, implies_true, forall_const, if_true, if_false, eq_self, false_and, and_false, implies_true, nI_l, ylle_t, ylle_f, xcl_t, xcl_f, show h.1 99 0 = nI S from z]
        exact kk h hr zF.rfl m0 m1 (zo hr (by decide) rfl) K0
      · simp (disch := omega) only [xle_t, xle_f, xlt_t, xlt_f, xeq_t, xeq_f, xle0_t, xle0_f, xlt0_f, x0lt_t, x0lt_f, x0le_t, xeq0_t, xeq0_f, xin, xem_f, xme_f, xlem_f, xlm_f, xml_t, xmle_t, nI_clamp, nI_add, pk_mul, pk_sub, zI_s, zI_k, zI_o, zL_s, zL_k, zL_o, zR_s, zR_k, zR_o, zIL, zIR, zIN, zLI, zLR, zLN, zRI, zRL, zRN, true_and, and_true, not_true_eq_false, not_false_eq_true, true_implies, false_implies, implies_true, forall_const, if_true, if_false, eq_self, false_and, and_false, implies_true, nI_l, ylle_t, ylle_f, xcl_t, xcl_f, show h.1 99 0 = nI S0 from z]
        exact new 100 rfl
theorem n_all {C : CE} {S : Nat} (hr : zRf h) (hA : cIn C (h.1 112) 0) (hC : cOK C) (hS : wSet C S) (hd : 9 ≤ d) (kk : ∀ h', zRf h' → mY h h' → h'.1 111 38 = nI (wN S 8) → (∀ c, c < wN S 8 → h'.1 128 c = nI (wX0 C S 8 c)) → mTb (wTm C S out) (h'.1 132) → Q none h') : Con mX11_laysTimes d 0 0 [.inr (.inr 111), .inl (nI S), .inl (bI out)] h Q := by
  refine u_X11_laysTimes ?_
  have L : ∀ m i, i + m = 11600 → ∀ h', zRf h' → zF (fun a => a ≠ 132) h h' → (∀ j, j < i → h'.1 132 j = nI 0) → J mX11_laysTimes d 0 0 Q 0 0 2 [some (.inr (.inr 111)), some (.inl (nI S)), some (.inl (bI out)), some (.inl (nI i))] [] h' := by
    intro m
    induction m with
    | zero =>
      intro i hi h' r' f' g'
      refine u_X11_laysTimes_2 (d1' := d - 1) r' (by omega) ?_
      simp (disch := omega) only [xle_t, xle_f, xlt_t, xlt_f, xeq_t, xeq_f, xle0_t, xle0_f, xlt0_f, x0lt_t, x0lt_f, x0le_t, xeq0_t, xeq0_f, xin, xem_f, xme_f, xlem_f, xlm_f, xml_t, xmle_t, nI_clamp, nI_add, pk_mul, pk_sub, zI_s, zI_k, zI_o, zL_s, zL_k, zL_o, zR_s, zR_k, zR_o, zIL, zIR, zIN, zLI, zLR, zLN, zRI, zRL, zRN, true_and, and_true, not_true_eq_false, not_false_eq_true, true_implies, false_implies, implies_true, forall_const, if_true, if_false, eq_self, false_and, and_false, implies_true, nI_l, ylle_t, ylle_f, xcl_t, xcl_f]
      refine n_sk0 (S0 := fun _ => false) r' (by rw [f'.i (by omega)]; exact hA) hC hS (by omega) (fun t ht => ?_) (fun h1 r1 f1 e38 e128 K1 => ?_)
      · rw [g' (t / 32) (by omega)]
        exact b_0 _
      · refine u_X11_laysTimes_31 (kk h1 r1 (mY.trans ⟨f'.weak (fun a q => by omega), fun k hk => by rw [f'.i (by omega)]⟩ f1) e38 e128 (fun t ht => ?_))
        rw [K1 t ht, nU_any, Bool.false_or]
        rfl
    | succ m ih =>
      intro i hi h' r' f' g'
      refine u_X11_laysTimes_2 (d1' := d - 1) r' (by omega) ?_
      simp (disch := omega) only [xle_t, xle_f, xlt_t, xlt_f, xeq_t, xeq_f, xle0_t, xle0_f, xlt0_f, x0lt_t, x0lt_f, x0le_t, xeq0_t, xeq0_f, xin, xem_f, xme_f, xlem_f, xlm_f, xml_t, xmle_t, nI_clamp, nI_add, pk_mul, pk_sub, zI_s, zI_k, zI_o, zL_s, zL_k, zL_o, zR_s, zR_k, zR_o, zIL, zIR, zIN, zLI, zLR, zLN, zRI, zRL, zRN, true_and, and_true, not_true_eq_false, not_false_eq_true, true_implies, false_implies, implies_true, forall_const, if_true, if_false, eq_self, false_and, and_false, implies_true, nI_l, ylle_t, ylle_f, xcl_t, xcl_f]
      refine ih (i + 1) (by omega) _ r' (f'.trans (zF_I _ _ _ (by omega))) (fun j hj => ?_)
      by_cases y : j = i
      · rw [y, zI_s]
      · rw [zI_k _ _ _ y]
        exact g' j (by omega)
  exact L 11600 0 (by omega) h hr zF.rfl (fun j hj => by omega)
end OPS
