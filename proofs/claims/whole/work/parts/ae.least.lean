/-! ===== least ===== -/
def fLs (p : Nat → Bool) (N : Nat) : Nat → Nat → Option (Nat × Nat)
  | 0, _ => none
  | m + 1, z => match fFst (fun s => decide (wN s 8 = z) && p s) (N - 1) 1 with
    | some s => some (z, s)
    | none => fLs p N m (z + 1)
def gLs (o : Option (Nat × Nat)) (w : Nat) : Int32 := match o with
  | none => -(nI 1)
  | some (z, s) => if w = 0 then nI z else nI s
noncomputable def gLea (B : BK) (t : Int32) (out : Bool) (w : Int32) : Int32 := gC 2 w (fun w => gT1 t (fun T => gLs (fLs (fun S => wTm B.1 S out T) (2 ^ B.1.1) 4 1) w))
theorem mK_t {h h' : MH} {v : Int32} (f : mY (zsI h 111 39 v) h') : mK h h' := mK.trans ⟨zF_I _ _ _ (by omega), zI_k _ _ _ (by decide), zI_k _ _ _ (by decide), zI_k _ _ _ (by decide), zI_k _ _ _ (by decide)⟩ f.k
section OPS
variable {B : BK} {out : Bool} {h : MH} {d : Nat} {Q : Option MV → MH → Prop}
theorem bAt.y {h' : MH} {w : Nat} (q : bAt B h 15) (f : cY w h h') (hw : 61 < w) : bAt B h' 15 := q.keep (fun k hk => f.i ⟨by omega, by omega⟩)
theorem o_lea {x w : Int32} (hr : zRf h) (hA : bAt B h 15) (hB : bOK B) (m0 : wMk B.1 false 98 h) (m1 : wMk B.1 true 100 h) (hd : 27 ≤ d) (kk : ∀ h', zRf h' → cY 62 h h' → Q (some (.inl (gLea B x out w))) h') : Con mX10_least d 0 0 [.inr (.inr 1), .inl x, .inl (bI out), .inl w] h Q := by
  unfold gLea at kk
  have hC := hB.1
  have b8 := p2_8 hC.1
  have n8 := hC.1
  have p0 := Nat.two_pow_pos B.1.1
  refine u_X10_least ?_
  rcases ix3 w (n := 2) (by omega) with ⟨z, x1, _⟩ | ⟨z, x1, _, _, _, _, x3, _⟩ | ⟨w, hw, rfl, z⟩
  · rw [gC_none z] at kk
    simp (disch := omega) only [xle_t, xle_f, xlt_t, xlt_f, xeq_t, xeq_f, xle0_t, xle0_f, xlt0_f, x0lt_t, x0lt_f, x0le_t, xeq0_t, xeq0_f, xin, xem_f, xme_f, xlem_f, xlm_f, xml_t, xmle_t, nI_clamp, nI_add, pk_mul, pk_sub, zI_s, zI_k, zI_o, zL_s, zL_k, zL_o, zR_s, zR_k, zR_o, zIL, zIR, zIN, zLI, zLR, zLN, zRI, zRL, zRN, true_and, and_true, not_true_eq_false, not_false_eq_true, true_implies, false_implies, implies_true, forall_const, if_true, if_false, eq_self, false_and, and_false, implies_true, nI_l, ylle_t, ylle_f, xcl_t, xcl_f, x1]
    exact kk h hr zF.rfl
  · rw [gC_none z] at kk
    simp (disch := omega) only [xle_t, xle_f, xlt_t, xlt_f, xeq_t, xeq_f, xle0_t, xle0_f, xlt0_f, x0lt_t, x0lt_f, x0le_t, xeq0_t, xeq0_f, xin, xem_f, xme_f, xlem_f, xlm_f, xml_t, xmle_t, nI_clamp, nI_add, pk_mul, pk_sub, zI_s, zI_k, zI_o, zL_s, zL_k, zL_o, zR_s, zR_k, zR_o, zIL, zIR, zIN, zLI, zLR, zLN, zRI, zRL, zRN, true_and, and_true, not_true_eq_false, not_false_eq_true, true_implies, false_implies, implies_true, forall_const, if_true, if_false, eq_self, false_and, and_false, implies_true, nI_l, ylle_t, ylle_f, xcl_t, xcl_f, x1, x3 1 rfl]
    exact kk h hr zF.rfl
  rw [gC_some hw (by omega)] at kk
  rcases pos_c x with t0 | ⟨T, t0, t1, rfl⟩
  · rw [gT1_0 t0] at kk
    simp (disch := omega) only [xle_t, xle_f, xlt_t, xlt_f, xeq_t, xeq_f, xle0_t, xle0_f, xlt0_f, x0lt_t, x0lt_f, x0le_t, xeq0_t, xeq0_f, xin, xem_f, xme_f, xlem_f, xlm_f, xml_t, xmle_t, nI_clamp, nI_add, pk_mul, pk_sub, zI_s, zI_k, zI_o, zL_s, zL_k, zL_o, zR_s, zR_k, zR_o, zIL, zIR, zIN, zLI, zLR, zLN, zRI, zRL, zRN, true_and, and_true, not_true_eq_false, not_false_eq_true, true_implies, false_implies, implies_true, forall_const, if_true, if_false, eq_self, false_and, and_false, implies_true, nI_l, ylle_t, ylle_f, xcl_t, xcl_f, t0]
    exact kk h hr zF.rfl
  rw [gT1_1 t0 t1] at kk
  simp (disch := omega) only [xle_t, xle_f, xlt_t, xlt_f, xeq_t, xeq_f, xle0_t, xle0_f, xlt0_f, x0lt_t, x0lt_f, x0le_t, xeq0_t, xeq0_f, xin, xem_f, xme_f, xlem_f, xlm_f, xml_t, xmle_t, nI_clamp, nI_add, pk_mul, pk_sub, zI_s, zI_k, zI_o, zL_s, zL_k, zL_o, zR_s, zR_k, zR_o, zIL, zIR, zIN, zLI, zLR, zLN, zRI, zRL, zRN, true_and, and_true, not_true_eq_false, not_false_eq_true, true_implies, false_implies, implies_true, forall_const, if_true, if_false, eq_self, false_and, and_false, implies_true, nI_l, ylle_t, ylle_f, xcl_t, xcl_f]
  have L : ∀ m z, z + m = 5 → ∀ h', zRf h' → cY 62 h h' → (∀ h'', zRf h'' → cY 62 h h'' → Q (some (.inl (gLs (fLs (fun S => wTm B.1 S out T) (2 ^ B.1.1) m z) w))) h'') → ∀ u, J mX10_least d 0 0 Q 0 0 23 [some (.inr (.inr 1)), some (.inl (nI T)), some (.inl (bI out)), some (.inl (nI w)), some (.inl (nI z)), u] [] h' := by
    intro m
    induction m with
    | zero =>
      intro z hz h' r' f' kq u
      refine u_X10_least_23 ?_
      simp (disch := omega) only [xle_t, xle_f, xlt_t, xlt_f, xeq_t, xeq_f, xle0_t, xle0_f, xlt0_f, x0lt_t, x0lt_f, x0le_t, xeq0_t, xeq0_f, xin, xem_f, xme_f, xlem_f, xlm_f, xml_t, xmle_t, nI_clamp, nI_add, pk_mul, pk_sub, zI_s, zI_k, zI_o, zL_s, zL_k, zL_o, zR_s, zR_k, zR_o, zIL, zIR, zIN, zLI, zLR, zLN, zRI, zRL, zRN, true_and, and_true, not_true_eq_false, not_false_eq_true, true_implies, false_implies, implies_true, forall_const, if_true, if_false, eq_self, false_and, and_false, implies_true, nI_l, ylle_t, ylle_f, xcl_t, xcl_f]
      exact kq h' r' f'
    | succ m ih =>
      intro z hz h' r' f' kq u
      refine u_X10_least_23 ?_
      simp (disch := omega) only [xle_t, xle_f, xlt_t, xlt_f, xeq_t, xeq_f, xle0_t, xle0_f, xlt0_f, x0lt_t, x0lt_f, x0le_t, xeq0_t, xeq0_f, xin, xem_f, xme_f, xlem_f, xlm_f, xml_t, xmle_t, nI_clamp, nI_add, pk_mul, pk_sub, zI_s, zI_k, zI_o, zL_s, zL_k, zL_o, zR_s, zR_k, zR_o, zIL, zIR, zIN, zLI, zLR, zLN, zRI, zRL, zRN, true_and, and_true, not_true_eq_false, not_false_eq_true, true_implies, false_implies, implies_true, forall_const, if_true, if_false, eq_self, false_and, and_false, implies_true, nI_l, ylle_t, ylle_f, xcl_t, xcl_f]
      have L2 : ∀ m' s, s + m' = 2 ^ B.1.1 → 1 ≤ s → ∀ h', zRf h' → cY 62 h h' → (∀ h'', zRf h'' → cY 62 h h'' → Q (some (.inl (gLs (match fFst (fun s => decide (wN s 8 = z) && wTm B.1 s out T) m' s with
          | some s => some (z, s)
          | none => fLs (fun S => wTm B.1 S out T) (2 ^ B.1.1) m (z + 1)) w))) h'') → J mX10_least d 0 0 Q 0 0 32 [some (.inr (.inr 1)), some (.inl (nI T)), some (.inl (bI out)), some (.inl (nI w)), some (.inl (nI z)), some (.inl (nI s))] [] h' := by
        intro m'
        induction m' with
        | zero =>
          intro s hs s1 h' r' f' kq
          have hA' := hA.y f' (by omega)
          have es : nI 1 <<< (nI B.1.1 &&& 31) = nI (2 ^ B.1.1) := by rw [pk_shlN _ B.1.1 (s_l B.1.1 (by omega)) (by omega), Nat.one_mul]
          refine u_X10_least_32 (d1' := d - 1) r' (by omega) ?_
          rw [hA'.c16.1, es]
          simp (disch := omega) only [xle_t, xle_f, xlt_t, xlt_f, xeq_t, xeq_f, xle0_t, xle0_f, xlt0_f, x0lt_t, x0lt_f, x0le_t, xeq0_t, xeq0_f, xin, xem_f, xme_f, xlem_f, xlm_f, xml_t, xmle_t, nI_clamp, nI_add, pk_mul, pk_sub, zI_s, zI_k, zI_o, zL_s, zL_k, zL_o, zR_s, zR_k, zR_o, zIL, zIR, zIN, zLI, zLR, zLN, zRI, zRL, zRN, true_and, and_true, not_true_eq_false, not_false_eq_true, true_implies, false_implies, implies_true, forall_const, if_true, if_false, eq_self, false_and, and_false, implies_true, nI_l, ylle_t, ylle_f, xcl_t, xcl_f]
          exact ih (z + 1) (by omega) h' r' f' kq _
        | succ m' ih2 =>
          intro s hs s1 h' r' f' kq
          have hA' := hA.y f' (by omega)
          have es : nI 1 <<< (nI B.1.1 &&& 31) = nI (2 ^ B.1.1) := by rw [pk_shlN _ B.1.1 (s_l B.1.1 (by omega)) (by omega), Nat.one_mul]
          have nb : wN s 8 ≤ 8 := fb_ct_le _ _
          have st : fFst (fun s => decide (wN s 8 = z) && wTm B.1 s out T) (m' + 1) s = if (decide (wN s 8 = z) && wTm B.1 s out T) = true then some s else fFst (fun s => decide (wN s 8 = z) && wTm B.1 s out T) m' (s + 1) := rfl
          rw [st] at kq
          refine u_X10_least_32 (d1' := d - 1) r' (by omega) ?_
          rw [hA'.c16.1, es]
          simp (disch := omega) only [xle_t, xle_f, xlt_t, xlt_f, xeq_t, xeq_f, xle0_t, xle0_f, xlt0_f, x0lt_t, x0lt_f, x0le_t, xeq0_t, xeq0_f, xin, xem_f, xme_f, xlem_f, xlm_f, xml_t, xmle_t, nI_clamp, nI_add, pk_mul, pk_sub, zI_s, zI_k, zI_o, zL_s, zL_k, zL_o, zR_s, zR_k, zR_o, zIL, zIR, zIN, zLI, zLR, zLN, zRI, zRL, zRN, true_and, and_true, not_true_eq_false, not_false_eq_true, true_implies, false_implies, implies_true, forall_const, if_true, if_false, eq_self, false_and, and_false, implies_true, nI_l, ylle_t, ylle_f, xcl_t, xcl_f]
          refine c_bit6 (by omega) ?_
          refine u_X10_least_54 (d1' := d - 1) r' (by omega) ?_
          by_cases c1 : wN s 8 = z
          · simp (disch := omega) only [xle_t, xle_f, xlt_t, xlt_f, xeq_t, xeq_f, xle0_t, xle0_f, xlt0_f, x0lt_t, x0lt_f, x0le_t, xeq0_t, xeq0_f, xin, xem_f, xme_f, xlem_f, xlm_f, xml_t, xmle_t, nI_clamp, nI_add, pk_mul, pk_sub, zI_s, zI_k, zI_o, zL_s, zL_k, zL_o, zR_s, zR_k, zR_o, zIL, zIR, zIN, zLI, zLR, zLN, zRI, zRL, zRN, true_and, and_true, not_true_eq_false, not_false_eq_true, true_implies, false_implies, implies_true, forall_const, if_true, if_false, eq_self, false_and, and_false, implies_true, nI_l, ylle_t, ylle_f, xcl_t, xcl_f]
            have hS : wSet B.1 s := ⟨s1, by omega, by omega⟩
            refine c_tld r' hA' hB hS t0 t1 (m0.keep (f'.i ⟨by omega, by omega⟩) (f'.l ⟨by omega, by omega⟩)) (m1.keep (f'.i ⟨by omega, by omega⟩) (f'.l ⟨by omega, by omega⟩)) (by omega) (fun h2 r2 f2 => ?_)
            refine u_X10_least_67 ?_
            rw [decide_eq_true c1, Bool.true_and] at kq
            cases ht : wTm B.1 s out T with
            | true =>
              rw [ht, if_pos rfl] at kq
              rw [show bI true = nI 1 from rfl]
              have fin := kq h2 r2 (f'.trans f2)
              have fin' : Q (some (.inl (if w = 0 then nI z else nI s))) h2 := fin
              by_cases w0 : w = 0
              · rw [if_pos w0] at fin'
                simp (disch := omega) only [xle_t, xle_f, xlt_t, xlt_f, xeq_t, xeq_f, xle0_t, xle0_f, xlt0_f, x0lt_t, x0lt_f, x0le_t, xeq0_t, xeq0_f, xin, xem_f, xme_f, xlem_f, xlm_f, xml_t, xmle_t, nI_clamp, nI_add, pk_mul, pk_sub, zI_s, zI_k, zI_o, zL_s, zL_k, zL_o, zR_s, zR_k, zR_o, zIL, zIR, zIN, zLI, zLR, zLN, zRI, zRL, zRN, true_and, and_true, not_true_eq_false, not_false_eq_true, true_implies, false_implies, implies_true, forall_const, if_true, if_false, eq_self, false_and, and_false, implies_true, nI_l, ylle_t, ylle_f, xcl_t, xcl_f]
                exact fin'
              · rw [if_neg w0] at fin'
                simp (disch := omega) only [xle_t, xle_f, xlt_t, xlt_f, xeq_t, xeq_f, xle0_t, xle0_f, xlt0_f, x0lt_t, x0lt_f, x0le_t, xeq0_t, xeq0_f, xin, xem_f, xme_f, xlem_f, xlm_f, xml_t, xmle_t, nI_clamp, nI_add, pk_mul, pk_sub, zI_s, zI_k, zI_o, zL_s, zL_k, zL_o, zR_s, zR_k, zR_o, zIL, zIR, zIN, zLI, zLR, zLN, zRI, zRL, zRN, true_and, and_true, not_true_eq_false, not_false_eq_true, true_implies, false_implies, implies_true, forall_const, if_true, if_false, eq_self, false_and, and_false, implies_true, nI_l, ylle_t, ylle_f, xcl_t, xcl_f]
                exact fin'
            | false =>
              rw [ht, if_neg (show ¬ (false = true) by decide)] at kq
              rw [show bI false = nI 0 from rfl]
              simp (disch := omega) only [xle_t, xle_f, xlt_t, xlt_f, xeq_t, xeq_f, xle0_t, xle0_f, xlt0_f, x0lt_t, x0lt_f, x0le_t, xeq0_t, xeq0_f, xin, xem_f, xme_f, xlem_f, xlm_f, xml_t, xmle_t, nI_clamp, nI_add, pk_mul, pk_sub, zI_s, zI_k, zI_o, zL_s, zL_k, zL_o, zR_s, zR_k, zR_o, zIL, zIR, zIN, zLI, zLR, zLN, zRI, zRL, zRN, true_and, and_true, not_true_eq_false, not_false_eq_true, true_implies, false_implies, implies_true, forall_const, if_true, if_false, eq_self, false_and, and_false, implies_true, nI_l, ylle_t, ylle_f, xcl_t, xcl_f]
              exact ih2 (s + 1) (by omega) (by omega) h2 r2 (f'.trans f2) kq
          · rw [decide_eq_false c1, Bool.false_and, if_neg (show ¬ (false = true) by decide)] at kq
            simp (disch := omega) only [xle_t, xle_f, xlt_t, xlt_f, xeq_t, xeq_f, xle0_t, xle0_f, xlt0_f, x0lt_t, x0lt_f, x0le_t, xeq0_t, xeq0_f, xin, xem_f, xme_f, xlem_f, xlm_f, xml_t, xmle_t, nI_clamp, nI_add, pk_mul, pk_sub, zI_s, zI_k, zI_o, zL_s, zL_k, zL_o, zR_s, zR_k, zR_o, zIL, zIR, zIN, zLI, zLR, zLN, zRI, zRL, zRN, true_and, and_true, not_true_eq_false, not_false_eq_true, true_implies, false_implies, implies_true, forall_const, if_true, if_false, eq_self, false_and, and_false, implies_true, nI_l, ylle_t, ylle_f, xcl_t, xcl_f]
            exact ih2 (s + 1) (by omega) (by omega) h' r' f' kq
      exact L2 (2 ^ B.1.1 - 1) 1 (by omega) (by omega) h' r' f' kq
  exact L 4 1 (by omega) h hr zF.rfl kk _
theorem n_lea {x w : Int32} (hr : zRf h) (hA : bIn B (h.1 112) 0) (hB : bOK B) (hd : 12 ≤ d) (kk : ∀ h', zRf h' → mK h h' → Q (some (.inl (gLea B x out w))) h') : Con mX11_least d 0 0 [.inr (.inr 111), .inl x, .inl (bI out), .inl w] h Q := by
  unfold gLea at kk
  have hC := hB.1
  have b8 := p2_8 hC.1
  have n8 := hC.1
  have p0 := Nat.two_pow_pos B.1.1
  refine u_X11_least hr (by omega) ?_
  rcases ix3 w (n := 2) (by omega) with ⟨z, _, x1⟩ | ⟨z, _, _, x1, _, x2, _⟩ | ⟨w, hw, rfl, z⟩
  · rw [gC_none z] at kk
    simp (disch := omega) only [xle_t, xle_f, xlt_t, xlt_f, xeq_t, xeq_f, xle0_t, xle0_f, xlt0_f, x0lt_t, x0lt_f, x0le_t, xeq0_t, xeq0_f, xin, xem_f, xme_f, xlem_f, xlm_f, xml_t, xmle_t, nI_clamp, nI_add, pk_mul, pk_sub, zI_s, zI_k, zI_o, zL_s, zL_k, zL_o, zR_s, zR_k, zR_o, zIL, zIR, zIN, zLI, zLR, zLN, zRI, zRL, zRN, true_and, and_true, not_true_eq_false, not_false_eq_true, true_implies, false_implies, implies_true, forall_const, if_true, if_false, eq_self, false_and, and_false, implies_true, nI_l, ylle_t, ylle_f, xcl_t, xcl_f, x1]
    exact kk _ hr (mK_0 h)
  · rw [gC_none z] at kk
    simp (disch := omega) only [xle_t, xle_f, xlt_t, xlt_f, xeq_t, xeq_f, xle0_t, xle0_f, xlt0_f, x0lt_t, x0lt_f, x0le_t, xeq0_t, xeq0_f, xin, xem_f, xme_f, xlem_f, xlm_f, xml_t, xmle_t, nI_clamp, nI_add, pk_mul, pk_sub, zI_s, zI_k, zI_o, zL_s, zL_k, zL_o, zR_s, zR_k, zR_o, zIL, zIR, zIN, zLI, zLR, zLN, zRI, zRL, zRN, true_and, and_true, not_true_eq_false, not_false_eq_true, true_implies, false_implies, implies_true, forall_const, if_true, if_false, eq_self, false_and, and_false, implies_true, nI_l, ylle_t, ylle_f, xcl_t, xcl_f, x1, x2 1 rfl]
    exact kk _ hr (mK_0 h)
  rw [gC_some hw (by omega)] at kk
  rcases pos_c x with t0 | ⟨T, t0, t1, rfl⟩
  · rw [gT1_0 t0] at kk
    simp (disch := omega) only [xle_t, xle_f, xlt_t, xlt_f, xeq_t, xeq_f, xle0_t, xle0_f, xlt0_f, x0lt_t, x0lt_f, x0le_t, xeq0_t, xeq0_f, xin, xem_f, xme_f, xlem_f, xlm_f, xml_t, xmle_t, nI_clamp, nI_add, pk_mul, pk_sub, zI_s, zI_k, zI_o, zL_s, zL_k, zL_o, zR_s, zR_k, zR_o, zIL, zIR, zIN, zLI, zLR, zLN, zRI, zRL, zRN, true_and, and_true, not_true_eq_false, not_false_eq_true, true_implies, false_implies, implies_true, forall_const, if_true, if_false, eq_self, false_and, and_false, implies_true, nI_l, ylle_t, ylle_f, xcl_t, xcl_f, t0]
    exact kk _ hr (mK_0 h)
  rw [gT1_1 t0 t1] at kk
  simp (disch := omega) only [xle_t, xle_f, xlt_t, xlt_f, xeq_t, xeq_f, xle0_t, xle0_f, xlt0_f, x0lt_t, x0lt_f, x0le_t, xeq0_t, xeq0_f, xin, xem_f, xme_f, xlem_f, xlm_f, xml_t, xmle_t, nI_clamp, nI_add, pk_mul, pk_sub, zI_s, zI_k, zI_o, zL_s, zL_k, zL_o, zR_s, zR_k, zR_o, zIL, zIR, zIN, zLI, zLR, zLN, zRI, zRL, zRN, true_and, and_true, not_true_eq_false, not_false_eq_true, true_implies, false_implies, implies_true, forall_const, if_true, if_false, eq_self, false_and, and_false, implies_true, nI_l, ylle_t, ylle_f, xcl_t, xcl_f]
  have L : ∀ m z, z + m = 5 → ∀ h', zRf h' → mK h h' → (∀ h'', zRf h'' → mK h h'' → Q (some (.inl (gLs (fLs (fun S => wTm B.1 S out T) (2 ^ B.1.1) m z) w))) h'') → ∀ u, J mX11_least d 0 0 Q 0 0 29 [some (.inr (.inr 111)), some (.inl (nI T)), some (.inl (bI out)), some (.inl (nI w)), some (.inl (nI z)), u] [] h' := by
    intro m
    induction m with
    | zero =>
      intro z hz h' r' f' kq u
      refine u_X11_least_29 ?_
      simp (disch := omega) only [xle_t, xle_f, xlt_t, xlt_f, xeq_t, xeq_f, xle0_t, xle0_f, xlt0_f, x0lt_t, x0lt_f, x0le_t, xeq0_t, xeq0_f, xin, xem_f, xme_f, xlem_f, xlm_f, xml_t, xmle_t, nI_clamp, nI_add, pk_mul, pk_sub, zI_s, zI_k, zI_o, zL_s, zL_k, zL_o, zR_s, zR_k, zR_o, zIL, zIR, zIN, zLI, zLR, zLN, zRI, zRL, zRN, true_and, and_true, not_true_eq_false, not_false_eq_true, true_implies, false_implies, implies_true, forall_const, if_true, if_false, eq_self, false_and, and_false, implies_true, nI_l, ylle_t, ylle_f, xcl_t, xcl_f]
      exact kq h' r' f'
    | succ m ih =>
      intro z hz h' r' f' kq u
      refine u_X11_least_29 ?_
      simp (disch := omega) only [xle_t, xle_f, xlt_t, xlt_f, xeq_t, xeq_f, xle0_t, xle0_f, xlt0_f, x0lt_t, x0lt_f, x0le_t, xeq0_t, xeq0_f, xin, xem_f, xme_f, xlem_f, xlm_f, xml_t, xmle_t, nI_clamp, nI_add, pk_mul, pk_sub, zI_s, zI_k, zI_o, zL_s, zL_k, zL_o, zR_s, zR_k, zR_o, zIL, zIR, zIN, zLI, zLR, zLN, zRI, zRL, zRN, true_and, and_true, not_true_eq_false, not_false_eq_true, true_implies, false_implies, implies_true, forall_const, if_true, if_false, eq_self, false_and, and_false, implies_true, nI_l, ylle_t, ylle_f, xcl_t, xcl_f]
      have L2 : ∀ m' s, s + m' = 2 ^ B.1.1 → 1 ≤ s → ∀ h', zRf h' → mK h h' → (∀ h'', zRf h'' → mK h h'' → Q (some (.inl (gLs (match fFst (fun s => decide (wN s 8 = z) && wTm B.1 s out T) m' s with
          | some s => some (z, s)
          | none => fLs (fun S => wTm B.1 S out T) (2 ^ B.1.1) m (z + 1)) w))) h'') → J mX11_least d 0 0 Q 0 0 38 [some (.inr (.inr 111)), some (.inl (nI T)), some (.inl (bI out)), some (.inl (nI w)), some (.inl (nI z)), some (.inl (nI s))] [] h' := by
        intro m'
        induction m' with
        | zero =>
          intro s hs s1 h' r' f' kq
          have hA' : cIn B.1 (h'.1 112) 0 := by rw [f'.1.i (by omega)]; exact hA.1
          have e0 : h'.1 112 0 = nI B.1.1 := hA'.1
          have es : nI 1 <<< (nI B.1.1 &&& 31) = nI (2 ^ B.1.1) := by rw [pk_shlN _ B.1.1 (s_l B.1.1 (by omega)) (by omega), Nat.one_mul]
          refine u_X11_least_38 (d1' := d - 1) r' (by omega) ?_
          rw [e0, es]
          simp (disch := omega) only [xle_t, xle_f, xlt_t, xlt_f, xeq_t, xeq_f, xle0_t, xle0_f, xlt0_f, x0lt_t, x0lt_f, x0le_t, xeq0_t, xeq0_f, xin, xem_f, xme_f, xlem_f, xlm_f, xml_t, xmle_t, nI_clamp, nI_add, pk_mul, pk_sub, zI_s, zI_k, zI_o, zL_s, zL_k, zL_o, zR_s, zR_k, zR_o, zIL, zIR, zIN, zLI, zLR, zLN, zRI, zRL, zRN, true_and, and_true, not_true_eq_false, not_false_eq_true, true_implies, false_implies, implies_true, forall_const, if_true, if_false, eq_self, false_and, and_false, implies_true, nI_l, ylle_t, ylle_f, xcl_t, xcl_f]
          exact ih (z + 1) (by omega) h' r' f' kq _
        | succ m' ih2 =>
          intro s hs s1 h' r' f' kq
          have hA' : cIn B.1 (h'.1 112) 0 := by rw [f'.1.i (by omega)]; exact hA.1
          have e0 : h'.1 112 0 = nI B.1.1 := hA'.1
          have es : nI 1 <<< (nI B.1.1 &&& 31) = nI (2 ^ B.1.1) := by rw [pk_shlN _ B.1.1 (s_l B.1.1 (by omega)) (by omega), Nat.one_mul]
          have nb : wN s 8 ≤ 8 := fb_ct_le _ _
          have st : fFst (fun s => decide (wN s 8 = z) && wTm B.1 s out T) (m' + 1) s = if (decide (wN s 8 = z) && wTm B.1 s out T) = true then some s else fFst (fun s => decide (wN s 8 = z) && wTm B.1 s out T) m' (s + 1) := rfl
          rw [st] at kq
          refine u_X11_least_38 (d1' := d - 1) r' (by omega) ?_
          rw [e0, es]
          simp (disch := omega) only [xle_t, xle_f, xlt_t, xlt_f, xeq_t, xeq_f, xle0_t, xle0_f, xlt0_f, x0lt_t, x0lt_f, x0le_t, xeq0_t, xeq0_f, xin, xem_f, xme_f, xlem_f, xlm_f, xml_t, xmle_t, nI_clamp, nI_add, pk_mul, pk_sub, zI_s, zI_k, zI_o, zL_s, zL_k, zL_o, zR_s, zR_k, zR_o, zIL, zIR, zIN, zLI, zLR, zLN, zRI, zRL, zRN, true_and, and_true, not_true_eq_false, not_false_eq_true, true_implies, false_implies, implies_true, forall_const, if_true, if_false, eq_self, false_and, and_false, implies_true, nI_l, ylle_t, ylle_f, xcl_t, xcl_f]
          refine n_bts ?_
          rw [btN_n (by omega)]
          refine u_X11_least_56 (d1' := d - 1) r' (by omega) ?_
          by_cases c1 : wN s 8 = z
          · simp (disch := omega) only [xle_t, xle_f, xlt_t, xlt_f, xeq_t, xeq_f, xle0_t, xle0_f, xlt0_f, x0lt_t, x0lt_f, x0le_t, xeq0_t, xeq0_f, xin, xem_f, xme_f, xlem_f, xlm_f, xml_t, xmle_t, nI_clamp, nI_add, pk_mul, pk_sub, zI_s, zI_k, zI_o, zL_s, zL_k, zL_o, zR_s, zR_k, zR_o, zIL, zIR, zIN, zLI, zLR, zLN, zRI, zRL, zRN, true_and, and_true, not_true_eq_false, not_false_eq_true, true_implies, false_implies, implies_true, forall_const, if_true, if_false, eq_self, false_and, and_false, implies_true, nI_l, ylle_t, ylle_f, xcl_t, xcl_f]
            have hS : wSet B.1 s := ⟨s1, by omega, by omega⟩
            refine n_tld r' hA' hC hS t1 (by omega) (fun h2 r2 f2 => ?_)
            refine u_X11_least_69 ?_
            rw [decide_eq_true c1, Bool.true_and] at kq
            cases ht : wTm B.1 s out T with
            | true =>
              rw [ht, if_pos rfl] at kq
              rw [show bI true = nI 1 from rfl]
              have fin := kq h2 r2 (f'.trans (mK_t f2))
              have fin' : Q (some (.inl (if w = 0 then nI z else nI s))) h2 := fin
              by_cases w0 : w = 0
              · rw [if_pos w0] at fin'
                simp (disch := omega) only [xle_t, xle_f, xlt_t, xlt_f, xeq_t, xeq_f, xle0_t, xle0_f, xlt0_f, x0lt_t, x0lt_f, x0le_t, xeq0_t, xeq0_f, xin, xem_f, xme_f, xlem_f, xlm_f, xml_t, xmle_t, nI_clamp, nI_add, pk_mul, pk_sub, zI_s, zI_k, zI_o, zL_s, zL_k, zL_o, zR_s, zR_k, zR_o, zIL, zIR, zIN, zLI, zLR, zLN, zRI, zRL, zRN, true_and, and_true, not_true_eq_false, not_false_eq_true, true_implies, false_implies, implies_true, forall_const, if_true, if_false, eq_self, false_and, and_false, implies_true, nI_l, ylle_t, ylle_f, xcl_t, xcl_f]
                exact fin'
              · rw [if_neg w0] at fin'
                simp (disch := omega) only [xle_t, xle_f, xlt_t, xlt_f, xeq_t, xeq_f, xle0_t, xle0_f, xlt0_f, x0lt_t, x0lt_f, x0le_t, xeq0_t, xeq0_f, xin, xem_f, xme_f, xlem_f, xlm_f, xml_t, xmle_t, nI_clamp, nI_add, pk_mul, pk_sub, zI_s, zI_k, zI_o, zL_s, zL_k, zL_o, zR_s, zR_k, zR_o, zIL, zIR, zIN, zLI, zLR, zLN, zRI, zRL, zRN, true_and, and_true, not_true_eq_false, not_false_eq_true, true_implies, false_implies, implies_true, forall_const, if_true, if_false, eq_self, false_and, and_false, implies_true, nI_l, ylle_t, ylle_f, xcl_t, xcl_f]
                exact fin'
            | false =>
              rw [ht, if_neg (show ¬ (false = true) by decide)] at kq
              rw [show bI false = nI 0 from rfl]
              simp (disch := omega) only [xle_t, xle_f, xlt_t, xlt_f, xeq_t, xeq_f, xle0_t, xle0_f, xlt0_f, x0lt_t, x0lt_f, x0le_t, xeq0_t, xeq0_f, xin, xem_f, xme_f, xlem_f, xlm_f, xml_t, xmle_t, nI_clamp, nI_add, pk_mul, pk_sub, zI_s, zI_k, zI_o, zL_s, zL_k, zL_o, zR_s, zR_k, zR_o, zIL, zIR, zIN, zLI, zLR, zLN, zRI, zRL, zRN, true_and, and_true, not_true_eq_false, not_false_eq_true, true_implies, false_implies, implies_true, forall_const, if_true, if_false, eq_self, false_and, and_false, implies_true, nI_l, ylle_t, ylle_f, xcl_t, xcl_f]
              exact ih2 (s + 1) (by omega) (by omega) h2 r2 (f'.trans (mK_t f2)) kq
          · rw [decide_eq_false c1, Bool.false_and, if_neg (show ¬ (false = true) by decide)] at kq
            simp (disch := omega) only [xle_t, xle_f, xlt_t, xlt_f, xeq_t, xeq_f, xle0_t, xle0_f, xlt0_f, x0lt_t, x0lt_f, x0le_t, xeq0_t, xeq0_f, xin, xem_f, xme_f, xlem_f, xlm_f, xml_t, xmle_t, nI_clamp, nI_add, pk_mul, pk_sub, zI_s, zI_k, zI_o, zL_s, zL_k, zL_o, zR_s, zR_k, zR_o, zIL, zIR, zIN, zLI, zLR, zLN, zRI, zRL, zRN, true_and, and_true, not_true_eq_false, not_false_eq_true, true_implies, false_implies, implies_true, forall_const, if_true, if_false, eq_self, false_and, and_false, implies_true, nI_l, ylle_t, ylle_f, xcl_t, xcl_f]
            exact ih2 (s + 1) (by omega) (by omega) h' r' f' kq
      exact L2 (2 ^ B.1.1 - 1) 1 (by omega) (by omega) h' r' f' kq
  exact L 4 1 (by omega) (zsI h 111 0 (nI 0)) hr (mK_0 h) kk _
end OPS
