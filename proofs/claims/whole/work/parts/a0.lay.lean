/-! ===== ways in the class: lay, onGrid ===== -/
theorem wN_end {C : CE} {S c : Nat} (hc : c ≤ 8) (h : ∀ i, c ≤ i → i < 8 → S.testBit i = false) : wN S 8 = wN S c ∧ wX0 C S 8 = wX0 C S c ∧ wG0 C S 8 = wG0 C S c := by
  have : ∀ m, c + m ≤ 8 → wN S (c + m) = wN S c ∧ wX0 C S (c + m) = wX0 C S c ∧ wG0 C S (c + m) = wG0 C S c := by
    intro m
    induction m with
    | zero => intro _; exact ⟨rfl, rfl, rfl⟩
    | succ m ih =>
      intro hm
      obtain ⟨e1, e2, e3⟩ := ih (by omega)
      have z := h (c + m) (by omega) (by omega)
      refine ⟨?_, ?_, ?_⟩
      · rw [← Nat.add_assoc, wN_s, z, e1]; rfl
      · rw [← e2]
        show (if S.testBit (c + m) = true then _ else _) = _
        rw [z, if_neg (by decide)]
        rfl
      · rw [← e3]
        show (if S.testBit (c + m) = true then _ else _) = _
        rw [z, if_neg (by decide)]
        rfl
  have := this (8 - c) (by omega)
  rw [show c + (8 - c) = 8 by omega] at this
  exact this
def wLc (C : CE) (S c : Nat) (out : Bool) (h : MH) : Prop := h.1 62 0 = nI (wN S c) ∧ h.1 62 1 = bI out ∧ h.1 62 2 = nI (fb_sm (wX0 C S c) (wN S c)) ∧ h.1 62 3 = nI (wG0 C S c) ∧ ∀ j, j < wN S c → h.1 66 j = nI (wX0 C S c j) ∧ h.1 72 j = nI 0
theorem bI_or (b : Bool) : bI b = 0 ∨ bI b = 1 := by cases b; exact Or.inl rfl; exact Or.inr rfl
theorem c_wly {C : CE} {S : Nat} {out : Bool} {h : MH} {d : Nat} {Q : Option MV → MH → Prop} (hr : zRf h) (hA : cAt C h 16) (hC : cOK C) (hS : wSet C S) (hd : 4 ≤ d) (kk : ∀ h', zRf h' → zF (fun a => a ≠ 62 ∧ a ≠ 66 ∧ a ≠ 72) h h' → (∀ k, 3 < k → h'.1 62 k = h.1 62 k) → h'.2.2.1 62 = h.2.2.1 62 → wLc C S 8 out h' → Q none h') : Con mX9_lay d 0 0 [.inr (.inr 62), .inr (.inr 16), .inl (nI S), .inl (bI out)] h Q := by
  have n8 := hC.1
  have S256 : S < 256 := Nat.lt_of_lt_of_le hS.2.1 (Nat.pow_le_pow_right (by decide) n8 : 2 ^ C.1 ≤ 2 ^ 8)
  have hn0 := hA.1
  refine u_X9_lay hr ⟨bI_or out, ?_⟩
  have L : ∀ m c, c + m = C.1 → ∀ h', zRf h' → zF (fun a => a ≠ 62 ∧ a ≠ 66 ∧ a ≠ 72) h h' → (∀ k, 3 < k → h'.1 62 k = h.1 62 k) → h'.2.2.1 62 = h.2.2.1 62 → wLc C S c out h' → J mX9_lay d 0 0 Q 0 0 23 [some (.inr (.inr 62)), some (.inr (.inr 16)), some (.inl (nI S)), some (.inl (bI out)), some (.inl (nI c))] [] h' := by
    intro m
    induction m with
    | zero =>
      intro c hc h' r' f' k' q' l'
      have e16 : h'.1 16 0 = nI C.1 := by rw [f'.i (by omega)]; exact hn0
      have z2 : zokO h' 16 2 := zo r' (by decide) rfl
      refine u_X9_lay_23 (d1' := 3) r' (by omega) ⟨z2, ?_⟩
      simp (disch := omega) only [xle_t, xle_f, xlt_t, xlt_f, xeq_t, xeq_f, xle0_t, xle0_f, xlt0_f, x0lt_t, x0lt_f, x0le_t, xeq0_t, xeq0_f, xin, xem_f, xme_f, xlem_f, xlm_f, xml_t, xmle_t, nI_clamp, nI_add, pk_mul, pk_sub, zI_s, zI_k, zI_o, zL_s, zL_k, zL_o, zR_s, zR_k, zR_o, zIL, zIR, zIN, zLI, zLR, zLN, zRI, zRL, zRN, true_and, and_true, not_true_eq_false, not_false_eq_true, true_implies, false_implies, implies_true, forall_const, if_true, if_false, eq_self, false_and, and_false, implies_true, nI_l, ylle_t, ylle_f, xcl_t, xcl_f, e16]
      obtain ⟨e1, e2, e3⟩ := wN_end (C := C) (S := S) (c := c) (by omega) (fun i q1 q2 => tb_hi hS.2.1 (by omega))
      refine kk h' r' f' k' q' ?_
      unfold wLc
      rw [e1, e2, e3]
      exact l'
    | succ m ih =>
      intro c hc h' r' f' k' q' l'
      have e16 : h'.1 16 0 = nI C.1 := by rw [f'.i (by omega)]; exact hn0
      have z2 : zokO h' 16 2 := zo r' (by decide) rfl
      obtain ⟨l0, l1, l2, l3, l4⟩ := id l'
      have hN : wN S c ≤ 4 := Nat.le_trans (wN_mono (by omega)) hS.2.2
      refine u_X9_lay_23 (d1' := 3) r' (by omega) ⟨z2, ?_⟩
      rcases Nat.lt_or_ge (wN S c) 4 with n4 | n4
      · by_cases tb : S.testBit c = true
        · have bb := xbtS (S := S) (c := c) (by omega) (by omega)
          rw [eq_false (show ¬ S.testBit c = false by rw [tb]; decide)] at bb
          simp (disch := omega) only [xle_t, xle_f, xlt_t, xlt_f, xeq_t, xeq_f, xle0_t, xle0_f, xlt0_f, x0lt_t, x0lt_f, x0le_t, xeq0_t, xeq0_f, xin, xem_f, xme_f, xlem_f, xlm_f, xml_t, xmle_t, nI_clamp, nI_add, pk_mul, pk_sub, zI_s, zI_k, zI_o, zL_s, zL_k, zL_o, zR_s, zR_k, zR_o, zIL, zIR, zIN, zLI, zLR, zLN, zRI, zRL, zRN, true_and, and_true, not_true_eq_false, not_false_eq_true, true_implies, false_implies, implies_true, forall_const, if_true, if_false, eq_self, false_and, and_false, implies_true, nI_l, ylle_t, ylle_f, xcl_t, xcl_f, e16, l0, bb]
          have hA' : cAt C h' 16 := by
            unfold cAt
            rw [f'.i (by omega), f'.i (a := 16 + 1) (by omega), f'.i (a := 16 + 2) (by omega), f'.i (a := 16 + 3) (by omega), f'.i (a := 16 + 4) (by omega)]
            exact hA
          refine c_sof r' hA' z2 hC (by omega) (by omega) ?_
          have cb := cS_b hC (show c < C.1 by omega)
          have bA : fb_sm (wX0 C S c) (wN S c) ≤ 4 * 92160 := Nat.le_trans (fb_sm_bound (fun k hk => (wX0_b hC hS.2.1 hk).2.2.1)) (Nat.mul_le_mul_right _ hN)
          have gb := (wG0_b hC hS.2.1 (c := c)).2.1
          refine u_X9_lay_65 (d1' := 3) r' (by omega) ?_
          simp (disch := omega) only [xle_t, xle_f, xlt_t, xlt_f, xeq_t, xeq_f, xle0_t, xle0_f, xlt0_f, x0lt_t, x0lt_f, x0le_t, xeq0_t, xeq0_f, xin, xem_f, xme_f, xlem_f, xlm_f, xml_t, xmle_t, nI_clamp, nI_add, pk_mul, pk_sub, zI_s, zI_k, zI_o, zL_s, zL_k, zL_o, zR_s, zR_k, zR_o, zIL, zIR, zIN, zLI, zLR, zLN, zRI, zRL, zRN, true_and, and_true, not_true_eq_false, not_false_eq_true, true_implies, false_implies, implies_true, forall_const, if_true, if_false, eq_self, false_and, and_false, implies_true, nI_l, ylle_t, ylle_f, xcl_t, xcl_f, l0, l2, l3, zok66 r' (i := 0), zok72 r' (i := 0), show ∀ i, zokA h' 66 20 i = zokA h' (66 + 0) 20 i from fun _ => rfl, show ∀ i, zokA h' 72 20 i = zokA h' (72 + 0) 20 i from fun _ => rfl]
          refine c_gcd (by omega) (by omega) ?_
          refine u_X9_lay_117 (zRf_I (zRf_I (zRf_I r' _ _ _) _ _ _) _ _ _) ?_
          simp (disch := omega) only [xle_t, xle_f, xlt_t, xlt_f, xeq_t, xeq_f, xle0_t, xle0_f, xlt0_f, x0lt_t, x0lt_f, x0le_t, xeq0_t, xeq0_f, xin, xem_f, xme_f, xlem_f, xlm_f, xml_t, xmle_t, nI_clamp, nI_add, pk_mul, pk_sub, zI_s, zI_k, zI_o, zL_s, zL_k, zL_o, zR_s, zR_k, zR_o, zIL, zIR, zIN, zLI, zLR, zLN, zRI, zRL, zRN, true_and, and_true, not_true_eq_false, not_false_eq_true, true_implies, false_implies, implies_true, forall_const, if_true, if_false, eq_self, false_and, and_false, implies_true, nI_l, ylle_t, ylle_f, xcl_t, xcl_f, l0]
          have xs : wX0 C S (c + 1) = kU (wX0 C S c) (wN S c) (cS C c) := if_pos tb
          have ns : wN S (c + 1) = wN S c + 1 := by rw [wN_s, if_pos tb]
          refine ih (c + 1) (by omega) _ r' ?_ (fun k hk => ?_) q' ⟨?_, ?_, ?_, ?_, fun j hj => ?_⟩
          · exact ((((f'.trans (zF_I _ _ _ (by omega))).trans (zF_I _ _ _ (by omega))).trans (zF_I _ _ _ (by omega))).trans (zF_I _ _ _ (by omega))).trans (zF_I _ _ _ (by omega))
          · rw [zI_k _ _ _ (by omega), zI_k _ _ _ (by omega), zI_k _ _ _ (by omega), zI_o _ _ _ (by omega), zI_o _ _ _ (by omega)]
            exact k' k hk
          · rw [zI_s, ns]
          · simp (disch := omega) only [xle_t, xle_f, xlt_t, xlt_f, xeq_t, xeq_f, xle0_t, xle0_f, xlt0_f, x0lt_t, x0lt_f, x0le_t, xeq0_t, xeq0_f, xin, xem_f, xme_f, xlem_f, xlm_f, xml_t, xmle_t, nI_clamp, nI_add, pk_mul, pk_sub, zI_s, zI_k, zI_o, zL_s, zL_k, zL_o, zR_s, zR_k, zR_o, zIL, zIR, zIN, zLI, zLR, zLN, zRI, zRL, zRN, true_and, and_true, not_true_eq_false, not_false_eq_true, true_implies, false_implies, implies_true, forall_const, if_true, if_false, eq_self, false_and, and_false, implies_true, nI_l, ylle_t, ylle_f, xcl_t, xcl_f, l1]
          · simp (disch := omega) only [xle_t, xle_f, xlt_t, xlt_f, xeq_t, xeq_f, xle0_t, xle0_f, xlt0_f, x0lt_t, x0lt_f, x0le_t, xeq0_t, xeq0_f, xin, xem_f, xme_f, xlem_f, xlm_f, xml_t, xmle_t, nI_clamp, nI_add, pk_mul, pk_sub, zI_s, zI_k, zI_o, zL_s, zL_k, zL_o, zR_s, zR_k, zR_o, zIL, zIR, zIN, zLI, zLR, zLN, zRI, zRL, zRN, true_and, and_true, not_true_eq_false, not_false_eq_true, true_implies, false_implies, implies_true, forall_const, if_true, if_false, eq_self, false_and, and_false, implies_true, nI_l, ylle_t, ylle_f, xcl_t, xcl_f]
            rw [ns, fb_sm_succ, xs, kU_s, fb_sm_cong (fun k hk => kU_o _ _ (by omega))]
          · simp (disch := omega) only [xle_t, xle_f, xlt_t, xlt_f, xeq_t, xeq_f, xle0_t, xle0_f, xlt0_f, x0lt_t, x0lt_f, x0le_t, xeq0_t, xeq0_f, xin, xem_f, xme_f, xlem_f, xlm_f, xml_t, xmle_t, nI_clamp, nI_add, pk_mul, pk_sub, zI_s, zI_k, zI_o, zL_s, zL_k, zL_o, zR_s, zR_k, zR_o, zIL, zIR, zIN, zLI, zLR, zLN, zRI, zRL, zRN, true_and, and_true, not_true_eq_false, not_false_eq_true, true_implies, false_implies, implies_true, forall_const, if_true, if_false, eq_self, false_and, and_false, implies_true, nI_l, ylle_t, ylle_f, xcl_t, xcl_f]
            have : wG0 C S (c + 1) = Nat.gcd (wG0 C S c) (cS C c) := if_pos tb
            rw [this]
          · rw [ns] at hj
            rw [xs]
            by_cases y : j = wN S c
            · rw [y, kU_s]
              simp (disch := omega) only [xle_t, xle_f, xlt_t, xlt_f, xeq_t, xeq_f, xle0_t, xle0_f, xlt0_f, x0lt_t, x0lt_f, x0le_t, xeq0_t, xeq0_f, xin, xem_f, xme_f, xlem_f, xlm_f, xml_t, xmle_t, nI_clamp, nI_add, pk_mul, pk_sub, zI_s, zI_k, zI_o, zL_s, zL_k, zL_o, zR_s, zR_k, zR_o, zIL, zIR, zIN, zLI, zLR, zLN, zRI, zRL, zRN, true_and, and_true, not_true_eq_false, not_false_eq_true, true_implies, false_implies, implies_true, forall_const, if_true, if_false, eq_self, false_and, and_false, implies_true, nI_l, ylle_t, ylle_f, xcl_t, xcl_f]
            · rw [kU_o _ _ y]
              obtain ⟨y1, y2⟩ := l4 j (by omega)
              simp (disch := omega) only [xle_t, xle_f, xlt_t, xlt_f, xeq_t, xeq_f, xle0_t, xle0_f, xlt0_f, x0lt_t, x0lt_f, x0le_t, xeq0_t, xeq0_f, xin, xem_f, xme_f, xlem_f, xlm_f, xml_t, xmle_t, nI_clamp, nI_add, pk_mul, pk_sub, zI_s, zI_k, zI_o, zL_s, zL_k, zL_o, zR_s, zR_k, zR_o, zIL, zIR, zIN, zLI, zLR, zLN, zRI, zRL, zRN, true_and, and_true, not_true_eq_false, not_false_eq_true, true_implies, false_implies, implies_true, forall_const, if_true, if_false, eq_self, false_and, and_false, implies_true, nI_l, ylle_t, ylle_f, xcl_t, xcl_f, y1, y2]
        · have tf : S.testBit c = false := Bool.eq_false_iff.mpr tb
          have bb := xbtS (S := S) (c := c) (by omega) (by omega)
          rw [eq_true tf] at bb
          simp (disch := omega) only [xle_t, xle_f, xlt_t, xlt_f, xeq_t, xeq_f, xle0_t, xle0_f, xlt0_f, x0lt_t, x0lt_f, x0le_t, xeq0_t, xeq0_f, xin, xem_f, xme_f, xlem_f, xlm_f, xml_t, xmle_t, nI_clamp, nI_add, pk_mul, pk_sub, zI_s, zI_k, zI_o, zL_s, zL_k, zL_o, zR_s, zR_k, zR_o, zIL, zIR, zIN, zLI, zLR, zLN, zRI, zRL, zRN, true_and, and_true, not_true_eq_false, not_false_eq_true, true_implies, false_implies, implies_true, forall_const, if_true, if_false, eq_self, false_and, and_false, implies_true, nI_l, ylle_t, ylle_f, xcl_t, xcl_f, e16, l0, bb]
          refine ih (c + 1) (by omega) h' r' f' k' q' ?_
          have e1 : wN S (c + 1) = wN S c := by rw [wN_s, tf]; rfl
          have e2 : wX0 C S (c + 1) = wX0 C S c := if_neg tb
          have e3 : wG0 C S (c + 1) = wG0 C S c := if_neg tb
          unfold wLc
          rw [e1, e2, e3]
          exact l'
      · have e4 : wN S c = 4 := by omega
        rw [e4] at l0
        simp (disch := omega) only [xle_t, xle_f, xlt_t, xlt_f, xeq_t, xeq_f, xle0_t, xle0_f, xlt0_f, x0lt_t, x0lt_f, x0le_t, xeq0_t, xeq0_f, xin, xem_f, xme_f, xlem_f, xlm_f, xml_t, xmle_t, nI_clamp, nI_add, pk_mul, pk_sub, zI_s, zI_k, zI_o, zL_s, zL_k, zL_o, zR_s, zR_k, zR_o, zIL, zIR, zIN, zLI, zLR, zLN, zRI, zRL, zRN, true_and, and_true, not_true_eq_false, not_false_eq_true, true_implies, false_implies, implies_true, forall_const, if_true, if_false, eq_self, false_and, and_false, implies_true, nI_l, ylle_t, ylle_f, xcl_t, xcl_f, e16, l0]
        obtain ⟨e1, e2, e3⟩ := wN_end (C := C) (S := S) (c := c) (by omega) (fun i q1 q2 => Bool.eq_false_iff.mpr (fun t => by
          have h1 : wN S (i + 1) = wN S i + 1 := by rw [wN_s, if_pos t]
          have h2 := wN_mono (S := S) q1
          have h3 := wN_mono (S := S) (show i + 1 ≤ 8 by omega)
          have := hS.2.2
          omega))
        refine kk h' r' f' k' q' ?_
        unfold wLc
        rw [e1, e2, e3]
        exact l'
  refine L C.1 0 (by omega) _ hr ((((zF_I _ _ _ (by omega)).trans (zF_I _ _ _ (by omega))).trans (zF_I _ _ _ (by omega))).trans (zF_I _ _ _ (by omega))) (fun k hk => ?_) rfl ⟨?_, ?_, ?_, ?_, fun j hj => ?_⟩
  · rw [zI_k _ _ _ (by omega), zI_k _ _ _ (by omega), zI_k _ _ _ (by omega), zI_k _ _ _ (by omega)]
  · simp (disch := omega) only [xle_t, xle_f, xlt_t, xlt_f, xeq_t, xeq_f, xle0_t, xle0_f, xlt0_f, x0lt_t, x0lt_f, x0le_t, xeq0_t, xeq0_f, xin, xem_f, xme_f, xlem_f, xlm_f, xml_t, xmle_t, nI_clamp, nI_add, pk_mul, pk_sub, zI_s, zI_k, zI_o, zL_s, zL_k, zL_o, zR_s, zR_k, zR_o, zIL, zIR, zIN, zLI, zLR, zLN, zRI, zRL, zRN, true_and, and_true, not_true_eq_false, not_false_eq_true, true_implies, false_implies, implies_true, forall_const, if_true, if_false, eq_self, false_and, and_false, implies_true, nI_l, ylle_t, ylle_f, xcl_t, xcl_f]
    rfl
  · simp (disch := omega) only [xle_t, xle_f, xlt_t, xlt_f, xeq_t, xeq_f, xle0_t, xle0_f, xlt0_f, x0lt_t, x0lt_f, x0le_t, xeq0_t, xeq0_f, xin, xem_f, xme_f, xlem_f, xlm_f, xml_t, xmle_t, nI_clamp, nI_add, pk_mul, pk_sub, zI_s, zI_k, zI_o, zL_s, zL_k, zL_o, zR_s, zR_k, zR_o, zIL, zIR, zIN, zLI, zLR, zLN, zRI, zRL, zRN, true_and, and_true, not_true_eq_false, not_false_eq_true, true_implies, false_implies, implies_true, forall_const, if_true, if_false, eq_self, false_and, and_false, implies_true, nI_l, ylle_t, ylle_f, xcl_t, xcl_f]
  · simp (disch := omega) only [xle_t, xle_f, xlt_t, xlt_f, xeq_t, xeq_f, xle0_t, xle0_f, xlt0_f, x0lt_t, x0lt_f, x0le_t, xeq0_t, xeq0_f, xin, xem_f, xme_f, xlem_f, xlm_f, xml_t, xmle_t, nI_clamp, nI_add, pk_mul, pk_sub, zI_s, zI_k, zI_o, zL_s, zL_k, zL_o, zR_s, zR_k, zR_o, zIL, zIR, zIN, zLI, zLR, zLN, zRI, zRL, zRN, true_and, and_true, not_true_eq_false, not_false_eq_true, true_implies, false_implies, implies_true, forall_const, if_true, if_false, eq_self, false_and, and_false, implies_true, nI_l, ylle_t, ylle_f, xcl_t, xcl_f]
    rfl
  · rw [zI_s]
    rfl
  · exact absurd hj (by show ¬ j < 0; omega)
