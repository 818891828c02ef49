/-! ===== along, in the reference: one candle ===== -/
theorem aQ_e : ∀ l, l < 16 → ∀ w, w < 16 → ∀ i, i < 2 → nI (aQ l i) ||| nI (aQ w i) = nI (aQ (l ||| w) i) := by decide +kernel
theorem aM_h1 : ∀ w, w < 16 → ∀ i, i < 2 → ((nI w >>> (nI (2 * i) &&& 31)) &&& nI 3) = nI (aQ w i) := by decide +kernel
section AM
variable {C : CE} {S : Nat} {h : MH} {d : Nat} {Q : Option MV → MH → Prop}
theorem aMb_C (hS : S < 2 ^ C.1) {i : Nat} (hi : i < wN S 8) : aMb S 8 i < C.1 := by
  have hm := aMb_b (S := S) (c := 8) (i := i) hi
  exact Nat.lt_of_not_le fun q => by have := tb_hi hS q; rw [hm.2] at this; cases this
/-- until something happens -/
theorem m_spa {i a b e : Nat} (hr : zRf h) (hA : cIn C (h.1 112) 0) (hC : cOK C) (hS : S < 2 ^ C.1) (h2 : wN S 8 ≤ 2) (hi : i < wN S 8) (he : e < 4) (lv : a + b < aA (aX C S 8) i) (hd : 2 ≤ d) (kk : Q (some (.inl (if e = 0 then -(nI 1) else nI (aSp (aX C S 8) i a b e)))) h) : Con mX11_spanAlong d 0 0 [.inr (.inr 111), .inl (nI (aMb S 8 i)), .inl (nI a), .inl (nI b), .inl (nI e)] h Q := by
  have hX := aX_ok hC hS h2
  have hiX : i < (aX C S 8).1 := hi
  have hc := aMb_C hS hi
  have n8 := hC.1
  have a9 : aA (aX C S 8) i ≤ 92160 := (hX.2 i hiX).2.2.1
  have p16 : 1 ≤ C.2.1 (aMb S 8 i) ∧ C.2.1 (aMb S 8 i) ≤ 6 := (hX.2 i hiX).1
  obtain ⟨q1, q2, _⟩ := hA.2.2 _ hc
  refine u_X11_spanAlong (d1' := d - 1) hr (by omega) ?_
  refine m_rest hr hA hC hc (by omega) ?_
  have eA : cS C (aMb S 8 i) = aA (aX C S 8) i := rfl
  rw [eA]
  refine u_X11_spanAlong_5 ?_
  by_cases z : e = 0
  · rw [if_pos z] at kk
    simp (disch := omega) only [xle_t, xle_f, xlt_t, xlt_f, xeq_t, xeq_f, xle0_t, xle0_f, xlt0_f, x0lt_t, x0lt_f, x0le_t, xeq0_t, xeq0_f, xin, xem_f, xme_f, xlem_f, xlm_f, xml_t, xmle_t, nI_clamp, nI_add, pk_mul, pk_sub, zI_s, zI_k, zI_o, zL_s, zL_k, zL_o, zR_s, zR_k, zR_o, zIL, zIR, zIN, zLI, zLR, zLN, zRI, zRL, zRN, true_and, and_true, not_true_eq_false, not_false_eq_true, true_implies, false_implies, implies_true, forall_const, if_true, if_false, eq_self, false_and, and_false, implies_true, nI_l, ylle_t, ylle_f, xcl_t, xcl_f, z]
    exact u_X11_spanAlong_20 kk
  rw [if_neg z] at kk
  have m1 := aM_1 e he
  have L : ∀ m k, k + m = C.2.1 (aMb S 8 i) - 1 → J mX11_spanAlong d 0 0 Q 0 0 53 [some (.inr (.inr 111)), some (.inl (nI (aMb S 8 i))), some (.inl (nI a)), some (.inl (nI b)), some (.inl (nI e)), some (.inl (nI (aA (aX C S 8) i))), some (.inl (nI (aS1 (aX C S 8) i a b e k))), some (.inl (nI (256 * cB C (aMb S 8 i) k))), some (.inl (nI k))] [] h := by
    intro m
    induction m with
    | zero =>
      intro k hk
      have q1' : h.1 112 (1 + aMb S 8 i) = nI (C.2.1 (aMb S 8 i)) := by rw [← q1, Nat.zero_add]
      refine u_X11_spanAlong_53 hr (by omega) ?_
      simp (disch := omega) only [xle_t, xle_f, xlt_t, xlt_f, xeq_t, xeq_f, xle0_t, xle0_f, xlt0_f, x0lt_t, x0lt_f, x0le_t, xeq0_t, xeq0_f, xin, xem_f, xme_f, xlem_f, xlm_f, xml_t, xmle_t, nI_clamp, nI_add, pk_mul, pk_sub, zI_s, zI_k, zI_o, zL_s, zL_k, zL_o, zR_s, zR_k, zR_o, zIL, zIR, zIN, zLI, zLR, zLN, zRI, zRL, zRN, true_and, and_true, not_true_eq_false, not_false_eq_true, true_implies, false_implies, implies_true, forall_const, if_true, if_false, eq_self, false_and, and_false, implies_true, nI_l, ylle_t, ylle_f, xcl_t, xcl_f, q1']
      rw [show k = C.2.1 (aMb S 8 i) - 1 by omega]
      exact kk
    | succ m ih =>
      intro k hk
      have q1' : h.1 112 (1 + aMb S 8 i) = nI (C.2.1 (aMb S 8 i)) := by rw [← q1, Nat.zero_add]
      have q2' : h.1 112 (9 + 6 * aMb S 8 i + k) = nI (cM C (aMb S 8 i) k) := by
        unfold cM
        rw [if_pos (by omega), ← q2 k (by omega), Nat.zero_add]
      have mb := cM_le hC hc k
      have bb := cB_le hC hc k
      have bb1 := cB_le hC hc (k + 1)
      have es : cB C (aMb S 8 i) (k + 1) = cB C (aMb S 8 i) k + cM C (aMb S 8 i) k := rfl
      have et : 256 * cB C (aMb S 8 i) k + 256 * cM C (aMb S 8 i) k = 256 * cB C (aMb S 8 i) (k + 1) := by omega
      have k6 : k ≤ 6 := by omega
      have tl : 256 * cB C (aMb S 8 i) (k + 1) < aA (aX C S 8) i := hX.lt hiX (j := k + 1) (k := C.2.1 (aMb S 8 i)) (Nat.le_refl _) (by omega)
      have sl : aS1 (aX C S 8) i a b e k ≤ 92160 := by
        have h1 := (aS1_is (aX C S 8) i a b e k).1
        have h0 : aS1 (aX C S 8) i a b e 0 = if e = 3 then (aA (aX C S 8) i - a - b) / 2 else aA (aX C S 8) i - a - b := rfl
        rw [h0] at h1
        split at h1 <;> omega
      have st : aS1 (aX C S 8) i a b e (k + 1) = aF2 e b (256 * cB C (aMb S 8 i) (k + 1)) (aA (aX C S 8) i) (aF1 e a (256 * cB C (aMb S 8 i) (k + 1)) (aS1 (aX C S 8) i a b e k)) := rfl
      have nx := ih (k + 1) (by omega)
      rw [st] at nx
      generalize aS1 (aX C S 8) i a b e k = s at nx sl ⊢
      generalize aA (aX C S 8) i = A at nx tl lv a9 ⊢
      have bk : ∀ s1, s1 = aF1 e a (256 * cB C (aMb S 8 i) (k + 1)) s → J mX11_spanAlong d 0 0 Q 0 0 113 [some (.inr (.inr 111)), some (.inl (nI (aMb S 8 i))), some (.inl (nI a)), some (.inl (nI b)), some (.inl (nI e)), some (.inl (nI A)), some (.inl (nI s1)), some (.inl (nI (256 * cB C (aMb S 8 i) (k + 1)))), some (.inl (nI k))] [] h := by
        intro s1 hs1
        have s1l : s1 ≤ 92160 := by rw [hs1]; exact Nat.le_trans (aF1_p e a _ s).1 sl
        rw [← hs1] at nx
        generalize 256 * cB C (aMb S 8 i) (k + 1) = t at nx tl ⊢
        refine u_X11_spanAlong_113 ?_
        rcases Nat.lt_or_ge 1 e with y1 | y1
        · rcases Nat.lt_or_ge (t + b) A with y2 | y2
          · rcases Nat.lt_or_ge (A - t - b) s1 with y3 | y3
            · simp (disch := omega) only [xle_t, xle_f, xlt_t, xlt_f, xeq_t, xeq_f, xle0_t, xle0_f, xlt0_f, x0lt_t, x0lt_f, x0le_t, xeq0_t, xeq0_f, xin, xem_f, xme_f, xlem_f, xlm_f, xml_t, xmle_t, nI_clamp, nI_add, pk_mul, pk_sub, zI_s, zI_k, zI_o, zL_s, zL_k, zL_o, zR_s, zR_k, zR_o, zIL, zIR, zIN, zLI, zLR, zLN, zRI, zRL, zRN, true_and, and_true, not_true_eq_false, not_false_eq_true, true_implies, false_implies, implies_true, forall_const, if_true, if_false, eq_self, false_and, and_false, implies_true, nI_l, ylle_t, ylle_f, xcl_t, xcl_f]
              refine u_X11_spanAlong_149 ?_
              simp (disch := omega) only [xle_t, xle_f, xlt_t, xlt_f, xeq_t, xeq_f, xle0_t, xle0_f, xlt0_f, x0lt_t, x0lt_f, x0le_t, xeq0_t, xeq0_f, xin, xem_f, xme_f, xlem_f, xlm_f, xml_t, xmle_t, nI_clamp, nI_add, pk_mul, pk_sub, zI_s, zI_k, zI_o, zL_s, zL_k, zL_o, zR_s, zR_k, zR_o, zIL, zIR, zIN, zLI, zLR, zLN, zRI, zRL, zRN, true_and, and_true, not_true_eq_false, not_false_eq_true, true_implies, false_implies, implies_true, forall_const, if_true, if_false, eq_self, false_and, and_false, implies_true, nI_l, ylle_t, ylle_f, xcl_t, xcl_f]
              unfold aF2 at nx
              rw [if_pos ⟨y1, y2, y3⟩] at nx
              exact nx
            · simp (disch := omega) only [xle_t, xle_f, xlt_t, xlt_f, xeq_t, xeq_f, xle0_t, xle0_f, xlt0_f, x0lt_t, x0lt_f, x0le_t, xeq0_t, xeq0_f, xin, xem_f, xme_f, xlem_f, xlm_f, xml_t, xmle_t, nI_clamp, nI_add, pk_mul, pk_sub, zI_s, zI_k, zI_o, zL_s, zL_k, zL_o, zR_s, zR_k, zR_o, zIL, zIR, zIN, zLI, zLR, zLN, zRI, zRL, zRN, true_and, and_true, not_true_eq_false, not_false_eq_true, true_implies, false_implies, implies_true, forall_const, if_true, if_false, eq_self, false_and, and_false, implies_true, nI_l, ylle_t, ylle_f, xcl_t, xcl_f]
              refine u_X11_spanAlong_149 ?_
              simp (disch := omega) only [xle_t, xle_f, xlt_t, xlt_f, xeq_t, xeq_f, xle0_t, xle0_f, xlt0_f, x0lt_t, x0lt_f, x0le_t, xeq0_t, xeq0_f, xin, xem_f, xme_f, xlem_f, xlm_f, xml_t, xmle_t, nI_clamp, nI_add, pk_mul, pk_sub, zI_s, zI_k, zI_o, zL_s, zL_k, zL_o, zR_s, zR_k, zR_o, zIL, zIR, zIN, zLI, zLR, zLN, zRI, zRL, zRN, true_and, and_true, not_true_eq_false, not_false_eq_true, true_implies, false_implies, implies_true, forall_const, if_true, if_false, eq_self, false_and, and_false, implies_true, nI_l, ylle_t, ylle_f, xcl_t, xcl_f]
              unfold aF2 at nx
              rw [if_neg (by omega)] at nx
              exact nx
          · simp (disch := omega) only [xle_t, xle_f, xlt_t, xlt_f, xeq_t, xeq_f, xle0_t, xle0_f, xlt0_f, x0lt_t, x0lt_f, x0le_t, xeq0_t, xeq0_f, xin, xem_f, xme_f, xlem_f, xlm_f, xml_t, xmle_t, nI_clamp, nI_add, pk_mul, pk_sub, zI_s, zI_k, zI_o, zL_s, zL_k, zL_o, zR_s, zR_k, zR_o, zIL, zIR, zIN, zLI, zLR, zLN, zRI, zRL, zRN, true_and, and_true, not_true_eq_false, not_false_eq_true, true_implies, false_implies, implies_true, forall_const, if_true, if_false, eq_self, false_and, and_false, implies_true, nI_l, ylle_t, ylle_f, xcl_t, xcl_f]
            refine u_X11_spanAlong_149 ?_
            simp (disch := omega) only [xle_t, xle_f, xlt_t, xlt_f, xeq_t, xeq_f, xle0_t, xle0_f, xlt0_f, x0lt_t, x0lt_f, x0le_t, xeq0_t, xeq0_f, xin, xem_f, xme_f, xlem_f, xlm_f, xml_t, xmle_t, nI_clamp, nI_add, pk_mul, pk_sub, zI_s, zI_k, zI_o, zL_s, zL_k, zL_o, zR_s, zR_k, zR_o, zIL, zIR, zIN, zLI, zLR, zLN, zRI, zRL, zRN, true_and, and_true, not_true_eq_false, not_false_eq_true, true_implies, false_implies, implies_true, forall_const, if_true, if_false, eq_self, false_and, and_false, implies_true, nI_l, ylle_t, ylle_f, xcl_t, xcl_f]
            unfold aF2 at nx
            rw [if_neg (by omega)] at nx
            exact nx
        · simp (disch := omega) only [xle_t, xle_f, xlt_t, xlt_f, xeq_t, xeq_f, xle0_t, xle0_f, xlt0_f, x0lt_t, x0lt_f, x0le_t, xeq0_t, xeq0_f, xin, xem_f, xme_f, xlem_f, xlm_f, xml_t, xmle_t, nI_clamp, nI_add, pk_mul, pk_sub, zI_s, zI_k, zI_o, zL_s, zL_k, zL_o, zR_s, zR_k, zR_o, zIL, zIR, zIN, zLI, zLR, zLN, zRI, zRL, zRN, true_and, and_true, not_true_eq_false, not_false_eq_true, true_implies, false_implies, implies_true, forall_const, if_true, if_false, eq_self, false_and, and_false, implies_true, nI_l, ylle_t, ylle_f, xcl_t, xcl_f]
          refine u_X11_spanAlong_149 ?_
          simp (disch := omega) only [xle_t, xle_f, xlt_t, xlt_f, xeq_t, xeq_f, xle0_t, xle0_f, xlt0_f, x0lt_t, x0lt_f, x0le_t, xeq0_t, xeq0_f, xin, xem_f, xme_f, xlem_f, xlm_f, xml_t, xmle_t, nI_clamp, nI_add, pk_mul, pk_sub, zI_s, zI_k, zI_o, zL_s, zL_k, zL_o, zR_s, zR_k, zR_o, zIL, zIR, zIN, zLI, zLR, zLN, zRI, zRL, zRN, true_and, and_true, not_true_eq_false, not_false_eq_true, true_implies, false_implies, implies_true, forall_const, if_true, if_false, eq_self, false_and, and_false, implies_true, nI_l, ylle_t, ylle_f, xcl_t, xcl_f]
          unfold aF2 at nx
          rw [if_neg (by omega)] at nx
          exact nx
      refine u_X11_spanAlong_53 hr (by omega) ?_
      simp (disch := omega) only [xle_t, xle_f, xlt_t, xlt_f, xeq_t, xeq_f, xle0_t, xle0_f, xlt0_f, x0lt_t, x0lt_f, x0le_t, xeq0_t, xeq0_f, xin, xem_f, xme_f, xlem_f, xlm_f, xml_t, xmle_t, nI_clamp, nI_add, pk_mul, pk_sub, zI_s, zI_k, zI_o, zL_s, zL_k, zL_o, zR_s, zR_k, zR_o, zIL, zIR, zIN, zLI, zLR, zLN, zRI, zRL, zRN, true_and, and_true, not_true_eq_false, not_false_eq_true, true_implies, false_implies, implies_true, forall_const, if_true, if_false, eq_self, false_and, and_false, implies_true, nI_l, ylle_t, ylle_f, xcl_t, xcl_f, q1', q2', m1, et]
      generalize 256 * cB C (aMb S 8 i) (k + 1) = t at bk tl ⊢
      rcases (show e % 2 = 1 ∨ e % 2 = 0 by omega) with y1 | y1
      · rcases Nat.lt_or_ge a t with y2 | y2
        · rcases Nat.lt_or_ge (t - a) s with y3 | y3
          · simp (disch := omega) only [xle_t, xle_f, xlt_t, xlt_f, xeq_t, xeq_f, xle0_t, xle0_f, xlt0_f, x0lt_t, x0lt_f, x0le_t, xeq0_t, xeq0_f, xin, xem_f, xme_f, xlem_f, xlm_f, xml_t, xmle_t, nI_clamp, nI_add, pk_mul, pk_sub, zI_s, zI_k, zI_o, zL_s, zL_k, zL_o, zR_s, zR_k, zR_o, zIL, zIR, zIN, zLI, zLR, zLN, zRI, zRL, zRN, true_and, and_true, not_true_eq_false, not_false_eq_true, true_implies, false_implies, implies_true, forall_const, if_true, if_false, eq_self, false_and, and_false, implies_true, nI_l, ylle_t, ylle_f, xcl_t, xcl_f, y1]
            exact bk _ (by unfold aF1; rw [if_pos ⟨y1, y2, y3⟩])
          · simp (disch := omega) only [xle_t, xle_f, xlt_t, xlt_f, xeq_t, xeq_f, xle0_t, xle0_f, xlt0_f, x0lt_t, x0lt_f, x0le_t, xeq0_t, xeq0_f, xin, xem_f, xme_f, xlem_f, xlm_f, xml_t, xmle_t, nI_clamp, nI_add, pk_mul, pk_sub, zI_s, zI_k, zI_o, zL_s, zL_k, zL_o, zR_s, zR_k, zR_o, zIL, zIR, zIN, zLI, zLR, zLN, zRI, zRL, zRN, true_and, and_true, not_true_eq_false, not_false_eq_true, true_implies, false_implies, implies_true, forall_const, if_true, if_false, eq_self, false_and, and_false, implies_true, nI_l, ylle_t, ylle_f, xcl_t, xcl_f, y1]
            exact bk _ (by unfold aF1; rw [if_neg (by omega)])
        · simp (disch := omega) only [xle_t, xle_f, xlt_t, xlt_f, xeq_t, xeq_f, xle0_t, xle0_f, xlt0_f, x0lt_t, x0lt_f, x0le_t, xeq0_t, xeq0_f, xin, xem_f, xme_f, xlem_f, xlm_f, xml_t, xmle_t, nI_clamp, nI_add, pk_mul, pk_sub, zI_s, zI_k, zI_o, zL_s, zL_k, zL_o, zR_s, zR_k, zR_o, zIL, zIR, zIN, zLI, zLR, zLN, zRI, zRL, zRN, true_and, and_true, not_true_eq_false, not_false_eq_true, true_implies, false_implies, implies_true, forall_const, if_true, if_false, eq_self, false_and, and_false, implies_true, nI_l, ylle_t, ylle_f, xcl_t, xcl_f, y1]
          exact bk _ (by unfold aF1; rw [if_neg (by omega)])
      · simp (disch := omega) only [xle_t, xle_f, xlt_t, xlt_f, xeq_t, xeq_f, xle0_t, xle0_f, xlt0_f, x0lt_t, x0lt_f, x0le_t, xeq0_t, xeq0_f, xin, xem_f, xme_f, xlem_f, xlm_f, xml_t, xmle_t, nI_clamp, nI_add, pk_mul, pk_sub, zI_s, zI_k, zI_o, zL_s, zL_k, zL_o, zR_s, zR_k, zR_o, zIL, zIR, zIN, zLI, zLR, zLN, zRI, zRL, zRN, true_and, and_true, not_true_eq_false, not_false_eq_true, true_implies, false_implies, implies_true, forall_const, if_true, if_false, eq_self, false_and, and_false, implies_true, nI_l, ylle_t, ylle_f, xcl_t, xcl_f, y1]
        exact bk _ (by unfold aF1; rw [if_neg (by omega)])
  have l0 := L (C.2.1 (aMb S 8 i) - 1) 0 (by omega)
  have h0 : aS1 (aX C S 8) i a b e 0 = if e = 3 then (aA (aX C S 8) i - a - b) / 2 else aA (aX C S 8) i - a - b := rfl
  rw [h0] at l0
  by_cases y : e = 3
  · rw [if_pos y] at l0
    have dv : nI (aA (aX C S 8) i - a - b) / nI 2 = nI ((aA (aX C S 8) i - a - b) / 2) := pk_div (by omega) (by decide) (by decide)
    simp (disch := omega) only [xle_t, xle_f, xlt_t, xlt_f, xeq_t, xeq_f, xle0_t, xle0_f, xlt0_f, x0lt_t, x0lt_f, x0le_t, xeq0_t, xeq0_f, xin, xem_f, xme_f, xlem_f, xlm_f, xml_t, xmle_t, nI_clamp, nI_add, pk_mul, pk_sub, zI_s, zI_k, zI_o, zL_s, zL_k, zL_o, zR_s, zR_k, zR_o, zIL, zIR, zIN, zLI, zLR, zLN, zRI, zRL, zRN, true_and, and_true, not_true_eq_false, not_false_eq_true, true_implies, false_implies, implies_true, forall_const, if_true, if_false, eq_self, false_and, and_false, implies_true, nI_l, ylle_t, ylle_f, xcl_t, xcl_f, dv]
    exact l0
  · rw [if_neg y] at l0
    simp (disch := omega) only [xle_t, xle_f, xlt_t, xlt_f, xeq_t, xeq_f, xle0_t, xle0_f, xlt0_f, x0lt_t, x0lt_f, x0le_t, xeq0_t, xeq0_f, xin, xem_f, xme_f, xlem_f, xlm_f, xml_t, xmle_t, nI_clamp, nI_add, pk_mul, pk_sub, zI_s, zI_k, zI_o, zL_s, zL_k, zL_o, zR_s, zR_k, zR_o, zIL, zIR, zIN, zLI, zLR, zLN, zRI, zRL, zRN, true_and, and_true, not_true_eq_false, not_false_eq_true, true_implies, false_implies, implies_true, forall_const, if_true, if_false, eq_self, false_and, and_false, implies_true, nI_l, ylle_t, ylle_f, xcl_t, xcl_f]
    exact l0
/-- the nodes of the reference -/
def mLy (C : CE) (S : Nat) (h : MH) : Prop := cIn C (h.1 112) 0 ∧ h.1 111 38 = nI (wN S 8) ∧ ∀ i, i < wN S 8 → h.1 127 i = nI (aMb S 8 i)
def mRw (X : AX) (k : Nat) (G : Nat → Nat) (lit : Nat) (h : MH) : Prop := ∀ i, i < X.1 → h.1 136 (2 * k + i) = nI (G (2 * i)) ∧ h.1 137 (2 * k + i) = nI (G (2 * i + 1)) ∧ (aLv X G i = true → h.1 138 (2 * k + i) = nI (aQ lit i))
def mFl (k : Nat) (h h' : MH) : Prop := zF (fun a => a ≠ 132 ∧ a ≠ 136 ∧ a ≠ 137 ∧ a ≠ 138) h h' ∧ ∀ j, j < 2 * k + 2 → h'.1 136 j = h.1 136 j ∧ h'.1 137 j = h.1 137 j ∧ h'.1 138 j = h.1 138 j
theorem mFl.rfl {k : Nat} {h : MH} : mFl k h h := ⟨zF.rfl, fun _ _ => ⟨Eq.refl _, Eq.refl _, Eq.refl _⟩⟩
theorem mFl.trans {k : Nat} {h h1 h2 : MH} (a : mFl k h h1) (b : mFl k h1 h2) : mFl k h h2 := ⟨a.1.trans b.1, fun j hj => ⟨(b.2 j hj).1.trans (a.2 j hj).1, (b.2 j hj).2.1.trans (a.2 j hj).2.1, (b.2 j hj).2.2.trans (a.2 j hj).2.2⟩⟩
theorem mFl.weak {k k' : Nat} {h h' : MH} (a : mFl k' h h') (hk : k ≤ k') : mFl k h h' := ⟨a.1, fun j hj => a.2 j (by omega)⟩
theorem mLy.keep {k : Nat} {h' : MH} (q : mLy C S h) (f : mFl k h h') : mLy C S h' := ⟨by rw [f.1.i (by omega)]; exact q.1, by rw [f.1.i (by omega)]; exact q.2.1, fun i hi => by rw [f.1.i (by omega)]; exact q.2.2 i hi⟩
theorem mRw.keep {X : AX} {k lit : Nat} {G : Nat → Nat} {h' : MH} (n2 : X.1 ≤ 2) (q : mRw X k G lit h) (f : mFl k h h') : mRw X k G lit h' := fun i hi => by
  obtain ⟨g1, g2, g3⟩ := f.2 (2 * k + i) (by omega)
  rw [g1, g2, g3]
  exact q i hi
theorem m_ibt {i k lit now : Nat} {G : Nat → Nat} (hr : zRf h) (hL : mLy C S h) (hC : cOK C) (hS : S < 2 ^ C.1) (h2 : wN S 8 ≤ 2) (hI : aI (aX C S 8) G lit now) (hR : mRw (aX C S 8) k G lit h) (hk : k ≤ 12) (hi : i < wN S 8) (hd : 2 ≤ d) (kk : Q (some (.inl (bI (!aLv (aX C S 8) G i)))) h) : Con mX11_isBurnt d 0 0 [.inr (.inr 111), .inl (nI k), .inl (nI i)] h Q := by
  have hX := aX_ok hC hS h2
  have hiX : i < (aX C S 8).1 := hi
  obtain ⟨r1, r2, _⟩ := hR i hiX
  have hG := (aI_now hX hI).2.2
  have g0 := hG (2 * i)
  have g1 := hG (2 * i + 1)
  have b1 := (hI.2.1 i hiX).1
  have a9 : aA (aX C S 8) i ≤ 92160 := (hX.2 i hiX).2.2.1
  have o := hL.2.2 i hi
  refine u_X11_isBurnt (d1' := d - 1) hr (by omega) ?_
  simp (disch := omega) only [xle_t, xle_f, xlt_t, xlt_f, xeq_t, xeq_f, xle0_t, xle0_f, xlt0_f, x0lt_t, x0lt_f, x0le_t, xeq0_t, xeq0_f, xin, xem_f, xme_f, xlem_f, xlm_f, xml_t, xmle_t, nI_clamp, nI_add, pk_mul, pk_sub, zI_s, zI_k, zI_o, zL_s, zL_k, zL_o, zR_s, zR_k, zR_o, zIL, zIR, zIN, zLI, zLR, zLN, zRI, zRL, zRN, true_and, and_true, not_true_eq_false, not_false_eq_true, true_implies, false_implies, implies_true, forall_const, if_true, if_false, eq_self, false_and, and_false, implies_true, nI_l, ylle_t, ylle_f, xcl_t, xcl_f, o, r1, r2]
  refine m_rest hr hL.1 hC (aMb_C hS hi) (by omega) ?_
  rw [show cS C (aMb S 8 i) = aA (aX C S 8) i from rfl]
  refine u_X11_isBurnt_31 ?_
  cases z : aLv (aX C S 8) G i with
  | true =>
    rw [z] at kk
    have := (aLv_i.mp z).2
    simp (disch := omega) only [xle_t, xle_f, xlt_t, xlt_f, xeq_t, xeq_f, xle0_t, xle0_f, xlt0_f, x0lt_t, x0lt_f, x0le_t, xeq0_t, xeq0_f, xin, xem_f, xme_f, xlem_f, xlm_f, xml_t, xmle_t, nI_clamp, nI_add, pk_mul, pk_sub, zI_s, zI_k, zI_o, zL_s, zL_k, zL_o, zR_s, zR_k, zR_o, zIL, zIR, zIN, zLI, zLR, zLN, zRI, zRL, zRN, true_and, and_true, not_true_eq_false, not_false_eq_true, true_implies, false_implies, implies_true, forall_const, if_true, if_false, eq_self, false_and, and_false, implies_true, nI_l, ylle_t, ylle_f, xcl_t, xcl_f]
    exact kk
  | false =>
    rw [z] at kk
    have : ¬ G (2 * i) + G (2 * i + 1) < aA (aX C S 8) i := fun q => by rw [aLv_i.mpr ⟨hiX, q⟩] at z; cases z
    simp (disch := omega) only [xle_t, xle_f, xlt_t, xlt_f, xeq_t, xeq_f, xle0_t, xle0_f, xlt0_f, x0lt_t, x0lt_f, x0le_t, xeq0_t, xeq0_f, xin, xem_f, xme_f, xlem_f, xlm_f, xml_t, xmle_t, nI_clamp, nI_add, pk_mul, pk_sub, zI_s, zI_k, zI_o, zL_s, zL_k, zL_o, zR_s, zR_k, zR_o, zIL, zIR, zIN, zLI, zLR, zLN, zRI, zRL, zRN, true_and, and_true, not_true_eq_false, not_false_eq_true, true_implies, false_implies, implies_true, forall_const, if_true, if_false, eq_self, false_and, and_false, implies_true, nI_l, ylle_t, ylle_f, xcl_t, xcl_f]
    exact kk
end AM
