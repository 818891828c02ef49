/-! ===== along: which candles; the class lays them ===== -/
def aMb (S : Nat) : Nat → Nat → Nat
  | 0 => fun _ => 0
  | c + 1 => if S.testBit c = true then kU (aMb S c) (wN S c) c else aMb S c
theorem aMb_b {S : Nat} : ∀ {c i : Nat}, i < wN S c → aMb S c i < c ∧ S.testBit (aMb S c i) = true
  | 0, i, h => absurd h (by show ¬ i < 0; omega)
  | c + 1, i, h => by
    show (if S.testBit c = true then kU (aMb S c) (wN S c) c else aMb S c) i < c + 1 ∧ S.testBit ((if S.testBit c = true then kU (aMb S c) (wN S c) c else aMb S c) i) = true
    rw [wN_s] at h
    by_cases tb : S.testBit c = true
    · rw [if_pos tb] at h ⊢
      by_cases y : i = wN S c
      · rw [y, kU_s]
        exact ⟨by omega, tb⟩
      · rw [kU_o _ _ y]
        have := aMb_b (S := S) (c := c) (i := i) (by omega)
        exact ⟨by omega, this.2⟩
    · rw [if_neg tb] at h ⊢
      have := aMb_b (S := S) (c := c) (i := i) (by omega)
      exact ⟨by omega, this.2⟩
theorem aMb_end {S c : Nat} (hc : c ≤ 8) (h : ∀ i, c ≤ i → i < 8 → S.testBit i = false) : wN S 8 = wN S c ∧ aMb S 8 = aMb S c := by
  have : ∀ m, c + m ≤ 8 → wN S (c + m) = wN S c ∧ aMb S (c + m) = aMb S c := by
    intro m
    induction m with
    | zero => intro _; exact ⟨rfl, rfl⟩
    | succ m ih =>
      intro hm
      obtain ⟨e1, e2⟩ := ih (by omega)
      have z := h (c + m) (by omega) (by omega)
      refine ⟨?_, ?_⟩
      · rw [← Nat.add_assoc, wN_s, z, e1]; rfl
      · rw [← e2]
        show (if S.testBit (c + m) = true then _ else _) = _
        rw [z, if_neg (by decide)]
        rfl
  have := this (8 - c) (by omega)
  rw [show c + (8 - c) = 8 by omega] at this
  exact this
def aX (C : CE) (S c : Nat) : AX := (wN S c, fun i => C.2.1 (aMb S c i), fun i j => 256 * cB C (aMb S c i) j)
theorem aX_ok {C : CE} {S : Nat} (hC : cOK C) (hS : S < 2 ^ C.1) (h2 : wN S 8 ≤ 2) : aOK (aX C S 8) := by
  refine ⟨h2, fun i hi => ?_⟩
  have hm := aMb_b (S := S) (c := 8) (i := i) hi
  have hc : aMb S 8 i < C.1 := Nat.lt_of_not_le fun q => by have := tb_hi hS q; rw [hm.2] at this; cases this
  obtain ⟨p1, m1, _, _⟩ := hC.2 _ hc
  refine ⟨p1, ?_, cS_le hC hc, fun j hj => ?_, fun j => ⟨_, rfl⟩⟩
  · show 256 * cB C (aMb S 8 i) 0 = 0
    rfl
  · show 256 * cB C (aMb S 8 i) j < 256 * cB C (aMb S 8 i) (j + 1)
    have e : cB C (aMb S 8 i) (j + 1) = cB C (aMb S 8 i) j + cM C (aMb S 8 i) j := rfl
    have e2 : cM C (aMb S 8 i) j = C.2.2.1 (aMb S 8 i) j := if_pos hj
    have := (m1 j hj).1
    omega
section AL
variable {C : CE} {S : Nat} {h : MH} {d : Nat} {Q : Option MV → MH → Prop}
def aFl (h h' : MH) : Prop := zF (fun a => a ≠ 77 ∧ a ≠ 78 ∧ a ≠ 79 ∧ a ≠ 81 ∧ a ≠ 82) h h'
theorem zok79 {h : MH} (hr : zRf h) {c : Nat} (hc : c < 2) : zokA h 79 20 (nI c) = True := eq_true (zia hr (n := 2) (by decide) rfl (vp_in_nI (by omega) (by omega)))
theorem c_aly (hr : zRf h) (hA : cAt C h 16) (hC : cOK C) (hS : S < 2 ^ C.1) (h2 : wN S 8 ≤ 2) (hd : 4 ≤ d) (kk : ∀ h', zRf h' → aFl h h' → h'.2.2.1 77 = h.2.2.1 77 → aAt (aX C S 8) h' → Q none h') : Con mX0_lay d 0 0 [.inr (.inr 77), .inr (.inr 16), .inl (nI S)] h Q := by
  have n8 := hC.1
  have S256 : S < 256 := Nat.lt_of_lt_of_le hS (Nat.pow_le_pow_right (by decide) n8 : 2 ^ C.1 ≤ 2 ^ 8)
  have hn0 := hA.1
  refine u_X0_lay hr ?_
  have L : ∀ m c, c + m = C.1 → ∀ h', zRf h' → aFl h h' → h'.2.2.1 77 = h.2.2.1 77 → aAt (aX C S c) h' → ∀ u, J mX0_lay d 0 0 Q 0 0 7 [some (.inr (.inr 77)), some (.inr (.inr 16)), some (.inl (nI S)), some (.inl (nI c)), u] [] h' := by
    intro m
    induction m with
    | zero =>
      intro c hc h' r' f' q' l' u
      have e16 : h'.1 16 0 = nI C.1 := by rw [f'.i (by omega)]; exact hn0
      have z2 : zokO h' 16 2 := zo r' (by decide) rfl
      refine u_X0_lay_7 (d1' := d - 1) r' (by omega) ⟨z2, ?_⟩
      simp (disch := omega) only [xle_t, xle_f, xlt_t, xlt_f, xeq_t, xeq_f, xle0_t, xle0_f, xlt0_f, x0lt_t, x0lt_f, x0le_t, xeq0_t, xeq0_f, xin, xem_f, xme_f, xlem_f, xlm_f, xml_t, xmle_t, nI_clamp, nI_add, pk_mul, pk_sub, zI_s, zI_k, zI_o, zL_s, zL_k, zL_o, zR_s, zR_k, zR_o, zIL, zIR, zIN, zLI, zLR, zLN, zRI, zRL, zRN, true_and, and_true, not_true_eq_false, not_false_eq_true, true_implies, false_implies, implies_true, forall_const, if_true, if_false, eq_self, false_and, and_false, implies_true, nI_l, ylle_t, ylle_f, xcl_t, xcl_f, e16]
      obtain ⟨e1, e2⟩ := aMb_end (S := S) (c := c) (by omega) (fun i q1 q2 => tb_hi hS (by omega))
      refine kk h' r' f' q' ?_
      unfold aX
      rw [e1, e2]
      exact l'
    | succ m ih =>
      intro c hc h' r' f' q' l' u
      have e16 : h'.1 16 0 = nI C.1 := by rw [f'.i (by omega)]; exact hn0
      have z2 : zokO h' 16 2 := zo r' (by decide) rfl
      have hA' : cAt C h' 16 := by
        unfold cAt
        rw [f'.i (by omega), f'.i (a := 16 + 1) (by omega), f'.i (a := 16 + 2) (by omega), f'.i (a := 16 + 3) (by omega), f'.i (a := 16 + 4) (by omega)]
        exact hA
      have l0 : h'.1 77 0 = nI (wN S c) := l'.1
      have hN : wN S c ≤ 2 := Nat.le_trans (wN_mono (by omega)) h2
      have hcC : c < C.1 := by omega
      refine u_X0_lay_7 (d1' := d - 1) r' (by omega) ⟨z2, ?_⟩
      rcases Nat.lt_or_ge (wN S c) 2 with n2 | n2
      · by_cases tb : S.testBit c = true
        · have bb := xbtS (S := S) (c := c) (by omega) (by omega)
          rw [eq_false (show ¬ S.testBit c = false by rw [tb]; decide)] at bb
          have e17 : h'.1 17 c = nI (C.2.1 c) := (hA'.2 c hcC).1
          simp (disch := omega) only [xle_t, xle_f, xlt_t, xlt_f, xeq_t, xeq_f, xle0_t, xle0_f, xlt0_f, x0lt_t, x0lt_f, x0le_t, xeq0_t, xeq0_f, xin, xem_f, xme_f, xlem_f, xlm_f, xml_t, xmle_t, nI_clamp, nI_add, pk_mul, pk_sub, zI_s, zI_k, zI_o, zL_s, zL_k, zL_o, zR_s, zR_k, zR_o, zIL, zIR, zIN, zLI, zLR, zLN, zRI, zRL, zRN, true_and, and_true, not_true_eq_false, not_false_eq_true, true_implies, false_implies, implies_true, forall_const, if_true, if_false, eq_self, false_and, and_false, implies_true, nI_l, ylle_t, ylle_f, xcl_t, xcl_f, e16, l0, bb, e17]
          have r1 : zRf (zsI h' 78 (wN S c) (nI (C.2.1 c))) := r'
          refine c_sof r1 ?_ (zo r1 (by decide) rfl) hC hcC (by omega) ?_
          · unfold cAt
            rw [zI_o _ _ _ (by omega), zI_o _ _ _ (by omega), zI_o _ _ _ (by omega), zI_o _ _ _ (by omega), zI_o _ _ _ (by omega)]
            exact hA'
          have cb := cS_le hC hcC
          refine u_X0_lay_59 ?_
          simp (disch := omega) only [xle_t, xle_f, xlt_t, xlt_f, xeq_t, xeq_f, xle0_t, xle0_f, xlt0_f, x0lt_t, x0lt_f, x0le_t, xeq0_t, xeq0_f, xin, xem_f, xme_f, xlem_f, xlm_f, xml_t, xmle_t, nI_clamp, nI_add, pk_mul, pk_sub, zI_s, zI_k, zI_o, zL_s, zL_k, zL_o, zR_s, zR_k, zR_o, zIL, zIR, zIN, zLI, zLR, zLN, zRI, zRL, zRN, true_and, and_true, not_true_eq_false, not_false_eq_true, true_implies, false_implies, implies_true, forall_const, if_true, if_false, eq_self, false_and, and_false, implies_true, nI_l, ylle_t, ylle_f, xcl_t, xcl_f, l0, zok79 r1]
          have ns : wN S (c + 1) = wN S c + 1 := by rw [wN_s, if_pos tb]
          have ms : aMb S (c + 1) = kU (aMb S c) (wN S c) c := if_pos tb
          have F2 : aFl h (zsI (zsI h' 78 (wN S c) (nI (C.2.1 c))) 79 (wN S c) (nI (cS C c))) := zF.trans (zF.trans f' (zF_I _ _ _ (by omega))) (zF_I _ _ _ (by omega))
          have L2 : ∀ k j, j + k = 7 → ∀ h3, zRf h3 → aFl h h3 → h3.2.2.1 77 = h.2.2.1 77 → (∀ a, a ≠ 81 + wN S c → h3.1 a = (zsI (zsI h' 78 (wN S c) (nI (C.2.1 c))) 79 (wN S c) (nI (cS C c))).1 a) → (∀ i, i < j → h3.1 (81 + wN S c) i = nI (256 * cB C c i)) → J mX0_lay d 0 0 Q 0 0 63 [some (.inr (.inr 77)), some (.inr (.inr 16)), some (.inl (nI S)), some (.inl (nI c)), some (.inl (nI j))] [] h3 := by
            intro k
            induction k with
            | zero =>
              intro j hj h3 r3 f3 q3 k3 g3
              have l3 : h3.1 77 0 = nI (wN S c) := by rw [k3 77 (by omega)]; simp (disch := omega) only [xle_t, xle_f, xlt_t, xlt_f, xeq_t, xeq_f, xle0_t, xle0_f, xlt0_f, x0lt_t, x0lt_f, x0le_t, xeq0_t, xeq0_f, xin, xem_f, xme_f, xlem_f, xlm_f, xml_t, xmle_t, nI_clamp, nI_add, pk_mul, pk_sub, zI_s, zI_k, zI_o, zL_s, zL_k, zL_o, zR_s, zR_k, zR_o, zIL, zIR, zIN, zLI, zLR, zLN, zRI, zRL, zRN, true_and, and_true, not_true_eq_false, not_false_eq_true, true_implies, false_implies, implies_true, forall_const, if_true, if_false, eq_self, false_and, and_false, implies_true, nI_l, ylle_t, ylle_f, xcl_t, xcl_f, l0]
              refine u_X0_lay_63 (d1' := d - 1) r3 (by omega) ?_
              simp (disch := omega) only [xle_t, xle_f, xlt_t, xlt_f, xeq_t, xeq_f, xle0_t, xle0_f, xlt0_f, x0lt_t, x0lt_f, x0le_t, xeq0_t, xeq0_f, xin, xem_f, xme_f, xlem_f, xlm_f, xml_t, xmle_t, nI_clamp, nI_add, pk_mul, pk_sub, zI_s, zI_k, zI_o, zL_s, zL_k, zL_o, zR_s, zR_k, zR_o, zIL, zIR, zIN, zLI, zLR, zLN, zRI, zRL, zRN, true_and, and_true, not_true_eq_false, not_false_eq_true, true_implies, false_implies, implies_true, forall_const, if_true, if_false, eq_self, false_and, and_false, implies_true, nI_l, ylle_t, ylle_f, xcl_t, xcl_f, l3]
              refine ih (c + 1) (by omega) _ (zRf_I r3 77 0 (nI (wN S c + 1))) (zF.trans f3 (zF_I _ _ _ (by omega))) q3 ⟨?_, fun i hi => ?_⟩ _
              · rw [zI_s]
                show _ = nI (wN S (c + 1))
                rw [ns]
              · have hi' : i < wN S c + 1 := by rw [← ns]; exact hi
                show _ = nI (C.2.1 (aMb S (c + 1) i)) ∧ _ = nI (256 * cB C (aMb S (c + 1) i) (C.2.1 (aMb S (c + 1) i))) ∧ ∀ j, j ≤ 6 → _ = nI (256 * cB C (aMb S (c + 1) i) j)
                rw [ms, zI_o _ _ _ (by omega), zI_o _ _ _ (by omega), zI_o _ _ _ (by omega), k3 78 (by omega), k3 79 (by omega)]
                by_cases y : i = wN S c
                · rw [y, kU_s]
                  refine ⟨by simp (disch := omega) only [xle_t, xle_f, xlt_t, xlt_f, xeq_t, xeq_f, xle0_t, xle0_f, xlt0_f, x0lt_t, x0lt_f, x0le_t, xeq0_t, xeq0_f, xin, xem_f, xme_f, xlem_f, xlm_f, xml_t, xmle_t, nI_clamp, nI_add, pk_mul, pk_sub, zI_s, zI_k, zI_o, zL_s, zL_k, zL_o, zR_s, zR_k, zR_o, zIL, zIR, zIN, zLI, zLR, zLN, zRI, zRL, zRN, true_and, and_true, not_true_eq_false, not_false_eq_true, true_implies, false_implies, implies_true, forall_const, if_true, if_false, eq_self, false_and, and_false, implies_true, nI_l, ylle_t, ylle_f, xcl_t, xcl_f], by simp (disch := omega) only [xle_t, xle_f, xlt_t, xlt_f, xeq_t, xeq_f, xle0_t, xle0_f, xlt0_f, x0lt_t, x0lt_f, x0le_t, xeq0_t, xeq0_f, xin, xem_f, xme_f, xlem_f, xlm_f, xml_t, xmle_t, nI_clamp, nI_add, pk_mul, pk_sub, zI_s, zI_k, zI_o, zL_s, zL_k, zL_o, zR_s, zR_k, zR_o, zIL, zIR, zIN, zLI, zLR, zLN, zRI, zRL, zRN, true_and, and_true, not_true_eq_false, not_false_eq_true, true_implies, false_implies, implies_true, forall_const, if_true, if_false, eq_self, false_and, and_false, implies_true, nI_l, ylle_t, ylle_f, xcl_t, xcl_f]; rfl, fun j hj => g3 j (by omega)⟩
                · rw [kU_o _ _ y, k3 (81 + i) (by omega)]
                  obtain ⟨y1, y2, y3⟩ := l'.2 i (show i < wN S c by omega)
                  refine ⟨?_, ?_, fun j hj => ?_⟩
                  · rw [zI_o _ _ _ (by omega), zI_k _ _ _ y]; exact y1
                  · rw [zI_k _ _ _ y, zI_o _ _ _ (by omega)]; exact y2
                  · rw [zI_o _ _ _ (by omega), zI_o _ _ _ (by omega)]; exact y3 j hj
            | succ k ih2 =>
              intro j hj h3 r3 f3 q3 k3 g3
              have l3 : h3.1 77 0 = nI (wN S c) := by rw [k3 77 (by omega)]; simp (disch := omega) only [xle_t, xle_f, xlt_t, xlt_f, xeq_t, xeq_f, xle0_t, xle0_f, xlt0_f, x0lt_t, x0lt_f, x0le_t, xeq0_t, xeq0_f, xin, xem_f, xme_f, xlem_f, xlm_f, xml_t, xmle_t, nI_clamp, nI_add, pk_mul, pk_sub, zI_s, zI_k, zI_o, zL_s, zL_k, zL_o, zR_s, zR_k, zR_o, zIL, zIR, zIN, zLI, zLR, zLN, zRI, zRL, zRN, true_and, and_true, not_true_eq_false, not_false_eq_true, true_implies, false_implies, implies_true, forall_const, if_true, if_false, eq_self, false_and, and_false, implies_true, nI_l, ylle_t, ylle_f, xcl_t, xcl_f, l0]
              refine u_X0_lay_63 (d1' := d - 1) r3 (by omega) ?_
              simp (disch := omega) only [xle_t, xle_f, xlt_t, xlt_f, xeq_t, xeq_f, xle0_t, xle0_f, xlt0_f, x0lt_t, x0lt_f, x0le_t, xeq0_t, xeq0_f, xin, xem_f, xme_f, xlem_f, xlm_f, xml_t, xmle_t, nI_clamp, nI_add, pk_mul, pk_sub, zI_s, zI_k, zI_o, zL_s, zL_k, zL_o, zR_s, zR_k, zR_o, zIL, zIR, zIN, zLI, zLR, zLN, zRI, zRL, zRN, true_and, and_true, not_true_eq_false, not_false_eq_true, true_implies, false_implies, implies_true, forall_const, if_true, if_false, eq_self, false_and, and_false, implies_true, nI_l, ylle_t, ylle_f, xcl_t, xcl_f, l3]
              have z3 : zokO h3 16 2 := zo r3 (by decide) rfl
              refine ⟨z3, ?_⟩
              have hA3 : cAt C h3 16 := by
                unfold cAt
                rw [f3.i (by omega), f3.i (a := 16 + 1) (by omega), f3.i (a := 16 + 2) (by omega), f3.i (a := 16 + 3) (by omega), f3.i (a := 16 + 4) (by omega)]
                exact hA
              refine c_sbe r3 hA3 z3 hC hcC (by omega) (by omega) ?_
              refine u_X0_lay_88 ?_
              simp (disch := omega) only [xle_t, xle_f, xlt_t, xlt_f, xeq_t, xeq_f, xle0_t, xle0_f, xlt0_f, x0lt_t, x0lt_f, x0le_t, xeq0_t, xeq0_f, xin, xem_f, xme_f, xlem_f, xlm_f, xml_t, xmle_t, nI_clamp, nI_add, pk_mul, pk_sub, zI_s, zI_k, zI_o, zL_s, zL_k, zL_o, zR_s, zR_k, zR_o, zIL, zIR, zIN, zLI, zLR, zLN, zRI, zRL, zRN, true_and, and_true, not_true_eq_false, not_false_eq_true, true_implies, false_implies, implies_true, forall_const, if_true, if_false, eq_self, false_and, and_false, implies_true, nI_l, ylle_t, ylle_f, xcl_t, xcl_f, zok81 r3]
              refine ih2 (j + 1) (by omega) _ r3 (zF.trans f3 (zF_I _ _ _ (by omega))) q3 (fun a ha => ?_) (fun i hi => ?_)
              · rw [zI_o _ _ _ ha]
                exact k3 a ha
              · by_cases y : i = j
                · rw [y, zI_s]
                · rw [zI_k _ _ _ y]
                  exact g3 i (by omega)
          exact L2 7 0 (by omega) _ r1 F2 q' (fun a _ => rfl) (fun i hi => by omega)
        · have tf : S.testBit c = false := Bool.eq_false_iff.mpr tb
          have bb := xbtS (S := S) (c := c) (by omega) (by omega)
          rw [eq_true tf] at bb
          simp (disch := omega) only [xle_t, xle_f, xlt_t, xlt_f, xeq_t, xeq_f, xle0_t, xle0_f, xlt0_f, x0lt_t, x0lt_f, x0le_t, xeq0_t, xeq0_f, xin, xem_f, xme_f, xlem_f, xlm_f, xml_t, xmle_t, nI_clamp, nI_add, pk_mul, pk_sub, zI_s, zI_k, zI_o, zL_s, zL_k, zL_o, zR_s, zR_k, zR_o, zIL, zIR, zIN, zLI, zLR, zLN, zRI, zRL, zRN, true_and, and_true, not_true_eq_false, not_false_eq_true, true_implies, false_implies, implies_true, forall_const, if_true, if_false, eq_self, false_and, and_false, implies_true, nI_l, ylle_t, ylle_f, xcl_t, xcl_f, e16, l0, bb]
          refine ih (c + 1) (by omega) h' r' f' q' ?_ _
          have e1 : wN S (c + 1) = wN S c := by rw [wN_s, tf]; rfl
          have e2 : aMb S (c + 1) = aMb S c := if_neg tb
          unfold aX
          rw [e1, e2]
          exact l'
      · have e4 : wN S c = 2 := by omega
        rw [e4] at l0
        simp (disch := omega) only [xle_t, xle_f, xlt_t, xlt_f, xeq_t, xeq_f, xle0_t, xle0_f, xlt0_f, x0lt_t, x0lt_f, x0le_t, xeq0_t, xeq0_f, xin, xem_f, xme_f, xlem_f, xlm_f, xml_t, xmle_t, nI_clamp, nI_add, pk_mul, pk_sub, zI_s, zI_k, zI_o, zL_s, zL_k, zL_o, zR_s, zR_k, zR_o, zIL, zIR, zIN, zLI, zLR, zLN, zRI, zRL, zRN, true_and, and_true, not_true_eq_false, not_false_eq_true, true_implies, false_implies, implies_true, forall_const, if_true, if_false, eq_self, false_and, and_false, implies_true, nI_l, ylle_t, ylle_f, xcl_t, xcl_f, e16, l0]
        obtain ⟨e1, e2⟩ := aMb_end (S := S) (c := c) (by omega) (fun i q1 q2 => Bool.eq_false_iff.mpr (fun t => by
          have h1 : wN S (i + 1) = wN S i + 1 := by rw [wN_s, if_pos t]
          have h2 := wN_mono (S := S) q1
          have h3 := wN_mono (S := S) (show i + 1 ≤ 8 by omega)
          omega))
        refine kk h' r' f' q' ?_
        unfold aX
        rw [e1, e2]
        exact l'
  refine L C.1 0 (by omega) _ (zRf_I hr 77 0 (nI 0)) (zF_I _ _ _ (by omega)) rfl ⟨?_, fun i hi => absurd hi (by show ¬ i < 0; omega)⟩ _
  rw [zI_s]
  rfl
/-- what can be told along -/
def aTm (C : CE) (S t : Nat) : Bool := (aT (aX C S 8) 12 (fun _ => 0) 0 0).any (fun x => decide (x = t))
theorem aTm_f (hC : cOK C) (hS : S < 2 ^ C.1) (h2 : wN S 8 ≤ 2) : tF (aTm C S) := fun t ht => by
  obtain ⟨b, hb, e⟩ := List.any_eq_true.mp ht
  have e' := of_decide_eq_true e
  have := aT_p (aX_ok hC hS h2) aI_0.1 hb
  rw [e'] at this
  exact ⟨by omega, by omega⟩
theorem aAny_m (hC : cOK C) (hS : S < 2 ^ C.1) (h2 : wN S 8 ≤ 2) (i : Nat) : aAny (aT (aX C S 8) 12 (fun _ => 0) 0 0) i = aTm C S (16 * i) := by
  refine any_c (fun b hb => decide_eq_decide.mpr ?_)
  have := aT_p (aX_ok hC hS h2) aI_0.1 hb
  omega
theorem c_ama {S0 : Nat → Bool} (hr : zRf h) (hX : aOK (aX C S 8)) (hA : aAt (aX C S 8) h) (hK : wKw S0 (h.2.1 102)) (hd : 30 ≤ d) (kk : ∀ h', zRf h' → zF (fun a => (a < 77 ∨ 96 < a) ∧ a ≠ 102) h h' → wKw (fun i => S0 i || aAny (aT (aX C S 8) 12 (fun _ => 0) 0 0) i) (h'.2.1 102) → Q none h') : Con mX0_markAll d 0 0 [.inr (.inr 77), .inr (.inr 101)] h Q := by
  have n2 := hX.1
  have r1 : zRf (zsR h 77 1 101) := zRf_R hr _ rfl (by have := hr.n; omega)
  refine u_X0_markAll hr ?_
  have L : ∀ k q, q + k = 4 → ∀ h', zRf h' → zF (fun a => a ≠ 84) (zsR h 77 1 101) h' → (∀ j, j < q → h'.1 84 j = nI 0) → J mX0_markAll d 0 0 Q 0 0 7 [some (.inr (.inr 77)), some (.inr (.inr 101)), some (.inl (nI q))] [] h' := by
    intro k
    induction k with
    | zero =>
      intro q hq h' r' f' g'
      refine u_X0_markAll_7 (d1' := d - 1) r' (by omega) ?_
      simp (disch := omega) only [xle_t, xle_f, xlt_t, xlt_f, xeq_t, xeq_f, xle0_t, xle0_f, xlt0_f, x0lt_t, x0lt_f, x0le_t, xeq0_t, xeq0_f, xin, xem_f, xme_f, xlem_f, xlm_f, xml_t, xmle_t, nI_clamp, nI_add, pk_mul, pk_sub, zI_s, zI_k, zI_o, zL_s, zL_k, zL_o, zR_s, zR_k, zR_o, zIL, zIR, zIN, zLI, zLR, zLN, zRI, zRL, zRN, true_and, and_true, not_true_eq_false, not_false_eq_true, true_implies, false_implies, implies_true, forall_const, if_true, if_false, eq_self, false_and, and_false, implies_true, nI_l, ylle_t, ylle_f, xcl_t, xcl_f]
      have ei : ∀ a, a ≠ 84 → h'.1 a = h.1 a := fun a ha => f'.i ha
      refine c_ago hX 12 0 (fun _ => 0) 0 0 S0 h' (d - 1) _ rfl aI_0.1 r' ?_ ?_ (fun j hj => g' j (by omega)) ?_ (by omega) (fun h2 r2 f2 K2 => u_X0_markAll_34 (kk h2 r2 ?_ K2))
      · refine ⟨by rw [ei 77 (by omega)]; exact hA.1, fun i hi => ?_⟩
        obtain ⟨y1, y2, y3⟩ := hA.2 i hi
        exact ⟨by rw [ei 78 (by omega)]; exact y1, by rw [ei 79 (by omega)]; exact y2, fun j hj => by rw [ei (81 + i) (by omega)]; exact y3 j hj⟩
      · rw [f'.r (by omega), zR_s]
      · rw [f'.l (by omega)]; exact hK
      · exact ((zF_R _ _ _ (by omega)).trans (zF.weak f' (fun a q => by omega))).trans (zF.weak f2 (fun a q => by omega))
    | succ k ih =>
      intro q hq h' r' f' g'
      have z8 : zokA h' 84 20 (nI q) = True := zok84 r' (i := 0) (by omega) (by omega)
      refine u_X0_markAll_7 (d1' := d - 1) r' (by omega) ?_
      simp (disch := omega) only [xle_t, xle_f, xlt_t, xlt_f, xeq_t, xeq_f, xle0_t, xle0_f, xlt0_f, x0lt_t, x0lt_f, x0le_t, xeq0_t, xeq0_f, xin, xem_f, xme_f, xlem_f, xlm_f, xml_t, xmle_t, nI_clamp, nI_add, pk_mul, pk_sub, zI_s, zI_k, zI_o, zL_s, zL_k, zL_o, zR_s, zR_k, zR_o, zIL, zIR, zIN, zLI, zLR, zLN, zRI, zRL, zRN, true_and, and_true, not_true_eq_false, not_false_eq_true, true_implies, false_implies, implies_true, forall_const, if_true, if_false, eq_self, false_and, and_false, implies_true, nI_l, ylle_t, ylle_f, xcl_t, xcl_f, z8]
      refine ih (q + 1) (by omega) _ r' (f'.trans (zF_I _ _ _ (by omega))) (fun j hj => ?_)
      by_cases y : j = q
      · rw [y, zI_s]
      · rw [zI_k _ _ _ y]; exact g' j (by omega)
  exact L 4 0 (by omega) _ r1 zF.rfl (fun j hj => by omega)
/-- the class's marks along, if they are of some set -/
def aMk (C : CE) (h : MH) : Prop := h.1 101 0 = nI 0 ∨ ∃ S, (0 < S ∧ S < 2 ^ C.1 ∧ wN S 8 ≤ 2) ∧ h.1 101 0 = nI S ∧ wKw (fun i => aTm C S (16 * i)) (h.2.1 102)
theorem aMk.keep {C : CE} {h h' : MH} (q : aMk C h) (e1 : h'.1 101 = h.1 101) (e2 : h'.2.1 102 = h.2.1 102) : aMk C h' := by
  unfold aMk
  rw [e1, e2]
  exact q
end AL
section AM
variable {B : BK} {h : MH} {d : Nat} {Q : Option MV → MH → Prop}
theorem c_aal {S : Nat} (hr : zRf h) (hA : bAt B h 15) (hB : bOK B) (hS : 0 < S ∧ S < 2 ^ B.1.1 ∧ wN S 8 ≤ 2) (hm : aMk B.1 h) (hd : 31 ≤ d) (kk : ∀ h', zRf h' → zF (fun a => (a < 77 ∨ 96 < a) ∧ a ≠ 101 ∧ a ≠ 102) h h' → aMk B.1 h' → wKw (fun i => aTm B.1 S (16 * i)) (h'.2.1 102) → Q (some (.inr (.inr 101))) h') : Con mX10_allAlong d 0 0 [.inr (.inr 1), .inl (nI S)] h Q := by
  have hC := hB.1
  have b8 := p2_8 hC.1
  have new : Con mX3_clear (d - 1) 0 0 [.inr (.inr 101)] h (zrv fun h' => J mX10_allAlong d 0 0 Q 0 0 18 [some (.inr (.inr 1)), some (.inl (nI S))] [] h') := by
    refine c_clr (w := 102) hr (zo hr (by decide) rfl) (by omega) (fun h1 r1 f1 e1 K1 => ?_)
    refine u_X10_allAlong_18 (d1' := d - 1) r1 (by omega) ?_
    have hA1 : cAt B.1 h1 16 := by unfold cAt; rw [e1]; exact hA.c16
    refine c_aly r1 hA1 hC hS.2.1 hS.2.2 (by omega) (fun h2 r2 f2 q2 l2 => ?_)
    refine u_X10_allAlong_33 (d1' := d - 1) r2 (by omega) ?_
    refine c_ama r2 (aX_ok hC hS.2.1 hS.2.2) l2 (S0 := fun _ => false) (by rw [f2.l (by omega)]; exact K1) (by omega) (fun h3 r3 f3 K3 => ?_)
    refine u_X10_allAlong_44 r3 ?_
    have K4 : wKw (fun i => aTm B.1 S (16 * i)) (h3.2.1 102) := fun i hi => by rw [K3 i hi]; show (false || _) = _; rw [Bool.false_or]; exact aAny_m hC hS.2.1 hS.2.2 i
    refine kk _ r3 ?_ (Or.inr ⟨S, hS, zI_s _ _ _ _, K4⟩) K4
    exact (((zF.weak f1 (fun a q => by omega)).trans (zF.weak f2 (fun a q => by omega))).trans (zF.weak f3 (fun a q => by omega))).trans (zF_I _ _ _ (by omega))
  refine u_X10_allAlong (d1' := d - 1) hr (by omega) ?_
  rcases id hm with z | ⟨S0, hS0, z, K0⟩
  · simp (disch := omega) only [xle_t, xle_f, xlt_t, xlt_f, xeq_t, xeq_f, xle0_t, xle0_f, xlt0_f, x0lt_t, x0lt_f, x0le_t, xeq0_t, xeq0_f, xin, xem_f, xme_f, xlem_f, xlm_f, xml_t, xmle_t, nI_clamp, nI_add, pk_mul, pk_sub, zI_s, zI_k, zI_o, zL_s, zL_k, zL_o, zR_s, zR_k, zR_o, zIL, zIR, zIN, zLI, zLR, zLN, zRI, zRL, zRN, true_and, and_true, not_true_eq_false, not_false_eq_true, true_implies, false_implies, implies_true, forall_const, if_true, if_false, eq_self, false_and, and_false, implies_true, nI_l, ylle_t, ylle_f, xcl_t, xcl_f, z]
    exact new
  · by_cases e : S0 = S
    · rw [e] at z K0
      simp (disch := omega) only [xle_t, xle_f, xlt_t, xlt_f, xeq_t, xeq_f, xle0_t, xle0_f, xlt0_f, x0lt_t, x0lt_f, x0le_t, xeq0_t, xeq0_f, xin, xem_f, xme_f, xlem_f, xlm_f, xml_t, xmle_t, nI_clamp, nI_add, pk_mul, pk_sub, zI_s, zI_k, zI_o, zL_s, zL_k, zL_o, zR_s, zR_k, zR_o, zIL, zIR, zIN, zLI, zLR, zLN, zRI, zRL, zRN, true_and, and_true, not_true_eq_false, not_false_eq_true, true_implies, false_implies, implies_true, forall_const, if_true, if_false, eq_self, false_and, and_false, implies_true, nI_l, ylle_t, ylle_f, xcl_t, xcl_f, z]
      exact kk h hr zF.rfl hm K0
    · simp (disch := omega) only [xle_t, xle_f, xlt_t, xlt_f, xeq_t, xeq_f, xle0_t, xle0_f, xlt0_f, x0lt_t, x0lt_f, x0le_t, xeq0_t, xeq0_f, xin, xem_f, xme_f, xlem_f, xlm_f, xml_t, xmle_t, nI_clamp, nI_add, pk_mul, pk_sub, zI_s, zI_k, zI_o, zL_s, zL_k, zL_o, zR_s, zR_k, zR_o, zIL, zIR, zIN, zLI, zLR, zLN, zRI, zRL, zRN, true_and, and_true, not_true_eq_false, not_false_eq_true, true_implies, false_implies, implies_true, forall_const, if_true, if_false, eq_self, false_and, and_false, implies_true, nI_l, ylle_t, ylle_f, xcl_t, xcl_f, z]
      exact new
end AM
