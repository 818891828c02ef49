/-! ===== numbers of plans and candles as they are asked for ===== -/
theorem zix_neg {x : Int32} {n : Nat} (h : x < 0) : zix x n = none := by unfold zix; rw [if_pos h]
theorem zix_ge {x : Int32} {n : Nat} (hn : n < 2 ^ 31) (h : nI n ≤ x) : zix x n = none ∧ ¬ x < 0 := by
  have h0 : ¬ x < 0 := by
    intro q
    rw [Int32.lt_iff_toInt_lt] at q
    rw [Int32.le_iff_toInt_le, nI_toInt hn] at h
    have : (0 : Int32).toInt = 0 := rfl
    omega
  refine ⟨?_, h0⟩
  obtain ⟨j, hj, rfl⟩ := nI_of h0
  rw [nI_leI hn hj] at h
  unfold zix
  rw [if_neg h0, nI_clamp hj, if_neg (by omega)]
theorem y64_neg {x : Int32} (h : x < 0) : (lN 0 ≤ x.toInt64) = False := eq_false (fun q => by
  rw [wle, w64] at q
  rw [Int32.lt_iff_toInt_lt] at h
  have : (0 : Int32).toInt = 0 := rfl
  have : (lN 0).toInt = 0 := rfl
  omega)
theorem y64_nn {x : Int32} (h : ¬ x < 0) : (lN 0 ≤ x.toInt64) = True := eq_true (by
  rw [wle, w64]
  rw [Int32.lt_iff_toInt_lt] at h
  have : (0 : Int32).toInt = 0 := rfl
  have : (lN 0).toInt = 0 := rfl
  omega)
theorem y64_gt {x : Int32} {n k : Nat} (h : nI n ≤ x) (hk : k < n) (hn : n < 2 ^ 31) : (x.toInt64 ≤ lN k) = False := eq_false (fun q => by
  rw [wle, w64, pk_lT (by omega)] at q
  rw [Int32.le_iff_toInt_le, nI_toInt hn] at h
  omega)
theorem y64_ge {x : Int32} {n : Nat} (h : nI n ≤ x) (hn : n < 2 ^ 31) : (x.toInt64 ≤ (nI n - nI 1).toInt64) = False := eq_false (fun q => by
  rw [Int32.le_iff_toInt_le, nI_toInt hn] at h
  rw [wle, w64, w64] at q
  by_cases h0 : n = 0
  · subst h0
    rw [show (nI 0 - nI 1).toInt = -1 from by decide] at q
    omega
  · rw [pk_sub (by omega), nI_toInt (by omega)] at q
    omega)
theorem y_3 : (3 : Int64) = lN 3 := rfl
theorem y_4 : (4 : Int64) = lN 4 := rfl
/-- how a number among the first n may stand -/
theorem ix3 (x : Int32) {n : Nat} (hn : n < 2 ^ 31) : (zix x n = none ∧ (x < 0) = True ∧ (lN 0 ≤ x.toInt64) = False) ∨ (zix x n = none ∧ (x < 0) = False ∧ (nI n ≤ x) = True ∧ (lN 0 ≤ x.toInt64) = True ∧ (x.toInt64 ≤ (nI n - nI 1).toInt64) = False ∧ (∀ k, k + 1 = n → (x.toInt64 ≤ lN k) = False) ∧ (∀ k, k + 1 = n → (x ≤ nI k) = False) ∧ x ≠ -(nI 1)) ∨ ∃ j, j < n ∧ x = nI j ∧ zix x n = some j := by
  rcases pk_ix x hn with h | h | ⟨j, hj, rfl⟩
  · exact Or.inl ⟨zix_neg h, eq_true h, y64_neg h⟩
  · obtain ⟨h1, h2⟩ := zix_ge hn h
    refine Or.inr (Or.inl ⟨h1, eq_false h2, eq_true h, y64_nn h2, y64_ge h hn, fun k hk => y64_gt h (by omega) hn, ?_, ?_⟩)
    · intro k hk
      refine eq_false (fun q => ?_)
      rw [Int32.le_iff_toInt_le, nI_toInt (by omega)] at q
      rw [Int32.le_iff_toInt_le, nI_toInt hn] at h
      omega
    · intro z
      rw [z] at h2
      exact h2 (by decide)
  · exact Or.inr (Or.inr ⟨j, hj, rfl, zix_n hj hn⟩)
theorem mF.k {h h' : MH} (f : mF h h') : mK h h' := ⟨f.1.weak (fun a q => by omega), f.2 5 (by omega), f.2 13 (by omega), f.2 14 (by omega), f.2 28 (by omega)⟩
theorem mK_116 {h h' : MH} (f : zF (fun a => a ≠ 116) h h') : mK h h' := ⟨f.weak (fun a q => by omega), by rw [f.i (by omega)], by rw [f.i (by omega)], by rw [f.i (by omega)], by rw [f.i (by omega)]⟩
theorem mP.of {B : BK} {h : MH} {p lo : Nat} (hA : bIn B (h.1 112) 0) (hp : p < 4) (hl : h.1 111 28 = loI lo) : mP (B.2 p) p lo B.1.1 h := by
  have := hA.2 p hp
  rw [Nat.zero_add] at this
  exact ⟨this, hl, hA.1.1⟩
theorem n_ast {C : CE} {h : MH} {d : Nat} {Q : Option MV → MH → Prop} (hr : zRf h) (hA : cIn C (h.1 112) 0) (hC : cOK C) (hd : 2 ≤ d) (kk : ∀ h', zRf h' → zF (fun a => a ≠ 116) h h' → mFi (fT C) h' → Q none h') : Con mX11_asTold d 0 0 [.inr (.inr 111)] h Q := by
  have h8 := hC.1
  refine u_X11_asTold ?_
  have L : ∀ m c, c + m = 8 → ∀ g : MH, zRf g → zF (fun a => a ≠ 116) h g → (∀ x, x < c → g.1 116 x = nI (fT C x)) → J mX11_asTold d 0 0 Q 0 0 2 [some (.inr (.inr 111)), some (.inl (nI c))] [] g := by
    intro m
    induction m with
    | zero =>
      intro c hc g rg fg hx
      obtain rfl : c = 8 := by omega
      refine u_X11_asTold_2 (d1' := 0) rg (by omega) ?_
      simp (disch := omega) only [xle_t, xle_f, xlt_t, xlt_f, xeq_t, xeq_f, xle0_t, xle0_f, xlt0_f, x0lt_t, x0lt_f, x0le_t, xeq0_t, xeq0_f, xin, xem_f, xme_f, xlem_f, xlm_f, xml_t, xmle_t, nI_clamp, nI_add, pk_mul, pk_sub, zI_s, zI_k, zI_o, zL_s, zL_k, zL_o, zR_s, zR_k, zR_o, zIL, zIR, zIN, zLI, zLR, zLN, zRI, zRL, zRN, true_and, and_true, not_true_eq_false, not_false_eq_true, true_implies, false_implies, implies_true, forall_const, if_true, if_false, eq_self, false_and, and_false, implies_true, nI_l, ylle_t, ylle_f, xcl_t, xcl_f]
      exact kk g rg fg hx
    | succ m ih =>
      intro c hc g rg fg hx
      have e0 : g.1 112 = h.1 112 := fg.i (by omega)
      have hA' : cIn C (g.1 112) 0 := by rw [e0]; exact hA
      have hz : zokA g 116 20 (nI c) := zia rg (by decide) rfl (vp_in_nI (by omega) (by omega))
      have nxt : ∀ v : Nat, v = fT C c → J mX11_asTold d 0 0 Q 0 0 2 [some (.inr (.inr 111)), some (.inl (nI (c + 1)))] [] (zsI g 116 c (nI v)) := by
        intro v hv
        refine ih (c + 1) (by omega) _ rg (fg.trans (zF_I _ _ _ (by omega))) (fun x hxc => ?_)
        by_cases y : x = c
        · rw [y, zI_s, hv]
        · rw [zI_k _ _ _ y]; exact hx x (by omega)
      refine u_X11_asTold_2 (d1' := 1) rg (by omega) ?_
      have g0 : g.1 112 0 = nI C.1 := hA'.1
      by_cases cn : c < C.1
      · simp (disch := omega) only [xle_t, xle_f, xlt_t, xlt_f, xeq_t, xeq_f, xle0_t, xle0_f, xlt0_f, x0lt_t, x0lt_f, x0le_t, xeq0_t, xeq0_f, xin, xem_f, xme_f, xlem_f, xlm_f, xml_t, xmle_t, nI_clamp, nI_add, pk_mul, pk_sub, zI_s, zI_k, zI_o, zL_s, zL_k, zL_o, zR_s, zR_k, zR_o, zIL, zIR, zIN, zLI, zLR, zLN, zRI, zRL, zRN, true_and, and_true, not_true_eq_false, not_false_eq_true, true_implies, false_implies, implies_true, forall_const, if_true, if_false, eq_self, false_and, and_false, implies_true, nI_l, ylle_t, ylle_f, xcl_t, xcl_f, g0]
        refine m_rest rg hA' hC cn (by omega) ?_
        refine u_X11_asTold_28 ⟨hz, ?_⟩
        simp (disch := omega) only [xle_t, xle_f, xlt_t, xlt_f, xeq_t, xeq_f, xle0_t, xle0_f, xlt0_f, x0lt_t, x0lt_f, x0le_t, xeq0_t, xeq0_f, xin, xem_f, xme_f, xlem_f, xlm_f, xml_t, xmle_t, nI_clamp, nI_add, pk_mul, pk_sub, zI_s, zI_k, zI_o, zL_s, zL_k, zL_o, zR_s, zR_k, zR_o, zIL, zIR, zIN, zLI, zLR, zLN, zRI, zRL, zRN, true_and, and_true, not_true_eq_false, not_false_eq_true, true_implies, false_implies, implies_true, forall_const, if_true, if_false, eq_self, false_and, and_false, implies_true, nI_l, ylle_t, ylle_f, xcl_t, xcl_f]
        exact nxt _ (if_pos cn).symm
      · simp (disch := omega) only [xle_t, xle_f, xlt_t, xlt_f, xeq_t, xeq_f, xle0_t, xle0_f, xlt0_f, x0lt_t, x0lt_f, x0le_t, xeq0_t, xeq0_f, xin, xem_f, xme_f, xlem_f, xlm_f, xml_t, xmle_t, nI_clamp, nI_add, pk_mul, pk_sub, zI_s, zI_k, zI_o, zL_s, zL_k, zL_o, zR_s, zR_k, zR_o, zIL, zIR, zIN, zLI, zLR, zLN, zRI, zRL, zRN, true_and, and_true, not_true_eq_false, not_false_eq_true, true_implies, false_implies, implies_true, forall_const, if_true, if_false, eq_self, false_and, and_false, implies_true, nI_l, ylle_t, ylle_f, xcl_t, xcl_f, g0, hz]
        exact nxt 0 (if_neg cn).symm
  exact L 8 0 (by omega) h hr zF.rfl (fun x hx => absurd hx (Nat.not_lt_zero _))
