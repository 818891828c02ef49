/-! ===== rows: numbers, write ===== -/
abbrev RW : Type := Nat → Option (Nat × Nat × (Nat → Int64))
def rwOK (W : RW) : Prop := ∀ r s n f, W r = some (s, n, f) → s < 4 ∧ n ≤ 40
def rwC (W : RW) (h : MH) : Prop := ∀ r, r < 4 → (W r = none → h.1 (103 + 2 * r) 0 = nI 0) ∧ ∀ s n f, W r = some (s, n, f) → h.1 (103 + 2 * r) 0 = nI 1 ∧ h.1 (103 + 2 * r) 1 = nI s ∧ h.1 (103 + 2 * r) 2 = nI n ∧ ∀ i, i < n → h.2.1 (104 + 2 * r) i = f i
def rwM (W : RW) (h : MH) : Prop := ∀ r, r < 4 → (W r = none → h.1 140 r = -(nI 1)) ∧ ∀ s n f, W r = some (s, n, f) → h.1 140 r = nI s ∧ h.1 141 r = nI n ∧ ∀ i, i < n → h.2.1 142 (40 * r + i) = f i
theorem rwC.keep {W : RW} {h h' : MH} (q : rwC W h) (f : zF (fun a => 103 ≤ a ∧ a ≤ 110) h h') : rwC W h' := by
  intro r hr
  rw [f.i (a := 103 + 2 * r) (by omega), f.l (a := 104 + 2 * r) (by omega)]
  exact q r hr
theorem rwM.keep {W : RW} {h h' : MH} (q : rwM W h) (f : zF (fun a => 140 ≤ a ∧ a ≤ 142) h h') : rwM W h' := by
  intro r hr
  rw [f.i (a := 140) (by omega), f.i (a := 141) (by omega), f.l (a := 142) (by omega)]
  exact q r hr
theorem mK.w {W : RW} {h h' : MH} (k : mK h h') (q : rwM W h) : rwM W h' := q.keep (k.1.weak (fun a z => by omega))
theorem zrw' {h : MH} (hr : zRf h) {r : Nat} (hq : r < 4) : zokO h (103 + 2 * r) 7 := by
  have := zrw hr (vp_in_nI hq (by omega))
  rw [nI_clamp (by omega)] at this
  exact this
/-- a row is begun -/
noncomputable def gNum (x y z : Int32) : Int32 := gC 4 x (fun _ => gC 4 y (fun _ => match zix z 41 with
  | none => -(nI 3)
  | some _ => nI 0))
noncomputable def wNum (W : RW) (x y z : Int32) : RW := match zix x 4, zix y 4, zix z 41 with
  | some r, some s, some n => kU W r (some (s, n, fun _ => lN 0))
  | _, _, _ => W
theorem rwOK_num {W : RW} (h : rwOK W) (x y z : Int32) : rwOK (wNum W x y z) := by
  unfold wNum
  cases hx : zix x 4 with
  | none => exact h
  | some r =>
    cases hy : zix y 4 with
    | none => exact h
    | some s =>
      cases hz : zix z 41 with
      | none => exact h
      | some n =>
        intro r' s' n' f' e
        have e' : kU W r (some (s, n, fun _ => lN 0)) r' = some (s', n', f') := e
        by_cases q : r' = r
        · rw [q, kU_s] at e'
          cases e'
          have := (zix_s hy).1
          have := (zix_s hz).1
          omega
        · rw [kU_o _ _ q] at e'
          exact h r' s' n' f' e'
/-- what the class changes of rows -/
def cW (h h' : MH) : Prop := zF (fun a => a < 103 ∨ 110 < a) h h'
/-- what the reference changes of rows -/
def mW (h h' : MH) : Prop := zF (fun a => a ≠ 111 ∧ (a < 140 ∨ 142 < a)) h h' ∧ ∀ k, k ≠ 0 → h'.1 111 k = h.1 111 k
theorem mW_0 (h : MH) : mW h (zsI h 111 0 (nI 0)) := ⟨zF_I _ _ _ (by omega), fun k hk => zI_k _ _ _ hk⟩
theorem y_40 : (40 : Int64) = lN 40 := rfl
theorem o_num {W : RW} {h : MH} {d : Nat} {x y z : Int32} {Q : Option MV → MH → Prop} (hr : zRf h) (hW : rwC W h) (hd : 1 ≤ d) (kk : ∀ h', zRf h' → cW h h' → rwC (wNum W x y z) h' → Q (some (.inl (gNum x y z))) h') : Con mX10_numbers d 0 0 [.inr (.inr 1), .inl x, .inl y, .inl z] h Q := by
  unfold gNum wNum at kk
  refine u_X10_numbers (d1' := 0) hr (by omega) (by omega) ?_
  rcases ix3 x (n := 4) (by omega) with ⟨q, x1, _⟩ | ⟨q, x1, x2, _⟩ | ⟨r, hq, rfl, q⟩
  · rw [gC_none q] at kk
    simp only [q] at kk
    simp (disch := omega) only [xle_t, xle_f, xlt_t, xlt_f, xeq_t, xeq_f, xle0_t, xle0_f, xlt0_f, x0lt_t, x0lt_f, x0le_t, xeq0_t, xeq0_f, xin, xem_f, xme_f, xlem_f, xlm_f, xml_t, xmle_t, nI_clamp, nI_add, pk_mul, pk_sub, zI_s, zI_k, zI_o, zL_s, zL_k, zL_o, zR_s, zR_k, zR_o, zIL, zIR, zIN, zLI, zLR, zLN, zRI, zRL, zRN, true_and, and_true, not_true_eq_false, not_false_eq_true, true_implies, false_implies, implies_true, forall_const, if_true, if_false, eq_self, false_and, and_false, implies_true, nI_l, ylle_t, ylle_f, xcl_t, xcl_f, x1]
    exact kk h hr zF.rfl hW
  · rw [gC_none q] at kk
    simp only [q] at kk
    simp (disch := omega) only [xle_t, xle_f, xlt_t, xlt_f, xeq_t, xeq_f, xle0_t, xle0_f, xlt0_f, x0lt_t, x0lt_f, x0le_t, xeq0_t, xeq0_f, xin, xem_f, xme_f, xlem_f, xlm_f, xml_t, xmle_t, nI_clamp, nI_add, pk_mul, pk_sub, zI_s, zI_k, zI_o, zL_s, zL_k, zL_o, zR_s, zR_k, zR_o, zIL, zIR, zIN, zLI, zLR, zLN, zRI, zRL, zRN, true_and, and_true, not_true_eq_false, not_false_eq_true, true_implies, false_implies, implies_true, forall_const, if_true, if_false, eq_self, false_and, and_false, implies_true, nI_l, ylle_t, ylle_f, xcl_t, xcl_f, x1, x2]
    exact kk h hr zF.rfl hW
  rw [gC_some hq (by omega)] at kk
  rcases ix3 y (n := 4) (by omega) with ⟨q2, x1, _⟩ | ⟨q2, x1, x2, _⟩ | ⟨s, hs, rfl, q2⟩
  · rw [gC_none q2] at kk
    simp only [q, q2] at kk
    simp (disch := omega) only [xle_t, xle_f, xlt_t, xlt_f, xeq_t, xeq_f, xle0_t, xle0_f, xlt0_f, x0lt_t, x0lt_f, x0le_t, xeq0_t, xeq0_f, xin, xem_f, xme_f, xlem_f, xlm_f, xml_t, xmle_t, nI_clamp, nI_add, pk_mul, pk_sub, zI_s, zI_k, zI_o, zL_s, zL_k, zL_o, zR_s, zR_k, zR_o, zIL, zIR, zIN, zLI, zLR, zLN, zRI, zRL, zRN, true_and, and_true, not_true_eq_false, not_false_eq_true, true_implies, false_implies, implies_true, forall_const, if_true, if_false, eq_self, false_and, and_false, implies_true, nI_l, ylle_t, ylle_f, xcl_t, xcl_f, x1]
    exact kk h hr zF.rfl hW
  · rw [gC_none q2] at kk
    simp only [q, q2] at kk
    have x3 : (y < nI 4) = False := eq_false (fun w => Int32.not_lt.mpr (of_eq_true x2) w)
    simp (disch := omega) only [xle_t, xle_f, xlt_t, xlt_f, xeq_t, xeq_f, xle0_t, xle0_f, xlt0_f, x0lt_t, x0lt_f, x0le_t, xeq0_t, xeq0_f, xin, xem_f, xme_f, xlem_f, xlm_f, xml_t, xmle_t, nI_clamp, nI_add, pk_mul, pk_sub, zI_s, zI_k, zI_o, zL_s, zL_k, zL_o, zR_s, zR_k, zR_o, zIL, zIR, zIN, zLI, zLR, zLN, zRI, zRL, zRN, true_and, and_true, not_true_eq_false, not_false_eq_true, true_implies, false_implies, implies_true, forall_const, if_true, if_false, eq_self, false_and, and_false, implies_true, nI_l, ylle_t, ylle_f, xcl_t, xcl_f, x1, x3]
    exact kk h hr zF.rfl hW
  rw [gC_some hs (by omega)] at kk
  rcases ix3 z (n := 41) (by omega) with ⟨q3, x1, _⟩ | ⟨q3, x1, _, _, _, _, x2, _⟩ | ⟨n, hn, rfl, q3⟩
  · simp only [q, q2, q3] at kk
    simp (disch := omega) only [xle_t, xle_f, xlt_t, xlt_f, xeq_t, xeq_f, xle0_t, xle0_f, xlt0_f, x0lt_t, x0lt_f, x0le_t, xeq0_t, xeq0_f, xin, xem_f, xme_f, xlem_f, xlm_f, xml_t, xmle_t, nI_clamp, nI_add, pk_mul, pk_sub, zI_s, zI_k, zI_o, zL_s, zL_k, zL_o, zR_s, zR_k, zR_o, zIL, zIR, zIN, zLI, zLR, zLN, zRI, zRL, zRN, true_and, and_true, not_true_eq_false, not_false_eq_true, true_implies, false_implies, implies_true, forall_const, if_true, if_false, eq_self, false_and, and_false, implies_true, nI_l, ylle_t, ylle_f, xcl_t, xcl_f, x1]
    exact kk h hr zF.rfl hW
  · simp only [q, q2, q3] at kk
    simp (disch := omega) only [xle_t, xle_f, xlt_t, xlt_f, xeq_t, xeq_f, xle0_t, xle0_f, xlt0_f, x0lt_t, x0lt_f, x0le_t, xeq0_t, xeq0_f, xin, xem_f, xme_f, xlem_f, xlm_f, xml_t, xmle_t, nI_clamp, nI_add, pk_mul, pk_sub, zI_s, zI_k, zI_o, zL_s, zL_k, zL_o, zR_s, zR_k, zR_o, zIL, zIR, zIN, zLI, zLR, zLN, zRI, zRL, zRN, true_and, and_true, not_true_eq_false, not_false_eq_true, true_implies, false_implies, implies_true, forall_const, if_true, if_false, eq_self, false_and, and_false, implies_true, nI_l, ylle_t, ylle_f, xcl_t, xcl_f, x1, x2 40 rfl]
    exact kk h hr zF.rfl hW
  simp only [q, q2, q3] at kk
  simp (disch := omega) only [xle_t, xle_f, xlt_t, xlt_f, xeq_t, xeq_f, xle0_t, xle0_f, xlt0_f, x0lt_t, x0lt_f, x0le_t, xeq0_t, xeq0_f, xin, xem_f, xme_f, xlem_f, xlm_f, xml_t, xmle_t, nI_clamp, nI_add, pk_mul, pk_sub, zI_s, zI_k, zI_o, zL_s, zL_k, zL_o, zR_s, zR_k, zR_o, zIL, zIR, zIN, zLI, zLR, zLN, zRI, zRL, zRN, true_and, and_true, not_true_eq_false, not_false_eq_true, true_implies, false_implies, implies_true, forall_const, if_true, if_false, eq_self, false_and, and_false, implies_true, nI_l, ylle_t, ylle_f, xcl_t, xcl_f]
  have ho := zrw' hr hq
  refine u_X7_begin ⟨ho, ?_⟩
  have L : ∀ m i, i + m = 40 → ∀ g : MH, zRf g → cW h g → (∀ a, 103 ≤ a → a ≤ 110 → a ≠ 103 + 2 * r → a ≠ 104 + 2 * r → g.1 a = h.1 a ∧ g.2.1 a = h.2.1 a) → g.1 (103 + 2 * r) 0 = nI 1 → g.1 (103 + 2 * r) 1 = nI s → g.1 (103 + 2 * r) 2 = nI n → (∀ j, j < i → g.2.1 (104 + 2 * r) j = lN 0) → J mX7_begin 0 0 0 (zrv fun h' => J mX10_numbers d 0 0 Q 0 0 43 [some (.inr (.inr 1)), some (.inl (nI r)), some (.inl (nI s)), some (.inl (nI n))] [] h') 0 0 17 [some (.inr (.inr (103 + 2 * r))), some (.inl (nI s)), some (.inl (nI n)), some (.inl (nI i))] [] g := by
    intro m
    induction m with
    | zero =>
      intro i hi g rg fg go g0 g1 g2 g3
      refine u_X7_begin_17 rg ?_
      simp (disch := omega) only [xle_t, xle_f, xlt_t, xlt_f, xeq_t, xeq_f, xle0_t, xle0_f, xlt0_f, x0lt_t, x0lt_f, x0le_t, xeq0_t, xeq0_f, xin, xem_f, xme_f, xlem_f, xlm_f, xml_t, xmle_t, nI_clamp, nI_add, pk_mul, pk_sub, zI_s, zI_k, zI_o, zL_s, zL_k, zL_o, zR_s, zR_k, zR_o, zIL, zIR, zIN, zLI, zLR, zLN, zRI, zRL, zRN, true_and, and_true, not_true_eq_false, not_false_eq_true, true_implies, false_implies, implies_true, forall_const, if_true, if_false, eq_self, false_and, and_false, implies_true, nI_l, ylle_t, ylle_f, xcl_t, xcl_f]
      refine u_X10_numbers_43 (kk g rg fg (fun r' hr' => ?_))
      by_cases e : r' = r
      · subst e
        refine ⟨fun w => ?_, fun s' n' f' w => ?_⟩
        · rw [kU_s] at w; cases w
        · rw [kU_s] at w
          cases w
          exact ⟨g0, g1, g2, fun j hj => g3 j (by omega)⟩
      · rw [kU_o _ _ e, (go (103 + 2 * r') (by omega) (by omega) (by omega) (by omega)).1, (go (104 + 2 * r') (by omega) (by omega) (by omega) (by omega)).2]
        exact hW r' hr'
    | succ m ih =>
      intro i hi g rg fg go g0 g1 g2 g3
      have ho' := zrw' rg hq
      refine u_X7_begin_17 rg ?_
      have e104 : 103 + 2 * r + 1 = 104 + 2 * r := by omega
      rw [e104]
      simp (disch := omega) only [xle_t, xle_f, xlt_t, xlt_f, xeq_t, xeq_f, xle0_t, xle0_f, xlt0_f, x0lt_t, x0lt_f, x0le_t, xeq0_t, xeq0_f, xin, xem_f, xme_f, xlem_f, xlm_f, xml_t, xmle_t, nI_clamp, nI_add, pk_mul, pk_sub, zI_s, zI_k, zI_o, zL_s, zL_k, zL_o, zR_s, zR_k, zR_o, zIL, zIR, zIN, zLI, zLR, zLN, zRI, zRL, zRN, true_and, and_true, not_true_eq_false, not_false_eq_true, true_implies, false_implies, implies_true, forall_const, if_true, if_false, eq_self, false_and, and_false, implies_true, nI_l, ylle_t, ylle_f, xcl_t, xcl_f, ho']
      refine ih (i + 1) (by omega) _ rg (fg.trans (zF_L _ _ _ (by omega))) (fun a h1 h2 h3 h4 => ?_) g0 g1 g2 (fun j hj => ?_)
      · rw [zL_o _ _ _ h4]; exact go a h1 h2 h3 h4
      · by_cases e : j = i
        · rw [e, zL_s]
        · rw [zL_k _ _ _ e]; exact g3 j (by omega)
  refine L 40 0 (by omega) _ hr (((zF_I _ _ _ (by omega)).trans (zF_I _ _ _ (by omega))).trans (zF_I _ _ _ (by omega))) (fun a h1 h2 h3 h4 => ?_) ?_ ?_ ?_ (fun j hj => absurd hj (Nat.not_lt_zero _))
  · rw [zI_o _ _ _ h3, zI_o _ _ _ h3, zI_o _ _ _ h3]; exact ⟨rfl, rfl⟩
  · simp (disch := omega) only [xle_t, xle_f, xlt_t, xlt_f, xeq_t, xeq_f, xle0_t, xle0_f, xlt0_f, x0lt_t, x0lt_f, x0le_t, xeq0_t, xeq0_f, xin, xem_f, xme_f, xlem_f, xlm_f, xml_t, xmle_t, nI_clamp, nI_add, pk_mul, pk_sub, zI_s, zI_k, zI_o, zL_s, zL_k, zL_o, zR_s, zR_k, zR_o, zIL, zIR, zIN, zLI, zLR, zLN, zRI, zRL, zRN, true_and, and_true, not_true_eq_false, not_false_eq_true, true_implies, false_implies, implies_true, forall_const, if_true, if_false, eq_self, false_and, and_false, implies_true, nI_l, ylle_t, ylle_f, xcl_t, xcl_f]
  · simp (disch := omega) only [xle_t, xle_f, xlt_t, xlt_f, xeq_t, xeq_f, xle0_t, xle0_f, xlt0_f, x0lt_t, x0lt_f, x0le_t, xeq0_t, xeq0_f, xin, xem_f, xme_f, xlem_f, xlm_f, xml_t, xmle_t, nI_clamp, nI_add, pk_mul, pk_sub, zI_s, zI_k, zI_o, zL_s, zL_k, zL_o, zR_s, zR_k, zR_o, zIL, zIR, zIN, zLI, zLR, zLN, zRI, zRL, zRN, true_and, and_true, not_true_eq_false, not_false_eq_true, true_implies, false_implies, implies_true, forall_const, if_true, if_false, eq_self, false_and, and_false, implies_true, nI_l, ylle_t, ylle_f, xcl_t, xcl_f]
  · simp (disch := omega) only [xle_t, xle_f, xlt_t, xlt_f, xeq_t, xeq_f, xle0_t, xle0_f, xlt0_f, x0lt_t, x0lt_f, x0le_t, xeq0_t, xeq0_f, xin, xem_f, xme_f, xlem_f, xlm_f, xml_t, xmle_t, nI_clamp, nI_add, pk_mul, pk_sub, zI_s, zI_k, zI_o, zL_s, zL_k, zL_o, zR_s, zR_k, zR_o, zIL, zIR, zIN, zLI, zLR, zLN, zRI, zRL, zRN, true_and, and_true, not_true_eq_false, not_false_eq_true, true_implies, false_implies, implies_true, forall_const, if_true, if_false, eq_self, false_and, and_false, implies_true, nI_l, ylle_t, ylle_f, xcl_t, xcl_f]
theorem n_num {W : RW} {h : MH} {d : Nat} {x y z : Int32} {Q : Option MV → MH → Prop} (hr : zRf h) (hW : rwM W h) (hWo : rwOK W) (hd : 1 ≤ d) (kk : ∀ h', zRf h' → mW h h' → rwM (wNum W x y z) h' → Q (some (.inl (gNum x y z))) h') : Con mX11_numbers d 0 0 [.inr (.inr 111), .inl x, .inl y, .inl z] h Q := by
  unfold gNum wNum at kk
  have hW0 : rwM W (zsI h 111 0 (nI 0)) := hW
  refine u_X11_numbers hr (by omega) ?_
  rcases ix3 x (n := 4) (by omega) with ⟨q, _, x1⟩ | ⟨q, _, _, x1, _, x2, _⟩ | ⟨r, hq, rfl, q⟩
  · rw [gC_none q] at kk
    simp only [q] at kk
    simp (disch := omega) only [xle_t, xle_f, xlt_t, xlt_f, xeq_t, xeq_f, xle0_t, xle0_f, xlt0_f, x0lt_t, x0lt_f, x0le_t, xeq0_t, xeq0_f, xin, xem_f, xme_f, xlem_f, xlm_f, xml_t, xmle_t, nI_clamp, nI_add, pk_mul, pk_sub, zI_s, zI_k, zI_o, zL_s, zL_k, zL_o, zR_s, zR_k, zR_o, zIL, zIR, zIN, zLI, zLR, zLN, zRI, zRL, zRN, true_and, and_true, not_true_eq_false, not_false_eq_true, true_implies, false_implies, implies_true, forall_const, if_true, if_false, eq_self, false_and, and_false, implies_true, nI_l, ylle_t, ylle_f, xcl_t, xcl_f, x1]
    exact kk _ hr (mW_0 h) hW0
  · rw [gC_none q] at kk
    simp only [q] at kk
    simp (disch := omega) only [xle_t, xle_f, xlt_t, xlt_f, xeq_t, xeq_f, xle0_t, xle0_f, xlt0_f, x0lt_t, x0lt_f, x0le_t, xeq0_t, xeq0_f, xin, xem_f, xme_f, xlem_f, xlm_f, xml_t, xmle_t, nI_clamp, nI_add, pk_mul, pk_sub, zI_s, zI_k, zI_o, zL_s, zL_k, zL_o, zR_s, zR_k, zR_o, zIL, zIR, zIN, zLI, zLR, zLN, zRI, zRL, zRN, true_and, and_true, not_true_eq_false, not_false_eq_true, true_implies, false_implies, implies_true, forall_const, if_true, if_false, eq_self, false_and, and_false, implies_true, nI_l, ylle_t, ylle_f, xcl_t, xcl_f, x1, y_3, x2 3 rfl]
    exact kk _ hr (mW_0 h) hW0
  rw [gC_some hq (by omega)] at kk
  rcases ix3 y (n := 4) (by omega) with ⟨q2, _, x1⟩ | ⟨q2, _, _, x1, _, x2, _⟩ | ⟨s, hs, rfl, q2⟩
  · rw [gC_none q2] at kk
    simp only [q, q2] at kk
    simp (disch := omega) only [xle_t, xle_f, xlt_t, xlt_f, xeq_t, xeq_f, xle0_t, xle0_f, xlt0_f, x0lt_t, x0lt_f, x0le_t, xeq0_t, xeq0_f, xin, xem_f, xme_f, xlem_f, xlm_f, xml_t, xmle_t, nI_clamp, nI_add, pk_mul, pk_sub, zI_s, zI_k, zI_o, zL_s, zL_k, zL_o, zR_s, zR_k, zR_o, zIL, zIR, zIN, zLI, zLR, zLN, zRI, zRL, zRN, true_and, and_true, not_true_eq_false, not_false_eq_true, true_implies, false_implies, implies_true, forall_const, if_true, if_false, eq_self, false_and, and_false, implies_true, nI_l, ylle_t, ylle_f, xcl_t, xcl_f, x1, y_3]
    exact kk _ hr (mW_0 h) hW0
  · rw [gC_none q2] at kk
    simp only [q, q2] at kk
    simp (disch := omega) only [xle_t, xle_f, xlt_t, xlt_f, xeq_t, xeq_f, xle0_t, xle0_f, xlt0_f, x0lt_t, x0lt_f, x0le_t, xeq0_t, xeq0_f, xin, xem_f, xme_f, xlem_f, xlm_f, xml_t, xmle_t, nI_clamp, nI_add, pk_mul, pk_sub, zI_s, zI_k, zI_o, zL_s, zL_k, zL_o, zR_s, zR_k, zR_o, zIL, zIR, zIN, zLI, zLR, zLN, zRI, zRL, zRN, true_and, and_true, not_true_eq_false, not_false_eq_true, true_implies, false_implies, implies_true, forall_const, if_true, if_false, eq_self, false_and, and_false, implies_true, nI_l, ylle_t, ylle_f, xcl_t, xcl_f, x1, y_3, x2 3 rfl]
    exact kk _ hr (mW_0 h) hW0
  rw [gC_some hs (by omega)] at kk
  rcases ix3 z (n := 41) (by omega) with ⟨q3, _, x1⟩ | ⟨q3, _, _, x1, _, x2, _⟩ | ⟨n, hn, rfl, q3⟩
  · simp only [q, q2, q3] at kk
    simp (disch := omega) only [xle_t, xle_f, xlt_t, xlt_f, xeq_t, xeq_f, xle0_t, xle0_f, xlt0_f, x0lt_t, x0lt_f, x0le_t, xeq0_t, xeq0_f, xin, xem_f, xme_f, xlem_f, xlm_f, xml_t, xmle_t, nI_clamp, nI_add, pk_mul, pk_sub, zI_s, zI_k, zI_o, zL_s, zL_k, zL_o, zR_s, zR_k, zR_o, zIL, zIR, zIN, zLI, zLR, zLN, zRI, zRL, zRN, true_and, and_true, not_true_eq_false, not_false_eq_true, true_implies, false_implies, implies_true, forall_const, if_true, if_false, eq_self, false_and, and_false, implies_true, nI_l, ylle_t, ylle_f, xcl_t, xcl_f, x1, y_3]
    exact kk _ hr (mW_0 h) hW0
  · simp only [q, q2, q3] at kk
    simp (disch := omega) only [xle_t, xle_f, xlt_t, xlt_f, xeq_t, xeq_f, xle0_t, xle0_f, xlt0_f, x0lt_t, x0lt_f, x0le_t, xeq0_t, xeq0_f, xin, xem_f, xme_f, xlem_f, xlm_f, xml_t, xmle_t, nI_clamp, nI_add, pk_mul, pk_sub, zI_s, zI_k, zI_o, zL_s, zL_k, zL_o, zR_s, zR_k, zR_o, zIL, zIR, zIN, zLI, zLR, zLN, zRI, zRL, zRN, true_and, and_true, not_true_eq_false, not_false_eq_true, true_implies, false_implies, implies_true, forall_const, if_true, if_false, eq_self, false_and, and_false, implies_true, nI_l, ylle_t, ylle_f, xcl_t, xcl_f, x1, y_3, y_40, x2 40 rfl]
    exact kk _ hr (mW_0 h) hW0
  simp only [q, q2, q3] at kk
  simp (disch := omega) only [xle_t, xle_f, xlt_t, xlt_f, xeq_t, xeq_f, xle0_t, xle0_f, xlt0_f, x0lt_t, x0lt_f, x0le_t, xeq0_t, xeq0_f, xin, xem_f, xme_f, xlem_f, xlm_f, xml_t, xmle_t, nI_clamp, nI_add, pk_mul, pk_sub, zI_s, zI_k, zI_o, zL_s, zL_k, zL_o, zR_s, zR_k, zR_o, zIL, zIR, zIN, zLI, zLR, zLN, zRI, zRL, zRN, true_and, and_true, not_true_eq_false, not_false_eq_true, true_implies, false_implies, implies_true, forall_const, if_true, if_false, eq_self, false_and, and_false, implies_true, nI_l, ylle_t, ylle_f, xcl_t, xcl_f, y_3, y_40]
  have L : ∀ m i, i + m = n → ∀ g : MH, zRf g → mW h g → (∀ x, x ≠ r → g.1 140 x = h.1 140 x ∧ g.1 141 x = h.1 141 x) → g.1 140 r = nI s → g.1 141 r = nI n → (∀ j, j < 40 * r ∨ 40 * r + 40 ≤ j → g.2.1 142 j = h.2.1 142 j) → (∀ j, j < i → g.2.1 142 (40 * r + j) = lN 0) → J mX11_numbers d 0 0 Q 0 0 64 [some (.inr (.inr 111)), some (.inl (nI r)), some (.inl (nI s)), some (.inl (nI n)), some (.inl (nI i))] [] g := by
    intro m
    induction m with
    | zero =>
      intro i hi g rg fg go g0 g1 g2 g3
      refine u_X11_numbers_64 rg ?_
      simp (disch := omega) only [xle_t, xle_f, xlt_t, xlt_f, xeq_t, xeq_f, xle0_t, xle0_f, xlt0_f, x0lt_t, x0lt_f, x0le_t, xeq0_t, xeq0_f, xin, xem_f, xme_f, xlem_f, xlm_f, xml_t, xmle_t, nI_clamp, nI_add, pk_mul, pk_sub, zI_s, zI_k, zI_o, zL_s, zL_k, zL_o, zR_s, zR_k, zR_o, zIL, zIR, zIN, zLI, zLR, zLN, zRI, zRL, zRN, true_and, and_true, not_true_eq_false, not_false_eq_true, true_implies, false_implies, implies_true, forall_const, if_true, if_false, eq_self, false_and, and_false, implies_true, nI_l, ylle_t, ylle_f, xcl_t, xcl_f]
      refine kk g rg fg (fun r' hr' => ?_)
      by_cases e : r' = r
      · subst e
        refine ⟨fun w => ?_, fun s' n' f' w => ?_⟩
        · rw [kU_s] at w; cases w
        · rw [kU_s] at w
          cases w
          exact ⟨g0, g1, fun j hj => g3 j (by omega)⟩
      · rw [kU_o _ _ e, (go r' e).1, (go r' e).2]
        refine ⟨(hW r' hr').1, fun s' n' f' w => ?_⟩
        obtain ⟨b1, b2, b3⟩ := (hW r' hr').2 s' n' f' w
        refine ⟨b1, b2, fun j hj => ?_⟩
        have := (hWo r' s' n' f' w).2
        rw [g2 _ (by omega)]; exact b3 j hj
    | succ m ih =>
      intro i hi g rg fg go g0 g1 g2 g3
      refine u_X11_numbers_64 rg ?_
      simp (disch := omega) only [xle_t, xle_f, xlt_t, xlt_f, xeq_t, xeq_f, xle0_t, xle0_f, xlt0_f, x0lt_t, x0lt_f, x0le_t, xeq0_t, xeq0_f, xin, xem_f, xme_f, xlem_f, xlm_f, xml_t, xmle_t, nI_clamp, nI_add, pk_mul, pk_sub, zI_s, zI_k, zI_o, zL_s, zL_k, zL_o, zR_s, zR_k, zR_o, zIL, zIR, zIN, zLI, zLR, zLN, zRI, zRL, zRN, true_and, and_true, not_true_eq_false, not_false_eq_true, true_implies, false_implies, implies_true, forall_const, if_true, if_false, eq_self, false_and, and_false, implies_true, nI_l, ylle_t, ylle_f, xcl_t, xcl_f]
      refine ih (i + 1) (by omega) _ rg ⟨fg.1.trans (zF_L _ _ _ (by omega)), fg.2⟩ go g0 g1 (fun j hj => ?_) (fun j hj => ?_)
      · rw [zL_k _ _ _ (by omega)]; exact g2 j hj
      · by_cases e : j = i
        · rw [e, zL_s]
        · rw [zL_k _ _ _ (by omega)]; exact g3 j (by omega)
  refine L n 0 (by omega) _ hr ⟨((zF_I _ _ _ (by omega)).trans (zF_I _ _ _ (by omega))).trans (zF_I _ _ _ (by omega)), fun k hk => ?_⟩ (fun x hx => ?_) ?_ ?_ (fun j _ => rfl) (fun j hj => absurd hj (Nat.not_lt_zero _))
  · simp (disch := omega) only [xle_t, xle_f, xlt_t, xlt_f, xeq_t, xeq_f, xle0_t, xle0_f, xlt0_f, x0lt_t, x0lt_f, x0le_t, xeq0_t, xeq0_f, xin, xem_f, xme_f, xlem_f, xlm_f, xml_t, xmle_t, nI_clamp, nI_add, pk_mul, pk_sub, zI_s, zI_k, zI_o, zL_s, zL_k, zL_o, zR_s, zR_k, zR_o, zIL, zIR, zIN, zLI, zLR, zLN, zRI, zRL, zRN, true_and, and_true, not_true_eq_false, not_false_eq_true, true_implies, false_implies, implies_true, forall_const, if_true, if_false, eq_self, false_and, and_false, implies_true, nI_l, ylle_t, ylle_f, xcl_t, xcl_f]
  · simp (disch := omega) only [xle_t, xle_f, xlt_t, xlt_f, xeq_t, xeq_f, xle0_t, xle0_f, xlt0_f, x0lt_t, x0lt_f, x0le_t, xeq0_t, xeq0_f, xin, xem_f, xme_f, xlem_f, xlm_f, xml_t, xmle_t, nI_clamp, nI_add, pk_mul, pk_sub, zI_s, zI_k, zI_o, zL_s, zL_k, zL_o, zR_s, zR_k, zR_o, zIL, zIR, zIN, zLI, zLR, zLN, zRI, zRL, zRN, true_and, and_true, not_true_eq_false, not_false_eq_true, true_implies, false_implies, implies_true, forall_const, if_true, if_false, eq_self, false_and, and_false, implies_true, nI_l, ylle_t, ylle_f, xcl_t, xcl_f]
  · simp (disch := omega) only [xle_t, xle_f, xlt_t, xlt_f, xeq_t, xeq_f, xle0_t, xle0_f, xlt0_f, x0lt_t, x0lt_f, x0le_t, xeq0_t, xeq0_f, xin, xem_f, xme_f, xlem_f, xlm_f, xml_t, xmle_t, nI_clamp, nI_add, pk_mul, pk_sub, zI_s, zI_k, zI_o, zL_s, zL_k, zL_o, zR_s, zR_k, zR_o, zIL, zIR, zIN, zLI, zLR, zLN, zRI, zRL, zRN, true_and, and_true, not_true_eq_false, not_false_eq_true, true_implies, false_implies, implies_true, forall_const, if_true, if_false, eq_self, false_and, and_false, implies_true, nI_l, ylle_t, ylle_f, xcl_t, xcl_f]
  · simp (disch := omega) only [xle_t, xle_f, xlt_t, xlt_f, xeq_t, xeq_f, xle0_t, xle0_f, xlt0_f, x0lt_t, x0lt_f, x0le_t, xeq0_t, xeq0_f, xin, xem_f, xme_f, xlem_f, xlm_f, xml_t, xmle_t, nI_clamp, nI_add, pk_mul, pk_sub, zI_s, zI_k, zI_o, zL_s, zL_k, zL_o, zR_s, zR_k, zR_o, zIL, zIR, zIN, zLI, zLR, zLN, zRI, zRL, zRN, true_and, and_true, not_true_eq_false, not_false_eq_true, true_implies, false_implies, implies_true, forall_const, if_true, if_false, eq_self, false_and, and_false, implies_true, nI_l, ylle_t, ylle_f, xcl_t, xcl_f]
/-! write -/
def wCut (s : Nat) (v : Int64) : Int64 := if s = 0 then v.toInt32.toInt8.toInt32.toInt64 else if s = 1 then v.toInt32.toInt16.toInt32.toInt64 else if s = 2 then v.toInt32.toInt64 else v
noncomputable def gWri (W : RW) (x y : Int32) (v : Int64) : Int64 := match zix x 4 with
  | none => (-2 : Int64)
  | some r => match W r with
    | none => (-6 : Int64)
    | some (s, n, _) => match zix y n with
      | none => (-7 : Int64)
      | some _ => wCut s v
noncomputable def wWri (W : RW) (x y : Int32) (v : Int64) : RW := match zix x 4 with
  | none => W
  | some r => match W r with
    | none => W
    | some (s, n, f) => match zix y n with
      | none => W
      | some i => kU W r (some (s, n, kU f i (wCut s v)))
theorem rwOK_wri {W : RW} (h : rwOK W) (x y : Int32) (v : Int64) : rwOK (wWri W x y v) := by
  unfold wWri
  cases hx : zix x 4 with
  | none => exact h
  | some r =>
    rcases hw : W r with _ | ⟨s, n, f⟩
    · simp only [hw]; exact h
    · simp only [hw]
      cases hy : zix y n with
      | none => exact h
      | some i =>
        intro r' s' n' f' e
        have e' : kU W r (some (s, n, kU f i (wCut s v))) r' = some (s', n', f') := e
        by_cases q : r' = r
        · rw [q, kU_s] at e'
          cases e'
          exact h r s n f hw
        · rw [kU_o _ _ q] at e'
          exact h r' s' n' f' e'
theorem c_put7 {r s n i : Nat} {h : MH} {d : Nat} {v : Int64} {Q : Option MV → MH → Prop} (hr : zRf h) (hq : r < 4) (hs : s < 4) (hn : n ≤ 40) (hi : i < n) (e1 : h.1 (103 + 2 * r) 1 = nI s) (e2 : h.1 (103 + 2 * r) 2 = nI n) (hd : 1 ≤ d) (kk : Q none (zsL h (104 + 2 * r) i (wCut s v))) : Con mX7_put d 0 0 [.inr (.inr (103 + 2 * r)), .inl (nI i), .inr (.inl v)] h Q := by
  have ho := zrw' hr hq
  refine u_X7_put (d1' := 0) hr (by omega) ?_
  simp (disch := omega) only [xle_t, xle_f, xlt_t, xlt_f, xeq_t, xeq_f, xle0_t, xle0_f, xlt0_f, x0lt_t, x0lt_f, x0le_t, xeq0_t, xeq0_f, xin, xem_f, xme_f, xlem_f, xlm_f, xml_t, xmle_t, nI_clamp, nI_add, pk_mul, pk_sub, zI_s, zI_k, zI_o, zL_s, zL_k, zL_o, zR_s, zR_k, zR_o, zIL, zIR, zIN, zLI, zLR, zLN, zRI, zRL, zRN, true_and, and_true, not_true_eq_false, not_false_eq_true, true_implies, false_implies, implies_true, forall_const, if_true, if_false, eq_self, false_and, and_false, implies_true, nI_l, ylle_t, ylle_f, xcl_t, xcl_f, ho, e2]
  refine u_X7_cut ⟨ho, ?_⟩
  rw [e1]
  have hz : zokA h (103 + 2 * r + 1) 21 (nI i) := zca (n := 40) hr ho (by decide) (by decide) (vp_in_nI (by omega) (by omega))
  have fin : ∀ x : Int64, x = wCut s v → J mX7_put d 0 0 Q 0 0 22 [some (.inr (.inr (103 + 2 * r))), some (.inl (nI i)), some (.inr (.inl v)), none] [.inr (.inl x), .inl (nI i), .inr (.inr (103 + 2 * r + 1))] h := by
    intro x hx
    refine u_X7_put_22 ⟨hz, ?_⟩
    rw [nI_clamp (by omega), hx, show 103 + 2 * r + 1 = 104 + 2 * r by omega]
    exact kk
  have h4 : s = 0 ∨ s = 1 ∨ s = 2 ∨ s = 3 := by omega
  rcases h4 with y | y | y | y
  · subst y
    exact s_tableIn dX7_cut_4 (by decide) (by decide) (off := 28) rfl (tgt := 32) rfl (u_X7_cut_32 (fin _ rfl))
  · subst y
    exact s_tableIn dX7_cut_4 (by decide) (by decide) (off := 33) rfl (tgt := 37) rfl (u_X7_cut_37 (fin _ rfl))
  · subst y
    exact s_tableIn dX7_cut_4 (by decide) (by decide) (off := 38) rfl (tgt := 42) rfl (u_X7_cut_42 (fin _ rfl))
  · subst y
    exact s_tableOut dX7_cut_4 (Or.inr (by decide)) (tgt := 46) rfl (u_X7_cut_46 (fin _ rfl))
theorem rwC_put {W : RW} {h : MH} {r s n i : Nat} {f : Nat → Int64} {v : Int64} (hW : rwC W h) (hw : W r = some (s, n, f)) (hq : r < 4) : rwC (kU W r (some (s, n, kU f i v))) (zsL h (104 + 2 * r) i v) := by
  intro r' hr'
  by_cases e : r' = r
  · subst e
    obtain ⟨b0, b1, b2, b3⟩ := (hW r' hq).2 s n f hw
    refine ⟨fun w => ?_, fun s' n' f' w => ?_⟩
    · rw [kU_s] at w; cases w
    · rw [kU_s] at w
      cases w
      refine ⟨b0, b1, b2, fun j hj => ?_⟩
      by_cases y : j = i
      · rw [y, zL_s, kU_s]
      · rw [zL_k _ _ _ y, kU_o _ _ y]; exact b3 j hj
  · rw [kU_o _ _ e]
    rw [zL_o _ _ _ (show 104 + 2 * r' ≠ 104 + 2 * r by omega)]
    exact hW r' hr'
theorem rwM_put {W : RW} {h : MH} {r s n i : Nat} {f : Nat → Int64} {v : Int64} (hW : rwM W h) (hWo : rwOK W) (hw : W r = some (s, n, f)) (hq : r < 4) (hi : i < 40) : rwM (kU W r (some (s, n, kU f i v))) (zsL h 142 (40 * r + i) v) := by
  intro r' hr'
  by_cases e : r' = r
  · subst e
    obtain ⟨b0, b1, b2⟩ := (hW r' hq).2 s n f hw
    refine ⟨fun w => ?_, fun s' n' f' w => ?_⟩
    · rw [kU_s] at w; cases w
    · rw [kU_s] at w
      cases w
      refine ⟨b0, b1, fun j hj => ?_⟩
      by_cases y : j = i
      · rw [y, zL_s, kU_s]
      · rw [zL_k _ _ _ (by omega), kU_o _ _ y]; exact b2 j hj
  · rw [kU_o _ _ e]
    refine ⟨(hW r' hr').1, fun s' n' f' w => ?_⟩
    obtain ⟨b0, b1, b2⟩ := (hW r' hr').2 s' n' f' w
    have := (hWo r' s' n' f' w).2
    refine ⟨b0, b1, fun j hj => ?_⟩
    rw [zL_k _ _ _ (by omega)]; exact b2 j hj
theorem o_wri {W : RW} {h : MH} {d : Nat} {x y : Int32} {v : Int64} {Q : Option MV → MH → Prop} (hr : zRf h) (hW : rwC W h) (hWo : rwOK W) (hd : 2 ≤ d) (kk : ∀ h', zRf h' → cW h h' → rwC (wWri W x y v) h' → Q (some (.inr (.inl (gWri W x y v)))) h') : Con mX10_write d 0 0 [.inr (.inr 1), .inl x, .inl y, .inr (.inl v)] h Q := by
  unfold gWri wWri at kk
  refine u_X10_write (d1' := 1) hr (by omega) (by omega) ?_
  rcases ix3 x (n := 4) (by omega) with ⟨q, x1, _⟩ | ⟨q, x1, x2, _⟩ | ⟨r, hq, rfl, q⟩
  · simp only [q] at kk
    simp (disch := omega) only [xle_t, xle_f, xlt_t, xlt_f, xeq_t, xeq_f, xle0_t, xle0_f, xlt0_f, x0lt_t, x0lt_f, x0le_t, xeq0_t, xeq0_f, xin, xem_f, xme_f, xlem_f, xlm_f, xml_t, xmle_t, nI_clamp, nI_add, pk_mul, pk_sub, zI_s, zI_k, zI_o, zL_s, zL_k, zL_o, zR_s, zR_k, zR_o, zIL, zIR, zIN, zLI, zLR, zLN, zRI, zRL, zRN, true_and, and_true, not_true_eq_false, not_false_eq_true, true_implies, false_implies, implies_true, forall_const, if_true, if_false, eq_self, false_and, and_false, implies_true, nI_l, ylle_t, ylle_f, xcl_t, xcl_f, x1]
    exact kk h hr zF.rfl hW
  · simp only [q] at kk
    simp (disch := omega) only [xle_t, xle_f, xlt_t, xlt_f, xeq_t, xeq_f, xle0_t, xle0_f, xlt0_f, x0lt_t, x0lt_f, x0le_t, xeq0_t, xeq0_f, xin, xem_f, xme_f, xlem_f, xlm_f, xml_t, xmle_t, nI_clamp, nI_add, pk_mul, pk_sub, zI_s, zI_k, zI_o, zL_s, zL_k, zL_o, zR_s, zR_k, zR_o, zIL, zIR, zIN, zLI, zLR, zLN, zRI, zRL, zRN, true_and, and_true, not_true_eq_false, not_false_eq_true, true_implies, false_implies, implies_true, forall_const, if_true, if_false, eq_self, false_and, and_false, implies_true, nI_l, ylle_t, ylle_f, xcl_t, xcl_f, x1, x2]
    exact kk h hr zF.rfl hW
  rcases hw : W r with _ | ⟨s, n, f⟩
  · simp only [q, hw] at kk
    have e0 := (hW r hq).1 hw
    simp (disch := omega) only [xle_t, xle_f, xlt_t, xlt_f, xeq_t, xeq_f, xle0_t, xle0_f, xlt0_f, x0lt_t, x0lt_f, x0le_t, xeq0_t, xeq0_f, xin, xem_f, xme_f, xlem_f, xlm_f, xml_t, xmle_t, nI_clamp, nI_add, pk_mul, pk_sub, zI_s, zI_k, zI_o, zL_s, zL_k, zL_o, zR_s, zR_k, zR_o, zIL, zIR, zIN, zLI, zLR, zLN, zRI, zRL, zRN, true_and, and_true, not_true_eq_false, not_false_eq_true, true_implies, false_implies, implies_true, forall_const, if_true, if_false, eq_self, false_and, and_false, implies_true, nI_l, ylle_t, ylle_f, xcl_t, xcl_f, e0]
    exact kk h hr zF.rfl hW
  obtain ⟨e0, e1, e2, e3⟩ := (hW r hq).2 s n f hw
  obtain ⟨s4, n40⟩ := hWo r s n f hw
  rcases ix3 y (n := n) (by omega) with ⟨q2, x1, _⟩ | ⟨q2, x1, x2, _⟩ | ⟨i, hi, rfl, q2⟩
  · simp only [q, hw, q2] at kk
    simp (disch := omega) only [xle_t, xle_f, xlt_t, xlt_f, xeq_t, xeq_f, xle0_t, xle0_f, xlt0_f, x0lt_t, x0lt_f, x0le_t, xeq0_t, xeq0_f, xin, xem_f, xme_f, xlem_f, xlm_f, xml_t, xmle_t, nI_clamp, nI_add, pk_mul, pk_sub, zI_s, zI_k, zI_o, zL_s, zL_k, zL_o, zR_s, zR_k, zR_o, zIL, zIR, zIN, zLI, zLR, zLN, zRI, zRL, zRN, true_and, and_true, not_true_eq_false, not_false_eq_true, true_implies, false_implies, implies_true, forall_const, if_true, if_false, eq_self, false_and, and_false, implies_true, nI_l, ylle_t, ylle_f, xcl_t, xcl_f, e0, x1]
    exact kk h hr zF.rfl hW
  · simp only [q, hw, q2] at kk
    have x3 : (y < nI n) = False := eq_false (fun w => Int32.not_lt.mpr (of_eq_true x2) w)
    simp (disch := omega) only [xle_t, xle_f, xlt_t, xlt_f, xeq_t, xeq_f, xle0_t, xle0_f, xlt0_f, x0lt_t, x0lt_f, x0le_t, xeq0_t, xeq0_f, xin, xem_f, xme_f, xlem_f, xlm_f, xml_t, xmle_t, nI_clamp, nI_add, pk_mul, pk_sub, zI_s, zI_k, zI_o, zL_s, zL_k, zL_o, zR_s, zR_k, zR_o, zIL, zIR, zIN, zLI, zLR, zLN, zRI, zRL, zRN, true_and, and_true, not_true_eq_false, not_false_eq_true, true_implies, false_implies, implies_true, forall_const, if_true, if_false, eq_self, false_and, and_false, implies_true, nI_l, ylle_t, ylle_f, xcl_t, xcl_f, e0, x1, e2, x3]
    exact kk h hr zF.rfl hW
  simp only [q, hw, q2] at kk
  simp (disch := omega) only [xle_t, xle_f, xlt_t, xlt_f, xeq_t, xeq_f, xle0_t, xle0_f, xlt0_f, x0lt_t, x0lt_f, x0le_t, xeq0_t, xeq0_f, xin, xem_f, xme_f, xlem_f, xlm_f, xml_t, xmle_t, nI_clamp, nI_add, pk_mul, pk_sub, zI_s, zI_k, zI_o, zL_s, zL_k, zL_o, zR_s, zR_k, zR_o, zIL, zIR, zIN, zLI, zLR, zLN, zRI, zRL, zRN, true_and, and_true, not_true_eq_false, not_false_eq_true, true_implies, false_implies, implies_true, forall_const, if_true, if_false, eq_self, false_and, and_false, implies_true, nI_l, ylle_t, ylle_f, xcl_t, xcl_f, e0, e2]
  refine c_put7 hr hq s4 n40 hi e1 e2 (by omega) ?_
  refine u_X10_write_59 hr ?_
  simp (disch := omega) only [xle_t, xle_f, xlt_t, xlt_f, xeq_t, xeq_f, xle0_t, xle0_f, xlt0_f, x0lt_t, x0lt_f, x0le_t, xeq0_t, xeq0_f, xin, xem_f, xme_f, xlem_f, xlm_f, xml_t, xmle_t, nI_clamp, nI_add, pk_mul, pk_sub, zI_s, zI_k, zI_o, zL_s, zL_k, zL_o, zR_s, zR_k, zR_o, zIL, zIR, zIN, zLI, zLR, zLN, zRI, zRL, zRN, true_and, and_true, not_true_eq_false, not_false_eq_true, true_implies, false_implies, implies_true, forall_const, if_true, if_false, eq_self, false_and, and_false, implies_true, nI_l, ylle_t, ylle_f, xcl_t, xcl_f]
  rw [show 103 + 2 * r + 1 = 104 + 2 * r by omega, zL_s]
  exact kk _ hr (zF_L _ _ _ (by omega)) (rwC_put hW hw hq)
theorem n_wri {W : RW} {h : MH} {d : Nat} {x y : Int32} {v : Int64} {Q : Option MV → MH → Prop} (hr : zRf h) (hW : rwM W h) (hWo : rwOK W) (hd : 1 ≤ d) (kk : ∀ h', zRf h' → mW h h' → rwM (wWri W x y v) h' → Q (some (.inr (.inl (gWri W x y v)))) h') : Con mX11_write d 0 0 [.inr (.inr 111), .inl x, .inl y, .inr (.inl v)] h Q := by
  unfold gWri wWri at kk
  have hW0 : rwM W (zsI h 111 0 (nI 0)) := hW
  refine u_X11_write hr (by omega) ?_
  rcases ix3 x (n := 4) (by omega) with ⟨q, _, x1⟩ | ⟨q, _, _, x1, _, x2, _⟩ | ⟨r, hq, rfl, q⟩
  · simp only [q] at kk
    simp (disch := omega) only [xle_t, xle_f, xlt_t, xlt_f, xeq_t, xeq_f, xle0_t, xle0_f, xlt0_f, x0lt_t, x0lt_f, x0le_t, xeq0_t, xeq0_f, xin, xem_f, xme_f, xlem_f, xlm_f, xml_t, xmle_t, nI_clamp, nI_add, pk_mul, pk_sub, zI_s, zI_k, zI_o, zL_s, zL_k, zL_o, zR_s, zR_k, zR_o, zIL, zIR, zIN, zLI, zLR, zLN, zRI, zRL, zRN, true_and, and_true, not_true_eq_false, not_false_eq_true, true_implies, false_implies, implies_true, forall_const, if_true, if_false, eq_self, false_and, and_false, implies_true, nI_l, ylle_t, ylle_f, xcl_t, xcl_f, x1]
    exact kk _ hr (mW_0 h) hW0
  · simp only [q] at kk
    simp (disch := omega) only [xle_t, xle_f, xlt_t, xlt_f, xeq_t, xeq_f, xle0_t, xle0_f, xlt0_f, x0lt_t, x0lt_f, x0le_t, xeq0_t, xeq0_f, xin, xem_f, xme_f, xlem_f, xlm_f, xml_t, xmle_t, nI_clamp, nI_add, pk_mul, pk_sub, zI_s, zI_k, zI_o, zL_s, zL_k, zL_o, zR_s, zR_k, zR_o, zIL, zIR, zIN, zLI, zLR, zLN, zRI, zRL, zRN, true_and, and_true, not_true_eq_false, not_false_eq_true, true_implies, false_implies, implies_true, forall_const, if_true, if_false, eq_self, false_and, and_false, implies_true, nI_l, ylle_t, ylle_f, xcl_t, xcl_f, x1, y_3, x2 3 rfl]
    exact kk _ hr (mW_0 h) hW0
  rcases hw : W r with _ | ⟨s, n, f⟩
  · simp only [q, hw] at kk
    have e0 := (hW r hq).1 hw
    simp (disch := omega) only [xle_t, xle_f, xlt_t, xlt_f, xeq_t, xeq_f, xle0_t, xle0_f, xlt0_f, x0lt_t, x0lt_f, x0le_t, xeq0_t, xeq0_f, xin, xem_f, xme_f, xlem_f, xlm_f, xml_t, xmle_t, nI_clamp, nI_add, pk_mul, pk_sub, zI_s, zI_k, zI_o, zL_s, zL_k, zL_o, zR_s, zR_k, zR_o, zIL, zIR, zIN, zLI, zLR, zLN, zRI, zRL, zRN, true_and, and_true, not_true_eq_false, not_false_eq_true, true_implies, false_implies, implies_true, forall_const, if_true, if_false, eq_self, false_and, and_false, implies_true, nI_l, ylle_t, ylle_f, xcl_t, xcl_f, y_3, e0]
    exact kk _ hr (mW_0 h) hW0
  obtain ⟨e0, e1, e2⟩ := (hW r hq).2 s n f hw
  obtain ⟨s4, n40⟩ := hWo r s n f hw
  rcases ix3 y (n := n) (by omega) with ⟨q2, _, x1⟩ | ⟨q2, _, _, x1, x2, _⟩ | ⟨i, hi, rfl, q2⟩
  · simp only [q, hw, q2] at kk
    simp (disch := omega) only [xle_t, xle_f, xlt_t, xlt_f, xeq_t, xeq_f, xle0_t, xle0_f, xlt0_f, x0lt_t, x0lt_f, x0le_t, xeq0_t, xeq0_f, xin, xem_f, xme_f, xlem_f, xlm_f, xml_t, xmle_t, nI_clamp, nI_add, pk_mul, pk_sub, zI_s, zI_k, zI_o, zL_s, zL_k, zL_o, zR_s, zR_k, zR_o, zIL, zIR, zIN, zLI, zLR, zLN, zRI, zRL, zRN, true_and, and_true, not_true_eq_false, not_false_eq_true, true_implies, false_implies, implies_true, forall_const, if_true, if_false, eq_self, false_and, and_false, implies_true, nI_l, ylle_t, ylle_f, xcl_t, xcl_f, y_3, e0, x1]
    exact kk _ hr (mW_0 h) hW0
  · simp only [q, hw, q2] at kk
    simp (disch := omega) only [xle_t, xle_f, xlt_t, xlt_f, xeq_t, xeq_f, xle0_t, xle0_f, xlt0_f, x0lt_t, x0lt_f, x0le_t, xeq0_t, xeq0_f, xin, xem_f, xme_f, xlem_f, xlm_f, xml_t, xmle_t, nI_clamp, nI_add, pk_mul, pk_sub, zI_s, zI_k, zI_o, zL_s, zL_k, zL_o, zR_s, zR_k, zR_o, zIL, zIR, zIN, zLI, zLR, zLN, zRI, zRL, zRN, true_and, and_true, not_true_eq_false, not_false_eq_true, true_implies, false_implies, implies_true, forall_const, if_true, if_false, eq_self, false_and, and_false, implies_true, nI_l, ylle_t, ylle_f, xcl_t, xcl_f, y_3, e0, x1, e1, x2]
    exact kk _ hr (mW_0 h) hW0
  simp only [q, hw, q2] at kk
  have hr0 : zRf (zsI h 111 0 (nI 0)) := hr
  have hz : zokA (zsI h 111 0 (nI 0)) 142 21 (nI (40 * r + i)) := zia hr0 (by decide) rfl (vp_in_nI (by omega) (by omega))
  have fin : ∀ v', v' = wCut s v → Q (some (.inr (.inl v'))) (zsL (zsI h 111 0 (nI 0)) 142 (40 * r + i) v') := by
    intro v' hv
    rw [hv]
    exact kk _ hr ⟨(mW_0 h).1.trans (zF_L _ _ _ (by omega)), (mW_0 h).2⟩ (rwM_put hW0 hWo hw hq (by omega))
  have h4 : s = 0 ∨ s = 1 ∨ s = 2 ∨ s = 3 := by omega
  rcases h4 with y | y | y | y
  · subst y
    simp (disch := omega) only [xle_t, xle_f, xlt_t, xlt_f, xeq_t, xeq_f, xle0_t, xle0_f, xlt0_f, x0lt_t, x0lt_f, x0le_t, xeq0_t, xeq0_f, xin, xem_f, xme_f, xlem_f, xlm_f, xml_t, xmle_t, nI_clamp, nI_add, pk_mul, pk_sub, zI_s, zI_k, zI_o, zL_s, zL_k, zL_o, zR_s, zR_k, zR_o, zIL, zIR, zIN, zLI, zLR, zLN, zRI, zRL, zRN, true_and, and_true, not_true_eq_false, not_false_eq_true, true_implies, false_implies, implies_true, forall_const, if_true, if_false, eq_self, false_and, and_false, implies_true, nI_l, ylle_t, ylle_f, xcl_t, xcl_f, y_3, e0, e1, hz]
    exact fin _ rfl
  · subst y
    simp (disch := omega) only [xle_t, xle_f, xlt_t, xlt_f, xeq_t, xeq_f, xle0_t, xle0_f, xlt0_f, x0lt_t, x0lt_f, x0le_t, xeq0_t, xeq0_f, xin, xem_f, xme_f, xlem_f, xlm_f, xml_t, xmle_t, nI_clamp, nI_add, pk_mul, pk_sub, zI_s, zI_k, zI_o, zL_s, zL_k, zL_o, zR_s, zR_k, zR_o, zIL, zIR, zIN, zLI, zLR, zLN, zRI, zRL, zRN, true_and, and_true, not_true_eq_false, not_false_eq_true, true_implies, false_implies, implies_true, forall_const, if_true, if_false, eq_self, false_and, and_false, implies_true, nI_l, ylle_t, ylle_f, xcl_t, xcl_f, y_3, e0, e1, hz]
    exact fin _ rfl
  · subst y
    simp (disch := omega) only [xle_t, xle_f, xlt_t, xlt_f, xeq_t, xeq_f, xle0_t, xle0_f, xlt0_f, x0lt_t, x0lt_f, x0le_t, xeq0_t, xeq0_f, xin, xem_f, xme_f, xlem_f, xlm_f, xml_t, xmle_t, nI_clamp, nI_add, pk_mul, pk_sub, zI_s, zI_k, zI_o, zL_s, zL_k, zL_o, zR_s, zR_k, zR_o, zIL, zIR, zIN, zLI, zLR, zLN, zRI, zRL, zRN, true_and, and_true, not_true_eq_false, not_false_eq_true, true_implies, false_implies, implies_true, forall_const, if_true, if_false, eq_self, false_and, and_false, implies_true, nI_l, ylle_t, ylle_f, xcl_t, xcl_f, y_3, e0, e1, hz]
    exact fin _ rfl
  · subst y
    simp (disch := omega) only [xle_t, xle_f, xlt_t, xlt_f, xeq_t, xeq_f, xle0_t, xle0_f, xlt0_f, x0lt_t, x0lt_f, x0le_t, xeq0_t, xeq0_f, xin, xem_f, xme_f, xlem_f, xlm_f, xml_t, xmle_t, nI_clamp, nI_add, pk_mul, pk_sub, zI_s, zI_k, zI_o, zL_s, zL_k, zL_o, zR_s, zR_k, zR_o, zIL, zIR, zIN, zLI, zLR, zLN, zRI, zRL, zRN, true_and, and_true, not_true_eq_false, not_false_eq_true, true_implies, false_implies, implies_true, forall_const, if_true, if_false, eq_self, false_and, and_false, implies_true, nI_l, ylle_t, ylle_f, xcl_t, xcl_f, y_3, e0, e1, hz]
    exact fin _ rfl
