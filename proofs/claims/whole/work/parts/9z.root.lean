/-! ===== ways: which candles; the measure; the root ===== -/
theorem c_gcd {a b : Nat} {d : Nat} {h : MH} {Q : Option MV → MH → Prop} (ha : a < 2 ^ 31) (hb : b < 2 ^ 20) (kk : Q (some (.inl (nI (Nat.gcd a b)))) h) : Con mX9_commonMeasure d 0 0 [.inl (nI a), .inl (nI b)] h Q := by
  refine u_X9_commonMeasure ?_
  have L : ∀ m x y i, i + 2 * m ≤ 100 → x < 2 ^ 31 → y < 2 ^ m → m ≤ 20 → Nat.gcd x y = Nat.gcd a b → ∀ u, J mX9_commonMeasure d 0 0 Q 0 0 7 [some (.inl (nI a)), some (.inl (nI b)), some (.inl (nI x)), some (.inl (nI y)), some (.inl (nI i)), u] [] h := by
    intro m
    induction m with
    | zero =>
      intro x y i hi hx hy _ e u
      obtain rfl : y = 0 := by rw [Nat.pow_zero] at hy; omega
      rw [Nat.gcd_zero_right] at e
      rw [← e] at kk
      refine u_X9_commonMeasure_7 ?_
      refine ⟨fun _ => kk, fun _ => ⟨fun _ => kk, fun q => absurd rfl q⟩⟩
    | succ m ih =>
      intro x y i hi hx hy hm e u
      have p20 : 2 ^ (m + 1) ≤ 2 ^ 20 := Nat.pow_le_pow_right (by decide) hm
      rcases Nat.eq_zero_or_pos y with y0 | y0
      · rw [y0, Nat.gcd_zero_right] at e
        rw [← e] at kk
        rw [y0]
        refine u_X9_commonMeasure_7 ?_
        simp (disch := omega) only [xle_t, xle_f, xlt_t, xlt_f, xeq_t, xeq_f, xle0_t, xle0_f, xlt0_f, x0lt_t, x0lt_f, x0le_t, xeq0_t, xeq0_f, xin, xem_f, xme_f, xlem_f, xlm_f, xml_t, xmle_t, nI_clamp, nI_add, pk_mul, pk_sub, zI_s, zI_k, zI_o, zL_s, zL_k, zL_o, zR_s, zR_k, zR_o, zIL, zIR, zIN, zLI, zLR, zLN, zRI, zRL, zRN, true_and, and_true, not_true_eq_false, not_false_eq_true, true_implies, false_implies, implies_true, forall_const, if_true, if_false, eq_self, false_and, and_false, implies_true, nI_l, ylle_t, ylle_f, xcl_t, xcl_f]
        exact kk
      · refine u_X9_commonMeasure_7 ?_
        rw [pk_rem (show x < 2 ^ 31 from hx) y0 (by omega)]
        simp (disch := omega) only [xle_t, xle_f, xlt_t, xlt_f, xeq_t, xeq_f, xle0_t, xle0_f, xlt0_f, x0lt_t, x0lt_f, x0le_t, xeq0_t, xeq0_f, xin, xem_f, xme_f, xlem_f, xlm_f, xml_t, xmle_t, nI_clamp, nI_add, pk_mul, pk_sub, zI_s, zI_k, zI_o, zL_s, zL_k, zL_o, zR_s, zR_k, zR_o, zIL, zIR, zIN, zLI, zLR, zLN, zRI, zRL, zRN, true_and, and_true, not_true_eq_false, not_false_eq_true, true_implies, false_implies, implies_true, forall_const, if_true, if_false, eq_self, false_and, and_false, implies_true, nI_l, ylle_t, ylle_f, xcl_t, xcl_f]
        have e1 : Nat.gcd y (x % y) = Nat.gcd a b := by rw [← e, Nat.gcd_comm x y, Nat.gcd_rec y x, Nat.gcd_comm]
        have l1 := Nat.mod_lt x y0
        rcases Nat.eq_zero_or_pos (x % y) with r0 | r0
        · rw [r0, Nat.gcd_zero_right] at e1
          rw [← e1] at kk
          rw [r0]
          refine u_X9_commonMeasure_7 ?_
          simp (disch := omega) only [xle_t, xle_f, xlt_t, xlt_f, xeq_t, xeq_f, xle0_t, xle0_f, xlt0_f, x0lt_t, x0lt_f, x0le_t, xeq0_t, xeq0_f, xin, xem_f, xme_f, xlem_f, xlm_f, xml_t, xmle_t, nI_clamp, nI_add, pk_mul, pk_sub, zI_s, zI_k, zI_o, zL_s, zL_k, zL_o, zR_s, zR_k, zR_o, zIL, zIR, zIN, zLI, zLR, zLN, zRI, zRL, zRN, true_and, and_true, not_true_eq_false, not_false_eq_true, true_implies, false_implies, implies_true, forall_const, if_true, if_false, eq_self, false_and, and_false, implies_true, nI_l, ylle_t, ylle_f, xcl_t, xcl_f]
          exact kk
        · refine u_X9_commonMeasure_7 ?_
          rw [pk_rem (show y < 2 ^ 31 by omega) r0 (by omega)]
          simp (disch := omega) only [xle_t, xle_f, xlt_t, xlt_f, xeq_t, xeq_f, xle0_t, xle0_f, xlt0_f, x0lt_t, x0lt_f, x0le_t, xeq0_t, xeq0_f, xin, xem_f, xme_f, xlem_f, xlm_f, xml_t, xmle_t, nI_clamp, nI_add, pk_mul, pk_sub, zI_s, zI_k, zI_o, zL_s, zL_k, zL_o, zR_s, zR_k, zR_o, zIL, zIR, zIN, zLI, zLR, zLN, zRI, zRL, zRN, true_and, and_true, not_true_eq_false, not_false_eq_true, true_implies, false_implies, implies_true, forall_const, if_true, if_false, eq_self, false_and, and_false, implies_true, nI_l, ylle_t, ylle_f, xcl_t, xcl_f]
          have e2 : Nat.gcd (x % y) (y % (x % y)) = Nat.gcd a b := by rw [← e1, Nat.gcd_comm y (x % y), Nat.gcd_rec (x % y) y, Nat.gcd_comm]
          have l2 := Nat.mod_lt y r0
          have l3 : y % (x % y) + (x % y) ≤ y := by
            have q1 := Nat.div_add_mod y (x % y)
            have q2 : 1 ≤ y / (x % y) := (Nat.le_div_iff_mul_le r0).mpr (by omega)
            have q3 : (x % y) * 1 ≤ (x % y) * (y / (x % y)) := Nat.mul_le_mul_left _ q2
            omega
          rw [Nat.pow_succ] at hy
          exact ih (x % y) (y % (x % y)) (i + 1 + 1) (by omega) (by omega) (by omega) (by omega) e2 _
  exact L 20 a b 0 (by omega) ha hb (by omega) rfl none
/-- what is left at first: of the j-th of them -/
def wX0 (C : CE) (S : Nat) : Nat → Nat → Nat
  | 0 => fun _ => 0
  | c + 1 => if S.testBit c = true then kU (wX0 C S c) (fb_ct (fun i => S.testBit i) c) (cS C c) else wX0 C S c
def wG0 (C : CE) (S : Nat) : Nat → Nat
  | 0 => 0
  | c + 1 => if S.testBit c = true then Nat.gcd (wG0 C S c) (cS C c) else wG0 C S c
def wN (S c : Nat) : Nat := fb_ct (fun i => S.testBit i) c
theorem wN_s (S c : Nat) : wN S (c + 1) = wN S c + (if S.testBit c = true then 1 else 0) := rfl
/-- a set of candles: some, at most four, of those there are -/
def wSet (C : CE) (S : Nat) : Prop := 0 < S ∧ S < 2 ^ C.1 ∧ wN S 8 ≤ 4
theorem wN_mono {S c e : Nat} (h : c ≤ e) : wN S c ≤ wN S e := fb_ct_mono _ h
theorem tb_hi {S c n : Nat} (h : S < 2 ^ n) (hc : n ≤ c) : S.testBit c = false := Nat.testBit_lt_two_pow (Nat.lt_of_lt_of_le h (Nat.pow_le_pow_right (by decide) hc))
theorem wX0_o {C : CE} {S : Nat} : ∀ {c j : Nat}, wN S c ≤ j → wX0 C S c j = 0
  | 0, j, _ => rfl
  | c + 1, j, h => by
    rw [wN_s] at h
    unfold wX0
    by_cases z : S.testBit c = true
    · rw [if_pos z] at h ⊢
      have e : j ≠ fb_ct (fun i => S.testBit i) c := by
        have : wN S c = fb_ct (fun i => S.testBit i) c := rfl
        omega
      rw [kU_o _ _ e]
      exact wX0_o (by omega)
    · rw [if_neg z] at h ⊢
      exact wX0_o (by omega)
theorem cS_256 (C : CE) (c : Nat) : 256 ∣ cS C c := ⟨_, rfl⟩
theorem cS_b {C : CE} (hC : cOK C) {c : Nat} (hc : c < C.1) : cS C c ≤ 92160 ∧ 0 < cS C c := by
  rw [cS_6 hC hc]
  have := cB_le hC hc 6
  refine ⟨by omega, ?_⟩
  have h1 := hC.2 c hc
  have h2 : cB C c 1 ≤ cB C c 6 := zsum_mono (by omega)
  have h3 : cB C c 1 = cM C c 0 := by show 0 + cM C c 0 = _; omega
  have h4 : cM C c 0 = C.2.2.1 c 0 := if_pos (by omega)
  have h5 := (h1.2.1 0 (by omega)).1
  omega
/-- what holds of the beginning -/
theorem wX0_b {C : CE} (hC : cOK C) {S : Nat} (hS : S < 2 ^ C.1) : ∀ {c j : Nat}, j < wN S c → 256 ∣ wX0 C S c j ∧ 0 < wX0 C S c j ∧ wX0 C S c j ≤ 92160 ∧ wG0 C S c ∣ wX0 C S c j
  | 0, j, h => by unfold wN at h; exact absurd h (by show ¬ j < 0; omega)
  | c + 1, j, h => by
    rw [wN_s] at h
    unfold wX0 wG0
    by_cases z : S.testBit c = true
    · have hc : c < C.1 := Nat.lt_of_not_le fun q => by rw [tb_hi hS q] at z; cases z
      rw [if_pos z] at h
      rw [if_pos z, if_pos z]
      by_cases e : j = fb_ct (fun i => S.testBit i) c
      · rw [e, kU_s]
        have := cS_b hC hc
        exact ⟨cS_256 C c, this.2, this.1, Nat.gcd_dvd_right _ _⟩
      · rw [kU_o _ _ e]
        have e' : j ≠ wN S c := e
        obtain ⟨q1, q2, q3, q4⟩ := wX0_b hC hS (c := c) (j := j) (by omega)
        exact ⟨q1, q2, q3, Nat.dvd_trans (Nat.gcd_dvd_left _ _) q4⟩
    · rw [if_neg z] at h
      rw [if_neg z, if_neg z]
      exact wX0_b hC hS (by omega)
theorem wG0_b {C : CE} (hC : cOK C) {S : Nat} (hS : S < 2 ^ C.1) : ∀ {c : Nat}, 256 ∣ wG0 C S c ∧ wG0 C S c ≤ 92160 ∧ (0 < wN S c → 0 < wG0 C S c)
  | 0 => ⟨⟨0, rfl⟩, Nat.zero_le _, fun h => by unfold wN at h; exact absurd h (by show ¬ 0 < 0; omega)⟩
  | c + 1 => by
    obtain ⟨q1, q2, q3⟩ := wG0_b hC hS (c := c)
    rw [wN_s]
    unfold wG0
    by_cases z : S.testBit c = true
    · have hc : c < C.1 := Nat.lt_of_not_le fun q => by rw [tb_hi hS q] at z; cases z
      have := cS_b hC hc
      rw [if_pos z, if_pos z]
      refine ⟨Nat.dvd_gcd q1 (cS_256 C c), ?_, fun _ => Nat.gcd_pos_of_pos_right _ this.2⟩
      exact Nat.le_trans (Nat.le_of_dvd this.2 (Nat.gcd_dvd_right _ _)) this.1
    · rw [if_neg z, if_neg z]
      exact ⟨q1, q2, fun h => q3 (by omega)⟩
def wRt (C : CE) (S : Nat) : WN := (0, fun _ => wX0 C S 8, fun _ _ => 0, fun _ => 0)
theorem wSet_n {C : CE} (hC : cOK C) {S : Nat} (h : wSet C S) : 0 < wN S 8 := by
  refine fb_ct_pos.mpr ?_
  refine Classical.byContradiction fun q => ?_
  have : S = 0 := Nat.eq_of_testBit_eq (fun i => by
    rw [Nat.zero_testBit]
    by_cases z : i < 8
    · exact Bool.eq_false_iff.mpr (fun y => q ⟨i, z, y⟩)
    · exact tb_hi h.2.1 (by have := hC.1; omega))
  have := h.1
  omega
theorem wRt_I {C : CE} (hC : cOK C) {S : Nat} (h : wSet C S) : wI (wN S 8) (wRt C S) := by
  refine ⟨h.2.2, ?_, fun c hc => ⟨(wX0_b hC h.2.1 hc).1, Nat.zero_le _⟩, ?_⟩
  · have : wSt (wN S 8) (wX0 C S 8) ≤ wN S 8 := fb_ct_le _ _
    have := h.2.2
    show 0 + wSt (wN S 8) (wX0 C S 8) ≤ 4
    omega
  · show fb_sm (wX0 C S 8) (wN S 8) + 0 ≤ 368640
    have h1 : fb_sm (wX0 C S 8) (wN S 8) ≤ wN S 8 * 92160 := fb_sm_bound (fun k hk => (wX0_b hC h.2.1 hk).2.2.1)
    have h2 : wN S 8 * 92160 ≤ 4 * 92160 := Nat.mul_le_mul_right _ h.2.2
    omega
theorem wRt_F (n : Nat) (C : CE) (S : Nat) : wFw n (wRt C S) := fun _ _ _ _ => Nat.zero_le _
theorem wRt_M (C : CE) (S : Nat) : wMo (wRt C S) := fun i hi => absurd hi (by show ¬ i < 0; omega)
theorem wRt_D (n : Nat) (C : CE) (S : Nat) : wDn n (wX0 C S 8) (wRt C S) := ⟨rfl, fun _ _ => Nat.le_refl _⟩
theorem xbtS {S c : Nat} (hS : S < 2 ^ 31) (hc : c < 32) : (((nI S >>> (nI c &&& 31)) &&& nI 1) = 0) = (S.testBit c = false) := by
  rw [pk_shrN hS _ c (s_l c hc), nx_and, show (1 : Nat) = 2 ^ 1 - 1 from rfl, Nat.and_two_pow_sub_one_eq_mod, xeq0_i (by omega), Nat.testBit_eq_decide_div_mod_eq]
  refine propext ⟨fun q => decide_eq_false (by omega), fun q => ?_⟩
  have := of_decide_eq_false q
  omega
