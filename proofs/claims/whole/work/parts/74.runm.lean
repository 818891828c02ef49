/-! ===== one run: the reference's cells ===== -/
def mKK (n : Nat) (K : RC) (h : MH) : Prop := ∀ c, c < 8 → h.1 117 c = nI (K.1 c) ∧ h.1 118 c = nI (K.2.1 c) ∧ h.1 121 c = nI (K.2.2.1 c) ∧ ((h.1 119 c = 0) = (K.2.2.2.2.1 c = 0)) ∧ h.1 120 c = eI (K.2.2.2.2.2 c) ∧ (c < n → K.2.2.2.2.1 c = 0 → h.1 123 c = nI (K.2.2.2.1 c).length ∧ ∀ i, i < (K.2.2.2.1 c).length → h.1 122 (8 * c + i) = nI ((K.2.2.2.1 c).getD i 0))
def bI (b : Bool) : Int32 := if b = true then nI 1 else nI 0
def mTT (T : RT) (h : MH) : Prop := h.1 111 25 = nI T.1.length ∧ (∀ k, k < T.1.length → h.1 124 k = nI (T.1.getD k 0)) ∧ h.1 111 26 = nI (fb_ct T.2.1 40) ∧ (∀ k, k < 40 → h.1 125 k = bI (T.2.1 k)) ∧ h.1 111 29 = T.2.2.1 ∧ h.1 111 27 = nI T.2.2.2.1 ∧ h.1 111 24 = nI T.2.2.2.2
def mS (n : Nat) (R : RS) (h : MH) : Prop := mKK n R.1 h ∧ mTT R.2 h
def mF (h h' : MH) : Prop := zF (fun a => a ≤ 110 ∨ (112 ≤ a ∧ a ≤ 116) ∨ 126 ≤ a) h h' ∧ ∀ k, k < 24 ∨ k = 28 ∨ 30 ≤ k → h'.1 111 k = h.1 111 k
theorem mF.rfl {h : MH} : mF h h := ⟨zF.rfl, fun _ _ => Eq.refl _⟩
theorem mF.trans {h h1 h2 : MH} (a : mF h h1) (b : mF h1 h2) : mF h h2 := ⟨a.1.trans b.1, fun k hk => (b.2 k hk).trans (a.2 k hk)⟩
theorem mF_I {h : MH} {a k : Nat} {v : Int32} (ha : 117 ≤ a ∧ a ≤ 125) : mF h (zsI h a k v) := ⟨zF_I _ _ _ (by omega), fun j hj => by rw [zI_o _ _ _ (by omega)]⟩
theorem mF_1 {h : MH} {k : Nat} {v : Int32} (hk : (24 ≤ k ∧ k ≤ 27) ∨ k = 29) : mF h (zsI h 111 k v) := ⟨zF_I _ _ _ (by omega), fun j hj => zI_k _ _ _ (by omega)⟩
theorem mTT.keep {T : RT} {h h' : MH} (q : mTT T h) (e1 : ∀ k, k = 24 ∨ k = 25 ∨ k = 26 ∨ k = 27 ∨ k = 29 → h'.1 111 k = h.1 111 k) (e2 : h'.1 124 = h.1 124) (e3 : h'.1 125 = h.1 125) : mTT T h' := by
  unfold mTT
  rw [e1 24 (by omega), e1 25 (by omega), e1 26 (by omega), e1 27 (by omega), e1 29 (by omega), e2, e3]
  exact q
theorem mKK.keep {n : Nat} {K : RC} {h h' : MH} (q : mKK n K h) (e : ∀ a, (117 ≤ a ∧ a ≤ 123) → h'.1 a = h.1 a) : mKK n K h' := by
  unfold mKK
  rw [e 117 (by omega), e 118 (by omega), e 119 (by omega), e 120 (by omega), e 121 (by omega), e 122 (by omega), e 123 (by omega)]
  exact q
theorem n_nx {n : Nat} {K : RC} {h : MH} {d : Nat} {Q : Option MV → MH → Prop} (hr : zRf h) (hK : mKK n K h) (hB : ∀ c, c < 8 → K.1 c ≤ 400000000 ∧ K.2.1 c ≤ 2) (kk : Q (some (.inl (oI (rNx K 8 0 none)))) h) : Con mX11_tillNext d 0 0 [.inr (.inr 111)] h Q := by
  refine u_X11_tillNext ?_
  have L : ∀ m c, c + m = 8 → ∀ o : Option Nat, (∀ v, o = some v → v ≤ 400000000) → rNx K m c o = rNx K 8 0 none → J mX11_tillNext d 0 0 Q 0 0 4 [some (.inr (.inr 111)), some (.inl (oI o)), some (.inl (nI c))] [] h := by
    intro m
    induction m with
    | zero =>
      intro c hc o ho e
      have e2 : o = rNx K 8 0 none := e
      refine u_X11_tillNext_4 hr ?_
      simp (disch := omega) only [xle_t, xle_f, xlt_t, xlt_f, xeq_t, xeq_f, xle0_t, xle0_f, xlt0_f, x0lt_t, x0lt_f, x0le_t, xeq0_t, xeq0_f, xin, xem_f, xme_f, xlem_f, xlm_f, xml_t, xmle_t, nI_clamp, nI_add, pk_mul, pk_sub, zI_s, zI_k, zI_o, zL_s, zL_k, zL_o, zR_s, zR_k, zR_o, zIL, zIR, zIN, zLI, zLR, zLN, zRI, zRL, zRN, true_and, and_true, not_true_eq_false, not_false_eq_true, true_implies, false_implies, implies_true, forall_const, if_true, if_false, eq_self, false_and, and_false, implies_true, nI_l, ylle_t, ylle_f, xcl_t, xcl_f]
      rw [e2]
      exact kk
    | succ m ih =>
      intro c hc o ho e
      obtain ⟨a0, a1, _⟩ := hK c (by omega)
      obtain ⟨b0, b1⟩ := hB c (by omega)
      refine u_X11_tillNext_4 hr ?_
      have e2 : rNx K m (c + 1) (if 0 < K.2.1 c then some (oMin o (K.1 c / K.2.1 c)) else o) = rNx K 8 0 none := e
      have hq : K.1 c / K.2.1 c ≤ K.1 c := Nat.div_le_self _ _
      by_cases f0 : 0 < K.2.1 c
      · rw [if_pos f0] at e2
        cases o with
        | none =>
          simp (disch := omega) only [xle_t, xle_f, xlt_t, xlt_f, xeq_t, xeq_f, xle0_t, xle0_f, xlt0_f, x0lt_t, x0lt_f, x0le_t, xeq0_t, xeq0_f, xin, xem_f, xme_f, xlem_f, xlm_f, xml_t, xmle_t, nI_clamp, nI_add, pk_mul, pk_sub, zI_s, zI_k, zI_o, zL_s, zL_k, zL_o, zR_s, zR_k, zR_o, zIL, zIR, zIN, zLI, zLR, zLN, zRI, zRL, zRN, true_and, and_true, not_true_eq_false, not_false_eq_true, true_implies, false_implies, implies_true, forall_const, if_true, if_false, eq_self, false_and, and_false, implies_true, nI_l, ylle_t, ylle_f, xcl_t, xcl_f, a0, a1, oI, pk_div]
          exact ih (c + 1) (by omega) (some (K.1 c / K.2.1 c)) (fun v hv => by cases hv; omega) e2
        | some v =>
          have := ho v rfl
          have e3 : oMin (some v) (K.1 c / K.2.1 c) = min (K.1 c / K.2.1 c) v := rfl
          rw [e3] at e2
          by_cases z : v ≤ K.1 c / K.2.1 c
          · simp (disch := omega) only [xle_t, xle_f, xlt_t, xlt_f, xeq_t, xeq_f, xle0_t, xle0_f, xlt0_f, x0lt_t, x0lt_f, x0le_t, xeq0_t, xeq0_f, xin, xem_f, xme_f, xlem_f, xlm_f, xml_t, xmle_t, nI_clamp, nI_add, pk_mul, pk_sub, zI_s, zI_k, zI_o, zL_s, zL_k, zL_o, zR_s, zR_k, zR_o, zIL, zIR, zIN, zLI, zLR, zLN, zRI, zRL, zRN, true_and, and_true, not_true_eq_false, not_false_eq_true, true_implies, false_implies, implies_true, forall_const, if_true, if_false, eq_self, false_and, and_false, implies_true, nI_l, ylle_t, ylle_f, xcl_t, xcl_f, a0, a1, oI, pk_div]
            rw [Nat.min_eq_right z] at e2
            exact ih (c + 1) (by omega) (some v) ho e2
          · simp (disch := omega) only [xle_t, xle_f, xlt_t, xlt_f, xeq_t, xeq_f, xle0_t, xle0_f, xlt0_f, x0lt_t, x0lt_f, x0le_t, xeq0_t, xeq0_f, xin, xem_f, xme_f, xlem_f, xlm_f, xml_t, xmle_t, nI_clamp, nI_add, pk_mul, pk_sub, zI_s, zI_k, zI_o, zL_s, zL_k, zL_o, zR_s, zR_k, zR_o, zIL, zIR, zIN, zLI, zLR, zLN, zRI, zRL, zRN, true_and, and_true, not_true_eq_false, not_false_eq_true, true_implies, false_implies, implies_true, forall_const, if_true, if_false, eq_self, false_and, and_false, implies_true, nI_l, ylle_t, ylle_f, xcl_t, xcl_f, a0, a1, oI, pk_div]
            rw [Nat.min_eq_left (by omega)] at e2
            exact ih (c + 1) (by omega) (some (K.1 c / K.2.1 c)) (fun v hv => by cases hv; omega) e2
      · rw [if_neg f0] at e2
        simp (disch := omega) only [xle_t, xle_f, xlt_t, xlt_f, xeq_t, xeq_f, xle0_t, xle0_f, xlt0_f, x0lt_t, x0lt_f, x0le_t, xeq0_t, xeq0_f, xin, xem_f, xme_f, xlem_f, xlm_f, xml_t, xmle_t, nI_clamp, nI_add, pk_mul, pk_sub, zI_s, zI_k, zI_o, zL_s, zL_k, zL_o, zR_s, zR_k, zR_o, zIL, zIR, zIN, zLI, zLR, zLN, zRI, zRL, zRN, true_and, and_true, not_true_eq_false, not_false_eq_true, true_implies, false_implies, implies_true, forall_const, if_true, if_false, eq_self, false_and, and_false, implies_true, nI_l, ylle_t, ylle_f, xcl_t, xcl_f, a0, a1]
        exact ih (c + 1) (by omega) o ho e2
  exact L 8 0 (by omega) none (fun v hv => by cases hv) rfl
/-- what the reference needs to burn -/
def mB (n s : Nat) (K : RC) : Prop := ∀ c, c < 8 → K.1 c ≤ 400000000 ∧ K.2.1 c ≤ 2 ∧ K.2.2.1 c ≤ 400000000 ∧ s * K.2.1 c ≤ K.1 c ∧ (0 < K.2.1 c → c < n ∧ K.2.2.2.2.1 c = 0 ∧ (K.2.2.2.1 c).length ≤ 8 ∧ ∀ x, x ∈ K.2.2.2.1 c → x < 8)
theorem n_burns {n s : Nat} {R : RS} {h : MH} {d : Nat} {Q : Option MV → MH → Prop} (hr : zRf h) (hS : mS n R h) (hB : mB n s R.1) (hno : R.2.2.2.2.2 + s ≤ 400000000) (kk : ∀ h', zRf h' → mF h h' → mS n (rBurn s 8 0 R.1, rTick s R.2) h' → Q none h') : Con mX11_burns d 0 0 [.inr (.inr 111), .inl (nI s)] h Q := by
  obtain ⟨Kt, hKt⟩ : ∃ Kt, rBurn s 8 0 R.1 = Kt := ⟨_, rfl⟩
  rw [hKt] at kk
  refine u_X11_burns ?_
  have L : ∀ m c, c + m = 8 → ∀ (K : RC) (g : MH) (u3 u4 u5 u6 : Option MV), zRf g → mF h g → mKK n K g → mTT R.2 g → K.2.1 = R.1.2.1 → K.2.2.2 = R.1.2.2.2 → (∀ x, c ≤ x → K.1 x = R.1.1 x) → (∀ x, x < 8 → K.2.2.1 x ≤ 400000000) → rBurn s m c K = Kt → J mX11_burns d 0 0 Q 0 0 2 [some (.inr (.inr 111)), some (.inl (nI s)), some (.inl (nI c)), u3, u4, u5, u6] [] g := by
    intro m
    induction m with
    | zero =>
      intro c hc K g u3 u4 u5 u6 rg fg kg tg e1 e2 e3 e4 e
      refine u_X11_burns_2 rg ?_
      have e24 := tg.2.2.2.2.2.2
      simp (disch := omega) only [xle_t, xle_f, xlt_t, xlt_f, xeq_t, xeq_f, xle0_t, xle0_f, xlt0_f, x0lt_t, x0lt_f, x0le_t, xeq0_t, xeq0_f, xin, xem_f, xme_f, xlem_f, xlm_f, xml_t, xmle_t, nI_clamp, nI_add, pk_mul, pk_sub, zI_s, zI_k, zI_o, zL_s, zL_k, zL_o, zR_s, zR_k, zR_o, zIL, zIR, zIN, zLI, zLR, zLN, zRI, zRL, zRN, true_and, and_true, not_true_eq_false, not_false_eq_true, true_implies, false_implies, implies_true, forall_const, if_true, if_false, eq_self, false_and, and_false, implies_true, nI_l, ylle_t, ylle_f, xcl_t, xcl_f, e24]
      have e' : K = Kt := e
      rw [e'] at kg
      refine kk _ rg (fg.trans (mF_1 (by omega))) ⟨kg.keep (fun a ha => zI_o _ _ _ (by omega)), ?_⟩
      obtain ⟨t1, t2, t3, t4, t5, t6, t7⟩ := tg
      refine ⟨?_, fun k hk => ?_, ?_, fun k hk => ?_, ?_, ?_, ?_⟩
      · simp (disch := omega) only [xle_t, xle_f, xlt_t, xlt_f, xeq_t, xeq_f, xle0_t, xle0_f, xlt0_f, x0lt_t, x0lt_f, x0le_t, xeq0_t, xeq0_f, xin, xem_f, xme_f, xlem_f, xlm_f, xml_t, xmle_t, nI_clamp, nI_add, pk_mul, pk_sub, zI_s, zI_k, zI_o, zL_s, zL_k, zL_o, zR_s, zR_k, zR_o, zIL, zIR, zIN, zLI, zLR, zLN, zRI, zRL, zRN, true_and, and_true, not_true_eq_false, not_false_eq_true, true_implies, false_implies, implies_true, forall_const, if_true, if_false, eq_self, false_and, and_false, implies_true, nI_l, ylle_t, ylle_f, xcl_t, xcl_f, t1]; rfl
      · simp (disch := omega) only [xle_t, xle_f, xlt_t, xlt_f, xeq_t, xeq_f, xle0_t, xle0_f, xlt0_f, x0lt_t, x0lt_f, x0le_t, xeq0_t, xeq0_f, xin, xem_f, xme_f, xlem_f, xlm_f, xml_t, xmle_t, nI_clamp, nI_add, pk_mul, pk_sub, zI_s, zI_k, zI_o, zL_s, zL_k, zL_o, zR_s, zR_k, zR_o, zIL, zIR, zIN, zLI, zLR, zLN, zRI, zRL, zRN, true_and, and_true, not_true_eq_false, not_false_eq_true, true_implies, false_implies, implies_true, forall_const, if_true, if_false, eq_self, false_and, and_false, implies_true, nI_l, ylle_t, ylle_f, xcl_t, xcl_f]; exact t2 k hk
      · simp (disch := omega) only [xle_t, xle_f, xlt_t, xlt_f, xeq_t, xeq_f, xle0_t, xle0_f, xlt0_f, x0lt_t, x0lt_f, x0le_t, xeq0_t, xeq0_f, xin, xem_f, xme_f, xlem_f, xlm_f, xml_t, xmle_t, nI_clamp, nI_add, pk_mul, pk_sub, zI_s, zI_k, zI_o, zL_s, zL_k, zL_o, zR_s, zR_k, zR_o, zIL, zIR, zIN, zLI, zLR, zLN, zRI, zRL, zRN, true_and, and_true, not_true_eq_false, not_false_eq_true, true_implies, false_implies, implies_true, forall_const, if_true, if_false, eq_self, false_and, and_false, implies_true, nI_l, ylle_t, ylle_f, xcl_t, xcl_f, t3]; rfl
      · simp (disch := omega) only [xle_t, xle_f, xlt_t, xlt_f, xeq_t, xeq_f, xle0_t, xle0_f, xlt0_f, x0lt_t, x0lt_f, x0le_t, xeq0_t, xeq0_f, xin, xem_f, xme_f, xlem_f, xlm_f, xml_t, xmle_t, nI_clamp, nI_add, pk_mul, pk_sub, zI_s, zI_k, zI_o, zL_s, zL_k, zL_o, zR_s, zR_k, zR_o, zIL, zIR, zIN, zLI, zLR, zLN, zRI, zRL, zRN, true_and, and_true, not_true_eq_false, not_false_eq_true, true_implies, false_implies, implies_true, forall_const, if_true, if_false, eq_self, false_and, and_false, implies_true, nI_l, ylle_t, ylle_f, xcl_t, xcl_f]; exact t4 k hk
      · simp (disch := omega) only [xle_t, xle_f, xlt_t, xlt_f, xeq_t, xeq_f, xle0_t, xle0_f, xlt0_f, x0lt_t, x0lt_f, x0le_t, xeq0_t, xeq0_f, xin, xem_f, xme_f, xlem_f, xlm_f, xml_t, xmle_t, nI_clamp, nI_add, pk_mul, pk_sub, zI_s, zI_k, zI_o, zL_s, zL_k, zL_o, zR_s, zR_k, zR_o, zIL, zIR, zIN, zLI, zLR, zLN, zRI, zRL, zRN, true_and, and_true, not_true_eq_false, not_false_eq_true, true_implies, false_implies, implies_true, forall_const, if_true, if_false, eq_self, false_and, and_false, implies_true, nI_l, ylle_t, ylle_f, xcl_t, xcl_f]; exact t5
      · simp (disch := omega) only [xle_t, xle_f, xlt_t, xlt_f, xeq_t, xeq_f, xle0_t, xle0_f, xlt0_f, x0lt_t, x0lt_f, x0le_t, xeq0_t, xeq0_f, xin, xem_f, xme_f, xlem_f, xlm_f, xml_t, xmle_t, nI_clamp, nI_add, pk_mul, pk_sub, zI_s, zI_k, zI_o, zL_s, zL_k, zL_o, zR_s, zR_k, zR_o, zIL, zIR, zIN, zLI, zLR, zLN, zRI, zRL, zRN, true_and, and_true, not_true_eq_false, not_false_eq_true, true_implies, false_implies, implies_true, forall_const, if_true, if_false, eq_self, false_and, and_false, implies_true, nI_l, ylle_t, ylle_f, xcl_t, xcl_f]; exact t6
      · simp (disch := omega) only [xle_t, xle_f, xlt_t, xlt_f, xeq_t, xeq_f, xle0_t, xle0_f, xlt0_f, x0lt_t, x0lt_f, x0le_t, xeq0_t, xeq0_f, xin, xem_f, xme_f, xlem_f, xlm_f, xml_t, xmle_t, nI_clamp, nI_add, pk_mul, pk_sub, zI_s, zI_k, zI_o, zL_s, zL_k, zL_o, zR_s, zR_k, zR_o, zIL, zIR, zIN, zLI, zLR, zLN, zRI, zRL, zRN, true_and, and_true, not_true_eq_false, not_false_eq_true, true_implies, false_implies, implies_true, forall_const, if_true, if_false, eq_self, false_and, and_false, implies_true, nI_l, ylle_t, ylle_f, xcl_t, xcl_f]; rfl
    | succ m ih =>
      intro c hc K g u3 u4 u5 u6 rg fg kg tg e1 e2 e3 e4 e
      obtain ⟨a0, a1, a2, a3, a4, a5⟩ := kg c (by omega)
      obtain ⟨b0, b1, b2, b3, b4⟩ := hB c (by omega)
      have e' : rBurn s m (c + 1) (rBurn1 s c K) = Kt := e
      rw [e1] at a1
      rw [e3 c (by omega)] at a0
      refine u_X11_burns_2 rg ?_
      have hcm : R.1.2.1 c * s = s * R.1.2.1 c := Nat.mul_comm _ _
      simp (disch := omega) only [xle_t, xle_f, xlt_t, xlt_f, xeq_t, xeq_f, xle0_t, xle0_f, xlt0_f, x0lt_t, x0lt_f, x0le_t, xeq0_t, xeq0_f, xin, xem_f, xme_f, xlem_f, xlm_f, xml_t, xmle_t, nI_clamp, nI_add, pk_mul, pk_sub, zI_s, zI_k, zI_o, zL_s, zL_k, zL_o, zR_s, zR_k, zR_o, zIL, zIR, zIN, zLI, zLR, zLN, zRI, zRL, zRN, true_and, and_true, not_true_eq_false, not_false_eq_true, true_implies, false_implies, implies_true, forall_const, if_true, if_false, eq_self, false_and, and_false, implies_true, nI_l, ylle_t, ylle_f, xcl_t, xcl_f, a0, a1, hcm]
      have hch : K.2.2.2.1 = R.1.2.2.2.1 := congrArg (fun z => z.1) e2
      have hst2 : K.2.2.2.2.1 = R.1.2.2.2.2.1 := congrArg (fun z => z.2.1) e2
      by_cases f : 0 < R.1.2.1 c
      · obtain ⟨hcn, hst, hlen, hmem⟩ := b4 f
        obtain ⟨l1, l2⟩ := a5 hcn (by rw [hst2]; exact hst)
        rw [hch] at l1 l2
        have eb : rBurn1 s c K = (kU K.1 c (K.1 c - s * K.2.1 c), K.2.1, rOwn (R.1.2.2.2.1 c) (s * K.2.1 c) K.2.2.1, K.2.2.2) := by
          unfold rBurn1
          rw [if_pos (by rw [e1]; exact f), hch]
        rw [e1, e3 c (by omega)] at eb
        -- the chain
        have C : ∀ (l : List Nat) (i a : Nat) (w : Nat → Nat) (g2 : MH) (u5 u6 : Option MV), i + l.length = (R.1.2.2.2.1 c).length → (∀ j, j < l.length → l.getD j 0 = (R.1.2.2.2.1 c).getD (i + j) 0) → (∀ x, x ∈ l → x < 8) → a ≤ 400000000 → zRf g2 → zF (fun a => a ≠ 121) (zsI g 117 c (nI (R.1.1 c - s * R.1.2.1 c))) g2 → (∀ x, x < 8 → g2.1 121 x = nI (w x) ∧ w x ≤ 400000000) → rOwn l a w = rOwn (R.1.2.2.2.1 c) (s * R.1.2.1 c) K.2.2.1 → J mX11_burns d 0 0 Q 0 0 30 [some (.inr (.inr 111)), some (.inl (nI s)), some (.inl (nI c)), some (.inl (nI a)), some (.inl (nI i)), u5, u6] [] g2 := by
          intro l
          induction l with
          | nil =>
            intro i a w g2 u5 u6 q1 q2 q3 q4 r2 f2 q5 q6
            have q1' : i = (R.1.2.2.2.1 c).length := q1
            have x1 : g2.1 123 c = nI (R.1.2.2.2.1 c).length := by rw [f2.i (by omega), zI_o _ _ _ (by omega)]; exact l1
            refine u_X11_burns_30 r2 ?_
            simp (disch := omega) only [xle_t, xle_f, xlt_t, xlt_f, xeq_t, xeq_f, xle0_t, xle0_f, xlt0_f, x0lt_t, x0lt_f, x0le_t, xeq0_t, xeq0_f, xin, xem_f, xme_f, xlem_f, xlm_f, xml_t, xmle_t, nI_clamp, nI_add, pk_mul, pk_sub, zI_s, zI_k, zI_o, zL_s, zL_k, zL_o, zR_s, zR_k, zR_o, zIL, zIR, zIN, zLI, zLR, zLN, zRI, zRL, zRN, true_and, and_true, not_true_eq_false, not_false_eq_true, true_implies, false_implies, implies_true, forall_const, if_true, if_false, eq_self, false_and, and_false, implies_true, nI_l, ylle_t, ylle_f, xcl_t, xcl_f, x1]
            rw [eb] at e'
            refine ih (c + 1) (by omega) (kU K.1 c (R.1.1 c - s * R.1.2.1 c), R.1.2.1, rOwn (R.1.2.2.2.1 c) (s * R.1.2.1 c) K.2.2.1, K.2.2.2) g2 _ _ _ _ r2 (fg.trans ((mF_I (by omega)).trans ⟨f2.weak (fun a z => by omega), fun k hk => by rw [f2.i (by omega)]⟩)) (fun x hx => ?_) (tg.keep (fun k hk => ?_) ?_ ?_) rfl e2 (fun x hx => ?_) (fun x hx => Nat.le_trans (rOwn_le _ _ _ _) (e4 x hx)) e'
            · obtain ⟨c0, c1, c2, c3, c4, c5⟩ := kg x hx
              refine ⟨?_, ?_, ?_, ?_, ?_, ?_⟩
              · show _ = nI (kU K.1 c (R.1.1 c - s * R.1.2.1 c) x)
                rw [f2.i (by omega)]
                by_cases z : x = c
                · rw [z, zI_s, kU_s]
                · rw [zI_k _ _ _ z, kU_o _ _ z]; exact c0
              · rw [f2.i (by omega), zI_o _ _ _ (by omega), c1, e1]
              · rw [(q5 x hx).1]
                show _ = nI (rOwn (R.1.2.2.2.1 c) (s * R.1.2.1 c) K.2.2.1 x)
                rw [← q6]; rfl
              · rw [f2.i (by omega), zI_o _ _ _ (by omega)]; exact c3
              · rw [f2.i (by omega), zI_o _ _ _ (by omega)]; exact c4
              · rw [f2.i (by omega), zI_o _ _ _ (by omega), f2.i (by omega), zI_o _ _ _ (by omega)]; exact c5
            · rw [f2.i (by omega), zI_o _ _ _ (by omega)]
            · rw [f2.i (by omega), zI_o _ _ _ (by omega)]
            · rw [f2.i (by omega), zI_o _ _ _ (by omega)]
            · show kU K.1 c _ x = _
              rw [kU_o _ _ (by omega)]; exact e3 x (by omega)
          | cons y l ihl =>
            intro i a w g2 u5 u6 q1 q2 q3 q4 r2 f2 q5 q6
            have q1' : i + (l.length + 1) = (R.1.2.2.2.1 c).length := q1
            have hy := q3 y List.mem_cons_self
            have x1 : g2.1 123 c = nI (R.1.2.2.2.1 c).length := by rw [f2.i (by omega), zI_o _ _ _ (by omega)]; exact l1
            have x2 : g2.1 122 (8 * c + i) = nI y := by
              rw [f2.i (by omega), zI_o _ _ _ (by omega), l2 i (by omega)]
              have := q2 0 (Nat.succ_pos _)
              rw [Nat.add_zero] at this
              rw [← this]; rfl
            obtain ⟨w1, w2⟩ := q5 y hy
            refine u_X11_burns_30 r2 ?_
            by_cases a00 : a = 0
            · -- nothing left: as at the end
              subst a00
              rw [rOwn_0] at q6
              simp (disch := omega) only [xle_t, xle_f, xlt_t, xlt_f, xeq_t, xeq_f, xle0_t, xle0_f, xlt0_f, x0lt_t, x0lt_f, x0le_t, xeq0_t, xeq0_f, xin, xem_f, xme_f, xlem_f, xlm_f, xml_t, xmle_t, nI_clamp, nI_add, pk_mul, pk_sub, zI_s, zI_k, zI_o, zL_s, zL_k, zL_o, zR_s, zR_k, zR_o, zIL, zIR, zIN, zLI, zLR, zLN, zRI, zRL, zRN, true_and, and_true, not_true_eq_false, not_false_eq_true, true_implies, false_implies, implies_true, forall_const, if_true, if_false, eq_self, false_and, and_false, implies_true, nI_l, ylle_t, ylle_f, xcl_t, xcl_f, x1]
              rw [eb] at e'
              refine ih (c + 1) (by omega) (kU K.1 c (R.1.1 c - s * R.1.2.1 c), R.1.2.1, rOwn (R.1.2.2.2.1 c) (s * R.1.2.1 c) K.2.2.1, K.2.2.2) g2 _ _ _ _ r2 (fg.trans ((mF_I (by omega)).trans ⟨f2.weak (fun a z => by omega), fun k hk => by rw [f2.i (by omega)]⟩)) (fun x hx => ?_) (tg.keep (fun k hk => ?_) ?_ ?_) rfl e2 (fun x hx => ?_) (fun x hx => Nat.le_trans (rOwn_le _ _ _ _) (e4 x hx)) e'
              · obtain ⟨c0, c1, c2, c3, c4, c5⟩ := kg x hx
                refine ⟨?_, ?_, ?_, ?_, ?_, ?_⟩
                · show _ = nI (kU K.1 c (R.1.1 c - s * R.1.2.1 c) x)
                  rw [f2.i (by omega)]
                  by_cases z : x = c
                  · rw [z, zI_s, kU_s]
                  · rw [zI_k _ _ _ z, kU_o _ _ z]; exact c0
                · rw [f2.i (by omega), zI_o _ _ _ (by omega), c1, e1]
                · rw [(q5 x hx).1]
                  show _ = nI (rOwn (R.1.2.2.2.1 c) (s * R.1.2.1 c) K.2.2.1 x)
                  rw [← q6]
                · rw [f2.i (by omega), zI_o _ _ _ (by omega)]; exact c3
                · rw [f2.i (by omega), zI_o _ _ _ (by omega)]; exact c4
                · rw [f2.i (by omega), zI_o _ _ _ (by omega), f2.i (by omega), zI_o _ _ _ (by omega)]; exact c5
              · rw [f2.i (by omega), zI_o _ _ _ (by omega)]
              · rw [f2.i (by omega), zI_o _ _ _ (by omega)]
              · rw [f2.i (by omega), zI_o _ _ _ (by omega)]
              · show kU K.1 c _ x = _
                rw [kU_o _ _ (by omega)]; exact e3 x (by omega)
            · have go : ∀ (v : Nat) (u6 : Option MV), v = min (w y) a → J mX11_burns d 0 0 Q 0 0 30 [some (.inr (.inr 111)), some (.inl (nI s)), some (.inl (nI c)), some (.inl (nI (a - v))), some (.inl (nI (i + 1))), some (.inl (nI y)), u6] [] (zsI g2 121 y (nI (w y - v))) := by
                intro v u6 hv
                rw [hv]
                refine ihl (i + 1) _ (kU w y (w y - min (w y) a)) _ _ _ (by omega) (fun j hj => ?_) (fun x hx => q3 x (List.mem_cons_of_mem _ hx)) (by omega) r2 (f2.trans (zF_I _ _ _ (by omega))) (fun x hx => ?_) q6
                · have := q2 (j + 1) (Nat.succ_lt_succ hj)
                  rw [show i + 1 + j = i + (j + 1) by omega, ← this]; rfl
                · by_cases z : x = y
                  · rw [z, zI_s, kU_s]; exact ⟨rfl, by omega⟩
                  · rw [zI_k _ _ _ z, kU_o _ _ z]; exact q5 x hx
              by_cases z : a ≤ w y
              · simp (disch := omega) only [xle_t, xle_f, xlt_t, xlt_f, xeq_t, xeq_f, xle0_t, xle0_f, xlt0_f, x0lt_t, x0lt_f, x0le_t, xeq0_t, xeq0_f, xin, xem_f, xme_f, xlem_f, xlm_f, xml_t, xmle_t, nI_clamp, nI_add, pk_mul, pk_sub, zI_s, zI_k, zI_o, zL_s, zL_k, zL_o, zR_s, zR_k, zR_o, zIL, zIR, zIN, zLI, zLR, zLN, zRI, zRL, zRN, true_and, and_true, not_true_eq_false, not_false_eq_true, true_implies, false_implies, implies_true, forall_const, if_true, if_false, eq_self, false_and, and_false, implies_true, nI_l, ylle_t, ylle_f, xcl_t, xcl_f, x1, x2, w1]
                exact go a _ (by omega)
              · simp (disch := omega) only [xle_t, xle_f, xlt_t, xlt_f, xeq_t, xeq_f, xle0_t, xle0_f, xlt0_f, x0lt_t, x0lt_f, x0le_t, xeq0_t, xeq0_f, xin, xem_f, xme_f, xlem_f, xlm_f, xml_t, xmle_t, nI_clamp, nI_add, pk_mul, pk_sub, zI_s, zI_k, zI_o, zL_s, zL_k, zL_o, zR_s, zR_k, zR_o, zIL, zIR, zIN, zLI, zLR, zLN, zRI, zRL, zRN, true_and, and_true, not_true_eq_false, not_false_eq_true, true_implies, false_implies, implies_true, forall_const, if_true, if_false, eq_self, false_and, and_false, implies_true, nI_l, ylle_t, ylle_f, xcl_t, xcl_f, x1, x2, w1]
                exact go (w y) _ (by omega)
        refine C (R.1.2.2.2.1 c) 0 (s * R.1.2.1 c) K.2.2.1 _ _ _ (by omega) (fun j _ => by rw [Nat.zero_add]) hmem (by omega) rg zF.rfl (fun x hx => ⟨?_, e4 x hx⟩) rfl
        rw [zI_o _ _ _ (by omega)]; exact (kg x hx).2.2.1
      · have f0 : R.1.2.1 c = 0 := by omega
        have eb : rBurn1 s c K = K := by
          unfold rBurn1
          rw [if_neg (by rw [e1]; exact f)]
        rw [eb] at e'
        refine u_X11_burns_30 rg ?_
        rw [f0, Nat.mul_zero, Nat.sub_zero]
        have nxt : ∀ (u3 u4 u5 u6 : Option MV), J mX11_burns d 0 0 Q 0 0 2 [some (.inr (.inr 111)), some (.inl (nI s)), some (.inl (nI (c + 1))), u3, u4, u5, u6] [] (zsI g 117 c (nI (R.1.1 c))) := by
          intro u3 u4 u5 u6
          refine ih (c + 1) (by omega) K _ _ _ _ _ rg (fg.trans (mF_I (by omega))) (fun x hx => ?_) (tg.keep (fun k hk => by rw [zI_o _ _ _ (by omega)]) (zI_o _ _ _ (by omega)) (zI_o _ _ _ (by omega))) e1 e2 (fun x hx => e3 x (by omega)) e4 e'
          obtain ⟨c0, c1, c2, c3, c4, c5⟩ := kg x hx
          refine ⟨?_, ?_, ?_, ?_, ?_, ?_⟩
          · by_cases z : x = c
            · rw [z, zI_s, e3 c (by omega)]
            · rw [zI_k _ _ _ z]; exact c0
          · rw [zI_o _ _ _ (by omega)]; exact c1
          · rw [zI_o _ _ _ (by omega)]; exact c2
          · rw [zI_o _ _ _ (by omega)]; exact c3
          · rw [zI_o _ _ _ (by omega)]; exact c4
          · rw [zI_o _ _ _ (by omega), zI_o _ _ _ (by omega)]; exact c5
        simp (disch := omega) only [xle_t, xle_f, xlt_t, xlt_f, xeq_t, xeq_f, xle0_t, xle0_f, xlt0_f, x0lt_t, x0lt_f, x0le_t, xeq0_t, xeq0_f, xin, xem_f, xme_f, xlem_f, xlm_f, xml_t, xmle_t, nI_clamp, nI_add, pk_mul, pk_sub, zI_s, zI_k, zI_o, zL_s, zL_k, zL_o, zR_s, zR_k, zR_o, zIL, zIR, zIN, zLI, zLR, zLN, zRI, zRL, zRN, true_and, and_true, not_true_eq_false, not_false_eq_true, true_implies, false_implies, implies_true, forall_const, if_true, if_false, eq_self, false_and, and_false, implies_true, nI_l, ylle_t, ylle_f, xcl_t, xcl_f]
        exact ⟨fun _ => nxt _ _ _ _, fun _ => nxt _ _ _ _⟩
  exact L 8 0 (by omega) R.1 h none none none none hr mF.rfl hS.1 hS.2 rfl rfl (fun _ _ => rfl) (fun x hx => (hB x hx).2.2.1) hKt
