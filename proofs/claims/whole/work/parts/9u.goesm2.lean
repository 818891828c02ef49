/-! ===== ways in the reference: goes, whatever is sought ===== -/
theorem wOk_s {n : Nat} {out : Bool} {x w g : Nat → Nat} : wOk (n + 1) out x w g = (wOk n out x w g && decide (wLo out x w n ≤ g n ∧ g n ≤ wHi x n)) := by
  rw [Bool.eq_iff_iff, Bool.and_eq_true, wOk_i, wOk_i, decide_eq_true_eq]
  constructor
  · exact fun h => ⟨fun c hc => h c (by omega), h n (by omega)⟩
  · intro h c hc
    by_cases z : c = n
    · rw [z]; exact h.2
    · exact h.1 c (by omega)
theorem wOk_0 {out : Bool} {x w g : Nat → Nat} : wOk 0 out x w g = true := wOk_i.mpr (fun c hc => by omega)
theorem zok128 {h : MH} (hr : zRf h) {i : Nat} (hi : i < 20) : zokA h 128 20 (nI i) = True := eq_true (zia hr (n := 20) (by decide) rfl (vp_in_nI hi (by omega)))
theorem zok129 {h : MH} (hr : zRf h) {i : Nat} (hi : i < 20) : zokA h 129 20 (nI i) = True := eq_true (zia hr (n := 20) (by decide) rfl (vp_in_nI hi (by omega)))
/-- one way on: is it one, and how long -/
theorem m_47 {n d : Nat} {out : Bool} {a : WN} {W : Nat} {h0 : MH} {v2 : Int32} {Q : Option MV → MH → Prop} (hI : wI n a) (hF : wFw n a) (hl : a.1 < 4) (hw : wQ n out a h0) (h3 : W < 3 ^ n)
    (k0 : wOk n out (a.2.1 a.1) (a.2.2.1 a.1) (wG n W) = false ∨ mSp (a.2.1 a.1) (wG n W) n = none → ∀ h', zRf h' → zF (fun b => b ≠ 129) h0 h' → (∀ j, j < 4 * (a.1 + 1) → h'.1 129 j = h0.1 129 j) → ∀ v4 v5 v6 v7 v8 v9 u10 u11 u12, J mX11_goes d 0 0 Q 0 0 426 [some (.inr (.inr 111)), some (.inl (nI a.1)), some (.inl v2), some (.inl (nI W)), some (.inl v4), some (.inl v5), some (.inl v6), some (.inl v7), some (.inl v8), some (.inl v9), u10, u11, u12] [] h')
    (k1 : wOk n out (a.2.1 a.1) (a.2.2.1 a.1) (wG n W) = true → ∀ s, mSp (a.2.1 a.1) (wG n W) n = some s → ∀ h', zRf h' → zF (fun b => b ≠ 129) h0 h' → (∀ j, j < 4 * (a.1 + 1) → h'.1 129 j = h0.1 129 j) → (∀ c, c < n → h'.1 129 (4 * (a.1 + 1) + c) = nI (wG n W c)) → ∀ v4 v8 u11 u12, J mX11_goes d 0 0 Q 0 0 242 [some (.inr (.inr 111)), some (.inl (nI a.1)), some (.inl v2), some (.inl (nI W)), some (.inl v4), some (.inl (nI (wDg (wG n W) n))), some (.inl (nI (fb_sm (fun c => wG n W c - wWas a a.1 c) n))), some (.inl (nI s)), some (.inl v8), some (.inl (nI 0)), some (.inl (nI 0)), u11, u12] [] h') :
    ∀ m i, i + m = n → ∀ h', zRf h' → zF (fun b => b ≠ 129) h0 h' → (∀ j, j < 4 * (a.1 + 1) → h'.1 129 j = h0.1 129 j) → (∀ c, c < i → h'.1 129 (4 * (a.1 + 1) + c) = nI (wG n W c)) → ∀ u10 u11 u12, J mX11_goes d 0 0 Q 0 0 47 [some (.inr (.inr 111)), some (.inl (nI a.1)), some (.inl v2), some (.inl (nI W)), some (.inl (nI (3 ^ (n - i)))), some (.inl (nI (wDg (wG n W) i))), some (.inl (nI (fb_sm (fun c => wG n W c - wWas a a.1 c) i))), some (.inl (oI (mSp (a.2.1 a.1) (wG n W) i))), some (.inl (bI (wOk i out (a.2.1 a.1) (a.2.2.1 a.1) (wG n W)))), some (.inl (nI i)), u10, u11, u12] [] h' := by
  obtain ⟨w38, w42, wr, _⟩ := hw
  obtain ⟨_, _, wx⟩ := wr a.1 (Nat.le_refl _)
  have hn := hI.1
  have h81 := pow3_le hn
  have bx : ∀ c, c < n → a.2.1 a.1 c ≤ 400000 := fun c hc => by have := wI_x hI hc; omega
  intro m
  induction m with
  | zero =>
    intro i hi h' r' f' o' g' u10 u11 u12
    obtain rfl : i = n := by omega
    have e38 : h'.1 111 38 = nI i := by rw [f'.i (by omega)]; exact w38
    refine u_X11_goes_47 r' ?_
    cases eo : wOk i out (a.2.1 a.1) (a.2.2.1 a.1) (wG i W) with
    | false =>
      rw [show bI false = nI 0 from rfl]
      simp (disch := omega) only [xle_t, xle_f, xlt_t, xlt_f, xeq_t, xeq_f, xle0_t, xle0_f, xlt0_f, x0lt_t, x0lt_f, x0le_t, xeq0_t, xeq0_f, xin, xem_f, xme_f, xlem_f, xlm_f, xml_t, xmle_t, nI_clamp, nI_add, pk_mul, pk_sub, zI_s, zI_k, zI_o, zL_s, zL_k, zL_o, zR_s, zR_k, zR_o, zIL, zIR, zIN, zLI, zLR, zLN, zRI, zRL, zRN, true_and, and_true, not_true_eq_false, not_false_eq_true, true_implies, false_implies, implies_true, forall_const, if_true, if_false, eq_self, false_and, and_false, implies_true, nI_l, ylle_t, ylle_f, xcl_t, xcl_f, e38]
      exact k0 (Or.inl eo) h' r' f' o' _ _ _ _ _ _ _ _ _
    | true =>
      rw [show bI true = nI 1 from rfl]
      rcases es : mSp (a.2.1 a.1) (wG i W) i with _ | s
      · rw [show oI none = -(nI 1) from rfl]
        simp (disch := omega) only [xle_t, xle_f, xlt_t, xlt_f, xeq_t, xeq_f, xle0_t, xle0_f, xlt0_f, x0lt_t, x0lt_f, x0le_t, xeq0_t, xeq0_f, xin, xem_f, xme_f, xlem_f, xlm_f, xml_t, xmle_t, nI_clamp, nI_add, pk_mul, pk_sub, zI_s, zI_k, zI_o, zL_s, zL_k, zL_o, zR_s, zR_k, zR_o, zIL, zIR, zIN, zLI, zLR, zLN, zRI, zRL, zRN, true_and, and_true, not_true_eq_false, not_false_eq_true, true_implies, false_implies, implies_true, forall_const, if_true, if_false, eq_self, false_and, and_false, implies_true, nI_l, ylle_t, ylle_f, xcl_t, xcl_f, e38]
        exact k0 (Or.inr es) h' r' f' o' _ _ _ _ _ _ _ _ _
      · have s4 := mSp_le bx es
        rw [show oI (some s) = nI s from rfl]
        simp (disch := omega) only [xle_t, xle_f, xlt_t, xlt_f, xeq_t, xeq_f, xle0_t, xle0_f, xlt0_f, x0lt_t, x0lt_f, x0le_t, xeq0_t, xeq0_f, xin, xem_f, xme_f, xlem_f, xlm_f, xml_t, xmle_t, nI_clamp, nI_add, pk_mul, pk_sub, zI_s, zI_k, zI_o, zL_s, zL_k, zL_o, zR_s, zR_k, zR_o, zIL, zIR, zIN, zLI, zLR, zLN, zRI, zRL, zRN, true_and, and_true, not_true_eq_false, not_false_eq_true, true_implies, false_implies, implies_true, forall_const, if_true, if_false, eq_self, false_and, and_false, implies_true, nI_l, ylle_t, ylle_f, xcl_t, xcl_f, e38]
        exact k1 eo s es h' r' f' o' g' _ _ _ _
  | succ m ih =>
    intro i hi h' r' f' o' g' u10 u11 u12
    have hi' : i < n := by omega
    have e38 : h'.1 111 38 = nI n := by rw [f'.i (by omega)]; exact w38
    have e42 : h'.1 111 42 = bI out := by rw [f'.i (by omega)]; exact w42
    have ex : h'.1 128 (4 * a.1 + i) = nI (a.2.1 a.1 i) := by rw [f'.i (by omega)]; exact (wx i hi').1
    have eg : h'.1 129 (4 * a.1 + i) = nI (wWas a a.1 i) := by rw [o' _ (by omega)]; exact (wx i hi').2
    have bxi := bx i hi'
    have bf := hF a.1 (Nat.le_refl _) i hi'
    have bw : wWas a a.1 i ≤ 2 := by unfold wWas; split <;> omega
    have g3 := wG_lt n W i
    have P0 : 0 < 3 ^ (n - 1 - i) := Nat.pow_pos (by decide)
    have P1 : 3 ^ (n - 1 - i) ≤ 81 := Nat.le_trans (Nat.pow_le_pow_right (by decide) (by omega)) h81
    have P2 : 3 ^ (n - i) = 3 * 3 ^ (n - 1 - i) := by rw [show n - i = (n - 1 - i) + 1 by omega, Nat.pow_succ, Nat.mul_comm]
    have e4 : nI (3 ^ (n - i)) / nI 3 = nI (3 ^ (n - 1 - i)) := by
      rw [P2, pk_div (by omega) (by decide) (by decide), Nat.mul_div_cancel_left _ (by decide)]
    have ef : nI W / nI (3 ^ (n - 1 - i)) - nI W / nI (3 ^ (n - 1 - i)) / nI 3 * nI 3 = nI (wG n W i) := by
      rw [pk_div (by omega) P0 (by omega), pk_rem (Nat.lt_of_le_of_lt (Nat.div_le_self _ _) (by omega)) (by decide) (by decide)]
      rfl
    have nx := ih (i + 1) (by omega) (zsI h' 129 (4 * (a.1 + 1) + i) (nI (wG n W i))) r' (f'.trans (zF_I _ _ _ (by omega))) (fun j hj => by rw [zI_k _ _ _ (by omega)]; exact o' j hj) (fun c hc => by
      by_cases z : c = i
      · rw [z, zI_s]
      · rw [zI_k _ _ _ (by omega)]; exact g' c (by omega)) (some (.inl (nI (wG n W i)))) (some (.inl (nI (wWas a a.1 i)))) (some (.inl (nI (a.2.1 a.1 i))))
    rw [show n - (i + 1) = n - 1 - i by omega, show wDg (wG n W) (i + 1) = 10 * wDg (wG n W) i + wG n W i from rfl, fb_sm_succ, show mSp (a.2.1 a.1) (wG n W) (i + 1) = mSq (a.2.1 a.1 i) (wG n W i) (mSp (a.2.1 a.1) (wG n W) i) from rfl, wOk_s] at nx
    have hs : ∀ s, mSp (a.2.1 a.1) (wG n W) i = some s → s ≤ 400000 := fun s q => mSp_le (fun c hc => bx c (by omega)) q
    have no : (wOk i out (a.2.1 a.1) (a.2.2.1 a.1) (wG n W) && decide (wLo out (a.2.1 a.1) (a.2.2.1 a.1) i ≤ wG n W i ∧ wG n W i ≤ wHi (a.2.1 a.1) i)) = false → ∀ v8, J mX11_goes d 0 0 Q 0 0 144 [some (.inr (.inr 111)), some (.inl (nI a.1)), some (.inl v2), some (.inl (nI W)), some (.inl (nI (3 ^ (n - 1 - i)))), some (.inl (nI (10 * wDg (wG n W) i + wG n W i))), some (.inl (nI (fb_sm (fun c => wG n W c - wWas a a.1 c) i))), some (.inl (oI (mSp (a.2.1 a.1) (wG n W) i))), some (.inl v8), some (.inl (nI i)), some (.inl (nI (wG n W i))), some (.inl (nI (wWas a a.1 i))), some (.inl (nI (a.2.1 a.1 i)))] [] h' := by
      intro q v8
      rw [q, show bI false = nI 0 from rfl] at nx
      exact m_144 r' hl (by omega) bxi bw (by omega) hs nx
    have yes : (wOk i out (a.2.1 a.1) (a.2.2.1 a.1) (wG n W) && decide (wLo out (a.2.1 a.1) (a.2.2.1 a.1) i ≤ wG n W i ∧ wG n W i ≤ wHi (a.2.1 a.1) i)) = true → ∀ v8, J mX11_goes d 0 0 Q 0 0 140 [some (.inr (.inr 111)), some (.inl (nI a.1)), some (.inl v2), some (.inl (nI W)), some (.inl (nI (3 ^ (n - 1 - i)))), some (.inl (nI (10 * wDg (wG n W) i + wG n W i))), some (.inl (nI (fb_sm (fun c => wG n W c - wWas a a.1 c) i))), some (.inl (oI (mSp (a.2.1 a.1) (wG n W) i))), some (.inl v8), some (.inl (nI i)), some (.inl (nI (wG n W i))), some (.inl (nI (wWas a a.1 i))), some (.inl (nI (a.2.1 a.1 i)))] [] h' := by
      intro q v8
      rw [q, show bI true = nI 1 from rfl] at nx
      exact m_140 r' hl (by omega) bxi bw (by omega) hs nx
    clear nx ih
    refine u_X11_goes_47 r' ?_
    simp only [e4, ef]
    cases eo : wOk i out (a.2.1 a.1) (a.2.2.1 a.1) (wG n W) with
    | false =>
      rw [eo, Bool.false_and] at no
      rw [show bI false = nI 0 from rfl]
      simp (disch := omega) only [xle_t, xle_f, xlt_t, xlt_f, xeq_t, xeq_f, xle0_t, xle0_f, xlt0_f, x0lt_t, x0lt_f, x0le_t, xeq0_t, xeq0_f, xin, xem_f, xme_f, xlem_f, xlm_f, xml_t, xmle_t, nI_clamp, nI_add, pk_mul, pk_sub, zI_s, zI_k, zI_o, zL_s, zL_k, zL_o, zR_s, zR_k, zR_o, zIL, zIR, zIN, zLI, zLR, zLN, zRI, zRL, zRN, true_and, and_true, not_true_eq_false, not_false_eq_true, true_implies, false_implies, implies_true, forall_const, if_true, if_false, eq_self, false_and, and_false, implies_true, nI_l, ylle_t, ylle_f, xcl_t, xcl_f, e38, ex, eg]
      exact no rfl _
    | true =>
      rw [eo, Bool.true_and] at no yes
      rw [show bI true = nI 1 from rfl]
      rcases Nat.eq_zero_or_pos (a.2.1 a.1 i) with x0 | x0
      · have wl : wLo out (a.2.1 a.1) (a.2.2.1 a.1) i = 0 := wLo_z x0
        have wh : wHi (a.2.1 a.1) i = 0 := if_pos x0
        rw [wl, wh] at no yes
        rcases Nat.eq_zero_or_pos (wG n W i) with f0 | f0
        · simp (disch := omega) only [xle_t, xle_f, xlt_t, xlt_f, xeq_t, xeq_f, xle0_t, xle0_f, xlt0_f, x0lt_t, x0lt_f, x0le_t, xeq0_t, xeq0_f, xin, xem_f, xme_f, xlem_f, xlm_f, xml_t, xmle_t, nI_clamp, nI_add, pk_mul, pk_sub, zI_s, zI_k, zI_o, zL_s, zL_k, zL_o, zR_s, zR_k, zR_o, zIL, zIR, zIN, zLI, zLR, zLN, zRI, zRL, zRN, true_and, and_true, not_true_eq_false, not_false_eq_true, true_implies, false_implies, implies_true, forall_const, if_true, if_false, eq_self, false_and, and_false, implies_true, nI_l, ylle_t, ylle_f, xcl_t, xcl_f, e38, ex, eg]
          refine u_X11_goes_121 r' ?_
          simp (disch := omega) only [xle_t, xle_f, xlt_t, xlt_f, xeq_t, xeq_f, xle0_t, xle0_f, xlt0_f, x0lt_t, x0lt_f, x0le_t, xeq0_t, xeq0_f, xin, xem_f, xme_f, xlem_f, xlm_f, xml_t, xmle_t, nI_clamp, nI_add, pk_mul, pk_sub, zI_s, zI_k, zI_o, zL_s, zL_k, zL_o, zR_s, zR_k, zR_o, zIL, zIR, zIN, zLI, zLR, zLN, zRI, zRL, zRN, true_and, and_true, not_true_eq_false, not_false_eq_true, true_implies, false_implies, implies_true, forall_const, if_true, if_false, eq_self, false_and, and_false, implies_true, nI_l, ylle_t, ylle_f, xcl_t, xcl_f]
          exact yes (decide_eq_true (by omega)) _
        · simp (disch := omega) only [xle_t, xle_f, xlt_t, xlt_f, xeq_t, xeq_f, xle0_t, xle0_f, xlt0_f, x0lt_t, x0lt_f, x0le_t, xeq0_t, xeq0_f, xin, xem_f, xme_f, xlem_f, xlm_f, xml_t, xmle_t, nI_clamp, nI_add, pk_mul, pk_sub, zI_s, zI_k, zI_o, zL_s, zL_k, zL_o, zR_s, zR_k, zR_o, zIL, zIR, zIN, zLI, zLR, zLN, zRI, zRL, zRN, true_and, and_true, not_true_eq_false, not_false_eq_true, true_implies, false_implies, implies_true, forall_const, if_true, if_false, eq_self, false_and, and_false, implies_true, nI_l, ylle_t, ylle_f, xcl_t, xcl_f, e38, ex, eg]
          exact no (decide_eq_false (by omega)) _
      · have wh : wHi (a.2.1 a.1) i = 2 := if_neg (by omega)
        have ww : wWas a a.1 i = a.2.2.1 a.1 i := if_neg (by omega)
        rw [wh] at no yes
        simp (disch := omega) only [xle_t, xle_f, xlt_t, xlt_f, xeq_t, xeq_f, xle0_t, xle0_f, xlt0_f, x0lt_t, x0lt_f, x0le_t, xeq0_t, xeq0_f, xin, xem_f, xme_f, xlem_f, xlm_f, xml_t, xmle_t, nI_clamp, nI_add, pk_mul, pk_sub, zI_s, zI_k, zI_o, zL_s, zL_k, zL_o, zR_s, zR_k, zR_o, zIL, zIR, zIN, zLI, zLR, zLN, zRI, zRL, zRN, true_and, and_true, not_true_eq_false, not_false_eq_true, true_implies, false_implies, implies_true, forall_const, if_true, if_false, eq_self, false_and, and_false, implies_true, nI_l, ylle_t, ylle_f, xcl_t, xcl_f, e38, ex, eg]
        refine u_X11_goes_121 r' ?_
        cases out with
        | true =>
          rw [show bI true = nI 1 from rfl] at e42
          rw [wLo_t] at no yes
          simp (disch := omega) only [xle_t, xle_f, xlt_t, xlt_f, xeq_t, xeq_f, xle0_t, xle0_f, xlt0_f, x0lt_t, x0lt_f, x0le_t, xeq0_t, xeq0_f, xin, xem_f, xme_f, xlem_f, xlm_f, xml_t, xmle_t, nI_clamp, nI_add, pk_mul, pk_sub, zI_s, zI_k, zI_o, zL_s, zL_k, zL_o, zR_s, zR_k, zR_o, zIL, zIR, zIN, zLI, zLR, zLN, zRI, zRL, zRN, true_and, and_true, not_true_eq_false, not_false_eq_true, true_implies, false_implies, implies_true, forall_const, if_true, if_false, eq_self, false_and, and_false, implies_true, nI_l, ylle_t, ylle_f, xcl_t, xcl_f, e42]
          exact yes (decide_eq_true (by omega)) _
        | false =>
          rw [show bI false = nI 0 from rfl] at e42
          rw [wLo_f (by omega)] at no yes
          rcases Nat.lt_or_ge (wG n W i) (wWas a a.1 i) with c1 | c1
          · simp (disch := omega) only [xle_t, xle_f, xlt_t, xlt_f, xeq_t, xeq_f, xle0_t, xle0_f, xlt0_f, x0lt_t, x0lt_f, x0le_t, xeq0_t, xeq0_f, xin, xem_f, xme_f, xlem_f, xlm_f, xml_t, xmle_t, nI_clamp, nI_add, pk_mul, pk_sub, zI_s, zI_k, zI_o, zL_s, zL_k, zL_o, zR_s, zR_k, zR_o, zIL, zIR, zIN, zLI, zLR, zLN, zRI, zRL, zRN, true_and, and_true, not_true_eq_false, not_false_eq_true, true_implies, false_implies, implies_true, forall_const, if_true, if_false, eq_self, false_and, and_false, implies_true, nI_l, ylle_t, ylle_f, xcl_t, xcl_f, e42]
            exact no (decide_eq_false (by omega)) _
          · simp (disch := omega) only [xle_t, xle_f, xlt_t, xlt_f, xeq_t, xeq_f, xle0_t, xle0_f, xlt0_f, x0lt_t, x0lt_f, x0le_t, xeq0_t, xeq0_f, xin, xem_f, xme_f, xlem_f, xlm_f, xml_t, xmle_t, nI_clamp, nI_add, pk_mul, pk_sub, zI_s, zI_k, zI_o, zL_s, zL_k, zL_o, zR_s, zR_k, zR_o, zIL, zIR, zIN, zLI, zLR, zLN, zRI, zRL, zRN, true_and, and_true, not_true_eq_false, not_false_eq_true, true_implies, false_implies, implies_true, forall_const, if_true, if_false, eq_self, false_and, and_false, implies_true, nI_l, ylle_t, ylle_f, xcl_t, xcl_f, e42]
            exact yes (decide_eq_true (by omega)) _
