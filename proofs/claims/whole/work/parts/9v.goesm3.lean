/-! ===== ways in the reference: goes ===== -/
def wMr (x : Nat → Nat) (i : Nat) : Bool := decide (∃ c, c < i ∧ 0 < x c)
theorem wMr_s {x : Nat → Nat} {i : Nat} : wMr x (i + 1) = (wMr x i || decide (0 < x i)) := by
  rw [Bool.eq_iff_iff, Bool.or_eq_true, decide_eq_true_eq]
  unfold wMr
  rw [decide_eq_true_eq, decide_eq_true_eq]
  constructor
  · intro ⟨c, h1, h2⟩
    by_cases z : c = i
    · rw [z] at h2; exact Or.inr h2
    · exact Or.inl ⟨c, by omega, h2⟩
  · intro h
    rcases h with ⟨c, h1, h2⟩ | h
    · exact ⟨c, by omega, h2⟩
    · exact ⟨i, by omega, h⟩
def wFt (h h' : MH) : Prop := zF (fun a => a ≠ 111 ∧ a ≠ 132 ∧ a ≠ 135) h h' ∧ ∀ k, k ≠ 41 → k ≠ 48 → h'.1 111 k = h.1 111 k
theorem wFt.m {l : Nat} {h h' : MH} (f : wFt h h') : wFm l h h' := ⟨f.1.weak (fun a q => by omega), f.2, fun j _ => ⟨by rw [f.1.i (by omega)], by rw [f.1.i (by omega)]⟩, fun i _ => ⟨by rw [f.1.i (by omega)], by rw [f.1.i (by omega)]⟩, fun i _ => by rw [f.1.i (by omega)]⟩
/-- what is left behind the span, and whether any is -/
theorem m_242 {n d : Nat} {out : Bool} {a : WN} {W : Nat} {h0 : MH} {v2 v4 v5 v6 v8 : Int32} {Q : Option MV → MH → Prop} (hI : wI n a) (hl : a.1 < 4) (hd : 1 ≤ d) (hw : wQ n out a h0) (w0 : 0 < W) (h3 : W < 3 ^ n) (ok : wOk n out (a.2.1 a.1) (a.2.2.1 a.1) (wG n W) = true)
    (kk : ∀ h', zRf h' → zF (fun b => b ≠ 128 ∧ b ≠ 129) h0 h' → (∀ j, j < 4 * (a.1 + 1) → h'.1 128 j = h0.1 128 j ∧ h'.1 129 j = h0.1 129 j) → (∀ c, c < n → h'.1 128 (4 * (a.1 + 1) + c) = nI ((wCh n a W).2.1 (a.1 + 1) c) ∧ h'.1 129 (4 * (a.1 + 1) + c) = nI (wWas (wCh n a W) (a.1 + 1) c)) → ∀ u11 u12, J mX11_goes d 0 0 Q 0 0 242 [some (.inr (.inr 111)), some (.inl (nI a.1)), some (.inl v2), some (.inl (nI W)), some (.inl v4), some (.inl v5), some (.inl v6), some (.inl (nI (wS n a W))), some (.inl v8), some (.inl (bI (wMr ((wCh n a W).2.1 (a.1 + 1)) n))), some (.inl (nI n)), u11, u12] [] h') :
    ∀ m i, i + m = n → ∀ h', zRf h' → zF (fun b => b ≠ 128 ∧ b ≠ 129) h0 h' → (∀ j, j < 4 * (a.1 + 1) → h'.1 128 j = h0.1 128 j ∧ h'.1 129 j = h0.1 129 j) → (∀ c, c < i → h'.1 128 (4 * (a.1 + 1) + c) = nI ((wCh n a W).2.1 (a.1 + 1) c) ∧ h'.1 129 (4 * (a.1 + 1) + c) = nI (wWas (wCh n a W) (a.1 + 1) c)) → (∀ c, i ≤ c → c < n → h'.1 129 (4 * (a.1 + 1) + c) = nI (wG n W c)) → ∀ u11 u12, J mX11_goes d 0 0 Q 0 0 242 [some (.inr (.inr 111)), some (.inl (nI a.1)), some (.inl v2), some (.inl (nI W)), some (.inl v4), some (.inl v5), some (.inl v6), some (.inl (nI (wS n a W))), some (.inl v8), some (.inl (bI (wMr ((wCh n a W).2.1 (a.1 + 1)) i))), some (.inl (nI i)), u11, u12] [] h' := by
  obtain ⟨w38, w42, wr, _⟩ := hw
  obtain ⟨_, _, wx⟩ := wr a.1 (Nat.le_refl _)
  have hn := hI.1
  obtain ⟨_, s0, sm, _⟩ := wStp hI w0 h3 ok
  intro m
  induction m with
  | zero =>
    intro i hi h' r' f' o' g' _ u11 u12
    obtain rfl : i = n := by omega
    exact kk h' r' f' o' g' _ _
  | succ m ih =>
    intro i hi h' r' f' o' g' gg u11 u12
    have hi' : i < n := by omega
    have e38 : h'.1 111 38 = nI n := by rw [f'.i (by omega)]; exact w38
    have ex : h'.1 128 (4 * a.1 + i) = nI (a.2.1 a.1 i) := by rw [(o' _ (by omega)).1]; exact (wx i hi').1
    have eg := gg i (Nat.le_refl _) hi'
    rw [show 4 * (a.1 + 1) + i = 4 * a.1 + 4 + i by omega] at eg
    have bx := wI_x hI hi'
    have sj := sm i hi'
    have e1 : (wCh n a W).2.1 (a.1 + 1) i = a.2.1 a.1 i - wG n W i * wS n a W := wCh_X _ _ _ _
    have e2 : wWas (wCh n a W) (a.1 + 1) i = if a.2.1 a.1 i - wG n W i * wS n a W = 0 then 0 else wG n W i := by
      unfold wWas
      rw [wCh_X, wCh_F]
    have nx : ∀ u11 u12, J mX11_goes d 0 0 Q 0 0 242 [some (.inr (.inr 111)), some (.inl (nI a.1)), some (.inl v2), some (.inl (nI W)), some (.inl v4), some (.inl v5), some (.inl v6), some (.inl (nI (wS n a W))), some (.inl v8), some (.inl (bI (wMr ((wCh n a W).2.1 (a.1 + 1)) (i + 1)))), some (.inl (nI (i + 1))), u11, u12] [] (zsI (zsI h' 128 (4 * a.1 + 4 + i) (nI (a.2.1 a.1 i - wG n W i * wS n a W))) 129 (4 * a.1 + 4 + i) (nI (if a.2.1 a.1 i - wG n W i * wS n a W = 0 then 0 else wG n W i))) := by
      refine ih (i + 1) (by omega) _ r' ((f'.trans (zF_I _ _ _ (by omega))).trans (zF_I _ _ _ (by omega))) (fun j hj => ?_) (fun c hc => ?_) (fun c c1 c2 => ?_)
      · rw [zI_o _ _ _ (by omega), zI_k _ _ _ (by omega), zI_k _ _ _ (by omega), zI_o _ _ _ (by omega)]
        exact o' j hj
      · rw [zI_o _ _ _ (by omega)]
        by_cases z : c = i
        · rw [z, show 4 * (a.1 + 1) + i = 4 * a.1 + 4 + i by omega, zI_s, zI_s, e1, e2]
          exact ⟨rfl, rfl⟩
        · rw [zI_k _ _ _ (by omega), zI_k _ _ _ (by omega), zI_o _ _ _ (by omega)]
          exact g' c (by omega)
      · rw [zI_k _ _ _ (by omega), zI_o _ _ _ (by omega)]
        exact gg c (by omega) c2
    rw [wMr_s, e1] at nx
    refine u_X11_goes_242 (d1' := 0) r' (by omega) ?_
    rcases Nat.eq_zero_or_pos (a.2.1 a.1 i - wG n W i * wS n a W) with x0 | x0
    · rw [if_pos x0, decide_eq_false (by omega), Bool.or_false] at nx
      rw [x0] at nx
      cases em : wMr ((wCh n a W).2.1 (a.1 + 1)) i with
      | false =>
        rw [em, show bI false = nI 0 from rfl] at nx
        rw [show bI false = nI 0 from rfl]
        simp (disch := omega) only [xle_t, xle_f, xlt_t, xlt_f, xeq_t, xeq_f, xle0_t, xle0_f, xlt0_f, x0lt_t, x0lt_f, x0le_t, xeq0_t, xeq0_f, xin, xem_f, xme_f, xlem_f, xlm_f, xml_t, xmle_t, nI_clamp, nI_add, pk_mul, pk_sub, zI_s, zI_k, zI_o, zL_s, zL_k, zL_o, zR_s, zR_k, zR_o, zIL, zIR, zIN, zLI, zLR, zLN, zRI, zRL, zRN, true_and, and_true, not_true_eq_false, not_false_eq_true, true_implies, false_implies, implies_true, forall_const, if_true, if_false, eq_self, false_and, and_false, implies_true, nI_l, ylle_t, ylle_f, xcl_t, xcl_f, e38, ex, eg, x0, zok129 (show zRf (zsI h' 128 (4 * a.1 + 4 + i) (nI 0)) from r')]
        exact nx _ _
      | true =>
        rw [em, show bI true = nI 1 from rfl] at nx
        rw [show bI true = nI 1 from rfl]
        simp (disch := omega) only [xle_t, xle_f, xlt_t, xlt_f, xeq_t, xeq_f, xle0_t, xle0_f, xlt0_f, x0lt_t, x0lt_f, x0le_t, xeq0_t, xeq0_f, xin, xem_f, xme_f, xlem_f, xlm_f, xml_t, xmle_t, nI_clamp, nI_add, pk_mul, pk_sub, zI_s, zI_k, zI_o, zL_s, zL_k, zL_o, zR_s, zR_k, zR_o, zIL, zIR, zIN, zLI, zLR, zLN, zRI, zRL, zRN, true_and, and_true, not_true_eq_false, not_false_eq_true, true_implies, false_implies, implies_true, forall_const, if_true, if_false, eq_self, false_and, and_false, implies_true, nI_l, ylle_t, ylle_f, xcl_t, xcl_f, e38, ex, eg, x0, zok129 (show zRf (zsI h' 128 (4 * a.1 + 4 + i) (nI 0)) from r')]
        refine u_X11_goes_352 ?_
        simp (disch := omega) only [xle_t, xle_f, xlt_t, xlt_f, xeq_t, xeq_f, xle0_t, xle0_f, xlt0_f, x0lt_t, x0lt_f, x0le_t, xeq0_t, xeq0_f, xin, xem_f, xme_f, xlem_f, xlm_f, xml_t, xmle_t, nI_clamp, nI_add, pk_mul, pk_sub, zI_s, zI_k, zI_o, zL_s, zL_k, zL_o, zR_s, zR_k, zR_o, zIL, zIR, zIN, zLI, zLR, zLN, zRI, zRL, zRN, true_and, and_true, not_true_eq_false, not_false_eq_true, true_implies, false_implies, implies_true, forall_const, if_true, if_false, eq_self, false_and, and_false, implies_true, nI_l, ylle_t, ylle_f, xcl_t, xcl_f]
        exact nx _ _
    · rw [if_neg (by omega), decide_eq_true x0, Bool.or_true, show bI true = nI 1 from rfl] at nx
      cases em : wMr ((wCh n a W).2.1 (a.1 + 1)) i with
      | false =>
        rw [show bI false = nI 0 from rfl]
        simp (disch := omega) only [xle_t, xle_f, xlt_t, xlt_f, xeq_t, xeq_f, xle0_t, xle0_f, xlt0_f, x0lt_t, x0lt_f, x0le_t, xeq0_t, xeq0_f, xin, xem_f, xme_f, xlem_f, xlm_f, xml_t, xmle_t, nI_clamp, nI_add, pk_mul, pk_sub, zI_s, zI_k, zI_o, zL_s, zL_k, zL_o, zR_s, zR_k, zR_o, zIL, zIR, zIN, zLI, zLR, zLN, zRI, zRL, zRN, true_and, and_true, not_true_eq_false, not_false_eq_true, true_implies, false_implies, implies_true, forall_const, if_true, if_false, eq_self, false_and, and_false, implies_true, nI_l, ylle_t, ylle_f, xcl_t, xcl_f, e38, ex, eg, zok129 (show zRf (zsI h' 128 (4 * a.1 + 4 + i) (nI (a.2.1 a.1 i - wG n W i * wS n a W))) from r')]
        refine u_X11_goes_352 ?_
        simp (disch := omega) only [xle_t, xle_f, xlt_t, xlt_f, xeq_t, xeq_f, xle0_t, xle0_f, xlt0_f, x0lt_t, x0lt_f, x0le_t, xeq0_t, xeq0_f, xin, xem_f, xme_f, xlem_f, xlm_f, xml_t, xmle_t, nI_clamp, nI_add, pk_mul, pk_sub, zI_s, zI_k, zI_o, zL_s, zL_k, zL_o, zR_s, zR_k, zR_o, zIL, zIR, zIN, zLI, zLR, zLN, zRI, zRL, zRN, true_and, and_true, not_true_eq_false, not_false_eq_true, true_implies, false_implies, implies_true, forall_const, if_true, if_false, eq_self, false_and, and_false, implies_true, nI_l, ylle_t, ylle_f, xcl_t, xcl_f]
        exact nx _ _
      | true =>
        rw [show bI true = nI 1 from rfl]
        simp (disch := omega) only [xle_t, xle_f, xlt_t, xlt_f, xeq_t, xeq_f, xle0_t, xle0_f, xlt0_f, x0lt_t, x0lt_f, x0le_t, xeq0_t, xeq0_f, xin, xem_f, xme_f, xlem_f, xlm_f, xml_t, xmle_t, nI_clamp, nI_add, pk_mul, pk_sub, zI_s, zI_k, zI_o, zL_s, zL_k, zL_o, zR_s, zR_k, zR_o, zIL, zIR, zIN, zLI, zLR, zLN, zRI, zRL, zRN, true_and, and_true, not_true_eq_false, not_false_eq_true, true_implies, false_implies, implies_true, forall_const, if_true, if_false, eq_self, false_and, and_false, implies_true, nI_l, ylle_t, ylle_f, xcl_t, xcl_f, e38, ex, eg, zok129 (show zRf (zsI h' 128 (4 * a.1 + 4 + i) (nI (a.2.1 a.1 i - wG n W i * wS n a W))) from r')]
        refine u_X11_goes_352 ?_
        simp (disch := omega) only [xle_t, xle_f, xlt_t, xlt_f, xeq_t, xeq_f, xle0_t, xle0_f, xlt0_f, x0lt_t, x0lt_f, x0le_t, xeq0_t, xeq0_f, xin, xem_f, xme_f, xlem_f, xlm_f, xml_t, xmle_t, nI_clamp, nI_add, pk_mul, pk_sub, zI_s, zI_k, zI_o, zL_s, zL_k, zL_o, zR_s, zR_k, zR_o, zIL, zIR, zIN, zLI, zLR, zLN, zRI, zRL, zRN, true_and, and_true, not_true_eq_false, not_false_eq_true, true_implies, false_implies, implies_true, forall_const, if_true, if_false, eq_self, false_and, and_false, implies_true, nI_l, ylle_t, ylle_f, xcl_t, xcl_f]
        exact nx _ _
