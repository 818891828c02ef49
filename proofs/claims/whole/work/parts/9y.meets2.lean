/-! ===== ways in the reference: meets, the rest ===== -/
def wDn (n : Nat) (x0 : Nat → Nat) (b : WN) : Prop := b.2.1 0 = x0 ∧ ∀ c, c < n → b.2.1 b.1 c ≤ x0 c
theorem wDn_ch {n : Nat} {x0 : Nat → Nat} {a : WN} {W : Nat} (h : wDn n x0 a) : wDn n x0 (wCh n a W) := ⟨by rw [wCh_Xo (by omega)]; exact h.1, fun c hc => by
  rw [wCh_L, wCh_X]
  have := h.2 c hc
  omega⟩
theorem fb_sm_sub {f g : Nat → Nat} : ∀ {n : Nat}, (∀ k, k < n → g k ≤ f k) → fb_sm (fun k => f k - g k) n = fb_sm f n - fb_sm g n ∧ fb_sm g n ≤ fb_sm f n
  | 0, _ => ⟨rfl, Nat.le_refl _⟩
  | n + 1, h => by
    obtain ⟨h1, h2⟩ := fb_sm_sub (n := n) (fun k hk => h k (by omega))
    have h3 := h n (by omega)
    rw [fb_sm_succ, fb_sm_succ, fb_sm_succ, h1]
    omega
def fsR (n : Nat) (s : SK) (h : MH) : Prop := match s with
  | none => h.1 111 48 = nI 0
  | some (_, r, F) => h.1 111 48 = nI r ∧ 1 ≤ r ∧ r ≤ 4 ∧ ∀ k, k < r → h.1 135 k = nI (wDg (F (k + 1)) n)
def aTd (w : Nat) (v : Nat → Int32) (b : WN) : Bool := decide (∀ i, i < w → ∃ j, j < b.1 ∧ nI (b.2.2.2 (j + 1)) = v i)
section MT
variable {n d : Nat} {out : Bool} {b : WN} {h h00 : MH} {Q : Option MV → MH → Prop}
theorem m_mt5 {T A : Nat} {s : SK} {x0 : Nat → Nat} (hd : 1 ≤ d) (hI : wI n b) (hD : wDn n x0 b) (hA : A = fb_sm x0 n) (hAb : A ≤ 368640) (hr : zRf h) (hf : wFm 0 h00 h) (hw : wQ n out b h) (t40 : h00.1 111 40 = nI 5) (t39 : h00.1 111 39 = nI T) (hT : T < 2 ^ 31) (hR : h.1 111 41 = oI (sB s) ∧ ∀ v, sB s = some v → v ≤ 400000) (kk : ∀ h', zRf h' → wFt h h' → (h'.1 111 41 = oI (sB (sU n 3 T A s b)) ∧ ∀ v, sB (sU n 3 T A s b) = some v → v ≤ 400000) → Q none h') : Con mX11_meets d 0 0 [.inr (.inr 111), .inl (nI b.1)] h Q := by
  have hl : b.1 ≤ 4 := by have := hI.2.1; omega
  have hn := hI.1
  have bS := hI.2.2.2
  obtain ⟨em, _, ex⟩ := hw.2.2.1 b.1 (Nat.le_refl _)
  obtain ⟨_, _, ex0⟩ := hw.2.2.1 0 (by omega)
  have e38 := hw.1
  have e40 : h.1 111 40 = nI 5 := by rw [hf.2.1 40 (by omega) (by omega)]; exact t40
  have e39 : h.1 111 39 = nI T := by rw [hf.2.1 39 (by omega) (by omega)]; exact t39
  obtain ⟨sm1, sm2⟩ := fb_sm_sub (f := x0) (g := b.2.1 b.1) hD.2
  have ec : sCo n 3 A b = fb_sm (fun c => x0 c - b.2.1 b.1 c) n := by
    rw [sm1, ← hA]
    exact if_neg (by decide)
  obtain ⟨e41, hv⟩ := hR
  refine u_X11_meets (d1' := 0) hr hd (by omega) ?_
  simp (disch := omega) only [xle_t, xle_f, xlt_t, xlt_f, xeq_t, xeq_f, xle0_t, xle0_f, xlt0_f, x0lt_t, x0lt_f, x0le_t, xeq0_t, xeq0_f, xin, xem_f, xme_f, xlem_f, xlm_f, xml_t, xmle_t, nI_clamp, nI_add, pk_mul, pk_sub, zI_s, zI_k, zI_o, zL_s, zL_k, zL_o, zR_s, zR_k, zR_o, zIL, zIR, zIN, zLI, zLR, zLN, zRI, zRL, zRN, true_and, and_true, not_true_eq_false, not_false_eq_true, true_implies, false_implies, implies_true, forall_const, if_true, if_false, eq_self, false_and, and_false, implies_true, nI_l, ylle_t, ylle_f, xcl_t, xcl_f, em, e40]
  have L : ∀ m i, i + m = n → J mX11_meets d 0 0 Q 0 0 167 [some (.inr (.inr 111)), some (.inl (nI b.1)), some (.inl (nI (b.2.2.2 b.1))), some (.inl (nI (fb_sm (fun c => x0 c - b.2.1 b.1 c) i))), some (.inl (nI i))] [] h := by
    intro m
    induction m with
    | zero =>
      intro i hi
      obtain rfl : i = n := by omega
      have bl : fb_sm (fun c => x0 c - b.2.1 b.1 c) i ≤ 368640 := by omega
      refine u_X11_meets_167 hr ?_
      by_cases z : b.2.2.2 b.1 = T
      · have eU := sU_B (n := i) (A := A) (s := s) (g := 3) (by decide) z
        rw [ec] at eU
        rcases es : sB s with _ | v
        · rw [es] at eU e41
          simp only at eU
          rw [eU] at kk
          rw [show oI none = -(nI 1) from rfl] at e41
          simp (disch := omega) only [xle_t, xle_f, xlt_t, xlt_f, xeq_t, xeq_f, xle0_t, xle0_f, xlt0_f, x0lt_t, x0lt_f, x0le_t, xeq0_t, xeq0_f, xin, xem_f, xme_f, xlem_f, xlm_f, xml_t, xmle_t, nI_clamp, nI_add, pk_mul, pk_sub, zI_s, zI_k, zI_o, zL_s, zL_k, zL_o, zR_s, zR_k, zR_o, zIL, zIR, zIN, zLI, zLR, zLN, zRI, zRL, zRN, true_and, and_true, not_true_eq_false, not_false_eq_true, true_implies, false_implies, implies_true, forall_const, if_true, if_false, eq_self, false_and, and_false, implies_true, nI_l, ylle_t, ylle_f, xcl_t, xcl_f, e38, e39, e41]
          exact kk _ hr (wFt_I _ (Or.inl rfl)) ⟨by rw [zI_s]; rfl, fun v q => by have := Option.some.inj q; omega⟩
        · rw [es] at eU e41
          have v4 := hv v es
          rw [show oI (some v) = nI v from rfl] at e41
          rcases Nat.lt_or_ge (fb_sm (fun c => x0 c - b.2.1 b.1 c) i) v with c1 | c1
          · simp only [Nat.min_eq_right (Nat.le_of_lt c1)] at eU
            rw [eU] at kk
            simp (disch := omega) only [xle_t, xle_f, xlt_t, xlt_f, xeq_t, xeq_f, xle0_t, xle0_f, xlt0_f, x0lt_t, x0lt_f, x0le_t, xeq0_t, xeq0_f, xin, xem_f, xme_f, xlem_f, xlm_f, xml_t, xmle_t, nI_clamp, nI_add, pk_mul, pk_sub, zI_s, zI_k, zI_o, zL_s, zL_k, zL_o, zR_s, zR_k, zR_o, zIL, zIR, zIN, zLI, zLR, zLN, zRI, zRL, zRN, true_and, and_true, not_true_eq_false, not_false_eq_true, true_implies, false_implies, implies_true, forall_const, if_true, if_false, eq_self, false_and, and_false, implies_true, nI_l, ylle_t, ylle_f, xcl_t, xcl_f, e38, e39, e41]
            exact kk _ hr (wFt_I _ (Or.inl rfl)) ⟨by rw [zI_s]; rfl, fun v q => by have := Option.some.inj q; omega⟩
          · simp only [Nat.min_eq_left c1] at eU
            rw [eU] at kk
            simp (disch := omega) only [xle_t, xle_f, xlt_t, xlt_f, xeq_t, xeq_f, xle0_t, xle0_f, xlt0_f, x0lt_t, x0lt_f, x0le_t, xeq0_t, xeq0_f, xin, xem_f, xme_f, xlem_f, xlm_f, xml_t, xmle_t, nI_clamp, nI_add, pk_mul, pk_sub, zI_s, zI_k, zI_o, zL_s, zL_k, zL_o, zR_s, zR_k, zR_o, zIL, zIR, zIN, zLI, zLR, zLN, zRI, zRL, zRN, true_and, and_true, not_true_eq_false, not_false_eq_true, true_implies, false_implies, implies_true, forall_const, if_true, if_false, eq_self, false_and, and_false, implies_true, nI_l, ylle_t, ylle_f, xcl_t, xcl_f, e38, e39, e41]
            exact kk _ hr wFt.rfl ⟨e41, fun v' q => by have := Option.some.inj q; omega⟩
      · rw [sU_ne z] at kk
        simp (disch := omega) only [xle_t, xle_f, xlt_t, xlt_f, xeq_t, xeq_f, xle0_t, xle0_f, xlt0_f, x0lt_t, x0lt_f, x0le_t, xeq0_t, xeq0_f, xin, xem_f, xme_f, xlem_f, xlm_f, xml_t, xmle_t, nI_clamp, nI_add, pk_mul, pk_sub, zI_s, zI_k, zI_o, zL_s, zL_k, zL_o, zR_s, zR_k, zR_o, zIL, zIR, zIN, zLI, zLR, zLN, zRI, zRL, zRN, true_and, and_true, not_true_eq_false, not_false_eq_true, true_implies, false_implies, implies_true, forall_const, if_true, if_false, eq_self, false_and, and_false, implies_true, nI_l, ylle_t, ylle_f, xcl_t, xcl_f, e38, e39]
        exact kk _ hr wFt.rfl ⟨e41, hv⟩
    | succ m ih =>
      intro i hi
      have hi' : i < n := by omega
      have y1 := (ex0 i hi').1
      have y2 := (ex i hi').1
      rw [Nat.mul_zero, Nat.zero_add, hD.1] at y1
      have y3 := hD.2 i hi'
      refine u_X11_meets_167 hr ?_
      simp (disch := omega) only [xle_t, xle_f, xlt_t, xlt_f, xeq_t, xeq_f, xle0_t, xle0_f, xlt0_f, x0lt_t, x0lt_f, x0le_t, xeq0_t, xeq0_f, xin, xem_f, xme_f, xlem_f, xlm_f, xml_t, xmle_t, nI_clamp, nI_add, pk_mul, pk_sub, zI_s, zI_k, zI_o, zL_s, zL_k, zL_o, zR_s, zR_k, zR_o, zIL, zIR, zIN, zLI, zLR, zLN, zRI, zRL, zRN, true_and, and_true, not_true_eq_false, not_false_eq_true, true_implies, false_implies, implies_true, forall_const, if_true, if_false, eq_self, false_and, and_false, implies_true, nI_l, ylle_t, ylle_f, xcl_t, xcl_f, e38, y1, y2]
      exact ih (i + 1) (by omega)
  exact L n 0 (by omega)
theorem m_mt6 {T A : Nat} {s : SK} (hd : 1 ≤ d) (hI : wI n b) (hb1 : 1 ≤ b.1) (hr : zRf h) (hf : wFm 0 h00 h) (hw : wQ n out b h) (t40 : h00.1 111 40 = nI 6) (t39 : h00.1 111 39 = nI T) (hT : T < 2 ^ 31) (hR : fsR n s h) (kk : ∀ h', zRf h' → wFt h h' → fsR n (sU n 1 T A s b) h' → Q none h') : Con mX11_meets d 0 0 [.inr (.inr 111), .inl (nI b.1)] h Q := by
  have hl : b.1 ≤ 4 := by have := hI.2.1; omega
  have bS := hI.2.2.2
  obtain ⟨em, _, _⟩ := hw.2.2.1 b.1 (Nat.le_refl _)
  have e40 : h.1 111 40 = nI 6 := by rw [hf.2.1 40 (by omega) (by omega)]; exact t40
  have e39 : h.1 111 39 = nI T := by rw [hf.2.1 39 (by omega) (by omega)]; exact t39
  refine u_X11_meets (d1' := 0) hr hd (by omega) ?_
  by_cases z : b.2.2.2 b.1 = T
  · rcases s with _ | ⟨be, r, F⟩
    · have e48 : h.1 111 48 = nI 0 := hR
      have eU : sU n 1 T A none b = some (sCo n 1 A b, b.1, b.2.2.1) := if_pos z
      rw [eU] at kk
      simp (disch := omega) only [xle_t, xle_f, xlt_t, xlt_f, xeq_t, xeq_f, xle0_t, xle0_f, xlt0_f, x0lt_t, x0lt_f, x0le_t, xeq0_t, xeq0_f, xin, xem_f, xme_f, xlem_f, xlm_f, xml_t, xmle_t, nI_clamp, nI_add, pk_mul, pk_sub, zI_s, zI_k, zI_o, zL_s, zL_k, zL_o, zR_s, zR_k, zR_o, zIL, zIR, zIN, zLI, zLR, zLN, zRI, zRL, zRN, true_and, and_true, not_true_eq_false, not_false_eq_true, true_implies, false_implies, implies_true, forall_const, if_true, if_false, eq_self, false_and, and_false, implies_true, nI_l, ylle_t, ylle_f, xcl_t, xcl_f, em, e40, e39, e48]
      have L : ∀ m i, i + m = b.1 → ∀ h', zRf h' → wFt h h' → h'.1 111 48 = nI b.1 → (∀ k, k < i → h'.1 135 k = nI (wDg (b.2.2.1 (k + 1)) n)) → J mX11_meets d 0 0 Q 0 0 268 [some (.inr (.inr 111)), some (.inl (nI b.1)), some (.inl (nI (b.2.2.2 b.1))), some (.inl (nI i)), none] [] h' := by
        intro m
        induction m with
        | zero =>
          intro i hi h' r' f' g1 g2
          obtain rfl : i = b.1 := by omega
          refine u_X11_meets_268 r' ?_
          simp (disch := omega) only [xle_t, xle_f, xlt_t, xlt_f, xeq_t, xeq_f, xle0_t, xle0_f, xlt0_f, x0lt_t, x0lt_f, x0le_t, xeq0_t, xeq0_f, xin, xem_f, xme_f, xlem_f, xlm_f, xml_t, xmle_t, nI_clamp, nI_add, pk_mul, pk_sub, zI_s, zI_k, zI_o, zL_s, zL_k, zL_o, zR_s, zR_k, zR_o, zIL, zIR, zIN, zLI, zLR, zLN, zRI, zRL, zRN, true_and, and_true, not_true_eq_false, not_false_eq_true, true_implies, false_implies, implies_true, forall_const, if_true, if_false, eq_self, false_and, and_false, implies_true, nI_l, ylle_t, ylle_f, xcl_t, xcl_f]
          exact kk h' r' f' ⟨g1, hb1, hl, g2⟩
        | succ m ih =>
          intro i hi h' r' f' g1 g2
          have e134 : h'.1 134 i = nI (wDg (b.2.2.1 (i + 1)) n) := by rw [f'.1.i (by omega)]; exact hw.2.2.2 i (by omega)
          refine u_X11_meets_268 r' ?_
          simp (disch := omega) only [xle_t, xle_f, xlt_t, xlt_f, xeq_t, xeq_f, xle0_t, xle0_f, xlt0_f, x0lt_t, x0lt_f, x0le_t, xeq0_t, xeq0_f, xin, xem_f, xme_f, xlem_f, xlm_f, xml_t, xmle_t, nI_clamp, nI_add, pk_mul, pk_sub, zI_s, zI_k, zI_o, zL_s, zL_k, zL_o, zR_s, zR_k, zR_o, zIL, zIR, zIN, zLI, zLR, zLN, zRI, zRL, zRN, true_and, and_true, not_true_eq_false, not_false_eq_true, true_implies, false_implies, implies_true, forall_const, if_true, if_false, eq_self, false_and, and_false, implies_true, nI_l, ylle_t, ylle_f, xcl_t, xcl_f, e134]
          refine ih (i + 1) (by omega) _ r' (f'.trans ⟨zF_I _ _ _ (by omega), fun j _ _ => by rw [zI_o _ _ _ (by omega)]⟩) (by rw [zI_o _ _ _ (by omega)]; exact g1) (fun k hk => ?_)
          by_cases y : k = i
          · rw [y, zI_s]
          · rw [zI_k _ _ _ y]; exact g2 k (by omega)
      exact L b.1 0 (by omega) _ hr (wFt_I _ (Or.inr rfl)) (by rw [zI_s]) (fun k hk => by omega)
    · obtain ⟨e48, r1, r4, _⟩ := id hR
      have eU : sU n 1 T A (some (be, r, F)) b = some (be, r, F) := by
        unfold sU
        rw [if_pos z]
        exact if_neg (fun q => q.1 rfl)
      rw [eU] at kk
      simp (disch := omega) only [xle_t, xle_f, xlt_t, xlt_f, xeq_t, xeq_f, xle0_t, xle0_f, xlt0_f, x0lt_t, x0lt_f, x0le_t, xeq0_t, xeq0_f, xin, xem_f, xme_f, xlem_f, xlm_f, xml_t, xmle_t, nI_clamp, nI_add, pk_mul, pk_sub, zI_s, zI_k, zI_o, zL_s, zL_k, zL_o, zR_s, zR_k, zR_o, zIL, zIR, zIN, zLI, zLR, zLN, zRI, zRL, zRN, true_and, and_true, not_true_eq_false, not_false_eq_true, true_implies, false_implies, implies_true, forall_const, if_true, if_false, eq_self, false_and, and_false, implies_true, nI_l, ylle_t, ylle_f, xcl_t, xcl_f, em, e40, e39, e48]
      exact kk h hr wFt.rfl hR
  · rw [sU_ne z] at kk
    simp (disch := omega) only [xle_t, xle_f, xlt_t, xlt_f, xeq_t, xeq_f, xle0_t, xle0_f, xlt0_f, x0lt_t, x0lt_f, x0le_t, xeq0_t, xeq0_f, xin, xem_f, xme_f, xlem_f, xlm_f, xml_t, xmle_t, nI_clamp, nI_add, pk_mul, pk_sub, zI_s, zI_k, zI_o, zL_s, zL_k, zL_o, zR_s, zR_k, zR_o, zIL, zIR, zIN, zLI, zLR, zLN, zRI, zRL, zRN, true_and, and_true, not_true_eq_false, not_false_eq_true, true_implies, false_implies, implies_true, forall_const, if_true, if_false, eq_self, false_and, and_false, implies_true, nI_l, ylle_t, ylle_f, xcl_t, xcl_f, em, e40, e39]
    exact kk h hr wFt.rfl hR
theorem m_mt3 {w : Nat} {v : Nat → Int32} {f : Bool} (hd : 1 ≤ d) (hI : wI n b) (hw40 : w ≤ 40) (hr : zRf h) (hf : wFm 0 h00 h) (hw : wQ n out b h) (t40 : h00.1 111 40 = nI 3) (t47 : h00.1 111 47 = nI w) (t133 : ∀ i, i < w → h00.1 133 i = v i) (hR : h.1 111 41 = bI f) (kk : ∀ h', zRf h' → wFt h h' → h'.1 111 41 = bI (fU (aTd w v) f b) → Q none h') : Con mX11_meets d 0 0 [.inr (.inr 111), .inl (nI b.1)] h Q := by
  have hl : b.1 ≤ 4 := by have := hI.2.1; omega
  have bS := hI.2.2.2
  obtain ⟨em, _, _⟩ := hw.2.2.1 b.1 (Nat.le_refl _)
  have e40 : h.1 111 40 = nI 3 := by rw [hf.2.1 40 (by omega) (by omega)]; exact t40
  have e47 : h.1 111 47 = nI w := by rw [hf.2.1 47 (by omega) (by omega)]; exact t47
  have e133 : ∀ i, i < w → h.1 133 i = v i := fun i hi => by rw [hf.1.i (by omega)]; exact t133 i hi
  refine u_X11_meets (d1' := 0) hr hd (by omega) ?_
  simp (disch := omega) only [xle_t, xle_f, xlt_t, xlt_f, xeq_t, xeq_f, xle0_t, xle0_f, xlt0_f, x0lt_t, x0lt_f, x0le_t, xeq0_t, xeq0_f, xin, xem_f, xme_f, xlem_f, xlm_f, xml_t, xmle_t, nI_clamp, nI_add, pk_mul, pk_sub, zI_s, zI_k, zI_o, zL_s, zL_k, zL_o, zR_s, zR_k, zR_o, zIL, zIR, zIN, zLI, zLR, zLN, zRI, zRL, zRN, true_and, and_true, not_true_eq_false, not_false_eq_true, true_implies, false_implies, implies_true, forall_const, if_true, if_false, eq_self, false_and, and_false, implies_true, nI_l, ylle_t, ylle_f, xcl_t, xcl_f, em, e40]
  refine u_X11_areTold ?_
  have fin : ∀ t : Bool, t = aTd w v b → J mX11_meets d 0 0 Q 0 0 300 [some (.inr (.inr 111)), some (.inl (nI b.1)), some (.inl (nI (b.2.2.2 b.1))), none, none] [.inl (bI t), .inr (.inr 111)] h := by
    intro t ht
    refine u_X11_meets_300 hr ?_
    cases t with
    | true =>
      rw [show bI true = nI 1 from rfl]
      simp (disch := omega) only [xle_t, xle_f, xlt_t, xlt_f, xeq_t, xeq_f, xle0_t, xle0_f, xlt0_f, x0lt_t, x0lt_f, x0le_t, xeq0_t, xeq0_f, xin, xem_f, xme_f, xlem_f, xlm_f, xml_t, xmle_t, nI_clamp, nI_add, pk_mul, pk_sub, zI_s, zI_k, zI_o, zL_s, zL_k, zL_o, zR_s, zR_k, zR_o, zIL, zIR, zIN, zLI, zLR, zLN, zRI, zRL, zRN, true_and, and_true, not_true_eq_false, not_false_eq_true, true_implies, false_implies, implies_true, forall_const, if_true, if_false, eq_self, false_and, and_false, implies_true, nI_l, ylle_t, ylle_f, xcl_t, xcl_f]
      refine kk _ hr (wFt_I _ (Or.inl rfl)) ?_
      unfold fU
      rw [← ht, Bool.or_true, zI_s]
      rfl
    | false =>
      rw [show bI false = nI 0 from rfl]
      simp (disch := omega) only [xle_t, xle_f, xlt_t, xlt_f, xeq_t, xeq_f, xle0_t, xle0_f, xlt0_f, x0lt_t, x0lt_f, x0le_t, xeq0_t, xeq0_f, xin, xem_f, xme_f, xlem_f, xlm_f, xml_t, xmle_t, nI_clamp, nI_add, pk_mul, pk_sub, zI_s, zI_k, zI_o, zL_s, zL_k, zL_o, zR_s, zR_k, zR_o, zIL, zIR, zIN, zLI, zLR, zLN, zRI, zRL, zRN, true_and, and_true, not_true_eq_false, not_false_eq_true, true_implies, false_implies, implies_true, forall_const, if_true, if_false, eq_self, false_and, and_false, implies_true, nI_l, ylle_t, ylle_f, xcl_t, xcl_f]
      refine kk _ hr (wFt_I _ (Or.inl rfl)) ?_
      unfold fU
      rw [← ht, Bool.or_false, zI_s]
      exact hR
  have L : ∀ m i, i + m = w → (∀ i', i' < i → ∃ j, j < b.1 ∧ nI (b.2.2.2 (j + 1)) = v i') → ∀ u3 u4, J mX11_areTold 0 0 0 (zri fun (x : Int32) h' => J mX11_meets d 0 0 Q 0 0 300 [some (.inr (.inr 111)), some (.inl (nI b.1)), some (.inl (nI (b.2.2.2 b.1))), none, none] [.inl x, .inr (.inr 111)] h') 0 0 2 [some (.inr (.inr 111)), some (.inl (nI b.1)), some (.inl (nI i)), u3, u4] [] h := by
    intro m
    induction m with
    | zero =>
      intro i hi all u3 u4
      refine u_X11_areTold_2 hr ?_
      simp (disch := omega) only [xle_t, xle_f, xlt_t, xlt_f, xeq_t, xeq_f, xle0_t, xle0_f, xlt0_f, x0lt_t, x0lt_f, x0le_t, xeq0_t, xeq0_f, xin, xem_f, xme_f, xlem_f, xlm_f, xml_t, xmle_t, nI_clamp, nI_add, pk_mul, pk_sub, zI_s, zI_k, zI_o, zL_s, zL_k, zL_o, zR_s, zR_k, zR_o, zIL, zIR, zIN, zLI, zLR, zLN, zRI, zRL, zRN, true_and, and_true, not_true_eq_false, not_false_eq_true, true_implies, false_implies, implies_true, forall_const, if_true, if_false, eq_self, false_and, and_false, implies_true, nI_l, ylle_t, ylle_f, xcl_t, xcl_f, e47]
      exact fin true (decide_eq_true (fun i' hi' => all i' (by omega))).symm
    | succ m ih =>
      intro i hi all u3 u4
      refine u_X11_areTold_2 hr ?_
      simp (disch := omega) only [xle_t, xle_f, xlt_t, xlt_f, xeq_t, xeq_f, xle0_t, xle0_f, xlt0_f, x0lt_t, x0lt_f, x0le_t, xeq0_t, xeq0_f, xin, xem_f, xme_f, xlem_f, xlm_f, xml_t, xmle_t, nI_clamp, nI_add, pk_mul, pk_sub, zI_s, zI_k, zI_o, zL_s, zL_k, zL_o, zR_s, zR_k, zR_o, zIL, zIR, zIN, zLI, zLR, zLN, zRI, zRL, zRN, true_and, and_true, not_true_eq_false, not_false_eq_true, true_implies, false_implies, implies_true, forall_const, if_true, if_false, eq_self, false_and, and_false, implies_true, nI_l, ylle_t, ylle_f, xcl_t, xcl_f, e47]
      have L2 : ∀ m' j, j + m' = b.1 → ∀ f' : Bool, (f' = true ↔ ∃ j', j' < j ∧ nI (b.2.2.2 (j' + 1)) = v i) → J mX11_areTold 0 0 0 (zri fun (x : Int32) h' => J mX11_meets d 0 0 Q 0 0 300 [some (.inr (.inr 111)), some (.inl (nI b.1)), some (.inl (nI (b.2.2.2 b.1))), none, none] [.inl x, .inr (.inr 111)] h') 0 0 15 [some (.inr (.inr 111)), some (.inl (nI b.1)), some (.inl (nI i)), some (.inl (bI f')), some (.inl (nI (j + 1)))] [] h := by
        intro m'
        induction m' with
        | zero =>
          intro j hj f' ef
          refine u_X11_areTold_15 hr ?_
          cases f' with
          | true =>
            rw [show bI true = nI 1 from rfl]
            simp (disch := omega) only [xle_t, xle_f, xlt_t, xlt_f, xeq_t, xeq_f, xle0_t, xle0_f, xlt0_f, x0lt_t, x0lt_f, x0le_t, xeq0_t, xeq0_f, xin, xem_f, xme_f, xlem_f, xlm_f, xml_t, xmle_t, nI_clamp, nI_add, pk_mul, pk_sub, zI_s, zI_k, zI_o, zL_s, zL_k, zL_o, zR_s, zR_k, zR_o, zIL, zIR, zIN, zLI, zLR, zLN, zRI, zRL, zRN, true_and, and_true, not_true_eq_false, not_false_eq_true, true_implies, false_implies, implies_true, forall_const, if_true, if_false, eq_self, false_and, and_false, implies_true, nI_l, ylle_t, ylle_f, xcl_t, xcl_f]
            refine ih (i + 1) (by omega) (fun i' hi' => ?_) _ _
            by_cases y : i' = i
            · obtain ⟨j', j1, j2⟩ := ef.mp rfl
              rw [y]
              exact ⟨j', by omega, j2⟩
            · exact all i' (by omega)
          | false =>
            rw [show bI false = nI 0 from rfl]
            simp (disch := omega) only [xle_t, xle_f, xlt_t, xlt_f, xeq_t, xeq_f, xle0_t, xle0_f, xlt0_f, x0lt_t, x0lt_f, x0le_t, xeq0_t, xeq0_f, xin, xem_f, xme_f, xlem_f, xlm_f, xml_t, xmle_t, nI_clamp, nI_add, pk_mul, pk_sub, zI_s, zI_k, zI_o, zL_s, zL_k, zL_o, zR_s, zR_k, zR_o, zIL, zIR, zIN, zLI, zLR, zLN, zRI, zRL, zRN, true_and, and_true, not_true_eq_false, not_false_eq_true, true_implies, false_implies, implies_true, forall_const, if_true, if_false, eq_self, false_and, and_false, implies_true, nI_l, ylle_t, ylle_f, xcl_t, xcl_f]
            refine fin false (decide_eq_false (fun q => ?_)).symm
            obtain ⟨j', j1, j2⟩ := q i (by omega)
            have := ef.mpr ⟨j', by omega, j2⟩
            cases this
        | succ m' ih2 =>
          intro j hj f' ef
          have ej := (hw.2.2.1 (j + 1) (by omega)).1
          have ev := e133 i (by omega)
          refine u_X11_areTold_15 hr ?_
          cases f' with
          | true =>
            rw [show bI true = nI 1 from rfl]
            simp (disch := omega) only [xle_t, xle_f, xlt_t, xlt_f, xeq_t, xeq_f, xle0_t, xle0_f, xlt0_f, x0lt_t, x0lt_f, x0le_t, xeq0_t, xeq0_f, xin, xem_f, xme_f, xlem_f, xlm_f, xml_t, xmle_t, nI_clamp, nI_add, pk_mul, pk_sub, zI_s, zI_k, zI_o, zL_s, zL_k, zL_o, zR_s, zR_k, zR_o, zIL, zIR, zIN, zLI, zLR, zLN, zRI, zRL, zRN, true_and, and_true, not_true_eq_false, not_false_eq_true, true_implies, false_implies, implies_true, forall_const, if_true, if_false, eq_self, false_and, and_false, implies_true, nI_l, ylle_t, ylle_f, xcl_t, xcl_f]
            refine ih2 (j + 1) (by omega) true ⟨fun _ => ?_, fun _ => rfl⟩
            obtain ⟨j', j1, j2⟩ := ef.mp rfl
            exact ⟨j', by omega, j2⟩
          | false =>
            rw [show bI false = nI 0 from rfl]
            by_cases y : nI (b.2.2.2 (j + 1)) = v i
            · simp (disch := omega) only [xle_t, xle_f, xlt_t, xlt_f, xeq_t, xeq_f, xle0_t, xle0_f, xlt0_f, x0lt_t, x0lt_f, x0le_t, xeq0_t, xeq0_f, xin, xem_f, xme_f, xlem_f, xlm_f, xml_t, xmle_t, nI_clamp, nI_add, pk_mul, pk_sub, zI_s, zI_k, zI_o, zL_s, zL_k, zL_o, zR_s, zR_k, zR_o, zIL, zIR, zIN, zLI, zLR, zLN, zRI, zRL, zRN, true_and, and_true, not_true_eq_false, not_false_eq_true, true_implies, false_implies, implies_true, forall_const, if_true, if_false, eq_self, false_and, and_false, implies_true, nI_l, ylle_t, ylle_f, xcl_t, xcl_f, ej, ev, y]
              exact ih2 (j + 1) (by omega) true ⟨fun _ => ⟨j, by omega, y⟩, fun _ => rfl⟩
            · simp (disch := omega) only [xle_t, xle_f, xlt_t, xlt_f, xeq_t, xeq_f, xle0_t, xle0_f, xlt0_f, x0lt_t, x0lt_f, x0le_t, xeq0_t, xeq0_f, xin, xem_f, xme_f, xlem_f, xlm_f, xml_t, xmle_t, nI_clamp, nI_add, pk_mul, pk_sub, zI_s, zI_k, zI_o, zL_s, zL_k, zL_o, zR_s, zR_k, zR_o, zIL, zIR, zIN, zLI, zLR, zLN, zRI, zRL, zRN, true_and, and_true, not_true_eq_false, not_false_eq_true, true_implies, false_implies, implies_true, forall_const, if_true, if_false, eq_self, false_and, and_false, implies_true, nI_l, ylle_t, ylle_f, xcl_t, xcl_f, ej, ev, y]
              refine ih2 (j + 1) (by omega) false ⟨fun q => (by cases q), fun ⟨j', j1, j2⟩ => ?_⟩
              by_cases x : j' = j
              · rw [x] at j2; exact absurd j2 y
              · exact ef.mpr ⟨j', by omega, j2⟩
      exact L2 b.1 0 (by omega) false ⟨fun q => (by cases q), fun ⟨j', j1, _⟩ => by omega⟩
  exact L w 0 (by omega) (fun i' hi' => by omega) _ _
end MT
