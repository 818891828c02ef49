/-! ===== ways in the reference: goes, whatever is sought ===== -/
theorem wLi_le {n : Nat} {b : WN} (hn : n ≤ 4) (hF : wFw n b) {i : Nat} (hi : i ≤ b.1) (hl : b.1 ≤ 4) : wLi n b i ≤ 32 := by
  have h1 : wLi n b i ≤ i * (n * 2) := fb_sm_bound (fun j hj => fb_sm_bound (fun c hc => by have := hF (j + 1) (by omega) c hc; omega))
  have h2 : i * (n * 2) ≤ 4 * (4 * 2) := Nat.mul_le_mul (by omega) (by omega)
  omega
theorem wLi_ch {n : Nat} {out : Bool} {a : WN} {W : Nat} (ok : wOk n out (a.2.1 a.1) (a.2.2.1 a.1) (wG n W) = true) : wLi n (wCh n a W) (a.1 + 1) = wLi n a a.1 + fb_sm (fun c => wG n W c - wWas a a.1 c) n := by
  unfold wLi
  rw [fb_sm_succ]
  congr 1
  · exact fb_sm_cong (fun i hi => by rw [wCh_Fo (by omega), wCh_Fo (by omega)])
  · refine fb_sm_cong (fun c hc => ?_)
    rw [wCh_F, wCh_Fo (Nat.le_refl _)]
    unfold wWas
    split
    · rename_i z
      have := ((wOk_i.mp ok) c hc).2
      unfold wHi at this
      rw [if_pos z] at this
      omega
    · rfl
theorem wLi_o {n : Nat} {a : WN} {W i : Nat} (hi : i ≤ a.1) : wLi n (wCh n a W) i = wLi n a i := by
  unfold wLi
  exact fb_sm_cong (fun j hj => by rw [wCh_Fo (by omega), wCh_Fo (by omega)])
theorem m_goes {σ : Type} {U : σ → WN → σ} {R : σ → MH → Prop} {P : WN → Prop} {n dm : Nat} {out : Bool} {h00 : MH}
    (hRs : ∀ s h h', R s h → zF (fun b => (b < 128 ∨ 131 < b) ∧ b ≠ 134) h h' → R s h')
    (hP : ∀ a W, wI n a → P a → 0 < W → W < 3 ^ n → wOk n out (a.2.1 a.1) (a.2.2.1 a.1) (wG n W) = true → P (wCh n a W))
    (hM : ∀ d, dm ≤ d → ∀ b s h, wI n b → wFw n b → 1 ≤ b.1 → P b → zRf h → wFm 0 h00 h → wQ n out b h → R s h → ∀ Q' : Option MV → MH → Prop, (∀ h', zRf h' → wFt h h' → R (U s b) h' → Q' none h') → Con mX11_meets d 0 0 [.inr (.inr 111), .inl (nI b.1)] h Q') :
    ∀ (k : Nat) (a : WN), wI n a → wFw n a → P a → a.1 + (k + 1) = 4 → ∀ (s : σ) (h : MH), zRf h → wFm 0 h00 h → wQ n out a h → R s h → ∀ Q : Option MV → MH → Prop, (∀ h', zRf h' → wFm a.1 h h' → R ((wNd n out (k + 1) a).foldl U s) h' → Q none h') → Con mX11_goes (dm + k + 1) 0 0 [.inr (.inr 111), .inl (nI a.1)] h Q := by
  intro k
  induction k with
  | zero =>
    intro a hI hF hPa hk s h hr hb hw hR Q kk
    have hn := hI.1
    have hl : a.1 < 4 := by omega
    have h81 := pow3_le hn
    let br := wBr n out a (wNd n out 0)
    have upz : ∀ {h1 h2 : MH}, wFm a.1 h1 h2 → wFm 0 h1 h2 := fun q => ⟨q.1, q.2.1, fun j hj => q.2.2.1 j (by omega), fun i hi => q.2.2.2.1 i (by omega), fun i hi => by omega⟩
    have LW : ∀ m W, W + m = 3 ^ n → 0 < W → ∀ s' h', zRf h' → wFm a.1 h h' → R s' h' → (wTl br m W).foldl U s' = (wNd n out (0 + 1) a).foldl U s → ∀ u4 u5 u6 u7 u8 u9 u10 u11 u12, J mX11_goes (dm + 0 + 1) 0 0 Q 0 0 24 [some (.inr (.inr 111)), some (.inl (nI a.1)), some (.inl (nI (3 ^ n))), some (.inl (nI W)), u4, u5, u6, u7, u8, u9, u10, u11, u12] [] h' := by
      intro m
      induction m with
      | zero =>
        intro W hW w0 s' h' r' f' R' ef u4 u5 u6 u7 u8 u9 u10 u11 u12
        refine u_X11_goes_24 ?_
        simp (disch := omega) only [xle_t, xle_f, xlt_t, xlt_f, xeq_t, xeq_f, xle0_t, xle0_f, xlt0_f, x0lt_t, x0lt_f, x0le_t, xeq0_t, xeq0_f, xin, xem_f, xme_f, xlem_f, xlm_f, xml_t, xmle_t, nI_clamp, nI_add, pk_mul, pk_sub, zI_s, zI_k, zI_o, zL_s, zL_k, zL_o, zR_s, zR_k, zR_o, zIL, zIR, zIN, zLI, zLR, zLN, zRI, zRL, zRN, true_and, and_true, not_true_eq_false, not_false_eq_true, true_implies, false_implies, implies_true, forall_const, if_true, if_false, eq_self, false_and, and_false, implies_true, nI_l, ylle_t, ylle_f, xcl_t, xcl_f]
        refine kk h' r' f' ?_
        rw [← ef]
        exact R'
      | succ m ihm =>
        intro W hW w0 s' h' r' f' R' ef u4 u5 u6 u7 u8 u9 u10 u11 u12
        have h3 : W < 3 ^ n := by omega
        have hw' := hw.keep hn f' (Nat.le_refl _)
        have ef1 : (wTl br m (W + 1)).foldl U ((br W).foldl U s') = (wNd n out (0 + 1) a).foldl U s := by
          rw [← ef, ← List.foldl_append]
          rfl
        have nxt : ∀ h2, zRf h2 → wFm a.1 h h2 → R ((br W).foldl U s') h2 → ∀ v4 v5 v6 v7 v8 v9 u10 u11 u12, J mX11_goes (dm + 0 + 1) 0 0 Q 0 0 426 [some (.inr (.inr 111)), some (.inl (nI a.1)), some (.inl (nI (3 ^ n))), some (.inl (nI W)), some (.inl v4), some (.inl v5), some (.inl v6), some (.inl v7), some (.inl v8), some (.inl v9), u10, u11, u12] [] h2 := by
          intro h2 r2 f2 R2 v4 v5 v6 v7 v8 v9 u10 u11 u12
          refine u_X11_goes_426 ?_
          rw [nI_add]
          exact ihm (W + 1) (by omega) (by omega) _ h2 r2 f2 R2 ef1 _ _ _ _ _ _ _ _ _
        have f129 : ∀ h2, zF (fun b => b ≠ 129) h' h2 → (∀ j, j < 4 * (a.1 + 1) → h2.1 129 j = h'.1 129 j) → wFm a.1 h' h2 := fun h2 q1 q2 => ⟨q1.weak (fun b q => by omega), fun j _ _ => by rw [q1.i (by omega)], fun j hj => ⟨by rw [q1.i (by omega)], q2 j hj⟩, fun i _ => ⟨by rw [q1.i (by omega)], by rw [q1.i (by omega)]⟩, fun i _ => by rw [q1.i (by omega)]⟩
        refine u_X11_goes_24 ?_
        simp (disch := omega) only [xle_t, xle_f, xlt_t, xlt_f, xeq_t, xeq_f, xle0_t, xle0_f, xlt0_f, x0lt_t, x0lt_f, x0le_t, xeq0_t, xeq0_f, xin, xem_f, xme_f, xlem_f, xlm_f, xml_t, xmle_t, nI_clamp, nI_add, pk_mul, pk_sub, zI_s, zI_k, zI_o, zL_s, zL_k, zL_o, zR_s, zR_k, zR_o, zIL, zIR, zIN, zLI, zLR, zLN, zRI, zRL, zRN, true_and, and_true, not_true_eq_false, not_false_eq_true, true_implies, false_implies, implies_true, forall_const, if_true, if_false, eq_self, false_and, and_false, implies_true, nI_l, ylle_t, ylle_f, xcl_t, xcl_f]
        have st := m_47 (d := dm + 0 + 1) (v2 := nI (3 ^ n)) (Q := Q) hI hF hl hw' h3 ?_ ?_ n 0 (by omega) h' r' zF.rfl (fun _ _ => rfl) (fun c hc => by omega) u10 u11 u12
        · rw [Nat.sub_zero] at st
          rw [wOk_0] at st
          exact st
        · intro no h2 r2 f2 o2 v4 v5 v6 v7 v8 v9 u10 u11 u12
          refine nxt h2 r2 (f'.trans (f129 h2 f2 o2)) ?_ _ _ _ _ _ _ _ _ _
          have : br W = [] := if_neg (fun q => by
            rcases no with z | z
            · rw [q.2] at z; cases z
            · obtain ⟨e, _⟩ := wStp hI q.1 h3 q.2
              rw [mSp_ok (fun c hc g0 => by
                have := ((wOk_i.mp q.2) c hc).2
                unfold wHi at this
                by_cases y : a.2.1 a.1 c = 0
                · rw [if_pos y] at this; omega
                · omega), e] at z
              cases z)
          rw [this]
          exact hRs _ h' h2 R' (f2.weak (fun b q => by omega))
        · intro ok sp es h2 r2 f2 o2 g2 v4 v8 u11 u12
          obtain ⟨e, s0, sm, _⟩ := wStp hI w0 h3 ok
          obtain ⟨hI', _⟩ := wCh_I hI w0 h3 ok
          have hF' := wFw_ch hF ok
          have hP' := hP a W hI hPa w0 h3 ok
          have bS := hI'.2.2.2
          rw [wCh_L] at bS
          rw [mSp_ok (fun c hc g0 => by
            have := ((wOk_i.mp ok) c hc).2
            unfold wHi at this
            by_cases y : a.2.1 a.1 c = 0
            · rw [if_pos y] at this; omega
            · omega), e] at es
          obtain rfl := Option.some.inj es
          have b2 := f'.trans (f129 h2 f2 o2)
          have hw2 := hw.keep hn b2 (Nat.le_refl _)
          have ebr : br W = wCh n a W :: wNd n out 0 (wCh n a W) := if_pos ⟨w0, ok⟩
          refine m_242 (h0 := h2) hI hl (by omega) hw2 w0 h3 ok ?_ n 0 (by omega) h2 r2 zF.rfl (fun _ _ => ⟨rfl, rfl⟩) (fun c hc => by omega) (fun c _ hc => g2 c hc) _ _
          intro h4 r4 f4 o4 g4 u11 u12
          have e38 : h4.1 111 38 = nI n := by rw [f4.i (by omega)]; exact hw2.1
          obtain ⟨em, el, _⟩ := hw2.2.2.1 a.1 (Nat.le_refl _)
          have em4 : h4.1 130 a.1 = nI (a.2.2.2 a.1) := by rw [f4.i (by omega)]; exact em
          have el4 : h4.1 131 a.1 = nI (wLi n a a.1) := by rw [f4.i (by omega)]; exact el
          have s9 := wCh_M n a W
          refine u_X11_goes_242 (d1' := dm + 0) r4 (by omega) ?_
          simp (disch := omega) only [xle_t, xle_f, xlt_t, xlt_f, xeq_t, xeq_f, xle0_t, xle0_f, xlt0_f, x0lt_t, x0lt_f, x0le_t, xeq0_t, xeq0_f, xin, xem_f, xme_f, xlem_f, xlm_f, xml_t, xmle_t, nI_clamp, nI_add, pk_mul, pk_sub, zI_s, zI_k, zI_o, zL_s, zL_k, zL_o, zR_s, zR_k, zR_o, zIL, zIR, zIN, zLI, zLR, zLN, zRI, zRL, zRN, true_and, and_true, not_true_eq_false, not_false_eq_true, true_implies, false_implies, implies_true, forall_const, if_true, if_false, eq_self, false_and, and_false, implies_true, nI_l, ylle_t, ylle_f, xcl_t, xcl_f, e38, em4, el4]
          rw [← wLi_ch ok, ← s9]
          have F4 : wFm a.1 h2 h4 := ⟨f4.weak (fun b q => by omega), fun j _ _ => by rw [f4.i (by omega)], o4, fun i _ => ⟨by rw [f4.i (by omega)], by rw [f4.i (by omega)]⟩, fun i _ => by rw [f4.i (by omega)]⟩
          have F5 : wFm a.1 h4 (zsI (zsI (zsI h4 134 a.1 (nI (wDg (wG n W) n))) 130 (a.1 + 1) (nI ((wCh n a W).2.2.2 (a.1 + 1)))) 131 (a.1 + 1) (nI (wLi n (wCh n a W) (a.1 + 1)))) := by
            refine ⟨((zF_I _ _ _ (by omega)).trans (zF_I _ _ _ (by omega))).trans (zF_I _ _ _ (by omega)), fun j _ _ => ?_, fun j _ => ?_, fun i hi => ?_, fun i hi => ?_⟩
            · rw [zI_o _ _ _ (by omega), zI_o _ _ _ (by omega), zI_o _ _ _ (by omega)]
            · rw [zI_o _ _ _ (by omega), zI_o _ _ _ (by omega), zI_o _ _ _ (by omega), zI_o _ _ _ (by omega), zI_o _ _ _ (by omega), zI_o _ _ _ (by omega)]
              exact ⟨rfl, rfl⟩
            · rw [zI_o _ _ _ (by omega), zI_k _ _ _ (by omega), zI_o _ _ _ (by omega), zI_k _ _ _ (by omega), zI_o _ _ _ (by omega), zI_o _ _ _ (by omega)]
              exact ⟨rfl, rfl⟩
            · rw [zI_o _ _ _ (by omega), zI_o _ _ _ (by omega), zI_k _ _ _ (by omega)]
          have b5 := (b2.trans F4).trans F5
          have hw5 : wQ n out (wCh n a W) (zsI (zsI (zsI h4 134 a.1 (nI (wDg (wG n W) n))) 130 (a.1 + 1) (nI ((wCh n a W).2.2.2 (a.1 + 1)))) 131 (a.1 + 1) (nI (wLi n (wCh n a W) (a.1 + 1)))) := by
            have hwa := hw.keep hn b5 (Nat.le_refl _)
            refine ⟨hwa.1, hwa.2.1, fun i hi => ?_, fun i hi => ?_⟩
            · rw [wCh_L] at hi
              by_cases z : i = a.1 + 1
              · rw [z]
                refine ⟨?_, ?_, fun c hc => ?_⟩
                · rw [zI_o _ _ _ (by omega), zI_s]
                · rw [zI_s]
                · rw [zI_o _ _ _ (by omega), zI_o _ _ _ (by omega), zI_o _ _ _ (by omega), zI_o _ _ _ (by omega), zI_o _ _ _ (by omega), zI_o _ _ _ (by omega)]
                  exact g4 c hc
              · obtain ⟨q1, q2, q3⟩ := hwa.2.2.1 i (by omega)
                refine ⟨?_, ?_, fun c hc => ?_⟩
                · rw [q1, wCh_Mo (by omega)]
                · rw [q2, wLi_o (by omega)]
                · obtain ⟨y1, y2⟩ := q3 c hc
                  rw [y1, y2]
                  unfold wWas
                  rw [wCh_Xo (by omega), wCh_Fo (by omega)]
                  exact ⟨rfl, rfl⟩
            · rw [wCh_L] at hi
              by_cases z : i = a.1
              · rw [z, zI_o _ _ _ (by omega), zI_o _ _ _ (by omega), zI_s]
                have : (wCh n a W).2.2.1 (a.1 + 1) = wG n W := funext fun c => wCh_F n a W c
                rw [this]
              · rw [hwa.2.2.2 i (by omega), wCh_Fo (by omega)]
          have R5 : R s' (zsI (zsI (zsI h4 134 a.1 (nI (wDg (wG n W) n))) 130 (a.1 + 1) (nI ((wCh n a W).2.2.2 (a.1 + 1)))) 131 (a.1 + 1) (nI (wLi n (wCh n a W) (a.1 + 1)))) := hRs _ _ _ R' (((f2.weak (fun b q => by omega)).trans (f4.weak (fun b q => by omega))).trans (((zF_I _ _ _ (by omega)).trans (zF_I _ _ _ (by omega))).trans (zF_I _ _ _ (by omega))))
          refine hM (dm + 0) (by omega) (wCh n a W) s' _ hI' hF' (by rw [wCh_L]; omega) hP' ?_ (hb.trans (upz b5)) hw5 R5 _ ?_
          · exact r4
          intro h6 r6 f6 R6
          have b6 := b5.trans f6.m
          refine u_X11_goes_414 (d1' := dm + 0) r6 (by omega) ?_
          cases emr : wMr ((wCh n a W).2.1 (a.1 + 1)) n with
          | false =>
            rw [show bI false = nI 0 from rfl]
            simp (disch := omega) only [xle_t, xle_f, xlt_t, xlt_f, xeq_t, xeq_f, xle0_t, xle0_f, xlt0_f, x0lt_t, x0lt_f, x0le_t, xeq0_t, xeq0_f, xin, xem_f, xme_f, xlem_f, xlm_f, xml_t, xmle_t, nI_clamp, nI_add, pk_mul, pk_sub, zI_s, zI_k, zI_o, zL_s, zL_k, zL_o, zR_s, zR_k, zR_o, zIL, zIR, zIN, zLI, zLR, zLN, zRI, zRL, zRN, true_and, and_true, not_true_eq_false, not_false_eq_true, true_implies, false_implies, implies_true, forall_const, if_true, if_false, eq_self, false_and, and_false, implies_true, nI_l, ylle_t, ylle_f, xcl_t, xcl_f]
            refine nxt h6 r6 b6 ?_ _ _ _ _ _ _ _ _ _
            rw [ebr, wNd_nil (fun c hc => Classical.byContradiction fun z => by
              have : wMr ((wCh n a W).2.1 (a.1 + 1)) n = true := decide_eq_true ⟨c, hc, by rw [wCh_L] at z; omega⟩
              rw [emr] at this
              cases this) 0]
            exact R6
          | true =>
            rw [show bI true = nI 1 from rfl]
            simp (disch := omega) only [xle_t, xle_f, xlt_t, xlt_f, xeq_t, xeq_f, xle0_t, xle0_f, xlt0_f, x0lt_t, x0lt_f, x0le_t, xeq0_t, xeq0_f, xin, xem_f, xme_f, xlem_f, xlm_f, xml_t, xmle_t, nI_clamp, nI_add, pk_mul, pk_sub, zI_s, zI_k, zI_o, zL_s, zL_k, zL_o, zR_s, zR_k, zR_o, zIL, zIR, zIN, zLI, zLR, zLN, zRI, zRL, zRN, true_and, and_true, not_true_eq_false, not_false_eq_true, true_implies, false_implies, implies_true, forall_const, if_true, if_false, eq_self, false_and, and_false, implies_true, nI_l, ylle_t, ylle_f, xcl_t, xcl_f]
            obtain ⟨c, hc, c0⟩ := of_decide_eq_true emr
            have st0 : 0 < wSt n ((wCh n a W).2.1 (a.1 + 1)) := fb_ct_pos.mpr ⟨c, hc, decide_eq_true c0⟩
            have l4 := hI'.2.1
            rw [wCh_L] at l4
            omega
    refine u_X11_goes ?_
    have e38 := hw.1
    have L4 : ∀ m i, i + m = n → J mX11_goes (dm + 0 + 1) 0 0 Q 0 0 4 [some (.inr (.inr 111)), some (.inl (nI a.1)), some (.inl (nI (3 ^ i))), some (.inl (nI i)), none, none, none, none, none, none, none, none, none] [] h := by
      intro m
      induction m with
      | zero =>
        intro i hi
        obtain rfl : i = n := by omega
        refine u_X11_goes_4 hr ?_
        simp (disch := omega) only [xle_t, xle_f, xlt_t, xlt_f, xeq_t, xeq_f, xle0_t, xle0_f, xlt0_f, x0lt_t, x0lt_f, x0le_t, xeq0_t, xeq0_f, xin, xem_f, xme_f, xlem_f, xlm_f, xml_t, xmle_t, nI_clamp, nI_add, pk_mul, pk_sub, zI_s, zI_k, zI_o, zL_s, zL_k, zL_o, zR_s, zR_k, zR_o, zIL, zIR, zIN, zLI, zLR, zLN, zRI, zRL, zRN, true_and, and_true, not_true_eq_false, not_false_eq_true, true_implies, false_implies, implies_true, forall_const, if_true, if_false, eq_self, false_and, and_false, implies_true, nI_l, ylle_t, ylle_f, xcl_t, xcl_f, e38]
        have P0 : 0 < 3 ^ i := Nat.pow_pos (by decide)
        refine LW (3 ^ i - 1) 1 (by omega) (by omega) s h hr wFm.rfl hR ?_ _ _ _ _ _ _ _ _ _
        have sk := wTl_skip (f := br) (j := 1) (m := 3 ^ i - 1) (W := 0) (fun V v1 v2 => if_neg (fun q => by omega))
        rw [show 1 + (3 ^ i - 1) = 3 ^ i by omega] at sk
        rw [← sk]
        rfl
      | succ m ihm =>
        intro i hi
        refine u_X11_goes_4 hr ?_
        simp (disch := omega) only [xle_t, xle_f, xlt_t, xlt_f, xeq_t, xeq_f, xle0_t, xle0_f, xlt0_f, x0lt_t, x0lt_f, x0le_t, xeq0_t, xeq0_f, xin, xem_f, xme_f, xlem_f, xlm_f, xml_t, xmle_t, nI_clamp, nI_add, pk_mul, pk_sub, zI_s, zI_k, zI_o, zL_s, zL_k, zL_o, zR_s, zR_k, zR_o, zIL, zIR, zIN, zLI, zLR, zLN, zRI, zRL, zRN, true_and, and_true, not_true_eq_false, not_false_eq_true, true_implies, false_implies, implies_true, forall_const, if_true, if_false, eq_self, false_and, and_false, implies_true, nI_l, ylle_t, ylle_f, xcl_t, xcl_f, e38]
        rw [← Nat.pow_succ]
        exact ihm (i + 1) (by omega)
    exact L4 n 0 (by omega)
  | succ k ih =>
    intro a hI hF hPa hk s h hr hb hw hR Q kk
    have hn := hI.1
    have hl : a.1 < 4 := by omega
    have h81 := pow3_le hn
    let br := wBr n out a (wNd n out (k + 1))
    have upz : ∀ {h1 h2 : MH}, wFm a.1 h1 h2 → wFm 0 h1 h2 := fun q => ⟨q.1, q.2.1, fun j hj => q.2.2.1 j (by omega), fun i hi => q.2.2.2.1 i (by omega), fun i hi => by omega⟩
    have LW : ∀ m W, W + m = 3 ^ n → 0 < W → ∀ s' h', zRf h' → wFm a.1 h h' → R s' h' → (wTl br m W).foldl U s' = (wNd n out ((k + 1) + 1) a).foldl U s → ∀ u4 u5 u6 u7 u8 u9 u10 u11 u12, J mX11_goes (dm + (k + 1) + 1) 0 0 Q 0 0 24 [some (.inr (.inr 111)), some (.inl (nI a.1)), some (.inl (nI (3 ^ n))), some (.inl (nI W)), u4, u5, u6, u7, u8, u9, u10, u11, u12] [] h' := by
      intro m
      induction m with
      | zero =>
        intro W hW w0 s' h' r' f' R' ef u4 u5 u6 u7 u8 u9 u10 u11 u12
        refine u_X11_goes_24 ?_
        simp (disch := omega) only [xle_t, xle_f, xlt_t, xlt_f, xeq_t, xeq_f, xle0_t, xle0_f, xlt0_f, x0lt_t, x0lt_f, x0le_t, xeq0_t, xeq0_f, xin, xem_f, xme_f, xlem_f, xlm_f, xml_t, xmle_t, nI_clamp, nI_add, pk_mul, pk_sub, zI_s, zI_k, zI_o, zL_s, zL_k, zL_o, zR_s, zR_k, zR_o, zIL, zIR, zIN, zLI, zLR, zLN, zRI, zRL, zRN, true_and, and_true, not_true_eq_false, not_false_eq_true, true_implies, false_implies, implies_true, forall_const, if_true, if_false, eq_self, false_and, and_false, implies_true, nI_l, ylle_t, ylle_f, xcl_t, xcl_f]
        refine kk h' r' f' ?_
        rw [← ef]
        exact R'
      | succ m ihm =>
        intro W hW w0 s' h' r' f' R' ef u4 u5 u6 u7 u8 u9 u10 u11 u12
        have h3 : W < 3 ^ n := by omega
        have hw' := hw.keep hn f' (Nat.le_refl _)
        have ef1 : (wTl br m (W + 1)).foldl U ((br W).foldl U s') = (wNd n out ((k + 1) + 1) a).foldl U s := by
          rw [← ef, ← List.foldl_append]
          rfl
        have nxt : ∀ h2, zRf h2 → wFm a.1 h h2 → R ((br W).foldl U s') h2 → ∀ v4 v5 v6 v7 v8 v9 u10 u11 u12, J mX11_goes (dm + (k + 1) + 1) 0 0 Q 0 0 426 [some (.inr (.inr 111)), some (.inl (nI a.1)), some (.inl (nI (3 ^ n))), some (.inl (nI W)), some (.inl v4), some (.inl v5), some (.inl v6), some (.inl v7), some (.inl v8), some (.inl v9), u10, u11, u12] [] h2 := by
          intro h2 r2 f2 R2 v4 v5 v6 v7 v8 v9 u10 u11 u12
          refine u_X11_goes_426 ?_
          rw [nI_add]
          exact ihm (W + 1) (by omega) (by omega) _ h2 r2 f2 R2 ef1 _ _ _ _ _ _ _ _ _
        have f129 : ∀ h2, zF (fun b => b ≠ 129) h' h2 → (∀ j, j < 4 * (a.1 + 1) → h2.1 129 j = h'.1 129 j) → wFm a.1 h' h2 := fun h2 q1 q2 => ⟨q1.weak (fun b q => by omega), fun j _ _ => by rw [q1.i (by omega)], fun j hj => ⟨by rw [q1.i (by omega)], q2 j hj⟩, fun i _ => ⟨by rw [q1.i (by omega)], by rw [q1.i (by omega)]⟩, fun i _ => by rw [q1.i (by omega)]⟩
        refine u_X11_goes_24 ?_
        simp (disch := omega) only [xle_t, xle_f, xlt_t, xlt_f, xeq_t, xeq_f, xle0_t, xle0_f, xlt0_f, x0lt_t, x0lt_f, x0le_t, xeq0_t, xeq0_f, xin, xem_f, xme_f, xlem_f, xlm_f, xml_t, xmle_t, nI_clamp, nI_add, pk_mul, pk_sub, zI_s, zI_k, zI_o, zL_s, zL_k, zL_o, zR_s, zR_k, zR_o, zIL, zIR, zIN, zLI, zLR, zLN, zRI, zRL, zRN, true_and, and_true, not_true_eq_false, not_false_eq_true, true_implies, false_implies, implies_true, forall_const, if_true, if_false, eq_self, false_and, and_false, implies_true, nI_l, ylle_t, ylle_f, xcl_t, xcl_f]
        have st := m_47 (d := dm + (k + 1) + 1) (v2 := nI (3 ^ n)) (Q := Q) hI hF hl hw' h3 ?_ ?_ n 0 (by omega) h' r' zF.rfl (fun _ _ => rfl) (fun c hc => by omega) u10 u11 u12
        · rw [Nat.sub_zero] at st
          rw [wOk_0] at st
          exact st
        · intro no h2 r2 f2 o2 v4 v5 v6 v7 v8 v9 u10 u11 u12
          refine nxt h2 r2 (f'.trans (f129 h2 f2 o2)) ?_ _ _ _ _ _ _ _ _ _
          have : br W = [] := if_neg (fun q => by
            rcases no with z | z
            · rw [q.2] at z; cases z
            · obtain ⟨e, _⟩ := wStp hI q.1 h3 q.2
              rw [mSp_ok (fun c hc g0 => by
                have := ((wOk_i.mp q.2) c hc).2
                unfold wHi at this
                by_cases y : a.2.1 a.1 c = 0
                · rw [if_pos y] at this; omega
                · omega), e] at z
              cases z)
          rw [this]
          exact hRs _ h' h2 R' (f2.weak (fun b q => by omega))
        · intro ok sp es h2 r2 f2 o2 g2 v4 v8 u11 u12
          obtain ⟨e, s0, sm, _⟩ := wStp hI w0 h3 ok
          obtain ⟨hI', _⟩ := wCh_I hI w0 h3 ok
          have hF' := wFw_ch hF ok
          have hP' := hP a W hI hPa w0 h3 ok
          have bS := hI'.2.2.2
          rw [wCh_L] at bS
          rw [mSp_ok (fun c hc g0 => by
            have := ((wOk_i.mp ok) c hc).2
            unfold wHi at this
            by_cases y : a.2.1 a.1 c = 0
            · rw [if_pos y] at this; omega
            · omega), e] at es
          obtain rfl := Option.some.inj es
          have b2 := f'.trans (f129 h2 f2 o2)
          have hw2 := hw.keep hn b2 (Nat.le_refl _)
          have ebr : br W = wCh n a W :: wNd n out (k + 1) (wCh n a W) := if_pos ⟨w0, ok⟩
          refine m_242 (h0 := h2) hI hl (by omega) hw2 w0 h3 ok ?_ n 0 (by omega) h2 r2 zF.rfl (fun _ _ => ⟨rfl, rfl⟩) (fun c hc => by omega) (fun c _ hc => g2 c hc) _ _
          intro h4 r4 f4 o4 g4 u11 u12
          have e38 : h4.1 111 38 = nI n := by rw [f4.i (by omega)]; exact hw2.1
          obtain ⟨em, el, _⟩ := hw2.2.2.1 a.1 (Nat.le_refl _)
          have em4 : h4.1 130 a.1 = nI (a.2.2.2 a.1) := by rw [f4.i (by omega)]; exact em
          have el4 : h4.1 131 a.1 = nI (wLi n a a.1) := by rw [f4.i (by omega)]; exact el
          have s9 := wCh_M n a W
          refine u_X11_goes_242 (d1' := dm + (k + 1)) r4 (by omega) ?_
          simp (disch := omega) only [xle_t, xle_f, xlt_t, xlt_f, xeq_t, xeq_f, xle0_t, xle0_f, xlt0_f, x0lt_t, x0lt_f, x0le_t, xeq0_t, xeq0_f, xin, xem_f, xme_f, xlem_f, xlm_f, xml_t, xmle_t, nI_clamp, nI_add, pk_mul, pk_sub, zI_s, zI_k, zI_o, zL_s, zL_k, zL_o, zR_s, zR_k, zR_o, zIL, zIR, zIN, zLI, zLR, zLN, zRI, zRL, zRN, true_and, and_true, not_true_eq_false, not_false_eq_true, true_implies, false_implies, implies_true, forall_const, if_true, if_false, eq_self, false_and, and_false, implies_true, nI_l, ylle_t, ylle_f, xcl_t, xcl_f, e38, em4, el4]
          rw [← wLi_ch ok, ← s9]
          have F4 : wFm a.1 h2 h4 := ⟨f4.weak (fun b q => by omega), fun j _ _ => by rw [f4.i (by omega)], o4, fun i _ => ⟨by rw [f4.i (by omega)], by rw [f4.i (by omega)]⟩, fun i _ => by rw [f4.i (by omega)]⟩
          have F5 : wFm a.1 h4 (zsI (zsI (zsI h4 134 a.1 (nI (wDg (wG n W) n))) 130 (a.1 + 1) (nI ((wCh n a W).2.2.2 (a.1 + 1)))) 131 (a.1 + 1) (nI (wLi n (wCh n a W) (a.1 + 1)))) := by
            refine ⟨((zF_I _ _ _ (by omega)).trans (zF_I _ _ _ (by omega))).trans (zF_I _ _ _ (by omega)), fun j _ _ => ?_, fun j _ => ?_, fun i hi => ?_, fun i hi => ?_⟩
            · rw [zI_o _ _ _ (by omega), zI_o _ _ _ (by omega), zI_o _ _ _ (by omega)]
            · rw [zI_o _ _ _ (by omega), zI_o _ _ _ (by omega), zI_o _ _ _ (by omega), zI_o _ _ _ (by omega), zI_o _ _ _ (by omega), zI_o _ _ _ (by omega)]
              exact ⟨rfl, rfl⟩
            · rw [zI_o _ _ _ (by omega), zI_k _ _ _ (by omega), zI_o _ _ _ (by omega), zI_k _ _ _ (by omega), zI_o _ _ _ (by omega), zI_o _ _ _ (by omega)]
              exact ⟨rfl, rfl⟩
            · rw [zI_o _ _ _ (by omega), zI_o _ _ _ (by omega), zI_k _ _ _ (by omega)]
          have b5 := (b2.trans F4).trans F5
          have hw5 : wQ n out (wCh n a W) (zsI (zsI (zsI h4 134 a.1 (nI (wDg (wG n W) n))) 130 (a.1 + 1) (nI ((wCh n a W).2.2.2 (a.1 + 1)))) 131 (a.1 + 1) (nI (wLi n (wCh n a W) (a.1 + 1)))) := by
            have hwa := hw.keep hn b5 (Nat.le_refl _)
            refine ⟨hwa.1, hwa.2.1, fun i hi => ?_, fun i hi => ?_⟩
            · rw [wCh_L] at hi
              by_cases z : i = a.1 + 1
              · rw [z]
                refine ⟨?_, ?_, fun c hc => ?_⟩
                · rw [zI_o _ _ _ (by omega), zI_s]
                · rw [zI_s]
                · rw [zI_o _ _ _ (by omega), zI_o _ _ _ (by omega), zI_o _ _ _ (by omega), zI_o _ _ _ (by omega), zI_o _ _ _ (by omega), zI_o _ _ _ (by omega)]
                  exact g4 c hc
              · obtain ⟨q1, q2, q3⟩ := hwa.2.2.1 i (by omega)
                refine ⟨?_, ?_, fun c hc => ?_⟩
                · rw [q1, wCh_Mo (by omega)]
                · rw [q2, wLi_o (by omega)]
                · obtain ⟨y1, y2⟩ := q3 c hc
                  rw [y1, y2]
                  unfold wWas
                  rw [wCh_Xo (by omega), wCh_Fo (by omega)]
                  exact ⟨rfl, rfl⟩
            · rw [wCh_L] at hi
              by_cases z : i = a.1
              · rw [z, zI_o _ _ _ (by omega), zI_o _ _ _ (by omega), zI_s]
                have : (wCh n a W).2.2.1 (a.1 + 1) = wG n W := funext fun c => wCh_F n a W c
                rw [this]
              · rw [hwa.2.2.2 i (by omega), wCh_Fo (by omega)]
          have R5 : R s' (zsI (zsI (zsI h4 134 a.1 (nI (wDg (wG n W) n))) 130 (a.1 + 1) (nI ((wCh n a W).2.2.2 (a.1 + 1)))) 131 (a.1 + 1) (nI (wLi n (wCh n a W) (a.1 + 1)))) := hRs _ _ _ R' (((f2.weak (fun b q => by omega)).trans (f4.weak (fun b q => by omega))).trans (((zF_I _ _ _ (by omega)).trans (zF_I _ _ _ (by omega))).trans (zF_I _ _ _ (by omega))))
          refine hM (dm + (k + 1)) (by omega) (wCh n a W) s' _ hI' hF' (by rw [wCh_L]; omega) hP' ?_ (hb.trans (upz b5)) hw5 R5 _ ?_
          · exact r4
          intro h6 r6 f6 R6
          have b6 := b5.trans f6.m
          refine u_X11_goes_414 (d1' := dm + (k + 1)) r6 (by omega) ?_
          cases emr : wMr ((wCh n a W).2.1 (a.1 + 1)) n with
          | false =>
            rw [show bI false = nI 0 from rfl]
            simp (disch := omega) only [xle_t, xle_f, xlt_t, xlt_f, xeq_t, xeq_f, xle0_t, xle0_f, xlt0_f, x0lt_t, x0lt_f, x0le_t, xeq0_t, xeq0_f, xin, xem_f, xme_f, xlem_f, xlm_f, xml_t, xmle_t, nI_clamp, nI_add, pk_mul, pk_sub, zI_s, zI_k, zI_o, zL_s, zL_k, zL_o, zR_s, zR_k, zR_o, zIL, zIR, zIN, zLI, zLR, zLN, zRI, zRL, zRN, true_and, and_true, not_true_eq_false, not_false_eq_true, true_implies, false_implies, implies_true, forall_const, if_true, if_false, eq_self, false_and, and_false, implies_true, nI_l, ylle_t, ylle_f, xcl_t, xcl_f]
            refine nxt h6 r6 b6 ?_ _ _ _ _ _ _ _ _ _
            rw [ebr, wNd_nil (fun c hc => Classical.byContradiction fun z => by
              have : wMr ((wCh n a W).2.1 (a.1 + 1)) n = true := decide_eq_true ⟨c, hc, by rw [wCh_L] at z; omega⟩
              rw [emr] at this
              cases this) (k + 1)]
            exact R6
          | true =>
            rw [show bI true = nI 1 from rfl]
            simp (disch := omega) only [xle_t, xle_f, xlt_t, xlt_f, xeq_t, xeq_f, xle0_t, xle0_f, xlt0_f, x0lt_t, x0lt_f, x0le_t, xeq0_t, xeq0_f, xin, xem_f, xme_f, xlem_f, xlm_f, xml_t, xmle_t, nI_clamp, nI_add, pk_mul, pk_sub, zI_s, zI_k, zI_o, zL_s, zL_k, zL_o, zR_s, zR_k, zR_o, zIL, zIR, zIN, zLI, zLR, zLN, zRI, zRL, zRN, true_and, and_true, not_true_eq_false, not_false_eq_true, true_implies, false_implies, implies_true, forall_const, if_true, if_false, eq_self, false_and, and_false, implies_true, nI_l, ylle_t, ylle_f, xcl_t, xcl_f]
            obtain ⟨c, hc, c0⟩ := of_decide_eq_true emr
            have st0 : 0 < wSt n ((wCh n a W).2.1 (a.1 + 1)) := fb_ct_pos.mpr ⟨c, hc, decide_eq_true c0⟩
            have l4 := hI'.2.1
            rw [wCh_L] at l4
            refine ih (wCh n a W) hI' hF' hP' (by rw [wCh_L]; omega) (U s' (wCh n a W)) h6 r6 (hb.trans (upz b6)) (hw5.keep hn (f6.m (l := a.1 + 1)) (by rw [wCh_L]; omega)) R6 _ ?_
            intro h7 r7 f7 R7
            refine nxt h7 r7 (b6.trans f7.up) ?_ _ _ _ _ _ _ _ _ _
            rw [ebr]
            exact R7
    refine u_X11_goes ?_
    have e38 := hw.1
    have L4 : ∀ m i, i + m = n → J mX11_goes (dm + (k + 1) + 1) 0 0 Q 0 0 4 [some (.inr (.inr 111)), some (.inl (nI a.1)), some (.inl (nI (3 ^ i))), some (.inl (nI i)), none, none, none, none, none, none, none, none, none] [] h := by
      intro m
      induction m with
      | zero =>
        intro i hi
        obtain rfl : i = n := by omega
        refine u_X11_goes_4 hr ?_
        simp (disch := omega) only [xle_t, xle_f, xlt_t, xlt_f, xeq_t, xeq_f, xle0_t, xle0_f, xlt0_f, x0lt_t, x0lt_f, x0le_t, xeq0_t, xeq0_f, xin, xem_f, xme_f, xlem_f, xlm_f, xml_t, xmle_t, nI_clamp, nI_add, pk_mul, pk_sub, zI_s, zI_k, zI_o, zL_s, zL_k, zL_o, zR_s, zR_k, zR_o, zIL, zIR, zIN, zLI, zLR, zLN, zRI, zRL, zRN, true_and, and_true, not_true_eq_false, not_false_eq_true, true_implies, false_implies, implies_true, forall_const, if_true, if_false, eq_self, false_and, and_false, implies_true, nI_l, ylle_t, ylle_f, xcl_t, xcl_f, e38]
        have P0 : 0 < 3 ^ i := Nat.pow_pos (by decide)
        refine LW (3 ^ i - 1) 1 (by omega) (by omega) s h hr wFm.rfl hR ?_ _ _ _ _ _ _ _ _ _
        have sk := wTl_skip (f := br) (j := 1) (m := 3 ^ i - 1) (W := 0) (fun V v1 v2 => if_neg (fun q => by omega))
        rw [show 1 + (3 ^ i - 1) = 3 ^ i by omega] at sk
        rw [← sk]
        rfl
      | succ m ihm =>
        intro i hi
        refine u_X11_goes_4 hr ?_
        simp (disch := omega) only [xle_t, xle_f, xlt_t, xlt_f, xeq_t, xeq_f, xle0_t, xle0_f, xlt0_f, x0lt_t, x0lt_f, x0le_t, xeq0_t, xeq0_f, xin, xem_f, xme_f, xlem_f, xlm_f, xml_t, xmle_t, nI_clamp, nI_add, pk_mul, pk_sub, zI_s, zI_k, zI_o, zL_s, zL_k, zL_o, zR_s, zR_k, zR_o, zIL, zIR, zIN, zLI, zLR, zLN, zRI, zRL, zRN, true_and, and_true, not_true_eq_false, not_false_eq_true, true_implies, false_implies, implies_true, forall_const, if_true, if_false, eq_self, false_and, and_false, implies_true, nI_l, ylle_t, ylle_f, xcl_t, xcl_f, e38]
        rw [← Nat.pow_succ]
        exact ihm (i + 1) (by omega)
    exact L4 n 0 (by omega)
