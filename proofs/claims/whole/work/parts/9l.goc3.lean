/-! ===== ways in the class: go, whatever it is sought for ===== -/
theorem wFr.row {w l : Nat} {h h' : MH} (f : zF (fun b => b ≠ 72 + (l + 1)) h h') (hl : l < 4) : wFr w l h h' := ⟨f.weak (fun b q => by omega), fun k _ => by rw [f.i (by omega)], fun i _ => by rw [f.i (by omega)], f.r (by omega)⟩
theorem wFr.mom {w l : Nat} {h h' : MH} (f : zF (fun b => b ≠ 64 ∧ b ≠ 66 + (l + 1)) h h') (g : ∀ i, i ≠ l + 1 → h'.1 64 i = h.1 64 i) (hl : l < 4) : wFr w l h h' := ⟨f.weak (fun b q => by omega), fun k _ => by rw [f.i (by omega)], fun i hi => g i (by omega), f.r (by omega)⟩
theorem pow3_le {n : Nat} (h : n ≤ 4) : 3 ^ n ≤ 81 := Nat.pow_le_pow_right (by decide) h
theorem fold_ov {σ : Type} {U : σ → WN → σ} {ov : σ → Bool} (hov : ∀ s b, ov s = true → U s b = s) {s : σ} (h : ov s = true) : ∀ l : List WN, l.foldl U s = s
  | [] => rfl
  | b :: l => by rw [List.foldl_cons, hov s b h]; exact fold_ov hov h l
theorem wLo_le {n : Nat} {a : WN} {out : Bool} (hI : wI n a) {c : Nat} (hc : c < n) : wLo out (a.2.1 a.1) (a.2.2.1 a.1) c ≤ wHi (a.2.1 a.1) c := by
  have h2 := (hI.2.2.1 c hc).2
  unfold wLo wHi
  by_cases z : a.2.1 a.1 c = 0
  · rw [if_pos (Or.inr z)]; omega
  · rw [if_neg z]
    split
    · omega
    · exact h2
theorem c_go {σ : Type} {U : σ → WN → σ} {ov : σ → Bool} {R : σ → MH → Prop} {n k w d : Nat} {out : Bool} {a : WN} {h0 : MH} {sp : Int32} {Q : Option MV → MH → Prop} {s : σ}
    (hr : zRf h0) (hI : wI n a) (hk : a.1 + k = 4) (hw : wC n out a h0) (hw9 : w = 62 ∨ 76 < w) (hR : R s h0) (hv : ov s = false)
    (hov : ∀ s b, ov s = true → U s b = s) (hRv : ∀ s h, R s h → h.1 62 7 = bI (ov s))
    (hRs : ∀ s h h', ov s = false → R s h → zF (fun b => b ≠ 64 ∧ (b < 66 ∨ 76 < b)) h h' → R s h')
    (hd : 1 ≤ d)
    (hA : ∀ k', k = k' + 1 → ∀ W, 0 < W → W < 3 ^ n → wOk n out (a.2.1 a.1) (a.2.2.1 a.1) (wG n W) = true → ∀ s h, zRf h → wFr w a.1 h0 h → wC n out (wCh n a W) h → R s h → ov s = false → ∀ Q', (∀ h', zRf h' → wFr w (a.1 + 1) h h' → R ((wCh n a W :: wNd n out k' (wCh n a W)).foldl U s) h' → Q' none h') → Con mX9_arrive d 0 0 [.inr (.inr 62), .inl (nI (a.1 + 1)), .inl (nI (fb_sm ((wCh n a W).2.1 (a.1 + 1)) n)), .inl sp] h Q')
    (kk : ∀ h', zRf h' → wFr w a.1 h0 h' → R ((wNd n out k a).foldl U s) h' → Q none h') :
    Con mX9_go (d + 2) 0 0 [.inr (.inr 62), .inl (nI a.1), .inl (nI (fb_sm (a.2.1 a.1) n)), .inl sp] h0 Q := by
  have hn := hI.1
  have bS := hI.2.2.2
  refine u_X9_go ?_
  rcases k with _ | k
  · have l4 : a.1 = 4 := by omega
    rw [l4] at *
    simp (disch := omega) only [xle_t, xle_f, xlt_t, xlt_f, xeq_t, xeq_f, xle0_t, xle0_f, xlt0_f, x0lt_t, x0lt_f, x0le_t, xeq0_t, xeq0_f, xin, xem_f, xme_f, xlem_f, xlm_f, xml_t, xmle_t, nI_clamp, nI_add, pk_mul, pk_sub, zI_s, zI_k, zI_o, zL_s, zL_k, zL_o, zR_s, zR_k, zR_o, zIL, zIR, zIN, zLI, zLR, zLN, zRI, zRL, zRN, true_and, and_true, not_true_eq_false, not_false_eq_true, true_implies, false_implies, implies_true, forall_const, if_true, if_false, eq_self, false_and, and_false, implies_true, nI_l, ylle_t, ylle_f, xcl_t, xcl_f]
    exact kk h0 hr wFr.rfl hR
  have hl : a.1 < 4 := by omega
  rcases Nat.eq_zero_or_pos (fb_sm (a.2.1 a.1) n) with z0 | z0
  · have z1 := wNd_nil (n := n) (out := out) (a := a) (fb_sm_0.mp z0) (k + 1)
    rw [z1] at kk
    rw [z0]
    simp (disch := omega) only [xle_t, xle_f, xlt_t, xlt_f, xeq_t, xeq_f, xle0_t, xle0_f, xlt0_f, x0lt_t, x0lt_f, x0le_t, xeq0_t, xeq0_f, xin, xem_f, xme_f, xlem_f, xlm_f, xml_t, xmle_t, nI_clamp, nI_add, pk_mul, pk_sub, zI_s, zI_k, zI_o, zL_s, zL_k, zL_o, zR_s, zR_k, zR_o, zIL, zIR, zIN, zLI, zLR, zLN, zRI, zRL, zRN, true_and, and_true, not_true_eq_false, not_false_eq_true, true_implies, false_implies, implies_true, forall_const, if_true, if_false, eq_self, false_and, and_false, implies_true, nI_l, ylle_t, ylle_f, xcl_t, xcl_f]
    exact kk h0 hr wFr.rfl hR
  simp (disch := omega) only [xle_t, xle_f, xlt_t, xlt_f, xeq_t, xeq_f, xle0_t, xle0_f, xlt0_f, x0lt_t, x0lt_f, x0le_t, xeq0_t, xeq0_f, xin, xem_f, xme_f, xlem_f, xlm_f, xml_t, xmle_t, nI_clamp, nI_add, pk_mul, pk_sub, zI_s, zI_k, zI_o, zL_s, zL_k, zL_o, zR_s, zR_k, zR_o, zIL, zIR, zIN, zLI, zLR, zLN, zRI, zRL, zRN, true_and, and_true, not_true_eq_false, not_false_eq_true, true_implies, false_implies, implies_true, forall_const, if_true, if_false, eq_self, false_and, and_false, implies_true, nI_l, ylle_t, ylle_f, xcl_t, xcl_f]
  have h81 := pow3_le hn
  let br := wBr n out a (wNd n out k)
  have ebr : ∀ V, V < 3 ^ n → ¬ wOk n out (a.2.1 a.1) (a.2.2.1 a.1) (wG n V) = true → br V = [] := fun V _ q => if_neg (fun y => q y.2)
  -- the loop over the ways on
  have LB : ∀ m W i, W + m = 3 ^ n → 0 < m → i ≤ W → wOk n out (a.2.1 a.1) (a.2.2.1 a.1) (wG n W) = true → ∀ s' h, zRf h → wFr w a.1 h0 h → (∀ c, c < n → h.1 (72 + (a.1 + 1)) c = nI (wG n W c)) → R s' h → ov s' = false → (wTl br m W).foldl U s' = (wNd n out (k + 1) a).foldl U s → J mX9_go (d + 2) 0 0 Q 0 0 49 [some (.inr (.inr 62)), some (.inl (nI a.1)), some (.inl (nI (fb_sm (a.2.1 a.1) n))), some (.inl sp), some (.inl (nI i))] [] h := by
    intro m
    induction m using Nat.strongRecOn with
    | ind m ih =>
      intro W i hWm hm0 hiW hok s' h rh fh gh Rh vh ef
      have h3g := wOk_3 hok
      have hWlt : W < 3 ^ n := by omega
      obtain ⟨m', rfl⟩ : ∃ m', m = m' + 1 := ⟨m - 1, by omega⟩
      have ef1 : (wTl br m' (W + 1)).foldl U ((br W).foldl U s') = (wNd n out (k + 1) a).foldl U s := by
        rw [← ef, ← List.foldl_append]
        rfl
      -- behind follow
      have after : ∀ h1, zRf h1 → wFr w a.1 h0 h1 → (∀ c, c < n → h1.1 (72 + (a.1 + 1)) c = nI (wG n W c)) → R ((br W).foldl U s') h1 → J mX9_go (d + 2) 0 0 Q 0 0 63 [some (.inr (.inr 62)), some (.inl (nI a.1)), some (.inl (nI (fb_sm (a.2.1 a.1) n))), some (.inl sp), some (.inl (nI i))] [] h1 := by
        intro h1 r1 f1 g1 R1
        refine u_X9_go_63 (d1' := d + 1) r1 (by omega) ?_
        have e7 := hRv _ _ R1
        cases eo : ov ((br W).foldl U s') with
        | true =>
          rw [eo, show bI true = nI 1 from rfl] at e7
          simp (disch := omega) only [xle_t, xle_f, xlt_t, xlt_f, xeq_t, xeq_f, xle0_t, xle0_f, xlt0_f, x0lt_t, x0lt_f, x0le_t, xeq0_t, xeq0_f, xin, xem_f, xme_f, xlem_f, xlm_f, xml_t, xmle_t, nI_clamp, nI_add, pk_mul, pk_sub, zI_s, zI_k, zI_o, zL_s, zL_k, zL_o, zR_s, zR_k, zR_o, zIL, zIR, zIN, zLI, zLR, zLN, zRI, zRL, zRN, true_and, and_true, not_true_eq_false, not_false_eq_true, true_implies, false_implies, implies_true, forall_const, if_true, if_false, eq_self, false_and, and_false, implies_true, nI_l, ylle_t, ylle_f, xcl_t, xcl_f, e7]
          refine kk h1 r1 f1 ?_
          rw [← ef1, fold_ov hov eo]
          exact R1
        | false =>
          rw [eo, show bI false = nI 0 from rfl] at e7
          simp (disch := omega) only [xle_t, xle_f, xlt_t, xlt_f, xeq_t, xeq_f, xle0_t, xle0_f, xlt0_f, x0lt_t, x0lt_f, x0le_t, xeq0_t, xeq0_f, xin, xem_f, xme_f, xlem_f, xlm_f, xml_t, xmle_t, nI_clamp, nI_add, pk_mul, pk_sub, zI_s, zI_k, zI_o, zL_s, zL_k, zL_o, zR_s, zR_k, zR_o, zIL, zIR, zIN, zLI, zLR, zLN, zRI, zRL, zRN, true_and, and_true, not_true_eq_false, not_false_eq_true, true_implies, false_implies, implies_true, forall_const, if_true, if_false, eq_self, false_and, and_false, implies_true, nI_l, ylle_t, ylle_f, xcl_t, xcl_f, e7]
          refine c_gvn r1 hI hl (hw.keep f1 (Nat.le_refl _) (by omega) hw9) g1 hok (by omega) ?_ ?_
          · intro c hc hf hlt h2 r2 f2 g2
            refine u_X9_go_75 ?_
            simp (disch := omega) only [xle_t, xle_f, xlt_t, xlt_f, xeq_t, xeq_f, xle0_t, xle0_f, xlt0_f, x0lt_t, x0lt_f, x0le_t, xeq0_t, xeq0_f, xin, xem_f, xme_f, xlem_f, xlm_f, xml_t, xmle_t, nI_clamp, nI_add, pk_mul, pk_sub, zI_s, zI_k, zI_o, zL_s, zL_k, zL_o, zR_s, zR_k, zR_o, zIL, zIR, zIN, zLI, zLR, zLN, zRI, zRL, zRN, true_and, and_true, not_true_eq_false, not_false_eq_true, true_implies, false_implies, implies_true, forall_const, if_true, if_false, eq_self, false_and, and_false, implies_true, nI_l, ylle_t, ylle_f, xcl_t, xcl_f]
            have g3 : ∀ j, j < n → wNx (wLo out (a.2.1 a.1) (a.2.2.1 a.1)) (wG n W) c j < 3 := fun j hj => by
              unfold wNx
              have q1 := h3g j hj
              have q2 := wHi_le (a.2.1 a.1) c
              have q3 := wLo_le (out := out) hI hj
              have q4 := wHi_le (a.2.1 a.1) j
              split
              · exact q1
              · split
                · rename_i _ y; rw [y] at *; omega
                · omega
            have eW := wVl_Gn hWlt
            have nok : wOk n out (a.2.1 a.1) (a.2.2.1 a.1) (wNx (wLo out (a.2.1 a.1) (a.2.2.1 a.1)) (wG n W) c) = true := wOk_i.mpr (fun j hj => by
              have q := (wOk_i.mp hok) j hj
              unfold wNx
              split
              · exact q
              · split
                · rename_i _ y
                  rw [y] at q ⊢
                  exact ⟨by omega, by omega⟩
                · exact ⟨Nat.le_refl _, wLo_le hI hj⟩)
            have gt := wNx_gt (lo := wLo out (a.2.1 a.1) (a.2.2.1 a.1)) hc h3g
            rw [eW] at gt
            have lt := wVl_lt g3
            have gW : ∀ j, j < n → wG n (wVl (wNx (wLo out (a.2.1 a.1) (a.2.2.1 a.1)) (wG n W) c) n) j = wNx (wLo out (a.2.1 a.1) (a.2.2.1 a.1)) (wG n W) c j := fun j hj => wG_Vl g3 hj
            have nmin : ∀ V, V < 3 ^ n → W < V → wOk n out (a.2.1 a.1) (a.2.2.1 a.1) (wG n V) = true → wVl (wNx (wLo out (a.2.1 a.1) (a.2.2.1 a.1)) (wG n W) c) n ≤ V := fun V hV hWV q => by
              have := wNx_no hc hf q (by rw [eW, wVl_Gn hV]; exact hWV)
              rw [wVl_Gn hV] at this
              exact this
            generalize wVl (wNx (wLo out (a.2.1 a.1) (a.2.2.1 a.1)) (wG n W) c) n = W' at gt lt gW nmin
            refine ih (3 ^ n - W') (by omega) W' (i + 1) (by omega) (by omega) (by omega) (by rw [wOk_c gW]; exact nok) ((br W).foldl U s') h2 r2 (f1.trans (wFr.row f2 hl)) (fun j hj => by rw [gW j hj]; exact g2 j hj) (hRs _ h1 h2 eo R1 (f2.weak (fun b q => by omega))) eo ?_
            rw [← ef1]
            have sk := wTl_skip (f := br) (j := W' - (W + 1)) (m := 3 ^ n - W') (W := W + 1) (fun V v1 v2 => ebr V (by omega) (fun q => by have := nmin V (by omega) (by omega) q; omega))
            rw [show W' - (W + 1) + (3 ^ n - W') = m' by omega, show W + 1 + (W' - (W + 1)) = W' by omega] at sk
            rw [sk]
          · intro hf h2 r2 f2
            refine u_X9_go_75 ?_
            simp (disch := omega) only [xle_t, xle_f, xlt_t, xlt_f, xeq_t, xeq_f, xle0_t, xle0_f, xlt0_f, x0lt_t, x0lt_f, x0le_t, xeq0_t, xeq0_f, xin, xem_f, xme_f, xlem_f, xlm_f, xml_t, xmle_t, nI_clamp, nI_add, pk_mul, pk_sub, zI_s, zI_k, zI_o, zL_s, zL_k, zL_o, zR_s, zR_k, zR_o, zIL, zIR, zIN, zLI, zLR, zLN, zRI, zRL, zRN, true_and, and_true, not_true_eq_false, not_false_eq_true, true_implies, false_implies, implies_true, forall_const, if_true, if_false, eq_self, false_and, and_false, implies_true, nI_l, ylle_t, ylle_f, xcl_t, xcl_f]
            refine kk h2 r2 (f1.trans (wFr.row f2 hl)) ?_
            have nl : wTl br m' (W + 1) = [] := wTl_nil (fun V v1 v2 => ebr V (by omega) (fun q => by
              have := wNx_end hf q
              rw [wVl_Gn hWlt, wVl_Gn (by omega)] at this
              omega))
            rw [nl] at ef1
            rw [← ef1]
            exact hRs _ h1 h2 eo R1 (f2.weak (fun b q => by omega))
      refine u_X9_go_49 (d1' := d + 1) rh (by omega) ?_
      simp (disch := omega) only [xle_t, xle_f, xlt_t, xlt_f, xeq_t, xeq_f, xle0_t, xle0_f, xlt0_f, x0lt_t, x0lt_f, x0le_t, xeq0_t, xeq0_f, xin, xem_f, xme_f, xlem_f, xlm_f, xml_t, xmle_t, nI_clamp, nI_add, pk_mul, pk_sub, zI_s, zI_k, zI_o, zL_s, zL_k, zL_o, zR_s, zR_k, zR_o, zIL, zIR, zIN, zLI, zLR, zLN, zRI, zRL, zRN, true_and, and_true, not_true_eq_false, not_false_eq_true, true_implies, false_implies, implies_true, forall_const, if_true, if_false, eq_self, false_and, and_false, implies_true, nI_l, ylle_t, ylle_f, xcl_t, xcl_f]
      refine c_flw rh hI hl (hw.keep fh (Nat.le_refl _) (by omega) hw9) hWlt gh hok hd ?_ ?_
      · intro hW0
        refine after h rh fh gh ?_
        have : br W = [] := if_neg (fun q => by omega)
        rw [this]
        exact Rh
      · intro hW0 h1 r1 f1 m1 c1 Q' hQ'
        have b1 : wFr w a.1 h h1 := wFr.mom f1 m1 hl
        refine hA k rfl W hW0 hWlt hok s' h1 r1 (fh.trans b1) c1 (hRs _ h h1 vh Rh (f1.weak (fun b q => by omega))) vh Q' (fun h2 r2 f2 R2 => hQ' h2 ?_)
        refine after h2 r2 ((fh.trans b1).trans f2.up) (fun c hc => ?_) ?_
        · rw [f2.1.i (by omega), f1.i (by omega)]
          exact gh c hc
        · have : br W = wCh n a W :: wNd n out k (wCh n a W) := if_pos ⟨hW0, hok⟩
          rw [this]
          exact R2
  -- the fewest
  have LA : ∀ m c, c + m = n → ∀ h, zRf h → zF (fun b => b ≠ 72 + (a.1 + 1)) h0 h → (∀ i, i < c → h.1 (72 + (a.1 + 1)) i = nI (wLo out (a.2.1 a.1) (a.2.2.1 a.1) i)) → J mX9_go (d + 2) 0 0 Q 0 0 13 [some (.inr (.inr 62)), some (.inl (nI a.1)), some (.inl (nI (fb_sm (a.2.1 a.1) n))), some (.inl sp), some (.inl (nI c))] [] h := by
    intro m
    induction m with
    | zero =>
      intro c hc h rh fh gh
      obtain rfl : c = n := by omega
      have e0 : h.1 62 0 = nI c := by rw [fh.i (by omega)]; exact hw.1
      refine u_X9_go_13 rh (by omega) ?_
      simp (disch := omega) only [xle_t, xle_f, xlt_t, xlt_f, xeq_t, xeq_f, xle0_t, xle0_f, xlt0_f, x0lt_t, x0lt_f, x0le_t, xeq0_t, xeq0_f, xin, xem_f, xme_f, xlem_f, xlm_f, xml_t, xmle_t, nI_clamp, nI_add, pk_mul, pk_sub, zI_s, zI_k, zI_o, zL_s, zL_k, zL_o, zR_s, zR_k, zR_o, zIL, zIR, zIN, zLI, zLR, zLN, zRI, zRL, zRN, true_and, and_true, not_true_eq_false, not_false_eq_true, true_implies, false_implies, implies_true, forall_const, if_true, if_false, eq_self, false_and, and_false, implies_true, nI_l, ylle_t, ylle_f, xcl_t, xcl_f, e0]
      have g3 : ∀ j, j < c → wLo out (a.2.1 a.1) (a.2.2.1 a.1) j < 3 := fun j hj => by
        have q3 := wLo_le (out := out) hI hj
        have q4 := wHi_le (a.2.1 a.1) j
        omega
      have lt := wVl_lt g3
      have gW : ∀ j, j < c → wG c (wVl (wLo out (a.2.1 a.1) (a.2.2.1 a.1)) c) j = wLo out (a.2.1 a.1) (a.2.2.1 a.1) j := fun j hj => wG_Vl g3 hj
      have ok0 : wOk c out (a.2.1 a.1) (a.2.2.1 a.1) (wLo out (a.2.1 a.1) (a.2.2.1 a.1)) = true := wOk_i.mpr (fun j hj => ⟨Nat.le_refl _, wLo_le hI hj⟩)
      have nmin : ∀ V, V < 3 ^ c → wOk c out (a.2.1 a.1) (a.2.2.1 a.1) (wG c V) = true → wVl (wLo out (a.2.1 a.1) (a.2.2.1 a.1)) c ≤ V := fun V hV q => by
        have := wVl_mono (m := 0) (n := c) (a := wLo out (a.2.1 a.1) (a.2.2.1 a.1)) (b := wG c V) (by omega) (Nat.le_refl _) (fun i _ hi => ((wOk_i.mp q) i hi).1)
        rw [wVl_Gn hV] at this
        exact this
      generalize wVl (wLo out (a.2.1 a.1) (a.2.2.1 a.1)) c = W' at lt gW nmin
      refine LB (3 ^ c - W') W' 0 (by omega) (by omega) (by omega) (by rw [wOk_c gW]; exact ok0) s h rh (wFr.row fh hl) (fun j hj => by rw [gW j hj]; exact gh j hj) (hRs _ h0 h hv hR (fh.weak (fun b q => by omega))) hv ?_
      have sk := wTl_skip (f := br) (j := W') (m := 3 ^ c - W') (W := 0) (fun V v1 v2 => ebr V (by omega) (fun q => by have := nmin V (by omega) q; omega))
      rw [show W' + (3 ^ c - W') = 3 ^ c by omega, Nat.zero_add] at sk
      rw [← sk]
      rfl
    | succ m ih =>
      intro c hc h rh fh gh
      have hc' : c < n := by omega
      have e0 : h.1 62 0 = nI n := by rw [fh.i (by omega)]; exact hw.1
      have e1 : h.1 62 1 = bI out := by rw [fh.i (by omega)]; exact hw.2.1
      have ex : h.1 (66 + a.1) c = nI (a.2.1 a.1 c) := by rw [fh.i (by omega)]; exact ((hw.2.2 a.1 (Nat.le_refl _)).2 c hc').1
      have eg : h.1 (72 + a.1) c = nI (a.2.2.1 a.1 c) := by rw [fh.i (by omega)]; exact ((hw.2.2 a.1 (Nat.le_refl _)).2 c hc').2
      have bx := wI_x hI hc'
      have nx : ∀ v, v = wLo out (a.2.1 a.1) (a.2.2.1 a.1) c → J mX9_go (d + 2) 0 0 Q 0 0 13 [some (.inr (.inr 62)), some (.inl (nI a.1)), some (.inl (nI (fb_sm (a.2.1 a.1) n))), some (.inl sp), some (.inl (nI (c + 1)))] [] (zsI h (72 + (a.1 + 1)) c (nI v)) := fun v hv => by
        refine ih (c + 1) (by omega) _ rh (fh.trans (zF_I _ _ _ (by omega))) (fun i hi => ?_)
        by_cases z : i = c
        · rw [z, zI_s, hv]
        · rw [zI_k _ _ _ z]
          exact gh i (by omega)
      refine u_X9_go_13 rh (by omega) ?_
      cases out with
      | true =>
        rw [show bI true = nI 1 from rfl] at e1
        simp (disch := omega) only [xle_t, xle_f, xlt_t, xlt_f, xeq_t, xeq_f, xle0_t, xle0_f, xlt0_f, x0lt_t, x0lt_f, x0le_t, xeq0_t, xeq0_f, xin, xem_f, xme_f, xlem_f, xlm_f, xml_t, xmle_t, nI_clamp, nI_add, pk_mul, pk_sub, zI_s, zI_k, zI_o, zL_s, zL_k, zL_o, zR_s, zR_k, zR_o, zIL, zIR, zIN, zLI, zLR, zLN, zRI, zRL, zRN, true_and, and_true, not_true_eq_false, not_false_eq_true, true_implies, false_implies, implies_true, forall_const, if_true, if_false, eq_self, false_and, and_false, implies_true, nI_l, ylle_t, ylle_f, xcl_t, xcl_f, e0, e1, zok72 rh]
        exact nx 0 (wLo_t _ _ _).symm
      | false =>
        rw [show bI false = nI 0 from rfl] at e1
        rcases Nat.eq_zero_or_pos (a.2.1 a.1 c) with x0 | x0
        · simp (disch := omega) only [xle_t, xle_f, xlt_t, xlt_f, xeq_t, xeq_f, xle0_t, xle0_f, xlt0_f, x0lt_t, x0lt_f, x0le_t, xeq0_t, xeq0_f, xin, xem_f, xme_f, xlem_f, xlm_f, xml_t, xmle_t, nI_clamp, nI_add, pk_mul, pk_sub, zI_s, zI_k, zI_o, zL_s, zL_k, zL_o, zR_s, zR_k, zR_o, zIL, zIR, zIN, zLI, zLR, zLN, zRI, zRL, zRN, true_and, and_true, not_true_eq_false, not_false_eq_true, true_implies, false_implies, implies_true, forall_const, if_true, if_false, eq_self, false_and, and_false, implies_true, nI_l, ylle_t, ylle_f, xcl_t, xcl_f, e0, e1, ex, x0, zok66 rh, zok72 rh]
          exact nx 0 (wLo_z x0).symm
        · simp (disch := omega) only [xle_t, xle_f, xlt_t, xlt_f, xeq_t, xeq_f, xle0_t, xle0_f, xlt0_f, x0lt_t, x0lt_f, x0le_t, xeq0_t, xeq0_f, xin, xem_f, xme_f, xlem_f, xlm_f, xml_t, xmle_t, nI_clamp, nI_add, pk_mul, pk_sub, zI_s, zI_k, zI_o, zL_s, zL_k, zL_o, zR_s, zR_k, zR_o, zIL, zIR, zIN, zLI, zLR, zLN, zRI, zRL, zRN, true_and, and_true, not_true_eq_false, not_false_eq_true, true_implies, false_implies, implies_true, forall_const, if_true, if_false, eq_self, false_and, and_false, implies_true, nI_l, ylle_t, ylle_f, xcl_t, xcl_f, e0, e1, ex, eg, zok66 rh, zok72 rh]
          exact nx _ (wLo_f (by omega)).symm
  exact LA n 0 (by omega) h0 hr zF.rfl (fun i hi => by omega)
