/-! ===== ways in the class: follow, go ===== -/
theorem fb_sm_0 {f : Nat → Nat} {n : Nat} : fb_sm f n = 0 ↔ ∀ c, c < n → f c = 0 := ⟨fun h => fb_sm_zero h, fun h => by
  rw [fb_sm_cong (g := fun _ => 0) h, fb_sm_const, Nat.mul_zero]⟩
theorem nI_shr1 {x : Nat} (h : x < 2 ^ 31) : nI x >>> ((nI 1) &&& 31) = nI (x / 2) := pk_shrN h _ 1 (by decide)
theorem c_flw {n : Nat} {out : Bool} {a : WN} {W : Nat} {h : MH} {d : Nat} {sp : Int32} {Q : Option MV → MH → Prop} (hr : zRf h) (hI : wI n a) (hl : a.1 < 4) (hw : wC n out a h) (h3 : W < 3 ^ n) (hg : ∀ c, c < n → h.1 (72 + (a.1 + 1)) c = nI (wG n W c)) (hok : wOk n out (a.2.1 a.1) (a.2.2.1 a.1) (wG n W) = true) (hd : 1 ≤ d)
    (k0 : W = 0 → Q none h)
    (k1 : 0 < W → ∀ h', zRf h' → zF (fun b => b ≠ 64 ∧ b ≠ 66 + (a.1 + 1)) h h' → (∀ i, i ≠ a.1 + 1 → h'.1 64 i = h.1 64 i) → wC n out (wCh n a W) h' → ∀ Q', (∀ h'', Q none h'' → Q' none h'') → Con mX9_arrive d 0 0 [.inr (.inr 62), .inl (nI (a.1 + 1)), .inl (nI (fb_sm ((wCh n a W).2.1 (a.1 + 1)) n)), .inl sp] h' Q') : Con mX9_follow (d + 1) 0 0 [.inr (.inr 62), .inl (nI a.1), .inl (nI (fb_sm (a.2.1 a.1) n)), .inl sp] h Q := by
  obtain ⟨w0, w1, w2⟩ := hw
  obtain ⟨wm, wx⟩ := w2 a.1 (Nat.le_refl _)
  have hn := hI.1
  have hok' := wOk_i.mp hok
  have h3g := wOk_3 hok
  refine u_X9_follow hr ?_
  simp (disch := omega) only [xle_t, xle_f, xlt_t, xlt_f, xeq_t, xeq_f, xle0_t, xle0_f, xlt0_f, x0lt_t, x0lt_f, x0le_t, xeq0_t, xeq0_f, xin, xem_f, xme_f, xlem_f, xlm_f, xml_t, xmle_t, nI_clamp, nI_add, pk_mul, pk_sub, zI_s, zI_k, zI_o, zL_s, zL_k, zL_o, zR_s, zR_k, zR_o, zIL, zIR, zIN, zLI, zLR, zLN, zRI, zRL, zRN, true_and, and_true, not_true_eq_false, not_false_eq_true, true_implies, false_implies, implies_true, forall_const, if_true, if_false, eq_self, false_and, and_false, implies_true, nI_l, ylle_t, ylle_f, xcl_t, xcl_f]
  have L : ∀ m c, c + m = n → ∀ u, J mX9_follow (d + 1) 0 0 Q 0 0 27 [some (.inr (.inr 62)), some (.inl (nI a.1)), some (.inl (nI (fb_sm (a.2.1 a.1) n))), some (.inl sp), some (.inr (.inr (66 + a.1))), some (.inr (.inr (72 + (a.1 + 1)))), some (.inl (nI ((wSp (a.2.1 a.1) (wG n W) c).getD 0))), some (.inl (nI (fb_sm (wG n W) c))), some (.inl (nI c)), u] [] h := by
    intro m
    induction m with
    | zero =>
      intro c hc u
      obtain rfl : c = n := by omega
      refine u_X9_follow_27 hr (by omega) ?_
      have bs : fb_sm (wG c W) c ≤ c * 2 := fb_sm_bound (fun k hk => by have := h3g k hk; omega)
      rcases Nat.eq_zero_or_pos W with z | z
      · have z1 : fb_sm (wG c W) c = 0 := fb_sm_0.mpr (fun k hk => by rw [z]; unfold wG; rw [Nat.zero_div])
        simp (disch := omega) only [xle_t, xle_f, xlt_t, xlt_f, xeq_t, xeq_f, xle0_t, xle0_f, xlt0_f, x0lt_t, x0lt_f, x0le_t, xeq0_t, xeq0_f, xin, xem_f, xme_f, xlem_f, xlm_f, xml_t, xmle_t, nI_clamp, nI_add, pk_mul, pk_sub, zI_s, zI_k, zI_o, zL_s, zL_k, zL_o, zR_s, zR_k, zR_o, zIL, zIR, zIN, zLI, zLR, zLN, zRI, zRL, zRN, true_and, and_true, not_true_eq_false, not_false_eq_true, true_implies, false_implies, implies_true, forall_const, if_true, if_false, eq_self, false_and, and_false, implies_true, nI_l, ylle_t, ylle_f, xcl_t, xcl_f, w0, z1]
        exact k0 z
      · obtain ⟨es, s0, sm, _, _, _⟩ := wStp hI z h3 hok
        obtain ⟨sx, b0⟩ := wCh_sum hI z h3 hok
        have bX := hI.2.2.2
        rw [es]
        show _ ∧ _
        rw [Option.getD_some]
        have sB : wS c a W ≤ fb_sm (wG c W) c * wS c a W := Nat.le_mul_of_pos_left _ b0
        simp (disch := omega) only [xle_t, xle_f, xlt_t, xlt_f, xeq_t, xeq_f, xle0_t, xle0_f, xlt0_f, x0lt_t, x0lt_f, x0le_t, xeq0_t, xeq0_f, xin, xem_f, xme_f, xlem_f, xlm_f, xml_t, xmle_t, nI_clamp, nI_add, pk_mul, pk_sub, zI_s, zI_k, zI_o, zL_s, zL_k, zL_o, zR_s, zR_k, zR_o, zIL, zIR, zIN, zLI, zLR, zLN, zRI, zRL, zRN, true_and, and_true, not_true_eq_false, not_false_eq_true, true_implies, false_implies, implies_true, forall_const, if_true, if_false, eq_self, false_and, and_false, implies_true, nI_l, ylle_t, ylle_f, xcl_t, xcl_f, w0]
        have L2 : ∀ m' j, j + m' = c → ∀ h', zRf h' → zF (fun b => b ≠ 66 + (a.1 + 1)) h h' → (∀ i, i < j → h'.1 (66 + (a.1 + 1)) i = nI ((wCh c a W).2.1 (a.1 + 1) i)) → J mX9_follow (d + 1) 0 0 Q 0 0 124 [some (.inr (.inr 62)), some (.inl (nI a.1)), some (.inl (nI (fb_sm (a.2.1 a.1) c))), some (.inl sp), some (.inr (.inr (66 + a.1))), some (.inr (.inr (72 + (a.1 + 1)))), some (.inl (nI (wS c a W))), some (.inl (nI (fb_sm (wG c W) c))), some (.inr (.inr (66 + (a.1 + 1)))), some (.inl (nI j))] [] h' := by
          intro m'
          induction m' with
          | zero =>
            intro j hj h' r' f' g'
            obtain rfl : j = c := by omega
            have e0 : h'.1 62 0 = nI j := by rw [f'.i (by omega)]; exact w0
            have em : h'.1 64 a.1 = nI (a.2.2.2 a.1) := by rw [f'.i (by omega)]; exact wm
            refine u_X9_follow_124 (d1' := d) r' (by omega) ?_
            simp (disch := omega) only [xle_t, xle_f, xlt_t, xlt_f, xeq_t, xeq_f, xle0_t, xle0_f, xlt0_f, x0lt_t, x0lt_f, x0le_t, xeq0_t, xeq0_f, xin, xem_f, xme_f, xlem_f, xlm_f, xml_t, xmle_t, nI_clamp, nI_add, pk_mul, pk_sub, zI_s, zI_k, zI_o, zL_s, zL_k, zL_o, zR_s, zR_k, zR_o, zIL, zIR, zIN, zLI, zLR, zLN, zRI, zRL, zRN, true_and, and_true, not_true_eq_false, not_false_eq_true, true_implies, false_implies, implies_true, forall_const, if_true, if_false, eq_self, false_and, and_false, implies_true, nI_l, ylle_t, ylle_f, xcl_t, xcl_f, e0, em]
            rw [show fb_sm (a.2.1 a.1) j - fb_sm (wG j W) j * wS j a W = fb_sm ((wCh j a W).2.1 (a.1 + 1)) j by omega]
            refine k1 z _ ?_ ?_ (fun i hi => ?_) ?_ _ ?_
            · exact r'
            · exact (f'.weak (fun b q => q.2)).trans (zF_I _ _ _ (by omega))
            · rw [zI_k _ _ _ hi, f'.i (by omega)]
            · refine ⟨?_, ?_, fun i hi => ?_⟩
              · rw [zI_o _ _ _ (by omega)]; exact e0
              · rw [zI_o _ _ _ (by omega), f'.i (by omega)]; exact w1
              · rw [wCh_L] at hi
                by_cases y : i = a.1 + 1
                · rw [y, zI_s, wCh_M]
                  refine ⟨rfl, fun k hk => ?_⟩
                  rw [zI_o _ _ _ (by omega), zI_o _ _ _ (by omega), g' k hk, f'.i (by omega), hg k hk, wCh_F]
                  exact ⟨rfl, rfl⟩
                · obtain ⟨q1, q2⟩ := w2 i (by omega)
                  rw [zI_k _ _ _ y, f'.i (by omega), wCh_Mo (by omega), wCh_Xo (by omega), wCh_Fo (by omega)]
                  refine ⟨q1, fun k hk => ?_⟩
                  rw [zI_o _ _ _ (by omega), zI_o _ _ _ (by omega), f'.i (by omega), f'.i (by omega)]
                  exact q2 k hk
            · exact fun h'' q => u_X9_follow_190 q
          | succ m' ih2 =>
            intro j hj h' r' f' g'
            have hj' : j < c := by omega
            have e0 : h'.1 62 0 = nI c := by rw [f'.i (by omega)]; exact w0
            have ex : h'.1 (66 + a.1) j = nI (a.2.1 a.1 j) := by rw [f'.i (by omega)]; exact (wx j hj').1
            have eg : h'.1 (72 + (a.1 + 1)) j = nI (wG c W j) := by rw [f'.i (by omega)]; exact hg j hj'
            have sj := sm j hj'
            refine u_X9_follow_124 (d1' := d) r' (by omega) ?_
            simp (disch := omega) only [xle_t, xle_f, xlt_t, xlt_f, xeq_t, xeq_f, xle0_t, xle0_f, xlt0_f, x0lt_t, x0lt_f, x0le_t, xeq0_t, xeq0_f, xin, xem_f, xme_f, xlem_f, xlm_f, xml_t, xmle_t, nI_clamp, nI_add, pk_mul, pk_sub, zI_s, zI_k, zI_o, zL_s, zL_k, zL_o, zR_s, zR_k, zR_o, zIL, zIR, zIN, zLI, zLR, zLN, zRI, zRL, zRN, true_and, and_true, not_true_eq_false, not_false_eq_true, true_implies, false_implies, implies_true, forall_const, if_true, if_false, eq_self, false_and, and_false, implies_true, nI_l, ylle_t, ylle_f, xcl_t, xcl_f, e0, ex, eg, zok66 r', zok72 r']
            refine ih2 (j + 1) (by omega) _ r' (f'.trans (zF_I _ _ _ (by omega))) (fun i hi => ?_)
            by_cases y : i = j
            · rw [y, zI_s, wCh_X]
            · rw [zI_k _ _ _ y]
              exact g' i (by omega)
        exact L2 c 0 (by omega) h hr zF.rfl (fun i hi => by omega)
    | succ m ih =>
      intro c hc u
      have hc' : c < n := by omega
      have ex := (wx c hc').1
      have eg := hg c hc'
      have bx := wI_x hI hc'
      have g3 := h3g c hc'
      have bs : fb_sm (wG n W) c ≤ c * 2 := fb_sm_bound (fun k hk => by have := h3g k (by omega); omega)
      have nx := ih (c + 1) (by omega)
      rw [fb_sm_succ] at nx
      refine u_X9_follow_27 hr (by omega) ?_
      rcases (show wG n W c = 0 ∨ wG n W c = 1 ∨ wG n W c = 2 by omega) with z | z | z
      · rw [z] at eg nx
        have e2 : wSp (a.2.1 a.1) (wG n W) (c + 1) = wSp (a.2.1 a.1) (wG n W) c := by
          show (if 0 < wG n W c then _ else _) = _
          rw [if_neg (by omega)]
        rw [e2, Nat.add_zero] at nx
        simp (disch := omega) only [xle_t, xle_f, xlt_t, xlt_f, xeq_t, xeq_f, xle0_t, xle0_f, xlt0_f, x0lt_t, x0lt_f, x0le_t, xeq0_t, xeq0_f, xin, xem_f, xme_f, xlem_f, xlm_f, xml_t, xmle_t, nI_clamp, nI_add, pk_mul, pk_sub, zI_s, zI_k, zI_o, zL_s, zL_k, zL_o, zR_s, zR_k, zR_o, zIL, zIR, zIN, zLI, zLR, zLN, zRI, zRL, zRN, true_and, and_true, not_true_eq_false, not_false_eq_true, true_implies, false_implies, implies_true, forall_const, if_true, if_false, eq_self, false_and, and_false, implies_true, nI_l, ylle_t, ylle_f, xcl_t, xcl_f, w0, eg, zok66 hr, zok72 hr]
        exact nx _
      · rw [z] at eg nx
        have e2 : wSp (a.2.1 a.1) (wG n W) (c + 1) = some (match wSp (a.2.1 a.1) (wG n W) c with
          | none => a.2.1 a.1 c
          | some s => min s (a.2.1 a.1 c)) := by
          show (if 0 < wG n W c then some (match wSp (a.2.1 a.1) (wG n W) c with
            | none => a.2.1 a.1 c / wG n W c
            | some s => min s (a.2.1 a.1 c / wG n W c)) else _) = _
          rw [if_pos (by omega), z, Nat.div_one]
        rw [e2, Option.getD_some] at nx
        rcases e : wSp (a.2.1 a.1) (wG n W) c with _ | s
        · rw [e] at nx
          have z1 : fb_sm (wG n W) c = 0 := fb_sm_0.mpr (wSp_none.mp e)
          rw [z1] at nx ⊢
          simp (disch := omega) only [xle_t, xle_f, xlt_t, xlt_f, xeq_t, xeq_f, xle0_t, xle0_f, xlt0_f, x0lt_t, x0lt_f, x0le_t, xeq0_t, xeq0_f, xin, xem_f, xme_f, xlem_f, xlm_f, xml_t, xmle_t, nI_clamp, nI_add, pk_mul, pk_sub, zI_s, zI_k, zI_o, zL_s, zL_k, zL_o, zR_s, zR_k, zR_o, zIL, zIR, zIN, zLI, zLR, zLN, zRI, zRL, zRN, true_and, and_true, not_true_eq_false, not_false_eq_true, true_implies, false_implies, implies_true, forall_const, if_true, if_false, eq_self, false_and, and_false, implies_true, nI_l, ylle_t, ylle_f, xcl_t, xcl_f, w0, eg, ex, zok66 hr, zok72 hr]
          exact nx _
        · rw [e] at nx
          have z1 : fb_sm (wG n W) c ≠ 0 := fun q => by rw [wSp_none.mpr (fb_sm_0.mp q)] at e; cases e
          obtain ⟨⟨j, j1, j2, j3⟩, _⟩ := wSp_some e
          have bj := wI_x hI (show j < n by omega)
          have bs2 : s ≤ 368640 := by rw [j3]; exact Nat.le_trans (Nat.div_le_self _ _) bj
          rw [Option.getD_some]
          simp (disch := omega) only [xle_t, xle_f, xlt_t, xlt_f, xeq_t, xeq_f, xle0_t, xle0_f, xlt0_f, x0lt_t, x0lt_f, x0le_t, xeq0_t, xeq0_f, xin, xem_f, xme_f, xlem_f, xlm_f, xml_t, xmle_t, nI_clamp, nI_add, pk_mul, pk_sub, zI_s, zI_k, zI_o, zL_s, zL_k, zL_o, zR_s, zR_k, zR_o, zIL, zIR, zIN, zLI, zLR, zLN, zRI, zRL, zRN, true_and, and_true, not_true_eq_false, not_false_eq_true, true_implies, false_implies, implies_true, forall_const, if_true, if_false, eq_self, false_and, and_false, implies_true, nI_l, ylle_t, ylle_f, xcl_t, xcl_f, w0, eg, ex, zok66 hr, zok72 hr, xmin]
          rw [Nat.min_comm]
          exact nx _
      · rw [z] at eg nx
        have e2 : wSp (a.2.1 a.1) (wG n W) (c + 1) = some (match wSp (a.2.1 a.1) (wG n W) c with
          | none => a.2.1 a.1 c / 2
          | some s => min s (a.2.1 a.1 c / 2)) := by
          show (if 0 < wG n W c then some (match wSp (a.2.1 a.1) (wG n W) c with
            | none => a.2.1 a.1 c / wG n W c
            | some s => min s (a.2.1 a.1 c / wG n W c)) else _) = _
          rw [if_pos (by omega), z]
        rw [e2, Option.getD_some] at nx
        rcases e : wSp (a.2.1 a.1) (wG n W) c with _ | s
        · rw [e] at nx
          have z1 : fb_sm (wG n W) c = 0 := fb_sm_0.mpr (wSp_none.mp e)
          rw [z1] at nx ⊢
          simp (disch := omega) only [xle_t, xle_f, xlt_t, xlt_f, xeq_t, xeq_f, xle0_t, xle0_f, xlt0_f, x0lt_t, x0lt_f, x0le_t, xeq0_t, xeq0_f, xin, xem_f, xme_f, xlem_f, xlm_f, xml_t, xmle_t, nI_clamp, nI_add, pk_mul, pk_sub, zI_s, zI_k, zI_o, zL_s, zL_k, zL_o, zR_s, zR_k, zR_o, zIL, zIR, zIN, zLI, zLR, zLN, zRI, zRL, zRN, true_and, and_true, not_true_eq_false, not_false_eq_true, true_implies, false_implies, implies_true, forall_const, if_true, if_false, eq_self, false_and, and_false, implies_true, nI_l, ylle_t, ylle_f, xcl_t, xcl_f, w0, eg, ex, zok66 hr, zok72 hr, nI_shr1]
          exact nx _
        · rw [e] at nx
          have z1 : fb_sm (wG n W) c ≠ 0 := fun q => by rw [wSp_none.mpr (fb_sm_0.mp q)] at e; cases e
          obtain ⟨⟨j, j1, j2, j3⟩, _⟩ := wSp_some e
          have bj := wI_x hI (show j < n by omega)
          have bs2 : s ≤ 368640 := by rw [j3]; exact Nat.le_trans (Nat.div_le_self _ _) bj
          rw [Option.getD_some]
          simp (disch := omega) only [xle_t, xle_f, xlt_t, xlt_f, xeq_t, xeq_f, xle0_t, xle0_f, xlt0_f, x0lt_t, x0lt_f, x0le_t, xeq0_t, xeq0_f, xin, xem_f, xme_f, xlem_f, xlm_f, xml_t, xmle_t, nI_clamp, nI_add, pk_mul, pk_sub, zI_s, zI_k, zI_o, zL_s, zL_k, zL_o, zR_s, zR_k, zR_o, zIL, zIR, zIN, zLI, zLR, zLN, zRI, zRL, zRN, true_and, and_true, not_true_eq_false, not_false_eq_true, true_implies, false_implies, implies_true, forall_const, if_true, if_false, eq_self, false_and, and_false, implies_true, nI_l, ylle_t, ylle_f, xcl_t, xcl_f, w0, eg, ex, zok66 hr, zok72 hr, nI_shr1, xmin]
          rw [Nat.min_comm]
          exact nx _
  exact L n 0 (by omega) none
