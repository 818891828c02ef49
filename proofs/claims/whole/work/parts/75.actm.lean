/-! ===== doesAct (reference) ===== -/
theorem n_join {R : RS} {h : MH} {d n a b : Nat} {Q : Option MV → MH → Prop} {v1 v2 v3 v6 : Int32} (hr : zRf h) (hS : mS n R h) (hV : rV n R) (ha : a < n) (hsa : R.1.2.2.2.2.1 a = 0) (hb : b < n) (hsb : R.1.2.2.2.2.1 b = 0) (hab : a ≠ b) (kk : ∀ h', zRf h' → mF h h' → mS n (rJoin R a b) h' → Q none h') : J mX11_doesAct d 0 0 Q 0 0 250 [some (.inr (.inr 111)), some (.inl v1), some (.inl v2), some (.inl v3), some (.inl (nI a)), some (.inl (nI b)), some (.inl v6), some (.inl (nI 0))] [] (zsI (zsI (zsI h 117 a (nI (R.1.1 a + R.1.1 b))) 117 b (nI 0)) 119 b (nI 2)) := by
  have h8 := hV.1.1
  obtain ⟨hK, hT⟩ := hS
  have hlen : (R.1.2.2.2.1 a).length + (R.1.2.2.2.1 b).length ≤ 8 := by
    have h1 := fb_two (rLn R.1) hab ha hb
    have h2 := hV.1.2.2.2.2
    have e1 : rLn R.1 a = (R.1.2.2.2.1 a).length := if_pos hsa
    have e2 : rLn R.1 b = (R.1.2.2.2.1 b).length := if_pos hsb
    omega
  obtain ⟨la1, la2⟩ := (hK a (by omega)).2.2.2.2.2 ha hsa
  obtain ⟨lb1, lb2⟩ := (hK b (by omega)).2.2.2.2.2 hb hsb
  generalize hg0 : zsI (zsI (zsI h 117 a (nI (R.1.1 a + R.1.1 b))) 117 b (nI 0)) 119 b (nI 2) = g0
  have z122 : g0.1 122 = h.1 122 := by rw [← hg0]; simp (disch := omega) only [xle_t, xle_f, xlt_t, xlt_f, xeq_t, xeq_f, xle0_t, xle0_f, xlt0_f, x0lt_t, x0lt_f, x0le_t, xeq0_t, xeq0_f, xin, xem_f, xme_f, xlem_f, xlm_f, xml_t, xmle_t, nI_clamp, nI_add, pk_mul, pk_sub, zI_s, zI_k, zI_o, zL_s, zL_k, zL_o, zR_s, zR_k, zR_o, zIL, zIR, zIN, zLI, zLR, zLN, zRI, zRL, zRN, true_and, and_true, not_true_eq_false, not_false_eq_true, true_implies, false_implies, implies_true, forall_const, if_true, if_false, eq_self, false_and, and_false, implies_true, nI_l, ylle_t, ylle_f, xcl_t, xcl_f]
  have z123 : g0.1 123 = h.1 123 := by rw [← hg0]; simp (disch := omega) only [xle_t, xle_f, xlt_t, xlt_f, xeq_t, xeq_f, xle0_t, xle0_f, xlt0_f, x0lt_t, x0lt_f, x0le_t, xeq0_t, xeq0_f, xin, xem_f, xme_f, xlem_f, xlm_f, xml_t, xmle_t, nI_clamp, nI_add, pk_mul, pk_sub, zI_s, zI_k, zI_o, zL_s, zL_k, zL_o, zR_s, zR_k, zR_o, zIL, zIR, zIN, zLI, zLR, zLN, zRI, zRL, zRN, true_and, and_true, not_true_eq_false, not_false_eq_true, true_implies, false_implies, implies_true, forall_const, if_true, if_false, eq_self, false_and, and_false, implies_true, nI_l, ylle_t, ylle_f, xcl_t, xcl_f]
  have r0 : zRf g0 := by rw [← hg0]; exact hr
  have f0 : mF h g0 := by rw [← hg0]; exact ((mF_I (by omega)).trans (mF_I (by omega))).trans (mF_I (by omega))
  have L : ∀ m i, i + m = (R.1.2.2.2.1 b).length → ∀ g : MH, zRf g → zF (fun x => x ≠ 122 ∧ x ≠ 123) g0 g → (∀ k, k < 111 → True) → g.1 123 a = nI ((R.1.2.2.2.1 a).length + i) → (∀ c, c ≠ a → g.1 123 c = h.1 123 c) → (∀ x, x < 8 * a ∨ 8 * a + 8 ≤ x → g.1 122 x = h.1 122 x) → (∀ j, j < (R.1.2.2.2.1 a).length + i → g.1 122 (8 * a + j) = nI ((R.1.2.2.2.1 a ++ R.1.2.2.2.1 b).getD j 0)) → J mX11_doesAct d 0 0 Q 0 0 250 [some (.inr (.inr 111)), some (.inl v1), some (.inl v2), some (.inl v3), some (.inl (nI a)), some (.inl (nI b)), some (.inl v6), some (.inl (nI i))] [] g := by
    intro m
    induction m with
    | zero =>
      intro i hi g rg fg _ g1 g2 g3 g4
      have gb : g.1 123 b = nI (R.1.2.2.2.1 b).length := by rw [g2 b (fun z => hab z.symm)]; exact lb1
      refine u_X11_doesAct_250 rg ?_
      simp (disch := omega) only [xle_t, xle_f, xlt_t, xlt_f, xeq_t, xeq_f, xle0_t, xle0_f, xlt0_f, x0lt_t, x0lt_f, x0le_t, xeq0_t, xeq0_f, xin, xem_f, xme_f, xlem_f, xlm_f, xml_t, xmle_t, nI_clamp, nI_add, pk_mul, pk_sub, zI_s, zI_k, zI_o, zL_s, zL_k, zL_o, zR_s, zR_k, zR_o, zIL, zIR, zIN, zLI, zLR, zLN, zRI, zRL, zRN, true_and, and_true, not_true_eq_false, not_false_eq_true, true_implies, false_implies, implies_true, forall_const, if_true, if_false, eq_self, false_and, and_false, implies_true, nI_l, ylle_t, ylle_f, xcl_t, xcl_f, gb]
      refine kk g rg (f0.trans ⟨fg.weak (fun x z => by omega), fun k hk => by rw [fg.i (by omega)]⟩) ⟨fun c hc => ?_, hT.keep (fun k hk => ?_) ?_ ?_⟩
      · obtain ⟨c0, c1, c2, c3, c4, c5⟩ := hK c hc
        refine ⟨?_, ?_, ?_, ?_, ?_, fun cn q => ?_⟩
        · show _ = nI (kU (kU R.1.1 a (R.1.1 a + R.1.1 b)) b 0 c)
          rw [fg.i (by omega), ← hg0, zI_o _ _ _ (by omega)]
          by_cases y : c = b
          · rw [y, zI_s, kU_s]
          · rw [zI_k _ _ _ y, kU_o _ _ y]
            by_cases y2 : c = a
            · rw [y2, zI_s, kU_s]
            · rw [zI_k _ _ _ y2, kU_o _ _ y2]; exact c0
        · rw [fg.i (by omega), ← hg0]; simp (disch := omega) only [xle_t, xle_f, xlt_t, xlt_f, xeq_t, xeq_f, xle0_t, xle0_f, xlt0_f, x0lt_t, x0lt_f, x0le_t, xeq0_t, xeq0_f, xin, xem_f, xme_f, xlem_f, xlm_f, xml_t, xmle_t, nI_clamp, nI_add, pk_mul, pk_sub, zI_s, zI_k, zI_o, zL_s, zL_k, zL_o, zR_s, zR_k, zR_o, zIL, zIR, zIN, zLI, zLR, zLN, zRI, zRL, zRN, true_and, and_true, not_true_eq_false, not_false_eq_true, true_implies, false_implies, implies_true, forall_const, if_true, if_false, eq_self, false_and, and_false, implies_true, nI_l, ylle_t, ylle_f, xcl_t, xcl_f, c1]; rfl
        · rw [fg.i (by omega), ← hg0]; simp (disch := omega) only [xle_t, xle_f, xlt_t, xlt_f, xeq_t, xeq_f, xle0_t, xle0_f, xlt0_f, x0lt_t, x0lt_f, x0le_t, xeq0_t, xeq0_f, xin, xem_f, xme_f, xlem_f, xlm_f, xml_t, xmle_t, nI_clamp, nI_add, pk_mul, pk_sub, zI_s, zI_k, zI_o, zL_s, zL_k, zL_o, zR_s, zR_k, zR_o, zIL, zIR, zIN, zLI, zLR, zLN, zRI, zRL, zRN, true_and, and_true, not_true_eq_false, not_false_eq_true, true_implies, false_implies, implies_true, forall_const, if_true, if_false, eq_self, false_and, and_false, implies_true, nI_l, ylle_t, ylle_f, xcl_t, xcl_f, c2]; rfl
        · show _ = (kU R.1.2.2.2.2.1 b 2 c = 0)
          rw [fg.i (by omega), ← hg0]
          by_cases y : c = b
          · rw [y, zI_s, kU_s]
            exact propext ⟨fun z => absurd z (by decide), fun z => absurd z (by decide)⟩
          · rw [zI_k _ _ _ y, kU_o _ _ y, zI_o _ _ _ (by omega), zI_o _ _ _ (by omega)]; exact c3
        · rw [fg.i (by omega), ← hg0]; simp (disch := omega) only [xle_t, xle_f, xlt_t, xlt_f, xeq_t, xeq_f, xle0_t, xle0_f, xlt0_f, x0lt_t, x0lt_f, x0le_t, xeq0_t, xeq0_f, xin, xem_f, xme_f, xlem_f, xlm_f, xml_t, xmle_t, nI_clamp, nI_add, pk_mul, pk_sub, zI_s, zI_k, zI_o, zL_s, zL_k, zL_o, zR_s, zR_k, zR_o, zIL, zIR, zIN, zLI, zLR, zLN, zRI, zRL, zRN, true_and, and_true, not_true_eq_false, not_false_eq_true, true_implies, false_implies, implies_true, forall_const, if_true, if_false, eq_self, false_and, and_false, implies_true, nI_l, ylle_t, ylle_f, xcl_t, xcl_f, c4]; rfl
        · have q' : kU R.1.2.2.2.2.1 b 2 c = 0 := q
          have cb : c ≠ b := fun z => by rw [z, kU_s] at q'; omega
          rw [kU_o _ _ cb] at q'
          show g.1 123 c = nI (kU R.1.2.2.2.1 a (R.1.2.2.2.1 a ++ R.1.2.2.2.1 b) c).length ∧ ∀ i, i < (kU R.1.2.2.2.1 a (R.1.2.2.2.1 a ++ R.1.2.2.2.1 b) c).length → g.1 122 (8 * c + i) = nI ((kU R.1.2.2.2.1 a (R.1.2.2.2.1 a ++ R.1.2.2.2.1 b) c).getD i 0)
          by_cases ca : c = a
          · rw [ca, kU_s, List.length_append, g1]
            refine ⟨by rw [show i = (R.1.2.2.2.1 b).length by omega], fun j hj => g4 j (by omega)⟩
          · rw [kU_o _ _ ca]
            obtain ⟨d1, d2⟩ := c5 cn q'
            refine ⟨by rw [g2 c ca]; exact d1, fun j hj => ?_⟩
            have hl : (R.1.2.2.2.1 c).length ≤ 8 := by
              have h1 := fb_one (rLn R.1) cn
              have h2 := hV.1.2.2.2.2
              have e1 : rLn R.1 c = (R.1.2.2.2.1 c).length := if_pos q'
              omega
            rw [g3 _ (by omega)]; exact d2 j hj
      · rw [fg.i (by omega), ← hg0]; simp (disch := omega) only [xle_t, xle_f, xlt_t, xlt_f, xeq_t, xeq_f, xle0_t, xle0_f, xlt0_f, x0lt_t, x0lt_f, x0le_t, xeq0_t, xeq0_f, xin, xem_f, xme_f, xlem_f, xlm_f, xml_t, xmle_t, nI_clamp, nI_add, pk_mul, pk_sub, zI_s, zI_k, zI_o, zL_s, zL_k, zL_o, zR_s, zR_k, zR_o, zIL, zIR, zIN, zLI, zLR, zLN, zRI, zRL, zRN, true_and, and_true, not_true_eq_false, not_false_eq_true, true_implies, false_implies, implies_true, forall_const, if_true, if_false, eq_self, false_and, and_false, implies_true, nI_l, ylle_t, ylle_f, xcl_t, xcl_f]
      · rw [fg.i (by omega), ← hg0]; simp (disch := omega) only [xle_t, xle_f, xlt_t, xlt_f, xeq_t, xeq_f, xle0_t, xle0_f, xlt0_f, x0lt_t, x0lt_f, x0le_t, xeq0_t, xeq0_f, xin, xem_f, xme_f, xlem_f, xlm_f, xml_t, xmle_t, nI_clamp, nI_add, pk_mul, pk_sub, zI_s, zI_k, zI_o, zL_s, zL_k, zL_o, zR_s, zR_k, zR_o, zIL, zIR, zIN, zLI, zLR, zLN, zRI, zRL, zRN, true_and, and_true, not_true_eq_false, not_false_eq_true, true_implies, false_implies, implies_true, forall_const, if_true, if_false, eq_self, false_and, and_false, implies_true, nI_l, ylle_t, ylle_f, xcl_t, xcl_f]
      · rw [fg.i (by omega), ← hg0]; simp (disch := omega) only [xle_t, xle_f, xlt_t, xlt_f, xeq_t, xeq_f, xle0_t, xle0_f, xlt0_f, x0lt_t, x0lt_f, x0le_t, xeq0_t, xeq0_f, xin, xem_f, xme_f, xlem_f, xlm_f, xml_t, xmle_t, nI_clamp, nI_add, pk_mul, pk_sub, zI_s, zI_k, zI_o, zL_s, zL_k, zL_o, zR_s, zR_k, zR_o, zIL, zIR, zIN, zLI, zLR, zLN, zRI, zRL, zRN, true_and, and_true, not_true_eq_false, not_false_eq_true, true_implies, false_implies, implies_true, forall_const, if_true, if_false, eq_self, false_and, and_false, implies_true, nI_l, ylle_t, ylle_f, xcl_t, xcl_f]
    | succ m ih =>
      intro i hi g rg fg _ g1 g2 g3 g4
      have gb : g.1 123 b = nI (R.1.2.2.2.1 b).length := by rw [g2 b (fun z => hab z.symm)]; exact lb1
      have gx : g.1 122 (8 * b + i) = nI ((R.1.2.2.2.1 b).getD i 0) := by
        rw [g3 _ (by omega)]; exact lb2 i (by omega)
      refine u_X11_doesAct_250 rg ?_
      simp (disch := omega) only [xle_t, xle_f, xlt_t, xlt_f, xeq_t, xeq_f, xle0_t, xle0_f, xlt0_f, x0lt_t, x0lt_f, x0le_t, xeq0_t, xeq0_f, xin, xem_f, xme_f, xlem_f, xlm_f, xml_t, xmle_t, nI_clamp, nI_add, pk_mul, pk_sub, zI_s, zI_k, zI_o, zL_s, zL_k, zL_o, zR_s, zR_k, zR_o, zIL, zIR, zIN, zLI, zLR, zLN, zRI, zRL, zRN, true_and, and_true, not_true_eq_false, not_false_eq_true, true_implies, false_implies, implies_true, forall_const, if_true, if_false, eq_self, false_and, and_false, implies_true, nI_l, ylle_t, ylle_f, xcl_t, xcl_f, gb, g1, gx]
      refine ih (i + 1) (by omega) _ rg (fg.trans ((zF_I _ _ _ (by omega)).trans (zF_I _ _ _ (by omega)))) (fun _ _ => trivial) ?_ (fun c hc => ?_) (fun x hx => ?_) (fun j hj => ?_)
      · rw [zI_s, Nat.add_assoc]
      · rw [zI_k _ _ _ hc, zI_o _ _ _ (by omega)]; exact g2 c hc
      · rw [zI_o _ _ _ (by omega), zI_k _ _ _ (by omega)]; exact g3 x hx
      · rw [zI_o _ _ _ (by omega)]
        by_cases y : j = (R.1.2.2.2.1 a).length + i
        · rw [y, zI_s, List.getD_eq_getElem?_getD, List.getD_eq_getElem?_getD, List.getElem?_append_right (by omega), show (R.1.2.2.2.1 a).length + i - (R.1.2.2.2.1 a).length = i by omega]
        · rw [zI_k _ _ _ (by omega)]; exact g4 j (by omega)
  refine L (R.1.2.2.2.1 b).length 0 (by omega) g0 r0 zF.rfl (fun _ _ => trivial) ?_ (fun c _ => by rw [z123]) (fun x _ => by rw [z122]) (fun j hj => ?_)
  · rw [z123, Nat.add_zero]; exact la1
  · rw [z122, la2 j (by omega), List.getD_eq_getElem?_getD, List.getD_eq_getElem?_getD, List.getElem?_append_left (by omega)]
theorem fb_new {p : Nat → Bool} {k n : Nat} (hk : k < n) (h : p k = false) : fb_ct (kU p k true) n = fb_ct p n + 1 := by
  have h1 := fb_ct_upd p true (i := k) (n := n) hk
  rw [h] at h1
  exact h1
theorem n_actx {P : PL} {n k : Nat} {R : RS} {h : MH} {d : Nat} {Q : Option MV → MH → Prop} (hr : zRf h) (hS : mS n R h) (hV : rV n R) (hn : h.1 112 0 = nI n) (hO : pOK P) (hk : k < P.2.1) (hbe : R.2.1.length < 40) (hli : R.2.2.2.2.1 ≤ 1000) (hva : R.2.2.1 k = false) (hd : 2 ≤ d) (kk : ∀ h', zRf h' → mF h h' → mS n (rAct n k (P.2.2.2.2 k) R) h' → Q none h') : Con mX11_doesAct d 0 0 [.inr (.inr 111), .inl (nI k), .inl (nI (((P.2.2.2.2 k).1 + 6) * 100 + 10 * (P.2.2.2.2 k).2.1 + (P.2.2.2.2 k).2.2))] h Q := by
  obtain ⟨hK, hT⟩ := hS
  have h8 := hV.1.1
  have h40 := hO.2.1
  obtain ⟨b1, b2, b3⟩ := hO.2.2.2.2 k hk
  generalize P.2.2.2.2 k = a at b1 b2 b3 kk
  have e1 : nI ((a.1 + 6) * 100 + 10 * a.2.1 + a.2.2) / nI 100 = nI (a.1 + 6) := by
    rw [pk_div (by omega) (by omega) (by omega)]
    congr 1
    omega
  have e0 : nI ((a.1 + 6) * 100 + 10 * a.2.1 + a.2.2) / nI 10 = nI ((a.1 + 6) * 10 + a.2.1) := by
    rw [pk_div (by omega) (by omega) (by omega)]
    congr 1
    omega
  have e2 : nI ((a.1 + 6) * 10 + a.2.1) - nI ((a.1 + 6) * 10 + a.2.1) / nI 10 * nI 10 = nI a.2.1 := by
    rw [pk_rem (by omega) (by omega) (by omega)]
    congr 1
    omega
  have e3 : nI ((a.1 + 6) * 100 + 10 * a.2.1 + a.2.2) - nI ((a.1 + 6) * 10 + a.2.1) * nI 10 = nI a.2.2 := by
    rw [pk_mul, pk_sub (by omega)]
    congr 1
    omega
  refine u_X11_doesAct hr (by omega) ?_
  simp only [e1, e0, e2, e3]
  generalize nI ((a.1 + 6) * 100 + 10 * a.2.1 + a.2.2) = vv
  have hct : fb_ct R.2.2.1 40 ≤ 40 := fb_ct_le _ _
  have vain : rAct n k a R = rVn k R → ∀ v6 : Int32, v6 = nI 0 → J mX11_doesAct d 0 0 Q 0 0 185 [some (.inr (.inr 111)), some (.inl (nI k)), some (.inl vv), some (.inl (nI (a.1 + 6))), some (.inl (nI a.2.1)), some (.inl (nI a.2.2)), some (.inl v6), none] [] h := by
    intro e v6 z6
    rw [z6]
    obtain ⟨t1, t2, t3, t4, t5, t6, t7⟩ := hT
    refine u_X11_doesAct_185 hr ?_
    simp (disch := omega) only [xle_t, xle_f, xlt_t, xlt_f, xeq_t, xeq_f, xle0_t, xle0_f, xlt0_f, x0lt_t, x0lt_f, x0le_t, xeq0_t, xeq0_f, xin, xem_f, xme_f, xlem_f, xlm_f, xml_t, xmle_t, nI_clamp, nI_add, pk_mul, pk_sub, zI_s, zI_k, zI_o, zL_s, zL_k, zL_o, zR_s, zR_k, zR_o, zIL, zIR, zIN, zLI, zLR, zLN, zRI, zRL, zRN, true_and, and_true, not_true_eq_false, not_false_eq_true, true_implies, false_implies, implies_true, forall_const, if_true, if_false, eq_self, false_and, and_false, implies_true, nI_l, ylle_t, ylle_f, xcl_t, xcl_f, t3]
    rw [e] at kk
    refine kk _ hr ((mF_1 (by omega)).trans (mF_I (by omega))) ⟨hK.keep (fun a ha => ?_), ?_, fun j hj => ?_, ?_, fun j hj => ?_, ?_, ?_, ?_⟩
    · simp (disch := omega) only [xle_t, xle_f, xlt_t, xlt_f, xeq_t, xeq_f, xle0_t, xle0_f, xlt0_f, x0lt_t, x0lt_f, x0le_t, xeq0_t, xeq0_f, xin, xem_f, xme_f, xlem_f, xlm_f, xml_t, xmle_t, nI_clamp, nI_add, pk_mul, pk_sub, zI_s, zI_k, zI_o, zL_s, zL_k, zL_o, zR_s, zR_k, zR_o, zIL, zIR, zIN, zLI, zLR, zLN, zRI, zRL, zRN, true_and, and_true, not_true_eq_false, not_false_eq_true, true_implies, false_implies, implies_true, forall_const, if_true, if_false, eq_self, false_and, and_false, implies_true, nI_l, ylle_t, ylle_f, xcl_t, xcl_f]
    · simp (disch := omega) only [xle_t, xle_f, xlt_t, xlt_f, xeq_t, xeq_f, xle0_t, xle0_f, xlt0_f, x0lt_t, x0lt_f, x0le_t, xeq0_t, xeq0_f, xin, xem_f, xme_f, xlem_f, xlm_f, xml_t, xmle_t, nI_clamp, nI_add, pk_mul, pk_sub, zI_s, zI_k, zI_o, zL_s, zL_k, zL_o, zR_s, zR_k, zR_o, zIL, zIR, zIN, zLI, zLR, zLN, zRI, zRL, zRN, true_and, and_true, not_true_eq_false, not_false_eq_true, true_implies, false_implies, implies_true, forall_const, if_true, if_false, eq_self, false_and, and_false, implies_true, nI_l, ylle_t, ylle_f, xcl_t, xcl_f, t1]; rfl
    · simp (disch := omega) only [xle_t, xle_f, xlt_t, xlt_f, xeq_t, xeq_f, xle0_t, xle0_f, xlt0_f, x0lt_t, x0lt_f, x0le_t, xeq0_t, xeq0_f, xin, xem_f, xme_f, xlem_f, xlm_f, xml_t, xmle_t, nI_clamp, nI_add, pk_mul, pk_sub, zI_s, zI_k, zI_o, zL_s, zL_k, zL_o, zR_s, zR_k, zR_o, zIL, zIR, zIN, zLI, zLR, zLN, zRI, zRL, zRN, true_and, and_true, not_true_eq_false, not_false_eq_true, true_implies, false_implies, implies_true, forall_const, if_true, if_false, eq_self, false_and, and_false, implies_true, nI_l, ylle_t, ylle_f, xcl_t, xcl_f]; exact t2 j hj
    · simp (disch := omega) only [xle_t, xle_f, xlt_t, xlt_f, xeq_t, xeq_f, xle0_t, xle0_f, xlt0_f, x0lt_t, x0lt_f, x0le_t, xeq0_t, xeq0_f, xin, xem_f, xme_f, xlem_f, xlm_f, xml_t, xmle_t, nI_clamp, nI_add, pk_mul, pk_sub, zI_s, zI_k, zI_o, zL_s, zL_k, zL_o, zR_s, zR_k, zR_o, zIL, zIR, zIN, zLI, zLR, zLN, zRI, zRL, zRN, true_and, and_true, not_true_eq_false, not_false_eq_true, true_implies, false_implies, implies_true, forall_const, if_true, if_false, eq_self, false_and, and_false, implies_true, nI_l, ylle_t, ylle_f, xcl_t, xcl_f]
      show _ = nI (fb_ct (kU R.2.2.1 k true) 40)
      rw [fb_new (by omega) hva]
    · show _ = bI (kU R.2.2.1 k true j)
      by_cases y : j = k
      · rw [y, zI_s, kU_s]; rfl
      · rw [zI_k _ _ _ y, kU_o _ _ y, zI_o _ _ _ (by omega)]; exact t4 j hj
    · simp (disch := omega) only [xle_t, xle_f, xlt_t, xlt_f, xeq_t, xeq_f, xle0_t, xle0_f, xlt0_f, x0lt_t, x0lt_f, x0le_t, xeq0_t, xeq0_f, xin, xem_f, xme_f, xlem_f, xlm_f, xml_t, xmle_t, nI_clamp, nI_add, pk_mul, pk_sub, zI_s, zI_k, zI_o, zL_s, zL_k, zL_o, zR_s, zR_k, zR_o, zIL, zIR, zIN, zLI, zLR, zLN, zRI, zRL, zRN, true_and, and_true, not_true_eq_false, not_false_eq_true, true_implies, false_implies, implies_true, forall_const, if_true, if_false, eq_self, false_and, and_false, implies_true, nI_l, ylle_t, ylle_f, xcl_t, xcl_f]; exact t5
    · simp (disch := omega) only [xle_t, xle_f, xlt_t, xlt_f, xeq_t, xeq_f, xle0_t, xle0_f, xlt0_f, x0lt_t, x0lt_f, x0le_t, xeq0_t, xeq0_f, xin, xem_f, xme_f, xlem_f, xlm_f, xml_t, xmle_t, nI_clamp, nI_add, pk_mul, pk_sub, zI_s, zI_k, zI_o, zL_s, zL_k, zL_o, zR_s, zR_k, zR_o, zIL, zIR, zIN, zLI, zLR, zLN, zRI, zRL, zRN, true_and, and_true, not_true_eq_false, not_false_eq_true, true_implies, false_implies, implies_true, forall_const, if_true, if_false, eq_self, false_and, and_false, implies_true, nI_l, ylle_t, ylle_f, xcl_t, xcl_f]; exact t6
    · simp (disch := omega) only [xle_t, xle_f, xlt_t, xlt_f, xeq_t, xeq_f, xle0_t, xle0_f, xlt0_f, x0lt_t, x0lt_f, x0le_t, xeq0_t, xeq0_f, xin, xem_f, xme_f, xlem_f, xlm_f, xml_t, xmle_t, nI_clamp, nI_add, pk_mul, pk_sub, zI_s, zI_k, zI_o, zL_s, zL_k, zL_o, zR_s, zR_k, zR_o, zIL, zIR, zIN, zLI, zLR, zLN, zRI, zRL, zRN, true_and, and_true, not_true_eq_false, not_false_eq_true, true_implies, false_implies, implies_true, forall_const, if_true, if_false, eq_self, false_and, and_false, implies_true, nI_l, ylle_t, ylle_f, xcl_t, xcl_f]; exact t7
  have vainG : a.1 ≠ 4 → a.1 ≠ 3 → ¬ (a.2.1 < n ∧ R.1.2.2.2.2.1 a.2.1 = 0 ∧ (if a.1 = 2 then 0 < R.1.2.1 a.2.1 else R.1.2.1 a.2.1 < 2)) → rAct n k a R = rVn k R := by
    intro z4 z3 z
    unfold rAct
    rw [if_neg z4, if_neg z3, if_neg z]
  have vainJ : a.1 = 3 → ¬ (a.2.1 < n ∧ R.1.2.2.2.2.1 a.2.1 = 0 ∧ a.2.2 < n ∧ R.1.2.2.2.2.1 a.2.2 = 0 ∧ a.2.1 ≠ a.2.2 ∧ R.1.2.1 a.2.1 = 0 ∧ R.1.2.1 a.2.2 = 0) → rAct n k a R = rVn k R := by
    intro z3 z
    unfold rAct
    rw [if_neg (by omega), if_pos z3, if_neg z]
  by_cases c4 : a.1 = 4
  · obtain ⟨t1, t2, t3, t4, t5, t6, t7⟩ := hT
    have e : rAct n k a R = rRing R := by
      unfold rAct
      rw [if_pos c4]
    rw [e] at kk
    simp (disch := omega) only [xle_t, xle_f, xlt_t, xlt_f, xeq_t, xeq_f, xle0_t, xle0_f, xlt0_f, x0lt_t, x0lt_f, x0le_t, xeq0_t, xeq0_f, xin, xem_f, xme_f, xlem_f, xlm_f, xml_t, xmle_t, nI_clamp, nI_add, pk_mul, pk_sub, zI_s, zI_k, zI_o, zL_s, zL_k, zL_o, zR_s, zR_k, zR_o, zIL, zIR, zIN, zLI, zLR, zLN, zRI, zRL, zRN, true_and, and_true, not_true_eq_false, not_false_eq_true, true_implies, false_implies, implies_true, forall_const, if_true, if_false, eq_self, false_and, and_false, implies_true, nI_l, ylle_t, ylle_f, xcl_t, xcl_f, t1, t7]
    refine kk _ hr ((mF_I (by omega)).trans (mF_1 (by omega))) ⟨hK.keep (fun a ha => ?_), ?_, fun j hj => ?_, ?_, fun j hj => ?_, ?_, ?_, ?_⟩
    · simp (disch := omega) only [xle_t, xle_f, xlt_t, xlt_f, xeq_t, xeq_f, xle0_t, xle0_f, xlt0_f, x0lt_t, x0lt_f, x0le_t, xeq0_t, xeq0_f, xin, xem_f, xme_f, xlem_f, xlm_f, xml_t, xmle_t, nI_clamp, nI_add, pk_mul, pk_sub, zI_s, zI_k, zI_o, zL_s, zL_k, zL_o, zR_s, zR_k, zR_o, zIL, zIR, zIN, zLI, zLR, zLN, zRI, zRL, zRN, true_and, and_true, not_true_eq_false, not_false_eq_true, true_implies, false_implies, implies_true, forall_const, if_true, if_false, eq_self, false_and, and_false, implies_true, nI_l, ylle_t, ylle_f, xcl_t, xcl_f]
    · simp (disch := omega) only [xle_t, xle_f, xlt_t, xlt_f, xeq_t, xeq_f, xle0_t, xle0_f, xlt0_f, x0lt_t, x0lt_f, x0le_t, xeq0_t, xeq0_f, xin, xem_f, xme_f, xlem_f, xlm_f, xml_t, xmle_t, nI_clamp, nI_add, pk_mul, pk_sub, zI_s, zI_k, zI_o, zL_s, zL_k, zL_o, zR_s, zR_k, zR_o, zIL, zIR, zIN, zLI, zLR, zLN, zRI, zRL, zRN, true_and, and_true, not_true_eq_false, not_false_eq_true, true_implies, false_implies, implies_true, forall_const, if_true, if_false, eq_self, false_and, and_false, implies_true, nI_l, ylle_t, ylle_f, xcl_t, xcl_f]
      show _ = nI (R.2.1 ++ [R.2.2.2.2.2]).length
      rw [List.length_append]; rfl
    · have hj' : j < (R.2.1 ++ [R.2.2.2.2.2]).length := hj
      rw [List.length_append] at hj'
      show _ = nI ((R.2.1 ++ [R.2.2.2.2.2]).getD j 0)
      rw [zI_o _ _ _ (by omega)]
      by_cases y : j = R.2.1.length
      · rw [y, zI_s, List.getD_eq_getElem?_getD, List.getElem?_append_right (Nat.le_refl _), Nat.sub_self]; rfl
      · have hj2 : j < R.2.1.length := by
          have : j < R.2.1.length + 1 := hj'
          omega
        rw [zI_k _ _ _ y, t2 j hj2, List.getD_eq_getElem?_getD, List.getD_eq_getElem?_getD, List.getElem?_append_left hj2]
    · simp (disch := omega) only [xle_t, xle_f, xlt_t, xlt_f, xeq_t, xeq_f, xle0_t, xle0_f, xlt0_f, x0lt_t, x0lt_f, x0le_t, xeq0_t, xeq0_f, xin, xem_f, xme_f, xlem_f, xlm_f, xml_t, xmle_t, nI_clamp, nI_add, pk_mul, pk_sub, zI_s, zI_k, zI_o, zL_s, zL_k, zL_o, zR_s, zR_k, zR_o, zIL, zIR, zIN, zLI, zLR, zLN, zRI, zRL, zRN, true_and, and_true, not_true_eq_false, not_false_eq_true, true_implies, false_implies, implies_true, forall_const, if_true, if_false, eq_self, false_and, and_false, implies_true, nI_l, ylle_t, ylle_f, xcl_t, xcl_f]; exact t3
    · simp (disch := omega) only [xle_t, xle_f, xlt_t, xlt_f, xeq_t, xeq_f, xle0_t, xle0_f, xlt0_f, x0lt_t, x0lt_f, x0le_t, xeq0_t, xeq0_f, xin, xem_f, xme_f, xlem_f, xlm_f, xml_t, xmle_t, nI_clamp, nI_add, pk_mul, pk_sub, zI_s, zI_k, zI_o, zL_s, zL_k, zL_o, zR_s, zR_k, zR_o, zIL, zIR, zIN, zLI, zLR, zLN, zRI, zRL, zRN, true_and, and_true, not_true_eq_false, not_false_eq_true, true_implies, false_implies, implies_true, forall_const, if_true, if_false, eq_self, false_and, and_false, implies_true, nI_l, ylle_t, ylle_f, xcl_t, xcl_f]; exact t4 j hj
    · simp (disch := omega) only [xle_t, xle_f, xlt_t, xlt_f, xeq_t, xeq_f, xle0_t, xle0_f, xlt0_f, x0lt_t, x0lt_f, x0le_t, xeq0_t, xeq0_f, xin, xem_f, xme_f, xlem_f, xlm_f, xml_t, xmle_t, nI_clamp, nI_add, pk_mul, pk_sub, zI_s, zI_k, zI_o, zL_s, zL_k, zL_o, zR_s, zR_k, zR_o, zIL, zIR, zIN, zLI, zLR, zLN, zRI, zRL, zRN, true_and, and_true, not_true_eq_false, not_false_eq_true, true_implies, false_implies, implies_true, forall_const, if_true, if_false, eq_self, false_and, and_false, implies_true, nI_l, ylle_t, ylle_f, xcl_t, xcl_f]; exact t5
    · simp (disch := omega) only [xle_t, xle_f, xlt_t, xlt_f, xeq_t, xeq_f, xle0_t, xle0_f, xlt0_f, x0lt_t, x0lt_f, x0le_t, xeq0_t, xeq0_f, xin, xem_f, xme_f, xlem_f, xlm_f, xml_t, xmle_t, nI_clamp, nI_add, pk_mul, pk_sub, zI_s, zI_k, zI_o, zL_s, zL_k, zL_o, zR_s, zR_k, zR_o, zIL, zIR, zIN, zLI, zLR, zLN, zRI, zRL, zRN, true_and, and_true, not_true_eq_false, not_false_eq_true, true_implies, false_implies, implies_true, forall_const, if_true, if_false, eq_self, false_and, and_false, implies_true, nI_l, ylle_t, ylle_f, xcl_t, xcl_f]; exact t6
    · simp (disch := omega) only [xle_t, xle_f, xlt_t, xlt_f, xeq_t, xeq_f, xle0_t, xle0_f, xlt0_f, x0lt_t, x0lt_f, x0le_t, xeq0_t, xeq0_f, xin, xem_f, xme_f, xlem_f, xlm_f, xml_t, xmle_t, nI_clamp, nI_add, pk_mul, pk_sub, zI_s, zI_k, zI_o, zL_s, zL_k, zL_o, zR_s, zR_k, zR_o, zIL, zIR, zIN, zLI, zLR, zLN, zRI, zRL, zRN, true_and, and_true, not_true_eq_false, not_false_eq_true, true_implies, false_implies, implies_true, forall_const, if_true, if_false, eq_self, false_and, and_false, implies_true, nI_l, ylle_t, ylle_f, xcl_t, xcl_f]; exact t7
  have n10 : (nI (a.1 + 6) = nI 10) = False := xeq_f (by omega) (by omega) (by omega)
  by_cases an : a.2.1 < n
  · obtain ⟨c0, c1, c2, c3, _⟩ := hK a.2.1 (by omega)
    have fa := (hV.1.2.2.1 _ an).1
    have ra := hV.re _ an
    by_cases sa : R.1.2.2.2.2.1 a.2.1 = 0
    · by_cases j3 : a.1 = 3
      · by_cases bn : a.2.2 < n
        · obtain ⟨d0, d1, d2, d3, _⟩ := hK a.2.2 (by omega)
          have fb := (hV.1.2.2.1 _ bn).1
          have rb := hV.re _ bn
          by_cases sb : R.1.2.2.2.2.1 a.2.2 = 0
          · by_cases ab : a.2.1 = a.2.2
            · simp (disch := omega) only [xle_t, xle_f, xlt_t, xlt_f, xeq_t, xeq_f, xle0_t, xle0_f, xlt0_f, x0lt_t, x0lt_f, x0le_t, xeq0_t, xeq0_f, xin, xem_f, xme_f, xlem_f, xlm_f, xml_t, xmle_t, nI_clamp, nI_add, pk_mul, pk_sub, zI_s, zI_k, zI_o, zL_s, zL_k, zL_o, zR_s, zR_k, zR_o, zIL, zIR, zIN, zLI, zLR, zLN, zRI, zRL, zRN, true_and, and_true, not_true_eq_false, not_false_eq_true, true_implies, false_implies, implies_true, forall_const, if_true, if_false, eq_self, false_and, and_false, implies_true, nI_l, ylle_t, ylle_f, xcl_t, xcl_f, n10, hn, c3, sa, d3, sb, j3]
              refine u_X11_doesAct_137 ?_
              have := vain (vainJ j3 (fun z => z.2.2.2.2.1 ab)) (nI 0) rfl
              rw [j3] at this
              exact this
            · by_cases f1 : R.1.2.1 a.2.1 = 0
              · by_cases f2 : R.1.2.1 a.2.2 = 0
                · simp (disch := omega) only [xle_t, xle_f, xlt_t, xlt_f, xeq_t, xeq_f, xle0_t, xle0_f, xlt0_f, x0lt_t, x0lt_f, x0le_t, xeq0_t, xeq0_f, xin, xem_f, xme_f, xlem_f, xlm_f, xml_t, xmle_t, nI_clamp, nI_add, pk_mul, pk_sub, zI_s, zI_k, zI_o, zL_s, zL_k, zL_o, zR_s, zR_k, zR_o, zIL, zIR, zIN, zLI, zLR, zLN, zRI, zRL, zRN, true_and, and_true, not_true_eq_false, not_false_eq_true, true_implies, false_implies, implies_true, forall_const, if_true, if_false, eq_self, false_and, and_false, implies_true, nI_l, ylle_t, ylle_f, xcl_t, xcl_f, n10, hn, c3, sa, d3, sb, j3, c1, d1]
                  refine u_X11_doesAct_185 hr ?_
                  simp (disch := omega) only [xle_t, xle_f, xlt_t, xlt_f, xeq_t, xeq_f, xle0_t, xle0_f, xlt0_f, x0lt_t, x0lt_f, x0le_t, xeq0_t, xeq0_f, xin, xem_f, xme_f, xlem_f, xlm_f, xml_t, xmle_t, nI_clamp, nI_add, pk_mul, pk_sub, zI_s, zI_k, zI_o, zL_s, zL_k, zL_o, zR_s, zR_k, zR_o, zIL, zIR, zIN, zLI, zLR, zLN, zRI, zRL, zRN, true_and, and_true, not_true_eq_false, not_false_eq_true, true_implies, false_implies, implies_true, forall_const, if_true, if_false, eq_self, false_and, and_false, implies_true, nI_l, ylle_t, ylle_f, xcl_t, xcl_f, c0, d0]
                  refine n_join hr ⟨hK, hT⟩ hV an sa bn sb ab (fun h' r' f' s' => kk h' r' f' ?_)
                  have e : rAct n k a R = rJoin R a.2.1 a.2.2 := by
                    unfold rAct
                    rw [if_neg c4, if_pos j3, if_pos ⟨an, sa, bn, sb, ab, f1, f2⟩]
                  rw [e]; exact s'
                · simp (disch := omega) only [xle_t, xle_f, xlt_t, xlt_f, xeq_t, xeq_f, xle0_t, xle0_f, xlt0_f, x0lt_t, x0lt_f, x0le_t, xeq0_t, xeq0_f, xin, xem_f, xme_f, xlem_f, xlm_f, xml_t, xmle_t, nI_clamp, nI_add, pk_mul, pk_sub, zI_s, zI_k, zI_o, zL_s, zL_k, zL_o, zR_s, zR_k, zR_o, zIL, zIR, zIN, zLI, zLR, zLN, zRI, zRL, zRN, true_and, and_true, not_true_eq_false, not_false_eq_true, true_implies, false_implies, implies_true, forall_const, if_true, if_false, eq_self, false_and, and_false, implies_true, nI_l, ylle_t, ylle_f, xcl_t, xcl_f, n10, hn, c3, sa, d3, sb, j3, c1, d1]
                  refine u_X11_doesAct_137 ?_
                  have := vain (vainJ j3 (fun z => f2 z.2.2.2.2.2.2)) (nI 0) rfl
                  rw [j3] at this
                  exact this
              · simp (disch := omega) only [xle_t, xle_f, xlt_t, xlt_f, xeq_t, xeq_f, xle0_t, xle0_f, xlt0_f, x0lt_t, x0lt_f, x0le_t, xeq0_t, xeq0_f, xin, xem_f, xme_f, xlem_f, xlm_f, xml_t, xmle_t, nI_clamp, nI_add, pk_mul, pk_sub, zI_s, zI_k, zI_o, zL_s, zL_k, zL_o, zR_s, zR_k, zR_o, zIL, zIR, zIN, zLI, zLR, zLN, zRI, zRL, zRN, true_and, and_true, not_true_eq_false, not_false_eq_true, true_implies, false_implies, implies_true, forall_const, if_true, if_false, eq_self, false_and, and_false, implies_true, nI_l, ylle_t, ylle_f, xcl_t, xcl_f, n10, hn, c3, sa, d3, sb, j3, c1, d1]
                refine u_X11_doesAct_137 ?_
                have := vain (vainJ j3 (fun z => f1 z.2.2.2.2.2.1)) (nI 0) rfl
                rw [j3] at this
                exact this
          · simp (disch := omega) only [xle_t, xle_f, xlt_t, xlt_f, xeq_t, xeq_f, xle0_t, xle0_f, xlt0_f, x0lt_t, x0lt_f, x0le_t, xeq0_t, xeq0_f, xin, xem_f, xme_f, xlem_f, xlm_f, xml_t, xmle_t, nI_clamp, nI_add, pk_mul, pk_sub, zI_s, zI_k, zI_o, zL_s, zL_k, zL_o, zR_s, zR_k, zR_o, zIL, zIR, zIN, zLI, zLR, zLN, zRI, zRL, zRN, true_and, and_true, not_true_eq_false, not_false_eq_true, true_implies, false_implies, implies_true, forall_const, if_true, if_false, eq_self, false_and, and_false, implies_true, nI_l, ylle_t, ylle_f, xcl_t, xcl_f, n10, hn, c3, sa, d3, sb, j3]
            refine u_X11_doesAct_137 ?_
            have := vain (vainJ j3 (fun z => sb z.2.2.2.1)) (nI 0) rfl
            rw [j3] at this
            exact this
        · simp (disch := omega) only [xle_t, xle_f, xlt_t, xlt_f, xeq_t, xeq_f, xle0_t, xle0_f, xlt0_f, x0lt_t, x0lt_f, x0le_t, xeq0_t, xeq0_f, xin, xem_f, xme_f, xlem_f, xlm_f, xml_t, xmle_t, nI_clamp, nI_add, pk_mul, pk_sub, zI_s, zI_k, zI_o, zL_s, zL_k, zL_o, zR_s, zR_k, zR_o, zIL, zIR, zIN, zLI, zLR, zLN, zRI, zRL, zRN, true_and, and_true, not_true_eq_false, not_false_eq_true, true_implies, false_implies, implies_true, forall_const, if_true, if_false, eq_self, false_and, and_false, implies_true, nI_l, ylle_t, ylle_f, xcl_t, xcl_f, n10, hn, c3, sa, j3]
          refine u_X11_doesAct_137 ?_
          have := vain (vainJ j3 (fun z => bn z.2.2.1)) (nI 0) rfl
          rw [j3] at this
          exact this
      · have j9 : (nI (a.1 + 6) = nI 9) = False := xeq_f (by omega) (by omega) (by omega)
        have c1' : (0 : Int32) ≤ nI (R.1.2.1 a.2.1) := nI_pos' (by omega)
        have fin : (if a.1 = 2 then 0 < R.1.2.1 a.2.1 else R.1.2.1 a.2.1 < 2) → J mX11_doesAct d 0 0 Q 0 0 185 [some (.inr (.inr 111)), some (.inl (nI k)), some (.inl vv), some (.inl (nI (a.1 + 6))), some (.inl (nI a.2.1)), some (.inl (nI a.2.2)), some (.inl (nI 1)), none] [] h := by
          intro q
          have e : rAct n k a R = rGive R a.2.1 (if a.1 = 2 then 0 else if a.1 = 1 then 2 else R.1.2.1 a.2.1 + 1) := by
            unfold rAct
            rw [if_neg c4, if_neg j3, if_pos ⟨an, sa, q⟩]
          rw [e] at kk
          obtain ⟨t1, t2, t3, t4, t5, t6, t7⟩ := hT
          have G : ∀ v l : Nat, v = (if a.1 = 2 then 0 else if a.1 = 1 then 2 else R.1.2.1 a.2.1 + 1) → l = v - R.1.2.1 a.2.1 → Q none (zsI (zsI h 111 27 (nI (R.2.2.2.2.1 + l))) 118 a.2.1 (nI v)) := by
            intro v l hv hl
            rw [← hv] at kk
            refine kk _ hr ((mF_1 (by omega)).trans (mF_I (by omega))) ⟨fun c hc => ?_, ?_, fun j hj => ?_, ?_, fun j hj => ?_, ?_, ?_, ?_⟩
            · obtain ⟨y0, y1, y2, y3, y4, y5⟩ := hK c hc
              refine ⟨?_, ?_, ?_, ?_, ?_, ?_⟩
              · simp (disch := omega) only [xle_t, xle_f, xlt_t, xlt_f, xeq_t, xeq_f, xle0_t, xle0_f, xlt0_f, x0lt_t, x0lt_f, x0le_t, xeq0_t, xeq0_f, xin, xem_f, xme_f, xlem_f, xlm_f, xml_t, xmle_t, nI_clamp, nI_add, pk_mul, pk_sub, zI_s, zI_k, zI_o, zL_s, zL_k, zL_o, zR_s, zR_k, zR_o, zIL, zIR, zIN, zLI, zLR, zLN, zRI, zRL, zRN, true_and, and_true, not_true_eq_false, not_false_eq_true, true_implies, false_implies, implies_true, forall_const, if_true, if_false, eq_self, false_and, and_false, implies_true, nI_l, ylle_t, ylle_f, xcl_t, xcl_f]; exact y0
              · show _ = nI (kU R.1.2.1 a.2.1 v c)
                by_cases y : c = a.2.1
                · rw [y, zI_s, kU_s]
                · rw [zI_k _ _ _ y, kU_o _ _ y, zI_o _ _ _ (by omega)]; exact y1
              · simp (disch := omega) only [xle_t, xle_f, xlt_t, xlt_f, xeq_t, xeq_f, xle0_t, xle0_f, xlt0_f, x0lt_t, x0lt_f, x0le_t, xeq0_t, xeq0_f, xin, xem_f, xme_f, xlem_f, xlm_f, xml_t, xmle_t, nI_clamp, nI_add, pk_mul, pk_sub, zI_s, zI_k, zI_o, zL_s, zL_k, zL_o, zR_s, zR_k, zR_o, zIL, zIR, zIN, zLI, zLR, zLN, zRI, zRL, zRN, true_and, and_true, not_true_eq_false, not_false_eq_true, true_implies, false_implies, implies_true, forall_const, if_true, if_false, eq_self, false_and, and_false, implies_true, nI_l, ylle_t, ylle_f, xcl_t, xcl_f]; exact y2
              · rw [zI_o _ _ _ (by omega), zI_o _ _ _ (by omega)]; exact y3
              · simp (disch := omega) only [xle_t, xle_f, xlt_t, xlt_f, xeq_t, xeq_f, xle0_t, xle0_f, xlt0_f, x0lt_t, x0lt_f, x0le_t, xeq0_t, xeq0_f, xin, xem_f, xme_f, xlem_f, xlm_f, xml_t, xmle_t, nI_clamp, nI_add, pk_mul, pk_sub, zI_s, zI_k, zI_o, zL_s, zL_k, zL_o, zR_s, zR_k, zR_o, zIL, zIR, zIN, zLI, zLR, zLN, zRI, zRL, zRN, true_and, and_true, not_true_eq_false, not_false_eq_true, true_implies, false_implies, implies_true, forall_const, if_true, if_false, eq_self, false_and, and_false, implies_true, nI_l, ylle_t, ylle_f, xcl_t, xcl_f]; exact y4
              · rw [zI_o _ _ _ (by omega), zI_o _ _ _ (by omega), zI_o _ _ _ (by omega), zI_o _ _ _ (by omega)]; exact y5
            · simp (disch := omega) only [xle_t, xle_f, xlt_t, xlt_f, xeq_t, xeq_f, xle0_t, xle0_f, xlt0_f, x0lt_t, x0lt_f, x0le_t, xeq0_t, xeq0_f, xin, xem_f, xme_f, xlem_f, xlm_f, xml_t, xmle_t, nI_clamp, nI_add, pk_mul, pk_sub, zI_s, zI_k, zI_o, zL_s, zL_k, zL_o, zR_s, zR_k, zR_o, zIL, zIR, zIN, zLI, zLR, zLN, zRI, zRL, zRN, true_and, and_true, not_true_eq_false, not_false_eq_true, true_implies, false_implies, implies_true, forall_const, if_true, if_false, eq_self, false_and, and_false, implies_true, nI_l, ylle_t, ylle_f, xcl_t, xcl_f]; exact t1
            · simp (disch := omega) only [xle_t, xle_f, xlt_t, xlt_f, xeq_t, xeq_f, xle0_t, xle0_f, xlt0_f, x0lt_t, x0lt_f, x0le_t, xeq0_t, xeq0_f, xin, xem_f, xme_f, xlem_f, xlm_f, xml_t, xmle_t, nI_clamp, nI_add, pk_mul, pk_sub, zI_s, zI_k, zI_o, zL_s, zL_k, zL_o, zR_s, zR_k, zR_o, zIL, zIR, zIN, zLI, zLR, zLN, zRI, zRL, zRN, true_and, and_true, not_true_eq_false, not_false_eq_true, true_implies, false_implies, implies_true, forall_const, if_true, if_false, eq_self, false_and, and_false, implies_true, nI_l, ylle_t, ylle_f, xcl_t, xcl_f]; exact t2 j hj
            · simp (disch := omega) only [xle_t, xle_f, xlt_t, xlt_f, xeq_t, xeq_f, xle0_t, xle0_f, xlt0_f, x0lt_t, x0lt_f, x0le_t, xeq0_t, xeq0_f, xin, xem_f, xme_f, xlem_f, xlm_f, xml_t, xmle_t, nI_clamp, nI_add, pk_mul, pk_sub, zI_s, zI_k, zI_o, zL_s, zL_k, zL_o, zR_s, zR_k, zR_o, zIL, zIR, zIN, zLI, zLR, zLN, zRI, zRL, zRN, true_and, and_true, not_true_eq_false, not_false_eq_true, true_implies, false_implies, implies_true, forall_const, if_true, if_false, eq_self, false_and, and_false, implies_true, nI_l, ylle_t, ylle_f, xcl_t, xcl_f]; exact t3
            · simp (disch := omega) only [xle_t, xle_f, xlt_t, xlt_f, xeq_t, xeq_f, xle0_t, xle0_f, xlt0_f, x0lt_t, x0lt_f, x0le_t, xeq0_t, xeq0_f, xin, xem_f, xme_f, xlem_f, xlm_f, xml_t, xmle_t, nI_clamp, nI_add, pk_mul, pk_sub, zI_s, zI_k, zI_o, zL_s, zL_k, zL_o, zR_s, zR_k, zR_o, zIL, zIR, zIN, zLI, zLR, zLN, zRI, zRL, zRN, true_and, and_true, not_true_eq_false, not_false_eq_true, true_implies, false_implies, implies_true, forall_const, if_true, if_false, eq_self, false_and, and_false, implies_true, nI_l, ylle_t, ylle_f, xcl_t, xcl_f]; exact t4 j hj
            · simp (disch := omega) only [xle_t, xle_f, xlt_t, xlt_f, xeq_t, xeq_f, xle0_t, xle0_f, xlt0_f, x0lt_t, x0lt_f, x0le_t, xeq0_t, xeq0_f, xin, xem_f, xme_f, xlem_f, xlm_f, xml_t, xmle_t, nI_clamp, nI_add, pk_mul, pk_sub, zI_s, zI_k, zI_o, zL_s, zL_k, zL_o, zR_s, zR_k, zR_o, zIL, zIR, zIN, zLI, zLR, zLN, zRI, zRL, zRN, true_and, and_true, not_true_eq_false, not_false_eq_true, true_implies, false_implies, implies_true, forall_const, if_true, if_false, eq_self, false_and, and_false, implies_true, nI_l, ylle_t, ylle_f, xcl_t, xcl_f]; exact t5
            · rw [zI_o _ _ _ (by omega), zI_s, hl]; rfl
            · simp (disch := omega) only [xle_t, xle_f, xlt_t, xlt_f, xeq_t, xeq_f, xle0_t, xle0_f, xlt0_f, x0lt_t, x0lt_f, x0le_t, xeq0_t, xeq0_f, xin, xem_f, xme_f, xlem_f, xlm_f, xml_t, xmle_t, nI_clamp, nI_add, pk_mul, pk_sub, zI_s, zI_k, zI_o, zL_s, zL_k, zL_o, zR_s, zR_k, zR_o, zIL, zIR, zIN, zLI, zLR, zLN, zRI, zRL, zRN, true_and, and_true, not_true_eq_false, not_false_eq_true, true_implies, false_implies, implies_true, forall_const, if_true, if_false, eq_self, false_and, and_false, implies_true, nI_l, ylle_t, ylle_f, xcl_t, xcl_f]; exact t7
          refine u_X11_doesAct_185 hr ?_
          by_cases a2 : a.1 = 2
          · rw [if_pos a2] at q
            simp (disch := omega) only [xle_t, xle_f, xlt_t, xlt_f, xeq_t, xeq_f, xle0_t, xle0_f, xlt0_f, x0lt_t, x0lt_f, x0le_t, xeq0_t, xeq0_f, xin, xem_f, xme_f, xlem_f, xlm_f, xml_t, xmle_t, nI_clamp, nI_add, pk_mul, pk_sub, zI_s, zI_k, zI_o, zL_s, zL_k, zL_o, zR_s, zR_k, zR_o, zIL, zIR, zIN, zLI, zLR, zLN, zRI, zRL, zRN, true_and, and_true, not_true_eq_false, not_false_eq_true, true_implies, false_implies, implies_true, forall_const, if_true, if_false, eq_self, false_and, and_false, implies_true, nI_l, ylle_t, ylle_f, xcl_t, xcl_f, j9, c1, t6]
            exact G 0 0 (by rw [if_pos a2]) (by omega)
          · rw [if_neg a2] at q
            by_cases a1 : a.1 = 1
            · simp (disch := omega) only [xle_t, xle_f, xlt_t, xlt_f, xeq_t, xeq_f, xle0_t, xle0_f, xlt0_f, x0lt_t, x0lt_f, x0le_t, xeq0_t, xeq0_f, xin, xem_f, xme_f, xlem_f, xlm_f, xml_t, xmle_t, nI_clamp, nI_add, pk_mul, pk_sub, zI_s, zI_k, zI_o, zL_s, zL_k, zL_o, zR_s, zR_k, zR_o, zIL, zIR, zIN, zLI, zLR, zLN, zRI, zRL, zRN, true_and, and_true, not_true_eq_false, not_false_eq_true, true_implies, false_implies, implies_true, forall_const, if_true, if_false, eq_self, false_and, and_false, implies_true, nI_l, ylle_t, ylle_f, xcl_t, xcl_f, j9, c1, t6]
              exact G 2 (2 - R.1.2.1 a.2.1) (by rw [if_neg a2, if_pos a1]) rfl
            · simp (disch := omega) only [xle_t, xle_f, xlt_t, xlt_f, xeq_t, xeq_f, xle0_t, xle0_f, xlt0_f, x0lt_t, x0lt_f, x0le_t, xeq0_t, xeq0_f, xin, xem_f, xme_f, xlem_f, xlm_f, xml_t, xmle_t, nI_clamp, nI_add, pk_mul, pk_sub, zI_s, zI_k, zI_o, zL_s, zL_k, zL_o, zR_s, zR_k, zR_o, zIL, zIR, zIN, zLI, zLR, zLN, zRI, zRL, zRN, true_and, and_true, not_true_eq_false, not_false_eq_true, true_implies, false_implies, implies_true, forall_const, if_true, if_false, eq_self, false_and, and_false, implies_true, nI_l, ylle_t, ylle_f, xcl_t, xcl_f, j9, c1, t6]
              exact G (R.1.2.1 a.2.1 + 1) (R.1.2.1 a.2.1 + 1 - R.1.2.1 a.2.1) (by rw [if_neg a2, if_neg a1]) rfl
        by_cases a2 : a.1 = 2
        · rw [if_pos a2] at fin
          by_cases f2 : 0 < R.1.2.1 a.2.1
          · simp (disch := omega) only [xle_t, xle_f, xlt_t, xlt_f, xeq_t, xeq_f, xle0_t, xle0_f, xlt0_f, x0lt_t, x0lt_f, x0le_t, xeq0_t, xeq0_f, xin, xem_f, xme_f, xlem_f, xlm_f, xml_t, xmle_t, nI_clamp, nI_add, pk_mul, pk_sub, zI_s, zI_k, zI_o, zL_s, zL_k, zL_o, zR_s, zR_k, zR_o, zIL, zIR, zIN, zLI, zLR, zLN, zRI, zRL, zRN, true_and, and_true, not_true_eq_false, not_false_eq_true, true_implies, false_implies, implies_true, forall_const, if_true, if_false, eq_self, false_and, and_false, implies_true, nI_l, ylle_t, ylle_f, xcl_t, xcl_f, n10, j9, hn, c3, sa, c1]
            exact u_X11_doesAct_178 (fin f2)
          · simp (disch := omega) only [xle_t, xle_f, xlt_t, xlt_f, xeq_t, xeq_f, xle0_t, xle0_f, xlt0_f, x0lt_t, x0lt_f, x0le_t, xeq0_t, xeq0_f, xin, xem_f, xme_f, xlem_f, xlm_f, xml_t, xmle_t, nI_clamp, nI_add, pk_mul, pk_sub, zI_s, zI_k, zI_o, zL_s, zL_k, zL_o, zR_s, zR_k, zR_o, zIL, zIR, zIN, zLI, zLR, zLN, zRI, zRL, zRN, true_and, and_true, not_true_eq_false, not_false_eq_true, true_implies, false_implies, implies_true, forall_const, if_true, if_false, eq_self, false_and, and_false, implies_true, nI_l, ylle_t, ylle_f, xcl_t, xcl_f, n10, j9, hn, c3, sa, c1]
            refine u_X11_doesAct_182 (vain (vainG c4 j3 (fun z => ?_)) (nI 0) rfl)
            have := z.2.2
            rw [if_pos a2] at this
            omega
        · rw [if_neg a2] at fin
          by_cases f2 : R.1.2.1 a.2.1 < 2
          · simp (disch := omega) only [xle_t, xle_f, xlt_t, xlt_f, xeq_t, xeq_f, xle0_t, xle0_f, xlt0_f, x0lt_t, x0lt_f, x0le_t, xeq0_t, xeq0_f, xin, xem_f, xme_f, xlem_f, xlm_f, xml_t, xmle_t, nI_clamp, nI_add, pk_mul, pk_sub, zI_s, zI_k, zI_o, zL_s, zL_k, zL_o, zR_s, zR_k, zR_o, zIL, zIR, zIN, zLI, zLR, zLN, zRI, zRL, zRN, true_and, and_true, not_true_eq_false, not_false_eq_true, true_implies, false_implies, implies_true, forall_const, if_true, if_false, eq_self, false_and, and_false, implies_true, nI_l, ylle_t, ylle_f, xcl_t, xcl_f, n10, j9, hn, c3, sa, c1]
            exact u_X11_doesAct_178 (fin f2)
          · simp (disch := omega) only [xle_t, xle_f, xlt_t, xlt_f, xeq_t, xeq_f, xle0_t, xle0_f, xlt0_f, x0lt_t, x0lt_f, x0le_t, xeq0_t, xeq0_f, xin, xem_f, xme_f, xlem_f, xlm_f, xml_t, xmle_t, nI_clamp, nI_add, pk_mul, pk_sub, zI_s, zI_k, zI_o, zL_s, zL_k, zL_o, zR_s, zR_k, zR_o, zIL, zIR, zIN, zLI, zLR, zLN, zRI, zRL, zRN, true_and, and_true, not_true_eq_false, not_false_eq_true, true_implies, false_implies, implies_true, forall_const, if_true, if_false, eq_self, false_and, and_false, implies_true, nI_l, ylle_t, ylle_f, xcl_t, xcl_f, n10, j9, hn, c3, sa, c1]
            refine u_X11_doesAct_182 (vain (vainG c4 j3 (fun z => ?_)) (nI 0) rfl)
            have := z.2.2
            rw [if_neg a2] at this
            omega
    · simp (disch := omega) only [xle_t, xle_f, xlt_t, xlt_f, xeq_t, xeq_f, xle0_t, xle0_f, xlt0_f, x0lt_t, x0lt_f, x0le_t, xeq0_t, xeq0_f, xin, xem_f, xme_f, xlem_f, xlm_f, xml_t, xmle_t, nI_clamp, nI_add, pk_mul, pk_sub, zI_s, zI_k, zI_o, zL_s, zL_k, zL_o, zR_s, zR_k, zR_o, zIL, zIR, zIN, zLI, zLR, zLN, zRI, zRL, zRN, true_and, and_true, not_true_eq_false, not_false_eq_true, true_implies, false_implies, implies_true, forall_const, if_true, if_false, eq_self, false_and, and_false, implies_true, nI_l, ylle_t, ylle_f, xcl_t, xcl_f, n10, hn, c3, sa]
      refine u_X11_doesAct_73 ?_
      by_cases j3 : a.1 = 3
      · simp (disch := omega) only [xle_t, xle_f, xlt_t, xlt_f, xeq_t, xeq_f, xle0_t, xle0_f, xlt0_f, x0lt_t, x0lt_f, x0le_t, xeq0_t, xeq0_f, xin, xem_f, xme_f, xlem_f, xlm_f, xml_t, xmle_t, nI_clamp, nI_add, pk_mul, pk_sub, zI_s, zI_k, zI_o, zL_s, zL_k, zL_o, zR_s, zR_k, zR_o, zIL, zIR, zIN, zLI, zLR, zLN, zRI, zRL, zRN, true_and, and_true, not_true_eq_false, not_false_eq_true, true_implies, false_implies, implies_true, forall_const, if_true, if_false, eq_self, false_and, and_false, implies_true, nI_l, ylle_t, ylle_f, xcl_t, xcl_f]
        exact u_X11_doesAct_137 (vain (vainJ j3 (fun z => sa z.2.1)) (nI 0) rfl)
      · simp (disch := omega) only [xle_t, xle_f, xlt_t, xlt_f, xeq_t, xeq_f, xle0_t, xle0_f, xlt0_f, x0lt_t, x0lt_f, x0le_t, xeq0_t, xeq0_f, xin, xem_f, xme_f, xlem_f, xlm_f, xml_t, xmle_t, nI_clamp, nI_add, pk_mul, pk_sub, zI_s, zI_k, zI_o, zL_s, zL_k, zL_o, zR_s, zR_k, zR_o, zIL, zIR, zIN, zLI, zLR, zLN, zRI, zRL, zRN, true_and, and_true, not_true_eq_false, not_false_eq_true, true_implies, false_implies, implies_true, forall_const, if_true, if_false, eq_self, false_and, and_false, implies_true, nI_l, ylle_t, ylle_f, xcl_t, xcl_f]
        exact u_X11_doesAct_182 (vain (vainG c4 j3 (fun z => sa z.2.1)) (nI 0) rfl)
  · simp (disch := omega) only [xle_t, xle_f, xlt_t, xlt_f, xeq_t, xeq_f, xle0_t, xle0_f, xlt0_f, x0lt_t, x0lt_f, x0le_t, xeq0_t, xeq0_f, xin, xem_f, xme_f, xlem_f, xlm_f, xml_t, xmle_t, nI_clamp, nI_add, pk_mul, pk_sub, zI_s, zI_k, zI_o, zL_s, zL_k, zL_o, zR_s, zR_k, zR_o, zIL, zIR, zIN, zLI, zLR, zLN, zRI, zRL, zRN, true_and, and_true, not_true_eq_false, not_false_eq_true, true_implies, false_implies, implies_true, forall_const, if_true, if_false, eq_self, false_and, and_false, implies_true, nI_l, ylle_t, ylle_f, xcl_t, xcl_f, n10, hn]
    refine u_X11_doesAct_73 ?_
    by_cases j3 : a.1 = 3
    · simp (disch := omega) only [xle_t, xle_f, xlt_t, xlt_f, xeq_t, xeq_f, xle0_t, xle0_f, xlt0_f, x0lt_t, x0lt_f, x0le_t, xeq0_t, xeq0_f, xin, xem_f, xme_f, xlem_f, xlm_f, xml_t, xmle_t, nI_clamp, nI_add, pk_mul, pk_sub, zI_s, zI_k, zI_o, zL_s, zL_k, zL_o, zR_s, zR_k, zR_o, zIL, zIR, zIN, zLI, zLR, zLN, zRI, zRL, zRN, true_and, and_true, not_true_eq_false, not_false_eq_true, true_implies, false_implies, implies_true, forall_const, if_true, if_false, eq_self, false_and, and_false, implies_true, nI_l, ylle_t, ylle_f, xcl_t, xcl_f]
      exact u_X11_doesAct_137 (vain (vainJ j3 (fun z => an z.1)) (nI 0) rfl)
    · simp (disch := omega) only [xle_t, xle_f, xlt_t, xlt_f, xeq_t, xeq_f, xle0_t, xle0_f, xlt0_f, x0lt_t, x0lt_f, x0le_t, xeq0_t, xeq0_f, xin, xem_f, xme_f, xlem_f, xlm_f, xml_t, xmle_t, nI_clamp, nI_add, pk_mul, pk_sub, zI_s, zI_k, zI_o, zL_s, zL_k, zL_o, zR_s, zR_k, zR_o, zIL, zIR, zIN, zLI, zLR, zLN, zRI, zRL, zRN, true_and, and_true, not_true_eq_false, not_false_eq_true, true_implies, false_implies, implies_true, forall_const, if_true, if_false, eq_self, false_and, and_false, implies_true, nI_l, ylle_t, ylle_f, xcl_t, xcl_f]
      exact u_X11_doesAct_182 (vain (vainG c4 j3 (fun z => an z.1)) (nI 0) rfl)
