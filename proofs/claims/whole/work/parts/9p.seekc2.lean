/-! ===== ways in the class: one time sought: arriveSeeking, arrive ===== -/
theorem sOv_0 {g : Nat} {s : SK} (h : sOv g s = false) (h1 : g = 1) : s = none := by
  unfold sOv at h
  rw [decide_eq_true h1, Bool.true_and] at h
  cases s with
  | none => rfl
  | some r => cases h
theorem sCo_mono {n g A : Nat} {b c : WN} (h : wE n b c) : sCo n g A b ≤ sCo n g A c := by
  unfold sCo
  have h1 := h.2.2.2.2.1
  have h2 := h.2.2.2.2.2
  split <;> omega
theorem sCo_le {n g A : Nat} {b : WN} (hI : wI n b) (hF : wFw n b) (hA : A ≤ 368640) : sCo n g A b ≤ 400000 := by
  unfold sCo
  split
  · have := wLt_le hI.1 (by have := hI.2.1; omega) hF; omega
  · omega
theorem c_aSk {n g T A k e : Nat} {out : Bool} {b : WN} {s : SK} {h : MH} {Q : Option MV → MH → Prop} (hg : g = 1 ∨ g = 2 ∨ g = 3) (hT : 0 < T) (hTb : T ≤ 400000) (hAb : A ≤ 368640)
    (hr : zRf h) (hI : wI n b) (hF : wFw n b) (hk : b.1 + k = 4) (he : 1 ≤ e) (hw : wC n out b h) (ht : sT g T A h) (hR : sR n g s h) (hv : sOv g s = false)
    (ih : ∀ k', k = k' + 1 → ∀ W, 0 < W → W < 3 ^ n → wOk n out (b.2.1 b.1) (b.2.2.1 b.1) (wG n W) = true → ∀ s h, zRf h → wFr 62 b.1 h h → wC n out (wCh n b W) h → sT g T A h → sR n g s h → sOv g s = false → ∀ Q', (∀ h', zRf h' → wFr 62 (b.1 + 1) h h' → sR n g ((wCh n b W :: wNd n out k' (wCh n b W)).foldl (sU n g T A) s) h' → Q' none h') → Con mX9_arrive e 0 0 [.inr (.inr 62), .inl (nI (b.1 + 1)), .inl (nI (fb_sm ((wCh n b W).2.1 (b.1 + 1)) n)), .inl (nI (sCo n g A b))] h Q')
    (kk : ∀ h', zRf h' → wFr 62 b.1 h h' → sR n g ((b :: wNd n out k b).foldl (sU n g T A) s) h' → Q none h') :
    Con mX9_arriveSeeking (e + 3) 0 0 [.inr (.inr 62), .inl (nI b.1), .inl (nI (fb_sm (b.2.1 b.1) n)), .inl (nI (sCo n g A b))] h Q := by
  have hl : b.1 ≤ 4 := by omega
  have bS := hI.2.2.2
  have bC := sCo_le (g := g) hI hF hAb
  have em := (hw.2.2 b.1 (Nat.le_refl _)).1
  obtain ⟨t4, t5, t2⟩ := ht
  have hE : ∀ c, c ∈ wNd n out k b → wE n b c ∧ b.2.2.2 b.1 < c.2.2.2 c.1 := fun c hc => by
    obtain ⟨_, _, _, _, _, _, q⟩ := wNd_E hI hc
    exact ⟨q, (wNd_lt hI hc).2⟩
  have none_ : (∀ c, c ∈ b :: wNd n out k b → sU n g T A s c = s) → Q none h := fun q => kk h hr wFr.rfl (by rw [sU_all q]; exact hR)
  refine u_X9_arriveSeeking (d1' := e + 2) (d2' := e + 2) hr (by omega) (by omega) ?_
  rcases Nat.lt_or_ge T (b.2.2.2 b.1) with c1 | c1
  · simp (disch := omega) only [xle_t, xle_f, xlt_t, xlt_f, xeq_t, xeq_f, xle0_t, xle0_f, xlt0_f, x0lt_t, x0lt_f, x0le_t, xeq0_t, xeq0_f, xin, xem_f, xme_f, xlem_f, xlm_f, xml_t, xmle_t, nI_clamp, nI_add, pk_mul, pk_sub, zI_s, zI_k, zI_o, zL_s, zL_k, zL_o, zR_s, zR_k, zR_o, zIL, zIR, zIN, zLI, zLR, zLN, zRI, zRL, zRN, true_and, and_true, not_true_eq_false, not_false_eq_true, true_implies, false_implies, implies_true, forall_const, if_true, if_false, eq_self, false_and, and_false, implies_true, nI_l, ylle_t, ylle_f, xcl_t, xcl_f, t5, em]
    refine none_ (fun c hc => sU_ne ?_)
    rcases List.mem_cons.mp hc with z | z
    · rw [z]; omega
    · have := (hE c z).2; omega
  rcases Nat.lt_or_ge (b.2.2.2 b.1 + fb_sm (b.2.1 b.1) n) T with c2 | c2
  · simp (disch := omega) only [xle_t, xle_f, xlt_t, xlt_f, xeq_t, xeq_f, xle0_t, xle0_f, xlt0_f, x0lt_t, x0lt_f, x0le_t, xeq0_t, xeq0_f, xin, xem_f, xme_f, xlem_f, xlm_f, xml_t, xmle_t, nI_clamp, nI_add, pk_mul, pk_sub, zI_s, zI_k, zI_o, zL_s, zL_k, zL_o, zR_s, zR_k, zR_o, zIL, zIR, zIN, zLI, zLR, zLN, zRI, zRL, zRN, true_and, and_true, not_true_eq_false, not_false_eq_true, true_implies, false_implies, implies_true, forall_const, if_true, if_false, eq_self, false_and, and_false, implies_true, nI_l, ylle_t, ylle_f, xcl_t, xcl_f, t5, em]
    refine none_ (fun c hc => sU_ne ?_)
    rcases List.mem_cons.mp hc with z | z
    · rw [z]; omega
    · have := (hE c z).1.2.2.2.1; omega
  -- behind the test of what was found
  have here : (∀ r, s = some r → sCo n g A b < r.1) → T ≤ b.2.2.2 b.1 → ∀ h9, h9 = zsI (zsI (zsI (zsI h 62 6 (nI 1)) 62 8 (nI (sCo n g A b))) 62 9 (nI b.1)) 62 7 (bI (decide (g = 1))) → Q none h9 := by
    intro hb hTm h9 e9
    refine kk h9 (by rw [e9]; exact hr) ?_ ?_
    · rw [e9]
      refine ⟨(((zF_I _ _ _ (by omega)).trans (zF_I _ _ _ (by omega))).trans (zF_I _ _ _ (by omega))).trans (zF_I _ _ _ (by omega)), fun j hj => ?_, fun i hi => ?_, rfl⟩
      · rw [zI_k _ _ _ (by omega), zI_k _ _ _ (by omega), zI_k _ _ _ (by omega), zI_k _ _ _ (by omega)]
      · rw [zI_o _ _ _ (by omega), zI_o _ _ _ (by omega), zI_o _ _ _ (by omega), zI_o _ _ _ (by omega)]
    · have e1 : sU n g T A s b = some (sCo n g A b, b.1, b.2.2.1) := by
        unfold sU
        rw [if_pos (by omega)]
        cases s with
        | none => rfl
        | some r =>
          refine if_pos ⟨fun q => ?_, hb r rfl⟩
          have := sOv_0 hv q
          cases this
      rw [List.foldl_cons, e1, sU_all (fun c hc => sU_ne (by have := (hE c hc).2; omega))]
      rw [e9]
      refine ⟨?_, ?_, ?_, bC, ?_, hl, fun _ i hi c hc => ?_⟩
      · rw [zI_s]
        unfold sOv
        rw [Option.isSome_some, Bool.and_true]
      · rw [zI_k _ _ _ (by omega), zI_k _ _ _ (by omega), zI_k _ _ _ (by omega), zI_s]
      · rw [zI_k _ _ _ (by omega), zI_k _ _ _ (by omega), zI_s]
      · rw [zI_k _ _ _ (by omega), zI_s]
      · rw [zI_o _ _ _ (by omega), zI_o _ _ _ (by omega), zI_o _ _ _ (by omega), zI_o _ _ _ (by omega)]
        exact ((hw.2.2 i hi).2 c hc).2
  have on : b.2.2.2 b.1 < T → ∀ u, Con mX9_mayTell (e + 2) 0 0 [.inr (.inr 62), .inl (nI b.1), .inl (nI (T - b.2.2.2 b.1))] h (zri fun (x : Int32) h' => J mX9_arriveSeeking (e + 3) 0 0 Q 0 0 65 [some (.inr (.inr 62)), some (.inl (nI b.1)), some (.inl (nI (fb_sm (b.2.1 b.1) n))), some (.inl (nI (sCo n g A b))), some (.inl u)] [.inl x] h') := by
    intro hlt u
    refine c_may hr hI hw (by omega) (by omega) ?_ ?_
    · refine u_X9_arriveSeeking_65 (d1' := e + 2) hr (by omega) ?_
      simp (disch := omega) only [xle_t, xle_f, xlt_t, xlt_f, xeq_t, xeq_f, xle0_t, xle0_f, xlt0_f, x0lt_t, x0lt_f, x0le_t, xeq0_t, xeq0_f, xin, xem_f, xme_f, xlem_f, xlm_f, xml_t, xmle_t, nI_clamp, nI_add, pk_mul, pk_sub, zI_s, zI_k, zI_o, zL_s, zL_k, zL_o, zR_s, zR_k, zR_o, zIL, zIR, zIN, zLI, zLR, zLN, zRI, zRL, zRN, true_and, and_true, not_true_eq_false, not_false_eq_true, true_implies, false_implies, implies_true, forall_const, if_true, if_false, eq_self, false_and, and_false, implies_true, nI_l, ylle_t, ylle_f, xcl_t, xcl_f]
      refine c_go (U := sU n g T A) (ov := sOv g) (R := sR n g) (s := s) hr hI hk hw (Or.inl rfl) hR hv sU_ov sR_v sR_s he ?_ ?_
      · intro k' hk' W w0 w3 ok s' h' r' f' c' R' v' Q' kq
        exact ih k' hk' W w0 w3 ok s' h' r' wFr.rfl c' (sT.keep ⟨t4, t5, t2⟩ f') R' v' Q' kq
      · intro h' r' f' R'
        refine u_X9_arriveSeeking_75 (kk h' r' f' ?_)
        rw [List.foldl_cons, sU_ne (by omega)]
        exact R'
    · intro no
      refine u_X9_arriveSeeking_65 (d1' := e + 2) hr (by omega) ?_
      simp (disch := omega) only [xle_t, xle_f, xlt_t, xlt_f, xeq_t, xeq_f, xle0_t, xle0_f, xlt0_f, x0lt_t, x0lt_f, x0le_t, xeq0_t, xeq0_f, xin, xem_f, xme_f, xlem_f, xlm_f, xml_t, xmle_t, nI_clamp, nI_add, pk_mul, pk_sub, zI_s, zI_k, zI_o, zL_s, zL_k, zL_o, zR_s, zR_k, zR_o, zIL, zIR, zIN, zLI, zLR, zLN, zRI, zRL, zRN, true_and, and_true, not_true_eq_false, not_false_eq_true, true_implies, false_implies, implies_true, forall_const, if_true, if_false, eq_self, false_and, and_false, implies_true, nI_l, ylle_t, ylle_f, xcl_t, xcl_f]
      refine none_ (fun c hc => sU_ne ?_)
      rcases List.mem_cons.mp hc with z | z
      · rw [z]; omega
      · have := no k c z; omega
  rcases s with _ | ⟨be, r, F⟩
  · have f0 : h.1 62 6 = nI 0 := hR.2
    rcases Nat.lt_or_ge (b.2.2.2 b.1) T with c3 | c3
    · simp (disch := omega) only [xle_t, xle_f, xlt_t, xlt_f, xeq_t, xeq_f, xle0_t, xle0_f, xlt0_f, x0lt_t, x0lt_f, x0le_t, xeq0_t, xeq0_f, xin, xem_f, xme_f, xlem_f, xlm_f, xml_t, xmle_t, nI_clamp, nI_add, pk_mul, pk_sub, zI_s, zI_k, zI_o, zL_s, zL_k, zL_o, zR_s, zR_k, zR_o, zIL, zIR, zIN, zLI, zLR, zLN, zRI, zRL, zRN, true_and, and_true, not_true_eq_false, not_false_eq_true, true_implies, false_implies, implies_true, forall_const, if_true, if_false, eq_self, false_and, and_false, implies_true, nI_l, ylle_t, ylle_f, xcl_t, xcl_f, t5, em, f0]
      exact on c3 _
    · have hh := here (fun r q => by cases q) c3
      by_cases g1 : g = 1
      · rw [g1] at t4
        rw [decide_eq_true g1] at hh
        simp (disch := omega) only [xle_t, xle_f, xlt_t, xlt_f, xeq_t, xeq_f, xle0_t, xle0_f, xlt0_f, x0lt_t, x0lt_f, x0le_t, xeq0_t, xeq0_f, xin, xem_f, xme_f, xlem_f, xlm_f, xml_t, xmle_t, nI_clamp, nI_add, pk_mul, pk_sub, zI_s, zI_k, zI_o, zL_s, zL_k, zL_o, zR_s, zR_k, zR_o, zIL, zIR, zIN, zLI, zLR, zLN, zRI, zRL, zRN, true_and, and_true, not_true_eq_false, not_false_eq_true, true_implies, false_implies, implies_true, forall_const, if_true, if_false, eq_self, false_and, and_false, implies_true, nI_l, ylle_t, ylle_f, xcl_t, xcl_f, t5, em, f0, t4]
        exact hh _ rfl
      · rw [decide_eq_false g1] at hh
        simp (disch := omega) only [xle_t, xle_f, xlt_t, xlt_f, xeq_t, xeq_f, xle0_t, xle0_f, xlt0_f, x0lt_t, x0lt_f, x0le_t, xeq0_t, xeq0_f, xin, xem_f, xme_f, xlem_f, xlm_f, xml_t, xmle_t, nI_clamp, nI_add, pk_mul, pk_sub, zI_s, zI_k, zI_o, zL_s, zL_k, zL_o, zR_s, zR_k, zR_o, zIL, zIR, zIN, zLI, zLR, zLN, zRI, zRL, zRN, true_and, and_true, not_true_eq_false, not_false_eq_true, true_implies, false_implies, implies_true, forall_const, if_true, if_false, eq_self, false_and, and_false, implies_true, nI_l, ylle_t, ylle_f, xcl_t, xcl_f, t5, em, f0, t4]
        exact hh _ rfl
  · obtain ⟨f0, f8, fb, _⟩ := hR.2
    rcases Nat.lt_or_ge (sCo n g A b) be with c4 | c4
    · rcases Nat.lt_or_ge (b.2.2.2 b.1) T with c3 | c3
      · simp (disch := omega) only [xle_t, xle_f, xlt_t, xlt_f, xeq_t, xeq_f, xle0_t, xle0_f, xlt0_f, x0lt_t, x0lt_f, x0le_t, xeq0_t, xeq0_f, xin, xem_f, xme_f, xlem_f, xlm_f, xml_t, xmle_t, nI_clamp, nI_add, pk_mul, pk_sub, zI_s, zI_k, zI_o, zL_s, zL_k, zL_o, zR_s, zR_k, zR_o, zIL, zIR, zIN, zLI, zLR, zLN, zRI, zRL, zRN, true_and, and_true, not_true_eq_false, not_false_eq_true, true_implies, false_implies, implies_true, forall_const, if_true, if_false, eq_self, false_and, and_false, implies_true, nI_l, ylle_t, ylle_f, xcl_t, xcl_f, t5, em, f0, f8]
        exact on c3 _
      · have hh := here (fun r q => by cases q; exact c4) c3
        by_cases g1 : g = 1
        · have := sOv_0 hv g1
          cases this
        · rw [decide_eq_false g1] at hh
          simp (disch := omega) only [xle_t, xle_f, xlt_t, xlt_f, xeq_t, xeq_f, xle0_t, xle0_f, xlt0_f, x0lt_t, x0lt_f, x0le_t, xeq0_t, xeq0_f, xin, xem_f, xme_f, xlem_f, xlm_f, xml_t, xmle_t, nI_clamp, nI_add, pk_mul, pk_sub, zI_s, zI_k, zI_o, zL_s, zL_k, zL_o, zR_s, zR_k, zR_o, zIL, zIR, zIN, zLI, zLR, zLN, zRI, zRL, zRN, true_and, and_true, not_true_eq_false, not_false_eq_true, true_implies, false_implies, implies_true, forall_const, if_true, if_false, eq_self, false_and, and_false, implies_true, nI_l, ylle_t, ylle_f, xcl_t, xcl_f, t5, em, f0, f8, t4]
          exact hh _ rfl
    · simp (disch := omega) only [xle_t, xle_f, xlt_t, xlt_f, xeq_t, xeq_f, xle0_t, xle0_f, xlt0_f, x0lt_t, x0lt_f, x0le_t, xeq0_t, xeq0_f, xin, xem_f, xme_f, xlem_f, xlm_f, xml_t, xmle_t, nI_clamp, nI_add, pk_mul, pk_sub, zI_s, zI_k, zI_o, zL_s, zL_k, zL_o, zR_s, zR_k, zR_o, zIL, zIR, zIN, zLI, zLR, zLN, zRI, zRL, zRN, true_and, and_true, not_true_eq_false, not_false_eq_true, true_implies, false_implies, implies_true, forall_const, if_true, if_false, eq_self, false_and, and_false, implies_true, nI_l, ylle_t, ylle_f, xcl_t, xcl_f, t5, em, f0, f8]
      refine none_ (fun c hc => ?_)
      unfold sU
      split
      · refine if_neg (fun q => ?_)
        rcases List.mem_cons.mp hc with z | z
        · rw [z] at q; exact absurd q.2 (by show ¬ _ < be; omega)
        · have := sCo_mono (g := g) (A := A) (hE c z).1
          exact absurd q.2 (by show ¬ _ < be; omega)
      · rfl
theorem c_arF {n g T A e : Nat} {out : Bool} {a : WN} {W : Nat} {h : MH} {sp : Int32} {Q : Option MV → MH → Prop} (hg : g = 1 ∨ g = 2 ∨ g = 3) (hr : zRf h) (hI : wI n a) (hF : wFw n a) (hl : a.1 < 4) (ok : wOk n out (a.2.1 a.1) (a.2.2.1 a.1) (wG n W) = true) (hw : wC n out (wCh n a W) h) (ht : sT g T A h) (hsp : g = 2 → sp = nI (wLt n a)) (hAb : A ≤ 368640) (hsA : fb_sm ((wCh n a W).2.1 (a.1 + 1)) n ≤ A)
    (seek : Con mX9_arriveSeeking (e + 3) 0 0 [.inr (.inr 62), .inl (nI (a.1 + 1)), .inl (nI (fb_sm ((wCh n a W).2.1 (a.1 + 1)) n)), .inl (nI (sCo n g A (wCh n a W)))] h (zrv fun h' => J mX9_arrive (e + 4) 0 0 Q 0 0 134 [some (.inr (.inr 62)), some (.inl (nI (a.1 + 1))), some (.inl (nI (fb_sm ((wCh n a W).2.1 (a.1 + 1)) n))), some (.inl sp)] [] h')) :
    Con mX9_arrive (e + 4) 0 0 [.inr (.inr 62), .inl (nI (a.1 + 1)), .inl (nI (fb_sm ((wCh n a W).2.1 (a.1 + 1)) n)), .inl sp] h Q := by
  obtain ⟨t4, t5, t2⟩ := ht
  refine u_X9_arrive hr ?_
  rw [t4]
  refine arr_s hg (u_X9_arrive_104 (d1' := e + 3) (d2' := e + 3) hr (by omega) (by omega) ?_)
  by_cases g2 : g = 2
  · rw [g2] at t4
    simp (disch := omega) only [xle_t, xle_f, xlt_t, xlt_f, xeq_t, xeq_f, xle0_t, xle0_f, xlt0_f, x0lt_t, x0lt_f, x0le_t, xeq0_t, xeq0_f, xin, xem_f, xme_f, xlem_f, xlm_f, xml_t, xmle_t, nI_clamp, nI_add, pk_mul, pk_sub, zI_s, zI_k, zI_o, zL_s, zL_k, zL_o, zR_s, zR_k, zR_o, zIL, zIR, zIN, zLI, zLR, zLN, zRI, zRL, zRN, true_and, and_true, not_true_eq_false, not_false_eq_true, true_implies, false_implies, implies_true, forall_const, if_true, if_false, eq_self, false_and, and_false, implies_true, nI_l, ylle_t, ylle_f, xcl_t, xcl_f, t4]
    refine c_nfl hr hI hl hF ok hw (by omega) ?_
    refine u_X9_arrive_121 (d1' := e + 3) hr (by omega) ?_
    rw [hsp g2, nI_add, ← wLt_ch]
    have : sCo n g A (wCh n a W) = wLt n (wCh n a W) := if_pos g2
    rw [this, hsp g2] at seek
    exact seek
  · have : sCo n g A (wCh n a W) = A - fb_sm ((wCh n a W).2.1 (a.1 + 1)) n := if_neg g2
    rw [this] at seek
    simp (disch := omega) only [xle_t, xle_f, xlt_t, xlt_f, xeq_t, xeq_f, xle0_t, xle0_f, xlt0_f, x0lt_t, x0lt_f, x0le_t, xeq0_t, xeq0_f, xin, xem_f, xme_f, xlem_f, xlm_f, xml_t, xmle_t, nI_clamp, nI_add, pk_mul, pk_sub, zI_s, zI_k, zI_o, zL_s, zL_k, zL_o, zR_s, zR_k, zR_o, zIL, zIR, zIN, zLI, zLR, zLN, zRI, zRL, zRN, true_and, and_true, not_true_eq_false, not_false_eq_true, true_implies, false_implies, implies_true, forall_const, if_true, if_false, eq_self, false_and, and_false, implies_true, nI_l, ylle_t, ylle_f, xcl_t, xcl_f, t4, t2]
    exact seek
theorem c_arS {n g T A : Nat} {out : Bool} (hg : g = 1 ∨ g = 2 ∨ g = 3) (hT : 0 < T) (hTb : T ≤ 400000) (hAb : A ≤ 368640) : ∀ (k e : Nat) (a : WN) (W : Nat), wI n a → wFw n a → 0 < W → W < 3 ^ n → wOk n out (a.2.1 a.1) (a.2.2.1 a.1) (wG n W) = true → a.1 + 1 + k = 4 → 4 * k + 1 ≤ e → ∀ (s : SK) (h : MH) (sp : Int32), zRf h → wC n out (wCh n a W) h → sT g T A h → sR n g s h → sOv g s = false → (g = 2 → sp = nI (wLt n a)) → fb_sm (a.2.1 a.1) n ≤ A → ∀ Q : Option MV → MH → Prop, (∀ h', zRf h' → wFr 62 (a.1 + 1) h h' → sR n g ((wCh n a W :: wNd n out k (wCh n a W)).foldl (sU n g T A) s) h' → Q none h') → Con mX9_arrive (e + 4) 0 0 [.inr (.inr 62), .inl (nI (a.1 + 1)), .inl (nI (fb_sm ((wCh n a W).2.1 (a.1 + 1)) n)), .inl sp] h Q := by
  intro k
  induction k with
  | zero =>
    intro e a W hI hF w0 w3 ok hk he s h sp hr hw ht hR hv hsp hsA Q kk
    have hI' := (wCh_I hI w0 w3 ok).1
    have hF' := wFw_ch hF ok
    have sx := (wCh_sum hI w0 w3 ok).1
    exact c_arF hg hr hI hF (by omega) ok hw ht hsp hAb (by omega) (c_aSk (e := e) (b := wCh n a W) hg hT hTb hAb hr hI' hF' hk (by omega) hw ht hR hv (fun k' q => by omega) (fun h' r' f' R' => u_X9_arrive_134 (kk h' r' f' R')))
  | succ k ih =>
    intro e a W hI hF w0 w3 ok hk he s h sp hr hw ht hR hv hsp hsA Q kk
    have hI' := (wCh_I hI w0 w3 ok).1
    have hF' := wFw_ch hF ok
    have sx := (wCh_sum hI w0 w3 ok).1
    obtain ⟨e, rfl⟩ : ∃ e', e = e' + 4 := ⟨e - 4, by omega⟩
    refine c_arF hg hr hI hF (by omega) ok hw ht hsp hAb (by omega) (c_aSk (e := e + 4) (b := wCh n a W) hg hT hTb hAb hr hI' hF' hk (by omega) hw ht hR hv ?_ (fun h' r' f' R' => u_X9_arrive_134 (kk h' r' f' R')))
    intro k' q W' v0 v3 ok' s' h' r' _ c' t' R' v' Q' kq
    obtain rfl : k = k' := by omega
    exact ih e (wCh n a W) W' hI' hF' v0 v3 ok' (by rw [wCh_L]; omega) (by omega) s' h' _ r' c' t' R' v' (fun g2 => by rw [show sCo n g A (wCh n a W) = wLt n (wCh n a W) from if_pos g2]) (by rw [wCh_L]; omega) Q' kq
