/-! ===== ways in the class: all wanted together ===== -/
theorem wTl_in {α : Type} {f : Nat → List α} {b : α} {i : Nat} : ∀ {m W : Nat}, W ≤ i → i < W + m → b ∈ f i → b ∈ wTl f m W
  | 0, W, h1, h2, _ => by omega
  | m + 1, W, h1, h2, hb => by
    show b ∈ f W ++ wTl f m (W + 1)
    by_cases z : i = W
    · rw [z] at hb; exact List.mem_append_left _ hb
    · exact List.mem_append_right _ (wTl_in (by omega) (by omega) hb)
theorem wNd_anc {n : Nat} {out : Bool} {c : WN} {j : Nat} : ∀ {k : Nat} {b : WN}, wI n b → c ∈ wNd n out k b → b.1 < j → j ≤ c.1 → ∃ c', c' ∈ wNd n out k b ∧ c'.1 = j ∧ c'.2.2.2 j = c.2.2.2 j
  | 0, b, _, h, _, _ => by cases h
  | k + 1, b, hI, h, j1, j2 => by
    obtain ⟨W, _, w2, w3⟩ := wTl_mem (show c ∈ wTl (wBr n out b (wNd n out k)) (3 ^ n) 0 from h)
    have up : ∀ x, x ∈ wBr n out b (wNd n out k) W → x ∈ wNd n out (k + 1) b := fun x hx => wTl_in (Nat.zero_le _) w2 hx
    unfold wBr at w3 up
    by_cases q : 0 < W ∧ wOk n out (b.2.1 b.1) (b.2.2.1 b.1) (wG n W) = true
    · rw [if_pos q] at w3 up
      have hI' := (wCh_I hI q.1 (by omega) q.2).1
      by_cases z : j = b.1 + 1
      · refine ⟨wCh n b W, up _ List.mem_cons_self, z.symm, ?_⟩
        rcases List.mem_cons.mp w3 with e | e
        · rw [e]
        · obtain ⟨_, _, _, _, _, _, hE⟩ := wNd_E hI' e
          exact ((hE.2.1 j (by rw [wCh_L]; omega)).1).symm
      · rcases List.mem_cons.mp w3 with e | e
        · rw [e, wCh_L] at j2; omega
        · obtain ⟨c', c1, c2, c3⟩ := wNd_anc hI' e (by rw [wCh_L]; omega) j2
          exact ⟨c', up _ (List.mem_cons_of_mem _ c1), c2, c3⟩
    · rw [if_neg q] at w3
      cases w3
def wTd (w : Nat) (ws : Nat → Nat) (b : WN) : Bool := decide (∀ i, i < w → ∃ j, j < b.1 ∧ b.2.2.2 (j + 1) = ws i)
def wMt (w : Nat) (ws : Nat → Nat) (a : WN) (m : Nat) : Prop := m < w ∧ (∀ i, i < m → ∃ j, j < a.1 ∧ a.2.2.2 (j + 1) = ws i) ∧ ∀ i, m ≤ i → i < w → a.2.2.2 a.1 < ws i
def wWs (w : Nat) (ws : Nat → Nat) (h : MH) : Prop := h.1 62 4 = nI 5 ∧ h.1 62 10 = nI w ∧ ∀ i, i < w → h.1 63 i = nI (ws i)
theorem wWs.keep {w l v : Nat} {ws : Nat → Nat} {h h' : MH} (q : wWs w ws h) (f : wFr v l h h') (hv : v ≠ 63) : wWs w ws h' := ⟨(f.2.1 4 (by omega)).trans q.1, (f.2.1 10 (by omega)).trans q.2.1, fun i hi => by rw [f.1.i (by omega)]; exact q.2.2 i hi⟩
/-- a time that none of them is: not all are told -/
theorem wTd_no {w i : Nat} {ws : Nat → Nat} {b : WN} (hi : i < w) (h : ∀ j, j < b.1 → b.2.2.2 (j + 1) ≠ ws i) : wTd w ws b = false := decide_eq_false (fun q => by
  obtain ⟨j, j1, j2⟩ := q i hi
  exact h j j1 j2)
theorem c_aWt {n w k e m : Nat} {ws : Nat → Nat} {out : Bool} {a : WN} {W : Nat} {h : MH} {Q : Option MV → MH → Prop} (hw4 : w ≤ 4) (hs : ∀ i j, i < j → j < w → ws i < ws j) (hsb : ∀ i, i < w → ws i ≤ 400000)
    (hr : zRf h) (hI : wI n a) (hM : wMo a) (w0 : 0 < W) (w3 : W < 3 ^ n) (ok : wOk n out (a.2.1 a.1) (a.2.2.1 a.1) (wG n W) = true) (hk : a.1 + 1 + k = 4) (he : 1 ≤ e) (hw : wC n out (wCh n a W) h) (ht : wWs w ws h) (hm : wMt w ws a m) (hR : fR false h)
    (ih : ∀ k', k = k' + 1 → ∀ m', wMt w ws (wCh n a W) m' → ∀ W', 0 < W' → W' < 3 ^ n → wOk n out ((wCh n a W).2.1 (a.1 + 1)) ((wCh n a W).2.2.1 (a.1 + 1)) (wG n W') = true → ∀ h, zRf h → wC n out (wCh n (wCh n a W) W') h → wWs w ws h → fR false h → ∀ Q', (∀ h', zRf h' → wFr 62 (a.1 + 1 + 1) h h' → fR ((wCh n (wCh n a W) W' :: wNd n out k' (wCh n (wCh n a W) W')).foldl (fU (wTd w ws)) false) h' → Q' none h') → Con mX9_arrive e 0 0 [.inr (.inr 62), .inl (nI (a.1 + 1 + 1)), .inl (nI (fb_sm ((wCh n (wCh n a W) W').2.1 (a.1 + 1 + 1)) n)), .inl (nI m')] h Q')
    (kk : ∀ h', zRf h' → wFr 62 (a.1 + 1) h h' → fR ((wCh n a W :: wNd n out k (wCh n a W)).foldl (fU (wTd w ws)) false) h' → Q none h') :
    Con mX9_arriveWanting (e + 3) 0 0 [.inr (.inr 62), .inl (nI (a.1 + 1)), .inl (nI (fb_sm ((wCh n a W).2.1 (a.1 + 1)) n)), .inl (nI m)] h Q := by
  obtain ⟨m1, m2, m3⟩ := hm
  obtain ⟨t4, t10, t63⟩ := ht
  have hI' := (wCh_I hI w0 w3 ok).1
  have hM' := wMo_ch hI hM w0 w3 ok
  have bS := hI'.2.2.2
  rw [wCh_L] at bS
  have em := (hw.2.2 (a.1 + 1) (Nat.le_refl _)).1
  have em3 := t63 m m1
  have b3 := hsb m m1
  -- the moments of a node behind
  have hist : ∀ c, c ∈ wCh n a W :: wNd n out k (wCh n a W) → wE n (wCh n a W) c ∧ ∀ j, j < c.1 → c.2.2.2 (j + 1) ≤ a.2.2.2 a.1 ∨ (wCh n a W).2.2.2 (a.1 + 1) ≤ c.2.2.2 (j + 1) := fun c hc => by
    have hE : wE n (wCh n a W) c := by
      rcases List.mem_cons.mp hc with z | z
      · rw [z]; exact wE.rfl
      · obtain ⟨_, _, _, _, _, _, q⟩ := wNd_E hI' z
        exact q
    refine ⟨hE, fun j hj => ?_⟩
    by_cases z : j + 1 ≤ a.1
    · refine Or.inl ?_
      rw [(hE.2.1 (j + 1) (by rw [wCh_L]; omega)).1, wCh_Mo z]
      exact hM.le z (Nat.le_refl _)
    · exact Or.inr (hE.up (j + 1) (by rw [wCh_L]; omega) (by omega))
  have none_ : (∀ c, c ∈ wCh n a W :: wNd n out k (wCh n a W) → wTd w ws c = false) → Q none h := fun q => kk h hr wFr.rfl (by rw [fU_all q]; exact hR)
  have on : ∀ m', m' < w → (∀ i, i < m' → ∃ j, j < a.1 + 1 ∧ (wCh n a W).2.2.2 (j + 1) = ws i) → (∀ i, m' ≤ i → i < w → (wCh n a W).2.2.2 (a.1 + 1) < ws i) → ∀ u, Con mX9_mayTell (e + 2) 0 0 [.inr (.inr 62), .inl (nI (a.1 + 1)), .inl (nI (ws m' - (wCh n a W).2.2.2 (a.1 + 1)))] h (zri fun (x : Int32) h' => J mX9_arriveWanting (e + 3) 0 0 Q 0 0 85 [some (.inr (.inr 62)), some (.inl (nI (a.1 + 1))), some (.inl (nI (fb_sm ((wCh n a W).2.1 (a.1 + 1)) n))), some (.inl (nI m)), some (.inl u), some (.inl (nI m'))] [.inl x] h') := by
    intro m' hm' g1 g2 u
    have g3 := g2 m' (Nat.le_refl _) hm'
    have g4 := hsb m' hm'
    have g5 : wTd w ws (wCh n a W) = false := wTd_no hm' (fun j hj => by
      rw [wCh_L] at hj
      have := hM'.le (i := j + 1) (j := a.1 + 1) (by omega) (Nat.le_refl _)
      omega)
    refine c_may (a := wCh n a W) hr hI' hw (by omega) (by omega) ?_ ?_
    · refine u_X9_arriveWanting_85 (d1' := e + 2) hr (by omega) ?_
      simp (disch := omega) only [xle_t, xle_f, xlt_t, xlt_f, xeq_t, xeq_f, xle0_t, xle0_f, xlt0_f, x0lt_t, x0lt_f, x0le_t, xeq0_t, xeq0_f, xin, xem_f, xme_f, xlem_f, xlm_f, xml_t, xmle_t, nI_clamp, nI_add, pk_mul, pk_sub, zI_s, zI_k, zI_o, zL_s, zL_k, zL_o, zR_s, zR_k, zR_o, zIL, zIR, zIN, zLI, zLR, zLN, zRI, zRL, zRN, true_and, and_true, not_true_eq_false, not_false_eq_true, true_implies, false_implies, implies_true, forall_const, if_true, if_false, eq_self, false_and, and_false, implies_true, nI_l, ylle_t, ylle_f, xcl_t, xcl_f]
      refine c_go (a := wCh n a W) (k := k) (w := 62) (d := e) (U := fU (wTd w ws)) (ov := fun f => f) (R := fR) (s := false) hr hI' hk hw (Or.inl rfl) hR rfl fU_ov (fun _ _ q => q.1) fR_s he ?_ ?_
      · intro k' q W' v0 v3 ok' s' h' r' f' c' R' v' Q' kq
        rw [v'] at R' kq
        exact ih k' q m' ⟨hm', g1, g2⟩ W' v0 v3 ok' h' r' c' (wWs.keep ⟨t4, t10, t63⟩ f' (by omega)) R' Q' kq
      · intro h' r' f' R'
        refine u_X9_arriveWanting_96 (kk h' r' f' ?_)
        rw [List.foldl_cons, fU, g5, Bool.or_false]
        exact R'
    · intro no
      refine u_X9_arriveWanting_85 (d1' := e + 2) hr (by omega) ?_
      simp (disch := omega) only [xle_t, xle_f, xlt_t, xlt_f, xeq_t, xeq_f, xle0_t, xle0_f, xlt0_f, x0lt_t, x0lt_f, x0le_t, xeq0_t, xeq0_f, xin, xem_f, xme_f, xlem_f, xlm_f, xml_t, xmle_t, nI_clamp, nI_add, pk_mul, pk_sub, zI_s, zI_k, zI_o, zL_s, zL_k, zL_o, zR_s, zR_k, zR_o, zIL, zIR, zIN, zLI, zLR, zLN, zRI, zRL, zRN, true_and, and_true, not_true_eq_false, not_false_eq_true, true_implies, false_implies, implies_true, forall_const, if_true, if_false, eq_self, false_and, and_false, implies_true, nI_l, ylle_t, ylle_f, xcl_t, xcl_f]
      refine none_ (fun c hc => ?_)
      rcases List.mem_cons.mp hc with z | z
      · rw [z]; exact g5
      · refine wTd_no hm' (fun j hj q => ?_)
        by_cases y : j + 1 ≤ a.1 + 1
        · have hE := (hist c hc).1
          rw [(hE.2.1 (j + 1) (by rw [wCh_L]; omega)).1] at q
          have := hM'.le (i := j + 1) (j := a.1 + 1) y (Nat.le_refl _)
          omega
        · obtain ⟨c', c1, c2, c3⟩ := wNd_anc hI' z (show (wCh n a W).1 < j + 1 by rw [wCh_L]; omega) (by omega)
          have := no k c' c1
          rw [c2, c3, wCh_L] at this
          omega
  refine u_X9_arriveWanting (d1' := e + 2) (d2' := e + 2) hr (by omega) (by omega) ?_
  rcases Nat.lt_or_ge (ws m) ((wCh n a W).2.2.2 (a.1 + 1)) with c1 | c1
  · simp (disch := omega) only [xle_t, xle_f, xlt_t, xlt_f, xeq_t, xeq_f, xle0_t, xle0_f, xlt0_f, x0lt_t, x0lt_f, x0le_t, xeq0_t, xeq0_f, xin, xem_f, xme_f, xlem_f, xlm_f, xml_t, xmle_t, nI_clamp, nI_add, pk_mul, pk_sub, zI_s, zI_k, zI_o, zL_s, zL_k, zL_o, zR_s, zR_k, zR_o, zIL, zIR, zIN, zLI, zLR, zLN, zRI, zRL, zRN, true_and, and_true, not_true_eq_false, not_false_eq_true, true_implies, false_implies, implies_true, forall_const, if_true, if_false, eq_self, false_and, and_false, implies_true, nI_l, ylle_t, ylle_f, xcl_t, xcl_f, t10, em, em3]
    refine none_ (fun c hc => wTd_no m1 (fun j hj q => ?_))
    have := m3 m (Nat.le_refl _) m1
    rcases (hist c hc).2 j hj with y | y <;> omega
  have old : ∀ i, i < m → ∃ j, j < a.1 + 1 ∧ (wCh n a W).2.2.2 (j + 1) = ws i := fun i hi => by
    obtain ⟨j, j1, j2⟩ := m2 i hi
    exact ⟨j, by omega, by rw [wCh_Mo (by omega)]; exact j2⟩
  by_cases c2 : (wCh n a W).2.2.2 (a.1 + 1) = ws m
  · have new : ∀ i, i < m + 1 → ∃ j, j < a.1 + 1 ∧ (wCh n a W).2.2.2 (j + 1) = ws i := fun i hi => by
      by_cases z : i = m
      · rw [z]; exact ⟨a.1, by omega, c2⟩
      · exact old i (by omega)
    rcases Nat.lt_or_ge (m + 1) w with c3 | c3
    · have em4 := t63 (m + 1) c3
      have g3 := hs m (m + 1) (by omega) c3
      have g4 := hsb (m + 1) c3
      simp (disch := omega) only [xle_t, xle_f, xlt_t, xlt_f, xeq_t, xeq_f, xle0_t, xle0_f, xlt0_f, x0lt_t, x0lt_f, x0le_t, xeq0_t, xeq0_f, xin, xem_f, xme_f, xlem_f, xlm_f, xml_t, xmle_t, nI_clamp, nI_add, pk_mul, pk_sub, zI_s, zI_k, zI_o, zL_s, zL_k, zL_o, zR_s, zR_k, zR_o, zIL, zIR, zIN, zLI, zLR, zLN, zRI, zRL, zRN, true_and, and_true, not_true_eq_false, not_false_eq_true, true_implies, false_implies, implies_true, forall_const, if_true, if_false, eq_self, false_and, and_false, implies_true, nI_l, ylle_t, ylle_f, xcl_t, xcl_f, t10, em, em3, em4]
      exact on (m + 1) c3 new (fun i q1 q2 => by
        rw [c2]
        exact hs m i (by omega) q2) _
    · simp (disch := omega) only [xle_t, xle_f, xlt_t, xlt_f, xeq_t, xeq_f, xle0_t, xle0_f, xlt0_f, x0lt_t, x0lt_f, x0le_t, xeq0_t, xeq0_f, xin, xem_f, xme_f, xlem_f, xlm_f, xml_t, xmle_t, nI_clamp, nI_add, pk_mul, pk_sub, zI_s, zI_k, zI_o, zL_s, zL_k, zL_o, zR_s, zR_k, zR_o, zIL, zIR, zIN, zLI, zLR, zLN, zRI, zRL, zRN, true_and, and_true, not_true_eq_false, not_false_eq_true, true_implies, false_implies, implies_true, forall_const, if_true, if_false, eq_self, false_and, and_false, implies_true, nI_l, ylle_t, ylle_f, xcl_t, xcl_f, t10, em, em3]
      refine kk _ hr (fR_set h).2 ?_
      have tb : wTd w ws (wCh n a W) = true := decide_eq_true (fun i hi => new i (by omega))
      have : (wCh n a W :: wNd n out k (wCh n a W)).foldl (fU (wTd w ws)) false = true := by
        rw [List.foldl_cons, fU_fold, fU, tb, Bool.or_true, Bool.true_or]
      rw [this]
      exact (fR_set (l := 0) h).1
  · simp (disch := omega) only [xle_t, xle_f, xlt_t, xlt_f, xeq_t, xeq_f, xle0_t, xle0_f, xlt0_f, x0lt_t, x0lt_f, x0le_t, xeq0_t, xeq0_f, xin, xem_f, xme_f, xlem_f, xlm_f, xml_t, xmle_t, nI_clamp, nI_add, pk_mul, pk_sub, zI_s, zI_k, zI_o, zL_s, zL_k, zL_o, zR_s, zR_k, zR_o, zIL, zIR, zIN, zLI, zLR, zLN, zRI, zRL, zRN, true_and, and_true, not_true_eq_false, not_false_eq_true, true_implies, false_implies, implies_true, forall_const, if_true, if_false, eq_self, false_and, and_false, implies_true, nI_l, ylle_t, ylle_f, xcl_t, xcl_f, t10, em, em3]
    exact on m m1 old (fun i q1 q2 => by
      by_cases z : i = m
      · rw [z]; omega
      · have := hs m i (by omega) q2; omega) _
theorem c_arW {n w : Nat} {ws : Nat → Nat} {out : Bool} (hw4 : w ≤ 4) (hs : ∀ i j, i < j → j < w → ws i < ws j) (hsb : ∀ i, i < w → ws i ≤ 400000) : ∀ (k e m : Nat) (a : WN) (W : Nat), wI n a → wMo a → 0 < W → W < 3 ^ n → wOk n out (a.2.1 a.1) (a.2.2.1 a.1) (wG n W) = true → a.1 + 1 + k = 4 → 4 * k + 1 ≤ e → wMt w ws a m → ∀ (h : MH), zRf h → wC n out (wCh n a W) h → wWs w ws h → fR false h → ∀ Q : Option MV → MH → Prop, (∀ h', zRf h' → wFr 62 (a.1 + 1) h h' → fR ((wCh n a W :: wNd n out k (wCh n a W)).foldl (fU (wTd w ws)) false) h' → Q none h') → Con mX9_arrive (e + 4) 0 0 [.inr (.inr 62), .inl (nI (a.1 + 1)), .inl (nI (fb_sm ((wCh n a W).2.1 (a.1 + 1)) n)), .inl (nI m)] h Q := by
  intro k
  induction k with
  | zero =>
    intro e m a W hI hM w0 w3 ok hk he hm h hr hw ht hR Q kk
    refine u_X9_arrive hr ?_
    rw [ht.1]
    refine arr_5 (u_X9_arrive_94 (d1' := e + 3) hr (by omega) ?_)
    exact c_aWt hw4 hs hsb hr hI hM w0 w3 ok hk (by omega) hw ht hm hR (fun k' q => by omega) (fun h' r' f' R' => u_X9_arrive_101 (kk h' r' f' R'))
  | succ k ih =>
    intro e m a W hI hM w0 w3 ok hk he hm h hr hw ht hR Q kk
    obtain ⟨e, rfl⟩ : ∃ e', e = e' + 4 := ⟨e - 4, by omega⟩
    refine u_X9_arrive hr ?_
    rw [ht.1]
    refine arr_5 (u_X9_arrive_94 (d1' := e + 4 + 3) hr (by omega) ?_)
    refine c_aWt hw4 hs hsb hr hI hM w0 w3 ok hk (by omega) hw ht hm hR ?_ (fun h' r' f' R' => u_X9_arrive_101 (kk h' r' f' R'))
    intro k' q m' hm' W' v0 v3 ok' h' r' c' t' R' Q' kq
    obtain rfl : k = k' := by omega
    exact ih e m' (wCh n a W) W' (wCh_I hI w0 w3 ok).1 (wMo_ch hI hM w0 w3 ok) v0 v3 ok' (by rw [wCh_L]; omega) (by omega) hm' h' r' c' t' R' Q' kq
