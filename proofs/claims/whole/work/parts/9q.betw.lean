/-! ===== ways in the class: between, all wanted ===== -/
def wMo (b : WN) : Prop := ∀ i, i < b.1 → b.2.2.2 i < b.2.2.2 (i + 1)
theorem wMo.le {b : WN} (h : wMo b) {i : Nat} : ∀ {j : Nat}, i ≤ j → j ≤ b.1 → b.2.2.2 i ≤ b.2.2.2 j
  | 0, h1, _ => by rw [show i = 0 by omega]; exact Nat.le_refl _
  | j + 1, h1, h2 => by
    by_cases z : i = j + 1
    · rw [z]; exact Nat.le_refl _
    · have := h.le (i := i) (j := j) (by omega) (by omega)
      have := h j (by omega)
      omega
theorem wMo_ch {n : Nat} {out : Bool} {a : WN} {W : Nat} (hI : wI n a) (h : wMo a) (h0 : 0 < W) (h3 : W < 3 ^ n) (hok : wOk n out (a.2.1 a.1) (a.2.2.1 a.1) (wG n W) = true) : wMo (wCh n a W) := fun i hi => by
  obtain ⟨_, s0, _⟩ := wStp hI h0 h3 hok
  rw [wCh_L] at hi
  by_cases z : i = a.1
  · rw [z, wCh_M, wCh_Mo (Nat.le_refl _)]; omega
  · rw [wCh_Mo (by omega), wCh_Mo (by omega)]; exact h i (by omega)
theorem wNd_Mo {n k : Nat} {out : Bool} {a b : WN} (hI : wI n a) (h : wMo a) (hb : b ∈ wNd n out k a) : wMo b := (wNd_all (out := out) (P := wMo) (fun _ _ i p w0 w3 ok => wMo_ch i p w0 w3 ok) k a hI h b hb).2
def bet (T : Nat) (b : WN) : Bool := decide (∃ i, i < b.1 ∧ b.2.2.2 i + T = b.2.2.2 b.1)
def fU (p : WN → Bool) (f : Bool) (b : WN) : Bool := f || p b
theorem fU_ov {p : WN → Bool} (f : Bool) (b : WN) (h : f = true) : fU p f b = f := by rw [h]; rfl
def fR (f : Bool) (h : MH) : Prop := h.1 62 7 = bI f ∧ h.1 62 6 = bI f
theorem fR_s (f : Bool) (h h' : MH) (_ : f = false) (q : fR f h) (z : zF (fun b => b ≠ 64 ∧ (b < 66 ∨ 76 < b)) h h') : fR f h' := by
  unfold fR
  rw [z.i (a := 62) (by omega)]
  exact q
theorem fU_all {p : WN → Bool} {f : Bool} : ∀ {l : List WN}, (∀ b, b ∈ l → p b = false) → l.foldl (fU p) f = f
  | [], _ => rfl
  | b :: l, h => by
    rw [List.foldl_cons]
    unfold fU
    rw [h b List.mem_cons_self, Bool.or_false]
    exact fU_all (fun b' hb => h b' (List.mem_cons_of_mem _ hb))
theorem fU_fold {p : WN → Bool} : ∀ {l : List WN} {f : Bool}, l.foldl (fU p) f = (f || l.any p)
  | [], f => by rw [List.any_nil, Bool.or_false]; rfl
  | b :: l, f => by rw [List.foldl_cons, fU_fold, List.any_cons]; unfold fU; rw [Bool.or_assoc]
/-- found: both marks are set -/
theorem fR_set {l : Nat} (h : MH) : fR true (zsI (zsI h 62 6 (nI 1)) 62 7 (nI 1)) ∧ wFr 62 l h (zsI (zsI h 62 6 (nI 1)) 62 7 (nI 1)) := by
  refine ⟨⟨by rw [zI_s]; rfl, by rw [zI_k _ _ _ (by omega), zI_s]; rfl⟩, (zF_I _ _ _ (by omega)).trans (zF_I _ _ _ (by omega)), fun j hj => ?_, fun i hi => ?_, rfl⟩
  · rw [zI_k _ _ _ (by omega), zI_k _ _ _ (by omega)]
  · rw [zI_o _ _ _ (by omega), zI_o _ _ _ (by omega)]
theorem c_lbt {n : Nat} {out : Bool} {b : WN} {h : MH} {d T : Nat} {Q : Option MV → MH → Prop} (hr : zRf h) (hI : wI n b) (hM : wMo b) (hw : wC n out b h) (h5 : h.1 62 5 = nI T) (hT : T ≤ 400000) (kk : Q (some (.inl (bI (bet T b)))) h) : Con mX9_liesBetween d 0 0 [.inr (.inr 62), .inl (nI b.1)] h Q := by
  have hl : b.1 ≤ 4 := by have := hI.2.1; omega
  have bS := hI.2.2.2
  have em := (hw.2.2 b.1 (Nat.le_refl _)).1
  refine u_X9_liesBetween ?_
  have L : ∀ m i, i + m = b.1 → (∀ j, j < i → ¬ b.2.2.2 j + T = b.2.2.2 b.1) → J mX9_liesBetween d 0 0 Q 0 0 2 [some (.inr (.inr 62)), some (.inl (nI b.1)), some (.inl (nI i))] [] h := by
    intro m
    induction m with
    | zero =>
      intro i hi no
      refine u_X9_liesBetween_2 hr ?_
      simp (disch := omega) only [xle_t, xle_f, xlt_t, xlt_f, xeq_t, xeq_f, xle0_t, xle0_f, xlt0_f, x0lt_t, x0lt_f, x0le_t, xeq0_t, xeq0_f, xin, xem_f, xme_f, xlem_f, xlm_f, xml_t, xmle_t, nI_clamp, nI_add, pk_mul, pk_sub, zI_s, zI_k, zI_o, zL_s, zL_k, zL_o, zR_s, zR_k, zR_o, zIL, zIR, zIN, zLI, zLR, zLN, zRI, zRL, zRN, true_and, and_true, not_true_eq_false, not_false_eq_true, true_implies, false_implies, implies_true, forall_const, if_true, if_false, eq_self, false_and, and_false, implies_true, nI_l, ylle_t, ylle_f, xcl_t, xcl_f]
      have : bet T b = false := decide_eq_false (fun ⟨j, j1, j2⟩ => no j (by omega) j2)
      rw [this] at kk
      exact kk
    | succ m ih =>
      intro i hi no
      have ei := (hw.2.2 i (by omega)).1
      have le := hM.le (i := i) (j := b.1) (by omega) (Nat.le_refl _)
      refine u_X9_liesBetween_2 hr ?_
      by_cases z : b.2.2.2 i + T = b.2.2.2 b.1
      · simp (disch := omega) only [xle_t, xle_f, xlt_t, xlt_f, xeq_t, xeq_f, xle0_t, xle0_f, xlt0_f, x0lt_t, x0lt_f, x0le_t, xeq0_t, xeq0_f, xin, xem_f, xme_f, xlem_f, xlm_f, xml_t, xmle_t, nI_clamp, nI_add, pk_mul, pk_sub, zI_s, zI_k, zI_o, zL_s, zL_k, zL_o, zR_s, zR_k, zR_o, zIL, zIR, zIN, zLI, zLR, zLN, zRI, zRL, zRN, true_and, and_true, not_true_eq_false, not_false_eq_true, true_implies, false_implies, implies_true, forall_const, if_true, if_false, eq_self, false_and, and_false, implies_true, nI_l, ylle_t, ylle_f, xcl_t, xcl_f, em, ei, h5]
        have : bet T b = true := decide_eq_true ⟨i, by omega, z⟩
        rw [this] at kk
        exact kk
      · simp (disch := omega) only [xle_t, xle_f, xlt_t, xlt_f, xeq_t, xeq_f, xle0_t, xle0_f, xlt0_f, x0lt_t, x0lt_f, x0le_t, xeq0_t, xeq0_f, xin, xem_f, xme_f, xlem_f, xlm_f, xml_t, xmle_t, nI_clamp, nI_add, pk_mul, pk_sub, zI_s, zI_k, zI_o, zL_s, zL_k, zL_o, zR_s, zR_k, zR_o, zIL, zIR, zIN, zLI, zLR, zLN, zRI, zRL, zRN, true_and, and_true, not_true_eq_false, not_false_eq_true, true_implies, false_implies, implies_true, forall_const, if_true, if_false, eq_self, false_and, and_false, implies_true, nI_l, ylle_t, ylle_f, xcl_t, xcl_f, em, ei, h5]
        refine ih (i + 1) (by omega) (fun j hj => ?_)
        by_cases y : j = i
        · rw [y]; exact z
        · exact no j (by omega)
  exact L b.1 0 (by omega) (fun j hj => by omega)
theorem c_arB {n T : Nat} {out : Bool} (hTb : T ≤ 400000) : ∀ (k e : Nat) (a : WN) (W : Nat), wI n a → wMo a → 0 < W → W < 3 ^ n → wOk n out (a.2.1 a.1) (a.2.2.1 a.1) (wG n W) = true → a.1 + 1 + k = 4 → 3 * k + 1 ≤ e → ∀ (s : Bool) (h : MH) (sp : Int32), zRf h → wC n out (wCh n a W) h → h.1 62 4 = nI 4 → h.1 62 5 = nI T → fR s h → s = false → ∀ Q : Option MV → MH → Prop, (∀ h', zRf h' → wFr 62 (a.1 + 1) h h' → fR ((wCh n a W :: wNd n out k (wCh n a W)).foldl (fU (bet T)) s) h' → Q none h') → Con mX9_arrive (e + 3) 0 0 [.inr (.inr 62), .inl (nI (a.1 + 1)), .inl (nI (fb_sm ((wCh n a W).2.1 (a.1 + 1)) n)), .inl sp] h Q := by
  intro k
  induction k with
  | zero =>
    intro e a W hI hM w0 w3 ok hk he s h sp hr hw t4 t5 hR hv Q kk
    have hI' := (wCh_I hI w0 w3 ok).1
    have hM' := wMo_ch hI hM w0 w3 ok
    refine u_X9_arrive hr ?_
    rw [t4]
    refine arr_4 (u_X9_arrive_63 (d1' := e + 2) hr (by omega) (c_lbt (b := wCh n a W) hr hI' hM' hw t5 hTb ?_))
    refine u_X9_arrive_68 (d1' := e + 2) hr (by omega) ?_
    cases hb : bet T (wCh n a W) with
    | true =>
      rw [show bI true = nI 1 from rfl]
      simp (disch := omega) only [xle_t, xle_f, xlt_t, xlt_f, xeq_t, xeq_f, xle0_t, xle0_f, xlt0_f, x0lt_t, x0lt_f, x0le_t, xeq0_t, xeq0_f, xin, xem_f, xme_f, xlem_f, xlm_f, xml_t, xmle_t, nI_clamp, nI_add, pk_mul, pk_sub, zI_s, zI_k, zI_o, zL_s, zL_k, zL_o, zR_s, zR_k, zR_o, zIL, zIR, zIN, zLI, zLR, zLN, zRI, zRL, zRN, true_and, and_true, not_true_eq_false, not_false_eq_true, true_implies, false_implies, implies_true, forall_const, if_true, if_false, eq_self, false_and, and_false, implies_true, nI_l, ylle_t, ylle_f, xcl_t, xcl_f]
      refine kk _ hr (fR_set h).2 ?_
      have : (wCh n a W :: wNd n out 0 (wCh n a W)).foldl (fU (bet T)) s = true := by
        rw [List.foldl_cons, fU_fold, fU, hb, Bool.or_true, Bool.true_or]
      rw [this]
      exact (fR_set (l := 0) h).1
    | false =>
      rw [show bI false = nI 0 from rfl]
      simp (disch := omega) only [xle_t, xle_f, xlt_t, xlt_f, xeq_t, xeq_f, xle0_t, xle0_f, xlt0_f, x0lt_t, x0lt_f, x0le_t, xeq0_t, xeq0_f, xin, xem_f, xme_f, xlem_f, xlm_f, xml_t, xmle_t, nI_clamp, nI_add, pk_mul, pk_sub, zI_s, zI_k, zI_o, zL_s, zL_k, zL_o, zR_s, zR_k, zR_o, zIL, zIR, zIN, zLI, zLR, zLN, zRI, zRL, zRN, true_and, and_true, not_true_eq_false, not_false_eq_true, true_implies, false_implies, implies_true, forall_const, if_true, if_false, eq_self, false_and, and_false, implies_true, nI_l, ylle_t, ylle_f, xcl_t, xcl_f]
      refine c_go (a := wCh n a W) (k := 0) (w := 62) (d := e) (U := fU (bet T)) (ov := fun f => f) (R := fR) (s := s) hr hI' hk hw (Or.inl rfl) hR hv fU_ov (fun _ _ q => q.1) fR_s (by omega) (fun k' q => by omega) ?_
      intro h' r' f' R'
      refine u_X9_arrive_91 (kk h' r' f' ?_)
      rw [List.foldl_cons, fU, hb, Bool.or_false]
      exact R'
  | succ k ih =>
    intro e a W hI hM w0 w3 ok hk he s h sp hr hw t4 t5 hR hv Q kk
    have hI' := (wCh_I hI w0 w3 ok).1
    have hM' := wMo_ch hI hM w0 w3 ok
    obtain ⟨e, rfl⟩ : ∃ e', e = e' + 3 := ⟨e - 3, by omega⟩
    refine u_X9_arrive hr ?_
    rw [t4]
    refine arr_4 (u_X9_arrive_63 (d1' := e + 5) hr (by omega) (c_lbt (b := wCh n a W) hr hI' hM' hw t5 hTb ?_))
    refine u_X9_arrive_68 (d1' := e + 5) hr (by omega) ?_
    cases hb : bet T (wCh n a W) with
    | true =>
      rw [show bI true = nI 1 from rfl]
      simp (disch := omega) only [xle_t, xle_f, xlt_t, xlt_f, xeq_t, xeq_f, xle0_t, xle0_f, xlt0_f, x0lt_t, x0lt_f, x0le_t, xeq0_t, xeq0_f, xin, xem_f, xme_f, xlem_f, xlm_f, xml_t, xmle_t, nI_clamp, nI_add, pk_mul, pk_sub, zI_s, zI_k, zI_o, zL_s, zL_k, zL_o, zR_s, zR_k, zR_o, zIL, zIR, zIN, zLI, zLR, zLN, zRI, zRL, zRN, true_and, and_true, not_true_eq_false, not_false_eq_true, true_implies, false_implies, implies_true, forall_const, if_true, if_false, eq_self, false_and, and_false, implies_true, nI_l, ylle_t, ylle_f, xcl_t, xcl_f]
      refine kk _ hr (fR_set h).2 ?_
      have : (wCh n a W :: wNd n out (k + 1) (wCh n a W)).foldl (fU (bet T)) s = true := by
        rw [List.foldl_cons, fU_fold, fU, hb, Bool.or_true, Bool.true_or]
      rw [this]
      exact (fR_set (l := 0) h).1
    | false =>
      rw [show bI false = nI 0 from rfl]
      simp (disch := omega) only [xle_t, xle_f, xlt_t, xlt_f, xeq_t, xeq_f, xle0_t, xle0_f, xlt0_f, x0lt_t, x0lt_f, x0le_t, xeq0_t, xeq0_f, xin, xem_f, xme_f, xlem_f, xlm_f, xml_t, xmle_t, nI_clamp, nI_add, pk_mul, pk_sub, zI_s, zI_k, zI_o, zL_s, zL_k, zL_o, zR_s, zR_k, zR_o, zIL, zIR, zIN, zLI, zLR, zLN, zRI, zRL, zRN, true_and, and_true, not_true_eq_false, not_false_eq_true, true_implies, false_implies, implies_true, forall_const, if_true, if_false, eq_self, false_and, and_false, implies_true, nI_l, ylle_t, ylle_f, xcl_t, xcl_f]
      refine c_go (a := wCh n a W) (k := k + 1) (w := 62) (d := e + 3) (U := fU (bet T)) (ov := fun f => f) (R := fR) (s := s) hr hI' hk hw (Or.inl rfl) hR hv fU_ov (fun _ _ q => q.1) fR_s (by omega) ?_ ?_
      · intro k' q W' v0 v3 ok' s' h' r' f' c' R' v' Q' kq
        obtain rfl : k = k' := by omega
        exact ih e (wCh n a W) W' hI' hM' v0 v3 ok' (by rw [wCh_L]; omega) (by omega) s' h' _ r' c' (by rw [f'.2.1 4 (by omega)]; exact t4) (by rw [f'.2.1 5 (by omega)]; exact t5) R' v' Q' kq
      · intro h' r' f' R'
        refine u_X9_arrive_91 (kk h' r' f' ?_)
        rw [List.foldl_cons, fU, hb, Bool.or_false]
        exact R'
