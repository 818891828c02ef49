/-! ===== ways in the reference: seeks ===== -/
section WR
variable {C : CE} {S : Nat} {out : Bool}
def mY (h h' : MH) : Prop := zF (fun a => a ≠ 111 ∧ (a < 127 ∨ 135 < a ∨ a = 133)) h h' ∧ ∀ k, k < 38 ∨ k = 39 ∨ k = 47 ∨ 48 < k → h'.1 111 k = h.1 111 k
theorem mY.rfl {h : MH} : mY h h := ⟨zF.rfl, fun _ _ => Eq.refl _⟩
theorem mY.trans {h h1 h2 : MH} (a : mY h h1) (b : mY h1 h2) : mY h h2 := ⟨a.1.trans b.1, fun k q => (b.2 k q).trans (a.2 k q)⟩
theorem mY.k {h h' : MH} (f : mY h h') : mK h h' := ⟨f.1.weak (fun a q => by omega), f.2 5 (by omega), f.2 13 (by omega), f.2 14 (by omega), f.2 28 (by omega)⟩
theorem wFm.y {l : Nat} {h h' : MH} (f : wFm l h h') : mY h h' := ⟨f.1.weak (fun a q => by omega), fun k q => f.2.1 k (by omega) (by omega)⟩
/-- seeks lays the root: nothing but that -/
def mY0 (h h' : MH) : Prop := zF (fun a => a ≠ 111 ∧ (a < 127 ∨ 131 < a)) h h' ∧ ∀ k, k < 38 ∨ k = 39 ∨ k = 41 ∨ 42 < k → h'.1 111 k = h.1 111 k
theorem mY0.y {h h' : MH} (f : mY0 h h') : mY h h' := ⟨f.1.weak (fun a q => by omega), fun k q => f.2 k (by omega)⟩
def wLm (C : CE) (S c : Nat) (h : MH) : Prop := h.1 111 38 = nI (wN S c) ∧ ∀ j, j < wN S c → h.1 128 j = nI (wX0 C S c j) ∧ h.1 129 j = nI 0
theorem n_sks {kd : Nat} {h : MH} {d : Nat} {Q : Option MV → MH → Prop} (hr : zRf h) (hA : cIn C (h.1 112) 0) (hC : cOK C) (hS : wSet C S) (hd : 2 ≤ d) (kk : ∀ h1, zRf h1 → mY0 h h1 → h1.1 111 40 = nI kd → wQ (wN S 8) out (wRt C S) h1 → ∀ Q' : Option MV → MH → Prop, (∀ h', Q none h' → Q' none h') → Con mX11_goes (d - 1) 0 0 [.inr (.inr 111), .inl (nI 0)] h1 Q') : Con mX11_seeks d 0 0 [.inr (.inr 111), .inl (nI S), .inl (bI out), .inl (nI kd)] h Q := by
  have n8 := hC.1
  have S256 : S < 256 := Nat.lt_of_lt_of_le hS.2.1 (Nat.pow_le_pow_right (by decide) n8 : 2 ^ C.1 ≤ 2 ^ 8)
  refine u_X11_seeks hr ?_
  have L : ∀ m c, c + m = 8 → ∀ h', zRf h' → mY0 h h' → wLm C S c h' → J mX11_seeks d 0 0 Q 0 0 8 [some (.inr (.inr 111)), some (.inl (nI S)), some (.inl (bI out)), some (.inl (nI kd)), some (.inl (nI c))] [] h' := by
    intro m
    induction m with
    | zero =>
      intro c hc h' r' f' l'
      obtain rfl : c = 8 := by omega
      refine u_X11_seeks_8 (d1' := d - 1) (d2' := d - 1) r' (by omega) (by omega) ?_
      simp (disch := omega) only [xle_t, xle_f, xlt_t, xlt_f, xeq_t, xeq_f, xle0_t, xle0_f, xlt0_f, x0lt_t, x0lt_f, x0le_t, xeq0_t, xeq0_f, xin, xem_f, xme_f, xlem_f, xlm_f, xml_t, xmle_t, nI_clamp, nI_add, pk_mul, pk_sub, zI_s, zI_k, zI_o, zL_s, zL_k, zL_o, zR_s, zR_k, zR_o, zIL, zIR, zIN, zLI, zLR, zLN, zRI, zRL, zRN, true_and, and_true, not_true_eq_false, not_false_eq_true, true_implies, false_implies, implies_true, forall_const, if_true, if_false, eq_self, false_and, and_false, implies_true, nI_l, ylle_t, ylle_f, xcl_t, xcl_f]
      refine ⟨bI_or out, ?_⟩
      refine kk _ ?_ ?_ ?_ ?_ _ (fun h'' q => u_X11_seeks_108 q)
      · exact r'
      · refine ⟨(((f'.1.trans (zF_I _ _ _ (by omega))).trans (zF_I _ _ _ (by omega))).trans (zF_I _ _ _ (by omega))).trans (zF_I _ _ _ (by omega)), fun k hk => ?_⟩
        rw [zI_o _ _ _ (by omega), zI_o _ _ _ (by omega), zI_k _ _ _ (by omega), zI_k _ _ _ (by omega)]
        exact f'.2 k hk
      · simp (disch := omega) only [xle_t, xle_f, xlt_t, xlt_f, xeq_t, xeq_f, xle0_t, xle0_f, xlt0_f, x0lt_t, x0lt_f, x0le_t, xeq0_t, xeq0_f, xin, xem_f, xme_f, xlem_f, xlm_f, xml_t, xmle_t, nI_clamp, nI_add, pk_mul, pk_sub, zI_s, zI_k, zI_o, zL_s, zL_k, zL_o, zR_s, zR_k, zR_o, zIL, zIR, zIN, zLI, zLR, zLN, zRI, zRL, zRN, true_and, and_true, not_true_eq_false, not_false_eq_true, true_implies, false_implies, implies_true, forall_const, if_true, if_false, eq_self, false_and, and_false, implies_true, nI_l, ylle_t, ylle_f, xcl_t, xcl_f]
      · refine ⟨by simp (disch := omega) only [xle_t, xle_f, xlt_t, xlt_f, xeq_t, xeq_f, xle0_t, xle0_f, xlt0_f, x0lt_t, x0lt_f, x0le_t, xeq0_t, xeq0_f, xin, xem_f, xme_f, xlem_f, xlm_f, xml_t, xmle_t, nI_clamp, nI_add, pk_mul, pk_sub, zI_s, zI_k, zI_o, zL_s, zL_k, zL_o, zR_s, zR_k, zR_o, zIL, zIR, zIN, zLI, zLR, zLN, zRI, zRL, zRN, true_and, and_true, not_true_eq_false, not_false_eq_true, true_implies, false_implies, implies_true, forall_const, if_true, if_false, eq_self, false_and, and_false, implies_true, nI_l, ylle_t, ylle_f, xcl_t, xcl_f, l'.1], by simp (disch := omega) only [xle_t, xle_f, xlt_t, xlt_f, xeq_t, xeq_f, xle0_t, xle0_f, xlt0_f, x0lt_t, x0lt_f, x0le_t, xeq0_t, xeq0_f, xin, xem_f, xme_f, xlem_f, xlm_f, xml_t, xmle_t, nI_clamp, nI_add, pk_mul, pk_sub, zI_s, zI_k, zI_o, zL_s, zL_k, zL_o, zR_s, zR_k, zR_o, zIL, zIR, zIN, zLI, zLR, zLN, zRI, zRL, zRN, true_and, and_true, not_true_eq_false, not_false_eq_true, true_implies, false_implies, implies_true, forall_const, if_true, if_false, eq_self, false_and, and_false, implies_true, nI_l, ylle_t, ylle_f, xcl_t, xcl_f], fun i hi => ?_, fun i hi => absurd hi (by show ¬ i < 0; omega)⟩
        obtain rfl : i = 0 := Nat.le_zero.mp hi
        refine ⟨by simp (disch := omega) only [xle_t, xle_f, xlt_t, xlt_f, xeq_t, xeq_f, xle0_t, xle0_f, xlt0_f, x0lt_t, x0lt_f, x0le_t, xeq0_t, xeq0_f, xin, xem_f, xme_f, xlem_f, xlm_f, xml_t, xmle_t, nI_clamp, nI_add, pk_mul, pk_sub, zI_s, zI_k, zI_o, zL_s, zL_k, zL_o, zR_s, zR_k, zR_o, zIL, zIR, zIN, zLI, zLR, zLN, zRI, zRL, zRN, true_and, and_true, not_true_eq_false, not_false_eq_true, true_implies, false_implies, implies_true, forall_const, if_true, if_false, eq_self, false_and, and_false, implies_true, nI_l, ylle_t, ylle_f, xcl_t, xcl_f]; rfl, by simp (disch := omega) only [xle_t, xle_f, xlt_t, xlt_f, xeq_t, xeq_f, xle0_t, xle0_f, xlt0_f, x0lt_t, x0lt_f, x0le_t, xeq0_t, xeq0_f, xin, xem_f, xme_f, xlem_f, xlm_f, xml_t, xmle_t, nI_clamp, nI_add, pk_mul, pk_sub, zI_s, zI_k, zI_o, zL_s, zL_k, zL_o, zR_s, zR_k, zR_o, zIL, zIR, zIN, zLI, zLR, zLN, zRI, zRL, zRN, true_and, and_true, not_true_eq_false, not_false_eq_true, true_implies, false_implies, implies_true, forall_const, if_true, if_false, eq_self, false_and, and_false, implies_true, nI_l, ylle_t, ylle_f, xcl_t, xcl_f]; rfl, fun c hc => ?_⟩
        obtain ⟨y1, y2⟩ := l'.2 c hc
        have e9 : wWas (wRt C S) 0 c = 0 := by
          unfold wWas
          split <;> rfl
        rw [Nat.mul_zero, Nat.zero_add, e9]
        simp (disch := omega) only [xle_t, xle_f, xlt_t, xlt_f, xeq_t, xeq_f, xle0_t, xle0_f, xlt0_f, x0lt_t, x0lt_f, x0le_t, xeq0_t, xeq0_f, xin, xem_f, xme_f, xlem_f, xlm_f, xml_t, xmle_t, nI_clamp, nI_add, pk_mul, pk_sub, zI_s, zI_k, zI_o, zL_s, zL_k, zL_o, zR_s, zR_k, zR_o, zIL, zIR, zIN, zLI, zLR, zLN, zRI, zRL, zRN, true_and, and_true, not_true_eq_false, not_false_eq_true, true_implies, false_implies, implies_true, forall_const, if_true, if_false, eq_self, false_and, and_false, implies_true, nI_l, ylle_t, ylle_f, xcl_t, xcl_f, y1, y2]
        rfl
    | succ m ih =>
      intro c hc h' r' f' l'
      obtain ⟨l0, l4⟩ := id l'
      refine u_X11_seeks_8 (d1' := d - 1) (d2' := d - 1) r' (by omega) (by omega) ?_
      by_cases tb : S.testBit c = true
      · have hcC : c < C.1 := Nat.lt_of_not_le fun q => by rw [tb_hi hS.2.1 q] at tb; cases tb
        have bb := xbtS (S := S) (c := c) (by omega) (by omega)
        rw [eq_false (show ¬ S.testBit c = false by rw [tb]; decide)] at bb
        have ns : wN S (c + 1) = wN S c + 1 := by rw [wN_s, if_pos tb]
        have n3 : wN S c < 4 := by
          have := wN_mono (S := S) (show c + 1 ≤ 8 by omega)
          have := hS.2.2
          omega
        simp (disch := omega) only [xle_t, xle_f, xlt_t, xlt_f, xeq_t, xeq_f, xle0_t, xle0_f, xlt0_f, x0lt_t, x0lt_f, x0le_t, xeq0_t, xeq0_f, xin, xem_f, xme_f, xlem_f, xlm_f, xml_t, xmle_t, nI_clamp, nI_add, pk_mul, pk_sub, zI_s, zI_k, zI_o, zL_s, zL_k, zL_o, zR_s, zR_k, zR_o, zIL, zIR, zIN, zLI, zLR, zLN, zRI, zRL, zRN, true_and, and_true, not_true_eq_false, not_false_eq_true, true_implies, false_implies, implies_true, forall_const, if_true, if_false, eq_self, false_and, and_false, implies_true, nI_l, ylle_t, ylle_f, xcl_t, xcl_f, bb, l0]
        refine m_rest (zRf_I r' _ _ _) ?_ hC hcC (by omega) ?_
        · rw [zI_o _ _ _ (by omega), f'.1.i (by omega)]
          exact hA
        refine u_X11_seeks_52 (zRf_I r' _ _ _) ?_
        simp (disch := omega) only [xle_t, xle_f, xlt_t, xlt_f, xeq_t, xeq_f, xle0_t, xle0_f, xlt0_f, x0lt_t, x0lt_f, x0le_t, xeq0_t, xeq0_f, xin, xem_f, xme_f, xlem_f, xlm_f, xml_t, xmle_t, nI_clamp, nI_add, pk_mul, pk_sub, zI_s, zI_k, zI_o, zL_s, zL_k, zL_o, zR_s, zR_k, zR_o, zIL, zIR, zIN, zLI, zLR, zLN, zRI, zRL, zRN, true_and, and_true, not_true_eq_false, not_false_eq_true, true_implies, false_implies, implies_true, forall_const, if_true, if_false, eq_self, false_and, and_false, implies_true, nI_l, ylle_t, ylle_f, xcl_t, xcl_f, l0, zok128 (zRf_I r' 127 (wN S c) (nI c))]
        have xs : wX0 C S (c + 1) = kU (wX0 C S c) (wN S c) (cS C c) := if_pos tb
        refine ih (c + 1) (by omega) _ r' ⟨?_, fun k hk => ?_⟩ ⟨?_, fun j hj => ?_⟩
        · exact (((f'.1.trans (zF_I _ _ _ (by omega))).trans (zF_I _ _ _ (by omega))).trans (zF_I _ _ _ (by omega))).trans (zF_I _ _ _ (by omega))
        · rw [zI_k _ _ _ (by omega), zI_o _ _ _ (by omega), zI_o _ _ _ (by omega), zI_o _ _ _ (by omega)]
          exact f'.2 k hk
        · rw [zI_s, ns]
        · rw [ns] at hj
          rw [xs]
          by_cases y : j = wN S c
          · rw [y, kU_s]
            simp (disch := omega) only [xle_t, xle_f, xlt_t, xlt_f, xeq_t, xeq_f, xle0_t, xle0_f, xlt0_f, x0lt_t, x0lt_f, x0le_t, xeq0_t, xeq0_f, xin, xem_f, xme_f, xlem_f, xlm_f, xml_t, xmle_t, nI_clamp, nI_add, pk_mul, pk_sub, zI_s, zI_k, zI_o, zL_s, zL_k, zL_o, zR_s, zR_k, zR_o, zIL, zIR, zIN, zLI, zLR, zLN, zRI, zRL, zRN, true_and, and_true, not_true_eq_false, not_false_eq_true, true_implies, false_implies, implies_true, forall_const, if_true, if_false, eq_self, false_and, and_false, implies_true, nI_l, ylle_t, ylle_f, xcl_t, xcl_f]
          · rw [kU_o _ _ y]
            obtain ⟨y1, y2⟩ := l4 j (by omega)
            simp (disch := omega) only [xle_t, xle_f, xlt_t, xlt_f, xeq_t, xeq_f, xle0_t, xle0_f, xlt0_f, x0lt_t, x0lt_f, x0le_t, xeq0_t, xeq0_f, xin, xem_f, xme_f, xlem_f, xlm_f, xml_t, xmle_t, nI_clamp, nI_add, pk_mul, pk_sub, zI_s, zI_k, zI_o, zL_s, zL_k, zL_o, zR_s, zR_k, zR_o, zIL, zIR, zIN, zLI, zLR, zLN, zRI, zRL, zRN, true_and, and_true, not_true_eq_false, not_false_eq_true, true_implies, false_implies, implies_true, forall_const, if_true, if_false, eq_self, false_and, and_false, implies_true, nI_l, ylle_t, ylle_f, xcl_t, xcl_f, y1, y2]
      · have tf : S.testBit c = false := Bool.eq_false_iff.mpr tb
        have bb := xbtS (S := S) (c := c) (by omega) (by omega)
        rw [eq_true tf] at bb
        simp (disch := omega) only [xle_t, xle_f, xlt_t, xlt_f, xeq_t, xeq_f, xle0_t, xle0_f, xlt0_f, x0lt_t, x0lt_f, x0le_t, xeq0_t, xeq0_f, xin, xem_f, xme_f, xlem_f, xlm_f, xml_t, xmle_t, nI_clamp, nI_add, pk_mul, pk_sub, zI_s, zI_k, zI_o, zL_s, zL_k, zL_o, zR_s, zR_k, zR_o, zIL, zIR, zIN, zLI, zLR, zLN, zRI, zRL, zRN, true_and, and_true, not_true_eq_false, not_false_eq_true, true_implies, false_implies, implies_true, forall_const, if_true, if_false, eq_self, false_and, and_false, implies_true, nI_l, ylle_t, ylle_f, xcl_t, xcl_f, bb]
        refine ih (c + 1) (by omega) h' r' f' ?_
        have e1 : wN S (c + 1) = wN S c := by rw [wN_s, tf]; rfl
        have e2 : wX0 C S (c + 1) = wX0 C S c := if_neg tb
        unfold wLm
        rw [e1, e2]
        exact l'
  refine L 8 0 (by omega) _ hr ⟨zF_I _ _ _ (by omega), fun k hk => zI_k _ _ _ (by omega)⟩ ⟨?_, fun j hj => ?_⟩
  · rw [zI_s]; rfl
  · exact absurd hj (by show ¬ j < 0; omega)
theorem wRt_3 (hC : cOK C) (hS : wSet C S) : (wRt C S).1 + (3 + 1) = 4 := rfl
theorem n_sk0 {h : MH} {d : Nat} {S0 : Nat → Bool} {Q : Option MV → MH → Prop} (hr : zRf h) (hA : cIn C (h.1 112) 0) (hC : cOK C) (hS : wSet C S) (hd : 8 ≤ d) (h0 : mTb S0 (h.1 132)) (kk : ∀ h', zRf h' → mY h h' → h'.1 111 38 = nI (wN S 8) → (∀ c, c < wN S 8 → h'.1 128 c = nI (wX0 C S 8 c)) → mTb ((wAll C S out).foldl nU S0) (h'.1 132) → Q none h') : Con mX11_seeks d 0 0 [.inr (.inr 111), .inl (nI S), .inl (bI out), .inl (nI 0)] h Q := by
  refine n_sks hr hA hC hS (by omega) (fun h1 r1 f1 e40 q1 Q' hQ' => ?_)
  obtain ⟨e, he⟩ : ∃ e, d - 1 = e + 3 + 1 := ⟨d - 5, by omega⟩
  rw [he]
  refine m_goes (n := wN S 8) (dm := e) (out := out) (h00 := h1) (U := nU) (R := fun s h => mTb s (h.1 132)) (P := fun _ => True) (fun s h h' q f => by rw [f.i (by omega)]; exact q) (fun _ _ _ _ _ _ _ => trivial) ?_ 3 (wRt C S) (wRt_I hC hS) (wRt_F _ C S) trivial rfl S0 h1 r1 wFm.rfl q1 (by rw [f1.1.i (by omega)]; exact h0) Q' ?_
  · intro d' hd' b s h' hI _ _ _ r' f' w' R' Q'' kq
    exact m_mt0 (by omega) hI r' f' w' e40 R' kq
  · intro h' r' f' R'
    have q2 := q1.keep hS.2.2 f' (Nat.le_refl _)
    refine hQ' h' (kk h' r' (f1.y.trans f'.y) q2.1 (fun c hc => ?_) R')
    have := ((q2.2.2.1 0 (Nat.le_refl _)).2.2 c hc).1
    rw [Nat.mul_zero, Nat.zero_add] at this
    exact this
theorem n_sk4 {h : MH} {d T : Nat} {Q : Option MV → MH → Prop} (hr : zRf h) (hA : cIn C (h.1 112) 0) (hC : cOK C) (hS : wSet C S) (hd : 8 ≤ d) (e39 : h.1 111 39 = nI T) (hT : T < 2 ^ 31) (e41 : h.1 111 41 = nI 0) (kk : ∀ h', zRf h' → mY h h' → h'.1 111 41 = bI ((wAll C S out).foldl (sU (wN S 8) 1 T (wAl C S)) none).isSome → Q none h') : Con mX11_seeks d 0 0 [.inr (.inr 111), .inl (nI S), .inl (bI out), .inl (nI 4)] h Q := by
  refine n_sks hr hA hC hS (by omega) (fun h1 r1 f1 e40 q1 Q' hQ' => ?_)
  obtain ⟨e, he⟩ : ∃ e, d - 1 = e + 3 + 1 := ⟨d - 5, by omega⟩
  rw [he]
  refine m_goes (n := wN S 8) (dm := e) (out := out) (h00 := h1) (U := sU (wN S 8) 1 T (wAl C S)) (R := fun s h => h.1 111 41 = bI s.isSome) (P := fun _ => True) (fun s h h' q f => by rw [f.i (by omega)]; exact q) (fun _ _ _ _ _ _ _ => trivial) ?_ 3 (wRt C S) (wRt_I hC hS) (wRt_F _ C S) trivial rfl none h1 r1 wFm.rfl q1 (by rw [f1.2 41 (by omega), e41]; rfl) Q' ?_
  · intro d' hd' b s h' hI _ _ _ r' f' w' R' Q'' kq
    exact m_mt4 rfl (by omega) hI r' f' w' e40 (by rw [f1.2 39 (by omega)]; exact e39) hT R' kq
  · intro h' r' f' R'
    exact hQ' h' (kk h' r' (f1.y.trans f'.y) R')
theorem n_sk1 {h : MH} {d T : Nat} {Q : Option MV → MH → Prop} (hr : zRf h) (hA : cIn C (h.1 112) 0) (hC : cOK C) (hS : wSet C S) (hd : 8 ≤ d) (e39 : h.1 111 39 = nI T) (hT : T < 2 ^ 31) (e41 : h.1 111 41 = nI 0) (kk : ∀ h', zRf h' → mY h h' → h'.1 111 41 = bI ((wAll C S out).any (bet T)) → Q none h') : Con mX11_seeks d 0 0 [.inr (.inr 111), .inl (nI S), .inl (bI out), .inl (nI 1)] h Q := by
  refine n_sks hr hA hC hS (by omega) (fun h1 r1 f1 e40 q1 Q' hQ' => ?_)
  obtain ⟨e, he⟩ : ∃ e, d - 1 = e + 3 + 1 := ⟨d - 5, by omega⟩
  rw [he]
  refine m_goes (n := wN S 8) (dm := e) (out := out) (h00 := h1) (U := fU (bet T)) (R := fun s h => h.1 111 41 = bI s) (P := wMo) (fun s h h' q f => by rw [f.i (by omega)]; exact q) (fun _ _ i p w0 w3 ok => wMo_ch i p w0 w3 ok) ?_ 3 (wRt C S) (wRt_I hC hS) (wRt_F _ C S) (wRt_M C S) rfl false h1 r1 wFm.rfl q1 (by rw [f1.2 41 (by omega), e41]; rfl) Q' ?_
  · intro d' hd' b s h' hI _ _ hM r' f' w' R' Q'' kq
    exact m_mt1 (by omega) hI hM r' f' w' e40 (by rw [f1.2 39 (by omega)]; exact e39) hT R' kq
  · intro h' r' f' R'
    rw [fU_fold, Bool.false_or] at R'
    exact hQ' h' (kk h' r' (f1.y.trans f'.y) R')
theorem n_sk2 {h : MH} {d T : Nat} {Q : Option MV → MH → Prop} (hr : zRf h) (hA : cIn C (h.1 112) 0) (hC : cOK C) (hS : wSet C S) (hd : 8 ≤ d) (e39 : h.1 111 39 = nI T) (hT : T < 2 ^ 31) (e41 : h.1 111 41 = -(nI 1)) (kk : ∀ h', zRf h' → mY h h' → h'.1 111 41 = oI (sB ((wAll C S out).foldl (sU (wN S 8) 2 T (wAl C S)) none)) → Q none h') : Con mX11_seeks d 0 0 [.inr (.inr 111), .inl (nI S), .inl (bI out), .inl (nI 2)] h Q := by
  refine n_sks hr hA hC hS (by omega) (fun h1 r1 f1 e40 q1 Q' hQ' => ?_)
  obtain ⟨e, he⟩ : ∃ e, d - 1 = e + 3 + 1 := ⟨d - 5, by omega⟩
  rw [he]
  refine m_goes (n := wN S 8) (dm := e) (out := out) (h00 := h1) (U := sU (wN S 8) 2 T (wAl C S)) (R := fun s h => h.1 111 41 = oI (sB s) ∧ ∀ v, sB s = some v → v ≤ 400000) (P := fun _ => True) (fun s h h' q f => by rw [f.i (by omega)]; exact q) (fun _ _ _ _ _ _ _ => trivial) ?_ 3 (wRt C S) (wRt_I hC hS) (wRt_F _ C S) trivial rfl none h1 r1 wFm.rfl q1 ⟨by rw [f1.2 41 (by omega), e41]; rfl, fun v q => by cases q⟩ Q' ?_
  · intro d' hd' b s h' hI hF _ _ r' f' w' R' Q'' kq
    exact m_mt2 (by omega) hI hF r' f' w' e40 (by rw [f1.2 39 (by omega)]; exact e39) hT R' kq
  · intro h' r' f' R'
    exact hQ' h' (kk h' r' (f1.y.trans f'.y) R'.1)
theorem n_sk5 {h : MH} {d T : Nat} {Q : Option MV → MH → Prop} (hr : zRf h) (hA : cIn C (h.1 112) 0) (hC : cOK C) (hS : wSet C S) (hd : 8 ≤ d) (e39 : h.1 111 39 = nI T) (hT : T < 2 ^ 31) (e41 : h.1 111 41 = -(nI 1)) (kk : ∀ h', zRf h' → mY h h' → h'.1 111 41 = oI (sB ((wAll C S out).foldl (sU (wN S 8) 3 T (wAl C S)) none)) → Q none h') : Con mX11_seeks d 0 0 [.inr (.inr 111), .inl (nI S), .inl (bI out), .inl (nI 5)] h Q := by
  refine n_sks hr hA hC hS (by omega) (fun h1 r1 f1 e40 q1 Q' hQ' => ?_)
  obtain ⟨e, he⟩ : ∃ e, d - 1 = e + 3 + 1 := ⟨d - 5, by omega⟩
  rw [he]
  refine m_goes (n := wN S 8) (dm := e) (out := out) (h00 := h1) (U := sU (wN S 8) 3 T (wAl C S)) (R := fun s h => h.1 111 41 = oI (sB s) ∧ ∀ v, sB s = some v → v ≤ 400000) (P := wDn (wN S 8) (wX0 C S 8)) (fun s h h' q f => by rw [f.i (by omega)]; exact q) (fun _ _ _ p _ _ _ => wDn_ch p) ?_ 3 (wRt C S) (wRt_I hC hS) (wRt_F _ C S) (wRt_D _ C S) rfl none h1 r1 wFm.rfl q1 ⟨by rw [f1.2 41 (by omega), e41]; rfl, fun v q => by cases q⟩ Q' ?_
  · intro d' hd' b s h' hI _ _ hD r' f' w' R' Q'' kq
    exact m_mt5 (by omega) hI hD rfl (wAl_b hC hS) r' f' w' e40 (by rw [f1.2 39 (by omega)]; exact e39) hT R' kq
  · intro h' r' f' R'
    exact hQ' h' (kk h' r' (f1.y.trans f'.y) R'.1)
theorem n_sk6 {h : MH} {d T : Nat} {Q : Option MV → MH → Prop} (hr : zRf h) (hA : cIn C (h.1 112) 0) (hC : cOK C) (hS : wSet C S) (hd : 8 ≤ d) (e39 : h.1 111 39 = nI T) (hT : T < 2 ^ 31) (e48 : h.1 111 48 = nI 0) (kk : ∀ h', zRf h' → mY h h' → fsR (wN S 8) ((wAll C S out).foldl (sU (wN S 8) 1 T (wAl C S)) none) h' → Q none h') : Con mX11_seeks d 0 0 [.inr (.inr 111), .inl (nI S), .inl (bI out), .inl (nI 6)] h Q := by
  refine n_sks hr hA hC hS (by omega) (fun h1 r1 f1 e40 q1 Q' hQ' => ?_)
  obtain ⟨e, he⟩ : ∃ e, d - 1 = e + 3 + 1 := ⟨d - 5, by omega⟩
  rw [he]
  refine m_goes (n := wN S 8) (dm := e) (out := out) (h00 := h1) (U := sU (wN S 8) 1 T (wAl C S)) (R := fsR (wN S 8)) (P := fun _ => True) ?_ (fun _ _ _ _ _ _ _ => trivial) ?_ 3 (wRt C S) (wRt_I hC hS) (wRt_F _ C S) trivial rfl none h1 r1 wFm.rfl q1 (by show h1.1 111 48 = nI 0; rw [f1.2 48 (by omega)]; exact e48) Q' ?_
  · intro s h h' q f
    rcases s with _ | ⟨be, r, F⟩
    · show h'.1 111 48 = nI 0
      rw [f.i (by omega)]; exact q
    · show h'.1 111 48 = nI r ∧ _
      rw [f.i (by omega), f.i (by omega)]; exact q
  · intro d' hd' b s h' hI _ b1 _ r' f' w' R' Q'' kq
    exact m_mt6 (by omega) hI b1 r' f' w' e40 (by rw [f1.2 39 (by omega)]; exact e39) hT R' kq
  · intro h' r' f' R'
    exact hQ' h' (kk h' r' (f1.y.trans f'.y) R')
theorem n_sk3 {h : MH} {d w : Nat} {v : Nat → Int32} {f0 : Bool} {Q : Option MV → MH → Prop} (hr : zRf h) (hA : cIn C (h.1 112) 0) (hC : cOK C) (hS : wSet C S) (hd : 8 ≤ d) (hw40 : w ≤ 40) (e47 : h.1 111 47 = nI w) (e133 : ∀ i, i < w → h.1 133 i = v i) (e41 : h.1 111 41 = bI f0) (kk : ∀ h', zRf h' → mY h h' → h'.1 111 41 = bI (f0 || (wAll C S out).any (aTd w v)) → Q none h') : Con mX11_seeks d 0 0 [.inr (.inr 111), .inl (nI S), .inl (bI out), .inl (nI 3)] h Q := by
  refine n_sks hr hA hC hS (by omega) (fun h1 r1 f1 e40 q1 Q' hQ' => ?_)
  obtain ⟨e, he⟩ : ∃ e, d - 1 = e + 3 + 1 := ⟨d - 5, by omega⟩
  rw [he]
  refine m_goes (n := wN S 8) (dm := e) (out := out) (h00 := h1) (U := fU (aTd w v)) (R := fun s h => h.1 111 41 = bI s) (P := fun _ => True) (fun s h h' q f => by rw [f.i (by omega)]; exact q) (fun _ _ _ _ _ _ _ => trivial) ?_ 3 (wRt C S) (wRt_I hC hS) (wRt_F _ C S) trivial rfl f0 h1 r1 wFm.rfl q1 (by rw [f1.2 41 (by omega), e41]) Q' ?_
  · intro d' hd' b s h' hI _ _ _ r' f' w' R' Q'' kq
    exact m_mt3 (by omega) hI hw40 r' f' w' e40 (by rw [f1.2 47 (by omega)]; exact e47) (fun i hi => by rw [f1.1.i (by omega)]; exact e133 i hi) R' kq
  · intro h' r' f' R'
    rw [fU_fold] at R'
    exact hQ' h' (kk h' r' (f1.y.trans f'.y) R')
end WR
