/-! ===== the reference reader's smaller steps ===== -/
def mR (f : Nat → Nat) (n : Nat) (t : TK) (h : MH) : Prop := zRf h ∧ kM f n h ∧ mQ n t h ∧ kGd f n t ∧ h.1 111 11 = nI 0
def mV (h h' : MH) : Prop := zF (fun a => a ≠ 111 ∧ a ≠ 115) h h' ∧ ∀ k, (k < 6 ∨ k = 8 ∨ 12 < k) → h'.1 111 k = h.1 111 k
theorem mV.rfl {h : MH} : mV h h := ⟨zF.rfl, fun _ _ => Eq.refl _⟩
theorem mV.trans {h h1 h2 : MH} (a : mV h h1) (b : mV h1 h2) : mV h h2 := ⟨a.1.trans b.1, fun k q => (b.2 k q).trans (a.2 k q)⟩
theorem mN.v {h h' : MH} (a : mN h h') : mV h h' := ⟨a.1.weak (fun a q => q.1), fun k q => a.2 k (by omega) (by omega) (by omega) (by omega)⟩
theorem zI_p (h : MH) {a b : Nat} (k : Nat) (v : Int32) (j : Nat) (hb : b ≠ a) : (zsI h a k v).1 b j = h.1 b j := by rw [zI_o _ _ _ hb]
theorem mV_5 (h : MH) (k : Nat) (v : Int32) : mV h (zsI h 115 k v) := ⟨zF_I _ _ _ (by omega), fun j q => zI_p _ _ _ _ (by decide)⟩
theorem mV_1 (h : MH) {k : Nat} (v : Int32) (hk : 5 < k ∧ k ≠ 8 ∧ k ≤ 12) : mV h (zsI h 111 k v) := ⟨zF_I _ _ _ (by omega), fun j q => zI_k _ _ _ (by omega)⟩
theorem n_nxt {f : Nat → Nat} {n : Nat} {t : TK} {h : MH} {d : Nat} {Q : Option MV → MH → Prop} (hZ : kStr) (R : mR f n t h) (hd : 12 ≤ d) (kk : ∀ h', mR f n (kNx f n t) h' → mN h h' → Q none h') : Con mX11_next d 0 0 [.inr (.inr 111)] h Q := by
  obtain ⟨hr, hk, hq, hG, h0⟩ := R
  refine n_adv hZ hr hk hG.2.2.1 hq.1 hq.2.2.1 hd (fun h' r' f' q' => ?_)
  exact kk h' ⟨r', hk.keep (f'.1.i (by decide)), q', kGd_k f hG.2.2.1 hk.1, (f'.2 11 (by decide) (by decide) (by decide) (by decide)).trans h0⟩ f'
/-- the heap after a refusal -/
def mfH (h : MH) (e : Nat × Nat) : MH := zsI (zsI h 111 11 (nI e.1)) 111 12 (nI e.2)
theorem mfH_v (h : MH) (e : Nat × Nat) : mV h (mfH h e) := (mV_1 h _ (by omega)).trans (mV_1 _ _ (by omega))
theorem mfH_1 (h : MH) (e : Nat × Nat) : (mfH h e).1 111 11 = nI e.1 := by unfold mfH; rw [zI_k _ _ _ (by decide), zI_s]
theorem mfH_2 (h : MH) (e : Nat × Nat) : (mfH h e).1 111 12 = nI e.2 := by unfold mfH; rw [zI_s]
theorem pFl_1 (t : TK) {k : Nat} (h1 : 1 ≤ k) (h4 : k ≤ 4) : 1 ≤ (pFl t k).1 ∧ (pFl t k).1 ≤ 4 := by
  unfold pFl
  by_cases q : t.1 = 15
  · simp only [q, if_true]; omega
  · simp only [q, if_false]; omega
theorem mf_at {f : Nat → Nat} {n : Nat} {t : TK} {h : MH} (R : mR f n t h) (k : Nat) : zsI (zsI h 111 11 (nI (if t.1 = 15 then 1 else k))) 111 12 (nI t.2.1) = mfH h (pFl t k) := rfl
theorem n_takes {f : Nat → Nat} {n : Nat} {t : TK} {h : MH} {d lo hi : Nat} {Q : Option MV → MH → Prop} (hZ : kStr) (R : mR f n t h) (hlo : lo ≤ 999) (hhi : hi ≤ 999) (hd : 13 ≤ d) (k0 : ∀ e v, pNum t lo hi = .inl e → (1 ≤ e.1 ∧ e.1 ≤ 4) → Q (some (.inl v)) (mfH h e)) (k1 : ∀ v h', pNum t lo hi = .inr v → mR f n (kNx f n t) h' → mN h h' → Q (some (.inl (nI v))) h') : Con mX11_takes d 0 0 [.inr (.inr 111), .inl (nI lo), .inl (nI hi)] h Q := by
  obtain ⟨hr, hk, ⟨q8, q6, q7, q9, q10⟩, hG, h0⟩ := R
  have h15 := hG.1
  refine u_X11_takes (d1' := 12) (d2' := 12) (d3' := 12) (d4' := 12) (d5' := 12) (d6' := 12) (d7' := 12) hr (by omega) (by omega) (by omega) (by omega) (by omega) (by omega) (by omega) (by omega) ?_
  unfold pNum at k0 k1
  by_cases c12 : t.1 = 12
  · have e10 := q10 c12
    have b10 := hG.2.2.2.2 c12
    simp only [if_pos c12] at k0 k1
    by_cases c : lo ≤ t.2.2.2 ∧ t.2.2.2 ≤ hi
    · simp only [if_pos c] at k1
      have c1 := c.1
      have c2 := c.2
      simp (disch := omega) only [xle_t, xle_f, xlt_t, xlt_f, xeq_t, xeq_f, xle0_t, xle0_f, xlt0_f, x0lt_t, x0lt_f, x0le_t, xeq0_t, xeq0_f, xin, xem_f, xme_f, xlem_f, xlm_f, xml_t, xmle_t, nI_clamp, nI_add, pk_mul, pk_sub, zI_s, zI_k, zI_o, zL_s, zL_k, zL_o, zR_s, zR_k, zR_o, zIL, zIR, zIN, zLI, zLR, zLN, zRI, zRL, zRN, true_and, and_true, not_true_eq_false, not_false_eq_true, true_implies, false_implies, implies_true, forall_const, if_true, if_false, eq_self, false_and, and_false, implies_true, nI_l, ylle_t, ylle_f, xcl_t, xcl_f, h0, q9, c12, e10]
      refine n_nxt hZ ⟨hr, hk, ⟨q8, q6, q7, q9, q10⟩, hG, h0⟩ (by omega) (fun h1 R1 f1 => ?_)
      refine u_X11_takes_53 ?_
      exact k1 _ h1 rfl R1 f1
    · simp only [if_neg c] at k0
      have kf := fun v => k0 (pFl t 3) v rfl (pFl_1 t (by omega) (by omega))
      unfold pFl at kf
      rw [if_neg (by omega)] at kf
      unfold mfH at kf
      by_cases c1 : lo ≤ t.2.2.2
      · have c2 : ¬ t.2.2.2 ≤ hi := fun y => c ⟨c1, y⟩
        simp (disch := omega) only [xle_t, xle_f, xlt_t, xlt_f, xeq_t, xeq_f, xle0_t, xle0_f, xlt0_f, x0lt_t, x0lt_f, x0le_t, xeq0_t, xeq0_f, xin, xem_f, xme_f, xlem_f, xlm_f, xml_t, xmle_t, nI_clamp, nI_add, pk_mul, pk_sub, zI_s, zI_k, zI_o, zL_s, zL_k, zL_o, zR_s, zR_k, zR_o, zIL, zIR, zIN, zLI, zLR, zLN, zRI, zRL, zRN, true_and, and_true, not_true_eq_false, not_false_eq_true, true_implies, false_implies, implies_true, forall_const, if_true, if_false, eq_self, false_and, and_false, implies_true, nI_l, ylle_t, ylle_f, xcl_t, xcl_f, h0, q9, c12, e10, q6]
        exact kf _
      · simp (disch := omega) only [xle_t, xle_f, xlt_t, xlt_f, xeq_t, xeq_f, xle0_t, xle0_f, xlt0_f, x0lt_t, x0lt_f, x0le_t, xeq0_t, xeq0_f, xin, xem_f, xme_f, xlem_f, xlm_f, xml_t, xmle_t, nI_clamp, nI_add, pk_mul, pk_sub, zI_s, zI_k, zI_o, zL_s, zL_k, zL_o, zR_s, zR_k, zR_o, zIL, zIR, zIN, zLI, zLR, zLN, zRI, zRL, zRN, true_and, and_true, not_true_eq_false, not_false_eq_true, true_implies, false_implies, implies_true, forall_const, if_true, if_false, eq_self, false_and, and_false, implies_true, nI_l, ylle_t, ylle_f, xcl_t, xcl_f, h0, q9, c12, e10, q6]
        exact kf _
  · simp only [if_neg c12] at k0
    have kf := fun v => k0 (pFl t 2) v rfl (pFl_1 t (by omega) (by omega))
    unfold pFl mfH at kf
    by_cases c15 : t.1 = 15
    · rw [if_pos c15] at kf
      simp (disch := omega) only [xle_t, xle_f, xlt_t, xlt_f, xeq_t, xeq_f, xle0_t, xle0_f, xlt0_f, x0lt_t, x0lt_f, x0le_t, xeq0_t, xeq0_f, xin, xem_f, xme_f, xlem_f, xlm_f, xml_t, xmle_t, nI_clamp, nI_add, pk_mul, pk_sub, zI_s, zI_k, zI_o, zL_s, zL_k, zL_o, zR_s, zR_k, zR_o, zIL, zIR, zIN, zLI, zLR, zLN, zRI, zRL, zRN, true_and, and_true, not_true_eq_false, not_false_eq_true, true_implies, false_implies, implies_true, forall_const, if_true, if_false, eq_self, false_and, and_false, implies_true, nI_l, ylle_t, ylle_f, xcl_t, xcl_f, h0, q9, c15, q6]
      exact kf _
    · rw [if_neg c15] at kf
      simp (disch := omega) only [xle_t, xle_f, xlt_t, xlt_f, xeq_t, xeq_f, xle0_t, xle0_f, xlt0_f, x0lt_t, x0lt_f, x0le_t, xeq0_t, xeq0_f, xin, xem_f, xme_f, xlem_f, xlm_f, xml_t, xmle_t, nI_clamp, nI_add, pk_mul, pk_sub, zI_s, zI_k, zI_o, zL_s, zL_k, zL_o, zR_s, zR_k, zR_o, zIL, zIR, zIN, zLI, zLR, zLN, zRI, zRL, zRN, true_and, and_true, not_true_eq_false, not_false_eq_true, true_implies, false_implies, implies_true, forall_const, if_true, if_false, eq_self, false_and, and_false, implies_true, nI_l, ylle_t, ylle_f, xcl_t, xcl_f, h0, q9, c12, c15, q6]
      exact kf _
theorem n_takesW {h : MH} {d e : Nat} {lo hi : Int32} {Q : Option MV → MH → Prop} (hr : zRf h) (h0 : h.1 111 11 = nI e) (he : 1 ≤ e ∧ e ≤ 4) (hd : 1 ≤ d) (kk : Q (some (.inl (h.1 111 10))) h) : Con mX11_takes d 0 0 [.inr (.inr 111), .inl lo, .inl hi] h Q := by
  refine u_X11_takes (d1' := 0) (d2' := 0) (d3' := 0) (d4' := 0) (d5' := 0) (d6' := 0) (d7' := 0) hr (by omega) (by omega) (by omega) (by omega) (by omega) (by omega) (by omega) (by omega) ?_
  simp (disch := omega) only [xle_t, xle_f, xlt_t, xlt_f, xeq_t, xeq_f, xle0_t, xle0_f, xlt0_f, x0lt_t, x0lt_f, x0le_t, xeq0_t, xeq0_f, xin, xem_f, xme_f, xlem_f, xlm_f, xml_t, xmle_t, nI_clamp, nI_add, pk_mul, pk_sub, zI_s, zI_k, zI_o, zL_s, zL_k, zL_o, zR_s, zR_k, zR_o, zIL, zIR, zIN, zLI, zLR, zLN, zRI, zRL, zRN, true_and, and_true, not_true_eq_false, not_false_eq_true, true_implies, false_implies, implies_true, forall_const, if_true, if_false, eq_self, false_and, and_false, implies_true, nI_l, ylle_t, ylle_f, xcl_t, xcl_f, h0]
  exact kk
theorem n_eats {f : Nat → Nat} {n : Nat} {t : TK} {h : MH} {d w : Nat} {Q : Option MV → MH → Prop} (hZ : kStr) (R : mR f n t h) (hw : w ≤ 15) (hd : 13 ≤ d) (k0 : ¬ t.1 = w → Q (some (.inl (nI 0))) h) (k1 : ∀ h', t.1 = w → mR f n (kNx f n t) h' → mN h h' → Q (some (.inl (nI 1))) h') : Con mX11_eats d 0 0 [.inr (.inr 111), .inl (nI w)] h Q := by
  have R0 := R
  obtain ⟨hr, hk, ⟨q8, q6, q7, q9, q10⟩, hG, h0⟩ := R
  have h15 := hG.1
  refine u_X11_eats (d1' := 12) hr (by omega) (by omega) ?_
  by_cases c : t.1 = w
  · simp (disch := omega) only [xle_t, xle_f, xlt_t, xlt_f, xeq_t, xeq_f, xle0_t, xle0_f, xlt0_f, x0lt_t, x0lt_f, x0le_t, xeq0_t, xeq0_f, xin, xem_f, xme_f, xlem_f, xlm_f, xml_t, xmle_t, nI_clamp, nI_add, pk_mul, pk_sub, zI_s, zI_k, zI_o, zL_s, zL_k, zL_o, zR_s, zR_k, zR_o, zIL, zIR, zIN, zLI, zLR, zLN, zRI, zRL, zRN, true_and, and_true, not_true_eq_false, not_false_eq_true, true_implies, false_implies, implies_true, forall_const, if_true, if_false, eq_self, false_and, and_false, implies_true, nI_l, ylle_t, ylle_f, xcl_t, xcl_f, h0, q9, c]
    refine n_nxt hZ R0 (by omega) (fun h1 R1 f1 => ?_)
    exact u_X11_eats_14 (k1 h1 c R1 f1)
  · simp (disch := omega) only [xle_t, xle_f, xlt_t, xlt_f, xeq_t, xeq_f, xle0_t, xle0_f, xlt0_f, x0lt_t, x0lt_f, x0le_t, xeq0_t, xeq0_f, xin, xem_f, xme_f, xlem_f, xlm_f, xml_t, xmle_t, nI_clamp, nI_add, pk_mul, pk_sub, zI_s, zI_k, zI_o, zL_s, zL_k, zL_o, zR_s, zR_k, zR_o, zIL, zIR, zIN, zLI, zLR, zLN, zRI, zRL, zRN, true_and, and_true, not_true_eq_false, not_false_eq_true, true_implies, false_implies, implies_true, forall_const, if_true, if_false, eq_self, false_and, and_false, implies_true, nI_l, ylle_t, ylle_f, xcl_t, xcl_f, h0, q9, c]
    exact k0 c
theorem n_eatsW {h : MH} {d e : Nat} {w : Int32} {Q : Option MV → MH → Prop} (hr : zRf h) (h0 : h.1 111 11 = nI e) (he : 1 ≤ e ∧ e ≤ 4) (hd : 1 ≤ d) (kk : Q (some (.inl (nI 0))) h) : Con mX11_eats d 0 0 [.inr (.inr 111), .inl w] h Q := by
  refine u_X11_eats (d1' := 0) hr (by omega) (by omega) ?_
  simp (disch := omega) only [xle_t, xle_f, xlt_t, xlt_f, xeq_t, xeq_f, xle0_t, xle0_f, xlt0_f, x0lt_t, x0lt_f, x0le_t, xeq0_t, xeq0_f, xin, xem_f, xme_f, xlem_f, xlm_f, xml_t, xmle_t, nI_clamp, nI_add, pk_mul, pk_sub, zI_s, zI_k, zI_o, zL_s, zL_k, zL_o, zR_s, zR_k, zR_o, zIL, zIR, zIN, zLI, zLR, zLN, zRI, zRL, zRN, true_and, and_true, not_true_eq_false, not_false_eq_true, true_implies, false_implies, implies_true, forall_const, if_true, if_false, eq_self, false_and, and_false, implies_true, nI_l, ylle_t, ylle_f, xcl_t, xcl_f, h0]
  exact kk
theorem n_needs {f : Nat → Nat} {n : Nat} {t : TK} {h : MH} {d w : Nat} {Q : Option MV → MH → Prop} (hZ : kStr) (R : mR f n t h) (hw : w ≤ 15) (hd : 14 ≤ d) (k0 : ¬ t.1 = w → Q none (mfH h (pFl t 2))) (k1 : ∀ h', t.1 = w → mR f n (kNx f n t) h' → mN h h' → Q none h') : Con mX11_needs d 0 0 [.inr (.inr 111), .inl (nI w)] h Q := by
  refine u_X11_needs (d1' := 13) R.1 (by omega) ?_
  refine n_eats hZ R hw (by omega) (fun c => ?_) (fun h1 c R1 f1 => ?_)
  · obtain ⟨hr, hk, ⟨q8, q6, q7, q9, q10⟩, hG, h0⟩ := R
    have h15 := hG.1
    have kf := k0 c
    unfold pFl mfH at kf
    refine u_X11_needs_5 hr (by omega) ?_
    by_cases c15 : t.1 = 15
    · rw [if_pos c15] at kf
      simp (disch := omega) only [xle_t, xle_f, xlt_t, xlt_f, xeq_t, xeq_f, xle0_t, xle0_f, xlt0_f, x0lt_t, x0lt_f, x0le_t, xeq0_t, xeq0_f, xin, xem_f, xme_f, xlem_f, xlm_f, xml_t, xmle_t, nI_clamp, nI_add, pk_mul, pk_sub, zI_s, zI_k, zI_o, zL_s, zL_k, zL_o, zR_s, zR_k, zR_o, zIL, zIR, zIN, zLI, zLR, zLN, zRI, zRL, zRN, true_and, and_true, not_true_eq_false, not_false_eq_true, true_implies, false_implies, implies_true, forall_const, if_true, if_false, eq_self, false_and, and_false, implies_true, nI_l, ylle_t, ylle_f, xcl_t, xcl_f, h0, q9, c15, q6]
      exact kf
    · rw [if_neg c15] at kf
      simp (disch := omega) only [xle_t, xle_f, xlt_t, xlt_f, xeq_t, xeq_f, xle0_t, xle0_f, xlt0_f, x0lt_t, x0lt_f, x0le_t, xeq0_t, xeq0_f, xin, xem_f, xme_f, xlem_f, xlm_f, xml_t, xmle_t, nI_clamp, nI_add, pk_mul, pk_sub, zI_s, zI_k, zI_o, zL_s, zL_k, zL_o, zR_s, zR_k, zR_o, zIL, zIR, zIN, zLI, zLR, zLN, zRI, zRL, zRN, true_and, and_true, not_true_eq_false, not_false_eq_true, true_implies, false_implies, implies_true, forall_const, if_true, if_false, eq_self, false_and, and_false, implies_true, nI_l, ylle_t, ylle_f, xcl_t, xcl_f, h0, q9, c15, q6]
      exact kf
  · refine u_X11_needs_5 R1.1 (by omega) ?_
    simp (disch := omega) only [xle_t, xle_f, xlt_t, xlt_f, xeq_t, xeq_f, xle0_t, xle0_f, xlt0_f, x0lt_t, x0lt_f, x0le_t, xeq0_t, xeq0_f, xin, xem_f, xme_f, xlem_f, xlm_f, xml_t, xmle_t, nI_clamp, nI_add, pk_mul, pk_sub, zI_s, zI_k, zI_o, zL_s, zL_k, zL_o, zR_s, zR_k, zR_o, zIL, zIR, zIN, zLI, zLR, zLN, zRI, zRL, zRN, true_and, and_true, not_true_eq_false, not_false_eq_true, true_implies, false_implies, implies_true, forall_const, if_true, if_false, eq_self, false_and, and_false, implies_true, nI_l, ylle_t, ylle_f, xcl_t, xcl_f]
    exact k1 h1 c R1 f1
theorem n_needsW {h : MH} {d e : Nat} {w : Int32} {Q : Option MV → MH → Prop} (hr : zRf h) (h0 : h.1 111 11 = nI e) (he : 1 ≤ e ∧ e ≤ 4) (hd : 2 ≤ d) (kk : Q none h) : Con mX11_needs d 0 0 [.inr (.inr 111), .inl w] h Q := by
  refine u_X11_needs (d1' := 1) hr (by omega) ?_
  refine n_eatsW hr h0 he (by omega) ?_
  refine u_X11_needs_5 hr (by omega) ?_
  simp (disch := omega) only [xle_t, xle_f, xlt_t, xlt_f, xeq_t, xeq_f, xle0_t, xle0_f, xlt0_f, x0lt_t, x0lt_f, x0le_t, xeq0_t, xeq0_f, xin, xem_f, xme_f, xlem_f, xlm_f, xml_t, xmle_t, nI_clamp, nI_add, pk_mul, pk_sub, zI_s, zI_k, zI_o, zL_s, zL_k, zL_o, zR_s, zR_k, zR_o, zIL, zIR, zIN, zLI, zLR, zLN, zRI, zRL, zRN, true_and, and_true, not_true_eq_false, not_false_eq_true, true_implies, false_implies, implies_true, forall_const, if_true, if_false, eq_self, false_and, and_false, implies_true, nI_l, ylle_t, ylle_f, xcl_t, xcl_f, h0]
  exact kk
theorem n_begins {f : Nat → Nat} {n : Nat} {h : MH} {d : Nat} {Q : Option MV → MH → Prop} (hZ : kStr) (hr : zRf h) (hk : kM f n h) (hd : 13 ≤ d) (kk : ∀ h', mR f n (kTk f n 0) h' → zF (fun a => a ≠ 111 ∧ a ≠ 115) h h' → (∀ k, (k < 5 ∨ 12 < k) → h'.1 111 k = h.1 111 k) → h'.1 111 5 = nI 0 → (∀ k, k < 236 → h'.1 115 k = nI 0) → Q none h') : Con mX11_begins d 0 0 [.inr (.inr 111), .inl (nI n)] h Q := by
  have h4 := hk.1
  refine u_X11_begins hr ?_
  have L : ∀ m i, i + m = 236 → ∀ g, zRf g → zF (fun a => a ≠ 111 ∧ a ≠ 115) h g → (∀ k, (k < 5 ∨ 12 < k) → g.1 111 k = h.1 111 k) → g.1 111 8 = nI n → g.1 111 5 = nI 0 → g.1 111 7 = nI 0 → g.1 111 11 = nI 0 → (∀ k, k < i → g.1 115 k = nI 0) → J mX11_begins d 0 0 Q 0 0 22 [some (.inr (.inr 111)), some (.inl (nI n)), some (.inl (nI i))] [] g := by
    intro m
    induction m with
    | zero =>
      intro i hi g rg fg e1 e8 e5 e7 e11 z
      obtain rfl : i = 236 := by omega
      refine u_X11_begins_22 (d1' := 12) rg (by omega) ?_
      simp (disch := omega) only [xle_t, xle_f, xlt_t, xlt_f, xeq_t, xeq_f, xle0_t, xle0_f, xlt0_f, x0lt_t, x0lt_f, x0le_t, xeq0_t, xeq0_f, xin, xem_f, xme_f, xlem_f, xlm_f, xml_t, xmle_t, nI_clamp, nI_add, pk_mul, pk_sub, zI_s, zI_k, zI_o, zL_s, zL_k, zL_o, zR_s, zR_k, zR_o, zIL, zIR, zIN, zLI, zLR, zLN, zRI, zRL, zRN, true_and, and_true, not_true_eq_false, not_false_eq_true, true_implies, false_implies, implies_true, forall_const, if_true, if_false, eq_self, false_and, and_false, implies_true, nI_l, ylle_t, ylle_f, xcl_t, xcl_f]
      refine n_adv hZ rg (hk.keep (fg.i (by omega))) (Nat.zero_le _) e8 e7 (by omega) (fun h1 r1 f1 q1 => ?_)
      refine u_X11_begins_48 ?_
      refine kk h1 ⟨r1, (hk.keep (fg.i (by omega))).keep (f1.1.i (by omega)), q1, kGd_k f (Nat.zero_le _) h4, (f1.2 11 (by decide) (by decide) (by decide) (by decide)).trans e11⟩ (fg.trans (f1.1.weak (fun a q => q.1))) (fun k q => (f1.2 k (by omega) (by omega) (by omega) (by omega)).trans (e1 k q)) ((f1.2 5 (by decide) (by decide) (by decide) (by decide)).trans e5) (fun k hk' => ?_)
      rw [f1.1.i (by omega)]; exact z k hk'
    | succ m ih =>
      intro i hi g rg fg e1 e8 e5 e7 e11 z
      refine u_X11_begins_22 (d1' := 0) rg (by omega) ?_
      simp (disch := omega) only [xle_t, xle_f, xlt_t, xlt_f, xeq_t, xeq_f, xle0_t, xle0_f, xlt0_f, x0lt_t, x0lt_f, x0le_t, xeq0_t, xeq0_f, xin, xem_f, xme_f, xlem_f, xlm_f, xml_t, xmle_t, nI_clamp, nI_add, pk_mul, pk_sub, zI_s, zI_k, zI_o, zL_s, zL_k, zL_o, zR_s, zR_k, zR_o, zIL, zIR, zIN, zLI, zLR, zLN, zRI, zRL, zRN, true_and, and_true, not_true_eq_false, not_false_eq_true, true_implies, false_implies, implies_true, forall_const, if_true, if_false, eq_self, false_and, and_false, implies_true, nI_l, ylle_t, ylle_f, xcl_t, xcl_f]
      refine ih (i + 1) (by omega) _ rg (fg.trans (zF_I _ _ _ (by omega))) (fun k q => (zI_p _ _ _ _ (by decide)).trans (e1 k q)) ((zI_p _ _ _ _ (by decide)).trans e8) ((zI_p _ _ _ _ (by decide)).trans e5) ((zI_p _ _ _ _ (by decide)).trans e7) ((zI_p _ _ _ _ (by decide)).trans e11) (fun k hk' => ?_)
      by_cases y : k = i
      · rw [y, zI_s]
      · rw [zI_k _ _ _ y]; exact z k (by omega)
  refine L 236 0 (by omega) _ hr ((zF_I _ _ _ (by omega)).trans ((zF_I _ _ _ (by omega)).trans ((zF_I _ _ _ (by omega)).trans (zF_I _ _ _ (by omega))))) (fun k q => ?_) ?_ ?_ ?_ ?_ (fun k q => by omega)
  · rw [zI_k _ _ _ (by omega), zI_k _ _ _ (by omega), zI_k _ _ _ (by omega), zI_k _ _ _ (by omega)]
  · rw [zI_k _ _ _ (by decide), zI_k _ _ _ (by decide), zI_k _ _ _ (by decide), zI_s]
  · rw [zI_k _ _ _ (by decide), zI_k _ _ _ (by decide), zI_s]
  · rw [zI_k _ _ _ (by decide), zI_s]
  · rw [zI_s]
