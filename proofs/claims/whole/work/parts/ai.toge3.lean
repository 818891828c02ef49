/-! ===== together, leastFor in the reference ===== -/
section OPS
variable {B : BK} {W : RW} {out : Bool} {h : MH} {d : Nat} {Q : Option MV → MH → Prop}
noncomputable def rV' (f : Nat → Int64) (i : Nat) : Int32 := if 1 ≤ (f i).toInt ∧ (f i).toInt ≤ 1000000 then (f i).toInt32 else -(nI 1)
theorem aTd_r {C : CE} {S n : Nat} {f : Nat → Int64} (hC : cOK C) (hS : wSet C S) {b : WN} (hb : b ∈ wAll C S out) : aTd n (rV' f) b = rTd n f b := by
  rw [Bool.eq_iff_iff]
  unfold aTd rTd
  rw [decide_eq_true_eq, decide_eq_true_eq]
  have ab := wAl_b hC hS
  have key : ∀ i j, j < b.1 → (nI (b.2.2.2 (j + 1)) = rV' f i ↔ ((b.2.2.2 (j + 1) : Nat) : Int) = (f i).toInt) := fun i j hj => by
    have y1 := (wAll_mom hC hS hb (j := j + 1) (by omega)).2
    have y3 := (wAll_gr hC hS hb).2.2.2.2.1.le (i := 1) (j := j + 1) (by omega) (by omega)
    have y4 : b.2.2.2 0 < b.2.2.2 1 := (wAll_gr hC hS hb).2.2.2.2.1 0 (by omega)
    unfold rV'
    by_cases z : 1 ≤ (f i).toInt ∧ (f i).toInt ≤ 1000000
    · rw [if_pos z]
      obtain ⟨t, ht⟩ : ∃ t : Nat, (f i).toInt = (t : Int) := ⟨(f i).toInt.toNat, by omega⟩
      have fi : f i = lN t := Int64.toInt_inj.mp (by rw [ht, pk_lT (by omega)])
      rw [ht, fi, lN_to (by omega), nI_eq (by omega) (by omega)]
      omega
    · rw [if_neg z]
      constructor
      · intro q
        revert q
        rw [xem_f (by omega)]
        exact False.elim
      · intro q
        omega
  constructor
  · intro q i hi
    obtain ⟨j, j1, j2⟩ := q i hi
    exact ⟨j, j1, (key i j j1).mp j2⟩
  · intro q i hi
    obtain ⟨j, j1, j2⟩ := q i hi
    exact ⟨j, j1, (key i j j1).mpr j2⟩
def mHd (n : Nat) (f : Nat → Int64) (h : MH) : Prop := h.1 111 47 = nI n ∧ ∀ i, i < n → h.1 133 i = rV' f i
theorem n_wnt {n r : Nat} {f : Nat → Int64} (hr : zRf h) (hq : r < 4) (hn : n ≤ 40) (e1 : h.1 141 r = nI n) (e2 : ∀ i, i < n → h.2.1 142 (40 * r + i) = f i) (hd : 1 ≤ d) (kk : ∀ h', zRf h' → mK h h' → mHd n f h' → Q none h') : Con mX11_wants d 0 0 [.inr (.inr 111), .inl (nI r)] h Q := by
  refine u_X11_wants hr ?_
  simp (disch := omega) only [xle_t, xle_f, xlt_t, xlt_f, xeq_t, xeq_f, xle0_t, xle0_f, xlt0_f, x0lt_t, x0lt_f, x0le_t, xeq0_t, xeq0_f, xin, xem_f, xme_f, xlem_f, xlm_f, xml_t, xmle_t, nI_clamp, nI_add, pk_mul, pk_sub, zI_s, zI_k, zI_o, zL_s, zL_k, zL_o, zR_s, zR_k, zR_o, zIL, zIR, zIN, zLI, zLR, zLN, zRI, zRL, zRN, true_and, and_true, not_true_eq_false, not_false_eq_true, true_implies, false_implies, implies_true, forall_const, if_true, if_false, eq_self, false_and, and_false, implies_true, nI_l, ylle_t, ylle_f, xcl_t, xcl_f, e1]
  have L : ∀ m i, i + m = n → ∀ h', zRf h' → zF (fun a => a ≠ 111 ∧ a ≠ 133) h h' → (∀ k, k ≠ 47 → h'.1 111 k = h.1 111 k) → h'.1 111 47 = nI n → (∀ j, j < i → h'.1 133 j = rV' f j) → J mX11_wants d 0 0 Q 0 0 12 [some (.inr (.inr 111)), some (.inl (nI r)), some (.inl (nI i))] [] h' := by
    intro m
    induction m with
    | zero =>
      intro i hi h' r' f' k' e47 g'
      refine u_X11_wants_12 r' hd ?_
      simp (disch := omega) only [xle_t, xle_f, xlt_t, xlt_f, xeq_t, xeq_f, xle0_t, xle0_f, xlt0_f, x0lt_t, x0lt_f, x0le_t, xeq0_t, xeq0_f, xin, xem_f, xme_f, xlem_f, xlm_f, xml_t, xmle_t, nI_clamp, nI_add, pk_mul, pk_sub, zI_s, zI_k, zI_o, zL_s, zL_k, zL_o, zR_s, zR_k, zR_o, zIL, zIR, zIN, zLI, zLR, zLN, zRI, zRL, zRN, true_and, and_true, not_true_eq_false, not_false_eq_true, true_implies, false_implies, implies_true, forall_const, if_true, if_false, eq_self, false_and, and_false, implies_true, nI_l, ylle_t, ylle_f, xcl_t, xcl_f, e47]
      refine kk h' r' ⟨f'.weak (fun a q => by omega), k' 5 (by omega), k' 13 (by omega), k' 14 (by omega), k' 28 (by omega)⟩ ⟨e47, fun j hj => g' j (by omega)⟩
    | succ m ih =>
      intro i hi h' r' f' k' e47 g'
      have el : h'.2.1 142 (40 * r + i) = f i := by rw [f'.l (by omega)]; exact e2 i (by omega)
      have za : zokA h' 133 20 (nI i) = True := eq_true (zia r' (n := 40) (by decide) rfl (vp_in_nI (by omega) (by omega)))
      have c1 : (lN 1 ≤ f i) = (1 ≤ (f i).toInt) := propext (by rw [Int64.le_iff_toInt_le]; exact Iff.rfl)
      have c2 : (f i ≤ (1000000 : Int64)) = ((f i).toInt ≤ 1000000) := propext (by rw [Int64.le_iff_toInt_le]; exact Iff.rfl)
      have nx : ∀ v, v = rV' f i → J mX11_wants d 0 0 Q 0 0 12 [some (.inr (.inr 111)), some (.inl (nI r)), some (.inl (nI (i + 1)))] [] (zsI h' 133 i v) := fun v hv => by
        refine ih (i + 1) (by omega) _ r' (f'.trans (zF_I _ _ _ (by omega))) (fun k hk => by rw [zI_o _ _ _ (by omega)]; exact k' k hk) (by rw [zI_o _ _ _ (by omega)]; exact e47) (fun j hj => ?_)
        by_cases y : j = i
        · rw [y, zI_s, hv]
        · rw [zI_k _ _ _ y]; exact g' j (by omega)
      refine u_X11_wants_12 r' hd ?_
      by_cases q1 : 1 ≤ (f i).toInt
      · by_cases q2 : (f i).toInt ≤ 1000000
        · simp (disch := omega) only [xle_t, xle_f, xlt_t, xlt_f, xeq_t, xeq_f, xle0_t, xle0_f, xlt0_f, x0lt_t, x0lt_f, x0le_t, xeq0_t, xeq0_f, xin, xem_f, xme_f, xlem_f, xlm_f, xml_t, xmle_t, nI_clamp, nI_add, pk_mul, pk_sub, zI_s, zI_k, zI_o, zL_s, zL_k, zL_o, zR_s, zR_k, zR_o, zIL, zIR, zIN, zLI, zLR, zLN, zRI, zRL, zRN, true_and, and_true, not_true_eq_false, not_false_eq_true, true_implies, false_implies, implies_true, forall_const, if_true, if_false, eq_self, false_and, and_false, implies_true, nI_l, ylle_t, ylle_f, xcl_t, xcl_f, e47, el, c1, c2, q1, q2, za]
          exact nx _ (if_pos ⟨q1, q2⟩).symm
        · simp (disch := omega) only [xle_t, xle_f, xlt_t, xlt_f, xeq_t, xeq_f, xle0_t, xle0_f, xlt0_f, x0lt_t, x0lt_f, x0le_t, xeq0_t, xeq0_f, xin, xem_f, xme_f, xlem_f, xlm_f, xml_t, xmle_t, nI_clamp, nI_add, pk_mul, pk_sub, zI_s, zI_k, zI_o, zL_s, zL_k, zL_o, zR_s, zR_k, zR_o, zIL, zIR, zIN, zLI, zLR, zLN, zRI, zRL, zRN, true_and, and_true, not_true_eq_false, not_false_eq_true, true_implies, false_implies, implies_true, forall_const, if_true, if_false, eq_self, false_and, and_false, implies_true, nI_l, ylle_t, ylle_f, xcl_t, xcl_f, e47, el, c1, c2, q1, q2, za]
          exact nx _ (if_neg (fun q => q2 q.2)).symm
      · simp (disch := omega) only [xle_t, xle_f, xlt_t, xlt_f, xeq_t, xeq_f, xle0_t, xle0_f, xlt0_f, x0lt_t, x0lt_f, x0le_t, xeq0_t, xeq0_f, xin, xem_f, xme_f, xlem_f, xlm_f, xml_t, xmle_t, nI_clamp, nI_add, pk_mul, pk_sub, zI_s, zI_k, zI_o, zL_s, zL_k, zL_o, zR_s, zR_k, zR_o, zIL, zIR, zIN, zLI, zLR, zLN, zRI, zRL, zRN, true_and, and_true, not_true_eq_false, not_false_eq_true, true_implies, false_implies, implies_true, forall_const, if_true, if_false, eq_self, false_and, and_false, implies_true, nI_l, ylle_t, ylle_f, xcl_t, xcl_f, e47, el, c1, c2, q1, za]
        exact nx _ (if_neg (fun q => q1 q.1)).symm
  exact L n 0 (by omega) _ hr (zF_I _ _ _ (by omega)) (fun k hk => zI_k _ _ _ hk) (zI_s _ _ _ _) (fun j hj => by omega)
theorem n_atg {C : CE} {S n : Nat} {f : Nat → Int64} (hr : zRf h) (hA : cIn C (h.1 112) 0) (hC : cOK C) (hS : wSet C S) (hn : n ≤ 40) (hm : mHd n f h) (hd : 9 ≤ d) (kk : ∀ h', zRf h' → mK h h' → mHd n f h' → Q (some (.inl (bI (wTg C S out n f)))) h') : Con mX11_areTogether d 0 0 [.inr (.inr 111), .inl (nI S), .inl (bI out)] h Q := by
  obtain ⟨e47, e133⟩ := hm
  have go : ∀ f0 : Bool, f0 = decide (n = 0) → Con mX11_seeks (d - 1) 0 0 [.inr (.inr 111), .inl (nI S), .inl (bI out), .inl (nI 3)] (zsI h 111 41 (bI f0)) (zrv fun h' => J mX11_areTogether d 0 0 Q 0 0 23 [some (.inr (.inr 111)), some (.inl (nI S)), some (.inl (bI out))] [] h') := fun f0 hf0 => by
    refine n_sk3 (w := n) (v := rV' f) (f0 := f0) (zRf_I hr _ _ _) ?_ hC hS (by omega) hn (by simp (disch := omega) only [xle_t, xle_f, xlt_t, xlt_f, xeq_t, xeq_f, xle0_t, xle0_f, xlt0_f, x0lt_t, x0lt_f, x0le_t, xeq0_t, xeq0_f, xin, xem_f, xme_f, xlem_f, xlm_f, xml_t, xmle_t, nI_clamp, nI_add, pk_mul, pk_sub, zI_s, zI_k, zI_o, zL_s, zL_k, zL_o, zR_s, zR_k, zR_o, zIL, zIR, zIN, zLI, zLR, zLN, zRI, zRL, zRN, true_and, and_true, not_true_eq_false, not_false_eq_true, true_implies, false_implies, implies_true, forall_const, if_true, if_false, eq_self, false_and, and_false, implies_true, nI_l, ylle_t, ylle_f, xcl_t, xcl_f, e47]) (fun i hi => by simp (disch := omega) only [xle_t, xle_f, xlt_t, xlt_f, xeq_t, xeq_f, xle0_t, xle0_f, xlt0_f, x0lt_t, x0lt_f, x0le_t, xeq0_t, xeq0_f, xin, xem_f, xme_f, xlem_f, xlm_f, xml_t, xmle_t, nI_clamp, nI_add, pk_mul, pk_sub, zI_s, zI_k, zI_o, zL_s, zL_k, zL_o, zR_s, zR_k, zR_o, zIL, zIR, zIN, zLI, zLR, zLN, zRI, zRL, zRN, true_and, and_true, not_true_eq_false, not_false_eq_true, true_implies, false_implies, implies_true, forall_const, if_true, if_false, eq_self, false_and, and_false, implies_true, nI_l, ylle_t, ylle_f, xcl_t, xcl_f, e133 i hi]) (zI_s _ _ _ _) (fun h1 r1 f1 e41 => ?_)
    · rw [zI_o _ _ _ (by omega)]
      exact hA
    · have e : (f0 || (wAll C S out).any (aTd n (rV' f))) = wTg C S out n f := by
        unfold wTg
        rw [hf0, any_c (fun b hb => aTd_r hC hS hb)]
      rw [e] at e41
      have k1 : mK h h1 := mK.trans ⟨zF_I _ _ _ (by omega), zI_k _ _ _ (by decide), zI_k _ _ _ (by decide), zI_k _ _ _ (by decide), zI_k _ _ _ (by decide)⟩ f1.k
      have fin := kk h1 r1 k1 ⟨by rw [f1.2 47 (by omega), zI_k _ _ _ (by decide)]; exact e47, fun i hi => by rw [f1.1.i (by omega), zI_o _ _ _ (by omega)]; exact e133 i hi⟩
      refine u_X11_areTogether_23 r1 ?_
      cases hf : wTg C S out n f with
      | true =>
        rw [hf, show bI true = nI 1 from rfl] at e41 fin
        simp (disch := omega) only [xle_t, xle_f, xlt_t, xlt_f, xeq_t, xeq_f, xle0_t, xle0_f, xlt0_f, x0lt_t, x0lt_f, x0le_t, xeq0_t, xeq0_f, xin, xem_f, xme_f, xlem_f, xlm_f, xml_t, xmle_t, nI_clamp, nI_add, pk_mul, pk_sub, zI_s, zI_k, zI_o, zL_s, zL_k, zL_o, zR_s, zR_k, zR_o, zIL, zIR, zIN, zLI, zLR, zLN, zRI, zRL, zRN, true_and, and_true, not_true_eq_false, not_false_eq_true, true_implies, false_implies, implies_true, forall_const, if_true, if_false, eq_self, false_and, and_false, implies_true, nI_l, ylle_t, ylle_f, xcl_t, xcl_f, e41]
        exact fin
      | false =>
        rw [hf, show bI false = nI 0 from rfl] at e41 fin
        simp (disch := omega) only [xle_t, xle_f, xlt_t, xlt_f, xeq_t, xeq_f, xle0_t, xle0_f, xlt0_f, x0lt_t, x0lt_f, x0le_t, xeq0_t, xeq0_f, xin, xem_f, xme_f, xlem_f, xlm_f, xml_t, xmle_t, nI_clamp, nI_add, pk_mul, pk_sub, zI_s, zI_k, zI_o, zL_s, zL_k, zL_o, zR_s, zR_k, zR_o, zIL, zIR, zIN, zLI, zLR, zLN, zRI, zRL, zRN, true_and, and_true, not_true_eq_false, not_false_eq_true, true_implies, false_implies, implies_true, forall_const, if_true, if_false, eq_self, false_and, and_false, implies_true, nI_l, ylle_t, ylle_f, xcl_t, xcl_f, e41]
        exact fin
  refine u_X11_areTogether (d1' := d - 1) (d2' := d - 1) hr (by omega) (by omega) ?_
  rcases Nat.eq_zero_or_pos n with n0 | n0
  · have := go true (decide_eq_true n0).symm
    rw [n0] at e47
    simp (disch := omega) only [xle_t, xle_f, xlt_t, xlt_f, xeq_t, xeq_f, xle0_t, xle0_f, xlt0_f, x0lt_t, x0lt_f, x0le_t, xeq0_t, xeq0_f, xin, xem_f, xme_f, xlem_f, xlm_f, xml_t, xmle_t, nI_clamp, nI_add, pk_mul, pk_sub, zI_s, zI_k, zI_o, zL_s, zL_k, zL_o, zR_s, zR_k, zR_o, zIL, zIR, zIN, zLI, zLR, zLN, zRI, zRL, zRN, true_and, and_true, not_true_eq_false, not_false_eq_true, true_implies, false_implies, implies_true, forall_const, if_true, if_false, eq_self, false_and, and_false, implies_true, nI_l, ylle_t, ylle_f, xcl_t, xcl_f, e47]
    exact this
  · have := go false (decide_eq_false (by omega)).symm
    simp (disch := omega) only [xle_t, xle_f, xlt_t, xlt_f, xeq_t, xeq_f, xle0_t, xle0_f, xlt0_f, x0lt_t, x0lt_f, x0le_t, xeq0_t, xeq0_f, xin, xem_f, xme_f, xlem_f, xlm_f, xml_t, xmle_t, nI_clamp, nI_add, pk_mul, pk_sub, zI_s, zI_k, zI_o, zL_s, zL_k, zL_o, zR_s, zR_k, zR_o, zIL, zIR, zIN, zLI, zLR, zLN, zRI, zRL, zRN, true_and, and_true, not_true_eq_false, not_false_eq_true, true_implies, false_implies, implies_true, forall_const, if_true, if_false, eq_self, false_and, and_false, implies_true, nI_l, ylle_t, ylle_f, xcl_t, xcl_f, e47]
    exact this
theorem n_tog {x y : Int32} (hr : zRf h) (hA : bIn B (h.1 112) 0) (hB : bOK B) (hW : rwM W h) (hWo : rwOK W) (hd : 12 ≤ d) (kk : ∀ h', zRf h' → mK h h' → Q (some (.inl (gTog B W x out y))) h') : Con mX11_together d 0 0 [.inr (.inr 111), .inl x, .inl (bI out), .inl y] h Q := by
  unfold gTog at kk
  refine u_X11_together (d1' := d - 1) hr (by omega) (by omega) ?_
  rcases ix3 y (n := 4) (by omega) with ⟨z, _, x1⟩ | ⟨z, _, _, x1, _, x2, _⟩ | ⟨q, hq, rfl, z⟩
  · rw [gW_none z] at kk
    simp (disch := omega) only [xle_t, xle_f, xlt_t, xlt_f, xeq_t, xeq_f, xle0_t, xle0_f, xlt0_f, x0lt_t, x0lt_f, x0le_t, xeq0_t, xeq0_f, xin, xem_f, xme_f, xlem_f, xlm_f, xml_t, xmle_t, nI_clamp, nI_add, pk_mul, pk_sub, zI_s, zI_k, zI_o, zL_s, zL_k, zL_o, zR_s, zR_k, zR_o, zIL, zIR, zIN, zLI, zLR, zLN, zRI, zRL, zRN, true_and, and_true, not_true_eq_false, not_false_eq_true, true_implies, false_implies, implies_true, forall_const, if_true, if_false, eq_self, false_and, and_false, implies_true, nI_l, ylle_t, ylle_f, xcl_t, xcl_f, x1, y_3]
    exact kk _ hr (mK_0 h)
  · rw [gW_none z] at kk
    simp (disch := omega) only [xle_t, xle_f, xlt_t, xlt_f, xeq_t, xeq_f, xle0_t, xle0_f, xlt0_f, x0lt_t, x0lt_f, x0le_t, xeq0_t, xeq0_f, xin, xem_f, xme_f, xlem_f, xlm_f, xml_t, xmle_t, nI_clamp, nI_add, pk_mul, pk_sub, zI_s, zI_k, zI_o, zL_s, zL_k, zL_o, zR_s, zR_k, zR_o, zIL, zIR, zIN, zLI, zLR, zLN, zRI, zRL, zRN, true_and, and_true, not_true_eq_false, not_false_eq_true, true_implies, false_implies, implies_true, forall_const, if_true, if_false, eq_self, false_and, and_false, implies_true, nI_l, ylle_t, ylle_f, xcl_t, xcl_f, x1, y_3, x2 3 rfl]
    exact kk _ hr (mK_0 h)
  rcases hw : W q with _ | ⟨s, n, f⟩
  · rw [gW_no hq hw] at kk
    have e0 := (hW q hq).1 hw
    simp (disch := omega) only [xle_t, xle_f, xlt_t, xlt_f, xeq_t, xeq_f, xle0_t, xle0_f, xlt0_f, x0lt_t, x0lt_f, x0le_t, xeq0_t, xeq0_f, xin, xem_f, xme_f, xlem_f, xlm_f, xml_t, xmle_t, nI_clamp, nI_add, pk_mul, pk_sub, zI_s, zI_k, zI_o, zL_s, zL_k, zL_o, zR_s, zR_k, zR_o, zIL, zIR, zIN, zLI, zLR, zLN, zRI, zRL, zRN, true_and, and_true, not_true_eq_false, not_false_eq_true, true_implies, false_implies, implies_true, forall_const, if_true, if_false, eq_self, false_and, and_false, implies_true, nI_l, ylle_t, ylle_f, xcl_t, xcl_f, y_3, e0]
    exact kk _ hr (mK_0 h)
  rw [gW_so hq hw] at kk
  obtain ⟨e0, e1, e2⟩ := (hW q hq).2 s n f hw
  obtain ⟨s4, n40⟩ := hWo q s n f hw
  have hA0 : cIn B.1 ((zsI h 111 0 (nI 0)).1 112) 0 := by rw [zI_o _ _ _ (by omega)]; exact hA.1
  simp (disch := omega) only [xle_t, xle_f, xlt_t, xlt_f, xeq_t, xeq_f, xle0_t, xle0_f, xlt0_f, x0lt_t, x0lt_f, x0le_t, xeq0_t, xeq0_f, xin, xem_f, xme_f, xlem_f, xlm_f, xml_t, xmle_t, nI_clamp, nI_add, pk_mul, pk_sub, zI_s, zI_k, zI_o, zL_s, zL_k, zL_o, zR_s, zR_k, zR_o, zIL, zIR, zIN, zLI, zLR, zLN, zRI, zRL, zRN, true_and, and_true, not_true_eq_false, not_false_eq_true, true_implies, false_implies, implies_true, forall_const, if_true, if_false, eq_self, false_and, and_false, implies_true, nI_l, ylle_t, ylle_f, xcl_t, xcl_f, y_3, e0]
  refine n_ist (zRf_I hr _ _ _) hA0 hB.1 (by omega) ?_ ?_
  · intro z9
    rw [gSet_0 z9] at kk
    refine u_X11_together_38 (d1' := d - 1) (zRf_I hr _ _ _) (by omega) ?_
    simp (disch := omega) only [xle_t, xle_f, xlt_t, xlt_f, xeq_t, xeq_f, xle0_t, xle0_f, xlt0_f, x0lt_t, x0lt_f, x0le_t, xeq0_t, xeq0_f, xin, xem_f, xme_f, xlem_f, xlm_f, xml_t, xmle_t, nI_clamp, nI_add, pk_mul, pk_sub, zI_s, zI_k, zI_o, zL_s, zL_k, zL_o, zR_s, zR_k, zR_o, zIL, zIR, zIN, zLI, zLR, zLN, zRI, zRL, zRN, true_and, and_true, not_true_eq_false, not_false_eq_true, true_implies, false_implies, implies_true, forall_const, if_true, if_false, eq_self, false_and, and_false, implies_true, nI_l, ylle_t, ylle_f, xcl_t, xcl_f]
    exact kk _ hr (mK_0 h)
  · intro S z9 e hS _
    rw [gSet_1 z9] at kk
    refine u_X11_together_38 (d1' := d - 1) (zRf_I hr _ _ _) (by omega) ?_
    simp (disch := omega) only [xle_t, xle_f, xlt_t, xlt_f, xeq_t, xeq_f, xle0_t, xle0_f, xlt0_f, x0lt_t, x0lt_f, x0le_t, xeq0_t, xeq0_f, xin, xem_f, xme_f, xlem_f, xlm_f, xml_t, xmle_t, nI_clamp, nI_add, pk_mul, pk_sub, zI_s, zI_k, zI_o, zL_s, zL_k, zL_o, zR_s, zR_k, zR_o, zIL, zIR, zIN, zLI, zLR, zLN, zRI, zRL, zRN, true_and, and_true, not_true_eq_false, not_false_eq_true, true_implies, false_implies, implies_true, forall_const, if_true, if_false, eq_self, false_and, and_false, implies_true, nI_l, ylle_t, ylle_f, xcl_t, xcl_f]
    refine n_wnt (n := n) (f := f) (zRf_I hr _ _ _) hq n40 (by simp (disch := omega) only [xle_t, xle_f, xlt_t, xlt_f, xeq_t, xeq_f, xle0_t, xle0_f, xlt0_f, x0lt_t, x0lt_f, x0le_t, xeq0_t, xeq0_f, xin, xem_f, xme_f, xlem_f, xlm_f, xml_t, xmle_t, nI_clamp, nI_add, pk_mul, pk_sub, zI_s, zI_k, zI_o, zL_s, zL_k, zL_o, zR_s, zR_k, zR_o, zIL, zIR, zIN, zLI, zLR, zLN, zRI, zRL, zRN, true_and, and_true, not_true_eq_false, not_false_eq_true, true_implies, false_implies, implies_true, forall_const, if_true, if_false, eq_self, false_and, and_false, implies_true, nI_l, ylle_t, ylle_f, xcl_t, xcl_f, e1]) (fun i hi => e2 i hi) (by omega) (fun h1 r1 k1 m1 => ?_)
    refine u_X11_together_49 (d1' := d - 1) r1 (by omega) ?_
    rw [e]
    refine n_atg r1 (by rw [k1.1.i (by omega)]; exact hA0) hB.1 hS n40 m1 (by omega) (fun h2 r2 k2 _ => ?_)
    have fin := kk h2 r2 (((mK_0 h).trans k1).trans k2)
    refine u_X11_together_55 ?_
    cases hf : wTg B.1 S out n f with
    | true =>
      rw [hf] at fin
      rw [show bI true = nI 1 from rfl] at fin ⊢
      simp (disch := omega) only [xle_t, xle_f, xlt_t, xlt_f, xeq_t, xeq_f, xle0_t, xle0_f, xlt0_f, x0lt_t, x0lt_f, x0le_t, xeq0_t, xeq0_f, xin, xem_f, xme_f, xlem_f, xlm_f, xml_t, xmle_t, nI_clamp, nI_add, pk_mul, pk_sub, zI_s, zI_k, zI_o, zL_s, zL_k, zL_o, zR_s, zR_k, zR_o, zIL, zIR, zIN, zLI, zLR, zLN, zRI, zRL, zRN, true_and, and_true, not_true_eq_false, not_false_eq_true, true_implies, false_implies, implies_true, forall_const, if_true, if_false, eq_self, false_and, and_false, implies_true, nI_l, ylle_t, ylle_f, xcl_t, xcl_f]
      exact fin
    | false =>
      rw [hf] at fin
      rw [show bI false = nI 0 from rfl] at fin ⊢
      simp (disch := omega) only [xle_t, xle_f, xlt_t, xlt_f, xeq_t, xeq_f, xle0_t, xle0_f, xlt0_f, x0lt_t, x0lt_f, x0le_t, xeq0_t, xeq0_f, xin, xem_f, xme_f, xlem_f, xlm_f, xml_t, xmle_t, nI_clamp, nI_add, pk_mul, pk_sub, zI_s, zI_k, zI_o, zL_s, zL_k, zL_o, zR_s, zR_k, zR_o, zIL, zIR, zIN, zLI, zLR, zLN, zRI, zRL, zRN, true_and, and_true, not_true_eq_false, not_false_eq_true, true_implies, false_implies, implies_true, forall_const, if_true, if_false, eq_self, false_and, and_false, implies_true, nI_l, ylle_t, ylle_f, xcl_t, xcl_f]
      exact fin
end OPS
