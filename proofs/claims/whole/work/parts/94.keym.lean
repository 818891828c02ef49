/-! ===== the reference's words ===== -/
def kSt (k : Nat) : Nat := [1, 8, 12, 20, 26, 31, 35, 41, 46, 50, 55, 60].getD k 0
theorem kKeys : ∀ k, k < 11 → kSt (k + 1) = kSt k + (kWds.getD k []).length + 1 ∧ kSt k + (kWds.getD k []).length < 60 ∧ (kWds.getD k []).length ≤ 7 ∧ (zbytes.getD 11 []).getD (kSt k + (kWds.getD k []).length) 0 = nI 32 ∧ ∀ i, i < (kWds.getD k []).length → (zbytes.getD 11 []).getD (kSt k + i) 0 = nI ((kWds.getD k []).getD i 0) ∧ 97 ≤ (kWds.getD k []).getD i 0 ∧ (kWds.getD k []).getD i 0 ≤ 122 := by decide +kernel
theorem kWl_eq (f : Nat → Nat) (s e : Nat) (w : List Nat) : kWl f s e = w ↔ e - s = w.length ∧ ∀ i, i < w.length → f (s + i) = w.getD i 0 := by
  constructor
  · intro h
    have hl := kWl_len f s e
    rw [h] at hl
    refine ⟨hl.symm, fun i hi => ?_⟩
    rw [← kWl_at f s e (by omega), h]
  · rintro ⟨h1, h2⟩
    refine List.ext_getElem (by rw [kWl_len, h1]) (fun i q1 q2 => ?_)
    have a1 := h2 i q2
    rw [← kWl_at f s e (by omega)] at a1
    rw [List.getD_eq_getElem?_getD, List.getElem?_eq_getElem q1, List.getD_eq_getElem?_getD, List.getElem?_eq_getElem q2] at a1
    exact a1
def kM (f : Nat → Nat) (n : Nat) (h : MH) : Prop := n ≤ 400 ∧ ∀ k, k < n → h.1 114 k = nI (f k) ∧ f k < 256
theorem n_key {f : Nat → Nat} {n s e : Nat} {h : MH} {d : Nat} {Q : Option MV → MH → Prop} (hZ : kStr) (hr : zRf h) (hk : kM f n h) (h6 : h.1 111 6 = nI s) (h7 : h.1 111 7 = nI e) (hse : s ≤ e) (hen : e ≤ n) (hd : 11 ≤ d) (kk : Q (some (.inl (nI (kKey f s e)))) h) : Con mX11_keyAt d 0 0 [.inr (.inr 111)] h Q := by
  have h400 := hk.1
  refine u_X11_keyAt ?_
  have L : ∀ m k, k + m = 11 → ∀ u, (∀ j, j < k → ¬ kKey f s e = j) → J mX11_keyAt d 0 0 Q 0 0 4 [some (.inr (.inr 111)), some (.inl (nI k)), some (.inl (nI (kSt k))), u] [] h := by
    intro m
    induction m with
    | zero =>
      intro k hk11 u no
      obtain rfl : k = 11 := by omega
      have h11 : kKey f s e = 11 := by
        have := kKey_le f s e
        have := no (kKey f s e)
        by_cases q : kKey f s e < 11
        · exact absurd rfl (this q)
        · omega
      rw [h11] at kk
      refine u_X11_keyAt_4 (d1' := 10) (by omega) (hZ.1 11 10 h _ (by decide) (by omega) ?_)
      refine u_X11_keyAt_10 ?_
      have e1 : nI (zlens.getD 11 0) = nI 60 := rfl
      have e2 : nI (kSt 11) = nI 60 := rfl
      simp (disch := omega) only [xle_t, xle_f, xlt_t, xlt_f, xeq_t, xeq_f, xle0_t, xle0_f, xlt0_f, x0lt_t, x0lt_f, x0le_t, xeq0_t, xeq0_f, xin, xem_f, xme_f, xlem_f, xlm_f, xml_t, xmle_t, nI_clamp, nI_add, pk_mul, pk_sub, zI_s, zI_k, zI_o, zL_s, zL_k, zL_o, zR_s, zR_k, zR_o, zIL, zIR, zIN, zLI, zLR, zLN, zRI, zRL, zRN, true_and, and_true, not_true_eq_false, not_false_eq_true, true_implies, false_implies, implies_true, forall_const, if_true, if_false, eq_self, false_and, and_false, implies_true, nI_l, ylle_t, ylle_f, xcl_t, xcl_f, e1, e2]
      exact kk
    | succ m ih =>
      intro k hk11 u no
      obtain ⟨s1, s2, s3, s4, s5⟩ := kKeys k (by omega)
      have hkey := kKey_of f (s := s) (e := e) (show k < 11 by omega)
      rw [kWl_eq] at hkey
      generalize kWds.getD k [] = w at s1 s2 s3 s4 s5 hkey
      have C : ∀ i (g : MH) (Q' : Option MV → MH → Prop), i < 60 → Q' (some (.inl ((zbytes.getD 11 []).getD i 0))) g → Con mJ0_charAt_5068e 10 0 0 [.inr (.inr 1011), .inl (nI i)] g Q' := fun i g Q' hi hq => hZ.2 11 i 10 g Q' (by decide) hi (by omega) hq
      have S97 : ∀ u3, ¬ kKey f s e = k → ∀ m' j, j + m' = w.length → J mX11_keyAt d 0 0 Q 0 0 97 [some (.inr (.inr 111)), some (.inl (nI k)), some (.inl (nI (kSt k + j))), some (.inl u3)] [] h := by
        intro u3 hn m'
        induction m' with
        | zero =>
          intro j hj
          obtain rfl : j = w.length := by omega
          refine u_X11_keyAt_97 (d1' := 10) (by omega) (C _ _ _ (by omega) ?_)
          refine u_X11_keyAt_103 ?_
          simp (disch := omega) only [xle_t, xle_f, xlt_t, xlt_f, xeq_t, xeq_f, xle0_t, xle0_f, xlt0_f, x0lt_t, x0lt_f, x0le_t, xeq0_t, xeq0_f, xin, xem_f, xme_f, xlem_f, xlm_f, xml_t, xmle_t, nI_clamp, nI_add, pk_mul, pk_sub, zI_s, zI_k, zI_o, zL_s, zL_k, zL_o, zR_s, zR_k, zR_o, zIL, zIR, zIN, zLI, zLR, zLN, zRI, zRL, zRN, true_and, and_true, not_true_eq_false, not_false_eq_true, true_implies, false_implies, implies_true, forall_const, if_true, if_false, eq_self, false_and, and_false, implies_true, nI_l, ylle_t, ylle_f, xcl_t, xcl_f, s4]
          have := ih (k + 1) (by omega) (some (.inl u3)) (fun j hj => by
            by_cases q : j = k
            · rw [q]; exact hn
            · exact no j (by omega))
          rw [s1] at this
          exact this
        | succ m' ih2 =>
          intro j hj
          obtain ⟨t1, t2, t3⟩ := s5 j (by omega)
          refine u_X11_keyAt_97 (d1' := 10) (by omega) (C _ _ _ (by omega) ?_)
          refine u_X11_keyAt_103 ?_
          simp (disch := omega) only [xle_t, xle_f, xlt_t, xlt_f, xeq_t, xeq_f, xle0_t, xle0_f, xlt0_f, x0lt_t, x0lt_f, x0le_t, xeq0_t, xeq0_f, xin, xem_f, xme_f, xlem_f, xlm_f, xml_t, xmle_t, nI_clamp, nI_add, pk_mul, pk_sub, zI_s, zI_k, zI_o, zL_s, zL_k, zL_o, zR_s, zR_k, zR_o, zIL, zIR, zIN, zLI, zLR, zLN, zRI, zRL, zRN, true_and, and_true, not_true_eq_false, not_false_eq_true, true_implies, false_implies, implies_true, forall_const, if_true, if_false, eq_self, false_and, and_false, implies_true, nI_l, ylle_t, ylle_f, xcl_t, xcl_f, t1]
          exact ih2 (j + 1) (by omega)
      have S77 : ∀ i, i < w.length → ¬ kKey f s e = k → J mX11_keyAt d 0 0 Q 0 0 77 [some (.inr (.inr 111)), some (.inl (nI k)), some (.inl (nI (kSt k))), some (.inl (nI i))] [.inl ((zbytes.getD 11 []).getD (kSt k + i) 0)] h := by
        intro i hi hn
        obtain ⟨t1, t2, t3⟩ := s5 i hi
        refine u_X11_keyAt_77 hr ?_
        simp (disch := omega) only [xle_t, xle_f, xlt_t, xlt_f, xeq_t, xeq_f, xle0_t, xle0_f, xlt0_f, x0lt_t, x0lt_f, x0le_t, xeq0_t, xeq0_f, xin, xem_f, xme_f, xlem_f, xlm_f, xml_t, xmle_t, nI_clamp, nI_add, pk_mul, pk_sub, zI_s, zI_k, zI_o, zL_s, zL_k, zL_o, zR_s, zR_k, zR_o, zIL, zIR, zIN, zLI, zLR, zLN, zRI, zRL, zRN, true_and, and_true, not_true_eq_false, not_false_eq_true, true_implies, false_implies, implies_true, forall_const, if_true, if_false, eq_self, false_and, and_false, implies_true, nI_l, ylle_t, ylle_f, xcl_t, xcl_f, t1]
        exact S97 _ hn w.length 0 (by omega)
      have I : ∀ m' i, i + m' = w.length → s + i ≤ e → (∀ a, a < i → f (s + a) = w.getD a 0) → J mX11_keyAt d 0 0 Q 0 0 15 [some (.inr (.inr 111)), some (.inl (nI k)), some (.inl (nI (kSt k))), some (.inl (nI i))] [] h := by
        intro m'
        induction m' with
        | zero =>
          intro i hi hie same
          obtain rfl : i = w.length := by omega
          refine u_X11_keyAt_15 (d1' := 10) (by omega) ?_
          rw [nI_add]
          refine C _ _ _ (by omega) ?_
          refine u_X11_keyAt_23 (d1' := 10) (d2' := 10) (d3' := 10) hr (by omega) (by omega) (by omega) ?_
          simp (disch := omega) only [xle_t, xle_f, xlt_t, xlt_f, xeq_t, xeq_f, xle0_t, xle0_f, xlt0_f, x0lt_t, x0lt_f, x0le_t, xeq0_t, xeq0_f, xin, xem_f, xme_f, xlem_f, xlm_f, xml_t, xmle_t, nI_clamp, nI_add, pk_mul, pk_sub, zI_s, zI_k, zI_o, zL_s, zL_k, zL_o, zR_s, zR_k, zR_o, zIL, zIR, zIN, zLI, zLR, zLN, zRI, zRL, zRN, true_and, and_true, not_true_eq_false, not_false_eq_true, true_implies, false_implies, implies_true, forall_const, if_true, if_false, eq_self, false_and, and_false, implies_true, nI_l, ylle_t, ylle_f, xcl_t, xcl_f, s4]
          refine C _ _ _ (by omega) ?_
          refine u_X11_keyAt_77 hr ?_
          by_cases q : s + w.length = e
          · have hh : kKey f s e = k := hkey.mpr ⟨by omega, same⟩
            rw [hh] at kk
            simp (disch := omega) only [xle_t, xle_f, xlt_t, xlt_f, xeq_t, xeq_f, xle0_t, xle0_f, xlt0_f, x0lt_t, x0lt_f, x0le_t, xeq0_t, xeq0_f, xin, xem_f, xme_f, xlem_f, xlm_f, xml_t, xmle_t, nI_clamp, nI_add, pk_mul, pk_sub, zI_s, zI_k, zI_o, zL_s, zL_k, zL_o, zR_s, zR_k, zR_o, zIL, zIR, zIN, zLI, zLR, zLN, zRI, zRL, zRN, true_and, and_true, not_true_eq_false, not_false_eq_true, true_implies, false_implies, implies_true, forall_const, if_true, if_false, eq_self, false_and, and_false, implies_true, nI_l, ylle_t, ylle_f, xcl_t, xcl_f, s4, h6, h7, q]
            exact kk
          · have hh : ¬ kKey f s e = k := fun z => by have := (hkey.mp z).1; omega
            simp (disch := omega) only [xle_t, xle_f, xlt_t, xlt_f, xeq_t, xeq_f, xle0_t, xle0_f, xlt0_f, x0lt_t, x0lt_f, x0le_t, xeq0_t, xeq0_f, xin, xem_f, xme_f, xlem_f, xlm_f, xml_t, xmle_t, nI_clamp, nI_add, pk_mul, pk_sub, zI_s, zI_k, zI_o, zL_s, zL_k, zL_o, zR_s, zR_k, zR_o, zIL, zIR, zIN, zLI, zLR, zLN, zRI, zRL, zRN, true_and, and_true, not_true_eq_false, not_false_eq_true, true_implies, false_implies, implies_true, forall_const, if_true, if_false, eq_self, false_and, and_false, implies_true, nI_l, ylle_t, ylle_f, xcl_t, xcl_f, s4, h6, h7, q]
            exact S97 _ hh w.length 0 (by omega)
        | succ m' ih2 =>
          intro i hi hie same
          obtain ⟨t1, t2, t3⟩ := s5 i (by omega)
          refine u_X11_keyAt_15 (d1' := 10) (by omega) ?_
          rw [nI_add]
          refine C _ _ _ (by omega) ?_
          refine u_X11_keyAt_23 (d1' := 10) (d2' := 10) (d3' := 10) hr (by omega) (by omega) (by omega) ?_
          by_cases q : e ≤ s + i
          · have hh : ¬ kKey f s e = k := fun z => by have := (hkey.mp z).1; omega
            simp (disch := omega) only [xle_t, xle_f, xlt_t, xlt_f, xeq_t, xeq_f, xle0_t, xle0_f, xlt0_f, x0lt_t, x0lt_f, x0le_t, xeq0_t, xeq0_f, xin, xem_f, xme_f, xlem_f, xlm_f, xml_t, xmle_t, nI_clamp, nI_add, pk_mul, pk_sub, zI_s, zI_k, zI_o, zL_s, zL_k, zL_o, zR_s, zR_k, zR_o, zIL, zIR, zIN, zLI, zLR, zLN, zRI, zRL, zRN, true_and, and_true, not_true_eq_false, not_false_eq_true, true_implies, false_implies, implies_true, forall_const, if_true, if_false, eq_self, false_and, and_false, implies_true, nI_l, ylle_t, ylle_f, xcl_t, xcl_f, t1, h6, h7, q]
            refine C _ _ _ (by omega) ?_
            exact S77 i (by omega) hh
          · obtain ⟨k1, k2⟩ := hk.2 (s + i) (by omega)
            simp (disch := omega) only [xle_t, xle_f, xlt_t, xlt_f, xeq_t, xeq_f, xle0_t, xle0_f, xlt0_f, x0lt_t, x0lt_f, x0le_t, xeq0_t, xeq0_f, xin, xem_f, xme_f, xlem_f, xlm_f, xml_t, xmle_t, nI_clamp, nI_add, pk_mul, pk_sub, zI_s, zI_k, zI_o, zL_s, zL_k, zL_o, zR_s, zR_k, zR_o, zIL, zIR, zIN, zLI, zLR, zLN, zRI, zRL, zRN, true_and, and_true, not_true_eq_false, not_false_eq_true, true_implies, false_implies, implies_true, forall_const, if_true, if_false, eq_self, false_and, and_false, implies_true, nI_l, ylle_t, ylle_f, xcl_t, xcl_f, t1, h6, h7, q, k1]
            refine C _ _ _ (by omega) ?_
            refine u_X11_keyAt_60 (d1' := 10) (by omega) ?_
            by_cases z : f (s + i) = w.getD i 0
            · simp (disch := omega) only [xle_t, xle_f, xlt_t, xlt_f, xeq_t, xeq_f, xle0_t, xle0_f, xlt0_f, x0lt_t, x0lt_f, x0le_t, xeq0_t, xeq0_f, xin, xem_f, xme_f, xlem_f, xlm_f, xml_t, xmle_t, nI_clamp, nI_add, pk_mul, pk_sub, zI_s, zI_k, zI_o, zL_s, zL_k, zL_o, zR_s, zR_k, zR_o, zIL, zIR, zIN, zLI, zLR, zLN, zRI, zRL, zRN, true_and, and_true, not_true_eq_false, not_false_eq_true, true_implies, false_implies, implies_true, forall_const, if_true, if_false, eq_self, false_and, and_false, implies_true, nI_l, ylle_t, ylle_f, xcl_t, xcl_f, t1, z]
              refine ih2 (i + 1) (by omega) (by omega) (fun a ha => ?_)
              by_cases y : a = i
              · rw [y]; exact z
              · exact same a (by omega)
            · have hh : ¬ kKey f s e = k := fun y => z ((hkey.mp y).2 i (by omega))
              simp (disch := omega) only [xle_t, xle_f, xlt_t, xlt_f, xeq_t, xeq_f, xle0_t, xle0_f, xlt0_f, x0lt_t, x0lt_f, x0le_t, xeq0_t, xeq0_f, xin, xem_f, xme_f, xlem_f, xlm_f, xml_t, xmle_t, nI_clamp, nI_add, pk_mul, pk_sub, zI_s, zI_k, zI_o, zL_s, zL_k, zL_o, zR_s, zR_k, zR_o, zIL, zIR, zIN, zLI, zLR, zLN, zRI, zRL, zRN, true_and, and_true, not_true_eq_false, not_false_eq_true, true_implies, false_implies, implies_true, forall_const, if_true, if_false, eq_self, false_and, and_false, implies_true, nI_l, ylle_t, ylle_f, xcl_t, xcl_f, t1, z]
              refine C _ _ _ (by omega) ?_
              exact S77 i (by omega) hh
      refine u_X11_keyAt_4 (d1' := 10) (by omega) (hZ.1 11 10 h _ (by decide) (by omega) ?_)
      refine u_X11_keyAt_10 ?_
      have e1 : nI (zlens.getD 11 0) = nI 60 := rfl
      simp (disch := omega) only [xle_t, xle_f, xlt_t, xlt_f, xeq_t, xeq_f, xle0_t, xle0_f, xlt0_f, x0lt_t, x0lt_f, x0le_t, xeq0_t, xeq0_f, xin, xem_f, xme_f, xlem_f, xlm_f, xml_t, xmle_t, nI_clamp, nI_add, pk_mul, pk_sub, zI_s, zI_k, zI_o, zL_s, zL_k, zL_o, zR_s, zR_k, zR_o, zIL, zIR, zIN, zLI, zLR, zLN, zRI, zRL, zRN, true_and, and_true, not_true_eq_false, not_false_eq_true, true_implies, false_implies, implies_true, forall_const, if_true, if_false, eq_self, false_and, and_false, implies_true, nI_l, ylle_t, ylle_f, xcl_t, xcl_f, e1]
      exact I w.length 0 (by omega) (by omega) (fun a ha => by omega)
  exact L 11 0 (by omega) none (fun j hj => by omega)
