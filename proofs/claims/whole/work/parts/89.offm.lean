/-! ===== off (reference) ===== -/
theorem pctM : ∀ t, t < 3 → ∀ d, d < 51 → nI 100 + (nI t - nI 1) * nI d = nI (oPct (oTau t) d) := by decide +kernel
theorem n_off {B : BK} {h : MH} {d : Nat} {x k w : Int32} {Q : Option MV → MH → Prop} (hr : zRf h) (hA : bIn B (h.1 112) 0) (hB : bOK B) (h28 : h.1 111 28 = -(nI 1)) (hd : 5 ≤ d) (kk : ∀ h', zRf h' → mK h h' → Q (some (.inl (gOff B x k w))) h') : Con mX11_off d 0 0 [.inr (.inr 111), .inl x, .inl k, .inl w] h Q := by
  unfold gOff at kk
  have h8 := hB.1.1
  refine u_X11_off hr (by omega) ?_
  rcases ix3 x (n := 4) (by omega) with ⟨z, _, x1⟩ | ⟨z, _, _, x1, _, x2, _⟩ | ⟨p, hp, rfl, z⟩
  · rw [gP_none z] at kk
    simp (disch := omega) only [xle_t, xle_f, xlt_t, xlt_f, xeq_t, xeq_f, xle0_t, xle0_f, xlt0_f, x0lt_t, x0lt_f, x0le_t, xeq0_t, xeq0_f, xin, xem_f, xme_f, xlem_f, xlm_f, xml_t, xmle_t, nI_clamp, nI_add, pk_mul, pk_sub, zI_s, zI_k, zI_o, zL_s, zL_k, zL_o, zR_s, zR_k, zR_o, zIL, zIR, zIN, zLI, zLR, zLN, zRI, zRL, zRN, true_and, and_true, not_true_eq_false, not_false_eq_true, true_implies, false_implies, implies_true, forall_const, if_true, if_false, eq_self, false_and, and_false, implies_true, nI_l, ylle_t, ylle_f, xcl_t, xcl_f, x1, y_3]
    exact kk _ hr (mK_0 h)
  · rw [gP_none z] at kk
    simp (disch := omega) only [xle_t, xle_f, xlt_t, xlt_f, xeq_t, xeq_f, xle0_t, xle0_f, xlt0_f, x0lt_t, x0lt_f, x0le_t, xeq0_t, xeq0_f, xin, xem_f, xme_f, xlem_f, xlm_f, xml_t, xmle_t, nI_clamp, nI_add, pk_mul, pk_sub, zI_s, zI_k, zI_o, zL_s, zL_k, zL_o, zR_s, zR_k, zR_o, zIL, zIR, zIN, zLI, zLR, zLN, zRI, zRL, zRN, true_and, and_true, not_true_eq_false, not_false_eq_true, true_implies, false_implies, implies_true, forall_const, if_true, if_false, eq_self, false_and, and_false, implies_true, nI_l, ylle_t, ylle_f, xcl_t, xcl_f, x1, y_3, x2 3 rfl]
    exact kk _ hr (mK_0 h)
  rw [gP_some hp] at kk
  rcases ix3 w (n := 2) (by omega) with ⟨z, _, x1⟩ | ⟨z, _, _, x1, _, x3, _⟩ | ⟨w, hw, rfl, z⟩
  · rw [gC_none z] at kk
    simp (disch := omega) only [xle_t, xle_f, xlt_t, xlt_f, xeq_t, xeq_f, xle0_t, xle0_f, xlt0_f, x0lt_t, x0lt_f, x0le_t, xeq0_t, xeq0_f, xin, xem_f, xme_f, xlem_f, xlm_f, xml_t, xmle_t, nI_clamp, nI_add, pk_mul, pk_sub, zI_s, zI_k, zI_o, zL_s, zL_k, zL_o, zR_s, zR_k, zR_o, zIL, zIR, zIN, zLI, zLR, zLN, zRI, zRL, zRN, true_and, and_true, not_true_eq_false, not_false_eq_true, true_implies, false_implies, implies_true, forall_const, if_true, if_false, eq_self, false_and, and_false, implies_true, nI_l, ylle_t, ylle_f, xcl_t, xcl_f, x1, y_3]
    exact kk _ hr (mK_0 h)
  · rw [gC_none z] at kk
    simp (disch := omega) only [xle_t, xle_f, xlt_t, xlt_f, xeq_t, xeq_f, xle0_t, xle0_f, xlt0_f, x0lt_t, x0lt_f, x0le_t, xeq0_t, xeq0_f, xin, xem_f, xme_f, xlem_f, xlm_f, xml_t, xmle_t, nI_clamp, nI_add, pk_mul, pk_sub, zI_s, zI_k, zI_o, zL_s, zL_k, zL_o, zR_s, zR_k, zR_o, zIL, zIR, zIN, zLI, zLR, zLN, zRI, zRL, zRN, true_and, and_true, not_true_eq_false, not_false_eq_true, true_implies, false_implies, implies_true, forall_const, if_true, if_false, eq_self, false_and, and_false, implies_true, nI_l, ylle_t, ylle_f, xcl_t, xcl_f, x1, x3 1 rfl, y_3]
    exact kk _ hr (mK_0 h)
  rw [gC_some hw (by omega)] at kk
  by_cases kn : k < 0
  · rw [gN_neg kn] at kk
    simp (disch := omega) only [xle_t, xle_f, xlt_t, xlt_f, xeq_t, xeq_f, xle0_t, xle0_f, xlt0_f, x0lt_t, x0lt_f, x0le_t, xeq0_t, xeq0_f, xin, xem_f, xme_f, xlem_f, xlm_f, xml_t, xmle_t, nI_clamp, nI_add, pk_mul, pk_sub, zI_s, zI_k, zI_o, zL_s, zL_k, zL_o, zR_s, zR_k, zR_o, zIL, zIR, zIN, zLI, zLR, zLN, zRI, zRL, zRN, true_and, and_true, not_true_eq_false, not_false_eq_true, true_implies, false_implies, implies_true, forall_const, if_true, if_false, eq_self, false_and, and_false, implies_true, nI_l, ylle_t, ylle_f, xcl_t, xcl_f, y_3, x0le_neg kn]
    exact kk _ hr (mK_0 h)
  obtain ⟨k, hk, rfl⟩ := nI_of kn
  rw [gN_nat hk] at kk
  simp (disch := omega) only [xle_t, xle_f, xlt_t, xlt_f, xeq_t, xeq_f, xle0_t, xle0_f, xlt0_f, x0lt_t, x0lt_f, x0le_t, xeq0_t, xeq0_f, xin, xem_f, xme_f, xlem_f, xlm_f, xml_t, xmle_t, nI_clamp, nI_add, pk_mul, pk_sub, zI_s, zI_k, zI_o, zL_s, zL_k, zL_o, zR_s, zR_k, zR_o, zIL, zIR, zIN, zLI, zLR, zLN, zRI, zRL, zRN, true_and, and_true, not_true_eq_false, not_false_eq_true, true_implies, false_implies, implies_true, forall_const, if_true, if_false, eq_self, false_and, and_false, implies_true, nI_l, ylle_t, ylle_f, xcl_t, xcl_f, y_3]
  have h3n : (3 : Nat) ^ B.1.1 ≤ 3 ^ 8 := Nat.pow_le_pow_right (by decide) h8
  have h65 : (3 : Nat) ^ 8 = 6561 := rfl
  -- one way after the other
  have L : ∀ m i, i + m = 3 ^ B.1.1 → ∀ (g : MH) (u7 u8 : Option MV), zRf g → mK h g → J mX11_off d 0 0 Q 0 0 67 [some (.inr (.inr 111)), some (.inl (nI p)), some (.inl (nI k)), some (.inl (nI w)), some (.inl (nI (3 ^ B.1.1))), some (.inl (oI (oFold w (fun i => oH B.1 (B.2 p) i k) i))), some (.inl (nI i)), u7, u8] [] g := by
    intro m
    induction m with
    | zero =>
      intro i hi g u7 u8 rg kg
      obtain rfl : i = 3 ^ B.1.1 := by omega
      have kk1 := kk g rg kg
      unfold fOff at kk1
      refine u_X11_off_67 (d1' := 0) rg (by omega) ?_
      cases hf : oFold w (fun i => oH B.1 (B.2 p) i k) (3 ^ B.1.1) with
      | none =>
        rw [hf] at kk1
        simp (disch := omega) only [xle_t, xle_f, xlt_t, xlt_f, xeq_t, xeq_f, xle0_t, xle0_f, xlt0_f, x0lt_t, x0lt_f, x0le_t, xeq0_t, xeq0_f, xin, xem_f, xme_f, xlem_f, xlm_f, xml_t, xmle_t, nI_clamp, nI_add, pk_mul, pk_sub, zI_s, zI_k, zI_o, zL_s, zL_k, zL_o, zR_s, zR_k, zR_o, zIL, zIR, zIN, zLI, zLR, zLN, zRI, zRL, zRN, true_and, and_true, not_true_eq_false, not_false_eq_true, true_implies, false_implies, implies_true, forall_const, if_true, if_false, eq_self, false_and, and_false, implies_true, nI_l, ylle_t, ylle_f, xcl_t, xcl_f, oI]
        exact kk1
      | some v =>
        rw [hf] at kk1
        obtain ⟨⟨j, j1, j2⟩, _⟩ := oFold_some hf
        have hb : v ≤ 400000000 := by
          have ho := oR_o hB.1 (hB.2 p hp) (fun x => oTau (oDec (fun _ => true) B.1.1 0 j x))
          have j3 : (oR B.1 (B.2 p) (fun x => oTau (oDec (fun _ => true) B.1.1 0 j x))).2.1[k]? = some v := j2
          exact Nat.le_trans (ho.2.2.2.2.1.1 v (List.mem_of_getElem? j3)) ho.2.2.2.1
        simp (disch := omega) only [xle_t, xle_f, xlt_t, xlt_f, xeq_t, xeq_f, xle0_t, xle0_f, xlt0_f, x0lt_t, x0lt_f, x0le_t, xeq0_t, xeq0_f, xin, xem_f, xme_f, xlem_f, xlm_f, xml_t, xmle_t, nI_clamp, nI_add, pk_mul, pk_sub, zI_s, zI_k, zI_o, zL_s, zL_k, zL_o, zR_s, zR_k, zR_o, zIL, zIR, zIN, zLI, zLR, zLN, zRI, zRL, zRN, true_and, and_true, not_true_eq_false, not_false_eq_true, true_implies, false_implies, implies_true, forall_const, if_true, if_false, eq_self, false_and, and_false, implies_true, nI_l, ylle_t, ylle_f, xcl_t, xcl_f, oI, pk_div]
        exact kk1
    | succ m ih =>
      intro i hi g u7 u8 rg kg
      have hAg : bIn B (g.1 112) 0 := by rw [kg.1.i (by omega)]; exact hA
      refine u_X11_off_67 (d1' := 2) rg (by omega) ?_
      simp (disch := omega) only [xle_t, xle_f, xlt_t, xlt_f, xeq_t, xeq_f, xle0_t, xle0_f, xlt0_f, x0lt_t, x0lt_f, x0le_t, xeq0_t, xeq0_f, xin, xem_f, xme_f, xlem_f, xlm_f, xml_t, xmle_t, nI_clamp, nI_add, pk_mul, pk_sub, zI_s, zI_k, zI_o, zL_s, zL_k, zL_o, zR_s, zR_k, zR_o, zIL, zIR, zIN, zLI, zLR, zLN, zRI, zRL, zRN, true_and, and_true, not_true_eq_false, not_false_eq_true, true_implies, false_implies, implies_true, forall_const, if_true, if_false, eq_self, false_and, and_false, implies_true, nI_l, ylle_t, ylle_f, xcl_t, xcl_f]
      refine n_ast rg hAg.1 hB.1 (by omega) (fun h1 r1 f1 m1 => ?_)
      have hA1 : bIn B (h1.1 112) 0 := by rw [f1.i (by omega)]; exact hAg
      have k1 := kg.trans (mK_116 f1)
      refine u_X11_off_78 ?_
      have ho := oR_o hB.1 (hB.2 p hp) (fun x => oTau (oDec (fun _ => true) B.1.1 0 i x))
      -- the firsts of this way
      have M : ∀ m' c, c + m' = B.1.1 → ∀ (j : Nat) (g2 : MH), j < 6561 → (∀ x, c ≤ x → oDec (fun _ => true) m' c j x = oDec (fun _ => true) B.1.1 0 i x) → zRf g2 → zF (fun a => a ≠ 116) h1 g2 → (∀ z, z < 8 → z < c → g2.1 116 z = nI (fO B.1 (fun x => oTau (oDec (fun _ => true) B.1.1 0 i x)) z)) → (∀ z, z < 8 → c ≤ z → g2.1 116 z = nI (fT B.1 z)) → J mX11_off d 0 0 Q 0 0 85 [some (.inr (.inr 111)), some (.inl (nI p)), some (.inl (nI k)), some (.inl (nI w)), some (.inl (nI (3 ^ B.1.1))), some (.inl (oI (oFold w (fun i => oH B.1 (B.2 p) i k) i))), some (.inl (nI i)), some (.inl (nI j)), some (.inl (nI c))] [] g2 := by
        intro m'
        induction m' with
        | zero =>
          intro c hc j g2 hj hdec r2 f2 y1 y2
          have hA2 : bIn B (g2.1 112) 0 := by rw [f2.i (by omega)]; exact hA1
          have e0 : g2.1 112 0 = nI B.1.1 := hA2.1.1
          have k2 := k1.trans (mK_116 f2)
          refine u_X11_off_85 (d1' := 4) (d2' := 0) r2 (by omega) (by omega) ?_
          simp (disch := omega) only [xle_t, xle_f, xlt_t, xlt_f, xeq_t, xeq_f, xle0_t, xle0_f, xlt0_f, x0lt_t, x0lt_f, x0le_t, xeq0_t, xeq0_f, xin, xem_f, xme_f, xlem_f, xlm_f, xml_t, xmle_t, nI_clamp, nI_add, pk_mul, pk_sub, zI_s, zI_k, zI_o, zL_s, zL_k, zL_o, zR_s, zR_k, zR_o, zIL, zIR, zIN, zLI, zLR, zLN, zRI, zRL, zRN, true_and, and_true, not_true_eq_false, not_false_eq_true, true_implies, false_implies, implies_true, forall_const, if_true, if_false, eq_self, false_and, and_false, implies_true, nI_l, ylle_t, ylle_f, xcl_t, xcl_f, e0]
          refine n_runs (lo := 40) (f := fO B.1 (fun x => oTau (oDec (fun _ => true) B.1.1 0 i x))) r2 hp (fO_ok hB.1 _) (fun z hz => ?_) (mP.of hA2 hp (k2.2.2.2.2.trans h28)) (hB.2 p hp) (Or.inl ⟨rfl, rfl⟩) (by omega) (fun h3 r3 f3 s3 => ?_)
          · by_cases q : z < c
            · exact y1 z hz q
            · have e1 : fO B.1 (fun x => oTau (oDec (fun _ => true) B.1.1 0 i x)) z = 0 := if_neg (by omega)
              have e2 : fT B.1 z = 0 := if_neg (by omega)
              rw [y2 z hz (by omega), e1, e2]
          · have s3' : mS B.1.1 (oR B.1 (B.2 p) (fun x => oTau (oDec (fun _ => true) B.1.1 0 i x))) h3 := s3
            obtain ⟨t1, t2, _⟩ := s3'.2
            have eH : oH B.1 (B.2 p) i k = (oR B.1 (B.2 p) (fun x => oTau (oDec (fun _ => true) B.1.1 0 i x))).2.1[k]? := rfl
            have eF := oFold_s w (fun i => oH B.1 (B.2 p) i k) i
            simp only [eH] at eF
            have hbd : ∀ v, oFold w (fun i => oH B.1 (B.2 p) i k) i = some v → v ≤ 400000000 := by
              intro v hv
              obtain ⟨⟨j', _, j2⟩, _⟩ := oFold_some hv
              have ho' := oR_o hB.1 (hB.2 p hp) (fun x => oTau (oDec (fun _ => true) B.1.1 0 j' x))
              have j3 : (oR B.1 (B.2 p) (fun x => oTau (oDec (fun _ => true) B.1.1 0 j' x))).2.1[k]? = some v := j2
              exact Nat.le_trans (ho'.2.2.2.2.1.1 v (List.mem_of_getElem? j3)) ho'.2.2.2.1
            have nxt := fun u7 u8 => ih (i + 1) (by omega) h3 u7 u8 r3 (k2.trans f3.k)
            have h40 := ho.1
            have hbe : ∀ j, j < (oR B.1 (B.2 p) (fun x => oTau (oDec (fun _ => true) B.1.1 0 i x))).2.1.length → (oR B.1 (B.2 p) (fun x => oTau (oDec (fun _ => true) B.1.1 0 i x))).2.1.getD j 0 ≤ 400000000 := fun j hj => ho.be hj
            clear ho
            generalize (oR B.1 (B.2 p) (fun x => oTau (oDec (fun _ => true) B.1.1 0 i x))).2.1 = l at t1 t2 eF h40 hbe
            generalize oFold w (fun i => oH B.1 (B.2 p) i k) (i + 1) = o1 at eF nxt
            generalize oFold w (fun i => oH B.1 (B.2 p) i k) i = o0 at eF hbd
            refine u_X11_off_155 r3 ?_
            by_cases q : k < l.length
            · have hb := hbe k q
              have eL : l[k]? = some (l.getD k 0) := by rw [List.getD_eq_getElem?_getD, List.getElem?_eq_getElem q]; rfl
              have e124 := t2 k q
              rw [eL] at eF
              cases o0 with
              | none =>
                have e9 : o1 = some (l.getD k 0) := eF
                rw [e9] at nxt
                simp (disch := omega) only [xle_t, xle_f, xlt_t, xlt_f, xeq_t, xeq_f, xle0_t, xle0_f, xlt0_f, x0lt_t, x0lt_f, x0le_t, xeq0_t, xeq0_f, xin, xem_f, xme_f, xlem_f, xlm_f, xml_t, xmle_t, nI_clamp, nI_add, pk_mul, pk_sub, zI_s, zI_k, zI_o, zL_s, zL_k, zL_o, zR_s, zR_k, zR_o, zIL, zIR, zIN, zLI, zLR, zLN, zRI, zRL, zRN, true_and, and_true, not_true_eq_false, not_false_eq_true, true_implies, false_implies, implies_true, forall_const, if_true, if_false, eq_self, false_and, and_false, implies_true, nI_l, ylle_t, ylle_f, xcl_t, xcl_f, t1, oI, e124]
                exact nxt _ _
              | some u =>
                have hu := hbd u rfl
                have e9 : o1 = some (if w = 0 then min u (l.getD k 0) else max u (l.getD k 0)) := eF
                rw [e9] at nxt
                by_cases w0 : w = 0
                · rw [if_pos w0] at nxt
                  by_cases z : u ≤ l.getD k 0
                  · rw [Nat.min_eq_left z] at nxt
                    simp (disch := omega) only [xle_t, xle_f, xlt_t, xlt_f, xeq_t, xeq_f, xle0_t, xle0_f, xlt0_f, x0lt_t, x0lt_f, x0le_t, xeq0_t, xeq0_f, xin, xem_f, xme_f, xlem_f, xlm_f, xml_t, xmle_t, nI_clamp, nI_add, pk_mul, pk_sub, zI_s, zI_k, zI_o, zL_s, zL_k, zL_o, zR_s, zR_k, zR_o, zIL, zIR, zIN, zLI, zLR, zLN, zRI, zRL, zRN, true_and, and_true, not_true_eq_false, not_false_eq_true, true_implies, false_implies, implies_true, forall_const, if_true, if_false, eq_self, false_and, and_false, implies_true, nI_l, ylle_t, ylle_f, xcl_t, xcl_f, t1, oI, e124]
                    exact nxt _ _
                  · rw [Nat.min_eq_right (by omega)] at nxt
                    simp (disch := omega) only [xle_t, xle_f, xlt_t, xlt_f, xeq_t, xeq_f, xle0_t, xle0_f, xlt0_f, x0lt_t, x0lt_f, x0le_t, xeq0_t, xeq0_f, xin, xem_f, xme_f, xlem_f, xlm_f, xml_t, xmle_t, nI_clamp, nI_add, pk_mul, pk_sub, zI_s, zI_k, zI_o, zL_s, zL_k, zL_o, zR_s, zR_k, zR_o, zIL, zIR, zIN, zLI, zLR, zLN, zRI, zRL, zRN, true_and, and_true, not_true_eq_false, not_false_eq_true, true_implies, false_implies, implies_true, forall_const, if_true, if_false, eq_self, false_and, and_false, implies_true, nI_l, ylle_t, ylle_f, xcl_t, xcl_f, t1, oI, e124]
                    exact nxt _ _
                · rw [if_neg w0] at nxt
                  by_cases z : l.getD k 0 ≤ u
                  · rw [Nat.max_eq_left z] at nxt
                    simp (disch := omega) only [xle_t, xle_f, xlt_t, xlt_f, xeq_t, xeq_f, xle0_t, xle0_f, xlt0_f, x0lt_t, x0lt_f, x0le_t, xeq0_t, xeq0_f, xin, xem_f, xme_f, xlem_f, xlm_f, xml_t, xmle_t, nI_clamp, nI_add, pk_mul, pk_sub, zI_s, zI_k, zI_o, zL_s, zL_k, zL_o, zR_s, zR_k, zR_o, zIL, zIR, zIN, zLI, zLR, zLN, zRI, zRL, zRN, true_and, and_true, not_true_eq_false, not_false_eq_true, true_implies, false_implies, implies_true, forall_const, if_true, if_false, eq_self, false_and, and_false, implies_true, nI_l, ylle_t, ylle_f, xcl_t, xcl_f, t1, oI, e124]
                    exact nxt _ _
                  · rw [Nat.max_eq_right (by omega)] at nxt
                    simp (disch := omega) only [xle_t, xle_f, xlt_t, xlt_f, xeq_t, xeq_f, xle0_t, xle0_f, xlt0_f, x0lt_t, x0lt_f, x0le_t, xeq0_t, xeq0_f, xin, xem_f, xme_f, xlem_f, xlm_f, xml_t, xmle_t, nI_clamp, nI_add, pk_mul, pk_sub, zI_s, zI_k, zI_o, zL_s, zL_k, zL_o, zR_s, zR_k, zR_o, zIL, zIR, zIN, zLI, zLR, zLN, zRI, zRL, zRN, true_and, and_true, not_true_eq_false, not_false_eq_true, true_implies, false_implies, implies_true, forall_const, if_true, if_false, eq_self, false_and, and_false, implies_true, nI_l, ylle_t, ylle_f, xcl_t, xcl_f, t1, oI, e124]
                    exact nxt _ _
            · have eL : l[k]? = none := List.getElem?_eq_none (by omega)
              rw [eL] at eF
              have e9 : o1 = o0 := eF
              rw [e9] at nxt
              simp (disch := omega) only [xle_t, xle_f, xlt_t, xlt_f, xeq_t, xeq_f, xle0_t, xle0_f, xlt0_f, x0lt_t, x0lt_f, x0le_t, xeq0_t, xeq0_f, xin, xem_f, xme_f, xlem_f, xlm_f, xml_t, xmle_t, nI_clamp, nI_add, pk_mul, pk_sub, zI_s, zI_k, zI_o, zL_s, zL_k, zL_o, zR_s, zR_k, zR_o, zIL, zIR, zIN, zLI, zLR, zLN, zRI, zRL, zRN, true_and, and_true, not_true_eq_false, not_false_eq_true, true_implies, false_implies, implies_true, forall_const, if_true, if_false, eq_self, false_and, and_false, implies_true, nI_l, ylle_t, ylle_f, xcl_t, xcl_f, t1]
              exact nxt _ _
        | succ m' ihM =>
          intro c hc j g2 hj hdec r2 f2 y1 y2
          have hcn : c < B.1.1 := by omega
          have hA2 : bIn B (g2.1 112) 0 := by rw [f2.i (by omega)]; exact hA1
          have e0 : g2.1 112 0 = nI B.1.1 := hA2.1.1
          have e65 : g2.1 112 (65 + c) = nI (B.1.2.2.2.2 c) := by
            have := (hA2.1.2.2 c hcn).2.2.2
            rw [Nat.zero_add] at this
            exact this
          have hdr := (hB.1.2 c hcn).2.2.2
          refine u_X11_off_85 (d1' := 0) (d2' := 1) r2 (by omega) (by omega) ?_
          simp (disch := omega) only [xle_t, xle_f, xlt_t, xlt_f, xeq_t, xeq_f, xle0_t, xle0_f, xlt0_f, x0lt_t, x0lt_f, x0le_t, xeq0_t, xeq0_f, xin, xem_f, xme_f, xlem_f, xlm_f, xml_t, xmle_t, nI_clamp, nI_add, pk_mul, pk_sub, zI_s, zI_k, zI_o, zL_s, zL_k, zL_o, zR_s, zR_k, zR_o, zIL, zIR, zIN, zLI, zLR, zLN, zRI, zRL, zRN, true_and, and_true, not_true_eq_false, not_false_eq_true, true_implies, false_implies, implies_true, forall_const, if_true, if_false, eq_self, false_and, and_false, implies_true, nI_l, ylle_t, ylle_f, xcl_t, xcl_f, e0]
          refine m_rest r2 hA2.1 hB.1 hcn (by omega) ?_
          have hz : zokA g2 116 20 (nI c) := zia r2 (by decide) rfl (vp_in_nI (by omega) (by omega))
          have hrem : nI j - nI j / nI 3 * nI 3 = nI (j % 3) := pk_rem (by omega) (by omega) (by omega)
          have hpc := pctM (j % 3) (by omega) (B.1.2.2.2.2 c) (by omega)
          have hdc := hdec c (Nat.le_refl _)
          have hd1 : oDec (fun _ => true) (m' + 1) c j c = j % 3 := by
            show (if c = c then (if (true = true) then j % 3 else 0) else _) = _
            rw [if_pos rfl, if_pos rfl]
          rw [hd1] at hdc
          obtain ⟨b1, b2⟩ := oPct_b (s := oTau (j % 3)) hdr
          have hm := mp_b (cS_pos hB.1 hcn) (cS_le hB.1 hcn) b1 b2
          have ef : fO B.1 (fun x => oTau (oDec (fun _ => true) B.1.1 0 i x)) c = cS B.1 c * oPct (oTau (j % 3)) (B.1.2.2.2.2 c) / 100 * 256 := by
            unfold fO
            rw [if_pos hcn]
            show cS B.1 c * oPct (oTau (oDec (fun _ => true) B.1.1 0 i c)) _ / 100 * 256 = _
            rw [← hdc]
          refine u_X11_off_108 r2 ?_
          have ec : (nI c).toNatClampNeg = c := nI_clamp (by omega)
          have e65i : (nI 65 + nI c) = nI (65 + c) := nI_add _ _
          have e65c : (nI (65 + c)).toNatClampNeg = 65 + c := nI_clamp (by omega)
          have ediv : nI j / nI 3 = nI (j / 3) := pk_div (by omega) (by omega) (by omega)
          rw [hrem, e65i, e65c, e65, hpc, ediv, ec, pk_mul, pk_div (by omega) (by omega) (by omega), pk_mul, ← ef, nI_add]
          refine ⟨vp_in_nI (by omega) (by omega), hz, ?_⟩
          refine ihM (c + 1) (by omega) (j / 3) _ (by omega) (fun x hx => ?_) r2 (f2.trans (zF_I _ _ _ (by omega))) (fun z hz8 hzc => ?_) (fun z hz8 hzc => ?_)
          · have := hdec x (by omega)
            rw [← this]
            show _ = (if x = c then _ else oDec (fun _ => true) m' (c + 1) (if (true = true) then j / 3 else j) x)
            rw [if_neg (by omega), if_pos rfl]
          · by_cases q : z = c
            · rw [q, zI_s]
            · rw [zI_k _ _ _ q]; exact y1 z hz8 (by omega)
          · rw [zI_k _ _ _ (by omega)]; exact y2 z hz8 (by omega)
      exact M B.1.1 0 (by omega) i h1 (by omega) (fun x _ => rfl) r1 zF.rfl (fun z _ hz => absurd hz (Nat.not_lt_zero _)) (fun z hz _ => m1 z hz)
  have k0 := mK_0 h
  have e0 : (zsI h 111 0 (nI 0)).1 112 0 = nI B.1.1 := hA.1.1
  have hr0 : zRf (zsI h 111 0 (nI 0)) := hr
  generalize zsI h 111 0 (nI 0) = h0 at k0 e0 hr0
  have W : ∀ m c, c + m = B.1.1 → J mX11_off d 0 0 Q 0 0 38 [some (.inr (.inr 111)), some (.inl (nI p)), some (.inl (nI k)), some (.inl (nI w)), some (.inl (nI (3 ^ c))), some (.inl (nI c)), none, none, none] [] h0 := by
    intro m
    induction m with
    | zero =>
      intro c hc
      obtain rfl : c = B.1.1 := by omega
      refine u_X11_off_38 hr0 ?_
      simp (disch := omega) only [xle_t, xle_f, xlt_t, xlt_f, xeq_t, xeq_f, xle0_t, xle0_f, xlt0_f, x0lt_t, x0lt_f, x0le_t, xeq0_t, xeq0_f, xin, xem_f, xme_f, xlem_f, xlm_f, xml_t, xmle_t, nI_clamp, nI_add, pk_mul, pk_sub, zI_s, zI_k, zI_o, zL_s, zL_k, zL_o, zR_s, zR_k, zR_o, zIL, zIR, zIN, zLI, zLR, zLN, zRI, zRL, zRN, true_and, and_true, not_true_eq_false, not_false_eq_true, true_implies, false_implies, implies_true, forall_const, if_true, if_false, eq_self, false_and, and_false, implies_true, nI_l, ylle_t, ylle_f, xcl_t, xcl_f, e0]
      exact L (3 ^ B.1.1) 0 (by omega) h0 none none hr0 k0
    | succ m ih =>
      intro c hc
      refine u_X11_off_38 hr0 ?_
      simp (disch := omega) only [xle_t, xle_f, xlt_t, xlt_f, xeq_t, xeq_f, xle0_t, xle0_f, xlt0_f, x0lt_t, x0lt_f, x0le_t, xeq0_t, xeq0_f, xin, xem_f, xme_f, xlem_f, xlm_f, xml_t, xmle_t, nI_clamp, nI_add, pk_mul, pk_sub, zI_s, zI_k, zI_o, zL_s, zL_k, zL_o, zR_s, zR_k, zR_o, zIL, zIR, zIN, zLI, zLR, zLN, zRI, zRL, zRN, true_and, and_true, not_true_eq_false, not_false_eq_true, true_implies, false_implies, implies_true, forall_const, if_true, if_false, eq_self, false_and, and_false, implies_true, nI_l, ylle_t, ylle_f, xcl_t, xcl_f, e0]
      have := ih (c + 1) (by omega)
      rw [Nat.pow_succ] at this
      exact this
  exact W B.1.1 0 (by omega)
