/-! ===== serves, fittest ===== -/
noncomputable def fSv (l : List Nat) (n : Nat) (f : Nat → Int64) (s : Nat) : Nat := fC1 (fun i => (fFst (fun j => fNr (f i) s (l.getD j 0)) l.length 0).isSome) n 0 0
theorem c_served {B : BK} {W : RW} {h : MH} {d p r so n s : Nat} {f : Nat → Int64} {Q : Option MV → MH → Prop} (hr : zRf h) (hA : bAt B h 15) (hB : bOK B) (hW : rwC W h) (hp : p < 4) (hq : r < 4) (hw : W r = some (so, n, f)) (hn : n ≤ 40) (hs : s < 2 ^ 31) (hd : 6 ≤ d) (kk : ∀ h', zRf h' → cF h h' → Q (some (.inl (nI (fSv (rTo B.1 (B.2 p)).2.1 n f s)))) h') : Con mX10_served d 0 0 [.inr (.inr 1), .inl (nI p), .inr (.inr (103 + 2 * r)), .inl (nI s)] h Q := by
  refine u_X10_served (d1' := 5) hr (by omega) ?_
  refine c_pat hr hA hB hp (by omega) (fun h1 r1 f1 s1 => ?_)
  have kk1 := kk h1 r1 f1.c
  have ho := rTo_o hB hp
  have hW1 : rwC W h1 := hW.keep (f1.weak (fun a q => by omega))
  obtain ⟨b0, b1, b2, b3⟩ := (hW1 r hq).2 so n f hw
  have ho7 := zrw' r1 hq
  refine u_X10_served_5 ?_
  unfold fSv at kk1
  have L : ∀ m i a, i + m = n → a ≤ i → Q (some (.inl (nI (fC1 (fun i => (fFst (fun j => fNr (f i) s ((rTo B.1 (B.2 p)).2.1.getD j 0)) (rTo B.1 (B.2 p)).2.1.length 0).isSome) m i a)))) h1 → J mX10_served d 0 0 Q 0 0 11 [some (.inr (.inr 1)), some (.inl (nI p)), some (.inr (.inr (103 + 2 * r))), some (.inl (nI s)), some (.inl (nI a)), some (.inl (nI i))] [] h1 := by
    intro m
    induction m with
    | zero =>
      intro i a hi ha kq
      refine u_X10_served_11 (d1' := 0) r1 (by omega) ?_
      simp (disch := omega) only [xle_t, xle_f, xlt_t, xlt_f, xeq_t, xeq_f, xle0_t, xle0_f, xlt0_f, x0lt_t, x0lt_f, x0le_t, xeq0_t, xeq0_f, xin, xem_f, xme_f, xlem_f, xlm_f, xml_t, xmle_t, nI_clamp, nI_add, pk_mul, pk_sub, zI_s, zI_k, zI_o, zL_s, zL_k, zL_o, zR_s, zR_k, zR_o, zIL, zIR, zIN, zLI, zLR, zLN, zRI, zRL, zRN, true_and, and_true, not_true_eq_false, not_false_eq_true, true_implies, false_implies, implies_true, forall_const, if_true, if_false, eq_self, false_and, and_false, implies_true, nI_l, ylle_t, ylle_f, xcl_t, xcl_f, ho7, b2]
      exact kq
    | succ m ih =>
      intro i a hi ha kq
      have kq' : Q (some (.inl (nI (fC1 (fun i => (fFst (fun j => fNr (f i) s ((rTo B.1 (B.2 p)).2.1.getD j 0)) (rTo B.1 (B.2 p)).2.1.length 0).isSome) m (i + 1) (a + if (fFst (fun j => fNr (f i) s ((rTo B.1 (B.2 p)).2.1.getD j 0)) (rTo B.1 (B.2 p)).2.1.length 0).isSome = true then 1 else 0))))) h1 := kq
      have e3 : h1.2.1 (103 + 2 * r + 1) i = f i := by rw [show 103 + 2 * r + 1 = 104 + 2 * r by omega]; exact b3 i (by omega)
      refine u_X10_served_11 (d1' := 1) r1 (by omega) ?_
      simp (disch := omega) only [xle_t, xle_f, xlt_t, xlt_f, xeq_t, xeq_f, xle0_t, xle0_f, xlt0_f, x0lt_t, x0lt_f, x0le_t, xeq0_t, xeq0_f, xin, xem_f, xme_f, xlem_f, xlm_f, xml_t, xmle_t, nI_clamp, nI_add, pk_mul, pk_sub, zI_s, zI_k, zI_o, zL_s, zL_k, zL_o, zR_s, zR_k, zR_o, zIL, zIR, zIN, zLI, zLR, zLN, zRI, zRL, zRN, true_and, and_true, not_true_eq_false, not_false_eq_true, true_implies, false_implies, implies_true, forall_const, if_true, if_false, eq_self, false_and, and_false, implies_true, nI_l, ylle_t, ylle_f, xcl_t, xcl_f, ho7, b2, e3]
      refine c_near r1 s1.1.2 ho.1 (fun j hj => ho.be hj) hs (Nat.zero_le _) (by omega) ?_
      rw [Nat.sub_zero]
      refine u_X10_served_36 ?_
      cases hf : fFst (fun j => fNr (f i) s ((rTo B.1 (B.2 p)).2.1.getD j 0)) (rTo B.1 (B.2 p)).2.1.length 0 with
      | none =>
        rw [hf] at kq'
        simp (disch := omega) only [xle_t, xle_f, xlt_t, xlt_f, xeq_t, xeq_f, xle0_t, xle0_f, xlt0_f, x0lt_t, x0lt_f, x0le_t, xeq0_t, xeq0_f, xin, xem_f, xme_f, xlem_f, xlm_f, xml_t, xmle_t, nI_clamp, nI_add, pk_mul, pk_sub, zI_s, zI_k, zI_o, zL_s, zL_k, zL_o, zR_s, zR_k, zR_o, zIL, zIR, zIN, zLI, zLR, zLN, zRI, zRL, zRN, true_and, and_true, not_true_eq_false, not_false_eq_true, true_implies, false_implies, implies_true, forall_const, if_true, if_false, eq_self, false_and, and_false, implies_true, nI_l, ylle_t, ylle_f, xcl_t, xcl_f, oI]
        exact ih (i + 1) a (by omega) (by omega) kq'
      | some j =>
        rw [hf] at kq'
        have := fFst_b hf
        have := ho.1
        simp (disch := omega) only [xle_t, xle_f, xlt_t, xlt_f, xeq_t, xeq_f, xle0_t, xle0_f, xlt0_f, x0lt_t, x0lt_f, x0le_t, xeq0_t, xeq0_f, xin, xem_f, xme_f, xlem_f, xlm_f, xml_t, xmle_t, nI_clamp, nI_add, pk_mul, pk_sub, zI_s, zI_k, zI_o, zL_s, zL_k, zL_o, zR_s, zR_k, zR_o, zIL, zIR, zIN, zLI, zLR, zLN, zRI, zRL, zRN, true_and, and_true, not_true_eq_false, not_false_eq_true, true_implies, false_implies, implies_true, forall_const, if_true, if_false, eq_self, false_and, and_false, implies_true, nI_l, ylle_t, ylle_f, xcl_t, xcl_f, oI]
        exact ih (i + 1) (a + 1) (by omega) (by omega) kq'
  exact L n 0 0 (by omega) (by omega) kk1
theorem nrM {v : Int64} {s b : Nat} (hs : s < 2 ^ 31) (hb : b ≤ 400000000) : (lN (b / 256) - lN s ≤ v) = (((b / 256 : Nat) : Int) - (s : Int) ≤ v.toInt) ∧ (v ≤ lN (b / 256) + lN s) = (v.toInt ≤ ((b / 256 : Nat) : Int) + (s : Int)) := by
  refine ⟨propext ?_, propext ?_⟩
  · rw [wle, nr1 (v := v) hs hb]
  · rw [wle, nr2 (v := v) hs hb]
theorem bIf : bI false = nI 0 := rfl
theorem bIt : bI true = nI 1 := rfl
theorem n_served {B : BK} {W : RW} {h : MH} {d p r so n s : Nat} {f : Nat → Int64} {Q : Option MV → MH → Prop} (hr : zRf h) (hA : bIn B (h.1 112) 0) (hB : bOK B) (h28 : h.1 111 28 = -(nI 1)) (hW : rwM W h) (hp : p < 4) (hq : r < 4) (hw : W r = some (so, n, f)) (hn : n ≤ 40) (hs : s < 2 ^ 31) (hd : 6 ≤ d) (kk : ∀ h', zRf h' → mK h h' → Q (some (.inl (nI (fSv (rTo B.1 (B.2 p)).2.1 n f s)))) h') : Con mX11_served d 0 0 [.inr (.inr 111), .inl (nI p), .inl (nI r), .inl (nI s)] h Q := by
  refine u_X11_served (d1' := 5) hr (by omega) ?_
  refine n_hears hr hA hB h28 hp (by omega) (fun h1 r1 k1 s1 he1 _ => ?_)
  have kk1 := kk h1 r1 k1
  have ho := rTo_o hB hp
  have hbe : ∀ j, j < (rTo B.1 (B.2 p)).2.1.length → (rTo B.1 (B.2 p)).2.1.getD j 0 ≤ 400000000 := fun j hj => ho.be hj
  have h40 := ho.1
  have hW1 : rwM W h1 := k1.w hW
  obtain ⟨b0, b1, b2⟩ := (hW1 r hq).2 so n f hw
  obtain ⟨t1, t2⟩ := he1
  clear s1 ho
  refine u_X11_served_5 ?_
  unfold fSv at kk1
  generalize (rTo B.1 (B.2 p)).2.1 = l at kk1 t1 t2 hbe h40
  have L : ∀ m i a, i + m = n → a ≤ i → ∀ u6 u7, Q (some (.inl (nI (fC1 (fun i => (fFst (fun j => fNr (f i) s (l.getD j 0)) l.length 0).isSome) m i a)))) h1 → J mX11_served d 0 0 Q 0 0 11 [some (.inr (.inr 111)), some (.inl (nI p)), some (.inl (nI r)), some (.inl (nI s)), some (.inl (nI a)), some (.inl (nI i)), u6, u7] [] h1 := by
    intro m
    induction m with
    | zero =>
      intro i a hi ha u6 u7 kq
      refine u_X11_served_11 r1 ?_
      simp (disch := omega) only [xle_t, xle_f, xlt_t, xlt_f, xeq_t, xeq_f, xle0_t, xle0_f, xlt0_f, x0lt_t, x0lt_f, x0le_t, xeq0_t, xeq0_f, xin, xem_f, xme_f, xlem_f, xlm_f, xml_t, xmle_t, nI_clamp, nI_add, pk_mul, pk_sub, zI_s, zI_k, zI_o, zL_s, zL_k, zL_o, zR_s, zR_k, zR_o, zIL, zIR, zIN, zLI, zLR, zLN, zRI, zRL, zRN, true_and, and_true, not_true_eq_false, not_false_eq_true, true_implies, false_implies, implies_true, forall_const, if_true, if_false, eq_self, false_and, and_false, implies_true, nI_l, ylle_t, ylle_f, xcl_t, xcl_f, b1]
      exact kq
    | succ m ih =>
      intro i a hi ha u6 u7 kq
      have kq' : Q (some (.inl (nI (fC1 (fun i => (fFst (fun j => fNr (f i) s (l.getD j 0)) l.length 0).isSome) m (i + 1) (a + if (fFst (fun j => fNr (f i) s (l.getD j 0)) l.length 0).isSome = true then 1 else 0))))) h1 := kq
      have e3 := b2 i (by omega)
      refine u_X11_served_11 r1 ?_
      simp (disch := omega) only [xle_t, xle_f, xlt_t, xlt_f, xeq_t, xeq_f, xle0_t, xle0_f, xlt0_f, x0lt_t, x0lt_f, x0le_t, xeq0_t, xeq0_f, xin, xem_f, xme_f, xlem_f, xlm_f, xml_t, xmle_t, nI_clamp, nI_add, pk_mul, pk_sub, zI_s, zI_k, zI_o, zL_s, zL_k, zL_o, zR_s, zR_k, zR_o, zIL, zIR, zIN, zLI, zLR, zLN, zRI, zRL, zRN, true_and, and_true, not_true_eq_false, not_false_eq_true, true_implies, false_implies, implies_true, forall_const, if_true, if_false, eq_self, false_and, and_false, implies_true, nI_l, ylle_t, ylle_f, xcl_t, xcl_f, b1]
      have M : ∀ m' j (b : Bool), j + m' = l.length → (b || (fFst (fun j => fNr (f i) s (l.getD j 0)) m' j).isSome) = (fFst (fun j => fNr (f i) s (l.getD j 0)) l.length 0).isSome → J mX11_served d 0 0 Q 0 0 28 [some (.inr (.inr 111)), some (.inl (nI p)), some (.inl (nI r)), some (.inl (nI s)), some (.inl (nI a)), some (.inl (nI i)), some (.inl (bI b)), some (.inl (nI j))] [] h1 := by
        intro m'
        induction m' with
        | zero =>
          intro j b hj e
          have e' : b = (fFst (fun j => fNr (f i) s (l.getD j 0)) l.length 0).isSome := by
            rw [← e]; show b = (b || false); rw [Bool.or_false]
          rw [← e'] at kq'
          refine u_X11_served_28 r1 (by omega) ?_
          cases b with
          | false =>
            simp (disch := omega) only [xle_t, xle_f, xlt_t, xlt_f, xeq_t, xeq_f, xle0_t, xle0_f, xlt0_f, x0lt_t, x0lt_f, x0le_t, xeq0_t, xeq0_f, xin, xem_f, xme_f, xlem_f, xlm_f, xml_t, xmle_t, nI_clamp, nI_add, pk_mul, pk_sub, zI_s, zI_k, zI_o, zL_s, zL_k, zL_o, zR_s, zR_k, zR_o, zIL, zIR, zIN, zLI, zLR, zLN, zRI, zRL, zRN, true_and, and_true, not_true_eq_false, not_false_eq_true, true_implies, false_implies, implies_true, forall_const, if_true, if_false, eq_self, false_and, and_false, implies_true, nI_l, ylle_t, ylle_f, xcl_t, xcl_f, t1, bIf, bIt]
            exact ih (i + 1) a (by omega) (by omega) _ _ kq'
          | true =>
            simp (disch := omega) only [xle_t, xle_f, xlt_t, xlt_f, xeq_t, xeq_f, xle0_t, xle0_f, xlt0_f, x0lt_t, x0lt_f, x0le_t, xeq0_t, xeq0_f, xin, xem_f, xme_f, xlem_f, xlm_f, xml_t, xmle_t, nI_clamp, nI_add, pk_mul, pk_sub, zI_s, zI_k, zI_o, zL_s, zL_k, zL_o, zR_s, zR_k, zR_o, zIL, zIR, zIN, zLI, zLR, zLN, zRI, zRL, zRN, true_and, and_true, not_true_eq_false, not_false_eq_true, true_implies, false_implies, implies_true, forall_const, if_true, if_false, eq_self, false_and, and_false, implies_true, nI_l, ylle_t, ylle_f, xcl_t, xcl_f, t1, bIf, bIt]
            exact ih (i + 1) (a + 1) (by omega) (by omega) _ _ kq'
        | succ m' ihM =>
          intro j b hj e
          refine u_X11_served_28 r1 (by omega) ?_
          cases b with
          | true =>
            simp (disch := omega) only [xle_t, xle_f, xlt_t, xlt_f, xeq_t, xeq_f, xle0_t, xle0_f, xlt0_f, x0lt_t, x0lt_f, x0le_t, xeq0_t, xeq0_f, xin, xem_f, xme_f, xlem_f, xlm_f, xml_t, xmle_t, nI_clamp, nI_add, pk_mul, pk_sub, zI_s, zI_k, zI_o, zL_s, zL_k, zL_o, zR_s, zR_k, zR_o, zIL, zIR, zIN, zLI, zLR, zLN, zRI, zRL, zRN, true_and, and_true, not_true_eq_false, not_false_eq_true, true_implies, false_implies, implies_true, forall_const, if_true, if_false, eq_self, false_and, and_false, implies_true, nI_l, ylle_t, ylle_f, xcl_t, xcl_f, t1, bIf, bIt]
            exact ihM (j + 1) true (by omega) (by rw [← e]; rfl)
          | false =>
            have e' : (if fNr (f i) s (l.getD j 0) = true then some j else fFst (fun j => fNr (f i) s (l.getD j 0)) m' (j + 1)).isSome = (fFst (fun j => fNr (f i) s (l.getD j 0)) l.length 0).isSome := e
            have e126 := t2 j (by omega)
            have hbj := hbe j (by omega)
            obtain ⟨c1, c2⟩ := nrM (v := f i) hs hbj
            have en : fNr (f i) s (l.getD j 0) = decide (((l.getD j 0 / 256 : Nat) : Int) - (s : Int) ≤ (f i).toInt ∧ (f i).toInt ≤ ((l.getD j 0 / 256 : Nat) : Int) + (s : Int)) := rfl
            by_cases q1 : ((l.getD j 0 / 256 : Nat) : Int) - (s : Int) ≤ (f i).toInt
            · by_cases q2 : (f i).toInt ≤ ((l.getD j 0 / 256 : Nat) : Int) + (s : Int)
              · rw [en, decide_eq_true ⟨q1, q2⟩, if_pos rfl] at e'
                simp (disch := omega) only [xle_t, xle_f, xlt_t, xlt_f, xeq_t, xeq_f, xle0_t, xle0_f, xlt0_f, x0lt_t, x0lt_f, x0le_t, xeq0_t, xeq0_f, xin, xem_f, xme_f, xlem_f, xlm_f, xml_t, xmle_t, nI_clamp, nI_add, pk_mul, pk_sub, zI_s, zI_k, zI_o, zL_s, zL_k, zL_o, zR_s, zR_k, zR_o, zIL, zIR, zIN, zLI, zLR, zLN, zRI, zRL, zRN, true_and, and_true, not_true_eq_false, not_false_eq_true, true_implies, false_implies, implies_true, forall_const, if_true, if_false, eq_self, false_and, and_false, implies_true, nI_l, ylle_t, ylle_f, xcl_t, xcl_f, t1, bIf, bIt, e126, e3, c1, q1, c2, q2]
                exact ihM (j + 1) true (by omega) (by rw [← e']; rfl)
              · rw [en, decide_eq_false (by omega), if_neg (by decide)] at e'
                simp (disch := omega) only [xle_t, xle_f, xlt_t, xlt_f, xeq_t, xeq_f, xle0_t, xle0_f, xlt0_f, x0lt_t, x0lt_f, x0le_t, xeq0_t, xeq0_f, xin, xem_f, xme_f, xlem_f, xlm_f, xml_t, xmle_t, nI_clamp, nI_add, pk_mul, pk_sub, zI_s, zI_k, zI_o, zL_s, zL_k, zL_o, zR_s, zR_k, zR_o, zIL, zIR, zIN, zLI, zLR, zLN, zRI, zRL, zRN, true_and, and_true, not_true_eq_false, not_false_eq_true, true_implies, false_implies, implies_true, forall_const, if_true, if_false, eq_self, false_and, and_false, implies_true, nI_l, ylle_t, ylle_f, xcl_t, xcl_f, t1, bIf, bIt, e126, e3, c1, q1, c2, q2]
                exact ihM (j + 1) false (by omega) e'
            · rw [en, decide_eq_false (by omega), if_neg (by decide)] at e'
              simp (disch := omega) only [xle_t, xle_f, xlt_t, xlt_f, xeq_t, xeq_f, xle0_t, xle0_f, xlt0_f, x0lt_t, x0lt_f, x0le_t, xeq0_t, xeq0_f, xin, xem_f, xme_f, xlem_f, xlm_f, xml_t, xmle_t, nI_clamp, nI_add, pk_mul, pk_sub, zI_s, zI_k, zI_o, zL_s, zL_k, zL_o, zR_s, zR_k, zR_o, zIL, zIR, zIN, zLI, zLR, zLN, zRI, zRL, zRN, true_and, and_true, not_true_eq_false, not_false_eq_true, true_implies, false_implies, implies_true, forall_const, if_true, if_false, eq_self, false_and, and_false, implies_true, nI_l, ylle_t, ylle_f, xcl_t, xcl_f, t1, bIf, bIt, e126, e3, c1, q1]
              exact ihM (j + 1) false (by omega) e'
      exact M l.length 0 false (by omega) (Bool.false_or _)
  exact L n 0 0 (by omega) (by omega) none none kk1
noncomputable def gServes (B : BK) (W : RW) (x y t : Int32) : Int32 := gP x (fun p => gW W y (fun _ w => gN t (fun s => nI (fSv (rTo B.1 (B.2 p)).2.1 w.2.1 w.2.2 s))))
theorem o_serves {B : BK} {W : RW} {h : MH} {d : Nat} {x y t : Int32} {Q : Option MV → MH → Prop} (hr : zRf h) (hA : bAt B h 15) (hB : bOK B) (hW : rwC W h) (hWo : rwOK W) (hd : 7 ≤ d) (kk : ∀ h', zRf h' → cF h h' → Q (some (.inl (gServes B W x y t))) h') : Con mX10_serves d 0 0 [.inr (.inr 1), .inl x, .inl y, .inl t] h Q := by
  unfold gServes at kk
  refine u_X10_serves (d1' := 6) hr (by omega) (by omega) ?_
  rcases ix3 x (n := 4) (by omega) with ⟨z, x1, _⟩ | ⟨z, x1, x2, _⟩ | ⟨p, hp, rfl, z⟩
  · rw [gP_none z] at kk
    simp (disch := omega) only [xle_t, xle_f, xlt_t, xlt_f, xeq_t, xeq_f, xle0_t, xle0_f, xlt0_f, x0lt_t, x0lt_f, x0le_t, xeq0_t, xeq0_f, xin, xem_f, xme_f, xlem_f, xlm_f, xml_t, xmle_t, nI_clamp, nI_add, pk_mul, pk_sub, zI_s, zI_k, zI_o, zL_s, zL_k, zL_o, zR_s, zR_k, zR_o, zIL, zIR, zIN, zLI, zLR, zLN, zRI, zRL, zRN, true_and, and_true, not_true_eq_false, not_false_eq_true, true_implies, false_implies, implies_true, forall_const, if_true, if_false, eq_self, false_and, and_false, implies_true, nI_l, ylle_t, ylle_f, xcl_t, xcl_f, x1]
    exact kk h hr zF.rfl
  · rw [gP_none z] at kk
    simp (disch := omega) only [xle_t, xle_f, xlt_t, xlt_f, xeq_t, xeq_f, xle0_t, xle0_f, xlt0_f, x0lt_t, x0lt_f, x0le_t, xeq0_t, xeq0_f, xin, xem_f, xme_f, xlem_f, xlm_f, xml_t, xmle_t, nI_clamp, nI_add, pk_mul, pk_sub, zI_s, zI_k, zI_o, zL_s, zL_k, zL_o, zR_s, zR_k, zR_o, zIL, zIR, zIN, zLI, zLR, zLN, zRI, zRL, zRN, true_and, and_true, not_true_eq_false, not_false_eq_true, true_implies, false_implies, implies_true, forall_const, if_true, if_false, eq_self, false_and, and_false, implies_true, nI_l, ylle_t, ylle_f, xcl_t, xcl_f, x1, x2]
    exact kk h hr zF.rfl
  rw [gP_some hp] at kk
  rcases ix3 y (n := 4) (by omega) with ⟨z, x1, _⟩ | ⟨z, x1, x2, _⟩ | ⟨q, hq, rfl, z⟩
  · rw [gW_none z] at kk
    simp (disch := omega) only [xle_t, xle_f, xlt_t, xlt_f, xeq_t, xeq_f, xle0_t, xle0_f, xlt0_f, x0lt_t, x0lt_f, x0le_t, xeq0_t, xeq0_f, xin, xem_f, xme_f, xlem_f, xlm_f, xml_t, xmle_t, nI_clamp, nI_add, pk_mul, pk_sub, zI_s, zI_k, zI_o, zL_s, zL_k, zL_o, zR_s, zR_k, zR_o, zIL, zIR, zIN, zLI, zLR, zLN, zRI, zRL, zRN, true_and, and_true, not_true_eq_false, not_false_eq_true, true_implies, false_implies, implies_true, forall_const, if_true, if_false, eq_self, false_and, and_false, implies_true, nI_l, ylle_t, ylle_f, xcl_t, xcl_f, x1]
    exact kk h hr zF.rfl
  · rw [gW_none z] at kk
    simp (disch := omega) only [xle_t, xle_f, xlt_t, xlt_f, xeq_t, xeq_f, xle0_t, xle0_f, xlt0_f, x0lt_t, x0lt_f, x0le_t, xeq0_t, xeq0_f, xin, xem_f, xme_f, xlem_f, xlm_f, xml_t, xmle_t, nI_clamp, nI_add, pk_mul, pk_sub, zI_s, zI_k, zI_o, zL_s, zL_k, zL_o, zR_s, zR_k, zR_o, zIL, zIR, zIN, zLI, zLR, zLN, zRI, zRL, zRN, true_and, and_true, not_true_eq_false, not_false_eq_true, true_implies, false_implies, implies_true, forall_const, if_true, if_false, eq_self, false_and, and_false, implies_true, nI_l, ylle_t, ylle_f, xcl_t, xcl_f, x1, x2]
    exact kk h hr zF.rfl
  rcases hw : W q with _ | ⟨s, n, f⟩
  · rw [gW_no hq hw] at kk
    have e0 := (hW q hq).1 hw
    simp (disch := omega) only [xle_t, xle_f, xlt_t, xlt_f, xeq_t, xeq_f, xle0_t, xle0_f, xlt0_f, x0lt_t, x0lt_f, x0le_t, xeq0_t, xeq0_f, xin, xem_f, xme_f, xlem_f, xlm_f, xml_t, xmle_t, nI_clamp, nI_add, pk_mul, pk_sub, zI_s, zI_k, zI_o, zL_s, zL_k, zL_o, zR_s, zR_k, zR_o, zIL, zIR, zIN, zLI, zLR, zLN, zRI, zRL, zRN, true_and, and_true, not_true_eq_false, not_false_eq_true, true_implies, false_implies, implies_true, forall_const, if_true, if_false, eq_self, false_and, and_false, implies_true, nI_l, ylle_t, ylle_f, xcl_t, xcl_f, e0]
    exact kk h hr zF.rfl
  rw [gW_so hq hw] at kk
  obtain ⟨e0, e1, e2, e3⟩ := (hW q hq).2 s n f hw
  obtain ⟨s4, n40⟩ := hWo q s n f hw
  by_cases tn : t < 0
  · rw [gN_neg tn] at kk
    simp (disch := omega) only [xle_t, xle_f, xlt_t, xlt_f, xeq_t, xeq_f, xle0_t, xle0_f, xlt0_f, x0lt_t, x0lt_f, x0le_t, xeq0_t, xeq0_f, xin, xem_f, xme_f, xlem_f, xlm_f, xml_t, xmle_t, nI_clamp, nI_add, pk_mul, pk_sub, zI_s, zI_k, zI_o, zL_s, zL_k, zL_o, zR_s, zR_k, zR_o, zIL, zIR, zIN, zLI, zLR, zLN, zRI, zRL, zRN, true_and, and_true, not_true_eq_false, not_false_eq_true, true_implies, false_implies, implies_true, forall_const, if_true, if_false, eq_self, false_and, and_false, implies_true, nI_l, ylle_t, ylle_f, xcl_t, xcl_f, e0, x0le_neg tn]
    exact kk h hr zF.rfl
  obtain ⟨t, ht, rfl⟩ := nI_of tn
  rw [gN_nat ht] at kk
  simp (disch := omega) only [xle_t, xle_f, xlt_t, xlt_f, xeq_t, xeq_f, xle0_t, xle0_f, xlt0_f, x0lt_t, x0lt_f, x0le_t, xeq0_t, xeq0_f, xin, xem_f, xme_f, xlem_f, xlm_f, xml_t, xmle_t, nI_clamp, nI_add, pk_mul, pk_sub, zI_s, zI_k, zI_o, zL_s, zL_k, zL_o, zR_s, zR_k, zR_o, zIL, zIR, zIN, zLI, zLR, zLN, zRI, zRL, zRN, true_and, and_true, not_true_eq_false, not_false_eq_true, true_implies, false_implies, implies_true, forall_const, if_true, if_false, eq_self, false_and, and_false, implies_true, nI_l, ylle_t, ylle_f, xcl_t, xcl_f, e0]
  refine c_served hr hA hB hW hp hq hw n40 ht (by omega) (fun h1 r1 f1 => ?_)
  exact u_X10_serves_51 (kk h1 r1 f1)
theorem n_serves {B : BK} {W : RW} {h : MH} {d : Nat} {x y t : Int32} {Q : Option MV → MH → Prop} (hr : zRf h) (hA : bIn B (h.1 112) 0) (hB : bOK B) (h28 : h.1 111 28 = -(nI 1)) (hW : rwM W h) (hWo : rwOK W) (hd : 7 ≤ d) (kk : ∀ h', zRf h' → mK h h' → Q (some (.inl (gServes B W x y t))) h') : Con mX11_serves d 0 0 [.inr (.inr 111), .inl x, .inl y, .inl t] h Q := by
  unfold gServes at kk
  have hA0 : bIn B ((zsI h 111 0 (nI 0)).1 112) 0 := hA
  have hW0 : rwM W (zsI h 111 0 (nI 0)) := hW
  have k0 := mK_0 h
  refine u_X11_serves (d1' := 6) hr (by omega) (by omega) ?_
  rcases ix3 x (n := 4) (by omega) with ⟨z, _, x1⟩ | ⟨z, _, _, x1, _, x2, _⟩ | ⟨p, hp, rfl, z⟩
  · rw [gP_none z] at kk
    simp (disch := omega) only [xle_t, xle_f, xlt_t, xlt_f, xeq_t, xeq_f, xle0_t, xle0_f, xlt0_f, x0lt_t, x0lt_f, x0le_t, xeq0_t, xeq0_f, xin, xem_f, xme_f, xlem_f, xlm_f, xml_t, xmle_t, nI_clamp, nI_add, pk_mul, pk_sub, zI_s, zI_k, zI_o, zL_s, zL_k, zL_o, zR_s, zR_k, zR_o, zIL, zIR, zIN, zLI, zLR, zLN, zRI, zRL, zRN, true_and, and_true, not_true_eq_false, not_false_eq_true, true_implies, false_implies, implies_true, forall_const, if_true, if_false, eq_self, false_and, and_false, implies_true, nI_l, ylle_t, ylle_f, xcl_t, xcl_f, x1, y_3]
    exact kk _ hr (mK_0 h)
  · rw [gP_none z] at kk
    simp (disch := omega) only [xle_t, xle_f, xlt_t, xlt_f, xeq_t, xeq_f, xle0_t, xle0_f, xlt0_f, x0lt_t, x0lt_f, x0le_t, xeq0_t, xeq0_f, xin, xem_f, xme_f, xlem_f, xlm_f, xml_t, xmle_t, nI_clamp, nI_add, pk_mul, pk_sub, zI_s, zI_k, zI_o, zL_s, zL_k, zL_o, zR_s, zR_k, zR_o, zIL, zIR, zIN, zLI, zLR, zLN, zRI, zRL, zRN, true_and, and_true, not_true_eq_false, not_false_eq_true, true_implies, false_implies, implies_true, forall_const, if_true, if_false, eq_self, false_and, and_false, implies_true, nI_l, ylle_t, ylle_f, xcl_t, xcl_f, x1, y_3, x2 3 rfl]
    exact kk _ hr (mK_0 h)
  rw [gP_some hp] at kk
  rcases ix3 y (n := 4) (by omega) with ⟨z, _, x1⟩ | ⟨z, _, _, x1, _, x2, _⟩ | ⟨q, hq, rfl, z⟩
  · rw [gW_none z] at kk
    simp (disch := omega) only [xle_t, xle_f, xlt_t, xlt_f, xeq_t, xeq_f, xle0_t, xle0_f, xlt0_f, x0lt_t, x0lt_f, x0le_t, xeq0_t, xeq0_f, xin, xem_f, xme_f, xlem_f, xlm_f, xml_t, xmle_t, nI_clamp, nI_add, pk_mul, pk_sub, zI_s, zI_k, zI_o, zL_s, zL_k, zL_o, zR_s, zR_k, zR_o, zIL, zIR, zIN, zLI, zLR, zLN, zRI, zRL, zRN, true_and, and_true, not_true_eq_false, not_false_eq_true, true_implies, false_implies, implies_true, forall_const, if_true, if_false, eq_self, false_and, and_false, implies_true, nI_l, ylle_t, ylle_f, xcl_t, xcl_f, x1, y_3]
    exact kk _ hr (mK_0 h)
  · rw [gW_none z] at kk
    simp (disch := omega) only [xle_t, xle_f, xlt_t, xlt_f, xeq_t, xeq_f, xle0_t, xle0_f, xlt0_f, x0lt_t, x0lt_f, x0le_t, xeq0_t, xeq0_f, xin, xem_f, xme_f, xlem_f, xlm_f, xml_t, xmle_t, nI_clamp, nI_add, pk_mul, pk_sub, zI_s, zI_k, zI_o, zL_s, zL_k, zL_o, zR_s, zR_k, zR_o, zIL, zIR, zIN, zLI, zLR, zLN, zRI, zRL, zRN, true_and, and_true, not_true_eq_false, not_false_eq_true, true_implies, false_implies, implies_true, forall_const, if_true, if_false, eq_self, false_and, and_false, implies_true, nI_l, ylle_t, ylle_f, xcl_t, xcl_f, x1, y_3, x2 3 rfl]
    exact kk _ hr (mK_0 h)
  rcases hw : W q with _ | ⟨s, n, f⟩
  · rw [gW_no hq hw] at kk
    have e0 := (hW q hq).1 hw
    simp (disch := omega) only [xle_t, xle_f, xlt_t, xlt_f, xeq_t, xeq_f, xle0_t, xle0_f, xlt0_f, x0lt_t, x0lt_f, x0le_t, xeq0_t, xeq0_f, xin, xem_f, xme_f, xlem_f, xlm_f, xml_t, xmle_t, nI_clamp, nI_add, pk_mul, pk_sub, zI_s, zI_k, zI_o, zL_s, zL_k, zL_o, zR_s, zR_k, zR_o, zIL, zIR, zIN, zLI, zLR, zLN, zRI, zRL, zRN, true_and, and_true, not_true_eq_false, not_false_eq_true, true_implies, false_implies, implies_true, forall_const, if_true, if_false, eq_self, false_and, and_false, implies_true, nI_l, ylle_t, ylle_f, xcl_t, xcl_f, y_3, e0]
    exact kk _ hr (mK_0 h)
  rw [gW_so hq hw] at kk
  obtain ⟨e0, e1, e2⟩ := (hW q hq).2 s n f hw
  obtain ⟨s4, n40⟩ := hWo q s n f hw
  by_cases tn : t < 0
  · rw [gN_neg tn] at kk
    simp (disch := omega) only [xle_t, xle_f, xlt_t, xlt_f, xeq_t, xeq_f, xle0_t, xle0_f, xlt0_f, x0lt_t, x0lt_f, x0le_t, xeq0_t, xeq0_f, xin, xem_f, xme_f, xlem_f, xlm_f, xml_t, xmle_t, nI_clamp, nI_add, pk_mul, pk_sub, zI_s, zI_k, zI_o, zL_s, zL_k, zL_o, zR_s, zR_k, zR_o, zIL, zIR, zIN, zLI, zLR, zLN, zRI, zRL, zRN, true_and, and_true, not_true_eq_false, not_false_eq_true, true_implies, false_implies, implies_true, forall_const, if_true, if_false, eq_self, false_and, and_false, implies_true, nI_l, ylle_t, ylle_f, xcl_t, xcl_f, y_3, e0, x0le_neg tn]
    exact kk _ hr k0
  obtain ⟨t, ht, rfl⟩ := nI_of tn
  rw [gN_nat ht] at kk
  simp (disch := omega) only [xle_t, xle_f, xlt_t, xlt_f, xeq_t, xeq_f, xle0_t, xle0_f, xlt0_f, x0lt_t, x0lt_f, x0le_t, xeq0_t, xeq0_f, xin, xem_f, xme_f, xlem_f, xlm_f, xml_t, xmle_t, nI_clamp, nI_add, pk_mul, pk_sub, zI_s, zI_k, zI_o, zL_s, zL_k, zL_o, zR_s, zR_k, zR_o, zIL, zIR, zIN, zLI, zLR, zLN, zRI, zRL, zRN, true_and, and_true, not_true_eq_false, not_false_eq_true, true_implies, false_implies, implies_true, forall_const, if_true, if_false, eq_self, false_and, and_false, implies_true, nI_l, ylle_t, ylle_f, xcl_t, xcl_f, y_3, e0]
  refine n_served (h := zsI h 111 0 (nI 0)) hr hA0 hB (k0.2.2.2.2.trans h28) hW0 hp hq hw n40 ht (by omega) (fun h1 r1 f1 => ?_)
  exact u_X11_serves_56 (kk h1 r1 (k0.trans f1))
/-! fittest -/
def fFit (c : Nat → Nat) : Nat → Nat → Nat → Nat → Nat
  | 0, _, _, b => b
  | m + 1, p, mo, b => if c p ≤ mo then fFit c m (p + 1) mo b else fFit c m (p + 1) (c p) p
noncomputable def gFit (B : BK) (W : RW) (x t : Int32) : Int32 := gW W x (fun _ w => gN t (fun s => nI (fFit (fun p => fSv (rTo B.1 (B.2 p)).2.1 w.2.1 w.2.2 s) 3 1 (fSv (rTo B.1 (B.2 0)).2.1 w.2.1 w.2.2 s) 0)))
theorem fSv_le (l : List Nat) (n : Nat) (f : Nat → Int64) (s : Nat) : fSv l n f s ≤ n := by
  have := fC1_le (fun i => (fFst (fun j => fNr (f i) s (l.getD j 0)) l.length 0).isSome) n 0 0
  unfold fSv
  omega
theorem o_fit {B : BK} {W : RW} {h : MH} {d : Nat} {x t : Int32} {Q : Option MV → MH → Prop} (hr : zRf h) (hA : bAt B h 15) (hB : bOK B) (hW : rwC W h) (hWo : rwOK W) (hd : 7 ≤ d) (kk : ∀ h', zRf h' → cF h h' → Q (some (.inl (gFit B W x t))) h') : Con mX10_fittest d 0 0 [.inr (.inr 1), .inl x, .inl t] h Q := by
  unfold gFit at kk
  refine u_X10_fittest hr (by omega) ?_
  rcases ix3 x (n := 4) (by omega) with ⟨z, x1, _⟩ | ⟨z, x1, x2, _⟩ | ⟨q, hq, rfl, z⟩
  · rw [gW_none z] at kk
    simp (disch := omega) only [xle_t, xle_f, xlt_t, xlt_f, xeq_t, xeq_f, xle0_t, xle0_f, xlt0_f, x0lt_t, x0lt_f, x0le_t, xeq0_t, xeq0_f, xin, xem_f, xme_f, xlem_f, xlm_f, xml_t, xmle_t, nI_clamp, nI_add, pk_mul, pk_sub, zI_s, zI_k, zI_o, zL_s, zL_k, zL_o, zR_s, zR_k, zR_o, zIL, zIR, zIN, zLI, zLR, zLN, zRI, zRL, zRN, true_and, and_true, not_true_eq_false, not_false_eq_true, true_implies, false_implies, implies_true, forall_const, if_true, if_false, eq_self, false_and, and_false, implies_true, nI_l, ylle_t, ylle_f, xcl_t, xcl_f, x1]
    exact kk h hr zF.rfl
  · rw [gW_none z] at kk
    simp (disch := omega) only [xle_t, xle_f, xlt_t, xlt_f, xeq_t, xeq_f, xle0_t, xle0_f, xlt0_f, x0lt_t, x0lt_f, x0le_t, xeq0_t, xeq0_f, xin, xem_f, xme_f, xlem_f, xlm_f, xml_t, xmle_t, nI_clamp, nI_add, pk_mul, pk_sub, zI_s, zI_k, zI_o, zL_s, zL_k, zL_o, zR_s, zR_k, zR_o, zIL, zIR, zIN, zLI, zLR, zLN, zRI, zRL, zRN, true_and, and_true, not_true_eq_false, not_false_eq_true, true_implies, false_implies, implies_true, forall_const, if_true, if_false, eq_self, false_and, and_false, implies_true, nI_l, ylle_t, ylle_f, xcl_t, xcl_f, x1, x2]
    exact kk h hr zF.rfl
  rcases hw : W q with _ | ⟨s, n, f⟩
  · rw [gW_no hq hw] at kk
    have e0 := (hW q hq).1 hw
    simp (disch := omega) only [xle_t, xle_f, xlt_t, xlt_f, xeq_t, xeq_f, xle0_t, xle0_f, xlt0_f, x0lt_t, x0lt_f, x0le_t, xeq0_t, xeq0_f, xin, xem_f, xme_f, xlem_f, xlm_f, xml_t, xmle_t, nI_clamp, nI_add, pk_mul, pk_sub, zI_s, zI_k, zI_o, zL_s, zL_k, zL_o, zR_s, zR_k, zR_o, zIL, zIR, zIN, zLI, zLR, zLN, zRI, zRL, zRN, true_and, and_true, not_true_eq_false, not_false_eq_true, true_implies, false_implies, implies_true, forall_const, if_true, if_false, eq_self, false_and, and_false, implies_true, nI_l, ylle_t, ylle_f, xcl_t, xcl_f, e0]
    exact kk h hr zF.rfl
  rw [gW_so hq hw] at kk
  obtain ⟨e0, e1, e2, e3⟩ := (hW q hq).2 s n f hw
  obtain ⟨s4, n40⟩ := hWo q s n f hw
  by_cases tn : t < 0
  · rw [gN_neg tn] at kk
    simp (disch := omega) only [xle_t, xle_f, xlt_t, xlt_f, xeq_t, xeq_f, xle0_t, xle0_f, xlt0_f, x0lt_t, x0lt_f, x0le_t, xeq0_t, xeq0_f, xin, xem_f, xme_f, xlem_f, xlm_f, xml_t, xmle_t, nI_clamp, nI_add, pk_mul, pk_sub, zI_s, zI_k, zI_o, zL_s, zL_k, zL_o, zR_s, zR_k, zR_o, zIL, zIR, zIN, zLI, zLR, zLN, zRI, zRL, zRN, true_and, and_true, not_true_eq_false, not_false_eq_true, true_implies, false_implies, implies_true, forall_const, if_true, if_false, eq_self, false_and, and_false, implies_true, nI_l, ylle_t, ylle_f, xcl_t, xcl_f, e0, x0le_neg tn]
    exact kk h hr zF.rfl
  obtain ⟨t, ht, rfl⟩ := nI_of tn
  rw [gN_nat ht] at kk
  simp (disch := omega) only [xle_t, xle_f, xlt_t, xlt_f, xeq_t, xeq_f, xle0_t, xle0_f, xlt0_f, x0lt_t, x0lt_f, x0le_t, xeq0_t, xeq0_f, xin, xem_f, xme_f, xlem_f, xlm_f, xml_t, xmle_t, nI_clamp, nI_add, pk_mul, pk_sub, zI_s, zI_k, zI_o, zL_s, zL_k, zL_o, zR_s, zR_k, zR_o, zIL, zIR, zIN, zLI, zLR, zLN, zRI, zRL, zRN, true_and, and_true, not_true_eq_false, not_false_eq_true, true_implies, false_implies, implies_true, forall_const, if_true, if_false, eq_self, false_and, and_false, implies_true, nI_l, ylle_t, ylle_f, xcl_t, xcl_f, e0]
  have L : ∀ m p, p + m = 4 → ∀ (mo b : Nat) (g : MH) (u : Option MV), mo ≤ 40 → zRf g → cF h g → (∀ h', zRf h' → cF h h' → Q (some (.inl (nI (fFit (fun p => fSv (rTo B.1 (B.2 p)).2.1 n f t) m p mo b)))) h') → J mX10_fittest d 0 0 Q 0 0 40 [some (.inr (.inr 1)), some (.inl (nI q)), some (.inl (nI t)), some (.inl (nI mo)), some (.inl (nI b)), some (.inl (nI p)), u] [] g := by
    intro m
    induction m with
    | zero =>
      intro p hp mo b g u hmo rg fg kq
      refine u_X10_fittest_40 (d1' := 0) rg (by omega) ?_
      simp (disch := omega) only [xle_t, xle_f, xlt_t, xlt_f, xeq_t, xeq_f, xle0_t, xle0_f, xlt0_f, x0lt_t, x0lt_f, x0le_t, xeq0_t, xeq0_f, xin, xem_f, xme_f, xlem_f, xlm_f, xml_t, xmle_t, nI_clamp, nI_add, pk_mul, pk_sub, zI_s, zI_k, zI_o, zL_s, zL_k, zL_o, zR_s, zR_k, zR_o, zIL, zIR, zIN, zLI, zLR, zLN, zRI, zRL, zRN, true_and, and_true, not_true_eq_false, not_false_eq_true, true_implies, false_implies, implies_true, forall_const, if_true, if_false, eq_self, false_and, and_false, implies_true, nI_l, ylle_t, ylle_f, xcl_t, xcl_f]
      exact kq g rg fg
    | succ m ih =>
      intro p hp mo b g u hmo rg fg kq
      have hAg : bAt B g 15 := hA.keepF (fg.weak (fun a q => by omega))
      have hWg : rwC W g := hW.keep (fg.weak (fun a q => by omega))
      refine u_X10_fittest_40 (d1' := 6) rg (by omega) ?_
      simp (disch := omega) only [xle_t, xle_f, xlt_t, xlt_f, xeq_t, xeq_f, xle0_t, xle0_f, xlt0_f, x0lt_t, x0lt_f, x0le_t, xeq0_t, xeq0_f, xin, xem_f, xme_f, xlem_f, xlm_f, xml_t, xmle_t, nI_clamp, nI_add, pk_mul, pk_sub, zI_s, zI_k, zI_o, zL_s, zL_k, zL_o, zR_s, zR_k, zR_o, zIL, zIR, zIN, zLI, zLR, zLN, zRI, zRL, zRN, true_and, and_true, not_true_eq_false, not_false_eq_true, true_implies, false_implies, implies_true, forall_const, if_true, if_false, eq_self, false_and, and_false, implies_true, nI_l, ylle_t, ylle_f, xcl_t, xcl_f]
      refine c_served rg hAg hB hWg (by omega) hq hw n40 ht (by omega) (fun h1 r1 f1 => ?_)
      have hc := fSv_le (rTo B.1 (B.2 p)).2.1 n f t
      have kq' : ∀ h', zRf h' → cF h h' → Q (some (.inl (nI (if fSv (rTo B.1 (B.2 p)).2.1 n f t ≤ mo then fFit (fun p => fSv (rTo B.1 (B.2 p)).2.1 n f t) m (p + 1) mo b else fFit (fun p => fSv (rTo B.1 (B.2 p)).2.1 n f t) m (p + 1) (fSv (rTo B.1 (B.2 p)).2.1 n f t) p)))) h' := kq
      refine u_X10_fittest_59 ?_
      by_cases c : fSv (rTo B.1 (B.2 p)).2.1 n f t ≤ mo
      · rw [if_pos c] at kq'
        simp (disch := omega) only [xle_t, xle_f, xlt_t, xlt_f, xeq_t, xeq_f, xle0_t, xle0_f, xlt0_f, x0lt_t, x0lt_f, x0le_t, xeq0_t, xeq0_f, xin, xem_f, xme_f, xlem_f, xlm_f, xml_t, xmle_t, nI_clamp, nI_add, pk_mul, pk_sub, zI_s, zI_k, zI_o, zL_s, zL_k, zL_o, zR_s, zR_k, zR_o, zIL, zIR, zIN, zLI, zLR, zLN, zRI, zRL, zRN, true_and, and_true, not_true_eq_false, not_false_eq_true, true_implies, false_implies, implies_true, forall_const, if_true, if_false, eq_self, false_and, and_false, implies_true, nI_l, ylle_t, ylle_f, xcl_t, xcl_f]
        exact ih (p + 1) (by omega) mo b h1 _ hmo r1 (fg.trans f1) kq'
      · rw [if_neg c] at kq'
        simp (disch := omega) only [xle_t, xle_f, xlt_t, xlt_f, xeq_t, xeq_f, xle0_t, xle0_f, xlt0_f, x0lt_t, x0lt_f, x0le_t, xeq0_t, xeq0_f, xin, xem_f, xme_f, xlem_f, xlm_f, xml_t, xmle_t, nI_clamp, nI_add, pk_mul, pk_sub, zI_s, zI_k, zI_o, zL_s, zL_k, zL_o, zR_s, zR_k, zR_o, zIL, zIR, zIN, zLI, zLR, zLN, zRI, zRL, zRN, true_and, and_true, not_true_eq_false, not_false_eq_true, true_implies, false_implies, implies_true, forall_const, if_true, if_false, eq_self, false_and, and_false, implies_true, nI_l, ylle_t, ylle_f, xcl_t, xcl_f]
        exact ih (p + 1) (by omega) _ p h1 _ (by omega) r1 (fg.trans f1) kq'
  refine u_X10_fittest_40 (d1' := 6) hr (by omega) ?_
  simp (disch := omega) only [xle_t, xle_f, xlt_t, xlt_f, xeq_t, xeq_f, xle0_t, xle0_f, xlt0_f, x0lt_t, x0lt_f, x0le_t, xeq0_t, xeq0_f, xin, xem_f, xme_f, xlem_f, xlm_f, xml_t, xmle_t, nI_clamp, nI_add, pk_mul, pk_sub, zI_s, zI_k, zI_o, zL_s, zL_k, zL_o, zR_s, zR_k, zR_o, zIL, zIR, zIN, zLI, zLR, zLN, zRI, zRL, zRN, true_and, and_true, not_true_eq_false, not_false_eq_true, true_implies, false_implies, implies_true, forall_const, if_true, if_false, eq_self, false_and, and_false, implies_true, nI_l, ylle_t, ylle_f, xcl_t, xcl_f]
  refine c_served hr hA hB hW (by omega) hq hw n40 ht (by omega) (fun h1 r1 f1 => ?_)
  have hc := fSv_le (rTo B.1 (B.2 0)).2.1 n f t
  refine u_X10_fittest_59 ?_
  simp (disch := omega) only [xle_t, xle_f, xlt_t, xlt_f, xeq_t, xeq_f, xle0_t, xle0_f, xlt0_f, x0lt_t, x0lt_f, x0le_t, xeq0_t, xeq0_f, xin, xem_f, xme_f, xlem_f, xlm_f, xml_t, xmle_t, nI_clamp, nI_add, pk_mul, pk_sub, zI_s, zI_k, zI_o, zL_s, zL_k, zL_o, zR_s, zR_k, zR_o, zIL, zIR, zIN, zLI, zLR, zLN, zRI, zRL, zRN, true_and, and_true, not_true_eq_false, not_false_eq_true, true_implies, false_implies, implies_true, forall_const, if_true, if_false, eq_self, false_and, and_false, implies_true, nI_l, ylle_t, ylle_f, xcl_t, xcl_f]
  exact L 3 1 (by omega) _ 0 h1 _ (by omega) r1 f1 kk
theorem n_fit {B : BK} {W : RW} {h : MH} {d : Nat} {x t : Int32} {Q : Option MV → MH → Prop} (hr : zRf h) (hA : bIn B (h.1 112) 0) (hB : bOK B) (h28 : h.1 111 28 = -(nI 1)) (hW : rwM W h) (hWo : rwOK W) (hd : 7 ≤ d) (kk : ∀ h', zRf h' → mK h h' → Q (some (.inl (gFit B W x t))) h') : Con mX11_fittest d 0 0 [.inr (.inr 111), .inl x, .inl t] h Q := by
  unfold gFit at kk
  have hA0 : bIn B ((zsI h 111 0 (nI 0)).1 112) 0 := hA
  have hW0 : rwM W (zsI h 111 0 (nI 0)) := hW
  have k0 := mK_0 h
  refine u_X11_fittest hr (by omega) ?_
  rcases ix3 x (n := 4) (by omega) with ⟨z, _, x1⟩ | ⟨z, _, _, x1, _, x2, _⟩ | ⟨q, hq, rfl, z⟩
  · rw [gW_none z] at kk
    simp (disch := omega) only [xle_t, xle_f, xlt_t, xlt_f, xeq_t, xeq_f, xle0_t, xle0_f, xlt0_f, x0lt_t, x0lt_f, x0le_t, xeq0_t, xeq0_f, xin, xem_f, xme_f, xlem_f, xlm_f, xml_t, xmle_t, nI_clamp, nI_add, pk_mul, pk_sub, zI_s, zI_k, zI_o, zL_s, zL_k, zL_o, zR_s, zR_k, zR_o, zIL, zIR, zIN, zLI, zLR, zLN, zRI, zRL, zRN, true_and, and_true, not_true_eq_false, not_false_eq_true, true_implies, false_implies, implies_true, forall_const, if_true, if_false, eq_self, false_and, and_false, implies_true, nI_l, ylle_t, ylle_f, xcl_t, xcl_f, x1, y_3]
    exact kk _ hr (mK_0 h)
  · rw [gW_none z] at kk
    simp (disch := omega) only [xle_t, xle_f, xlt_t, xlt_f, xeq_t, xeq_f, xle0_t, xle0_f, xlt0_f, x0lt_t, x0lt_f, x0le_t, xeq0_t, xeq0_f, xin, xem_f, xme_f, xlem_f, xlm_f, xml_t, xmle_t, nI_clamp, nI_add, pk_mul, pk_sub, zI_s, zI_k, zI_o, zL_s, zL_k, zL_o, zR_s, zR_k, zR_o, zIL, zIR, zIN, zLI, zLR, zLN, zRI, zRL, zRN, true_and, and_true, not_true_eq_false, not_false_eq_true, true_implies, false_implies, implies_true, forall_const, if_true, if_false, eq_self, false_and, and_false, implies_true, nI_l, ylle_t, ylle_f, xcl_t, xcl_f, x1, y_3, x2 3 rfl]
    exact kk _ hr (mK_0 h)
  rcases hw : W q with _ | ⟨s, n, f⟩
  · rw [gW_no hq hw] at kk
    have e0 := (hW q hq).1 hw
    simp (disch := omega) only [xle_t, xle_f, xlt_t, xlt_f, xeq_t, xeq_f, xle0_t, xle0_f, xlt0_f, x0lt_t, x0lt_f, x0le_t, xeq0_t, xeq0_f, xin, xem_f, xme_f, xlem_f, xlm_f, xml_t, xmle_t, nI_clamp, nI_add, pk_mul, pk_sub, zI_s, zI_k, zI_o, zL_s, zL_k, zL_o, zR_s, zR_k, zR_o, zIL, zIR, zIN, zLI, zLR, zLN, zRI, zRL, zRN, true_and, and_true, not_true_eq_false, not_false_eq_true, true_implies, false_implies, implies_true, forall_const, if_true, if_false, eq_self, false_and, and_false, implies_true, nI_l, ylle_t, ylle_f, xcl_t, xcl_f, y_3, e0]
    exact kk _ hr (mK_0 h)
  rw [gW_so hq hw] at kk
  obtain ⟨e0, e1, e2⟩ := (hW q hq).2 s n f hw
  obtain ⟨s4, n40⟩ := hWo q s n f hw
  by_cases tn : t < 0
  · rw [gN_neg tn] at kk
    simp (disch := omega) only [xle_t, xle_f, xlt_t, xlt_f, xeq_t, xeq_f, xle0_t, xle0_f, xlt0_f, x0lt_t, x0lt_f, x0le_t, xeq0_t, xeq0_f, xin, xem_f, xme_f, xlem_f, xlm_f, xml_t, xmle_t, nI_clamp, nI_add, pk_mul, pk_sub, zI_s, zI_k, zI_o, zL_s, zL_k, zL_o, zR_s, zR_k, zR_o, zIL, zIR, zIN, zLI, zLR, zLN, zRI, zRL, zRN, true_and, and_true, not_true_eq_false, not_false_eq_true, true_implies, false_implies, implies_true, forall_const, if_true, if_false, eq_self, false_and, and_false, implies_true, nI_l, ylle_t, ylle_f, xcl_t, xcl_f, y_3, e0, x0le_neg tn]
    exact kk _ hr k0
  obtain ⟨t, ht, rfl⟩ := nI_of tn
  rw [gN_nat ht] at kk
  simp (disch := omega) only [xle_t, xle_f, xlt_t, xlt_f, xeq_t, xeq_f, xle0_t, xle0_f, xlt0_f, x0lt_t, x0lt_f, x0le_t, xeq0_t, xeq0_f, xin, xem_f, xme_f, xlem_f, xlm_f, xml_t, xmle_t, nI_clamp, nI_add, pk_mul, pk_sub, zI_s, zI_k, zI_o, zL_s, zL_k, zL_o, zR_s, zR_k, zR_o, zIL, zIR, zIN, zLI, zLR, zLN, zRI, zRL, zRN, true_and, and_true, not_true_eq_false, not_false_eq_true, true_implies, false_implies, implies_true, forall_const, if_true, if_false, eq_self, false_and, and_false, implies_true, nI_l, ylle_t, ylle_f, xcl_t, xcl_f, y_3, e0]
  have L : ∀ m p, p + m = 4 → ∀ (mo b : Nat) (g : MH) (u : Option MV), mo ≤ 40 → zRf g → mK h g → (∀ h', zRf h' → mK h h' → Q (some (.inl (nI (fFit (fun p => fSv (rTo B.1 (B.2 p)).2.1 n f t) m p mo b)))) h') → J mX11_fittest d 0 0 Q 0 0 48 [some (.inr (.inr 111)), some (.inl (nI q)), some (.inl (nI t)), some (.inl (nI b)), some (.inl (nI mo)), some (.inl (nI p)), u] [] g := by
    intro m
    induction m with
    | zero =>
      intro p hp mo b g u hmo rg kg kq
      refine u_X11_fittest_48 (d1' := 0) rg (by omega) ?_
      simp (disch := omega) only [xle_t, xle_f, xlt_t, xlt_f, xeq_t, xeq_f, xle0_t, xle0_f, xlt0_f, x0lt_t, x0lt_f, x0le_t, xeq0_t, xeq0_f, xin, xem_f, xme_f, xlem_f, xlm_f, xml_t, xmle_t, nI_clamp, nI_add, pk_mul, pk_sub, zI_s, zI_k, zI_o, zL_s, zL_k, zL_o, zR_s, zR_k, zR_o, zIL, zIR, zIN, zLI, zLR, zLN, zRI, zRL, zRN, true_and, and_true, not_true_eq_false, not_false_eq_true, true_implies, false_implies, implies_true, forall_const, if_true, if_false, eq_self, false_and, and_false, implies_true, nI_l, ylle_t, ylle_f, xcl_t, xcl_f]
      exact kq g rg kg
    | succ m ih =>
      intro p hp mo b g u hmo rg kg kq
      have hAg : bIn B (g.1 112) 0 := by rw [kg.1.i (by omega)]; exact hA
      refine u_X11_fittest_48 (d1' := 6) rg (by omega) ?_
      simp (disch := omega) only [xle_t, xle_f, xlt_t, xlt_f, xeq_t, xeq_f, xle0_t, xle0_f, xlt0_f, x0lt_t, x0lt_f, x0le_t, xeq0_t, xeq0_f, xin, xem_f, xme_f, xlem_f, xlm_f, xml_t, xmle_t, nI_clamp, nI_add, pk_mul, pk_sub, zI_s, zI_k, zI_o, zL_s, zL_k, zL_o, zR_s, zR_k, zR_o, zIL, zIR, zIN, zLI, zLR, zLN, zRI, zRL, zRN, true_and, and_true, not_true_eq_false, not_false_eq_true, true_implies, false_implies, implies_true, forall_const, if_true, if_false, eq_self, false_and, and_false, implies_true, nI_l, ylle_t, ylle_f, xcl_t, xcl_f]
      refine n_served rg hAg hB (kg.2.2.2.2.trans h28) (kg.w hW) (by omega) hq hw n40 ht (by omega) (fun h1 r1 f1 => ?_)
      have hc := fSv_le (rTo B.1 (B.2 p)).2.1 n f t
      have kq' : ∀ h', zRf h' → mK h h' → Q (some (.inl (nI (if fSv (rTo B.1 (B.2 p)).2.1 n f t ≤ mo then fFit (fun p => fSv (rTo B.1 (B.2 p)).2.1 n f t) m (p + 1) mo b else fFit (fun p => fSv (rTo B.1 (B.2 p)).2.1 n f t) m (p + 1) (fSv (rTo B.1 (B.2 p)).2.1 n f t) p)))) h' := kq
      refine u_X11_fittest_62 ?_
      by_cases c : fSv (rTo B.1 (B.2 p)).2.1 n f t ≤ mo
      · rw [if_pos c] at kq'
        simp (disch := omega) only [xle_t, xle_f, xlt_t, xlt_f, xeq_t, xeq_f, xle0_t, xle0_f, xlt0_f, x0lt_t, x0lt_f, x0le_t, xeq0_t, xeq0_f, xin, xem_f, xme_f, xlem_f, xlm_f, xml_t, xmle_t, nI_clamp, nI_add, pk_mul, pk_sub, zI_s, zI_k, zI_o, zL_s, zL_k, zL_o, zR_s, zR_k, zR_o, zIL, zIR, zIN, zLI, zLR, zLN, zRI, zRL, zRN, true_and, and_true, not_true_eq_false, not_false_eq_true, true_implies, false_implies, implies_true, forall_const, if_true, if_false, eq_self, false_and, and_false, implies_true, nI_l, ylle_t, ylle_f, xcl_t, xcl_f]
        exact ih (p + 1) (by omega) mo b h1 _ hmo r1 (kg.trans f1) kq'
      · rw [if_neg c] at kq'
        simp (disch := omega) only [xle_t, xle_f, xlt_t, xlt_f, xeq_t, xeq_f, xle0_t, xle0_f, xlt0_f, x0lt_t, x0lt_f, x0le_t, xeq0_t, xeq0_f, xin, xem_f, xme_f, xlem_f, xlm_f, xml_t, xmle_t, nI_clamp, nI_add, pk_mul, pk_sub, zI_s, zI_k, zI_o, zL_s, zL_k, zL_o, zR_s, zR_k, zR_o, zIL, zIR, zIN, zLI, zLR, zLN, zRI, zRL, zRN, true_and, and_true, not_true_eq_false, not_false_eq_true, true_implies, false_implies, implies_true, forall_const, if_true, if_false, eq_self, false_and, and_false, implies_true, nI_l, ylle_t, ylle_f, xcl_t, xcl_f]
        exact ih (p + 1) (by omega) _ p h1 _ (by omega) r1 (kg.trans f1) kq'
  refine u_X11_fittest_48 (d1' := 6) hr (by omega) ?_
  simp (disch := omega) only [xle_t, xle_f, xlt_t, xlt_f, xeq_t, xeq_f, xle0_t, xle0_f, xlt0_f, x0lt_t, x0lt_f, x0le_t, xeq0_t, xeq0_f, xin, xem_f, xme_f, xlem_f, xlm_f, xml_t, xmle_t, nI_clamp, nI_add, pk_mul, pk_sub, zI_s, zI_k, zI_o, zL_s, zL_k, zL_o, zR_s, zR_k, zR_o, zIL, zIR, zIN, zLI, zLR, zLN, zRI, zRL, zRN, true_and, and_true, not_true_eq_false, not_false_eq_true, true_implies, false_implies, implies_true, forall_const, if_true, if_false, eq_self, false_and, and_false, implies_true, nI_l, ylle_t, ylle_f, xcl_t, xcl_f]
  refine n_served (h := zsI h 111 0 (nI 0)) hr hA0 hB (k0.2.2.2.2.trans h28) hW0 (by omega) hq hw n40 ht (by omega) (fun h1 r1 f1 => ?_)
  have hc := fSv_le (rTo B.1 (B.2 0)).2.1 n f t
  refine u_X11_fittest_62 ?_
  simp (disch := omega) only [xle_t, xle_f, xlt_t, xlt_f, xeq_t, xeq_f, xle0_t, xle0_f, xlt0_f, x0lt_t, x0lt_f, x0le_t, xeq0_t, xeq0_f, xin, xem_f, xme_f, xlem_f, xlm_f, xml_t, xmle_t, nI_clamp, nI_add, pk_mul, pk_sub, zI_s, zI_k, zI_o, zL_s, zL_k, zL_o, zR_s, zR_k, zR_o, zIL, zIR, zIN, zLI, zLR, zLN, zRI, zRL, zRN, true_and, and_true, not_true_eq_false, not_false_eq_true, true_implies, false_implies, implies_true, forall_const, if_true, if_false, eq_self, false_and, and_false, implies_true, nI_l, ylle_t, ylle_f, xcl_t, xcl_f]
  exact L 3 1 (by omega) _ 0 h1 _ (by omega) r1 (k0.trans f1) kk
