/-! ===== rows: copy, serves, fittest, log, nearly, missed, stolen ===== -/
noncomputable def gW (W : RW) (x : Int32) (F : Nat → (Nat × Nat × (Nat → Int64)) → Int32) : Int32 := match zix x 4 with
  | none => -(nI 2)
  | some r => match W r with
    | none => -(nI 6)
    | some w => F r w
theorem gW_none {W : RW} {x : Int32} {F : Nat → (Nat × Nat × (Nat → Int64)) → Int32} (z : zix x 4 = none) : gW W x F = -(nI 2) := by unfold gW; rw [z]
theorem gW_no {W : RW} {r : Nat} {F : Nat → (Nat × Nat × (Nat → Int64)) → Int32} (h : r < 4) (hw : W r = none) : gW W (nI r) F = -(nI 6) := by unfold gW; rw [zix_n h (by omega)]; simp only [hw]
theorem gW_so {W : RW} {r : Nat} {w : Nat × Nat × (Nat → Int64)} {F : Nat → (Nat × Nat × (Nat → Int64)) → Int32} (h : r < 4) (hw : W r = some w) : gW W (nI r) F = F r w := by unfold gW; rw [zix_n h (by omega)]; simp only [hw]
/-- a number is so near to a bell -/
def fNr (v : Int64) (s b : Nat) : Bool := decide ((b / 256 : Nat) - (s : Int) ≤ v.toInt ∧ v.toInt ≤ (b / 256 : Nat) + (s : Int))
theorem nr1 {v : Int64} {s b : Nat} (hs : s < 2 ^ 31) (hb : b ≤ 400000000) : (lN (b / 256) - lN s).toInt = ((b / 256 : Nat) : Int) - (s : Int) := by
  rw [Int64.toInt_sub, pk_lT (by omega), pk_lT (by omega)]
  exact Int.bmod_eq_of_le (by omega) (by omega)
theorem nr2 {v : Int64} {s b : Nat} (hs : s < 2 ^ 31) (hb : b ≤ 400000000) : (lN (b / 256) + lN s).toInt = ((b / 256 : Nat) : Int) + (s : Int) := by
  rw [lN_add, pk_lT (by omega)]
  omega
/-- the first that is so -/
def fFst (e : Nat → Bool) : Nat → Nat → Option Nat
  | 0, _ => none
  | m + 1, k => if e k = true then some k else fFst e m (k + 1)
theorem fFst_b {e : Nat → Bool} : ∀ {m k j : Nat}, fFst e m k = some j → k ≤ j ∧ j < k + m
  | 0, _, _, h => by cases h
  | m + 1, k, j, h => by
    have h' : (if e k = true then some k else fFst e m (k + 1)) = some j := h
    by_cases q : e k = true
    · rw [if_pos q] at h'
      have := Option.some.inj h'
      omega
    · rw [if_neg q] at h'
      have := fFst_b h'
      omega
theorem c_near {R : RS} {h : MH} {d k s : Nat} {v : Int64} {Q : Option MV → MH → Prop} (hr : zRf h) (hT : kT R.2 h) (h40 : R.2.1.length ≤ 40) (hb : ∀ j, j < R.2.1.length → R.2.1.getD j 0 ≤ 400000000) (hs : s < 2 ^ 31) (hk : k ≤ R.2.1.length) (hd : 1 ≤ d) (kk : Q (some (.inl (oI (fFst (fun j => fNr v s (R.2.1.getD j 0)) (R.2.1.length - k) k)))) h) : Con mX8_bellNear d 0 0 [.inr (.inr 48), .inl (nI k), .inr (.inl v), .inl (nI s)] h Q := by
  obtain ⟨t1, t2, _⟩ := hT
  refine u_X8_bellNear (by omega) ?_
  have e5 : (if nI 0 < nI k then nI k else nI 0) = nI k := by
    by_cases z : 0 < k
    · rw [if_pos (nI_lt z (by omega))]
    · rw [if_neg (nI_nlt (by omega) (by omega)), show k = 0 by omega]
  rw [e5]
  have L : ∀ m i, i + m = R.2.1.length → ∀ u, Q (some (.inl (oI (fFst (fun j => fNr v s (R.2.1.getD j 0)) m i)))) h → J mX8_bellNear d 0 0 Q 0 0 7 [some (.inr (.inr 48)), some (.inl (nI k)), some (.inr (.inl v)), none, some (.inl (nI s)), some (.inl (nI i)), u, none] [] h := by
    intro m
    induction m with
    | zero =>
      intro i hi u kq
      refine u_X8_bellNear_7 hr ?_
      simp (disch := omega) only [xle_t, xle_f, xlt_t, xlt_f, xeq_t, xeq_f, xle0_t, xle0_f, xlt0_f, x0lt_t, x0lt_f, x0le_t, xeq0_t, xeq0_f, xin, xem_f, xme_f, xlem_f, xlm_f, xml_t, xmle_t, nI_clamp, nI_add, pk_mul, pk_sub, zI_s, zI_k, zI_o, zL_s, zL_k, zL_o, zR_s, zR_k, zR_o, zIL, zIR, zIN, zLI, zLR, zLN, zRI, zRL, zRN, true_and, and_true, not_true_eq_false, not_false_eq_true, true_implies, false_implies, implies_true, forall_const, if_true, if_false, eq_self, false_and, and_false, implies_true, nI_l, ylle_t, ylle_f, xcl_t, xcl_f, t1]
      exact kq
    | succ m ih =>
      intro i hi u kq
      have kq' : Q (some (.inl (oI (if fNr v s (R.2.1.getD i 0) = true then some i else fFst (fun j => fNr v s (R.2.1.getD j 0)) m (i + 1))))) h := kq
      have e56 := t2 i (by omega)
      have hbi := hb i (by omega)
      have c1 : (lg_cmp v (lN (R.2.1.getD i 0 / 256) - lN s) < 0) = (v.toInt < ((R.2.1.getD i 0 / 256 : Nat) : Int) - (s : Int)) := by
        refine propext ?_
        rw [lg_cmp_lt, Int64.lt_iff_toInt_lt, nr1 (v := v) hs hbi]
      have c2 : (0 < lg_cmp v (lN (R.2.1.getD i 0 / 256) + lN s)) = (((R.2.1.getD i 0 / 256 : Nat) : Int) + (s : Int) < v.toInt) := by
        refine propext ?_
        rw [lg_cmp_gt, Int64.lt_iff_toInt_lt, nr2 (v := v) hs hbi]
      have en : fNr v s (R.2.1.getD i 0) = decide (((R.2.1.getD i 0 / 256 : Nat) : Int) - (s : Int) ≤ v.toInt ∧ v.toInt ≤ ((R.2.1.getD i 0 / 256 : Nat) : Int) + (s : Int)) := rfl
      refine u_X8_bellNear_7 hr ?_
      by_cases q1 : v.toInt < ((R.2.1.getD i 0 / 256 : Nat) : Int) - (s : Int)
      · rw [en, decide_eq_false (by omega), if_neg (by decide)] at kq'
        simp (disch := omega) only [xle_t, xle_f, xlt_t, xlt_f, xeq_t, xeq_f, xle0_t, xle0_f, xlt0_f, x0lt_t, x0lt_f, x0le_t, xeq0_t, xeq0_f, xin, xem_f, xme_f, xlem_f, xlm_f, xml_t, xmle_t, nI_clamp, nI_add, pk_mul, pk_sub, zI_s, zI_k, zI_o, zL_s, zL_k, zL_o, zR_s, zR_k, zR_o, zIL, zIR, zIN, zLI, zLR, zLN, zRI, zRL, zRN, true_and, and_true, not_true_eq_false, not_false_eq_true, true_implies, false_implies, implies_true, forall_const, if_true, if_false, eq_self, false_and, and_false, implies_true, nI_l, ylle_t, ylle_f, xcl_t, xcl_f, t1, e56, pk_div, c1, q1]
        exact ih (i + 1) (by omega) _ kq'
      · by_cases q2 : ((R.2.1.getD i 0 / 256 : Nat) : Int) + (s : Int) < v.toInt
        · rw [en, decide_eq_false (by omega), if_neg (by decide)] at kq'
          simp (disch := omega) only [xle_t, xle_f, xlt_t, xlt_f, xeq_t, xeq_f, xle0_t, xle0_f, xlt0_f, x0lt_t, x0lt_f, x0le_t, xeq0_t, xeq0_f, xin, xem_f, xme_f, xlem_f, xlm_f, xml_t, xmle_t, nI_clamp, nI_add, pk_mul, pk_sub, zI_s, zI_k, zI_o, zL_s, zL_k, zL_o, zR_s, zR_k, zR_o, zIL, zIR, zIN, zLI, zLR, zLN, zRI, zRL, zRN, true_and, and_true, not_true_eq_false, not_false_eq_true, true_implies, false_implies, implies_true, forall_const, if_true, if_false, eq_self, false_and, and_false, implies_true, nI_l, ylle_t, ylle_f, xcl_t, xcl_f, t1, e56, pk_div, c1, q1, c2, q2]
          exact ih (i + 1) (by omega) _ kq'
        · rw [en, decide_eq_true (by omega), if_pos rfl] at kq'
          simp (disch := omega) only [xle_t, xle_f, xlt_t, xlt_f, xeq_t, xeq_f, xle0_t, xle0_f, xlt0_f, x0lt_t, x0lt_f, x0le_t, xeq0_t, xeq0_f, xin, xem_f, xme_f, xlem_f, xlm_f, xml_t, xmle_t, nI_clamp, nI_add, pk_mul, pk_sub, zI_s, zI_k, zI_o, zL_s, zL_k, zL_o, zR_s, zR_k, zR_o, zIL, zIR, zIN, zLI, zLR, zLN, zRI, zRL, zRN, true_and, and_true, not_true_eq_false, not_false_eq_true, true_implies, false_implies, implies_true, forall_const, if_true, if_false, eq_self, false_and, and_false, implies_true, nI_l, ylle_t, ylle_f, xcl_t, xcl_f, t1, e56, pk_div, c1, q1, c2, q2]
          exact kq'
  exact L (R.2.1.length - k) k (by omega) none kk
/-! copy -/
noncomputable def fCp (l : List Nat) (s : Nat) (f : Nat → Int64) (k : Nat) : Nat → Int64 := fun i => if i < k then wCut s (lN (l.getD i 0 / 256)) else f i
noncomputable def gCopy (B : BK) (W : RW) (x y : Int32) : Int32 := gP x (fun p => gW W y (fun _ w => if (rTo B.1 (B.2 p)).2.1.length ≤ w.2.1 then nI (rTo B.1 (B.2 p)).2.1.length else -(nI 7)))
noncomputable def wCopy (B : BK) (W : RW) (x y : Int32) : RW := match zix x 4 with
  | none => W
  | some p => match zix y 4 with
    | none => W
    | some r => match W r with
      | none => W
      | some (s, n, f) => if (rTo B.1 (B.2 p)).2.1.length ≤ n then kU W r (some (s, n, fCp (rTo B.1 (B.2 p)).2.1 s f (rTo B.1 (B.2 p)).2.1.length)) else W
theorem rwOK_copy {B : BK} {W : RW} (h : rwOK W) (x y : Int32) : rwOK (wCopy B W x y) := by
  unfold wCopy
  cases hx : zix x 4 with
  | none => exact h
  | some p =>
    cases hy : zix y 4 with
    | none => exact h
    | some r =>
      rcases hw : W r with _ | ⟨s, n, f⟩
      · simp only [hw]; exact h
      · simp only [hw]
        split
        · intro r' s' n' f' e
          by_cases q : r' = r
          · rw [q, kU_s] at e
            cases e
            exact h r s n f hw
          · rw [kU_o _ _ q] at e
            exact h r' s' n' f' e
        · exact h
theorem fCp_s (l : List Nat) (s : Nat) (f : Nat → Int64) (k : Nat) : kU (fCp l s f k) k (wCut s (lN (l.getD k 0 / 256))) = fCp l s f (k + 1) := funext fun i => by
  unfold fCp
  by_cases e : i = k
  · rw [e, kU_s, if_pos (by omega)]
  · rw [kU_o _ _ e]
    by_cases c : i < k
    · rw [if_pos c, if_pos (by omega)]
    · rw [if_neg c, if_neg (by omega)]
theorem fCp_0 (l : List Nat) (s : Nat) (f : Nat → Int64) : fCp l s f 0 = f := funext fun i => if_neg (Nat.not_lt_zero _)
theorem o_copy {B : BK} {W : RW} {h : MH} {d : Nat} {x y : Int32} {Q : Option MV → MH → Prop} (hr : zRf h) (hA : bAt B h 15) (hB : bOK B) (hW : rwC W h) (hWo : rwOK W) (hd : 6 ≤ d) (kk : ∀ h', zRf h' → zF (fun a => a < 48 ∨ (57 < a ∧ a < 103) ∨ 110 < a) h h' → rwC (wCopy B W x y) h' → Q (some (.inl (gCopy B W x y))) h') : Con mX10_copy d 0 0 [.inr (.inr 1), .inl x, .inl y] h Q := by
  unfold gCopy wCopy at kk
  refine u_X10_copy (d1' := 5) hr (by omega) (by omega) ?_
  rcases ix3 x (n := 4) (by omega) with ⟨z, x1, _⟩ | ⟨z, x1, x2, _⟩ | ⟨p, hp, rfl, z⟩
  · rw [gP_none z] at kk
    simp only [z] at kk
    simp (disch := omega) only [xle_t, xle_f, xlt_t, xlt_f, xeq_t, xeq_f, xle0_t, xle0_f, xlt0_f, x0lt_t, x0lt_f, x0le_t, xeq0_t, xeq0_f, xin, xem_f, xme_f, xlem_f, xlm_f, xml_t, xmle_t, nI_clamp, nI_add, pk_mul, pk_sub, zI_s, zI_k, zI_o, zL_s, zL_k, zL_o, zR_s, zR_k, zR_o, zIL, zIR, zIN, zLI, zLR, zLN, zRI, zRL, zRN, true_and, and_true, not_true_eq_false, not_false_eq_true, true_implies, false_implies, implies_true, forall_const, if_true, if_false, eq_self, false_and, and_false, implies_true, nI_l, ylle_t, ylle_f, xcl_t, xcl_f, x1]
    exact kk h hr zF.rfl hW
  · rw [gP_none z] at kk
    simp only [z] at kk
    simp (disch := omega) only [xle_t, xle_f, xlt_t, xlt_f, xeq_t, xeq_f, xle0_t, xle0_f, xlt0_f, x0lt_t, x0lt_f, x0le_t, xeq0_t, xeq0_f, xin, xem_f, xme_f, xlem_f, xlm_f, xml_t, xmle_t, nI_clamp, nI_add, pk_mul, pk_sub, zI_s, zI_k, zI_o, zL_s, zL_k, zL_o, zR_s, zR_k, zR_o, zIL, zIR, zIN, zLI, zLR, zLN, zRI, zRL, zRN, true_and, and_true, not_true_eq_false, not_false_eq_true, true_implies, false_implies, implies_true, forall_const, if_true, if_false, eq_self, false_and, and_false, implies_true, nI_l, ylle_t, ylle_f, xcl_t, xcl_f, x1, x2]
    exact kk h hr zF.rfl hW
  rw [gP_some hp] at kk
  rcases ix3 y (n := 4) (by omega) with ⟨z2, x1, _⟩ | ⟨z2, x1, x2, _⟩ | ⟨r, hq, rfl, z2⟩
  · rw [gW_none z2] at kk
    simp only [z, z2] at kk
    simp (disch := omega) only [xle_t, xle_f, xlt_t, xlt_f, xeq_t, xeq_f, xle0_t, xle0_f, xlt0_f, x0lt_t, x0lt_f, x0le_t, xeq0_t, xeq0_f, xin, xem_f, xme_f, xlem_f, xlm_f, xml_t, xmle_t, nI_clamp, nI_add, pk_mul, pk_sub, zI_s, zI_k, zI_o, zL_s, zL_k, zL_o, zR_s, zR_k, zR_o, zIL, zIR, zIN, zLI, zLR, zLN, zRI, zRL, zRN, true_and, and_true, not_true_eq_false, not_false_eq_true, true_implies, false_implies, implies_true, forall_const, if_true, if_false, eq_self, false_and, and_false, implies_true, nI_l, ylle_t, ylle_f, xcl_t, xcl_f, x1]
    exact kk h hr zF.rfl hW
  · rw [gW_none z2] at kk
    simp only [z, z2] at kk
    simp (disch := omega) only [xle_t, xle_f, xlt_t, xlt_f, xeq_t, xeq_f, xle0_t, xle0_f, xlt0_f, x0lt_t, x0lt_f, x0le_t, xeq0_t, xeq0_f, xin, xem_f, xme_f, xlem_f, xlm_f, xml_t, xmle_t, nI_clamp, nI_add, pk_mul, pk_sub, zI_s, zI_k, zI_o, zL_s, zL_k, zL_o, zR_s, zR_k, zR_o, zIL, zIR, zIN, zLI, zLR, zLN, zRI, zRL, zRN, true_and, and_true, not_true_eq_false, not_false_eq_true, true_implies, false_implies, implies_true, forall_const, if_true, if_false, eq_self, false_and, and_false, implies_true, nI_l, ylle_t, ylle_f, xcl_t, xcl_f, x1, x2]
    exact kk h hr zF.rfl hW
  rcases hw : W r with _ | ⟨s, n, f⟩
  · rw [gW_no hq hw] at kk
    simp only [z, z2, hw] at kk
    have e0 := (hW r hq).1 hw
    simp (disch := omega) only [xle_t, xle_f, xlt_t, xlt_f, xeq_t, xeq_f, xle0_t, xle0_f, xlt0_f, x0lt_t, x0lt_f, x0le_t, xeq0_t, xeq0_f, xin, xem_f, xme_f, xlem_f, xlm_f, xml_t, xmle_t, nI_clamp, nI_add, pk_mul, pk_sub, zI_s, zI_k, zI_o, zL_s, zL_k, zL_o, zR_s, zR_k, zR_o, zIL, zIR, zIN, zLI, zLR, zLN, zRI, zRL, zRN, true_and, and_true, not_true_eq_false, not_false_eq_true, true_implies, false_implies, implies_true, forall_const, if_true, if_false, eq_self, false_and, and_false, implies_true, nI_l, ylle_t, ylle_f, xcl_t, xcl_f, e0]
    exact kk h hr zF.rfl hW
  rw [gW_so hq hw] at kk
  simp only [z, z2, hw] at kk
  obtain ⟨e0, e1, e2, e3⟩ := (hW r hq).2 s n f hw
  obtain ⟨s4, n40⟩ := hWo r s n f hw
  simp (disch := omega) only [xle_t, xle_f, xlt_t, xlt_f, xeq_t, xeq_f, xle0_t, xle0_f, xlt0_f, x0lt_t, x0lt_f, x0le_t, xeq0_t, xeq0_f, xin, xem_f, xme_f, xlem_f, xlm_f, xml_t, xmle_t, nI_clamp, nI_add, pk_mul, pk_sub, zI_s, zI_k, zI_o, zL_s, zL_k, zL_o, zR_s, zR_k, zR_o, zIL, zIR, zIN, zLI, zLR, zLN, zRI, zRL, zRN, true_and, and_true, not_true_eq_false, not_false_eq_true, true_implies, false_implies, implies_true, forall_const, if_true, if_false, eq_self, false_and, and_false, implies_true, nI_l, ylle_t, ylle_f, xcl_t, xcl_f, e0]
  have ho := rTo_o hB hp
  refine c_pat hr hA hB hp (by omega) (fun h1 r1 f1 s1 => ?_)
  have F1 : zF (fun a => a < 48 ∨ (57 < a ∧ a < 103) ∨ 110 < a) h h1 := f1.weak (fun a q => by omega)
  have hW1 : rwC W h1 := hW.keep (f1.weak (fun a q => by omega))
  obtain ⟨b0, b1, b2, b3⟩ := (hW1 r hq).2 s n f hw
  have t1 := s1.1.2.1
  refine u_X10_copy_37 r1 ?_
  by_cases q : (rTo B.1 (B.2 p)).2.1.length ≤ n
  · rw [if_pos q, if_pos q] at kk
    have h40 := ho.1
    simp (disch := omega) only [xle_t, xle_f, xlt_t, xlt_f, xeq_t, xeq_f, xle0_t, xle0_f, xlt0_f, x0lt_t, x0lt_f, x0le_t, xeq0_t, xeq0_f, xin, xem_f, xme_f, xlem_f, xlm_f, xml_t, xmle_t, nI_clamp, nI_add, pk_mul, pk_sub, zI_s, zI_k, zI_o, zL_s, zL_k, zL_o, zR_s, zR_k, zR_o, zIL, zIR, zIN, zLI, zLR, zLN, zRI, zRL, zRN, true_and, and_true, not_true_eq_false, not_false_eq_true, true_implies, false_implies, implies_true, forall_const, if_true, if_false, eq_self, false_and, and_false, implies_true, nI_l, ylle_t, ylle_f, xcl_t, xcl_f, b2, t1]
    have hbe : ∀ j, j < (rTo B.1 (B.2 p)).2.1.length → (rTo B.1 (B.2 p)).2.1.getD j 0 ≤ 400000000 := fun j hj => ho.be hj
    have t2 := s1.1.2.2.1
    clear s1 ho
    generalize (rTo B.1 (B.2 p)).2.1 = l at kk t1 t2 q h40 hbe
    have L : ∀ m k, k + m = l.length → ∀ g : MH, zRf g → zF (fun a => a < 103 ∨ 110 < a) h1 g → rwC (kU W r (some (s, n, fCp l s f k))) g → J mX10_copy d 0 0 Q 0 0 61 [some (.inr (.inr 1)), some (.inl (nI p)), some (.inl (nI r)), some (.inl (nI k))] [] g := by
      intro m
      induction m with
      | zero =>
        intro k hk g rg fg gw
        have g9 : g.1 48 9 = nI l.length := by rw [fg.i (by omega)]; exact t1
        refine u_X10_copy_61 (d1' := 0) (d2' := 0) rg (by omega) (by omega) (by omega) ?_
        simp (disch := omega) only [xle_t, xle_f, xlt_t, xlt_f, xeq_t, xeq_f, xle0_t, xle0_f, xlt0_f, x0lt_t, x0lt_f, x0le_t, xeq0_t, xeq0_f, xin, xem_f, xme_f, xlem_f, xlm_f, xml_t, xmle_t, nI_clamp, nI_add, pk_mul, pk_sub, zI_s, zI_k, zI_o, zL_s, zL_k, zL_o, zR_s, zR_k, zR_o, zIL, zIR, zIN, zLI, zLR, zLN, zRI, zRL, zRN, true_and, and_true, not_true_eq_false, not_false_eq_true, true_implies, false_implies, implies_true, forall_const, if_true, if_false, eq_self, false_and, and_false, implies_true, nI_l, ylle_t, ylle_f, xcl_t, xcl_f, g9]
        obtain rfl : k = l.length := by omega
        exact kk g rg (F1.trans (fg.weak (fun a q => by omega))) gw
      | succ m ih =>
        intro k hk g rg fg gw
        have g9 : g.1 48 9 = nI l.length := by rw [fg.i (by omega)]; exact t1
        have g56 : g.1 56 k = nI (l.getD k 0) := by rw [fg.i (by omega)]; exact t2 k (by omega)
        have hbk := hbe k (by omega)
        have ho' := zrw' rg hq
        have hws : kU W r (some (s, n, fCp l s f k)) r = some (s, n, fCp l s f k) := kU_s _ _ _
        obtain ⟨c0, c1, c2, c3⟩ := (gw r hq).2 s n _ hws
        refine u_X10_copy_61 (d1' := 1) (d2' := 1) rg (by omega) (by omega) (by omega) ?_
        simp (disch := omega) only [xle_t, xle_f, xlt_t, xlt_f, xeq_t, xeq_f, xle0_t, xle0_f, xlt0_f, x0lt_t, x0lt_f, x0le_t, xeq0_t, xeq0_f, xin, xem_f, xme_f, xlem_f, xlm_f, xml_t, xmle_t, nI_clamp, nI_add, pk_mul, pk_sub, zI_s, zI_k, zI_o, zL_s, zL_k, zL_o, zR_s, zR_k, zR_o, zIL, zIR, zIN, zLI, zLR, zLN, zRI, zRL, zRN, true_and, and_true, not_true_eq_false, not_false_eq_true, true_implies, false_implies, implies_true, forall_const, if_true, if_false, eq_self, false_and, and_false, implies_true, nI_l, ylle_t, ylle_f, xcl_t, xcl_f, g9, g56, pk_div, ho']
        refine c_put7 rg hq s4 n40 (by omega) c1 c2 (by omega) ?_
        refine u_X10_copy_91 ?_
        rw [nI_add]
        refine ih (k + 1) (by omega) _ rg (fg.trans (zF_L _ _ _ (by omega))) ?_
        have := rwC_put (i := k) (v := wCut s (lN (l.getD k 0 / 256))) gw hws hq
        rw [fCp_s] at this
        have e9 : kU (kU W r (some (s, n, fCp l s f k))) r (some (s, n, fCp l s f (k + 1))) = kU W r (some (s, n, fCp l s f (k + 1))) := funext fun i => by
          by_cases e : i = r
          · rw [e, kU_s, kU_s]
          · rw [kU_o _ _ e, kU_o _ _ e, kU_o _ _ e]
        rw [e9] at this
        exact this
    refine L l.length 0 (by omega) h1 r1 zF.rfl ?_
    rw [fCp_0, ← hw, kU_id]
    exact hW1
  · rw [if_neg q, if_neg q] at kk
    have h40 := ho.1
    simp (disch := omega) only [xle_t, xle_f, xlt_t, xlt_f, xeq_t, xeq_f, xle0_t, xle0_f, xlt0_f, x0lt_t, x0lt_f, x0le_t, xeq0_t, xeq0_f, xin, xem_f, xme_f, xlem_f, xlm_f, xml_t, xmle_t, nI_clamp, nI_add, pk_mul, pk_sub, zI_s, zI_k, zI_o, zL_s, zL_k, zL_o, zR_s, zR_k, zR_o, zIL, zIR, zIN, zLI, zLR, zLN, zRI, zRL, zRN, true_and, and_true, not_true_eq_false, not_false_eq_true, true_implies, false_implies, implies_true, forall_const, if_true, if_false, eq_self, false_and, and_false, implies_true, nI_l, ylle_t, ylle_f, xcl_t, xcl_f, b2, t1]
    exact kk h1 r1 F1 hW1
theorem n_copy {B : BK} {W : RW} {h : MH} {d : Nat} {x y : Int32} {Q : Option MV → MH → Prop} (hr : zRf h) (hA : bIn B (h.1 112) 0) (hB : bOK B) (h28 : h.1 111 28 = -(nI 1)) (hW : rwM W h) (hWo : rwOK W) (hd : 6 ≤ d) (kk : ∀ h', zRf h' → zF (fun a => a ≤ 110 ∨ 142 < a ∨ a = 112 ∨ a = 113 ∨ a = 114) h h' → (∀ k, k = 5 ∨ k = 13 ∨ k = 14 ∨ k = 28 → h'.1 111 k = h.1 111 k) → rwM (wCopy B W x y) h' → Q (some (.inl (gCopy B W x y))) h') : Con mX11_copy d 0 0 [.inr (.inr 111), .inl x, .inl y] h Q := by
  unfold gCopy wCopy at kk
  have kk0 : ∀ h' w a, zRf h' → mK h h' → rwM w h' → (∀ h', zRf h' → zF (fun a => a ≤ 110 ∨ 142 < a ∨ a = 112 ∨ a = 113 ∨ a = 114) h h' → (∀ k, k = 5 ∨ k = 13 ∨ k = 14 ∨ k = 28 → h'.1 111 k = h.1 111 k) → rwM w h' → Q (some (.inl a)) h') → Q (some (.inl a)) h' := by
    intro h' w a r' k' w' kq
    refine kq h' r' (k'.1.weak (fun a q => by omega)) (fun k hk => ?_) w'
    rcases hk with e | e | e | e
    · rw [e]; exact k'.2.1
    · rw [e]; exact k'.2.2.1
    · rw [e]; exact k'.2.2.2.1
    · rw [e]; exact k'.2.2.2.2
  have hW0 : rwM W (zsI h 111 0 (nI 0)) := hW
  have hA0 : bIn B ((zsI h 111 0 (nI 0)).1 112) 0 := hA
  have k0 := mK_0 h
  refine u_X11_copy (d1' := 5) hr (by omega) (by omega) ?_
  rcases ix3 x (n := 4) (by omega) with ⟨z, _, x1⟩ | ⟨z, _, _, x1, _, x2, _⟩ | ⟨p, hp, rfl, z⟩
  · rw [gP_none z] at kk
    simp only [z] at kk
    simp (disch := omega) only [xle_t, xle_f, xlt_t, xlt_f, xeq_t, xeq_f, xle0_t, xle0_f, xlt0_f, x0lt_t, x0lt_f, x0le_t, xeq0_t, xeq0_f, xin, xem_f, xme_f, xlem_f, xlm_f, xml_t, xmle_t, nI_clamp, nI_add, pk_mul, pk_sub, zI_s, zI_k, zI_o, zL_s, zL_k, zL_o, zR_s, zR_k, zR_o, zIL, zIR, zIN, zLI, zLR, zLN, zRI, zRL, zRN, true_and, and_true, not_true_eq_false, not_false_eq_true, true_implies, false_implies, implies_true, forall_const, if_true, if_false, eq_self, false_and, and_false, implies_true, nI_l, ylle_t, ylle_f, xcl_t, xcl_f, x1]
    exact kk0 _ _ _ hr k0 hW0 kk
  · rw [gP_none z] at kk
    simp only [z] at kk
    simp (disch := omega) only [xle_t, xle_f, xlt_t, xlt_f, xeq_t, xeq_f, xle0_t, xle0_f, xlt0_f, x0lt_t, x0lt_f, x0le_t, xeq0_t, xeq0_f, xin, xem_f, xme_f, xlem_f, xlm_f, xml_t, xmle_t, nI_clamp, nI_add, pk_mul, pk_sub, zI_s, zI_k, zI_o, zL_s, zL_k, zL_o, zR_s, zR_k, zR_o, zIL, zIR, zIN, zLI, zLR, zLN, zRI, zRL, zRN, true_and, and_true, not_true_eq_false, not_false_eq_true, true_implies, false_implies, implies_true, forall_const, if_true, if_false, eq_self, false_and, and_false, implies_true, nI_l, ylle_t, ylle_f, xcl_t, xcl_f, x1, y_3, x2 3 rfl]
    exact kk0 _ _ _ hr k0 hW0 kk
  rw [gP_some hp] at kk
  rcases ix3 y (n := 4) (by omega) with ⟨z2, _, x1⟩ | ⟨z2, _, _, x1, _, x2, _⟩ | ⟨r, hq, rfl, z2⟩
  · rw [gW_none z2] at kk
    simp only [z, z2] at kk
    simp (disch := omega) only [xle_t, xle_f, xlt_t, xlt_f, xeq_t, xeq_f, xle0_t, xle0_f, xlt0_f, x0lt_t, x0lt_f, x0le_t, xeq0_t, xeq0_f, xin, xem_f, xme_f, xlem_f, xlm_f, xml_t, xmle_t, nI_clamp, nI_add, pk_mul, pk_sub, zI_s, zI_k, zI_o, zL_s, zL_k, zL_o, zR_s, zR_k, zR_o, zIL, zIR, zIN, zLI, zLR, zLN, zRI, zRL, zRN, true_and, and_true, not_true_eq_false, not_false_eq_true, true_implies, false_implies, implies_true, forall_const, if_true, if_false, eq_self, false_and, and_false, implies_true, nI_l, ylle_t, ylle_f, xcl_t, xcl_f, x1, y_3]
    exact kk0 _ _ _ hr k0 hW0 kk
  · rw [gW_none z2] at kk
    simp only [z, z2] at kk
    simp (disch := omega) only [xle_t, xle_f, xlt_t, xlt_f, xeq_t, xeq_f, xle0_t, xle0_f, xlt0_f, x0lt_t, x0lt_f, x0le_t, xeq0_t, xeq0_f, xin, xem_f, xme_f, xlem_f, xlm_f, xml_t, xmle_t, nI_clamp, nI_add, pk_mul, pk_sub, zI_s, zI_k, zI_o, zL_s, zL_k, zL_o, zR_s, zR_k, zR_o, zIL, zIR, zIN, zLI, zLR, zLN, zRI, zRL, zRN, true_and, and_true, not_true_eq_false, not_false_eq_true, true_implies, false_implies, implies_true, forall_const, if_true, if_false, eq_self, false_and, and_false, implies_true, nI_l, ylle_t, ylle_f, xcl_t, xcl_f, x1, y_3, x2 3 rfl]
    exact kk0 _ _ _ hr k0 hW0 kk
  rcases hw : W r with _ | ⟨s, n, f⟩
  · rw [gW_no hq hw] at kk
    simp only [z, z2, hw] at kk
    have e0 := (hW r hq).1 hw
    simp (disch := omega) only [xle_t, xle_f, xlt_t, xlt_f, xeq_t, xeq_f, xle0_t, xle0_f, xlt0_f, x0lt_t, x0lt_f, x0le_t, xeq0_t, xeq0_f, xin, xem_f, xme_f, xlem_f, xlm_f, xml_t, xmle_t, nI_clamp, nI_add, pk_mul, pk_sub, zI_s, zI_k, zI_o, zL_s, zL_k, zL_o, zR_s, zR_k, zR_o, zIL, zIR, zIN, zLI, zLR, zLN, zRI, zRL, zRN, true_and, and_true, not_true_eq_false, not_false_eq_true, true_implies, false_implies, implies_true, forall_const, if_true, if_false, eq_self, false_and, and_false, implies_true, nI_l, ylle_t, ylle_f, xcl_t, xcl_f, y_3, e0]
    exact kk0 _ _ _ hr k0 hW0 kk
  rw [gW_so hq hw] at kk
  simp only [z, z2, hw] at kk
  obtain ⟨e0, e1, e2⟩ := (hW r hq).2 s n f hw
  obtain ⟨s4, n40⟩ := hWo r s n f hw
  simp (disch := omega) only [xle_t, xle_f, xlt_t, xlt_f, xeq_t, xeq_f, xle0_t, xle0_f, xlt0_f, x0lt_t, x0lt_f, x0le_t, xeq0_t, xeq0_f, xin, xem_f, xme_f, xlem_f, xlm_f, xml_t, xmle_t, nI_clamp, nI_add, pk_mul, pk_sub, zI_s, zI_k, zI_o, zL_s, zL_k, zL_o, zR_s, zR_k, zR_o, zIL, zIR, zIN, zLI, zLR, zLN, zRI, zRL, zRN, true_and, and_true, not_true_eq_false, not_false_eq_true, true_implies, false_implies, implies_true, forall_const, if_true, if_false, eq_self, false_and, and_false, implies_true, nI_l, ylle_t, ylle_f, xcl_t, xcl_f, y_3, e0]
  have ho := rTo_o hB hp
  refine n_hears hr hA0 hB (k0.2.2.2.2.trans h28) hp (by omega) (fun h1 r1 k1 s1 he1 _ => ?_)
  have k01 := k0.trans k1
  have hW1 : rwM W h1 := k01.w hW
  obtain ⟨b0, b1, b2⟩ := (hW1 r hq).2 s n f hw
  refine u_X11_copy_45 r1 ?_
  have h40 := ho.1
  by_cases q : (rTo B.1 (B.2 p)).2.1.length ≤ n
  · rw [if_pos q, if_pos q] at kk
    have hbe : ∀ j, j < (rTo B.1 (B.2 p)).2.1.length → (rTo B.1 (B.2 p)).2.1.getD j 0 ≤ 400000000 := fun j hj => ho.be hj
    obtain ⟨t1, t2⟩ := he1
    clear s1 ho
    simp (disch := omega) only [xle_t, xle_f, xlt_t, xlt_f, xeq_t, xeq_f, xle0_t, xle0_f, xlt0_f, x0lt_t, x0lt_f, x0le_t, xeq0_t, xeq0_f, xin, xem_f, xme_f, xlem_f, xlm_f, xml_t, xmle_t, nI_clamp, nI_add, pk_mul, pk_sub, zI_s, zI_k, zI_o, zL_s, zL_k, zL_o, zR_s, zR_k, zR_o, zIL, zIR, zIN, zLI, zLR, zLN, zRI, zRL, zRN, true_and, and_true, not_true_eq_false, not_false_eq_true, true_implies, false_implies, implies_true, forall_const, if_true, if_false, eq_self, false_and, and_false, implies_true, nI_l, ylle_t, ylle_f, xcl_t, xcl_f, b1, t1]
    generalize (rTo B.1 (B.2 p)).2.1 = l at kk t1 t2 q h40 hbe
    have L : ∀ m k, k + m = l.length → ∀ g : MH, zRf g → zF (fun a => a ≠ 142) h1 g → rwM (kU W r (some (s, n, fCp l s f k))) g → rwOK (kU W r (some (s, n, fCp l s f k))) → J mX11_copy d 0 0 Q 0 0 63 [some (.inr (.inr 111)), some (.inl (nI p)), some (.inl (nI r)), some (.inl (nI k))] [] g := by
      intro m
      induction m with
      | zero =>
        intro k hk g rg fg gw _
        have g32 : g.1 111 32 = nI l.length := by rw [fg.i (by omega)]; exact t1
        refine u_X11_copy_63 rg (by omega) ?_
        simp (disch := omega) only [xle_t, xle_f, xlt_t, xlt_f, xeq_t, xeq_f, xle0_t, xle0_f, xlt0_f, x0lt_t, x0lt_f, x0le_t, xeq0_t, xeq0_f, xin, xem_f, xme_f, xlem_f, xlm_f, xml_t, xmle_t, nI_clamp, nI_add, pk_mul, pk_sub, zI_s, zI_k, zI_o, zL_s, zL_k, zL_o, zR_s, zR_k, zR_o, zIL, zIR, zIN, zLI, zLR, zLN, zRI, zRL, zRN, true_and, and_true, not_true_eq_false, not_false_eq_true, true_implies, false_implies, implies_true, forall_const, if_true, if_false, eq_self, false_and, and_false, implies_true, nI_l, ylle_t, ylle_f, xcl_t, xcl_f, g32]
        obtain rfl : k = l.length := by omega
        refine kk g rg ((k01.1.weak (fun a q => by omega)).trans (fg.weak (fun a q => by omega))) (fun k hk => ?_) gw
        rw [fg.i (by omega)]
        rcases hk with e | e | e | e
        · rw [e]; exact k01.2.1
        · rw [e]; exact k01.2.2.1
        · rw [e]; exact k01.2.2.2.1
        · rw [e]; exact k01.2.2.2.2
      | succ m ih =>
        intro k hk g rg fg gw go
        have g32 : g.1 111 32 = nI l.length := by rw [fg.i (by omega)]; exact t1
        have g126 : g.1 126 k = nI (l.getD k 0 / 256) := by rw [fg.i (by omega)]; exact t2 k (by omega)
        have hbk := hbe k (by omega)
        have hws : kU W r (some (s, n, fCp l s f k)) r = some (s, n, fCp l s f k) := kU_s _ _ _
        obtain ⟨c0, c1, c2⟩ := (gw r hq).2 s n _ hws
        have hz : zokA g 142 21 (nI (40 * r + k)) := zia rg (by decide) rfl (vp_in_nI (by omega) (by omega))
        have nxt : J mX11_copy d 0 0 Q 0 0 63 [some (.inr (.inr 111)), some (.inl (nI p)), some (.inl (nI r)), some (.inl (nI (k + 1)))] [] (zsL g 142 (40 * r + k) (wCut s (lN (l.getD k 0 / 256)))) := by
          have e9 : kU (kU W r (some (s, n, fCp l s f k))) r (some (s, n, fCp l s f (k + 1))) = kU W r (some (s, n, fCp l s f (k + 1))) := funext fun i => by
            by_cases e : i = r
            · rw [e, kU_s, kU_s]
            · rw [kU_o _ _ e, kU_o _ _ e, kU_o _ _ e]
          have := rwM_put (i := k) (v := wCut s (lN (l.getD k 0 / 256))) gw go hws hq (by omega)
          rw [fCp_s, e9] at this
          refine ih (k + 1) (by omega) _ rg (fg.trans (zF_L _ _ _ (by omega))) this (fun r' s' n' f' w => ?_)
          by_cases e : r' = r
          · rw [e, kU_s] at w
            cases w
            exact ⟨s4, n40⟩
          · rw [kU_o _ _ e] at w
            exact hWo r' s' n' f' w
        unfold wCut at nxt
        refine u_X11_copy_63 rg (by omega) ?_
        have h4 : s = 0 ∨ s = 1 ∨ s = 2 ∨ s = 3 := by omega
        rcases h4 with y | y | y | y
        · subst y
          simp (disch := omega) only [xle_t, xle_f, xlt_t, xlt_f, xeq_t, xeq_f, xle0_t, xle0_f, xlt0_f, x0lt_t, x0lt_f, x0le_t, xeq0_t, xeq0_f, xin, xem_f, xme_f, xlem_f, xlm_f, xml_t, xmle_t, nI_clamp, nI_add, pk_mul, pk_sub, zI_s, zI_k, zI_o, zL_s, zL_k, zL_o, zR_s, zR_k, zR_o, zIL, zIR, zIN, zLI, zLR, zLN, zRI, zRL, zRN, true_and, and_true, not_true_eq_false, not_false_eq_true, true_implies, false_implies, implies_true, forall_const, if_true, if_false, eq_self, false_and, and_false, implies_true, nI_l, ylle_t, ylle_f, xcl_t, xcl_f, g32, g126, c0, hz]
          exact nxt
        · subst y
          simp (disch := omega) only [xle_t, xle_f, xlt_t, xlt_f, xeq_t, xeq_f, xle0_t, xle0_f, xlt0_f, x0lt_t, x0lt_f, x0le_t, xeq0_t, xeq0_f, xin, xem_f, xme_f, xlem_f, xlm_f, xml_t, xmle_t, nI_clamp, nI_add, pk_mul, pk_sub, zI_s, zI_k, zI_o, zL_s, zL_k, zL_o, zR_s, zR_k, zR_o, zIL, zIR, zIN, zLI, zLR, zLN, zRI, zRL, zRN, true_and, and_true, not_true_eq_false, not_false_eq_true, true_implies, false_implies, implies_true, forall_const, if_true, if_false, eq_self, false_and, and_false, implies_true, nI_l, ylle_t, ylle_f, xcl_t, xcl_f, g32, g126, c0, hz]
          exact nxt
        · subst y
          simp (disch := omega) only [xle_t, xle_f, xlt_t, xlt_f, xeq_t, xeq_f, xle0_t, xle0_f, xlt0_f, x0lt_t, x0lt_f, x0le_t, xeq0_t, xeq0_f, xin, xem_f, xme_f, xlem_f, xlm_f, xml_t, xmle_t, nI_clamp, nI_add, pk_mul, pk_sub, zI_s, zI_k, zI_o, zL_s, zL_k, zL_o, zR_s, zR_k, zR_o, zIL, zIR, zIN, zLI, zLR, zLN, zRI, zRL, zRN, true_and, and_true, not_true_eq_false, not_false_eq_true, true_implies, false_implies, implies_true, forall_const, if_true, if_false, eq_self, false_and, and_false, implies_true, nI_l, ylle_t, ylle_f, xcl_t, xcl_f, g32, g126, c0, hz]
          exact nxt
        · subst y
          simp (disch := omega) only [xle_t, xle_f, xlt_t, xlt_f, xeq_t, xeq_f, xle0_t, xle0_f, xlt0_f, x0lt_t, x0lt_f, x0le_t, xeq0_t, xeq0_f, xin, xem_f, xme_f, xlem_f, xlm_f, xml_t, xmle_t, nI_clamp, nI_add, pk_mul, pk_sub, zI_s, zI_k, zI_o, zL_s, zL_k, zL_o, zR_s, zR_k, zR_o, zIL, zIR, zIN, zLI, zLR, zLN, zRI, zRL, zRN, true_and, and_true, not_true_eq_false, not_false_eq_true, true_implies, false_implies, implies_true, forall_const, if_true, if_false, eq_self, false_and, and_false, implies_true, nI_l, ylle_t, ylle_f, xcl_t, xcl_f, g32, g126, c0, hz]
          exact nxt
    have ew : kU W r (some (s, n, fCp l s f 0)) = W := by rw [fCp_0, ← hw, kU_id]
    refine L l.length 0 (by omega) h1 r1 zF.rfl ?_ ?_
    · rw [ew]; exact hW1
    · rw [ew]; exact hWo
  · rw [if_neg q, if_neg q] at kk
    simp (disch := omega) only [xle_t, xle_f, xlt_t, xlt_f, xeq_t, xeq_f, xle0_t, xle0_f, xlt0_f, x0lt_t, x0lt_f, x0le_t, xeq0_t, xeq0_f, xin, xem_f, xme_f, xlem_f, xlm_f, xml_t, xmle_t, nI_clamp, nI_add, pk_mul, pk_sub, zI_s, zI_k, zI_o, zL_s, zL_k, zL_o, zR_s, zR_k, zR_o, zIL, zIR, zIN, zLI, zLR, zLN, zRI, zRL, zRN, true_and, and_true, not_true_eq_false, not_false_eq_true, true_implies, false_implies, implies_true, forall_const, if_true, if_false, eq_self, false_and, and_false, implies_true, nI_l, ylle_t, ylle_f, xcl_t, xcl_f, b1, he1.1]
    exact kk0 _ _ _ r1 k01 hW1 kk
