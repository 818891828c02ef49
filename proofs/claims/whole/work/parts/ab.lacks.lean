/-! ===== lacks ===== -/
theorem lN_to {x : Nat} (h : x < 2 ^ 31) : (lN x).toInt32 = nI x := by
  refine Int32.toInt_inj.mp ?_
  rw [Int64.toInt_toInt32, pk_lT (by omega), nI_toInt h]
  exact fb_bmod (by omega) (by omega)
theorem lgc_p {a b : Nat} (ha : a < 2 ^ 63) (hb : b < 2 ^ 63) : (0 < lg_cmp (lN a) (lN b)) = (b < a) := propext (by rw [lg_cmp_gt]; exact pk_lLT hb ha)
theorem lgc_n {a b : Nat} (ha : a < 2 ^ 63) (hb : b < 2 ^ 63) : (lg_cmp (lN a) (lN b) < 0) = (a < b) := propext (by rw [lg_cmp_lt]; exact pk_lLT ha hb)
theorem wAl_c {C : CE} {S : Nat} : ∀ c, fb_sm (wX0 C S (c + 1)) (wN S (c + 1)) = fb_sm (wX0 C S c) (wN S c) + (if S.testBit c = true then cS C c else 0) := fun c => by
  by_cases tb : S.testBit c = true
  · have xs : wX0 C S (c + 1) = kU (wX0 C S c) (wN S c) (cS C c) := if_pos tb
    have ns : wN S (c + 1) = wN S c + 1 := by rw [wN_s, if_pos tb]
    rw [if_pos tb, xs, ns, fb_sm_succ, kU_s, fb_sm_cong (fun k hk => kU_o _ _ (by omega))]
  · have xs : wX0 C S (c + 1) = wX0 C S c := if_neg tb
    have ns : wN S (c + 1) = wN S c := by rw [wN_s, if_neg tb, Nat.add_zero]
    rw [if_neg tb, xs, ns, Nat.add_zero]
section OPS
variable {B : BK} {out : Bool} {h : MH} {d : Nat} {Q : Option MV → MH → Prop}
theorem c_sst {C : CE} {S : Nat} (hr : zRf h) (hA : cAt C h 16) (hC : cOK C) (hS : wSet C S) (hd : 4 ≤ d) (kk : Q (some (.inl (nI (wAl C S)))) h) : Con mX2_sparksOfSet d 0 0 [.inr (.inr 16), .inl (nI S)] h Q := by
  have b8 := p2_8 hC.1
  have s1 := hS.2.1
  have n8 := hC.1
  have e16 := hA.1
  have z2 : zokO h 16 2 := zo hr (by decide) rfl
  refine u_X2_sparksOfSet ?_
  have L : ∀ m c, c + m = C.1 → J mX2_sparksOfSet d 0 0 Q 0 0 4 [some (.inr (.inr 16)), some (.inl (nI S)), some (.inl (nI (fb_sm (wX0 C S c) (wN S c)))), some (.inl (nI c))] [] h := by
    intro m
    induction m with
    | zero =>
      intro c hc
      obtain ⟨e1, e2, e3⟩ := wN_end (C := C) (S := S) (c := c) (by omega) (fun i q1 q2 => tb_hi s1 (by omega))
      refine u_X2_sparksOfSet_4 (d1' := d - 1) (by omega) ⟨z2, ?_⟩
      simp (disch := omega) only [xle_t, xle_f, xlt_t, xlt_f, xeq_t, xeq_f, xle0_t, xle0_f, xlt0_f, x0lt_t, x0lt_f, x0le_t, xeq0_t, xeq0_f, xin, xem_f, xme_f, xlem_f, xlm_f, xml_t, xmle_t, nI_clamp, nI_add, pk_mul, pk_sub, zI_s, zI_k, zI_o, zL_s, zL_k, zL_o, zR_s, zR_k, zR_o, zIL, zIR, zIN, zLI, zLR, zLN, zRI, zRL, zRN, true_and, and_true, not_true_eq_false, not_false_eq_true, true_implies, false_implies, implies_true, forall_const, if_true, if_false, eq_self, false_and, and_false, implies_true, nI_l, ylle_t, ylle_f, xcl_t, xcl_f, e16]
      have : wAl C S = fb_sm (wX0 C S c) (wN S c) := by unfold wAl; rw [e1, e2]
      rw [← this]
      exact kk
    | succ m ih =>
      intro c hc
      have nx := ih (c + 1) (by omega)
      rw [wAl_c] at nx
      have bb := xbtS (S := S) (c := c) (by omega) (by omega)
      refine u_X2_sparksOfSet_4 (d1' := d - 1) (by omega) ⟨z2, ?_⟩
      by_cases tb : S.testBit c = true
      · rw [if_pos tb] at nx
        rw [eq_false (show ¬ S.testBit c = false by rw [tb]; decide)] at bb
        simp (disch := omega) only [xle_t, xle_f, xlt_t, xlt_f, xeq_t, xeq_f, xle0_t, xle0_f, xlt0_f, x0lt_t, x0lt_f, x0le_t, xeq0_t, xeq0_f, xin, xem_f, xme_f, xlem_f, xlm_f, xml_t, xmle_t, nI_clamp, nI_add, pk_mul, pk_sub, zI_s, zI_k, zI_o, zL_s, zL_k, zL_o, zR_s, zR_k, zR_o, zIL, zIR, zIN, zLI, zLR, zLN, zRI, zRL, zRN, true_and, and_true, not_true_eq_false, not_false_eq_true, true_implies, false_implies, implies_true, forall_const, if_true, if_false, eq_self, false_and, and_false, implies_true, nI_l, ylle_t, ylle_f, xcl_t, xcl_f, e16, bb]
        refine c_sof hr hA z2 hC (by omega) (by omega) ?_
        refine u_X2_sparksOfSet_26 ?_
        simp (disch := omega) only [xle_t, xle_f, xlt_t, xlt_f, xeq_t, xeq_f, xle0_t, xle0_f, xlt0_f, x0lt_t, x0lt_f, x0le_t, xeq0_t, xeq0_f, xin, xem_f, xme_f, xlem_f, xlm_f, xml_t, xmle_t, nI_clamp, nI_add, pk_mul, pk_sub, zI_s, zI_k, zI_o, zL_s, zL_k, zL_o, zR_s, zR_k, zR_o, zIL, zIR, zIN, zLI, zLR, zLN, zRI, zRL, zRN, true_and, and_true, not_true_eq_false, not_false_eq_true, true_implies, false_implies, implies_true, forall_const, if_true, if_false, eq_self, false_and, and_false, implies_true, nI_l, ylle_t, ylle_f, xcl_t, xcl_f]
        exact nx
      · rw [if_neg tb, Nat.add_zero] at nx
        rw [eq_true (Bool.eq_false_iff.mpr tb)] at bb
        simp (disch := omega) only [xle_t, xle_f, xlt_t, xlt_f, xeq_t, xeq_f, xle0_t, xle0_f, xlt0_f, x0lt_t, x0lt_f, x0le_t, xeq0_t, xeq0_f, xin, xem_f, xme_f, xlem_f, xlm_f, xml_t, xmle_t, nI_clamp, nI_add, pk_mul, pk_sub, zI_s, zI_k, zI_o, zL_s, zL_k, zL_o, zR_s, zR_k, zR_o, zIL, zIR, zIN, zLI, zLR, zLN, zRI, zRL, zRN, true_and, and_true, not_true_eq_false, not_false_eq_true, true_implies, false_implies, implies_true, forall_const, if_true, if_false, eq_self, false_and, and_false, implies_true, nI_l, ylle_t, ylle_f, xcl_t, xcl_f, e16, bb]
        exact nx
  exact L C.1 0 (by omega)
def fLk (f : Nat → Bool) (P : Nat) (k : Int32) : Nat → Nat → Nat → Int32
  | 0, _, s => if k = -(nI 1) then nI s else -(nI 1)
  | m + 1, i, s => if f (i * P) = true then fLk f P k m (i + 1) s else if nI s = k then nI (i * P) else fLk f P k m (i + 1) (s + 1)
def gLac (B : BK) (x : Int32) (out : Bool) (p k : Int32) : Int32 := gSet B.1 4 x (fun S => if nI 64 ≤ p then fLk (wTm B.1 S out) p.toNatClampNeg k (wAl B.1 S / p.toNatClampNeg) 1 0 else -(nI 3))
theorem p64_c (y : Int32) : ¬ nI 64 ≤ y ∨ ∃ T, 64 ≤ T ∧ T < 2 ^ 31 ∧ y = nI T := by
  rcases pos_c y with z | ⟨T, z, z1, z2⟩
  · refine Or.inl (fun q => z (Int32.le_trans ?_ q))
    decide
  · rcases Nat.lt_or_ge T 64 with c | c
    · refine Or.inl ?_
      rw [z2]
      exact nI_ge c (by omega)
    · exact Or.inr ⟨T, c, z1, z2⟩
theorem o_lac {x p k : Int32} (hr : zRf h) (hA : bAt B h 15) (hB : bOK B) (m0 : wMk B.1 false 98 h) (m1 : wMk B.1 true 100 h) (hd : 27 ≤ d) (kk : ∀ h', zRf h' → zF (fun a => a < 62 ∨ 100 < a) h h' → wMk B.1 false 98 h' → wMk B.1 true 100 h' → Q (some (.inl (gLac B x out p k))) h') : Con mX10_lacks d 0 0 [.inr (.inr 1), .inl x, .inl (bI out), .inl p, .inl k] h Q := by
  unfold gLac at kk
  refine u_X10_lacks (d1' := d - 1) hr (by omega) ?_
  refine c_ist hr hA.c16 hB.1 (by omega) (by omega) ?_ ?_
  · intro z
    rw [gSet_0 z] at kk
    refine u_X10_lacks_6 (d1' := d - 1) hr (by omega) ?_
    simp (disch := omega) only [xle_t, xle_f, xlt_t, xlt_f, xeq_t, xeq_f, xle0_t, xle0_f, xlt0_f, x0lt_t, x0lt_f, x0le_t, xeq0_t, xeq0_f, xin, xem_f, xme_f, xlem_f, xlm_f, xml_t, xmle_t, nI_clamp, nI_add, pk_mul, pk_sub, zI_s, zI_k, zI_o, zL_s, zL_k, zL_o, zR_s, zR_k, zR_o, zIL, zIR, zIN, zLI, zLR, zLN, zRI, zRL, zRN, true_and, and_true, not_true_eq_false, not_false_eq_true, true_implies, false_implies, implies_true, forall_const, if_true, if_false, eq_self, false_and, and_false, implies_true, nI_l, ylle_t, ylle_f, xcl_t, xcl_f]
    exact kk h hr zF.rfl m0 m1
  · intro S z e hS _
    rw [gSet_1 z] at kk
    refine u_X10_lacks_6 (d1' := d - 1) hr (by omega) ?_
    rcases p64_c p with t0 | ⟨P, t0, t1, rfl⟩
    · rw [if_neg t0] at kk
      simp (disch := omega) only [xle_t, xle_f, xlt_t, xlt_f, xeq_t, xeq_f, xle0_t, xle0_f, xlt0_f, x0lt_t, x0lt_f, x0le_t, xeq0_t, xeq0_f, xin, xem_f, xme_f, xlem_f, xlm_f, xml_t, xmle_t, nI_clamp, nI_add, pk_mul, pk_sub, zI_s, zI_k, zI_o, zL_s, zL_k, zL_o, zR_s, zR_k, zR_o, zIL, zIR, zIN, zLI, zLR, zLN, zRI, zRL, zRN, true_and, and_true, not_true_eq_false, not_false_eq_true, true_implies, false_implies, implies_true, forall_const, if_true, if_false, eq_self, false_and, and_false, implies_true, nI_l, ylle_t, ylle_f, xcl_t, xcl_f, t0]
      exact kk h hr zF.rfl m0 m1
    · rw [if_pos (nI_le t0 t1), nI_clamp t1] at kk
      simp (disch := omega) only [xle_t, xle_f, xlt_t, xlt_f, xeq_t, xeq_f, xle0_t, xle0_f, xlt0_f, x0lt_t, x0lt_f, x0le_t, xeq0_t, xeq0_f, xin, xem_f, xme_f, xlem_f, xlm_f, xml_t, xmle_t, nI_clamp, nI_add, pk_mul, pk_sub, zI_s, zI_k, zI_o, zL_s, zL_k, zL_o, zR_s, zR_k, zR_o, zIL, zIR, zIN, zLI, zLR, zLN, zRI, zRL, zRN, true_and, and_true, not_true_eq_false, not_false_eq_true, true_implies, false_implies, implies_true, forall_const, if_true, if_false, eq_self, false_and, and_false, implies_true, nI_l, ylle_t, ylle_f, xcl_t, xcl_f, e]
      refine c_all hr hA hB hS m0 m1 (by omega) (fun h1 r1 f1 n0 n1 z1 K1 => ?_)
      refine u_X10_lacks_24 (d1' := d - 1) r1 (by omega) ?_
      have hA1 : cAt B.1 h1 16 := by
        unfold cAt
        rw [f1.i (by omega), f1.i (a := 16 + 1) (by omega), f1.i (a := 16 + 2) (by omega), f1.i (a := 16 + 3) (by omega), f1.i (a := 16 + 4) (by omega)]
        exact hA.c16
      refine c_sst r1 hA1 hB.1 hS (by omega) ?_
      refine u_X10_lacks_37 ?_
      have fin := kk h1 r1 f1 n0 n1
      have ab := wAl_b hB.1 hS
      have hf := wTm_F (out := out) hB.1 hS
      have w0 := wMo_0 out
      generalize wMo' out = w at z1 K1 w0
      generalize wTm B.1 S out = f at K1 fin hf
      generalize wAl B.1 S = A at fin ab
      have L : ∀ m i s, i + m = A / P + 1 → 1 ≤ i → s < i → Q (some (.inl (fLk f P k m i s))) h1 → J mX10_lacks d 0 0 Q 0 0 45 [some (.inr (.inr 1)), some (.inl (nI S)), some (.inl (bI out)), some (.inl (nI P)), some (.inl k), some (.inr (.inr (w - 1))), some (.inl (nI A)), some (.inl (nI s)), some (.inl (nI i))] [] h1 := by
        have dA := Nat.div_le_self A P
        intro m
        induction m with
        | zero =>
          intro i s hi i1 si kq
          have kq' : Q (some (.inl (if k = -(nI 1) then nI s else -(nI 1)))) h1 := kq
          refine u_X10_lacks_45 r1 (by omega) ?_
          by_cases y : k = -(nI 1)
          · rw [if_pos y] at kq'
            simp (disch := omega) only [xle_t, xle_f, xlt_t, xlt_f, xeq_t, xeq_f, xle0_t, xle0_f, xlt0_f, x0lt_t, x0lt_f, x0le_t, xeq0_t, xeq0_f, xin, xem_f, xme_f, xlem_f, xlm_f, xml_t, xmle_t, nI_clamp, nI_add, pk_mul, pk_sub, zI_s, zI_k, zI_o, zL_s, zL_k, zL_o, zR_s, zR_k, zR_o, zIL, zIR, zIN, zLI, zLR, zLN, zRI, zRL, zRN, true_and, and_true, not_true_eq_false, not_false_eq_true, true_implies, false_implies, implies_true, forall_const, if_true, if_false, eq_self, false_and, and_false, implies_true, nI_l, ylle_t, ylle_f, xcl_t, xcl_f, pk_div, y]
            exact kq'
          · rw [if_neg y] at kq'
            simp (disch := omega) only [xle_t, xle_f, xlt_t, xlt_f, xeq_t, xeq_f, xle0_t, xle0_f, xlt0_f, x0lt_t, x0lt_f, x0le_t, xeq0_t, xeq0_f, xin, xem_f, xme_f, xlem_f, xlm_f, xml_t, xmle_t, nI_clamp, nI_add, pk_mul, pk_sub, zI_s, zI_k, zI_o, zL_s, zL_k, zL_o, zR_s, zR_k, zR_o, zIL, zIR, zIN, zLI, zLR, zLN, zRI, zRL, zRN, true_and, and_true, not_true_eq_false, not_false_eq_true, true_implies, false_implies, implies_true, forall_const, if_true, if_false, eq_self, false_and, and_false, implies_true, nI_l, ylle_t, ylle_f, xcl_t, xcl_f, pk_div, y]
            exact kq'
        | succ m ih =>
          intro i s hi i1 si kq
          have kq' : Q (some (.inl (if f (i * P) = true then fLk f P k m (i + 1) s else if nI s = k then nI (i * P) else fLk f P k m (i + 1) (s + 1)))) h1 := kq
          have iP : i * P ≤ A := Nat.le_trans (Nat.mul_le_mul_right _ (show i ≤ A / P by omega)) (Nat.div_mul_le_self _ _)
          have iP0 : 0 < i * P := Nat.mul_pos i1 (by omega)
          have em : nI (i * P) - nI (i * P) / nI 16 * nI 16 = nI (i * P % 16) := pk_rem (by omega) (by decide) (by decide)
          have ed : nI (i * P) / nI 16 = nI (i * P / 16) := pk_div (by omega) (by decide) (by decide)
          have eq : nI A / nI P = nI (A / P) := pk_div (by omega) (by omega) (by omega)
          refine u_X10_lacks_45 r1 (by omega) ?_
          rw [pk_mul, em, ed, eq, show w - 1 + 1 = w by omega]
          have no : f (i * P) = false → (¬ nI s = k → J mX10_lacks d 0 0 Q 0 0 45 [some (.inr (.inr 1)), some (.inl (nI S)), some (.inl (bI out)), some (.inl (nI P)), some (.inl k), some (.inr (.inr (w - 1))), some (.inl (nI A)), some (.inl (nI (s + 1))), some (.inl (nI (i + 1)))] [] h1) ∧ (nI s = k → Q (some (.inl (nI (i * P)))) h1) := fun q => by
            rw [q, if_neg (show ¬ (false = true) by decide)] at kq'
            refine ⟨fun y => ?_, fun y => ?_⟩
            · rw [if_neg y] at kq'
              exact ih (i + 1) (s + 1) (by omega) (by omega) (by omega) kq'
            · rw [if_pos y] at kq'
              exact kq'
          have yes : f (i * P) = true → J mX10_lacks d 0 0 Q 0 0 45 [some (.inr (.inr 1)), some (.inl (nI S)), some (.inl (bI out)), some (.inl (nI P)), some (.inl k), some (.inr (.inr (w - 1))), some (.inl (nI A)), some (.inl (nI s)), some (.inl (nI (i + 1)))] [] h1 := fun q => by
            rw [q, if_pos rfl] at kq'
            exact ih (i + 1) s (by omega) (by omega) (by omega) kq'
          clear kq' ih
          by_cases c1 : i * P % 16 = 0
          · have c2 : i * P / 16 < 23104 := by omega
            have b := K1 (i * P / 16) c2
            simp only at b
            rw [show 16 * (i * P / 16) = i * P by omega] at b
            have cb := c_bitT (x := h1.2.1 w (i * P / 16 / 64)) (i := i * P / 16)
            rw [b] at cb
            cases hfT : f (i * P) with
            | true =>
              rw [hfT, eq_false (show ¬ true = false by decide)] at cb
              simp (disch := omega) only [xle_t, xle_f, xlt_t, xlt_f, xeq_t, xeq_f, xle0_t, xle0_f, xlt0_f, x0lt_t, x0lt_f, x0le_t, xeq0_t, xeq0_f, xin, xem_f, xme_f, xlem_f, xlm_f, xml_t, xmle_t, nI_clamp, nI_add, pk_mul, pk_sub, zI_s, zI_k, zI_o, zL_s, zL_k, zL_o, zR_s, zR_k, zR_o, zIL, zIR, zIN, zLI, zLR, zLN, zRI, zRL, zRN, true_and, and_true, not_true_eq_false, not_false_eq_true, true_implies, false_implies, implies_true, forall_const, if_true, if_false, eq_self, false_and, and_false, implies_true, nI_l, ylle_t, ylle_f, xcl_t, xcl_f, nI_shr6, cb]
              exact ⟨z1, yes hfT⟩
            | false =>
              rw [hfT, eq_true rfl] at cb
              by_cases y : nI s = k
              · simp (disch := omega) only [xle_t, xle_f, xlt_t, xlt_f, xeq_t, xeq_f, xle0_t, xle0_f, xlt0_f, x0lt_t, x0lt_f, x0le_t, xeq0_t, xeq0_f, xin, xem_f, xme_f, xlem_f, xlm_f, xml_t, xmle_t, nI_clamp, nI_add, pk_mul, pk_sub, zI_s, zI_k, zI_o, zL_s, zL_k, zL_o, zR_s, zR_k, zR_o, zIL, zIR, zIN, zLI, zLR, zLN, zRI, zRL, zRN, true_and, and_true, not_true_eq_false, not_false_eq_true, true_implies, false_implies, implies_true, forall_const, if_true, if_false, eq_self, false_and, and_false, implies_true, nI_l, ylle_t, ylle_f, xcl_t, xcl_f, nI_shr6, cb, y]
                exact ⟨z1, (no hfT).2 y⟩
              · simp (disch := omega) only [xle_t, xle_f, xlt_t, xlt_f, xeq_t, xeq_f, xle0_t, xle0_f, xlt0_f, x0lt_t, x0lt_f, x0le_t, xeq0_t, xeq0_f, xin, xem_f, xme_f, xlem_f, xlm_f, xml_t, xmle_t, nI_clamp, nI_add, pk_mul, pk_sub, zI_s, zI_k, zI_o, zL_s, zL_k, zL_o, zR_s, zR_k, zR_o, zIL, zIR, zIN, zLI, zLR, zLN, zRI, zRL, zRN, true_and, and_true, not_true_eq_false, not_false_eq_true, true_implies, false_implies, implies_true, forall_const, if_true, if_false, eq_self, false_and, and_false, implies_true, nI_l, ylle_t, ylle_f, xcl_t, xcl_f, nI_shr6, cb, y]
                exact ⟨z1, (no hfT).1 y⟩
          · have hfT : f (i * P) = false := Bool.eq_false_iff.mpr (fun q => by have := (hf _ q).1; omega)
            by_cases y : nI s = k
            · simp (disch := omega) only [xle_t, xle_f, xlt_t, xlt_f, xeq_t, xeq_f, xle0_t, xle0_f, xlt0_f, x0lt_t, x0lt_f, x0le_t, xeq0_t, xeq0_f, xin, xem_f, xme_f, xlem_f, xlm_f, xml_t, xmle_t, nI_clamp, nI_add, pk_mul, pk_sub, zI_s, zI_k, zI_o, zL_s, zL_k, zL_o, zR_s, zR_k, zR_o, zIL, zIR, zIN, zLI, zLR, zLN, zRI, zRL, zRN, true_and, and_true, not_true_eq_false, not_false_eq_true, true_implies, false_implies, implies_true, forall_const, if_true, if_false, eq_self, false_and, and_false, implies_true, nI_l, ylle_t, ylle_f, xcl_t, xcl_f, y]
              exact ⟨z1, (no hfT).2 y⟩
            · simp (disch := omega) only [xle_t, xle_f, xlt_t, xlt_f, xeq_t, xeq_f, xle0_t, xle0_f, xlt0_f, x0lt_t, x0lt_f, x0le_t, xeq0_t, xeq0_f, xin, xem_f, xme_f, xlem_f, xlm_f, xml_t, xmle_t, nI_clamp, nI_add, pk_mul, pk_sub, zI_s, zI_k, zI_o, zL_s, zL_k, zL_o, zR_s, zR_k, zR_o, zIL, zIR, zIN, zLI, zLR, zLN, zRI, zRL, zRN, true_and, and_true, not_true_eq_false, not_false_eq_true, true_implies, false_implies, implies_true, forall_const, if_true, if_false, eq_self, false_and, and_false, implies_true, nI_l, ylle_t, ylle_f, xcl_t, xcl_f, y]
              exact ⟨z1, (no hfT).1 y⟩
      exact L (A / P) 1 0 (by omega) (by omega) (by omega) fin
theorem n_lac {x p k : Int32} (hr : zRf h) (hA : bIn B (h.1 112) 0) (hB : bOK B) (hd : 12 ≤ d) (kk : ∀ h', zRf h' → mK h h' → Q (some (.inl (gLac B x out p k))) h') : Con mX11_lacks d 0 0 [.inr (.inr 111), .inl x, .inl (bI out), .inl p, .inl k] h Q := by
  unfold gLac at kk
  refine u_X11_lacks (d1' := d - 1) hr (by omega) ?_
  have hA0 : cIn B.1 ((zsI h 111 0 (nI 0)).1 112) 0 := by rw [zI_o _ _ _ (by omega)]; exact hA.1
  refine n_ist (zRf_I hr _ _ _) hA0 hB.1 (by omega) ?_ ?_
  · intro z
    rw [gSet_0 z] at kk
    refine u_X11_lacks_10 (d1' := d - 1) (zRf_I hr _ _ _) (by omega) ?_
    simp (disch := omega) only [xle_t, xle_f, xlt_t, xlt_f, xeq_t, xeq_f, xle0_t, xle0_f, xlt0_f, x0lt_t, x0lt_f, x0le_t, xeq0_t, xeq0_f, xin, xem_f, xme_f, xlem_f, xlm_f, xml_t, xmle_t, nI_clamp, nI_add, pk_mul, pk_sub, zI_s, zI_k, zI_o, zL_s, zL_k, zL_o, zR_s, zR_k, zR_o, zIL, zIR, zIN, zLI, zLR, zLN, zRI, zRL, zRN, true_and, and_true, not_true_eq_false, not_false_eq_true, true_implies, false_implies, implies_true, forall_const, if_true, if_false, eq_self, false_and, and_false, implies_true, nI_l, ylle_t, ylle_f, xcl_t, xcl_f]
    exact kk _ hr (mK_0 h)
  · intro S z e hS n4
    rw [gSet_1 z] at kk
    refine u_X11_lacks_10 (d1' := d - 1) (zRf_I hr _ _ _) (by omega) ?_
    rcases p64_c p with t0 | ⟨P, t0, t1, rfl⟩
    · rw [if_neg t0] at kk
      simp (disch := omega) only [xle_t, xle_f, xlt_t, xlt_f, xeq_t, xeq_f, xle0_t, xle0_f, xlt0_f, x0lt_t, x0lt_f, x0le_t, xeq0_t, xeq0_f, xin, xem_f, xme_f, xlem_f, xlm_f, xml_t, xmle_t, nI_clamp, nI_add, pk_mul, pk_sub, zI_s, zI_k, zI_o, zL_s, zL_k, zL_o, zR_s, zR_k, zR_o, zIL, zIR, zIN, zLI, zLR, zLN, zRI, zRL, zRN, true_and, and_true, not_true_eq_false, not_false_eq_true, true_implies, false_implies, implies_true, forall_const, if_true, if_false, eq_self, false_and, and_false, implies_true, nI_l, ylle_t, ylle_f, xcl_t, xcl_f, t0]
      exact kk _ hr (mK_0 h)
    · rw [if_pos (nI_le t0 t1), nI_clamp t1] at kk
      simp (disch := omega) only [xle_t, xle_f, xlt_t, xlt_f, xeq_t, xeq_f, xle0_t, xle0_f, xlt0_f, x0lt_t, x0lt_f, x0le_t, xeq0_t, xeq0_f, xin, xem_f, xme_f, xlem_f, xlm_f, xml_t, xmle_t, nI_clamp, nI_add, pk_mul, pk_sub, zI_s, zI_k, zI_o, zL_s, zL_k, zL_o, zR_s, zR_k, zR_o, zIL, zIR, zIN, zLI, zLR, zLN, zRI, zRL, zRN, true_and, and_true, not_true_eq_false, not_false_eq_true, true_implies, false_implies, implies_true, forall_const, if_true, if_false, eq_self, false_and, and_false, implies_true, nI_l, ylle_t, ylle_f, xcl_t, xcl_f, e]
      refine n_all (zRf_I hr _ _ _) hA0 hB.1 hS (by omega) (fun h1 r1 f1 e38 e128 K1 => ?_)
      have fin := kk h1 r1 ((mK_0 h).trans f1.k)
      refine u_X11_lacks_28 ?_
      have ab := wAl_b hB.1 hS
      have hf := wTm_F (out := out) hB.1 hS
      have L : ∀ m i s, i + m = wAl B.1 S / P + 1 → 1 ≤ i → s < i → Q (some (.inl (fLk (wTm B.1 S out) P k m i s))) h1 → J mX11_lacks d 0 0 Q 0 0 68 [some (.inr (.inr 111)), some (.inl (nI S)), some (.inl (bI out)), some (.inl (nI P)), some (.inl k), some (.inl (nI (wAl B.1 S))), some (.inl (nI s)), some (.inr (.inl (lN (i * P)))), none] [] h1 := by
        generalize wTm B.1 S out = f at K1 hf
        generalize wAl B.1 S = A at ab
        have dA := Nat.div_le_self A P
        intro m
        induction m with
        | zero =>
          intro i s hi i1 si kq
          have kq' : Q (some (.inl (if k = -(nI 1) then nI s else -(nI 1)))) h1 := kq
          have iP : A < i * P := by
            rw [show i = A / P + 1 by omega]
            exact Nat.lt_mul_of_div_lt (Nat.lt_succ_self _) (by omega)
          have iP2 : i * P ≤ A + P := by
            rw [show i = A / P + 1 by omega, Nat.add_mul, Nat.one_mul]
            exact Nat.add_le_add_right (Nat.div_mul_le_self _ _) _
          refine u_X11_lacks_68 r1 (by omega) ?_
          rw [nI_l (by omega), lgc_p (by omega) (by omega), eq_true iP]
          by_cases y : k = -(nI 1)
          · rw [if_pos y] at kq'
            simp (disch := omega) only [xle_t, xle_f, xlt_t, xlt_f, xeq_t, xeq_f, xle0_t, xle0_f, xlt0_f, x0lt_t, x0lt_f, x0le_t, xeq0_t, xeq0_f, xin, xem_f, xme_f, xlem_f, xlm_f, xml_t, xmle_t, nI_clamp, nI_add, pk_mul, pk_sub, zI_s, zI_k, zI_o, zL_s, zL_k, zL_o, zR_s, zR_k, zR_o, zIL, zIR, zIN, zLI, zLR, zLN, zRI, zRL, zRN, true_and, and_true, not_true_eq_false, not_false_eq_true, true_implies, false_implies, implies_true, forall_const, if_true, if_false, eq_self, false_and, and_false, implies_true, nI_l, ylle_t, ylle_f, xcl_t, xcl_f, y]
            exact kq'
          · rw [if_neg y] at kq'
            simp (disch := omega) only [xle_t, xle_f, xlt_t, xlt_f, xeq_t, xeq_f, xle0_t, xle0_f, xlt0_f, x0lt_t, x0lt_f, x0le_t, xeq0_t, xeq0_f, xin, xem_f, xme_f, xlem_f, xlm_f, xml_t, xmle_t, nI_clamp, nI_add, pk_mul, pk_sub, zI_s, zI_k, zI_o, zL_s, zL_k, zL_o, zR_s, zR_k, zR_o, zIL, zIR, zIN, zLI, zLR, zLN, zRI, zRL, zRN, true_and, and_true, not_true_eq_false, not_false_eq_true, true_implies, false_implies, implies_true, forall_const, if_true, if_false, eq_self, false_and, and_false, implies_true, nI_l, ylle_t, ylle_f, xcl_t, xcl_f, y]
            exact kq'
        | succ m ih =>
          intro i s hi i1 si kq
          have kq' : Q (some (.inl (if f (i * P) = true then fLk f P k m (i + 1) s else if nI s = k then nI (i * P) else fLk f P k m (i + 1) (s + 1)))) h1 := kq
          have iP : i * P ≤ A := Nat.le_trans (Nat.mul_le_mul_right _ (show i ≤ A / P by omega)) (Nat.div_mul_le_self _ _)
          have eq : nI (i * P) / nI 32 = nI (i * P / 32) := pk_div (by omega) (by decide) (by decide)
          have er : nI (i * P) - nI (i * P) / nI 32 * nI 32 = nI (i * P % 32) := pk_rem (by omega) (by decide) (by decide)
          have eb := shw (h1.1 132 (i * P / 32)) (c := i * P % 32) (Nat.mod_lt _ (by decide))
          rw [K1 (i * P) (by omega)] at eb
          have es : lN (i * P) + lN P = lN ((i + 1) * P) := by rw [lN_add, Nat.add_mul, Nat.one_mul]
          refine u_X11_lacks_68 r1 (by omega) ?_
          rw [nI_l (by omega), lgc_p (by omega) (by omega), eq_false (show ¬ A < i * P by omega), nI_l (show P < 2 ^ 31 from t1), lN_to (by omega), er, eq, es]
          cases hfT : f (i * P) with
          | true =>
            rw [hfT, if_pos rfl] at kq' eb
            simp (disch := omega) only [xle_t, xle_f, xlt_t, xlt_f, xeq_t, xeq_f, xle0_t, xle0_f, xlt0_f, x0lt_t, x0lt_f, x0le_t, xeq0_t, xeq0_f, xin, xem_f, xme_f, xlem_f, xlm_f, xml_t, xmle_t, nI_clamp, nI_add, pk_mul, pk_sub, zI_s, zI_k, zI_o, zL_s, zL_k, zL_o, zR_s, zR_k, zR_o, zIL, zIR, zIN, zLI, zLR, zLN, zRI, zRL, zRN, true_and, and_true, not_true_eq_false, not_false_eq_true, true_implies, false_implies, implies_true, forall_const, if_true, if_false, eq_self, false_and, and_false, implies_true, nI_l, ylle_t, ylle_f, xcl_t, xcl_f, eb]
            exact ih (i + 1) s (by omega) (by omega) (by omega) kq'
          | false =>
            rw [hfT, if_neg (show ¬ (false = true) by decide)] at kq' eb
            by_cases y : nI s = k
            · rw [if_pos y] at kq'
              simp (disch := omega) only [xle_t, xle_f, xlt_t, xlt_f, xeq_t, xeq_f, xle0_t, xle0_f, xlt0_f, x0lt_t, x0lt_f, x0le_t, xeq0_t, xeq0_f, xin, xem_f, xme_f, xlem_f, xlm_f, xml_t, xmle_t, nI_clamp, nI_add, pk_mul, pk_sub, zI_s, zI_k, zI_o, zL_s, zL_k, zL_o, zR_s, zR_k, zR_o, zIL, zIR, zIN, zLI, zLR, zLN, zRI, zRL, zRN, true_and, and_true, not_true_eq_false, not_false_eq_true, true_implies, false_implies, implies_true, forall_const, if_true, if_false, eq_self, false_and, and_false, implies_true, nI_l, ylle_t, ylle_f, xcl_t, xcl_f, eb, y]
              exact kq'
            · rw [if_neg y] at kq'
              simp (disch := omega) only [xle_t, xle_f, xlt_t, xlt_f, xeq_t, xeq_f, xle0_t, xle0_f, xlt0_f, x0lt_t, x0lt_f, x0le_t, xeq0_t, xeq0_f, xin, xem_f, xme_f, xlem_f, xlm_f, xml_t, xmle_t, nI_clamp, nI_add, pk_mul, pk_sub, zI_s, zI_k, zI_o, zL_s, zL_k, zL_o, zR_s, zR_k, zR_o, zIL, zIR, zIN, zLI, zLR, zLN, zRI, zRL, zRN, true_and, and_true, not_true_eq_false, not_false_eq_true, true_implies, false_implies, implies_true, forall_const, if_true, if_false, eq_self, false_and, and_false, implies_true, nI_l, ylle_t, ylle_f, xcl_t, xcl_f, eb, y]
              exact ih (i + 1) (s + 1) (by omega) (by omega) (by omega) kq'
      have L0 : ∀ m c, c + m = wN S 8 → J mX11_lacks d 0 0 Q 0 0 34 [some (.inr (.inr 111)), some (.inl (nI S)), some (.inl (bI out)), some (.inl (nI P)), some (.inl k), some (.inl (nI (fb_sm (wX0 B.1 S 8) c))), some (.inl (nI c)), none, none] [] h1 := by
        intro m
        induction m with
        | zero =>
          intro c hc
          obtain rfl : c = wN S 8 := by omega
          refine u_X11_lacks_34 r1 ?_
          simp (disch := omega) only [xle_t, xle_f, xlt_t, xlt_f, xeq_t, xeq_f, xle0_t, xle0_f, xlt0_f, x0lt_t, x0lt_f, x0le_t, xeq0_t, xeq0_f, xin, xem_f, xme_f, xlem_f, xlm_f, xml_t, xmle_t, nI_clamp, nI_add, pk_mul, pk_sub, zI_s, zI_k, zI_o, zL_s, zL_k, zL_o, zR_s, zR_k, zR_o, zIL, zIR, zIN, zLI, zLR, zLN, zRI, zRL, zRN, true_and, and_true, not_true_eq_false, not_false_eq_true, true_implies, false_implies, implies_true, forall_const, if_true, if_false, eq_self, false_and, and_false, implies_true, nI_l, ylle_t, ylle_f, xcl_t, xcl_f, e38]
          have := L (wAl B.1 S / P) 1 0 (by omega) (by omega) (by omega) fin
          rw [Nat.one_mul] at this
          exact this
        | succ m ih =>
          intro c hc
          have ec := e128 c (by omega)
          refine u_X11_lacks_34 r1 ?_
          simp (disch := omega) only [xle_t, xle_f, xlt_t, xlt_f, xeq_t, xeq_f, xle0_t, xle0_f, xlt0_f, x0lt_t, x0lt_f, x0le_t, xeq0_t, xeq0_f, xin, xem_f, xme_f, xlem_f, xlm_f, xml_t, xmle_t, nI_clamp, nI_add, pk_mul, pk_sub, zI_s, zI_k, zI_o, zL_s, zL_k, zL_o, zR_s, zR_k, zR_o, zIL, zIR, zIN, zLI, zLR, zLN, zRI, zRL, zRN, true_and, and_true, not_true_eq_false, not_false_eq_true, true_implies, false_implies, implies_true, forall_const, if_true, if_false, eq_self, false_and, and_false, implies_true, nI_l, ylle_t, ylle_f, xcl_t, xcl_f, e38, ec]
          exact ih (c + 1) (by omega)
      exact L0 (wN S 8) 0 (by omega)
end OPS
