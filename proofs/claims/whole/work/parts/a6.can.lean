/-! ===== can, between, fewest, burnt ===== -/
def gSet (C : CE) (k : Nat) (x : Int32) (F : Nat → Int32) : Int32 := match wsx C k x with
  | none => -(nI 3)
  | some S => F S
def gT1 (y : Int32) (F : Nat → Int32) : Int32 := if nI 1 ≤ y then F y.toNatClampNeg else -(nI 3)
theorem gSet_0 {C : CE} {k : Nat} {x : Int32} {F : Nat → Int32} (h : wsx C k x = none) : gSet C k x F = -(nI 3) := by unfold gSet; rw [h]
theorem gSet_1 {C : CE} {k S : Nat} {x : Int32} {F : Nat → Int32} (h : wsx C k x = some S) : gSet C k x F = F S := by unfold gSet; rw [h]
theorem gT1_0 {y : Int32} {F : Nat → Int32} (h : ¬ nI 1 ≤ y) : gT1 y F = -(nI 3) := if_neg h
theorem gT1_1 {T : Nat} {F : Nat → Int32} (h : 0 < T) (hT : T < 2 ^ 31) : gT1 (nI T) F = F T := by
  unfold gT1
  rw [if_pos (nI_le h hT), nI_clamp hT]
/-- a positive number, or none -/
theorem pos_c (y : Int32) : ¬ nI 1 ≤ y ∨ ∃ T, 0 < T ∧ T < 2 ^ 31 ∧ y = nI T := by
  rcases Classical.em (y < 0) with z | z
  · refine Or.inl (fun q => ?_)
    have := Int32.lt_of_le_of_lt q z
    revert this; decide
  · obtain ⟨n, n1, n2⟩ := wb_of32 y
    have n31 : n < 2 ^ 31 := Nat.lt_of_not_le fun q => z (by
      rw [n2]
      rw [Int32.lt_iff_toInt_lt]
      show (BitVec.ofNat 32 n).toInt < 0
      rw [BitVec.toInt_eq_toNat_cond, BitVec.toNat_ofNat, Nat.mod_eq_of_lt n1]
      split <;> omega)
    rcases Nat.eq_zero_or_pos n with n0 | n0
    · refine Or.inl ?_
      rw [n2, n0]; decide
    · exact Or.inr ⟨n, n0, n31, n2⟩
section OPS
variable {B : BK} {out : Bool} {h : MH} {d : Nat} {Q : Option MV → MH → Prop}
theorem bAt.c16 (q : bAt B h 15) : cAt B.1 h 16 := q.1
theorem cY.z {h' : MH} {w : Nat} (f : cY w h h') : zF (fun a => a < 62) h h' → True := fun _ => trivial
theorem cY_l {h h' : MH} {w : Nat} (f : zF (fun a => a ≠ 62 ∧ a ≠ 66 ∧ a ≠ 72) h h') : cY w h h' := f.weak (fun a q => by omega)
theorem c_tld {S T : Nat} (hr : zRf h) (hA : bAt B h 15) (hB : bOK B) (hS : wSet B.1 S) (hT : 0 < T) (hTb : T < 2 ^ 31) (m0 : wMk B.1 false 98 h) (m1 : wMk B.1 true 100 h) (hd : 26 ≤ d) (kk : ∀ h', zRf h' → cY 62 h h' → Q (some (.inl (bI (wTm B.1 S out T)))) h') : Con mX10_isTold d 0 0 [.inr (.inr 1), .inl (nI S), .inl (bI out), .inl (nI T)] h Q := by
  have hC := hB.1
  have b8 := p2_8 hC.1
  have s1 := hS.2.1
  have s0 := hS.1
  have em : nI T - nI T / nI 16 * nI 16 = nI (T % 16) := pk_rem hTb (by decide) (by decide)
  have ed : nI T / nI 16 = nI (T / 16) := pk_div hTb (by decide) (by decide)
  have new : ∀ v, Con mX9_lay (d - 1) 0 0 [.inr (.inr 62), .inr (.inr 16), .inl (nI S), .inl (bI out)] h (zrv fun h' => J mX10_isTold d 0 0 Q 0 0 49 [some (.inr (.inr 1)), some (.inl (nI S)), some (.inl (bI out)), some (.inl (nI T)), some (.inr (.inr v))] [] h') := by
    intro v
    refine c_wly hr hA.c16 hC hS (by omega) (fun h1 r1 f1 k1 q1 l1 => ?_)
    refine u_X10_isTold_49 (d1' := d - 1) r1 (by omega) ?_
    refine c_skS (Or.inl rfl) r1 hC hS l1 hT hTb (by omega) (fun h2 r2 f2 _ _ => ?_)
    refine u_X10_isTold_58 ⟨bI_or _, ?_⟩
    rw [sU_some, Option.isSome_none, Bool.false_or]
    exact kk h2 r2 ((cY_l f1).trans f2)
  refine u_X10_isTold (d1' := d - 1) (d2' := d - 1) hr (by omega) (by omega) (by omega) ?_
  rw [em, ed]
  have fin := kk h hr zF.rfl
  -- where the marks are of this set
  have old : wKw (fun i => wTm B.1 S out (16 * i)) (h.2.1 (if out = true then 100 else 98)) → T % 16 = 0 → T / 16 < 23104 → (h.2.1 (if out = true then 100 else 98) (T / 16 / 64)).toBitVec.getLsbD (T / 16 % 64) = wTm B.1 S out T := fun q z c => by
    have b := q (T / 16) c
    simp only at b
    rw [show 16 * (T / 16) = T by omega] at b
    exact b
  have big : (¬ T % 16 = 0 ∨ 23104 ≤ T / 16) → wTm B.1 S out T = false := fun q => Bool.eq_false_iff.mpr (fun y => by
    have := wTm_i hC hS y
    omega)
  cases out with
  | false =>
    rw [show bI false = nI 0 from rfl] at new ⊢
    rcases m0 with z | ⟨S0, hS0, z, K0⟩
    · simp (disch := omega) only [xle_t, xle_f, xlt_t, xlt_f, xeq_t, xeq_f, xle0_t, xle0_f, xlt0_f, x0lt_t, x0lt_f, x0le_t, xeq0_t, xeq0_f, xin, xem_f, xme_f, xlem_f, xlm_f, xml_t, xmle_t, nI_clamp, nI_add, pk_mul, pk_sub, zI_s, zI_k, zI_o, zL_s, zL_k, zL_o, zR_s, zR_k, zR_o, zIL, zIR, zIN, zLI, zLR, zLN, zRI, zRL, zRN, true_and, and_true, not_true_eq_false, not_false_eq_true, true_implies, false_implies, implies_true, forall_const, if_true, if_false, eq_self, false_and, and_false, implies_true, nI_l, ylle_t, ylle_f, xcl_t, xcl_f, z]
      exact new _
    · have s01 := hS0.2.1
      by_cases e : S0 = S
      · rw [e] at z K0
        by_cases c1 : T % 16 = 0
        · rcases Nat.lt_or_ge (T / 16) 23104 with c2 | c2
          · have b := old K0 c1 c2
            have cb := c_bitT (x := h.2.1 98 (T / 16 / 64)) (i := T / 16)
            have b' : (h.2.1 98 (T / 16 / 64)).toBitVec.getLsbD (T / 16 % 64) = wTm B.1 S false T := b
            rw [b'] at cb
            cases hf : wTm B.1 S false T with
            | true =>
              rw [hf] at fin
              rw [hf, eq_false (show ¬ true = false by decide)] at cb
              simp (disch := omega) only [xle_t, xle_f, xlt_t, xlt_f, xeq_t, xeq_f, xle0_t, xle0_f, xlt0_f, x0lt_t, x0lt_f, x0le_t, xeq0_t, xeq0_f, xin, xem_f, xme_f, xlem_f, xlm_f, xml_t, xmle_t, nI_clamp, nI_add, pk_mul, pk_sub, zI_s, zI_k, zI_o, zL_s, zL_k, zL_o, zR_s, zR_k, zR_o, zIL, zIR, zIN, zLI, zLR, zLN, zRI, zRL, zRN, true_and, and_true, not_true_eq_false, not_false_eq_true, true_implies, false_implies, implies_true, forall_const, if_true, if_false, eq_self, false_and, and_false, implies_true, nI_l, ylle_t, ylle_f, xcl_t, xcl_f, z, nI_shr6, cb]
              exact fin
            | false =>
              rw [hf] at fin
              rw [hf, eq_true rfl] at cb
              simp (disch := omega) only [xle_t, xle_f, xlt_t, xlt_f, xeq_t, xeq_f, xle0_t, xle0_f, xlt0_f, x0lt_t, x0lt_f, x0le_t, xeq0_t, xeq0_f, xin, xem_f, xme_f, xlem_f, xlm_f, xml_t, xmle_t, nI_clamp, nI_add, pk_mul, pk_sub, zI_s, zI_k, zI_o, zL_s, zL_k, zL_o, zR_s, zR_k, zR_o, zIL, zIR, zIN, zLI, zLR, zLN, zRI, zRL, zRN, true_and, and_true, not_true_eq_false, not_false_eq_true, true_implies, false_implies, implies_true, forall_const, if_true, if_false, eq_self, false_and, and_false, implies_true, nI_l, ylle_t, ylle_f, xcl_t, xcl_f, z, nI_shr6, cb]
              exact fin
          · rw [big (Or.inr c2)] at fin
            simp (disch := omega) only [xle_t, xle_f, xlt_t, xlt_f, xeq_t, xeq_f, xle0_t, xle0_f, xlt0_f, x0lt_t, x0lt_f, x0le_t, xeq0_t, xeq0_f, xin, xem_f, xme_f, xlem_f, xlm_f, xml_t, xmle_t, nI_clamp, nI_add, pk_mul, pk_sub, zI_s, zI_k, zI_o, zL_s, zL_k, zL_o, zR_s, zR_k, zR_o, zIL, zIR, zIN, zLI, zLR, zLN, zRI, zRL, zRN, true_and, and_true, not_true_eq_false, not_false_eq_true, true_implies, false_implies, implies_true, forall_const, if_true, if_false, eq_self, false_and, and_false, implies_true, nI_l, ylle_t, ylle_f, xcl_t, xcl_f, z]
            exact fin
        · rw [big (Or.inl c1)] at fin
          simp (disch := omega) only [xle_t, xle_f, xlt_t, xlt_f, xeq_t, xeq_f, xle0_t, xle0_f, xlt0_f, x0lt_t, x0lt_f, x0le_t, xeq0_t, xeq0_f, xin, xem_f, xme_f, xlem_f, xlm_f, xml_t, xmle_t, nI_clamp, nI_add, pk_mul, pk_sub, zI_s, zI_k, zI_o, zL_s, zL_k, zL_o, zR_s, zR_k, zR_o, zIL, zIR, zIN, zLI, zLR, zLN, zRI, zRL, zRN, true_and, and_true, not_true_eq_false, not_false_eq_true, true_implies, false_implies, implies_true, forall_const, if_true, if_false, eq_self, false_and, and_false, implies_true, nI_l, ylle_t, ylle_f, xcl_t, xcl_f, z]
          exact fin
      · simp (disch := omega) only [xle_t, xle_f, xlt_t, xlt_f, xeq_t, xeq_f, xle0_t, xle0_f, xlt0_f, x0lt_t, x0lt_f, x0le_t, xeq0_t, xeq0_f, xin, xem_f, xme_f, xlem_f, xlm_f, xml_t, xmle_t, nI_clamp, nI_add, pk_mul, pk_sub, zI_s, zI_k, zI_o, zL_s, zL_k, zL_o, zR_s, zR_k, zR_o, zIL, zIR, zIN, zLI, zLR, zLN, zRI, zRL, zRN, true_and, and_true, not_true_eq_false, not_false_eq_true, true_implies, false_implies, implies_true, forall_const, if_true, if_false, eq_self, false_and, and_false, implies_true, nI_l, ylle_t, ylle_f, xcl_t, xcl_f, z]
        exact new _
  | true =>
    rw [show bI true = nI 1 from rfl] at new ⊢
    rcases m1 with z | ⟨S0, hS0, z, K0⟩
    · simp (disch := omega) only [xle_t, xle_f, xlt_t, xlt_f, xeq_t, xeq_f, xle0_t, xle0_f, xlt0_f, x0lt_t, x0lt_f, x0le_t, xeq0_t, xeq0_f, xin, xem_f, xme_f, xlem_f, xlm_f, xml_t, xmle_t, nI_clamp, nI_add, pk_mul, pk_sub, zI_s, zI_k, zI_o, zL_s, zL_k, zL_o, zR_s, zR_k, zR_o, zIL, zIR, zIN, zLI, zLR, zLN, zRI, zRL, zRN, true_and, and_true, not_true_eq_false, not_false_eq_true, true_implies, false_implies, implies_true, forall_const, if_true, if_false, eq_self, false_and, and_false, implies_true, nI_l, ylle_t, ylle_f, xcl_t, xcl_f, z]
      exact new _
    · have s01 := hS0.2.1
      by_cases e : S0 = S
      · rw [e] at z K0
        by_cases c1 : T % 16 = 0
        · rcases Nat.lt_or_ge (T / 16) 23104 with c2 | c2
          · have b := old K0 c1 c2
            have cb := c_bitT (x := h.2.1 100 (T / 16 / 64)) (i := T / 16)
            have b' : (h.2.1 100 (T / 16 / 64)).toBitVec.getLsbD (T / 16 % 64) = wTm B.1 S true T := b
            rw [b'] at cb
            cases hf : wTm B.1 S true T with
            | true =>
              rw [hf] at fin
              rw [hf, eq_false (show ¬ true = false by decide)] at cb
              simp (disch := omega) only [xle_t, xle_f, xlt_t, xlt_f, xeq_t, xeq_f, xle0_t, xle0_f, xlt0_f, x0lt_t, x0lt_f, x0le_t, xeq0_t, xeq0_f, xin, xem_f, xme_f, xlem_f, xlm_f, xml_t, xmle_t, nI_clamp, nI_add, pk_mul, pk_sub, zI_s, zI_k, zI_o, zL_s, zL_k, zL_o, zR_s, zR_k, zR_o, zIL, zIR, zIN, zLI, zLR, zLN, zRI, zRL, zRN, true_and, and_true, not_true_eq_false, not_false_eq_true, true_implies, false_implies, implies_true, forall_const, if_true, if_false, eq_self, false_and, and_false, implies_true, nI_l, ylle_t, ylle_f, xcl_t, xcl_f, z, nI_shr6, cb]
              exact fin
            | false =>
              rw [hf] at fin
              rw [hf, eq_true rfl] at cb
              simp (disch := omega) only [xle_t, xle_f, xlt_t, xlt_f, xeq_t, xeq_f, xle0_t, xle0_f, xlt0_f, x0lt_t, x0lt_f, x0le_t, xeq0_t, xeq0_f, xin, xem_f, xme_f, xlem_f, xlm_f, xml_t, xmle_t, nI_clamp, nI_add, pk_mul, pk_sub, zI_s, zI_k, zI_o, zL_s, zL_k, zL_o, zR_s, zR_k, zR_o, zIL, zIR, zIN, zLI, zLR, zLN, zRI, zRL, zRN, true_and, and_true, not_true_eq_false, not_false_eq_true, true_implies, false_implies, implies_true, forall_const, if_true, if_false, eq_self, false_and, and_false, implies_true, nI_l, ylle_t, ylle_f, xcl_t, xcl_f, z, nI_shr6, cb]
              exact fin
          · rw [big (Or.inr c2)] at fin
            simp (disch := omega) only [xle_t, xle_f, xlt_t, xlt_f, xeq_t, xeq_f, xle0_t, xle0_f, xlt0_f, x0lt_t, x0lt_f, x0le_t, xeq0_t, xeq0_f, xin, xem_f, xme_f, xlem_f, xlm_f, xml_t, xmle_t, nI_clamp, nI_add, pk_mul, pk_sub, zI_s, zI_k, zI_o, zL_s, zL_k, zL_o, zR_s, zR_k, zR_o, zIL, zIR, zIN, zLI, zLR, zLN, zRI, zRL, zRN, true_and, and_true, not_true_eq_false, not_false_eq_true, true_implies, false_implies, implies_true, forall_const, if_true, if_false, eq_self, false_and, and_false, implies_true, nI_l, ylle_t, ylle_f, xcl_t, xcl_f, z]
            exact fin
        · rw [big (Or.inl c1)] at fin
          simp (disch := omega) only [xle_t, xle_f, xlt_t, xlt_f, xeq_t, xeq_f, xle0_t, xle0_f, xlt0_f, x0lt_t, x0lt_f, x0le_t, xeq0_t, xeq0_f, xin, xem_f, xme_f, xlem_f, xlm_f, xml_t, xmle_t, nI_clamp, nI_add, pk_mul, pk_sub, zI_s, zI_k, zI_o, zL_s, zL_k, zL_o, zR_s, zR_k, zR_o, zIL, zIR, zIN, zLI, zLR, zLN, zRI, zRL, zRN, true_and, and_true, not_true_eq_false, not_false_eq_true, true_implies, false_implies, implies_true, forall_const, if_true, if_false, eq_self, false_and, and_false, implies_true, nI_l, ylle_t, ylle_f, xcl_t, xcl_f, z]
          exact fin
      · simp (disch := omega) only [xle_t, xle_f, xlt_t, xlt_f, xeq_t, xeq_f, xle0_t, xle0_f, xlt0_f, x0lt_t, x0lt_f, x0le_t, xeq0_t, xeq0_f, xin, xem_f, xme_f, xlem_f, xlm_f, xml_t, xmle_t, nI_clamp, nI_add, pk_mul, pk_sub, zI_s, zI_k, zI_o, zL_s, zL_k, zL_o, zR_s, zR_k, zR_o, zIL, zIR, zIN, zLI, zLR, zLN, zRI, zRL, zRN, true_and, and_true, not_true_eq_false, not_false_eq_true, true_implies, false_implies, implies_true, forall_const, if_true, if_false, eq_self, false_and, and_false, implies_true, nI_l, ylle_t, ylle_f, xcl_t, xcl_f, z]
        exact new _
theorem n_tld {C : CE} {S T : Nat} (hr : zRf h) (hA : cIn C (h.1 112) 0) (hC : cOK C) (hS : wSet C S) (hTb : T < 2 ^ 31) (hd : 9 ≤ d) (kk : ∀ h', zRf h' → mY (zsI h 111 39 (nI T)) h' → Q (some (.inl (bI (wTm C S out T)))) h') : Con mX11_isTold d 0 0 [.inr (.inr 111), .inl (nI S), .inl (bI out), .inl (nI T)] h Q := by
  refine u_X11_isTold (d1' := d - 1) hr (by omega) ?_
  refine n_sk4 (T := T) (zRf_I (zRf_I hr _ _ _) _ _ _) ?_ hC hS (by omega) (by simp (disch := omega) only [xle_t, xle_f, xlt_t, xlt_f, xeq_t, xeq_f, xle0_t, xle0_f, xlt0_f, x0lt_t, x0lt_f, x0le_t, xeq0_t, xeq0_f, xin, xem_f, xme_f, xlem_f, xlm_f, xml_t, xmle_t, nI_clamp, nI_add, pk_mul, pk_sub, zI_s, zI_k, zI_o, zL_s, zL_k, zL_o, zR_s, zR_k, zR_o, zIL, zIR, zIN, zLI, zLR, zLN, zRI, zRL, zRN, true_and, and_true, not_true_eq_false, not_false_eq_true, true_implies, false_implies, implies_true, forall_const, if_true, if_false, eq_self, false_and, and_false, implies_true, nI_l, ylle_t, ylle_f, xcl_t, xcl_f]) hTb (by simp (disch := omega) only [xle_t, xle_f, xlt_t, xlt_f, xeq_t, xeq_f, xle0_t, xle0_f, xlt0_f, x0lt_t, x0lt_f, x0le_t, xeq0_t, xeq0_f, xin, xem_f, xme_f, xlem_f, xlm_f, xml_t, xmle_t, nI_clamp, nI_add, pk_mul, pk_sub, zI_s, zI_k, zI_o, zL_s, zL_k, zL_o, zR_s, zR_k, zR_o, zIL, zIR, zIN, zLI, zLR, zLN, zRI, zRL, zRN, true_and, and_true, not_true_eq_false, not_false_eq_true, true_implies, false_implies, implies_true, forall_const, if_true, if_false, eq_self, false_and, and_false, implies_true, nI_l, ylle_t, ylle_f, xcl_t, xcl_f]) (fun h1 r1 f1 e41 => ?_)
  · rw [zI_o _ _ _ (by omega), zI_o _ _ _ (by omega)]
    exact hA
  · rw [sU_some, Option.isSome_none, Bool.false_or] at e41
    have e41' : h1.1 111 41 = bI (wTm C S out T) := e41
    have y : mY (zsI h 111 39 (nI T)) h1 := mY.trans ⟨zF_I _ _ _ (by omega), fun k hk => zI_k _ _ _ (by omega)⟩ f1
    have fin := kk h1 r1 y
    refine u_X11_isTold_17 r1 ?_
    cases hf : wTm C S out T with
    | true =>
      rw [hf, show bI true = nI 1 from rfl] at e41' fin
      simp (disch := omega) only [xle_t, xle_f, xlt_t, xlt_f, xeq_t, xeq_f, xle0_t, xle0_f, xlt0_f, x0lt_t, x0lt_f, x0le_t, xeq0_t, xeq0_f, xin, xem_f, xme_f, xlem_f, xlm_f, xml_t, xmle_t, nI_clamp, nI_add, pk_mul, pk_sub, zI_s, zI_k, zI_o, zL_s, zL_k, zL_o, zR_s, zR_k, zR_o, zIL, zIR, zIN, zLI, zLR, zLN, zRI, zRL, zRN, true_and, and_true, not_true_eq_false, not_false_eq_true, true_implies, false_implies, implies_true, forall_const, if_true, if_false, eq_self, false_and, and_false, implies_true, nI_l, ylle_t, ylle_f, xcl_t, xcl_f, e41']
      exact fin
    | false =>
      rw [hf, show bI false = nI 0 from rfl] at e41' fin
      simp (disch := omega) only [xle_t, xle_f, xlt_t, xlt_f, xeq_t, xeq_f, xle0_t, xle0_f, xlt0_f, x0lt_t, x0lt_f, x0le_t, xeq0_t, xeq0_f, xin, xem_f, xme_f, xlem_f, xlm_f, xml_t, xmle_t, nI_clamp, nI_add, pk_mul, pk_sub, zI_s, zI_k, zI_o, zL_s, zL_k, zL_o, zR_s, zR_k, zR_o, zIL, zIR, zIN, zLI, zLR, zLN, zRI, zRL, zRN, true_and, and_true, not_true_eq_false, not_false_eq_true, true_implies, false_implies, implies_true, forall_const, if_true, if_false, eq_self, false_and, and_false, implies_true, nI_l, ylle_t, ylle_f, xcl_t, xcl_f, e41']
      exact fin
def gCan (B : BK) (x : Int32) (out : Bool) (t : Int32) : Int32 := gSet B.1 4 x (fun S => gT1 t (fun T => bI (wTm B.1 S out T)))
theorem o_can {x t : Int32} (hr : zRf h) (hA : bAt B h 15) (hB : bOK B) (m0 : wMk B.1 false 98 h) (m1 : wMk B.1 true 100 h) (hd : 27 ≤ d) (kk : ∀ h', zRf h' → cY 62 h h' → Q (some (.inl (gCan B x out t))) h') : Con mX10_can d 0 0 [.inr (.inr 1), .inl x, .inl (bI out), .inl t] h Q := by
  unfold gCan at kk
  refine u_X10_can (d1' := d - 1) hr (by omega) ?_
  refine c_ist hr hA.c16 hB.1 (by omega) (by omega) ?_ ?_
  · intro z
    rw [gSet_0 z] at kk
    refine u_X10_can_6 (d1' := d - 1) hr (by omega) ?_
    simp (disch := omega) only [xle_t, xle_f, xlt_t, xlt_f, xeq_t, xeq_f, xle0_t, xle0_f, xlt0_f, x0lt_t, x0lt_f, x0le_t, xeq0_t, xeq0_f, xin, xem_f, xme_f, xlem_f, xlm_f, xml_t, xmle_t, nI_clamp, nI_add, pk_mul, pk_sub, zI_s, zI_k, zI_o, zL_s, zL_k, zL_o, zR_s, zR_k, zR_o, zIL, zIR, zIN, zLI, zLR, zLN, zRI, zRL, zRN, true_and, and_true, not_true_eq_false, not_false_eq_true, true_implies, false_implies, implies_true, forall_const, if_true, if_false, eq_self, false_and, and_false, implies_true, nI_l, ylle_t, ylle_f, xcl_t, xcl_f]
    exact kk h hr zF.rfl
  · intro S z e hS _
    rw [gSet_1 z] at kk
    refine u_X10_can_6 (d1' := d - 1) hr (by omega) ?_
    rcases pos_c t with t0 | ⟨T, t0, t1, rfl⟩
    · rw [gT1_0 t0] at kk
      simp (disch := omega) only [xle_t, xle_f, xlt_t, xlt_f, xeq_t, xeq_f, xle0_t, xle0_f, xlt0_f, x0lt_t, x0lt_f, x0le_t, xeq0_t, xeq0_f, xin, xem_f, xme_f, xlem_f, xlm_f, xml_t, xmle_t, nI_clamp, nI_add, pk_mul, pk_sub, zI_s, zI_k, zI_o, zL_s, zL_k, zL_o, zR_s, zR_k, zR_o, zIL, zIR, zIN, zLI, zLR, zLN, zRI, zRL, zRN, true_and, and_true, not_true_eq_false, not_false_eq_true, true_implies, false_implies, implies_true, forall_const, if_true, if_false, eq_self, false_and, and_false, implies_true, nI_l, ylle_t, ylle_f, xcl_t, xcl_f, t0]
      exact kk h hr zF.rfl
    · rw [gT1_1 t0 t1] at kk
      simp (disch := omega) only [xle_t, xle_f, xlt_t, xlt_f, xeq_t, xeq_f, xle0_t, xle0_f, xlt0_f, x0lt_t, x0lt_f, x0le_t, xeq0_t, xeq0_f, xin, xem_f, xme_f, xlem_f, xlm_f, xml_t, xmle_t, nI_clamp, nI_add, pk_mul, pk_sub, zI_s, zI_k, zI_o, zL_s, zL_k, zL_o, zR_s, zR_k, zR_o, zIL, zIR, zIN, zLI, zLR, zLN, zRI, zRL, zRN, true_and, and_true, not_true_eq_false, not_false_eq_true, true_implies, false_implies, implies_true, forall_const, if_true, if_false, eq_self, false_and, and_false, implies_true, nI_l, ylle_t, ylle_f, xcl_t, xcl_f, e]
      refine c_tld hr hA hB hS t0 t1 m0 m1 (by omega) (fun h1 r1 f1 => ?_)
      refine u_X10_can_24 ?_
      have fin := kk h1 r1 f1
      cases hf : wTm B.1 S out T with
      | true =>
        rw [hf] at fin
        rw [show bI true = nI 1 from rfl] at fin ⊢
        simp (disch := omega) only [xle_t, xle_f, xlt_t, xlt_f, xeq_t, xeq_f, xle0_t, xle0_f, xlt0_f, x0lt_t, x0lt_f, x0le_t, xeq0_t, xeq0_f, xin, xem_f, xme_f, xlem_f, xlm_f, xml_t, xmle_t, nI_clamp, nI_add, pk_mul, pk_sub, zI_s, zI_k, zI_o, zL_s, zL_k, zL_o, zR_s, zR_k, zR_o, zIL, zIR, zIN, zLI, zLR, zLN, zRI, zRL, zRN, true_and, and_true, not_true_eq_false, not_false_eq_true, true_implies, false_implies, implies_true, forall_const, if_true, if_false, eq_self, false_and, and_false, implies_true, nI_l, ylle_t, ylle_f, xcl_t, xcl_f]
        exact fin
      | false =>
        rw [hf] at fin
        rw [show bI false = nI 0 from rfl] at fin ⊢
        simp (disch := omega) only [xle_t, xle_f, xlt_t, xlt_f, xeq_t, xeq_f, xle0_t, xle0_f, xlt0_f, x0lt_t, x0lt_f, x0le_t, xeq0_t, xeq0_f, xin, xem_f, xme_f, xlem_f, xlm_f, xml_t, xmle_t, nI_clamp, nI_add, pk_mul, pk_sub, zI_s, zI_k, zI_o, zL_s, zL_k, zL_o, zR_s, zR_k, zR_o, zIL, zIR, zIN, zLI, zLR, zLN, zRI, zRL, zRN, true_and, and_true, not_true_eq_false, not_false_eq_true, true_implies, false_implies, implies_true, forall_const, if_true, if_false, eq_self, false_and, and_false, implies_true, nI_l, ylle_t, ylle_f, xcl_t, xcl_f]
        exact fin
theorem mK_y {h h' : MH} {T : Nat} (f : mY (zsI (zsI h 111 0 (nI 0)) 111 39 (nI T)) h') : mK h h' := ((mK_0 h).trans ⟨zF_I _ _ _ (by omega), zI_k _ _ _ (by decide), zI_k _ _ _ (by decide), zI_k _ _ _ (by decide), zI_k _ _ _ (by decide)⟩).trans f.k
theorem n_can {x t : Int32} (hr : zRf h) (hA : bIn B (h.1 112) 0) (hB : bOK B) (hd : 12 ≤ d) (kk : ∀ h', zRf h' → mK h h' → Q (some (.inl (gCan B x out t))) h') : Con mX11_can d 0 0 [.inr (.inr 111), .inl x, .inl (bI out), .inl t] h Q := by
  unfold gCan at kk
  refine u_X11_can (d1' := d - 1) hr (by omega) ?_
  have hA0 : cIn B.1 ((zsI h 111 0 (nI 0)).1 112) 0 := by rw [zI_o _ _ _ (by omega)]; exact hA.1
  refine n_ist (zRf_I hr _ _ _) hA0 hB.1 (by omega) ?_ ?_
  · intro z
    rw [gSet_0 z] at kk
    refine u_X11_can_10 (d1' := d - 1) (zRf_I hr _ _ _) (by omega) ?_
    simp (disch := omega) only [xle_t, xle_f, xlt_t, xlt_f, xeq_t, xeq_f, xle0_t, xle0_f, xlt0_f, x0lt_t, x0lt_f, x0le_t, xeq0_t, xeq0_f, xin, xem_f, xme_f, xlem_f, xlm_f, xml_t, xmle_t, nI_clamp, nI_add, pk_mul, pk_sub, zI_s, zI_k, zI_o, zL_s, zL_k, zL_o, zR_s, zR_k, zR_o, zIL, zIR, zIN, zLI, zLR, zLN, zRI, zRL, zRN, true_and, and_true, not_true_eq_false, not_false_eq_true, true_implies, false_implies, implies_true, forall_const, if_true, if_false, eq_self, false_and, and_false, implies_true, nI_l, ylle_t, ylle_f, xcl_t, xcl_f]
    exact kk _ hr (mK_0 h)
  · intro S z e hS _
    rw [gSet_1 z] at kk
    refine u_X11_can_10 (d1' := d - 1) (zRf_I hr _ _ _) (by omega) ?_
    rcases pos_c t with t0 | ⟨T, t0, t1, rfl⟩
    · rw [gT1_0 t0] at kk
      simp (disch := omega) only [xle_t, xle_f, xlt_t, xlt_f, xeq_t, xeq_f, xle0_t, xle0_f, xlt0_f, x0lt_t, x0lt_f, x0le_t, xeq0_t, xeq0_f, xin, xem_f, xme_f, xlem_f, xlm_f, xml_t, xmle_t, nI_clamp, nI_add, pk_mul, pk_sub, zI_s, zI_k, zI_o, zL_s, zL_k, zL_o, zR_s, zR_k, zR_o, zIL, zIR, zIN, zLI, zLR, zLN, zRI, zRL, zRN, true_and, and_true, not_true_eq_false, not_false_eq_true, true_implies, false_implies, implies_true, forall_const, if_true, if_false, eq_self, false_and, and_false, implies_true, nI_l, ylle_t, ylle_f, xcl_t, xcl_f, t0]
      exact kk _ hr (mK_0 h)
    · rw [gT1_1 t0 t1] at kk
      simp (disch := omega) only [xle_t, xle_f, xlt_t, xlt_f, xeq_t, xeq_f, xle0_t, xle0_f, xlt0_f, x0lt_t, x0lt_f, x0le_t, xeq0_t, xeq0_f, xin, xem_f, xme_f, xlem_f, xlm_f, xml_t, xmle_t, nI_clamp, nI_add, pk_mul, pk_sub, zI_s, zI_k, zI_o, zL_s, zL_k, zL_o, zR_s, zR_k, zR_o, zIL, zIR, zIN, zLI, zLR, zLN, zRI, zRL, zRN, true_and, and_true, not_true_eq_false, not_false_eq_true, true_implies, false_implies, implies_true, forall_const, if_true, if_false, eq_self, false_and, and_false, implies_true, nI_l, ylle_t, ylle_f, xcl_t, xcl_f, e]
      refine n_tld (zRf_I hr _ _ _) hA0 hB.1 hS t1 (by omega) (fun h1 r1 f1 => ?_)
      refine u_X11_can_28 ?_
      have fin := kk h1 r1 (mK_y f1)
      cases hf : wTm B.1 S out T with
      | true =>
        rw [hf] at fin
        rw [show bI true = nI 1 from rfl] at fin ⊢
        simp (disch := omega) only [xle_t, xle_f, xlt_t, xlt_f, xeq_t, xeq_f, xle0_t, xle0_f, xlt0_f, x0lt_t, x0lt_f, x0le_t, xeq0_t, xeq0_f, xin, xem_f, xme_f, xlem_f, xlm_f, xml_t, xmle_t, nI_clamp, nI_add, pk_mul, pk_sub, zI_s, zI_k, zI_o, zL_s, zL_k, zL_o, zR_s, zR_k, zR_o, zIL, zIR, zIN, zLI, zLR, zLN, zRI, zRL, zRN, true_and, and_true, not_true_eq_false, not_false_eq_true, true_implies, false_implies, implies_true, forall_const, if_true, if_false, eq_self, false_and, and_false, implies_true, nI_l, ylle_t, ylle_f, xcl_t, xcl_f]
        exact fin
      | false =>
        rw [hf] at fin
        rw [show bI false = nI 0 from rfl] at fin ⊢
        simp (disch := omega) only [xle_t, xle_f, xlt_t, xlt_f, xeq_t, xeq_f, xle0_t, xle0_f, xlt0_f, x0lt_t, x0lt_f, x0le_t, xeq0_t, xeq0_f, xin, xem_f, xme_f, xlem_f, xlm_f, xml_t, xmle_t, nI_clamp, nI_add, pk_mul, pk_sub, zI_s, zI_k, zI_o, zL_s, zL_k, zL_o, zR_s, zR_k, zR_o, zIL, zIR, zIN, zLI, zLR, zLN, zRI, zRL, zRN, true_and, and_true, not_true_eq_false, not_false_eq_true, true_implies, false_implies, implies_true, forall_const, if_true, if_false, eq_self, false_and, and_false, implies_true, nI_l, ylle_t, ylle_f, xcl_t, xcl_f]
        exact fin
end OPS
