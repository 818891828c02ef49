/-! ===== which sets of candles ===== -/
theorem ct6 : ∀ S, S < 256 → (((((((((nI S) - ((((nI S).toUInt32 >>> ((nI 1).toUInt32 &&& Int32.toUInt32 31)).toInt32) &&& (1431655765 : Int32))) &&& (858993459 : Int32)) + (((((nI S) - ((((nI S).toUInt32 >>> ((nI 1).toUInt32 &&& Int32.toUInt32 31)).toInt32) &&& (1431655765 : Int32))).toUInt32 >>> ((nI 2).toUInt32 &&& Int32.toUInt32 31)).toInt32) &&& (858993459 : Int32))) + ((((((nI S) - ((((nI S).toUInt32 >>> ((nI 1).toUInt32 &&& Int32.toUInt32 31)).toInt32) &&& (1431655765 : Int32))) &&& (858993459 : Int32)) + (((((nI S) - ((((nI S).toUInt32 >>> ((nI 1).toUInt32 &&& Int32.toUInt32 31)).toInt32) &&& (1431655765 : Int32))).toUInt32 >>> ((nI 2).toUInt32 &&& Int32.toUInt32 31)).toInt32) &&& (858993459 : Int32))).toUInt32 >>> ((nI 4).toUInt32 &&& Int32.toUInt32 31)).toInt32)) &&& (252645135 : Int32)) + ((((((((nI S) - ((((nI S).toUInt32 >>> ((nI 1).toUInt32 &&& Int32.toUInt32 31)).toInt32) &&& (1431655765 : Int32))) &&& (858993459 : Int32)) + (((((nI S) - ((((nI S).toUInt32 >>> ((nI 1).toUInt32 &&& Int32.toUInt32 31)).toInt32) &&& (1431655765 : Int32))).toUInt32 >>> ((nI 2).toUInt32 &&& Int32.toUInt32 31)).toInt32) &&& (858993459 : Int32))) + ((((((nI S) - ((((nI S).toUInt32 >>> ((nI 1).toUInt32 &&& Int32.toUInt32 31)).toInt32) &&& (1431655765 : Int32))) &&& (858993459 : Int32)) + (((((nI S) - ((((nI S).toUInt32 >>> ((nI 1).toUInt32 &&& Int32.toUInt32 31)).toInt32) &&& (1431655765 : Int32))).toUInt32 >>> ((nI 2).toUInt32 &&& Int32.toUInt32 31)).toInt32) &&& (858993459 : Int32))).toUInt32 >>> ((nI 4).toUInt32 &&& Int32.toUInt32 31)).toInt32)) &&& (252645135 : Int32)).toUInt32 >>> ((nI 8).toUInt32 &&& Int32.toUInt32 31)).toInt32)) + (((((((((nI S) - ((((nI S).toUInt32 >>> ((nI 1).toUInt32 &&& Int32.toUInt32 31)).toInt32) &&& (1431655765 : Int32))) &&& (858993459 : Int32)) + (((((nI S) - ((((nI S).toUInt32 >>> ((nI 1).toUInt32 &&& Int32.toUInt32 31)).toInt32) &&& (1431655765 : Int32))).toUInt32 >>> ((nI 2).toUInt32 &&& Int32.toUInt32 31)).toInt32) &&& (858993459 : Int32))) + ((((((nI S) - ((((nI S).toUInt32 >>> ((nI 1).toUInt32 &&& Int32.toUInt32 31)).toInt32) &&& (1431655765 : Int32))) &&& (858993459 : Int32)) + (((((nI S) - ((((nI S).toUInt32 >>> ((nI 1).toUInt32 &&& Int32.toUInt32 31)).toInt32) &&& (1431655765 : Int32))).toUInt32 >>> ((nI 2).toUInt32 &&& Int32.toUInt32 31)).toInt32) &&& (858993459 : Int32))).toUInt32 >>> ((nI 4).toUInt32 &&& Int32.toUInt32 31)).toInt32)) &&& (252645135 : Int32)) + ((((((((nI S) - ((((nI S).toUInt32 >>> ((nI 1).toUInt32 &&& Int32.toUInt32 31)).toInt32) &&& (1431655765 : Int32))) &&& (858993459 : Int32)) + (((((nI S) - ((((nI S).toUInt32 >>> ((nI 1).toUInt32 &&& Int32.toUInt32 31)).toInt32) &&& (1431655765 : Int32))).toUInt32 >>> ((nI 2).toUInt32 &&& Int32.toUInt32 31)).toInt32) &&& (858993459 : Int32))) + ((((((nI S) - ((((nI S).toUInt32 >>> ((nI 1).toUInt32 &&& Int32.toUInt32 31)).toInt32) &&& (1431655765 : Int32))) &&& (858993459 : Int32)) + (((((nI S) - ((((nI S).toUInt32 >>> ((nI 1).toUInt32 &&& Int32.toUInt32 31)).toInt32) &&& (1431655765 : Int32))).toUInt32 >>> ((nI 2).toUInt32 &&& Int32.toUInt32 31)).toInt32) &&& (858993459 : Int32))).toUInt32 >>> ((nI 4).toUInt32 &&& Int32.toUInt32 31)).toInt32)) &&& (252645135 : Int32)).toUInt32 >>> ((nI 8).toUInt32 &&& Int32.toUInt32 31)).toInt32)).toUInt32 >>> ((nI 16).toUInt32 &&& Int32.toUInt32 31)).toInt32)) &&& (nI 63)) = nI (wN S 8) := by decide +kernel
theorem c_bit6 {S d : Nat} {h : MH} {Q : Option MV → MH → Prop} (hS : S < 256) (kk : Q (some (.inl (nI (wN S 8)))) h) : Con mJ6_bitCount_0f7a4 d 0 0 [.inl (nI S)] h Q := by
  refine Con.intro (by decide +kernel) (Nat.le_of_ble_eq_true rfl) ?_
  refine bJ6_bitCount_0f7a4_0 ?_
  rw [ct6 S hS]
  exact kk
def wsx (C : CE) (k : Nat) (x : Int32) : Option Nat := if x = nI x.toNatClampNeg ∧ 0 < x.toNatClampNeg ∧ x.toNatClampNeg < 2 ^ C.1 ∧ wN x.toNatClampNeg 8 ≤ k then some x.toNatClampNeg else none
theorem p2_8 {n : Nat} (h : n ≤ 8) : 2 ^ n ≤ 256 := Nat.pow_le_pow_right (by decide) h
theorem wsx_n {C : CE} {k S : Nat} (hC : cOK C) (h0 : 0 < S) (h1 : S < 2 ^ C.1) : wsx C k (nI S) = if wN S 8 ≤ k then some S else none := by
  have := p2_8 hC.1
  unfold wsx
  rw [nI_clamp (by omega)]
  by_cases z : wN S 8 ≤ k
  · rw [if_pos ⟨rfl, h0, h1, z⟩, if_pos z]
  · rw [if_neg (fun q => z q.2.2.2), if_neg z]
theorem wsx_c {C : CE} (k : Nat) (x : Int32) (hC : cOK C) : (wsx C k x = none ∧ (x ≤ 0 ∨ nI (2 ^ C.1) ≤ x)) ∨ ∃ S, 0 < S ∧ S < 2 ^ C.1 ∧ x = nI S ∧ ((wsx C k x = none ∧ k < wN S 8) ∨ (wsx C k x = some S ∧ wN S 8 ≤ k)) := by
  have b8 := p2_8 hC.1
  rcases pk_ix x (n := 2 ^ C.1) (by omega) with z | z | ⟨S, z1, z2⟩
  · refine Or.inl ⟨if_neg (fun q => ?_), Or.inl (Int32.le_of_lt z)⟩
    have e := q.1
    have l := q.2.2.1
    generalize x.toNatClampNeg = S at e l
    rw [e] at z
    exact absurd z (nI_pos (by omega))
  · refine Or.inl ⟨if_neg (fun q => ?_), Or.inr z⟩
    have e := q.1
    have l := q.2.2.1
    generalize x.toNatClampNeg = S at e l
    rw [e] at z
    exact absurd z (nI_ge l (by omega))
  · rcases Nat.eq_zero_or_pos S with s0 | s0
    · refine Or.inl ⟨?_, Or.inl ?_⟩
      · rw [z2, s0]
        refine if_neg (fun q => ?_)
        have := q.2.1
        rw [nI_clamp (by omega)] at this
        omega
      · rw [z2, s0]; decide
    · refine Or.inr ⟨S, s0, z1, z2, ?_⟩
      rw [z2, wsx_n hC s0 z1]
      by_cases y : wN S 8 ≤ k
      · rw [if_pos y]; exact Or.inr ⟨rfl, y⟩
      · rw [if_neg y]; exact Or.inl ⟨rfl, by omega⟩
theorem c_ist {C : CE} {k : Nat} {x : Int32} {h : MH} {d : Nat} {Q : Option MV → MH → Prop} (hr : zRf h) (hA : cAt C h 16) (hC : cOK C) (hk : k ≤ 4) (hd : 1 ≤ d) (k0 : wsx C k x = none → Q (some (.inl (nI 0))) h) (k1 : ∀ S, wsx C k x = some S → x = nI S → wSet C S → wN S 8 ≤ k → Q (some (.inl (nI 1))) h) : Con mX10_isSet d 0 0 [.inr (.inr 1), .inl x, .inl (nI k)] h Q := by
  have b8 := p2_8 hC.1
  have n8 := hC.1
  have e16 := hA.1
  have es : nI 1 <<< (nI C.1 &&& 31) = nI (2 ^ C.1) := by
    rw [pk_shlN _ C.1 (s_l C.1 (by omega)) (by omega), Nat.one_mul]
  refine u_X10_isSet (d1' := 0) hr (by omega) ?_
  rw [e16, es]
  rcases wsx_c k x hC with ⟨z, y⟩ | ⟨S, s0, s1, rfl, y⟩
  · rcases y with y | y
    · exact ⟨fun _ => k0 z, fun q => absurd y q⟩
    · exact ⟨fun _ => k0 z, fun _ => ⟨fun _ => k0 z, fun q => absurd y q⟩⟩
  · have nb : wN S 8 ≤ 8 := fb_ct_le _ _
    simp (disch := omega) only [xle_t, xle_f, xlt_t, xlt_f, xeq_t, xeq_f, xle0_t, xle0_f, xlt0_f, x0lt_t, x0lt_f, x0le_t, xeq0_t, xeq0_f, xin, xem_f, xme_f, xlem_f, xlm_f, xml_t, xmle_t, nI_clamp, nI_add, pk_mul, pk_sub, zI_s, zI_k, zI_o, zL_s, zL_k, zL_o, zR_s, zR_k, zR_o, zIL, zIR, zIN, zLI, zLR, zLN, zRI, zRL, zRN, true_and, and_true, not_true_eq_false, not_false_eq_true, true_implies, false_implies, implies_true, forall_const, if_true, if_false, eq_self, false_and, and_false, implies_true, nI_l, ylle_t, ylle_f, xcl_t, xcl_f]
    refine c_bit6 (by omega) ?_
    refine u_X10_isSet_24 ?_
    rcases y with ⟨z, y⟩ | ⟨z, y⟩
    · simp (disch := omega) only [xle_t, xle_f, xlt_t, xlt_f, xeq_t, xeq_f, xle0_t, xle0_f, xlt0_f, x0lt_t, x0lt_f, x0le_t, xeq0_t, xeq0_f, xin, xem_f, xme_f, xlem_f, xlm_f, xml_t, xmle_t, nI_clamp, nI_add, pk_mul, pk_sub, zI_s, zI_k, zI_o, zL_s, zL_k, zL_o, zR_s, zR_k, zR_o, zIL, zIR, zIN, zLI, zLR, zLN, zRI, zRL, zRN, true_and, and_true, not_true_eq_false, not_false_eq_true, true_implies, false_implies, implies_true, forall_const, if_true, if_false, eq_self, false_and, and_false, implies_true, nI_l, ylle_t, ylle_f, xcl_t, xcl_f]
      exact k0 z
    · simp (disch := omega) only [xle_t, xle_f, xlt_t, xlt_f, xeq_t, xeq_f, xle0_t, xle0_f, xlt0_f, x0lt_t, x0lt_f, x0le_t, xeq0_t, xeq0_f, xin, xem_f, xme_f, xlem_f, xlm_f, xml_t, xmle_t, nI_clamp, nI_add, pk_mul, pk_sub, zI_s, zI_k, zI_o, zL_s, zL_k, zL_o, zR_s, zR_k, zR_o, zIL, zIR, zIN, zLI, zLR, zLN, zRI, zRL, zRN, true_and, and_true, not_true_eq_false, not_false_eq_true, true_implies, false_implies, implies_true, forall_const, if_true, if_false, eq_self, false_and, and_false, implies_true, nI_l, ylle_t, ylle_f, xcl_t, xcl_f]
      exact k1 S z rfl ⟨s0, s1, by omega⟩ y
theorem shv (x : Int32) {c : Nat} (hc : c < 31) : (x >>> (nI c &&& 31)) &&& nI 1 = nI (if bt x c = true then 1 else 0) := by
  obtain ⟨j, j1, j2⟩ := pk_andE (x >>> (nI c &&& 31)) (m := nI 1) 1 (by decide)
  have e := xbit x hc
  rw [j2] at e ⊢
  rw [xeq0_i (by omega)] at e
  cases hb : bt x c with
  | false =>
    rw [hb] at e
    have : j = 0 := by rw [e]
    rw [this]; rfl
  | true =>
    rw [hb] at e
    have : ¬ j = 0 := by rw [e]; decide
    rw [show j = 1 by omega]; rfl
theorem bt_n (S i : Nat) (hS : S < 2 ^ 31) : bt (nI S) i = S.testBit i := by
  unfold bt
  show (BitVec.ofNat 32 S).getLsbD i = _
  rw [BitVec.getLsbD_ofNat]
  by_cases z : i < 32
  · rw [decide_eq_true z, Bool.true_and]
  · rw [decide_eq_false z, Bool.false_and, Nat.testBit_lt_two_pow (Nat.lt_of_lt_of_le hS (Nat.pow_le_pow_right (by decide) (by omega)))]
def btN (x : Int32) (c : Nat) : Nat := fb_ct (fun i => bt x i) c
theorem btN_n {S c : Nat} (hS : S < 2 ^ 31) : btN (nI S) c = wN S c := fb_ct_cong (fun k _ => bt_n S k hS)
theorem n_bts {x : Int32} {h : MH} {d : Nat} {Q : Option MV → MH → Prop} (kk : Q (some (.inl (nI (btN x 8)))) h) : Con mX11_bitsOf d 0 0 [.inl x] h Q := by
  refine u_X11_bitsOf ?_
  have L : ∀ m c, c + m = 8 → J mX11_bitsOf d 0 0 Q 0 0 4 [some (.inl x), some (.inl (nI (btN x c))), some (.inl (nI c))] [] h := by
    intro m
    induction m with
    | zero =>
      intro c hc
      obtain rfl : c = 8 := by omega
      refine u_X11_bitsOf_4 ?_
      simp (disch := omega) only [xle_t, xle_f, xlt_t, xlt_f, xeq_t, xeq_f, xle0_t, xle0_f, xlt0_f, x0lt_t, x0lt_f, x0le_t, xeq0_t, xeq0_f, xin, xem_f, xme_f, xlem_f, xlm_f, xml_t, xmle_t, nI_clamp, nI_add, pk_mul, pk_sub, zI_s, zI_k, zI_o, zL_s, zL_k, zL_o, zR_s, zR_k, zR_o, zIL, zIR, zIN, zLI, zLR, zLN, zRI, zRL, zRN, true_and, and_true, not_true_eq_false, not_false_eq_true, true_implies, false_implies, implies_true, forall_const, if_true, if_false, eq_self, false_and, and_false, implies_true, nI_l, ylle_t, ylle_f, xcl_t, xcl_f]
      exact kk
    | succ m ih =>
      intro c hc
      refine u_X11_bitsOf_4 ?_
      simp (disch := omega) only [xle_t, xle_f, xlt_t, xlt_f, xeq_t, xeq_f, xle0_t, xle0_f, xlt0_f, x0lt_t, x0lt_f, x0le_t, xeq0_t, xeq0_f, xin, xem_f, xme_f, xlem_f, xlm_f, xml_t, xmle_t, nI_clamp, nI_add, pk_mul, pk_sub, zI_s, zI_k, zI_o, zL_s, zL_k, zL_o, zR_s, zR_k, zR_o, zIL, zIR, zIN, zLI, zLR, zLN, zRI, zRL, zRN, true_and, and_true, not_true_eq_false, not_false_eq_true, true_implies, false_implies, implies_true, forall_const, if_true, if_false, eq_self, false_and, and_false, implies_true, nI_l, ylle_t, ylle_f, xcl_t, xcl_f, shv x (show c < 31 by omega)]
      exact ih (c + 1) (by omega)
  exact L 8 0 (by omega)
theorem n_ist {C : CE} {x : Int32} {h : MH} {d : Nat} {Q : Option MV → MH → Prop} (hr : zRf h) (hA : cIn C (h.1 112) 0) (hC : cOK C) (hd : 1 ≤ d) (k0 : wsx C 4 x = none → Q (some (.inl (nI 0))) h) (k1 : ∀ S, wsx C 4 x = some S → x = nI S → wSet C S → wN S 8 ≤ 4 → Q (some (.inl (nI 1))) h) : Con mX11_isSet d 0 0 [.inr (.inr 111), .inl x] h Q := by
  have b8 := p2_8 hC.1
  have n8 := hC.1
  have e0 : h.1 112 0 = nI C.1 := hA.1
  have es : nI 1 <<< (nI C.1 &&& 31) = nI (2 ^ C.1) := by
    rw [pk_shlN _ C.1 (s_l C.1 (by omega)) (by omega), Nat.one_mul]
  have p0 := Nat.two_pow_pos C.1
  refine u_X11_isSet ?_
  have L : ∀ m c, c + m = 8 → J mX11_isSet d 0 0 Q 0 0 4 [some (.inr (.inr 111)), some (.inl x), some (.inl (nI (btN x c))), some (.inl (nI c))] [] h := by
    intro m
    induction m with
    | zero =>
      intro c hc
      obtain rfl : c = 8 := by omega
      refine u_X11_isSet_4 hr hd ?_
      rw [e0, es]
      rcases wsx_c 4 x hC with ⟨z, y⟩ | ⟨S, s0, s1, rfl, y⟩
      · rcases y with y | y
        · have q1 : (lN 1 ≤ x.toInt64) = False := by
            rw [y64_lo (by omega)]
            refine eq_false (fun q => ?_)
            have := Int32.le_trans q y
            revert this; decide
          simp (disch := omega) only [xle_t, xle_f, xlt_t, xlt_f, xeq_t, xeq_f, xle0_t, xle0_f, xlt0_f, x0lt_t, x0lt_f, x0le_t, xeq0_t, xeq0_f, xin, xem_f, xme_f, xlem_f, xlm_f, xml_t, xmle_t, nI_clamp, nI_add, pk_mul, pk_sub, zI_s, zI_k, zI_o, zL_s, zL_k, zL_o, zR_s, zR_k, zR_o, zIL, zIR, zIN, zLI, zLR, zLN, zRI, zRL, zRN, true_and, and_true, not_true_eq_false, not_false_eq_true, true_implies, false_implies, implies_true, forall_const, if_true, if_false, eq_self, false_and, and_false, implies_true, nI_l, ylle_t, ylle_f, xcl_t, xcl_f, q1]
          exact k0 z
        · have q1 := y64_gt (k := 2 ^ C.1 - 1) y (by omega) (by omega)
          by_cases q2 : lN 1 ≤ x.toInt64
          · simp (disch := omega) only [xle_t, xle_f, xlt_t, xlt_f, xeq_t, xeq_f, xle0_t, xle0_f, xlt0_f, x0lt_t, x0lt_f, x0le_t, xeq0_t, xeq0_f, xin, xem_f, xme_f, xlem_f, xlm_f, xml_t, xmle_t, nI_clamp, nI_add, pk_mul, pk_sub, zI_s, zI_k, zI_o, zL_s, zL_k, zL_o, zR_s, zR_k, zR_o, zIL, zIR, zIN, zLI, zLR, zLN, zRI, zRL, zRN, true_and, and_true, not_true_eq_false, not_false_eq_true, true_implies, false_implies, implies_true, forall_const, if_true, if_false, eq_self, false_and, and_false, implies_true, nI_l, ylle_t, ylle_f, xcl_t, xcl_f, q1, q2]
            exact k0 z
          · simp (disch := omega) only [xle_t, xle_f, xlt_t, xlt_f, xeq_t, xeq_f, xle0_t, xle0_f, xlt0_f, x0lt_t, x0lt_f, x0le_t, xeq0_t, xeq0_f, xin, xem_f, xme_f, xlem_f, xlm_f, xml_t, xmle_t, nI_clamp, nI_add, pk_mul, pk_sub, zI_s, zI_k, zI_o, zL_s, zL_k, zL_o, zR_s, zR_k, zR_o, zIL, zIR, zIN, zLI, zLR, zLN, zRI, zRL, zRN, true_and, and_true, not_true_eq_false, not_false_eq_true, true_implies, false_implies, implies_true, forall_const, if_true, if_false, eq_self, false_and, and_false, implies_true, nI_l, ylle_t, ylle_f, xcl_t, xcl_f, q2]
            exact k0 z
      · rw [btN_n (by omega)]
        have nb : wN S 8 ≤ 8 := fb_ct_le _ _
        rcases y with ⟨z, y⟩ | ⟨z, y⟩
        · simp (disch := omega) only [xle_t, xle_f, xlt_t, xlt_f, xeq_t, xeq_f, xle0_t, xle0_f, xlt0_f, x0lt_t, x0lt_f, x0le_t, xeq0_t, xeq0_f, xin, xem_f, xme_f, xlem_f, xlm_f, xml_t, xmle_t, nI_clamp, nI_add, pk_mul, pk_sub, zI_s, zI_k, zI_o, zL_s, zL_k, zL_o, zR_s, zR_k, zR_o, zIL, zIR, zIN, zLI, zLR, zLN, zRI, zRL, zRN, true_and, and_true, not_true_eq_false, not_false_eq_true, true_implies, false_implies, implies_true, forall_const, if_true, if_false, eq_self, false_and, and_false, implies_true, nI_l, ylle_t, ylle_f, xcl_t, xcl_f]
          exact k0 z
        · simp (disch := omega) only [xle_t, xle_f, xlt_t, xlt_f, xeq_t, xeq_f, xle0_t, xle0_f, xlt0_f, x0lt_t, x0lt_f, x0le_t, xeq0_t, xeq0_f, xin, xem_f, xme_f, xlem_f, xlm_f, xml_t, xmle_t, nI_clamp, nI_add, pk_mul, pk_sub, zI_s, zI_k, zI_o, zL_s, zL_k, zL_o, zR_s, zR_k, zR_o, zIL, zIR, zIN, zLI, zLR, zLN, zRI, zRL, zRN, true_and, and_true, not_true_eq_false, not_false_eq_true, true_implies, false_implies, implies_true, forall_const, if_true, if_false, eq_self, false_and, and_false, implies_true, nI_l, ylle_t, ylle_f, xcl_t, xcl_f]
          exact k1 S z rfl ⟨s0, s1, by omega⟩ y
    | succ m ih =>
      intro c hc
      refine u_X11_isSet_4 hr hd ?_
      simp (disch := omega) only [xle_t, xle_f, xlt_t, xlt_f, xeq_t, xeq_f, xle0_t, xle0_f, xlt0_f, x0lt_t, x0lt_f, x0le_t, xeq0_t, xeq0_f, xin, xem_f, xme_f, xlem_f, xlm_f, xml_t, xmle_t, nI_clamp, nI_add, pk_mul, pk_sub, zI_s, zI_k, zI_o, zL_s, zL_k, zL_o, zR_s, zR_k, zR_o, zIL, zIR, zIN, zLI, zLR, zLN, zRI, zRL, zRN, true_and, and_true, not_true_eq_false, not_false_eq_true, true_implies, false_implies, implies_true, forall_const, if_true, if_false, eq_self, false_and, and_false, implies_true, nI_l, ylle_t, ylle_f, xcl_t, xcl_f, shv x (show c < 31 by omega)]
      exact ih (c + 1) (by omega)
  exact L 8 0 (by omega)
theorem n_few {C : CE} {x : Int32} {h : MH} {d : Nat} {Q : Option MV → MH → Prop} (hr : zRf h) (hA : cIn C (h.1 112) 0) (hC : cOK C) (hd : 2 ≤ d) (k0 : wsx C 2 x = none → Q (some (.inl (nI 0))) h) (k1 : ∀ S, wsx C 2 x = some S → x = nI S → wSet C S → wN S 8 ≤ 2 → Q (some (.inl (nI 1))) h) : Con mX11_isFew d 0 0 [.inr (.inr 111), .inl x] h Q := by
  have b8 := p2_8 hC.1
  refine u_X11_isFew (d1' := d - 1) hr (by omega) ?_
  refine n_ist hr hA hC (by omega) ?_ ?_
  · intro z
    refine u_X11_isFew_5 (d1' := d - 1) (by omega) ?_
    simp (disch := omega) only [xle_t, xle_f, xlt_t, xlt_f, xeq_t, xeq_f, xle0_t, xle0_f, xlt0_f, x0lt_t, x0lt_f, x0le_t, xeq0_t, xeq0_f, xin, xem_f, xme_f, xlem_f, xlm_f, xml_t, xmle_t, nI_clamp, nI_add, pk_mul, pk_sub, zI_s, zI_k, zI_o, zL_s, zL_k, zL_o, zR_s, zR_k, zR_o, zIL, zIR, zIN, zLI, zLR, zLN, zRI, zRL, zRN, true_and, and_true, not_true_eq_false, not_false_eq_true, true_implies, false_implies, implies_true, forall_const, if_true, if_false, eq_self, false_and, and_false, implies_true, nI_l, ylle_t, ylle_f, xcl_t, xcl_f]
    refine k0 (if_neg (fun q => ?_))
    unfold wsx at z
    rw [if_pos ⟨q.1, q.2.1, q.2.2.1, by omega⟩] at z
    cases z
  · intro S z e hS n4
    refine u_X11_isFew_5 (d1' := d - 1) (by omega) ?_
    simp (disch := omega) only [xle_t, xle_f, xlt_t, xlt_f, xeq_t, xeq_f, xle0_t, xle0_f, xlt0_f, x0lt_t, x0lt_f, x0le_t, xeq0_t, xeq0_f, xin, xem_f, xme_f, xlem_f, xlm_f, xml_t, xmle_t, nI_clamp, nI_add, pk_mul, pk_sub, zI_s, zI_k, zI_o, zL_s, zL_k, zL_o, zR_s, zR_k, zR_o, zIL, zIR, zIN, zLI, zLR, zLN, zRI, zRL, zRN, true_and, and_true, not_true_eq_false, not_false_eq_true, true_implies, false_implies, implies_true, forall_const, if_true, if_false, eq_self, false_and, and_false, implies_true, nI_l, ylle_t, ylle_f, xcl_t, xcl_f]
    refine n_bts ?_
    refine u_X11_isFew_12 ?_
    have s1 := hS.2.1
    rw [e, btN_n (by omega)]
    rcases Nat.lt_or_ge 2 (wN S 8) with y | y
    · simp (disch := omega) only [xle_t, xle_f, xlt_t, xlt_f, xeq_t, xeq_f, xle0_t, xle0_f, xlt0_f, x0lt_t, x0lt_f, x0le_t, xeq0_t, xeq0_f, xin, xem_f, xme_f, xlem_f, xlm_f, xml_t, xmle_t, nI_clamp, nI_add, pk_mul, pk_sub, zI_s, zI_k, zI_o, zL_s, zL_k, zL_o, zR_s, zR_k, zR_o, zIL, zIR, zIN, zLI, zLR, zLN, zRI, zRL, zRN, true_and, and_true, not_true_eq_false, not_false_eq_true, true_implies, false_implies, implies_true, forall_const, if_true, if_false, eq_self, false_and, and_false, implies_true, nI_l, ylle_t, ylle_f, xcl_t, xcl_f]
      refine k0 ?_
      rw [e, wsx_n hC hS.1 s1, if_neg (by omega)]
    · simp (disch := omega) only [xle_t, xle_f, xlt_t, xlt_f, xeq_t, xeq_f, xle0_t, xle0_f, xlt0_f, x0lt_t, x0lt_f, x0le_t, xeq0_t, xeq0_f, xin, xem_f, xme_f, xlem_f, xlm_f, xml_t, xmle_t, nI_clamp, nI_add, pk_mul, pk_sub, zI_s, zI_k, zI_o, zL_s, zL_k, zL_o, zR_s, zR_k, zR_o, zIL, zIR, zIN, zLI, zLR, zLN, zRI, zRL, zRN, true_and, and_true, not_true_eq_false, not_false_eq_true, true_implies, false_implies, implies_true, forall_const, if_true, if_false, eq_self, false_and, and_false, implies_true, nI_l, ylle_t, ylle_f, xcl_t, xcl_f]
      refine k1 S ?_ e hS y
      rw [e, wsx_n hC hS.1 s1, if_pos y]
