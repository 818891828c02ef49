/-! ===== along, alongs: both sides ===== -/
section AM
variable {C : CE} {S : Nat}
theorem m_gal (hC : cOK C) (hS : S < 2 ^ C.1) (hN2 : wN S 8 ≤ 2) : ∀ (m k : Nat) (G : Nat → Nat) (lit now : Nat) (S0 : Nat → Bool) (h : MH) (d : Nat) (Q : Option MV → MH → Prop), k + m ≤ 12 → aMu (aX C S 8) G ≤ m → aI (aX C S 8) G lit now → zRf h → mLy C S h → mRw (aX C S 8) k G lit h → mTb S0 (h.1 132) → m + 4 ≤ d → (∀ h', zRf h' → mFl k h h' → mTb (fun t => S0 t || mAny (aT (aX C S 8) m G lit now) t) (h'.1 132) → Q none h') → Con mX11_goesAlong d 0 0 [.inr (.inr 111), .inl (nI k), .inl (nI now)] h Q := by
  have hX := aX_ok hC hS hN2
  intro m
  induction m with
  | zero =>
    intro k G lit now S0 h d Q hk hm hI hr hL hR hK hd kk
    have nn : ∀ w, w < 16 → aS2 (aX C S 8) G (lit ||| w) 2 = none := fun w hw => by
      cases hs : aS2 (aX C S 8) G (lit ||| w) 2 with
      | none => rfl
      | some st =>
        have := (aI_ch hX hI hw hs).2
        omega
    refine m_gl (nx := fun _ _ _ => []) hC hS hN2 (by omega) hI hr hL hR hK (by omega) ?_ (fun h' r' f' K' => kk h' r' f' ?_)
    · intro w st hw hs
      rw [nn w hw] at hs
      cases hs
    · have e : (List.range' 0 16).flatMap (aBr (aX C S 8) (fun _ _ _ => []) G lit now) = [] := by
        rw [List.flatMap_eq_nil_iff]
        intro w hw
        have hw16 : w < 16 := by
          rw [List.mem_range'_1] at hw
          omega
        by_cases ok : aOk (aX C S 8) G lit w = true
        · rw [aBr_y ok, aCh_n (nn w hw16)]
        · exact aBr_n ok
      rw [e] at K'
      exact K'
  | succ m ih =>
    intro k G lit now S0 h d Q hk hm hI hr hL hR hK hd kk
    refine m_gl (nx := aT (aX C S 8) m) hC hS hN2 (by omega) hI hr hL hR hK (by omega) ?_ kk
    intro w st hw hs S' h' Q' r' L' R' K' kq
    obtain ⟨hI', hm'⟩ := aI_ch hX hI hw hs
    exact ih (k + 1) _ _ _ S' h' (d - 1) Q' (by omega) (by omega) hI' r' L' R' K' (by omega) kq
end AM
section OPS
variable {B : BK} {h : MH} {d : Nat} {Q : Option MV → MH → Prop}
def mZ (h h' : MH) : Prop := zF (fun a => a ≠ 111 ∧ a ≠ 127 ∧ a ≠ 132 ∧ a ≠ 136 ∧ a ≠ 137 ∧ a ≠ 138) h h' ∧ ∀ k, k ≠ 38 → h'.1 111 k = h.1 111 k
theorem mZ.trans {h h1 h2 : MH} (a : mZ h h1) (b : mZ h1 h2) : mZ h h2 := ⟨a.1.trans b.1, fun k q => (b.2 k q).trans (a.2 k q)⟩
theorem mZ.k {h h' : MH} (f : mZ h h') : mK h h' := ⟨f.1.weak (fun a q => by omega), f.2 5 (by omega), f.2 13 (by omega), f.2 14 (by omega), f.2 28 (by omega)⟩
theorem n_lal {C : CE} {S : Nat} (hr : zRf h) (hA : cIn C (h.1 112) 0) (hC : cOK C) (hS : S < 2 ^ C.1) (hN2 : wN S 8 ≤ 2) (hd : 18 ≤ d) (kk : ∀ h', zRf h' → mZ h h' → mTb (aTm C S) (h'.1 132) → Q none h') : Con mX11_laysAlong d 0 0 [.inr (.inr 111), .inl (nI S)] h Q := by
  have n8 := hC.1
  have hX := aX_ok hC hS hN2
  have S256 : S < 256 := Nat.lt_of_lt_of_le hS (Nat.pow_le_pow_right (by decide) n8 : 2 ^ C.1 ≤ 2 ^ 8)
  refine u_X11_laysAlong ?_
  have L : ∀ m i, i + m = 11600 → ∀ h', zRf h' → zF (fun a => a ≠ 132) h h' → (∀ j, j < i → h'.1 132 j = nI 0) → J mX11_laysAlong d 0 0 Q 0 0 2 [some (.inr (.inr 111)), some (.inl (nI S)), some (.inl (nI i))] [] h' := by
    intro m
    induction m with
    | zero =>
      intro i hi h' r' f' g'
      refine u_X11_laysAlong_2 r' ?_
      simp (disch := omega) only [xle_t, xle_f, xlt_t, xlt_f, xeq_t, xeq_f, xle0_t, xle0_f, xlt0_f, x0lt_t, x0lt_f, x0le_t, xeq0_t, xeq0_f, xin, xem_f, xme_f, xlem_f, xlm_f, xml_t, xmle_t, nI_clamp, nI_add, pk_mul, pk_sub, zI_s, zI_k, zI_o, zL_s, zL_k, zL_o, zR_s, zR_k, zR_o, zIL, zIR, zIN, zLI, zLR, zLN, zRI, zRL, zRN, true_and, and_true, not_true_eq_false, not_false_eq_true, true_implies, false_implies, implies_true, forall_const, if_true, if_false, eq_self, false_and, and_false, implies_true, nI_l, ylle_t, ylle_f, xcl_t, xcl_f]
      have L2 : ∀ m c, c + m = 8 → ∀ h2, zRf h2 → mZ h h2 → h2.1 132 = h'.1 132 → h2.1 111 38 = nI (wN S c) → (∀ j, j < wN S c → h2.1 127 j = nI (aMb S c j) ∧ h2.1 136 j = nI 0 ∧ h2.1 137 j = nI 0 ∧ h2.1 138 j = nI 0) → J mX11_laysAlong d 0 0 Q 0 0 31 [some (.inr (.inr 111)), some (.inl (nI S)), some (.inl (nI c))] [] h2 := by
        intro m
        induction m with
        | zero =>
          intro c hc h2 r2 f2 e2 e38 g2
          obtain rfl : c = 8 := by omega
          refine u_X11_laysAlong_31 (d1' := d - 1) r2 (by omega) ?_
          simp (disch := omega) only [xle_t, xle_f, xlt_t, xlt_f, xeq_t, xeq_f, xle0_t, xle0_f, xlt0_f, x0lt_t, x0lt_f, x0le_t, xeq0_t, xeq0_f, xin, xem_f, xme_f, xlem_f, xlm_f, xml_t, xmle_t, nI_clamp, nI_add, pk_mul, pk_sub, zI_s, zI_k, zI_o, zL_s, zL_k, zL_o, zR_s, zR_k, zR_o, zIL, zIR, zIN, zLI, zLR, zLN, zRI, zRL, zRN, true_and, and_true, not_true_eq_false, not_false_eq_true, true_implies, false_implies, implies_true, forall_const, if_true, if_false, eq_self, false_and, and_false, implies_true, nI_l, ylle_t, ylle_f, xcl_t, xcl_f]
          have K2 : mTb (fun _ => false) (h2.1 132) := fun t ht => by
            rw [e2, g' (t / 32) (by omega)]
            exact b_0 _
          refine m_gal hC hS hN2 12 0 (fun _ => 0) 0 0 _ h2 (d - 1) _ (by omega) ?_ aI_0.1 r2 ⟨by rw [f2.1.i (by omega)]; exact hA, e38, fun i hi => (g2 i hi).1⟩ (fun i hi => ?_) K2 (by omega) (fun h3 r3 f3 K3 => ?_)
          · have := aM1_le hX (G := fun _ => 0) (i := 0)
            have := aM1_le hX (G := fun _ => 0) (i := 1)
            unfold aMu
            omega
          · obtain ⟨y1, y2, y3, y4⟩ := g2 i hi
            rw [Nat.mul_zero, Nat.zero_add]
            refine ⟨y2, y3, fun _ => ?_⟩
            rw [y4]
            unfold aQ
            rw [Nat.zero_div]
          · refine u_X11_laysAlong_110 (kk h3 r3 (f2.trans ⟨f3.1.weak (fun a q => by omega), fun k _ => by rw [f3.1.i (by omega)]⟩) (fun t ht => ?_))
            rw [K3 t ht]
            exact Bool.false_or _
        | succ m ih =>
          intro c hc h2 r2 f2 e2 e38 g2
          refine u_X11_laysAlong_31 (d1' := d - 1) r2 (by omega) ?_
          by_cases tb : S.testBit c = true
          · have bb := xbtS (S := S) (c := c) (by omega) (by omega)
            rw [eq_false (show ¬ S.testBit c = false by rw [tb]; decide)] at bb
            have ns : wN S (c + 1) = wN S c + 1 := by rw [wN_s, if_pos tb]
            have ms : aMb S (c + 1) = kU (aMb S c) (wN S c) c := if_pos tb
            have n3 : wN S c < 2 := by
              have := wN_mono (S := S) (show c + 1 ≤ 8 by omega)
              omega
            simp (disch := omega) only [xle_t, xle_f, xlt_t, xlt_f, xeq_t, xeq_f, xle0_t, xle0_f, xlt0_f, x0lt_t, x0lt_f, x0le_t, xeq0_t, xeq0_f, xin, xem_f, xme_f, xlem_f, xlm_f, xml_t, xmle_t, nI_clamp, nI_add, pk_mul, pk_sub, zI_s, zI_k, zI_o, zL_s, zL_k, zL_o, zR_s, zR_k, zR_o, zIL, zIR, zIN, zLI, zLR, zLN, zRI, zRL, zRN, true_and, and_true, not_true_eq_false, not_false_eq_true, true_implies, false_implies, implies_true, forall_const, if_true, if_false, eq_self, false_and, and_false, implies_true, nI_l, ylle_t, ylle_f, xcl_t, xcl_f, bb, e38]
            refine ih (c + 1) (by omega) _ (zRf_I r2 111 38 (nI (wN S c + 1))) ⟨?_, fun k hk => ?_⟩ ?_ ?_ (fun j hj => ?_)
            · exact ((((f2.1.trans (zF_I _ _ _ (by omega))).trans (zF_I _ _ _ (by omega))).trans (zF_I _ _ _ (by omega))).trans (zF_I _ _ _ (by omega))).trans (zF_I _ _ _ (by omega))
            · rw [zI_k _ _ _ hk, zI_o _ _ _ (by omega), zI_o _ _ _ (by omega), zI_o _ _ _ (by omega), zI_o _ _ _ (by omega)]
              exact f2.2 k hk
            · rw [zI_o _ _ _ (by omega), zI_o _ _ _ (by omega), zI_o _ _ _ (by omega), zI_o _ _ _ (by omega), zI_o _ _ _ (by omega)]
              exact e2
            · rw [zI_s, ns]
            · rw [ns] at hj
              rw [ms]
              by_cases y : j = wN S c
              · rw [y, kU_s]
                simp (disch := omega) only [xle_t, xle_f, xlt_t, xlt_f, xeq_t, xeq_f, xle0_t, xle0_f, xlt0_f, x0lt_t, x0lt_f, x0le_t, xeq0_t, xeq0_f, xin, xem_f, xme_f, xlem_f, xlm_f, xml_t, xmle_t, nI_clamp, nI_add, pk_mul, pk_sub, zI_s, zI_k, zI_o, zL_s, zL_k, zL_o, zR_s, zR_k, zR_o, zIL, zIR, zIN, zLI, zLR, zLN, zRI, zRL, zRN, true_and, and_true, not_true_eq_false, not_false_eq_true, true_implies, false_implies, implies_true, forall_const, if_true, if_false, eq_self, false_and, and_false, implies_true, nI_l, ylle_t, ylle_f, xcl_t, xcl_f]
              · rw [kU_o _ _ y]
                obtain ⟨y1, y2, y3, y4⟩ := g2 j (by omega)
                simp (disch := omega) only [xle_t, xle_f, xlt_t, xlt_f, xeq_t, xeq_f, xle0_t, xle0_f, xlt0_f, x0lt_t, x0lt_f, x0le_t, xeq0_t, xeq0_f, xin, xem_f, xme_f, xlem_f, xlm_f, xml_t, xmle_t, nI_clamp, nI_add, pk_mul, pk_sub, zI_s, zI_k, zI_o, zL_s, zL_k, zL_o, zR_s, zR_k, zR_o, zIL, zIR, zIN, zLI, zLR, zLN, zRI, zRL, zRN, true_and, and_true, not_true_eq_false, not_false_eq_true, true_implies, false_implies, implies_true, forall_const, if_true, if_false, eq_self, false_and, and_false, implies_true, nI_l, ylle_t, ylle_f, xcl_t, xcl_f, y1, y2, y3, y4]
          · have tf : S.testBit c = false := Bool.eq_false_iff.mpr tb
            have bb := xbtS (S := S) (c := c) (by omega) (by omega)
            rw [eq_true tf] at bb
            simp (disch := omega) only [xle_t, xle_f, xlt_t, xlt_f, xeq_t, xeq_f, xle0_t, xle0_f, xlt0_f, x0lt_t, x0lt_f, x0le_t, xeq0_t, xeq0_f, xin, xem_f, xme_f, xlem_f, xlm_f, xml_t, xmle_t, nI_clamp, nI_add, pk_mul, pk_sub, zI_s, zI_k, zI_o, zL_s, zL_k, zL_o, zR_s, zR_k, zR_o, zIL, zIR, zIN, zLI, zLR, zLN, zRI, zRL, zRN, true_and, and_true, not_true_eq_false, not_false_eq_true, true_implies, false_implies, implies_true, forall_const, if_true, if_false, eq_self, false_and, and_false, implies_true, nI_l, ylle_t, ylle_f, xcl_t, xcl_f, bb]
            have e1 : wN S (c + 1) = wN S c := by rw [wN_s, tf]; rfl
            have e3 : aMb S (c + 1) = aMb S c := if_neg tb
            refine ih (c + 1) (by omega) h2 r2 f2 e2 (by rw [e1]; exact e38) (fun j hj => ?_)
            rw [e3]
            rw [e1] at hj
            exact g2 j hj
      refine L2 8 0 (by omega) _ (zRf_I r' 111 38 (nI 0)) ⟨(f'.weak (fun a q => by omega)).trans (zF_I _ _ _ (by omega)), fun k hk => ?_⟩ (zI_o _ _ _ (by omega)) (zI_s _ _ _ _) (fun j hj => absurd hj (by show ¬ j < 0; omega))
      rw [zI_k _ _ _ hk, f'.i (by omega)]
    | succ m ih =>
      intro i hi h' r' f' g'
      refine u_X11_laysAlong_2 r' ?_
      simp (disch := omega) only [xle_t, xle_f, xlt_t, xlt_f, xeq_t, xeq_f, xle0_t, xle0_f, xlt0_f, x0lt_t, x0lt_f, x0le_t, xeq0_t, xeq0_f, xin, xem_f, xme_f, xlem_f, xlm_f, xml_t, xmle_t, nI_clamp, nI_add, pk_mul, pk_sub, zI_s, zI_k, zI_o, zL_s, zL_k, zL_o, zR_s, zR_k, zR_o, zIL, zIR, zIN, zLI, zLR, zLN, zRI, zRL, zRN, true_and, and_true, not_true_eq_false, not_false_eq_true, true_implies, false_implies, implies_true, forall_const, if_true, if_false, eq_self, false_and, and_false, implies_true, nI_l, ylle_t, ylle_f, xcl_t, xcl_f]
      refine ih (i + 1) (by omega) _ r' (f'.trans (zF_I _ _ _ (by omega))) (fun j hj => ?_)
      by_cases y : j = i
      · rw [y, zI_s]
      · rw [zI_k _ _ _ y]
        exact g' j (by omega)
  exact L 11600 0 (by omega) h hr zF.rfl (fun j hj => by omega)
noncomputable def gAlo (B : BK) (x y : Int32) : Int32 := gSet B.1 2 x (fun S => gT1 y (fun T => bI (aTm B.1 S T)))
noncomputable def gAls (B : BK) (x k : Int32) : Int32 := gSet B.1 2 x (fun S => gTim (aTm B.1 S) k)
def cZ (h h' : MH) : Prop := zF (fun a => (a < 77 ∨ 96 < a) ∧ a ≠ 101 ∧ a ≠ 102) h h'
theorem o_alo {x y : Int32} (hr : zRf h) (hA : bAt B h 15) (hB : bOK B) (hm : aMk B.1 h) (hd : 32 ≤ d) (kk : ∀ h', zRf h' → cZ h h' → aMk B.1 h' → Q (some (.inl (gAlo B x y))) h') : Con mX10_along d 0 0 [.inr (.inr 1), .inl x, .inl y] h Q := by
  unfold gAlo at kk
  refine u_X10_along (d1' := d - 1) hr (by omega) ?_
  refine c_ist (k := 2) hr hA.c16 hB.1 (by omega) (by omega) ?_ ?_
  · intro z
    rw [gSet_0 z] at kk
    refine u_X10_along_6 (d1' := d - 1) hr (by omega) ?_
    simp (disch := omega) only [xle_t, xle_f, xlt_t, xlt_f, xeq_t, xeq_f, xle0_t, xle0_f, xlt0_f, x0lt_t, x0lt_f, x0le_t, xeq0_t, xeq0_f, xin, xem_f, xme_f, xlem_f, xlm_f, xml_t, xmle_t, nI_clamp, nI_add, pk_mul, pk_sub, zI_s, zI_k, zI_o, zL_s, zL_k, zL_o, zR_s, zR_k, zR_o, zIL, zIR, zIN, zLI, zLR, zLN, zRI, zRL, zRN, true_and, and_true, not_true_eq_false, not_false_eq_true, true_implies, false_implies, implies_true, forall_const, if_true, if_false, eq_self, false_and, and_false, implies_true, nI_l, ylle_t, ylle_f, xcl_t, xcl_f]
    exact kk h hr zF.rfl hm
  · intro S z e hS h2
    rw [gSet_1 z] at kk
    refine u_X10_along_6 (d1' := d - 1) hr (by omega) ?_
    rcases pos_c y with t0 | ⟨T, t0, t1, rfl⟩
    · rw [gT1_0 t0] at kk
      simp (disch := omega) only [xle_t, xle_f, xlt_t, xlt_f, xeq_t, xeq_f, xle0_t, xle0_f, xlt0_f, x0lt_t, x0lt_f, x0le_t, xeq0_t, xeq0_f, xin, xem_f, xme_f, xlem_f, xlm_f, xml_t, xmle_t, nI_clamp, nI_add, pk_mul, pk_sub, zI_s, zI_k, zI_o, zL_s, zL_k, zL_o, zR_s, zR_k, zR_o, zIL, zIR, zIN, zLI, zLR, zLN, zRI, zRL, zRN, true_and, and_true, not_true_eq_false, not_false_eq_true, true_implies, false_implies, implies_true, forall_const, if_true, if_false, eq_self, false_and, and_false, implies_true, nI_l, ylle_t, ylle_f, xcl_t, xcl_f, t0]
      exact kk h hr zF.rfl hm
    rw [gT1_1 t0 t1] at kk
    simp (disch := omega) only [xle_t, xle_f, xlt_t, xlt_f, xeq_t, xeq_f, xle0_t, xle0_f, xlt0_f, x0lt_t, x0lt_f, x0le_t, xeq0_t, xeq0_f, xin, xem_f, xme_f, xlem_f, xlm_f, xml_t, xmle_t, nI_clamp, nI_add, pk_mul, pk_sub, zI_s, zI_k, zI_o, zL_s, zL_k, zL_o, zR_s, zR_k, zR_o, zIL, zIR, zIN, zLI, zLR, zLN, zRI, zRL, zRN, true_and, and_true, not_true_eq_false, not_false_eq_true, true_implies, false_implies, implies_true, forall_const, if_true, if_false, eq_self, false_and, and_false, implies_true, nI_l, ylle_t, ylle_f, xcl_t, xcl_f, e]
    refine c_aal hr hA hB ⟨hS.1, hS.2.1, h2⟩ hm (by omega) (fun h1 r1 f1 n1 K1 => ?_)
    have fin := kk h1 r1 f1 n1
    have hf := aTm_f hB.1 hS.2.1 h2
    have z1 : zokO h1 101 3 := zo r1 (by decide) rfl
    refine u_X10_along_22 r1 (by omega) ?_
    have em : nI T - nI T / nI 16 * nI 16 = nI (T % 16) := pk_rem t1 (by decide) (by decide)
    have ed : nI T / nI 16 = nI (T / 16) := pk_div t1 (by decide) (by decide)
    rw [em, ed]
    refine ⟨z1, ?_⟩
    by_cases z : T % 16 = 0
    · rcases Nat.lt_or_ge (T / 16) 23104 with c1 | c1
      · have b := K1 (T / 16) c1
        simp only at b
        rw [show 16 * (T / 16) = T by omega] at b
        have cb := c_bitT (x := h1.2.1 102 (T / 16 / 64)) (i := T / 16)
        cases hfT : aTm B.1 S T with
        | true =>
          rw [hfT] at b fin
          rw [b, eq_false (show ¬ true = false by decide)] at cb
          simp (disch := omega) only [xle_t, xle_f, xlt_t, xlt_f, xeq_t, xeq_f, xle0_t, xle0_f, xlt0_f, x0lt_t, x0lt_f, x0le_t, xeq0_t, xeq0_f, xin, xem_f, xme_f, xlem_f, xlm_f, xml_t, xmle_t, nI_clamp, nI_add, pk_mul, pk_sub, zI_s, zI_k, zI_o, zL_s, zL_k, zL_o, zR_s, zR_k, zR_o, zIL, zIR, zIN, zLI, zLR, zLN, zRI, zRL, zRN, true_and, and_true, not_true_eq_false, not_false_eq_true, true_implies, false_implies, implies_true, forall_const, if_true, if_false, eq_self, false_and, and_false, implies_true, nI_l, ylle_t, ylle_f, xcl_t, xcl_f, nI_shr6, cb]
          exact fin
        | false =>
          rw [hfT] at b fin
          rw [b, eq_true rfl] at cb
          simp (disch := omega) only [xle_t, xle_f, xlt_t, xlt_f, xeq_t, xeq_f, xle0_t, xle0_f, xlt0_f, x0lt_t, x0lt_f, x0le_t, xeq0_t, xeq0_f, xin, xem_f, xme_f, xlem_f, xlm_f, xml_t, xmle_t, nI_clamp, nI_add, pk_mul, pk_sub, zI_s, zI_k, zI_o, zL_s, zL_k, zL_o, zR_s, zR_k, zR_o, zIL, zIR, zIN, zLI, zLR, zLN, zRI, zRL, zRN, true_and, and_true, not_true_eq_false, not_false_eq_true, true_implies, false_implies, implies_true, forall_const, if_true, if_false, eq_self, false_and, and_false, implies_true, nI_l, ylle_t, ylle_f, xcl_t, xcl_f, nI_shr6, cb]
          exact fin
      · have : aTm B.1 S T = false := Bool.eq_false_iff.mpr (fun q => by have := (hf T q).2; omega)
        rw [this] at fin
        simp (disch := omega) only [xle_t, xle_f, xlt_t, xlt_f, xeq_t, xeq_f, xle0_t, xle0_f, xlt0_f, x0lt_t, x0lt_f, x0le_t, xeq0_t, xeq0_f, xin, xem_f, xme_f, xlem_f, xlm_f, xml_t, xmle_t, nI_clamp, nI_add, pk_mul, pk_sub, zI_s, zI_k, zI_o, zL_s, zL_k, zL_o, zR_s, zR_k, zR_o, zIL, zIR, zIN, zLI, zLR, zLN, zRI, zRL, zRN, true_and, and_true, not_true_eq_false, not_false_eq_true, true_implies, false_implies, implies_true, forall_const, if_true, if_false, eq_self, false_and, and_false, implies_true, nI_l, ylle_t, ylle_f, xcl_t, xcl_f]
        exact fin
    · have : aTm B.1 S T = false := Bool.eq_false_iff.mpr (fun q => by have := (hf T q).1; omega)
      rw [this] at fin
      simp (disch := omega) only [xle_t, xle_f, xlt_t, xlt_f, xeq_t, xeq_f, xle0_t, xle0_f, xlt0_f, x0lt_t, x0lt_f, x0le_t, xeq0_t, xeq0_f, xin, xem_f, xme_f, xlem_f, xlm_f, xml_t, xmle_t, nI_clamp, nI_add, pk_mul, pk_sub, zI_s, zI_k, zI_o, zL_s, zL_k, zL_o, zR_s, zR_k, zR_o, zIL, zIR, zIN, zLI, zLR, zLN, zRI, zRL, zRN, true_and, and_true, not_true_eq_false, not_false_eq_true, true_implies, false_implies, implies_true, forall_const, if_true, if_false, eq_self, false_and, and_false, implies_true, nI_l, ylle_t, ylle_f, xcl_t, xcl_f]
      exact fin
theorem o_als {x k : Int32} (hr : zRf h) (hA : bAt B h 15) (hB : bOK B) (hm : aMk B.1 h) (hd : 32 ≤ d) (kk : ∀ h', zRf h' → cZ h h' → aMk B.1 h' → Q (some (.inl (gAls B x k))) h') : Con mX10_alongs d 0 0 [.inr (.inr 1), .inl x, .inl k] h Q := by
  unfold gAls at kk
  refine u_X10_alongs (d1' := d - 1) hr (by omega) ?_
  refine c_ist (k := 2) hr hA.c16 hB.1 (by omega) (by omega) ?_ ?_
  · intro z
    rw [gSet_0 z] at kk
    refine u_X10_alongs_6 (d1' := d - 1) hr (by omega) ?_
    simp (disch := omega) only [xle_t, xle_f, xlt_t, xlt_f, xeq_t, xeq_f, xle0_t, xle0_f, xlt0_f, x0lt_t, x0lt_f, x0le_t, xeq0_t, xeq0_f, xin, xem_f, xme_f, xlem_f, xlm_f, xml_t, xmle_t, nI_clamp, nI_add, pk_mul, pk_sub, zI_s, zI_k, zI_o, zL_s, zL_k, zL_o, zR_s, zR_k, zR_o, zIL, zIR, zIN, zLI, zLR, zLN, zRI, zRL, zRN, true_and, and_true, not_true_eq_false, not_false_eq_true, true_implies, false_implies, implies_true, forall_const, if_true, if_false, eq_self, false_and, and_false, implies_true, nI_l, ylle_t, ylle_f, xcl_t, xcl_f]
    exact kk h hr zF.rfl hm
  · intro S z e hS h2
    rw [gSet_1 z] at kk
    refine u_X10_alongs_6 (d1' := d - 1) hr (by omega) ?_
    simp (disch := omega) only [xle_t, xle_f, xlt_t, xlt_f, xeq_t, xeq_f, xle0_t, xle0_f, xlt0_f, x0lt_t, x0lt_f, x0le_t, xeq0_t, xeq0_f, xin, xem_f, xme_f, xlem_f, xlm_f, xml_t, xmle_t, nI_clamp, nI_add, pk_mul, pk_sub, zI_s, zI_k, zI_o, zL_s, zL_k, zL_o, zR_s, zR_k, zR_o, zIL, zIR, zIN, zLI, zLR, zLN, zRI, zRL, zRN, true_and, and_true, not_true_eq_false, not_false_eq_true, true_implies, false_implies, implies_true, forall_const, if_true, if_false, eq_self, false_and, and_false, implies_true, nI_l, ylle_t, ylle_f, xcl_t, xcl_f, e]
    refine c_aal hr hA hB ⟨hS.1, hS.2.1, h2⟩ hm (by omega) (fun h1 r1 f1 n1 K1 => ?_)
    refine u_X10_alongs_17 (d1' := d - 1) (by omega) ?_
    exact c_pik (w := 102) r1 (zo r1 (by decide) rfl) (by omega) (aTm_f hB.1 hS.2.1 h2) K1 (by omega) (u_X10_alongs_21 (kk h1 r1 f1 n1))
theorem n_alo {x y : Int32} (hr : zRf h) (hA : bIn B (h.1 112) 0) (hB : bOK B) (hd : 20 ≤ d) (kk : ∀ h', zRf h' → mK h h' → Q (some (.inl (gAlo B x y))) h') : Con mX11_along d 0 0 [.inr (.inr 111), .inl x, .inl y] h Q := by
  unfold gAlo at kk
  refine u_X11_along (d1' := d - 1) hr (by omega) ?_
  have hA0 : cIn B.1 ((zsI h 111 0 (nI 0)).1 112) 0 := by rw [zI_o _ _ _ (by omega)]; exact hA.1
  refine n_few (zRf_I hr _ _ _) hA0 hB.1 (by omega) ?_ ?_
  · intro z
    rw [gSet_0 z] at kk
    refine u_X11_along_10 (d1' := d - 1) (zRf_I hr _ _ _) (by omega) ?_
    simp (disch := omega) only [xle_t, xle_f, xlt_t, xlt_f, xeq_t, xeq_f, xle0_t, xle0_f, xlt0_f, x0lt_t, x0lt_f, x0le_t, xeq0_t, xeq0_f, xin, xem_f, xme_f, xlem_f, xlm_f, xml_t, xmle_t, nI_clamp, nI_add, pk_mul, pk_sub, zI_s, zI_k, zI_o, zL_s, zL_k, zL_o, zR_s, zR_k, zR_o, zIL, zIR, zIN, zLI, zLR, zLN, zRI, zRL, zRN, true_and, and_true, not_true_eq_false, not_false_eq_true, true_implies, false_implies, implies_true, forall_const, if_true, if_false, eq_self, false_and, and_false, implies_true, nI_l, ylle_t, ylle_f, xcl_t, xcl_f]
    exact kk _ hr (mK_0 h)
  · intro S z e hS h2
    rw [gSet_1 z] at kk
    refine u_X11_along_10 (d1' := d - 1) (zRf_I hr _ _ _) (by omega) ?_
    rcases pos_c y with t0 | ⟨T, t0, t1, rfl⟩
    · rw [gT1_0 t0] at kk
      simp (disch := omega) only [xle_t, xle_f, xlt_t, xlt_f, xeq_t, xeq_f, xle0_t, xle0_f, xlt0_f, x0lt_t, x0lt_f, x0le_t, xeq0_t, xeq0_f, xin, xem_f, xme_f, xlem_f, xlm_f, xml_t, xmle_t, nI_clamp, nI_add, pk_mul, pk_sub, zI_s, zI_k, zI_o, zL_s, zL_k, zL_o, zR_s, zR_k, zR_o, zIL, zIR, zIN, zLI, zLR, zLN, zRI, zRL, zRN, true_and, and_true, not_true_eq_false, not_false_eq_true, true_implies, false_implies, implies_true, forall_const, if_true, if_false, eq_self, false_and, and_false, implies_true, nI_l, ylle_t, ylle_f, xcl_t, xcl_f, t0]
      exact kk _ hr (mK_0 h)
    rw [gT1_1 t0 t1] at kk
    simp (disch := omega) only [xle_t, xle_f, xlt_t, xlt_f, xeq_t, xeq_f, xle0_t, xle0_f, xlt0_f, x0lt_t, x0lt_f, x0le_t, xeq0_t, xeq0_f, xin, xem_f, xme_f, xlem_f, xlm_f, xml_t, xmle_t, nI_clamp, nI_add, pk_mul, pk_sub, zI_s, zI_k, zI_o, zL_s, zL_k, zL_o, zR_s, zR_k, zR_o, zIL, zIR, zIN, zLI, zLR, zLN, zRI, zRL, zRN, true_and, and_true, not_true_eq_false, not_false_eq_true, true_implies, false_implies, implies_true, forall_const, if_true, if_false, eq_self, false_and, and_false, implies_true, nI_l, ylle_t, ylle_f, xcl_t, xcl_f, e]
    refine n_lal (zRf_I hr _ _ _) hA0 hB.1 hS.2.1 h2 (by omega) (fun h1 r1 f1 K1 => ?_)
    have fin := kk h1 r1 ((mK_0 h).trans f1.k)
    have hf := aTm_f hB.1 hS.2.1 h2
    have eq : nI T / nI 32 = nI (T / 32) := pk_div t1 (by decide) (by decide)
    have er : nI T - nI T / nI 32 * nI 32 = nI (T % 32) := pk_rem t1 (by decide) (by decide)
    refine u_X11_along_26 r1 (by omega) ?_
    rw [er, eq]
    rcases Nat.lt_or_ge (T / 32) 11600 with c1 | c1
    · have eb := shw (h1.1 132 (T / 32)) (c := T % 32) (Nat.mod_lt _ (by decide))
      rw [K1 T (by omega)] at eb
      cases ft : aTm B.1 S T with
      | true =>
        rw [ft] at fin
        rw [ft, if_pos rfl] at eb
        simp (disch := omega) only [xle_t, xle_f, xlt_t, xlt_f, xeq_t, xeq_f, xle0_t, xle0_f, xlt0_f, x0lt_t, x0lt_f, x0le_t, xeq0_t, xeq0_f, xin, xem_f, xme_f, xlem_f, xlm_f, xml_t, xmle_t, nI_clamp, nI_add, pk_mul, pk_sub, zI_s, zI_k, zI_o, zL_s, zL_k, zL_o, zR_s, zR_k, zR_o, zIL, zIR, zIN, zLI, zLR, zLN, zRI, zRL, zRN, true_and, and_true, not_true_eq_false, not_false_eq_true, true_implies, false_implies, implies_true, forall_const, if_true, if_false, eq_self, false_and, and_false, implies_true, nI_l, ylle_t, ylle_f, xcl_t, xcl_f, eb]
        exact fin
      | false =>
        rw [ft] at fin
        rw [ft, if_neg (show ¬ (false = true) by decide)] at eb
        simp (disch := omega) only [xle_t, xle_f, xlt_t, xlt_f, xeq_t, xeq_f, xle0_t, xle0_f, xlt0_f, x0lt_t, x0lt_f, x0le_t, xeq0_t, xeq0_f, xin, xem_f, xme_f, xlem_f, xlm_f, xml_t, xmle_t, nI_clamp, nI_add, pk_mul, pk_sub, zI_s, zI_k, zI_o, zL_s, zL_k, zL_o, zR_s, zR_k, zR_o, zIL, zIR, zIN, zLI, zLR, zLN, zRI, zRL, zRN, true_and, and_true, not_true_eq_false, not_false_eq_true, true_implies, false_implies, implies_true, forall_const, if_true, if_false, eq_self, false_and, and_false, implies_true, nI_l, ylle_t, ylle_f, xcl_t, xcl_f, eb]
        exact fin
    · have : aTm B.1 S T = false := Bool.eq_false_iff.mpr (fun q => by have := (hf T q).2; omega)
      rw [this] at fin
      simp (disch := omega) only [xle_t, xle_f, xlt_t, xlt_f, xeq_t, xeq_f, xle0_t, xle0_f, xlt0_f, x0lt_t, x0lt_f, x0le_t, xeq0_t, xeq0_f, xin, xem_f, xme_f, xlem_f, xlm_f, xml_t, xmle_t, nI_clamp, nI_add, pk_mul, pk_sub, zI_s, zI_k, zI_o, zL_s, zL_k, zL_o, zR_s, zR_k, zR_o, zIL, zIR, zIN, zLI, zLR, zLN, zRI, zRL, zRN, true_and, and_true, not_true_eq_false, not_false_eq_true, true_implies, false_implies, implies_true, forall_const, if_true, if_false, eq_self, false_and, and_false, implies_true, nI_l, ylle_t, ylle_f, xcl_t, xcl_f]
      exact fin
theorem n_als {x k : Int32} (hr : zRf h) (hA : bIn B (h.1 112) 0) (hB : bOK B) (hd : 20 ≤ d) (kk : ∀ h', zRf h' → mK h h' → Q (some (.inl (gAls B x k))) h') : Con mX11_alongs d 0 0 [.inr (.inr 111), .inl x, .inl k] h Q := by
  unfold gAls at kk
  refine u_X11_alongs (d1' := d - 1) hr (by omega) ?_
  have hA0 : cIn B.1 ((zsI h 111 0 (nI 0)).1 112) 0 := by rw [zI_o _ _ _ (by omega)]; exact hA.1
  refine n_few (zRf_I hr _ _ _) hA0 hB.1 (by omega) ?_ ?_
  · intro z
    rw [gSet_0 z] at kk
    refine u_X11_alongs_10 (d1' := d - 1) (zRf_I hr _ _ _) (by omega) ?_
    simp (disch := omega) only [xle_t, xle_f, xlt_t, xlt_f, xeq_t, xeq_f, xle0_t, xle0_f, xlt0_f, x0lt_t, x0lt_f, x0le_t, xeq0_t, xeq0_f, xin, xem_f, xme_f, xlem_f, xlm_f, xml_t, xmle_t, nI_clamp, nI_add, pk_mul, pk_sub, zI_s, zI_k, zI_o, zL_s, zL_k, zL_o, zR_s, zR_k, zR_o, zIL, zIR, zIN, zLI, zLR, zLN, zRI, zRL, zRN, true_and, and_true, not_true_eq_false, not_false_eq_true, true_implies, false_implies, implies_true, forall_const, if_true, if_false, eq_self, false_and, and_false, implies_true, nI_l, ylle_t, ylle_f, xcl_t, xcl_f]
    exact kk _ hr (mK_0 h)
  · intro S z e hS h2
    rw [gSet_1 z] at kk
    refine u_X11_alongs_10 (d1' := d - 1) (zRf_I hr _ _ _) (by omega) ?_
    simp (disch := omega) only [xle_t, xle_f, xlt_t, xlt_f, xeq_t, xeq_f, xle0_t, xle0_f, xlt0_f, x0lt_t, x0lt_f, x0le_t, xeq0_t, xeq0_f, xin, xem_f, xme_f, xlem_f, xlm_f, xml_t, xmle_t, nI_clamp, nI_add, pk_mul, pk_sub, zI_s, zI_k, zI_o, zL_s, zL_k, zL_o, zR_s, zR_k, zR_o, zIL, zIR, zIN, zLI, zLR, zLN, zRI, zRL, zRN, true_and, and_true, not_true_eq_false, not_false_eq_true, true_implies, false_implies, implies_true, forall_const, if_true, if_false, eq_self, false_and, and_false, implies_true, nI_l, ylle_t, ylle_f, xcl_t, xcl_f, e]
    refine n_lal (zRf_I hr _ _ _) hA0 hB.1 hS.2.1 h2 (by omega) (fun h1 r1 f1 K1 => ?_)
    have fin := kk h1 r1 ((mK_0 h).trans f1.k)
    refine u_X11_alongs_21 (d1' := d - 1) r1 (by omega) ?_
    by_cases y : -(nI 1) ≤ k
    · simp (disch := omega) only [xle_t, xle_f, xlt_t, xlt_f, xeq_t, xeq_f, xle0_t, xle0_f, xlt0_f, x0lt_t, x0lt_f, x0le_t, xeq0_t, xeq0_f, xin, xem_f, xme_f, xlem_f, xlm_f, xml_t, xmle_t, nI_clamp, nI_add, pk_mul, pk_sub, zI_s, zI_k, zI_o, zL_s, zL_k, zL_o, zR_s, zR_k, zR_o, zIL, zIR, zIN, zLI, zLR, zLN, zRI, zRL, zRN, true_and, and_true, not_true_eq_false, not_false_eq_true, true_implies, false_implies, implies_true, forall_const, if_true, if_false, eq_self, false_and, and_false, implies_true, nI_l, ylle_t, ylle_f, xcl_t, xcl_f, y]
      exact n_tat r1 K1 (by omega) (u_X11_alongs_35 fin)
    · have kn : k < 0 := by
        rw [Int32.lt_iff_toInt_lt]
        rw [Int32.le_iff_toInt_le] at y
        have : (-(nI 1)).toInt = -1 := by decide
        rw [this] at y
        show k.toInt < 0
        omega
      have k1 : ¬ k = -(nI 1) := fun q => y (by rw [q]; exact Int32.le_refl _)
      rw [gTim_neg kn k1] at fin
      simp (disch := omega) only [xle_t, xle_f, xlt_t, xlt_f, xeq_t, xeq_f, xle0_t, xle0_f, xlt0_f, x0lt_t, x0lt_f, x0le_t, xeq0_t, xeq0_f, xin, xem_f, xme_f, xlem_f, xlm_f, xml_t, xmle_t, nI_clamp, nI_add, pk_mul, pk_sub, zI_s, zI_k, zI_o, zL_s, zL_k, zL_o, zR_s, zR_k, zR_o, zIL, zIR, zIN, zLI, zLR, zLN, zRI, zRL, zRN, true_and, and_true, not_true_eq_false, not_false_eq_true, true_implies, false_implies, implies_true, forall_const, if_true, if_false, eq_self, false_and, and_false, implies_true, nI_l, ylle_t, ylle_f, xcl_t, xcl_f, y]
      exact fin
end OPS
