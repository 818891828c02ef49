/-! ===== time: both sides ===== -/
section OPS
variable {B : BK} {out : Bool} {h : MH} {d : Nat} {Q : Option MV → MH → Prop}
theorem ct_w {w i : Nat} {g : Nat → Bool} (hK : wKw g (h.2.1 w)) (hi : i < 361) : fb_ct (fun j => (h.2.1 w i).toBitVec.getLsbD j) 64 = fb_ct (fun j => g (64 * i + j)) 64 := fb_ct_cong (fun j hj => by
  have := hK (64 * i + j) (by omega)
  rw [show (64 * i + j) / 64 = i by omega, show (64 * i + j) % 64 = j by omega] at this
  exact this)
theorem ct_64 (g : Nat → Bool) (i : Nat) : fb_ct g (64 * (i + 1)) = fb_ct g (64 * i) + fb_ct (fun j => g (64 * i + j)) 64 := by
  rw [show 64 * (i + 1) = 64 * i + 64 by omega, fb_ct_split]
theorem c_siz {w : Nat} {g : Nat → Bool} (hr : zRf h) (hz : zokO h (w - 1) 3) (hw0 : 0 < w) (hK : wKw g (h.2.1 w)) (hd : 1 ≤ d) (kk : Q (some (.inl (nI (fb_ct g 23104)))) h) : Con mX3_size d 0 0 [.inr (.inr (w - 1))] h Q := by
  refine u_X3_size ?_
  have L : ∀ m i, i + m = 361 → J mX3_size d 0 0 Q 0 0 4 [some (.inr (.inr (w - 1))), some (.inl (nI (fb_ct g (64 * i)))), some (.inl (nI i))] [] h := by
    intro m
    induction m with
    | zero =>
      intro i hi
      obtain rfl : i = 361 := by omega
      refine u_X3_size_4 (d1' := 0) hr (by omega) ?_
      simp (disch := omega) only [xle_t, xle_f, xlt_t, xlt_f, xeq_t, xeq_f, xle0_t, xle0_f, xlt0_f, x0lt_t, x0lt_f, x0le_t, xeq0_t, xeq0_f, xin, xem_f, xme_f, xlem_f, xlm_f, xml_t, xmle_t, nI_clamp, nI_add, pk_mul, pk_sub, zI_s, zI_k, zI_o, zL_s, zL_k, zL_o, zR_s, zR_k, zR_o, zIL, zIR, zIN, zLI, zLR, zLN, zRI, zRL, zRN, true_and, and_true, not_true_eq_false, not_false_eq_true, true_implies, false_implies, implies_true, forall_const, if_true, if_false, eq_self, false_and, and_false, implies_true, nI_l, ylle_t, ylle_f, xcl_t, xcl_f]
      exact kk
    | succ m ih =>
      intro i hi
      have bj := fb_ct_le g (64 * i)
      refine u_X3_size_4 (d1' := 0) hr (by omega) ?_
      rw [show w - 1 + 1 = w by omega]
      simp (disch := omega) only [xle_t, xle_f, xlt_t, xlt_f, xeq_t, xeq_f, xle0_t, xle0_f, xlt0_f, x0lt_t, x0lt_f, x0le_t, xeq0_t, xeq0_f, xin, xem_f, xme_f, xlem_f, xlm_f, xml_t, xmle_t, nI_clamp, nI_add, pk_mul, pk_sub, zI_s, zI_k, zI_o, zL_s, zL_k, zL_o, zR_s, zR_k, zR_o, zIL, zIR, zIN, zLI, zLR, zLN, zRI, zRL, zRN, true_and, and_true, not_true_eq_false, not_false_eq_true, true_implies, false_implies, implies_true, forall_const, if_true, if_false, eq_self, false_and, and_false, implies_true, nI_l, ylle_t, ylle_f, xcl_t, xcl_f]
      refine ⟨hz, c_bitL _ ?_⟩
      refine u_X3_size_21 ?_
      rw [ct_w hK (by omega), nI_add, ← ct_64, nI_add]
      exact ih (i + 1) (by omega)
  exact L 361 0 (by omega)
theorem c_ntg {w : Nat} {f g : Nat → Bool} {k : Int32} (hr : zRf h) (hz : zokO h (w - 1) 3) (hw0 : 0 < w) (hg : ∀ j, f (16 * j) = g j) (hct : ∀ i, fb_ct f (16 * i) = fb_ct g i) (htop : fb_ct f 371200 = fb_ct g 23104) (hK : wKw g (h.2.1 w)) (hd : 2 ≤ d) (hk1 : ¬ k = -(nI 1)) (kk : Q (some (.inl (gTim f k))) h) : Con mX3_nth d 0 0 [.inr (.inr (w - 1)), .inl k] h Q := by
  refine u_X3_nth ?_
  rcases Classical.em (k < 0) with kn | kn
  · rw [gTim_neg kn hk1] at kk
    simp (disch := omega) only [xle_t, xle_f, xlt_t, xlt_f, xeq_t, xeq_f, xle0_t, xle0_f, xlt0_f, x0lt_t, x0lt_f, x0le_t, xeq0_t, xeq0_f, xin, xem_f, xme_f, xlem_f, xlm_f, xml_t, xmle_t, nI_clamp, nI_add, pk_mul, pk_sub, zI_s, zI_k, zI_o, zL_s, zL_k, zL_o, zR_s, zR_k, zR_o, zIL, zIR, zIN, zLI, zLR, zLN, zRI, zRL, zRN, true_and, and_true, not_true_eq_false, not_false_eq_true, true_implies, false_implies, implies_true, forall_const, if_true, if_false, eq_self, false_and, and_false, implies_true, nI_l, ylle_t, ylle_f, xcl_t, xcl_f, x0le_neg kn]
    exact kk
  · obtain ⟨K, k1, k2⟩ := wb_of32 k
    have K31 : K < 2 ^ 31 := Nat.lt_of_not_le fun q => kn (by
      rw [k2, Int32.lt_iff_toInt_lt]
      show (BitVec.ofNat 32 K).toInt < 0
      rw [BitVec.toInt_eq_toNat_cond, BitVec.toNat_ofNat, Nat.mod_eq_of_lt k1]
      split <;> omega)
    subst k2
    simp (disch := omega) only [xle_t, xle_f, xlt_t, xlt_f, xeq_t, xeq_f, xle0_t, xle0_f, xlt0_f, x0lt_t, x0lt_f, x0le_t, xeq0_t, xeq0_f, xin, xem_f, xme_f, xlem_f, xlm_f, xml_t, xmle_t, nI_clamp, nI_add, pk_mul, pk_sub, zI_s, zI_k, zI_o, zL_s, zL_k, zL_o, zR_s, zR_k, zR_o, zIL, zIR, zIN, zLI, zLR, zLN, zRI, zRL, zRN, true_and, and_true, not_true_eq_false, not_false_eq_true, true_implies, false_implies, implies_true, forall_const, if_true, if_false, eq_self, false_and, and_false, implies_true, nI_l, ylle_t, ylle_f, xcl_t, xcl_f]
    have L : ∀ m i, i + m = 361 → fb_ct g (64 * i) ≤ K → ∀ u, J mX3_nth d 0 0 Q 0 0 10 [some (.inr (.inr (w - 1))), some (.inl (nI K)), some (.inl (nI (K - fb_ct g (64 * i)))), some (.inl (nI i)), u] [] h := by
      intro m
      induction m with
      | zero =>
        intro i hi hle u
        obtain rfl : i = 361 := by omega
        refine u_X3_nth_10 (d1' := 0) hr (by omega) ?_
        simp (disch := omega) only [xle_t, xle_f, xlt_t, xlt_f, xeq_t, xeq_f, xle0_t, xle0_f, xlt0_f, x0lt_t, x0lt_f, x0le_t, xeq0_t, xeq0_f, xin, xem_f, xme_f, xlem_f, xlm_f, xml_t, xmle_t, nI_clamp, nI_add, pk_mul, pk_sub, zI_s, zI_k, zI_o, zL_s, zL_k, zL_o, zR_s, zR_k, zR_o, zIL, zIR, zIN, zLI, zLR, zLN, zRI, zRL, zRN, true_and, and_true, not_true_eq_false, not_false_eq_true, true_implies, false_implies, implies_true, forall_const, if_true, if_false, eq_self, false_and, and_false, implies_true, nI_l, ylle_t, ylle_f, xcl_t, xcl_f]
        rw [gTim_miss K31 (by rw [htop]; exact hle)] at kk
        exact kk
      | succ m ih =>
        intro i hi hle u
        have hk := hK
        refine u_X3_nth_10 (d1' := 0) hr (by omega) ?_
        rw [show w - 1 + 1 = w by omega]
        simp (disch := omega) only [xle_t, xle_f, xlt_t, xlt_f, xeq_t, xeq_f, xle0_t, xle0_f, xlt0_f, x0lt_t, x0lt_f, x0le_t, xeq0_t, xeq0_f, xin, xem_f, xme_f, xlem_f, xlm_f, xml_t, xmle_t, nI_clamp, nI_add, pk_mul, pk_sub, zI_s, zI_k, zI_o, zL_s, zL_k, zL_o, zR_s, zR_k, zR_o, zIL, zIR, zIN, zLI, zLR, zLN, zRI, zRL, zRN, true_and, and_true, not_true_eq_false, not_false_eq_true, true_implies, false_implies, implies_true, forall_const, if_true, if_false, eq_self, false_and, and_false, implies_true, nI_l, ylle_t, ylle_f, xcl_t, xcl_f]
        refine ⟨hz, c_bitL _ ?_⟩
        refine u_X3_nth_26 (d1' := d - 1) (by omega) ?_
        rw [ct_w hK (by omega)]
        have c64 := ct_64 g i
        have c6b : fb_ct (fun j => g (64 * i + j)) 64 ≤ 64 := fb_ct_le _ _
        rcases Nat.lt_or_ge (K - fb_ct g (64 * i)) (fb_ct (fun j => g (64 * i + j)) 64) with c1 | c1
        · simp (disch := omega) only [xle_t, xle_f, xlt_t, xlt_f, xeq_t, xeq_f, xle0_t, xle0_f, xlt0_f, x0lt_t, x0lt_f, x0le_t, xeq0_t, xeq0_f, xin, xem_f, xme_f, xlem_f, xlm_f, xml_t, xmle_t, nI_clamp, nI_add, pk_mul, pk_sub, zI_s, zI_k, zI_o, zL_s, zL_k, zL_o, zR_s, zR_k, zR_o, zIL, zIR, zIN, zLI, zLR, zLN, zRI, zRL, zRN, true_and, and_true, not_true_eq_false, not_false_eq_true, true_implies, false_implies, implies_true, forall_const, if_true, if_false, eq_self, false_and, and_false, implies_true, nI_l, ylle_t, ylle_f, xcl_t, xcl_f]
          refine ⟨hz, ?_⟩
          have fin : ∀ v, v = gTim f (nI K) → ∀ u, J mX3_nth d 0 0 Q 0 0 40 [some (.inr (.inr (w - 1))), some (.inl (nI K)), some (.inl (nI (K - fb_ct g (64 * i)))), some (.inl (nI i)), some (.inl u)] [.inl v] h := fun v hv u => u_X3_nth_40 (by rw [hv]; exact kk)
          refine u_X3_nthOfWord ?_
          simp (disch := omega) only [xle_t, xle_f, xlt_t, xlt_f, xeq_t, xeq_f, xle0_t, xle0_f, xlt0_f, x0lt_t, x0lt_f, x0le_t, xeq0_t, xeq0_f, xin, xem_f, xme_f, xlem_f, xlm_f, xml_t, xmle_t, nI_clamp, nI_add, pk_mul, pk_sub, zI_s, zI_k, zI_o, zL_s, zL_k, zL_o, zR_s, zR_k, zR_o, zIL, zIR, zIN, zLI, zLR, zLN, zRI, zRL, zRN, true_and, and_true, not_true_eq_false, not_false_eq_true, true_implies, false_implies, implies_true, forall_const, if_true, if_false, eq_self, false_and, and_false, implies_true, nI_l, ylle_t, ylle_f, xcl_t, xcl_f]
          have L2 : ∀ m' x, x + m' = 64 * i + 64 → 64 * i ≤ x → fb_ct g x ≤ K → ∀ u, J mX3_nthOfWord (d - 1) 0 0 (zri fun (v : Int32) h' => J mX3_nth d 0 0 Q 0 0 40 [some (.inr (.inr (w - 1))), some (.inl (nI K)), some (.inl (nI (K - fb_ct g (64 * i)))), some (.inl (nI i)), some (.inl u)] [.inl v] h') 0 0 8 [some (.inr (.inr (w - 1))), some (.inl (nI i)), some (.inl (nI (K - fb_ct g (64 * i)))), some (.inl (nI (fb_ct g x - fb_ct g (64 * i)))), some (.inl (nI x))] [] h := by
            intro m'
            induction m' with
            | zero =>
              intro x hx _ hxl u
              exfalso
              rw [show 64 * (i + 1) = 64 * i + 64 by omega] at c64
              rw [show x = 64 * i + 64 by omega] at hxl
              omega
            | succ m' ih2 =>
              intro x hx hx0 hxl u
              have mono := fb_ct_mono g hx0
              have b := hK x (by omega)
              have cb := c_bitT (x := h.2.1 w (x / 64)) (i := x)
              rw [b] at cb
              have bx := fb_ct_le g x
              have ns : fb_ct g (x + 1) = fb_ct g x + (if g x = true then 1 else 0) := rfl
              have nx := ih2 (x + 1) (by omega) (by omega)
              refine u_X3_nthOfWord_8 hr (by omega) ?_
              rw [show w - 1 + 1 = w by omega]
              cases hx1 : g x with
              | true =>
                rw [hx1, eq_false (show ¬ true = false by decide)] at cb
                rw [hx1, if_pos rfl] at ns
                rw [ns] at nx
                by_cases e : fb_ct g x = K
                · simp (disch := omega) only [xle_t, xle_f, xlt_t, xlt_f, xeq_t, xeq_f, xle0_t, xle0_f, xlt0_f, x0lt_t, x0lt_f, x0le_t, xeq0_t, xeq0_f, xin, xem_f, xme_f, xlem_f, xlm_f, xml_t, xmle_t, nI_clamp, nI_add, pk_mul, pk_sub, zI_s, zI_k, zI_o, zL_s, zL_k, zL_o, zR_s, zR_k, zR_o, zIL, zIR, zIN, zLI, zLR, zLN, zRI, zRL, zRN, true_and, and_true, not_true_eq_false, not_false_eq_true, true_implies, false_implies, implies_true, forall_const, if_true, if_false, eq_self, false_and, and_false, implies_true, nI_l, ylle_t, ylle_f, xcl_t, xcl_f, nI_shr6, cb]
                  refine ⟨hz, ?_⟩
                  rw [Nat.mul_comm x 16]
                  exact fin _ (by rw [gTim_hit (by rw [hg]; exact hx1) (by rw [hct]; exact e) (by omega)]) _
                · have e2 : fb_ct g x + 1 - fb_ct g (64 * i) = fb_ct g x - fb_ct g (64 * i) + 1 := by omega
                  rw [e2] at nx
                  simp (disch := omega) only [xle_t, xle_f, xlt_t, xlt_f, xeq_t, xeq_f, xle0_t, xle0_f, xlt0_f, x0lt_t, x0lt_f, x0le_t, xeq0_t, xeq0_f, xin, xem_f, xme_f, xlem_f, xlm_f, xml_t, xmle_t, nI_clamp, nI_add, pk_mul, pk_sub, zI_s, zI_k, zI_o, zL_s, zL_k, zL_o, zR_s, zR_k, zR_o, zIL, zIR, zIN, zLI, zLR, zLN, zRI, zRL, zRN, true_and, and_true, not_true_eq_false, not_false_eq_true, true_implies, false_implies, implies_true, forall_const, if_true, if_false, eq_self, false_and, and_false, implies_true, nI_l, ylle_t, ylle_f, xcl_t, xcl_f, nI_shr6, cb]
                  exact ⟨hz, nx (by omega) _⟩
              | false =>
                rw [hx1, eq_true rfl] at cb
                rw [hx1, if_neg (show ¬ (false = true) by decide), Nat.add_zero] at ns
                rw [ns] at nx
                simp (disch := omega) only [xle_t, xle_f, xlt_t, xlt_f, xeq_t, xeq_f, xle0_t, xle0_f, xlt0_f, x0lt_t, x0lt_f, x0le_t, xeq0_t, xeq0_f, xin, xem_f, xme_f, xlem_f, xlm_f, xml_t, xmle_t, nI_clamp, nI_add, pk_mul, pk_sub, zI_s, zI_k, zI_o, zL_s, zL_k, zL_o, zR_s, zR_k, zR_o, zIL, zIR, zIN, zLI, zLR, zLN, zRI, zRL, zRN, true_and, and_true, not_true_eq_false, not_false_eq_true, true_implies, false_implies, implies_true, forall_const, if_true, if_false, eq_self, false_and, and_false, implies_true, nI_l, ylle_t, ylle_f, xcl_t, xcl_f, nI_shr6, cb]
                exact ⟨hz, nx hxl _⟩
          have st := L2 64 (64 * i) rfl (Nat.le_refl _) hle (nI (fb_ct (fun j => g (64 * i + j)) 64))
          rw [Nat.sub_self, Nat.mul_comm] at st
          rw [Nat.mul_comm]
          exact st
        · simp (disch := omega) only [xle_t, xle_f, xlt_t, xlt_f, xeq_t, xeq_f, xle0_t, xle0_f, xlt0_f, x0lt_t, x0lt_f, x0le_t, xeq0_t, xeq0_f, xin, xem_f, xme_f, xlem_f, xlm_f, xml_t, xmle_t, nI_clamp, nI_add, pk_mul, pk_sub, zI_s, zI_k, zI_o, zL_s, zL_k, zL_o, zR_s, zR_k, zR_o, zIL, zIR, zIN, zLI, zLR, zLN, zRI, zRL, zRN, true_and, and_true, not_true_eq_false, not_false_eq_true, true_implies, false_implies, implies_true, forall_const, if_true, if_false, eq_self, false_and, and_false, implies_true, nI_l, ylle_t, ylle_f, xcl_t, xcl_f]
          have e2 : K - fb_ct g (64 * i) - fb_ct (fun j => g (64 * i + j)) 64 = K - fb_ct g (64 * (i + 1)) := by rw [c64]; omega
          rw [e2]
          exact ih (i + 1) (by omega) (by rw [c64]; omega) _
    have st := L 361 0 (by omega) (Nat.zero_le _) none
    exact st
theorem c_nth {w : Nat} {f : Nat → Bool} {k : Int32} (hr : zRf h) (hz : zokO h (w - 1) 3) (hw0 : 0 < w) (hf : tF f) (hK : wKw (fun i => f (16 * i)) (h.2.1 w)) (hd : 2 ≤ d) (hk1 : ¬ k = -(nI 1)) (kk : Q (some (.inl (gTim f k))) h) : Con mX3_nth d 0 0 [.inr (.inr (w - 1)), .inl k] h Q :=
  c_ntg (g := fun j => f (16 * j)) hr hz hw0 (fun _ => rfl) (ct16 hf) (ct_top hf) hK hd hk1 kk
theorem wTm_F {C : CE} {S : Nat} (hC : cOK C) (hS : wSet C S) : tF (wTm C S out) := fun t q => by
  have := wTm_i hC hS q
  exact ⟨this.1, this.2.2.1⟩
theorem c_pik {w : Nat} {f : Nat → Bool} {k : Int32} (hr : zRf h) (hz : zokO h (w - 1) 3) (hw0 : 0 < w) (hf : tF f) (hK : wKw (fun i => f (16 * i)) (h.2.1 w)) (hd : 3 ≤ d) (kk : Q (some (.inl (gTim f k))) h) : Con mX10_pick d 0 0 [.inr (.inr (w - 1)), .inl k] h Q := by
  refine u_X10_pick (d1' := d - 1) (d2' := d - 1) (by omega) (by omega) ?_
  by_cases z : k = -(nI 1)
  · have e : gTim f k = nI (fb_ct (fun j => f (16 * j)) 23104) := by
      unfold gTim
      rw [if_pos z, ct_top hf]
    rw [e] at kk
    simp (disch := omega) only [xle_t, xle_f, xlt_t, xlt_f, xeq_t, xeq_f, xle0_t, xle0_f, xlt0_f, x0lt_t, x0lt_f, x0le_t, xeq0_t, xeq0_f, xin, xem_f, xme_f, xlem_f, xlm_f, xml_t, xmle_t, nI_clamp, nI_add, pk_mul, pk_sub, zI_s, zI_k, zI_o, zL_s, zL_k, zL_o, zR_s, zR_k, zR_o, zIL, zIR, zIN, zLI, zLR, zLN, zRI, zRL, zRN, true_and, and_true, not_true_eq_false, not_false_eq_true, true_implies, false_implies, implies_true, forall_const, if_true, if_false, eq_self, false_and, and_false, implies_true, nI_l, ylle_t, ylle_f, xcl_t, xcl_f, z]
    exact ⟨hz, c_siz hr hz hw0 hK (by omega) (u_X10_pick_9 kk)⟩
  · simp (disch := omega) only [xle_t, xle_f, xlt_t, xlt_f, xeq_t, xeq_f, xle0_t, xle0_f, xlt0_f, x0lt_t, x0lt_f, x0le_t, xeq0_t, xeq0_f, xin, xem_f, xme_f, xlem_f, xlm_f, xml_t, xmle_t, nI_clamp, nI_add, pk_mul, pk_sub, zI_s, zI_k, zI_o, zL_s, zL_k, zL_o, zR_s, zR_k, zR_o, zIL, zIR, zIN, zLI, zLR, zLN, zRI, zRL, zRN, true_and, and_true, not_true_eq_false, not_false_eq_true, true_implies, false_implies, implies_true, forall_const, if_true, if_false, eq_self, false_and, and_false, implies_true, nI_l, ylle_t, ylle_f, xcl_t, xcl_f, z]
    exact ⟨hz, c_nth hr hz hw0 hf hK (by omega) z (u_X10_pick_17 kk)⟩
def gTime (B : BK) (x : Int32) (out : Bool) (k : Int32) : Int32 := gSet B.1 4 x (fun S => gTim (wTm B.1 S out) k)
theorem wMo_0 (out : Bool) : 0 < wMo' out := by unfold wMo'; split <;> omega
theorem o_time {x k : Int32} (hr : zRf h) (hA : bAt B h 15) (hB : bOK B) (m0 : wMk B.1 false 98 h) (m1 : wMk B.1 true 100 h) (hd : 27 ≤ d) (kk : ∀ h', zRf h' → zF (fun a => a < 62 ∨ 100 < a) h h' → wMk B.1 false 98 h' → wMk B.1 true 100 h' → Q (some (.inl (gTime B x out k))) h') : Con mX10_time d 0 0 [.inr (.inr 1), .inl x, .inl (bI out), .inl k] h Q := by
  unfold gTime at kk
  refine u_X10_time (d1' := d - 1) hr (by omega) ?_
  refine c_ist hr hA.c16 hB.1 (by omega) (by omega) ?_ ?_
  · intro z
    rw [gSet_0 z] at kk
    refine u_X10_time_6 (d1' := d - 1) hr (by omega) ?_
    simp (disch := omega) only [xle_t, xle_f, xlt_t, xlt_f, xeq_t, xeq_f, xle0_t, xle0_f, xlt0_f, x0lt_t, x0lt_f, x0le_t, xeq0_t, xeq0_f, xin, xem_f, xme_f, xlem_f, xlm_f, xml_t, xmle_t, nI_clamp, nI_add, pk_mul, pk_sub, zI_s, zI_k, zI_o, zL_s, zL_k, zL_o, zR_s, zR_k, zR_o, zIL, zIR, zIN, zLI, zLR, zLN, zRI, zRL, zRN, true_and, and_true, not_true_eq_false, not_false_eq_true, true_implies, false_implies, implies_true, forall_const, if_true, if_false, eq_self, false_and, and_false, implies_true, nI_l, ylle_t, ylle_f, xcl_t, xcl_f]
    exact kk h hr zF.rfl m0 m1
  · intro S z e hS _
    rw [gSet_1 z] at kk
    refine u_X10_time_6 (d1' := d - 1) hr (by omega) ?_
    simp (disch := omega) only [xle_t, xle_f, xlt_t, xlt_f, xeq_t, xeq_f, xle0_t, xle0_f, xlt0_f, x0lt_t, x0lt_f, x0le_t, xeq0_t, xeq0_f, xin, xem_f, xme_f, xlem_f, xlm_f, xml_t, xmle_t, nI_clamp, nI_add, pk_mul, pk_sub, zI_s, zI_k, zI_o, zL_s, zL_k, zL_o, zR_s, zR_k, zR_o, zIL, zIR, zIN, zLI, zLR, zLN, zRI, zRL, zRN, true_and, and_true, not_true_eq_false, not_false_eq_true, true_implies, false_implies, implies_true, forall_const, if_true, if_false, eq_self, false_and, and_false, implies_true, nI_l, ylle_t, ylle_f, xcl_t, xcl_f, e]
    refine c_all hr hA hB hS m0 m1 (by omega) (fun h1 r1 f1 n0 n1 z1 K1 => ?_)
    refine u_X10_time_18 (d1' := d - 1) (by omega) ?_
    exact c_pik r1 z1 (wMo_0 out) (wTm_F hB.1 hS) K1 (by omega) (u_X10_time_22 (kk h1 r1 f1 n0 n1))
theorem n_time {x k : Int32} (hr : zRf h) (hA : bIn B (h.1 112) 0) (hB : bOK B) (hd : 12 ≤ d) (kk : ∀ h', zRf h' → mK h h' → Q (some (.inl (gTime B x out k))) h') : Con mX11_time d 0 0 [.inr (.inr 111), .inl x, .inl (bI out), .inl k] h Q := by
  unfold gTime at kk
  refine u_X11_time (d1' := d - 1) hr (by omega) ?_
  have hA0 : cIn B.1 ((zsI h 111 0 (nI 0)).1 112) 0 := by rw [zI_o _ _ _ (by omega)]; exact hA.1
  refine n_ist (zRf_I hr _ _ _) hA0 hB.1 (by omega) ?_ ?_
  · intro z
    rw [gSet_0 z] at kk
    refine u_X11_time_10 (d1' := d - 1) (zRf_I hr _ _ _) (by omega) ?_
    simp (disch := omega) only [xle_t, xle_f, xlt_t, xlt_f, xeq_t, xeq_f, xle0_t, xle0_f, xlt0_f, x0lt_t, x0lt_f, x0le_t, xeq0_t, xeq0_f, xin, xem_f, xme_f, xlem_f, xlm_f, xml_t, xmle_t, nI_clamp, nI_add, pk_mul, pk_sub, zI_s, zI_k, zI_o, zL_s, zL_k, zL_o, zR_s, zR_k, zR_o, zIL, zIR, zIN, zLI, zLR, zLN, zRI, zRL, zRN, true_and, and_true, not_true_eq_false, not_false_eq_true, true_implies, false_implies, implies_true, forall_const, if_true, if_false, eq_self, false_and, and_false, implies_true, nI_l, ylle_t, ylle_f, xcl_t, xcl_f]
    exact kk _ hr (mK_0 h)
  · intro S z e hS _
    rw [gSet_1 z] at kk
    refine u_X11_time_10 (d1' := d - 1) (zRf_I hr _ _ _) (by omega) ?_
    simp (disch := omega) only [xle_t, xle_f, xlt_t, xlt_f, xeq_t, xeq_f, xle0_t, xle0_f, xlt0_f, x0lt_t, x0lt_f, x0le_t, xeq0_t, xeq0_f, xin, xem_f, xme_f, xlem_f, xlm_f, xml_t, xmle_t, nI_clamp, nI_add, pk_mul, pk_sub, zI_s, zI_k, zI_o, zL_s, zL_k, zL_o, zR_s, zR_k, zR_o, zIL, zIR, zIN, zLI, zLR, zLN, zRI, zRL, zRN, true_and, and_true, not_true_eq_false, not_false_eq_true, true_implies, false_implies, implies_true, forall_const, if_true, if_false, eq_self, false_and, and_false, implies_true, nI_l, ylle_t, ylle_f, xcl_t, xcl_f, e]
    refine n_all (zRf_I hr _ _ _) hA0 hB.1 hS (by omega) (fun h1 r1 f1 _ _ K1 => ?_)
    have fin := kk h1 r1 ((mK_0 h).trans f1.k)
    refine u_X11_time_22 (d1' := d - 1) r1 (by omega) ?_
    by_cases y : -(nI 1) ≤ k
    · simp (disch := omega) only [xle_t, xle_f, xlt_t, xlt_f, xeq_t, xeq_f, xle0_t, xle0_f, xlt0_f, x0lt_t, x0lt_f, x0le_t, xeq0_t, xeq0_f, xin, xem_f, xme_f, xlem_f, xlm_f, xml_t, xmle_t, nI_clamp, nI_add, pk_mul, pk_sub, zI_s, zI_k, zI_o, zL_s, zL_k, zL_o, zR_s, zR_k, zR_o, zIL, zIR, zIN, zLI, zLR, zLN, zRI, zRL, zRN, true_and, and_true, not_true_eq_false, not_false_eq_true, true_implies, false_implies, implies_true, forall_const, if_true, if_false, eq_self, false_and, and_false, implies_true, nI_l, ylle_t, ylle_f, xcl_t, xcl_f, y]
      exact n_tat r1 K1 (by omega) (u_X11_time_36 fin)
    · have kn : k < 0 := by
        rw [Int32.lt_iff_toInt_lt]
        rw [Int32.le_iff_toInt_le] at y
        have : (-(nI 1)).toInt = -1 := by decide
        rw [this] at y
        show k.toInt < 0
        omega
      have k1 : ¬ k = -(nI 1) := fun q => y (by rw [q]; exact Int32.le_refl _)
      rw [gTim_neg kn k1] at fin
      simp (disch := omega) only [xle_t, xle_f, xlt_t, xlt_f, xeq_t, xeq_f, xle0_t, xle0_f, xlt0_f, x0lt_t, x0lt_f, x0le_t, xeq0_t, xeq0_f, xin, xem_f, xme_f, xlem_f, xlm_f, xml_t, xmle_t, nI_clamp, nI_add, pk_mul, pk_sub, zI_s, zI_k, zI_o, zL_s, zL_k, zL_o, zR_s, zR_k, zR_o, zIL, zIR, zIN, zLI, zLR, zLN, zRI, zRL, zRN, true_and, and_true, not_true_eq_false, not_false_eq_true, true_implies, false_implies, implies_true, forall_const, if_true, if_false, eq_self, false_and, and_false, implies_true, nI_l, ylle_t, ylle_f, xcl_t, xcl_f, y]
      exact fin
end OPS
