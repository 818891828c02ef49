/-! ===== nearest: both sides ===== -/
theorem gNe_at {f : Nat → Bool} {T v : Nat} (hf : tF f) (h0 : f 0 = false) (hv : f v = true) (hm : ∀ u, f u = true → dis T v ≤ dis T u ∧ (dis T u = dis T v → v ≤ u)) : gNe f T = nI v := by
  have v1 : 1 ≤ v := Nat.one_le_iff_ne_zero.mpr (fun q => by rw [q, h0] at hv; cases hv)
  have := (hf v hv).2
  unfold gNe
  rw [fNe_eq hv hm none v1 (by omega) (fun u q => by cases q)]
  rfl
theorem gNe_no {f : Nat → Bool} {T : Nat} (h : ∀ u, f u = false) : gNe f T = -(nI 1) := by
  unfold gNe
  rw [fNe_none (fun u _ => h u)]
  rfl
section OPS
variable {B : BK} {out : Bool} {h : MH} {d : Nat} {Q : Option MV → MH → Prop}
theorem xm_lt {a : Nat} (ha : a < 2 ^ 31) : (-(nI 1) < nI a) = True := xml_t ha
theorem xlt_m {a : Nat} (ha : a < 2 ^ 31) : (nI a < -(nI 1)) = False := xlm_f ha
theorem c_nea {w T : Nat} {f : Nat → Bool} {v0 v1 v2 : Int32} (hr : zRf h) (hz : zokO h (w - 1) 3) (hw0 : 0 < w) (hT : T < 2 ^ 31) (hf : tF f) (h0 : f 0 = false) (hK : wKw (fun i => f (16 * i)) (h.2.1 w)) (hd : 2 ≤ d) (kk : Q (some (.inl (gNe f T))) h) : J mX10_nearest d 0 0 Q 0 0 23 [some (.inr (.inr 1)), some (.inl v1), some (.inl v2), some (.inl (nI T)), none, none, none] [.inr (.inr (w - 1))] h := by
  refine u_X10_nearest_23 (d1' := d - 1) (by omega) ⟨hz, ?_⟩
  refine c_lst (f := f) (g := fun i => f (16 * i)) hr hz hw0 hT (fun _ => rfl) hf hK (by omega) ?_ ?_
  · intro nb
    refine u_X10_nearest_31 (d1' := d - 1) (by omega) ⟨hz, ?_⟩
    refine c_fst (f := f) (g := fun i => f (16 * i)) hr hz hw0 hT (fun _ => rfl) hf hK (by omega) ?_ ?_
    · intro na
      have e : gNe f T = -(nI 1) := gNe_no (fun u => by
        rcases Nat.le_total u T with y | y
        · exact nb u y
        · exact na u y)
      rw [e] at kk
      refine u_X10_nearest_39 (by omega) ?_
      simp (disch := omega) only [xle_t, xle_f, xlt_t, xlt_f, xeq_t, xeq_f, xle0_t, xle0_f, xlt0_f, x0lt_t, x0lt_f, x0le_t, xeq0_t, xeq0_f, xin, xem_f, xme_f, xlem_f, xlm_f, xml_t, xmle_t, nI_clamp, nI_add, pk_mul, pk_sub, zI_s, zI_k, zI_o, zL_s, zL_k, zL_o, zR_s, zR_k, zR_o, zIL, zIR, zIN, zLI, zLR, zLN, zRI, zRL, zRN, true_and, and_true, not_true_eq_false, not_false_eq_true, true_implies, false_implies, implies_true, forall_const, if_true, if_false, eq_self, false_and, and_false, implies_true, nI_l, ylle_t, ylle_f, xcl_t, xcl_f]
      rw [if_neg (Int32.lt_irrefl)]
      exact kk
    · intro a fa aT na
      have ab := (hf a fa).2
      have e : gNe f T = nI a := gNe_at hf h0 fa (fun u fu => by
        have u1 : T < u := Nat.lt_of_not_le (fun q => by rw [nb u q] at fu; cases fu)
        have u2 : a ≤ u := Nat.le_of_not_lt (fun q => by rw [na u (by omega) q] at fu; cases fu)
        unfold dis
        rw [if_neg (by omega), if_neg (by omega)]
        omega)
      rw [e] at kk
      refine u_X10_nearest_39 (by omega) ?_
      simp (disch := omega) only [xle_t, xle_f, xlt_t, xlt_f, xeq_t, xeq_f, xle0_t, xle0_f, xlt0_f, x0lt_t, x0lt_f, x0le_t, xeq0_t, xeq0_f, xin, xem_f, xme_f, xlem_f, xlm_f, xml_t, xmle_t, nI_clamp, nI_add, pk_mul, pk_sub, zI_s, zI_k, zI_o, zL_s, zL_k, zL_o, zR_s, zR_k, zR_o, zIL, zIR, zIN, zLI, zLR, zLN, zRI, zRL, zRN, true_and, and_true, not_true_eq_false, not_false_eq_true, true_implies, false_implies, implies_true, forall_const, if_true, if_false, eq_self, false_and, and_false, implies_true, nI_l, ylle_t, ylle_f, xcl_t, xcl_f]
      exact kk
  · intro b fb bT nb
    have bb := (hf b fb).2
    refine u_X10_nearest_31 (d1' := d - 1) (by omega) ⟨hz, ?_⟩
    refine c_fst (f := f) (g := fun i => f (16 * i)) hr hz hw0 hT (fun _ => rfl) hf hK (by omega) ?_ ?_
    · intro na
      have e : gNe f T = nI b := gNe_at hf h0 fb (fun u fu => by
        have u1 : u < T := Nat.lt_of_not_le (fun q => by rw [na u q] at fu; cases fu)
        have u2 : u ≤ b := Nat.le_of_not_lt (fun q => by rw [nb u q (by omega)] at fu; cases fu)
        have b1 : b < T := Nat.lt_of_not_le (fun q => by rw [na b q] at fb; cases fb)
        unfold dis
        rw [if_pos (by omega), if_pos (by omega)]
        omega)
      rw [e] at kk
      refine u_X10_nearest_39 (by omega) ?_
      simp (disch := omega) only [xle_t, xle_f, xlt_t, xlt_f, xeq_t, xeq_f, xle0_t, xle0_f, xlt0_f, x0lt_t, x0lt_f, x0le_t, xeq0_t, xeq0_f, xin, xem_f, xme_f, xlem_f, xlm_f, xml_t, xmle_t, nI_clamp, nI_add, pk_mul, pk_sub, zI_s, zI_k, zI_o, zL_s, zL_k, zL_o, zR_s, zR_k, zR_o, zIL, zIR, zIN, zLI, zLR, zLN, zRI, zRL, zRN, true_and, and_true, not_true_eq_false, not_false_eq_true, true_implies, false_implies, implies_true, forall_const, if_true, if_false, eq_self, false_and, and_false, implies_true, nI_l, ylle_t, ylle_f, xcl_t, xcl_f]
      exact kk
    · intro a fa aT na
      have ab := (hf a fa).2
      have out_ : ∀ u, f u = true → u ≤ b ∨ a ≤ u := fun u fu => by
        rcases Nat.lt_or_ge b u with y | y
        · refine Or.inr (Nat.le_of_not_lt (fun q => ?_))
          rcases Nat.le_total u T with y2 | y2
          · rw [nb u y y2] at fu; cases fu
          · rw [na u y2 q] at fu; cases fu
        · exact Or.inl y
      refine u_X10_nearest_39 (by omega) ?_
      rcases Nat.lt_or_ge (a - T) (T - b) with c1 | c1
      · have e : gNe f T = nI a := gNe_at hf h0 fa (fun u fu => by
          have := out_ u fu
          unfold dis
          rw [if_neg (by omega)]
          split <;> omega)
        rw [e] at kk
        simp (disch := omega) only [xle_t, xle_f, xlt_t, xlt_f, xeq_t, xeq_f, xle0_t, xle0_f, xlt0_f, x0lt_t, x0lt_f, x0le_t, xeq0_t, xeq0_f, xin, xem_f, xme_f, xlem_f, xlm_f, xml_t, xmle_t, nI_clamp, nI_add, pk_mul, pk_sub, zI_s, zI_k, zI_o, zL_s, zL_k, zL_o, zR_s, zR_k, zR_o, zIL, zIR, zIN, zLI, zLR, zLN, zRI, zRL, zRN, true_and, and_true, not_true_eq_false, not_false_eq_true, true_implies, false_implies, implies_true, forall_const, if_true, if_false, eq_self, false_and, and_false, implies_true, nI_l, ylle_t, ylle_f, xcl_t, xcl_f]
        exact kk
      · have e : gNe f T = nI b := gNe_at hf h0 fb (fun u fu => by
          have := out_ u fu
          unfold dis
          split <;> split <;> omega)
        rw [e] at kk
        simp (disch := omega) only [xle_t, xle_f, xlt_t, xlt_f, xeq_t, xeq_f, xle0_t, xle0_f, xlt0_f, x0lt_t, x0lt_f, x0le_t, xeq0_t, xeq0_f, xin, xem_f, xme_f, xlem_f, xlm_f, xml_t, xmle_t, nI_clamp, nI_add, pk_mul, pk_sub, zI_s, zI_k, zI_o, zL_s, zL_k, zL_o, zR_s, zR_k, zR_o, zIL, zIR, zIN, zLI, zLR, zLN, zRI, zRL, zRN, true_and, and_true, not_true_eq_false, not_false_eq_true, true_implies, false_implies, implies_true, forall_const, if_true, if_false, eq_self, false_and, and_false, implies_true, nI_l, ylle_t, ylle_f, xcl_t, xcl_f]
        exact kk
theorem wTm_0 {C : CE} {S : Nat} (hC : cOK C) (hS : wSet C S) : wTm C S out 0 = false := Bool.eq_false_iff.mpr (fun q => by have := (wTm_i hC hS q).2.2.2; omega)
theorem o_nea {x t : Int32} (hr : zRf h) (hA : bAt B h 15) (hB : bOK B) (m0 : wMk B.1 false 98 h) (m1 : wMk B.1 true 100 h) (hd : 27 ≤ d) (kk : ∀ h', zRf h' → zF (fun a => a < 62 ∨ 100 < a) h h' → wMk B.1 false 98 h' → wMk B.1 true 100 h' → Q (some (.inl (gNea B x out t))) h') : Con mX10_nearest d 0 0 [.inr (.inr 1), .inl x, .inl (bI out), .inl t] h Q := by
  unfold gNea at kk
  refine u_X10_nearest (d1' := d - 1) hr (by omega) ?_
  refine c_ist hr hA.c16 hB.1 (by omega) (by omega) ?_ ?_
  · intro z
    rw [gSet_0 z] at kk
    refine u_X10_nearest_6 (d1' := d - 1) hr (by omega) ?_
    simp (disch := omega) only [xle_t, xle_f, xlt_t, xlt_f, xeq_t, xeq_f, xle0_t, xle0_f, xlt0_f, x0lt_t, x0lt_f, x0le_t, xeq0_t, xeq0_f, xin, xem_f, xme_f, xlem_f, xlm_f, xml_t, xmle_t, nI_clamp, nI_add, pk_mul, pk_sub, zI_s, zI_k, zI_o, zL_s, zL_k, zL_o, zR_s, zR_k, zR_o, zIL, zIR, zIN, zLI, zLR, zLN, zRI, zRL, zRN, true_and, and_true, not_true_eq_false, not_false_eq_true, true_implies, false_implies, implies_true, forall_const, if_true, if_false, eq_self, false_and, and_false, implies_true, nI_l, ylle_t, ylle_f, xcl_t, xcl_f]
    exact kk h hr zF.rfl m0 m1
  · intro S z e hS _
    rw [gSet_1 z] at kk
    refine u_X10_nearest_6 (d1' := d - 1) hr (by omega) ?_
    rcases pos_c t with t0 | ⟨T, t0, t1, rfl⟩
    · rw [gT1_0 t0] at kk
      simp (disch := omega) only [xle_t, xle_f, xlt_t, xlt_f, xeq_t, xeq_f, xle0_t, xle0_f, xlt0_f, x0lt_t, x0lt_f, x0le_t, xeq0_t, xeq0_f, xin, xem_f, xme_f, xlem_f, xlm_f, xml_t, xmle_t, nI_clamp, nI_add, pk_mul, pk_sub, zI_s, zI_k, zI_o, zL_s, zL_k, zL_o, zR_s, zR_k, zR_o, zIL, zIR, zIN, zLI, zLR, zLN, zRI, zRL, zRN, true_and, and_true, not_true_eq_false, not_false_eq_true, true_implies, false_implies, implies_true, forall_const, if_true, if_false, eq_self, false_and, and_false, implies_true, nI_l, ylle_t, ylle_f, xcl_t, xcl_f, t0]
      exact kk h hr zF.rfl m0 m1
    · rw [gT1_1 t0 t1] at kk
      simp (disch := omega) only [xle_t, xle_f, xlt_t, xlt_f, xeq_t, xeq_f, xle0_t, xle0_f, xlt0_f, x0lt_t, x0lt_f, x0le_t, xeq0_t, xeq0_f, xin, xem_f, xme_f, xlem_f, xlm_f, xml_t, xmle_t, nI_clamp, nI_add, pk_mul, pk_sub, zI_s, zI_k, zI_o, zL_s, zL_k, zL_o, zR_s, zR_k, zR_o, zIL, zIR, zIN, zLI, zLR, zLN, zRI, zRL, zRN, true_and, and_true, not_true_eq_false, not_false_eq_true, true_implies, false_implies, implies_true, forall_const, if_true, if_false, eq_self, false_and, and_false, implies_true, nI_l, ylle_t, ylle_f, xcl_t, xcl_f, e]
      refine c_all hr hA hB hS m0 m1 (by omega) (fun h1 r1 f1 n0 n1 z1 K1 => ?_)
      exact c_nea (v0 := 0) r1 z1 (wMo_0 out) t1 (wTm_F hB.1 hS) (wTm_0 hB.1 hS) K1 (by omega) (kk h1 r1 f1 n0 n1)
theorem l_sub {a b : Nat} (h : b ≤ a) (ha : a < 2 ^ 31) : lN a - lN b = lN (a - b) := by
  refine Int64.toInt_inj.mp ?_
  rw [Int64.toInt_sub, pk_lT (by omega), pk_lT (by omega), pk_lT (by omega), Int.bmod_eq_of_le (by omega) (by omega)]
  omega
theorem n_nea {x t : Int32} (hr : zRf h) (hA : bIn B (h.1 112) 0) (hB : bOK B) (hd : 12 ≤ d) (kk : ∀ h', zRf h' → mK h h' → Q (some (.inl (gNea B x out t))) h') : Con mX11_nearest d 0 0 [.inr (.inr 111), .inl x, .inl (bI out), .inl t] h Q := by
  unfold gNea at kk
  refine u_X11_nearest (d1' := d - 1) hr (by omega) ?_
  have hA0 : cIn B.1 ((zsI h 111 0 (nI 0)).1 112) 0 := by rw [zI_o _ _ _ (by omega)]; exact hA.1
  refine n_ist (zRf_I hr _ _ _) hA0 hB.1 (by omega) ?_ ?_
  · intro z
    rw [gSet_0 z] at kk
    refine u_X11_nearest_10 (d1' := d - 1) (zRf_I hr _ _ _) (by omega) ?_
    simp (disch := omega) only [xle_t, xle_f, xlt_t, xlt_f, xeq_t, xeq_f, xle0_t, xle0_f, xlt0_f, x0lt_t, x0lt_f, x0le_t, xeq0_t, xeq0_f, xin, xem_f, xme_f, xlem_f, xlm_f, xml_t, xmle_t, nI_clamp, nI_add, pk_mul, pk_sub, zI_s, zI_k, zI_o, zL_s, zL_k, zL_o, zR_s, zR_k, zR_o, zIL, zIR, zIN, zLI, zLR, zLN, zRI, zRL, zRN, true_and, and_true, not_true_eq_false, not_false_eq_true, true_implies, false_implies, implies_true, forall_const, if_true, if_false, eq_self, false_and, and_false, implies_true, nI_l, ylle_t, ylle_f, xcl_t, xcl_f]
    exact kk _ hr (mK_0 h)
  · intro S z e hS n4
    rw [gSet_1 z] at kk
    refine u_X11_nearest_10 (d1' := d - 1) (zRf_I hr _ _ _) (by omega) ?_
    rcases pos_c t with t0 | ⟨T, t0, t1, rfl⟩
    · rw [gT1_0 t0] at kk
      simp (disch := omega) only [xle_t, xle_f, xlt_t, xlt_f, xeq_t, xeq_f, xle0_t, xle0_f, xlt0_f, x0lt_t, x0lt_f, x0le_t, xeq0_t, xeq0_f, xin, xem_f, xme_f, xlem_f, xlm_f, xml_t, xmle_t, nI_clamp, nI_add, pk_mul, pk_sub, zI_s, zI_k, zI_o, zL_s, zL_k, zL_o, zR_s, zR_k, zR_o, zIL, zIR, zIN, zLI, zLR, zLN, zRI, zRL, zRN, true_and, and_true, not_true_eq_false, not_false_eq_true, true_implies, false_implies, implies_true, forall_const, if_true, if_false, eq_self, false_and, and_false, implies_true, nI_l, ylle_t, ylle_f, xcl_t, xcl_f, t0]
      exact kk _ hr (mK_0 h)
    · rw [gT1_1 t0 t1] at kk
      simp (disch := omega) only [xle_t, xle_f, xlt_t, xlt_f, xeq_t, xeq_f, xle0_t, xle0_f, xlt0_f, x0lt_t, x0lt_f, x0le_t, xeq0_t, xeq0_f, xin, xem_f, xme_f, xlem_f, xlm_f, xml_t, xmle_t, nI_clamp, nI_add, pk_mul, pk_sub, zI_s, zI_k, zI_o, zL_s, zL_k, zL_o, zR_s, zR_k, zR_o, zIL, zIR, zIN, zLI, zLR, zLN, zRI, zRL, zRN, true_and, and_true, not_true_eq_false, not_false_eq_true, true_implies, false_implies, implies_true, forall_const, if_true, if_false, eq_self, false_and, and_false, implies_true, nI_l, ylle_t, ylle_f, xcl_t, xcl_f, e]
      refine n_all (zRf_I hr _ _ _) hA0 hB.1 hS (by omega) (fun h1 r1 f1 e38 e128 K1 => ?_)
      have fin := kk h1 r1 ((mK_0 h).trans f1.k)
      unfold gNe at fin
      refine u_X11_nearest_27 ?_
      generalize wTm B.1 S out = f at K1 fin
      have L : ∀ m t b, t + m = 371200 → (∀ v, b = some v → v < t) → Q (some (.inl (oI (fNe f T m t b)))) h1 → ∀ u8, J mX11_nearest d 0 0 Q 0 0 36 [some (.inr (.inr 111)), some (.inl (nI S)), some (.inl (bI out)), some (.inl (nI T)), some (.inl (oI b)), some (.inr (.inl (lN (match b with
          | none => 0
          | some v => dis T v)))), none, some (.inl (nI t)), u8, none] [] h1 := by
        intro m
        induction m with
        | zero =>
          intro t b ht hb kq u8
          obtain rfl : t = 371200 := by omega
          refine u_X11_nearest_36 r1 (by omega) ?_
          rw [show nI 32 * nI 11600 = nI 371200 from rfl]
          simp (disch := omega) only [xle_t, xle_f, xlt_t, xlt_f, xeq_t, xeq_f, xle0_t, xle0_f, xlt0_f, x0lt_t, x0lt_f, x0le_t, xeq0_t, xeq0_f, xin, xem_f, xme_f, xlem_f, xlm_f, xml_t, xmle_t, nI_clamp, nI_add, pk_mul, pk_sub, zI_s, zI_k, zI_o, zL_s, zL_k, zL_o, zR_s, zR_k, zR_o, zIL, zIR, zIN, zLI, zLR, zLN, zRI, zRL, zRN, true_and, and_true, not_true_eq_false, not_false_eq_true, true_implies, false_implies, implies_true, forall_const, if_true, if_false, eq_self, false_and, and_false, implies_true, nI_l, ylle_t, ylle_f, xcl_t, xcl_f]
          exact kq
        | succ m ih =>
          intro t b ht hb kq u8
          have kq' : Q (some (.inl (oI (fNe f T m (t + 1) (if f t = true then nBt T t b else b))))) h1 := kq
          have eq : nI t / nI 32 = nI (t / 32) := pk_div (by omega) (by decide) (by decide)
          have er : nI t - nI t / nI 32 * nI 32 = nI (t % 32) := pk_rem (by omega) (by decide) (by decide)
          have eb := shw (h1.1 132 (t / 32)) (c := t % 32) (Nat.mod_lt _ (by decide))
          rw [K1 t (by omega)] at eb
          refine u_X11_nearest_36 r1 (by omega) ?_
          rw [show nI 32 * nI 11600 = nI 371200 from rfl, er, eq]
          cases ft : f t with
          | false =>
            rw [ft, if_neg (show ¬ (false = true) by decide)] at eb kq'
            simp (disch := omega) only [xle_t, xle_f, xlt_t, xlt_f, xeq_t, xeq_f, xle0_t, xle0_f, xlt0_f, x0lt_t, x0lt_f, x0le_t, xeq0_t, xeq0_f, xin, xem_f, xme_f, xlem_f, xlm_f, xml_t, xmle_t, nI_clamp, nI_add, pk_mul, pk_sub, zI_s, zI_k, zI_o, zL_s, zL_k, zL_o, zR_s, zR_k, zR_o, zIL, zIR, zIN, zLI, zLR, zLN, zRI, zRL, zRN, true_and, and_true, not_true_eq_false, not_false_eq_true, true_implies, false_implies, implies_true, forall_const, if_true, if_false, eq_self, false_and, and_false, implies_true, nI_l, ylle_t, ylle_f, xcl_t, xcl_f, eb]
            exact ih (t + 1) b (by omega) (fun v q => by have := hb v q; omega) kq' _
          | true =>
            rw [ft, if_pos rfl] at eb kq'
            have new := fun (b' : Option Nat) (e' : nBt T t b = b') (lt : ∀ v, b' = some v → v < t + 1) => ih (t + 1) b' (by omega) lt (by rw [← e']; exact kq')
            have dt : ∀ y : dis T t = (if t < T then T - t else t - T), True := fun _ => trivial
            rcases b with _ | v
            · have nw := new (some t) rfl (fun v q => by have := Option.some.inj q; omega)
              rw [show oI none = -(nI 1) from rfl]
              rw [show oI (some t) = nI t from rfl] at nw
              simp only at nw
              unfold dis at nw
              rcases Nat.lt_or_ge t T with c1 | c1
              · rw [if_pos c1] at nw
                simp (disch := omega) only [xle_t, xle_f, xlt_t, xlt_f, xeq_t, xeq_f, xle0_t, xle0_f, xlt0_f, x0lt_t, x0lt_f, x0le_t, xeq0_t, xeq0_f, xin, xem_f, xme_f, xlem_f, xlm_f, xml_t, xmle_t, nI_clamp, nI_add, pk_mul, pk_sub, zI_s, zI_k, zI_o, zL_s, zL_k, zL_o, zR_s, zR_k, zR_o, zIL, zIR, zIN, zLI, zLR, zLN, zRI, zRL, zRN, true_and, and_true, not_true_eq_false, not_false_eq_true, true_implies, false_implies, implies_true, forall_const, if_true, if_false, eq_self, false_and, and_false, implies_true, nI_l, ylle_t, ylle_f, xcl_t, xcl_f, eb, l_sub]
                exact nw _
              · rw [if_neg (by omega)] at nw
                simp (disch := omega) only [xle_t, xle_f, xlt_t, xlt_f, xeq_t, xeq_f, xle0_t, xle0_f, xlt0_f, x0lt_t, x0lt_f, x0le_t, xeq0_t, xeq0_f, xin, xem_f, xme_f, xlem_f, xlm_f, xml_t, xmle_t, nI_clamp, nI_add, pk_mul, pk_sub, zI_s, zI_k, zI_o, zL_s, zL_k, zL_o, zR_s, zR_k, zR_o, zIL, zIR, zIN, zLI, zLR, zLN, zRI, zRL, zRN, true_and, and_true, not_true_eq_false, not_false_eq_true, true_implies, false_implies, implies_true, forall_const, if_true, if_false, eq_self, false_and, and_false, implies_true, nI_l, ylle_t, ylle_f, xcl_t, xcl_f, eb, l_sub]
                exact nw _
            · have vt := hb v rfl
              have dv : dis T v < 2 ^ 63 := by unfold dis; split <;> omega
              rw [show oI (some v) = nI v from rfl]
              rcases Nat.lt_or_ge t T with c1 | c1
              · have d1 : dis T t = T - t := if_pos c1
                by_cases c2 : dis T t < dis T v
                · have nw := new (some t) (if_pos c2) (fun v q => by have := Option.some.inj q; omega)
                  rw [show oI (some t) = nI t from rfl] at nw
                  simp only [d1] at nw
                  rw [d1] at c2
                  simp (disch := omega) only [xle_t, xle_f, xlt_t, xlt_f, xeq_t, xeq_f, xle0_t, xle0_f, xlt0_f, x0lt_t, x0lt_f, x0le_t, xeq0_t, xeq0_f, xin, xem_f, xme_f, xlem_f, xlm_f, xml_t, xmle_t, nI_clamp, nI_add, pk_mul, pk_sub, zI_s, zI_k, zI_o, zL_s, zL_k, zL_o, zR_s, zR_k, zR_o, zIL, zIR, zIN, zLI, zLR, zLN, zRI, zRL, zRN, true_and, and_true, not_true_eq_false, not_false_eq_true, true_implies, false_implies, implies_true, forall_const, if_true, if_false, eq_self, false_and, and_false, implies_true, nI_l, ylle_t, ylle_f, xcl_t, xcl_f, eb, l_sub, lgc_n, c2]
                  exact nw _
                · have nw := new (some v) (if_neg c2) (fun v' q => by have := Option.some.inj q; omega)
                  rw [show oI (some v) = nI v from rfl] at nw
                  simp only at nw
                  rw [d1] at c2
                  simp (disch := omega) only [xle_t, xle_f, xlt_t, xlt_f, xeq_t, xeq_f, xle0_t, xle0_f, xlt0_f, x0lt_t, x0lt_f, x0le_t, xeq0_t, xeq0_f, xin, xem_f, xme_f, xlem_f, xlm_f, xml_t, xmle_t, nI_clamp, nI_add, pk_mul, pk_sub, zI_s, zI_k, zI_o, zL_s, zL_k, zL_o, zR_s, zR_k, zR_o, zIL, zIR, zIN, zLI, zLR, zLN, zRI, zRL, zRN, true_and, and_true, not_true_eq_false, not_false_eq_true, true_implies, false_implies, implies_true, forall_const, if_true, if_false, eq_self, false_and, and_false, implies_true, nI_l, ylle_t, ylle_f, xcl_t, xcl_f, eb, l_sub, lgc_n, c2]
                  exact nw _
              · have d1 : dis T t = t - T := if_neg (by omega)
                by_cases c2 : dis T t < dis T v
                · have nw := new (some t) (if_pos c2) (fun v q => by have := Option.some.inj q; omega)
                  rw [show oI (some t) = nI t from rfl] at nw
                  simp only [d1] at nw
                  rw [d1] at c2
                  simp (disch := omega) only [xle_t, xle_f, xlt_t, xlt_f, xeq_t, xeq_f, xle0_t, xle0_f, xlt0_f, x0lt_t, x0lt_f, x0le_t, xeq0_t, xeq0_f, xin, xem_f, xme_f, xlem_f, xlm_f, xml_t, xmle_t, nI_clamp, nI_add, pk_mul, pk_sub, zI_s, zI_k, zI_o, zL_s, zL_k, zL_o, zR_s, zR_k, zR_o, zIL, zIR, zIN, zLI, zLR, zLN, zRI, zRL, zRN, true_and, and_true, not_true_eq_false, not_false_eq_true, true_implies, false_implies, implies_true, forall_const, if_true, if_false, eq_self, false_and, and_false, implies_true, nI_l, ylle_t, ylle_f, xcl_t, xcl_f, eb, l_sub, lgc_n, c2]
                  exact nw _
                · have nw := new (some v) (if_neg c2) (fun v' q => by have := Option.some.inj q; omega)
                  rw [show oI (some v) = nI v from rfl] at nw
                  simp only at nw
                  rw [d1] at c2
                  simp (disch := omega) only [xle_t, xle_f, xlt_t, xlt_f, xeq_t, xeq_f, xle0_t, xle0_f, xlt0_f, x0lt_t, x0lt_f, x0le_t, xeq0_t, xeq0_f, xin, xem_f, xme_f, xlem_f, xlm_f, xml_t, xmle_t, nI_clamp, nI_add, pk_mul, pk_sub, zI_s, zI_k, zI_o, zL_s, zL_k, zL_o, zR_s, zR_k, zR_o, zIL, zIR, zIN, zLI, zLR, zLN, zRI, zRL, zRN, true_and, and_true, not_true_eq_false, not_false_eq_true, true_implies, false_implies, implies_true, forall_const, if_true, if_false, eq_self, false_and, and_false, implies_true, nI_l, ylle_t, ylle_f, xcl_t, xcl_f, eb, l_sub, lgc_n, c2]
                  exact nw _
      exact L 371199 1 none (by omega) (fun v q => by cases q) fin _
end OPS
