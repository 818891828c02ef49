/-! ===== night, chime, spare ===== -/
theorem nI_self (x : Int32) : nI x.toBitVec.toNat = x := Int32.toBitVec_inj.mp (by show BitVec.ofNat 32 _ = _; simp)
def nX (s : Int32) : Nat → Int32
  | 0 => s
  | c + 1 => (1103515245 : Int32) * nX s c + nI 12345
def nH (s : Int32) (c : Nat) : Nat := (nX s (c + 1)).toBitVec.toNat / 65536
theorem nH_lt (s : Int32) (c : Nat) : nH s c < 65536 := Nat.div_lt_of_lt_mul (nX s (c + 1)).toBitVec.isLt
def nPc (C : CE) (s : Int32) (c : Nat) : Nat := 100 + nH s c % (2 * C.2.2.2.2 c + 1) - C.2.2.2.2 c
def fN (C : CE) (s : Int32) (c : Nat) : Nat := if c < C.1 then cS C c * nPc C s c / 100 * 256 else 0
theorem nPc_b {C : CE} (hC : cOK C) (s : Int32) {c : Nat} (hc : c < C.1) : 50 ≤ nPc C s c ∧ nPc C s c ≤ 150 := by
  have h1 := (hC.2 c hc).2.2.2
  have h2 : nH s c % (2 * C.2.2.2.2 c + 1) < 2 * C.2.2.2.2 c + 1 := Nat.mod_lt _ (by omega)
  unfold nPc
  omega
theorem mp_b {s p : Nat} (h1 : 256 ≤ s) (h2 : s ≤ 92160) (h3 : 50 ≤ p) (h4 : p ≤ 150) : 1 ≤ s * p / 100 ∧ s * p / 100 ≤ 138240 ∧ s * p ≤ 13824000 := by
  have a1 : 256 * 50 ≤ s * p := Nat.mul_le_mul h1 h3
  have a2 : s * p ≤ 92160 * 150 := Nat.mul_le_mul h2 h4
  omega
theorem fN_ok {C : CE} (hC : cOK C) (s : Int32) : fOK C.1 (fN C s) := by
  refine ⟨hC.1, fun c hc => ?_, fun c hc => if_neg (by omega), ?_⟩
  · have e : fN C s c = cS C c * nPc C s c / 100 * 256 := if_pos hc
    obtain ⟨b1, b2⟩ := nPc_b hC s hc
    have := mp_b (cS_pos hC hc) (cS_le hC hc) b1 b2
    rw [e]
    exact ⟨Nat.dvd_mul_left _ _, by omega⟩
  · have : fb_sm (fN C s) C.1 ≤ C.1 * 35389440 := fb_sm_bound (fun k hk => by
      have e : fN C s k = cS C k * nPc C s k / 100 * 256 := if_pos hk
      obtain ⟨b1, b2⟩ := nPc_b hC s hk
      have := mp_b (cS_pos hC hk) (cS_le hC hk) b1 b2
      omega)
    have h8 := hC.1
    omega
noncomputable def gNight (B : BK) (x s k : Int32) : Int32 := gP x (fun p => fBell (rPlay (B.2 p) B.1.1 40 1024000000 (fN B.1 s)) k)
theorem nHx (s : Int32) (c : Nat) : ((((1103515245 : Int32) * nX s c + nI 12345).toUInt32 >>> ((nI 16).toUInt32 &&& Int32.toUInt32 31)).toInt32) = nI (nH s c) := by
  have := pk_ushr ((1103515245 : Int32) * nX s c + nI 12345) (nI 16) 16 rfl
  rw [← nI_self ((((1103515245 : Int32) * nX s c + nI 12345).toUInt32 >>> ((nI 16).toUInt32 &&& Int32.toUInt32 31)).toInt32), this]
  rfl
theorem o_night {B : BK} {h : MH} {d : Nat} {x s k : Int32} {Q : Option MV → MH → Prop} (hr : zRf h) (hA : bAt B h 15) (hB : bOK B) (hd : 6 ≤ d) (kk : ∀ h', zRf h' → cF h h' → Q (some (.inl (gNight B x s k))) h') : Con mX10_night d 0 0 [.inr (.inr 1), .inl x, .inl s, .inl k] h Q := by
  unfold gNight at kk
  have h8 := hB.1.1
  refine u_X10_night (d1' := 4) hr (by omega) (by omega) ?_
  rcases ix3 x (n := 4) (by omega) with ⟨z, x1, _⟩ | ⟨z, x1, x2, _⟩ | ⟨p, hp, rfl, z⟩
  · rw [gP_none z] at kk
    simp (disch := omega) only [xle_t, xle_f, xlt_t, xlt_f, xeq_t, xeq_f, xle0_t, xle0_f, xlt0_f, x0lt_t, x0lt_f, x0le_t, xeq0_t, xeq0_f, xin, xem_f, xme_f, xlem_f, xlm_f, xml_t, xmle_t, nI_clamp, nI_add, pk_mul, pk_sub, zI_s, zI_k, zI_o, zL_s, zL_k, zL_o, zR_s, zR_k, zR_o, zIL, zIR, zIN, zLI, zLR, zLN, zRI, zRL, zRN, true_and, and_true, not_true_eq_false, not_false_eq_true, true_implies, false_implies, implies_true, forall_const, if_true, if_false, eq_self, false_and, and_false, implies_true, nI_l, ylle_t, ylle_f, xcl_t, xcl_f, x1]
    exact kk h hr zF.rfl
  · rw [gP_none z] at kk
    simp (disch := omega) only [xle_t, xle_f, xlt_t, xlt_f, xeq_t, xeq_f, xle0_t, xle0_f, xlt0_f, x0lt_t, x0lt_f, x0le_t, xeq0_t, xeq0_f, xin, xem_f, xme_f, xlem_f, xlm_f, xml_t, xmle_t, nI_clamp, nI_add, pk_mul, pk_sub, zI_s, zI_k, zI_o, zL_s, zL_k, zL_o, zR_s, zR_k, zR_o, zIL, zIR, zIN, zLI, zLR, zLN, zRI, zRL, zRN, true_and, and_true, not_true_eq_false, not_false_eq_true, true_implies, false_implies, implies_true, forall_const, if_true, if_false, eq_self, false_and, and_false, implies_true, nI_l, ylle_t, ylle_f, xcl_t, xcl_f, x1, x2]
    exact kk h hr zF.rfl
  rw [gP_some hp] at kk
  simp (disch := omega) only [xle_t, xle_f, xlt_t, xlt_f, xeq_t, xeq_f, xle0_t, xle0_f, xlt0_f, x0lt_t, x0lt_f, x0le_t, xeq0_t, xeq0_f, xin, xem_f, xme_f, xlem_f, xlm_f, xml_t, xmle_t, nI_clamp, nI_add, pk_mul, pk_sub, zI_s, zI_k, zI_o, zL_s, zL_k, zL_o, zR_s, zR_k, zR_o, zIL, zIR, zIN, zLI, zLR, zLN, zRI, zRL, zRN, true_and, and_true, not_true_eq_false, not_false_eq_true, true_implies, false_implies, implies_true, forall_const, if_true, if_false, eq_self, false_and, and_false, implies_true, nI_l, ylle_t, ylle_f, xcl_t, xcl_f]
  refine c_lay hr hA.1 hB.1 (by omega) (fun h1 r1 f1 a1 b1 => ?_)
  refine u_X10_night_24 ?_
  have L : ∀ m c, c + m = B.1.1 → ∀ (g : MH) (u6 u7 : Option MV), zRf g → zF (fun a => a ≠ 48 ∧ a ≠ 49) h g → g.1 48 0 = nI B.1.1 → (∀ z, z < c → g.1 49 z = nI (fN B.1 s z)) → J mX10_night d 0 0 Q 0 0 30 [some (.inr (.inr 1)), some (.inl (nI p)), some (.inl s), some (.inl k), some (.inl (nX s c)), some (.inl (nI c)), u6, u7] [] g := by
    intro m
    induction m with
    | zero =>
      intro c hc g u6 u7 rg fg g0 hz
      have hA' : bAt B g 15 := hA.keepF (fg.weak (fun a q => by omega))
      have e16 : g.1 16 0 = nI B.1.1 := hA'.1.1
      refine u_X10_night_30 (d1' := 4) (d2' := 0) rg (by omega) (by omega) ?_
      simp (disch := omega) only [xle_t, xle_f, xlt_t, xlt_f, xeq_t, xeq_f, xle0_t, xle0_f, xlt0_f, x0lt_t, x0lt_f, x0le_t, xeq0_t, xeq0_f, xin, xem_f, xme_f, xlem_f, xlm_f, xml_t, xmle_t, nI_clamp, nI_add, pk_mul, pk_sub, zI_s, zI_k, zI_o, zL_s, zL_k, zL_o, zR_s, zR_k, zR_o, zIL, zIR, zIN, zLI, zLR, zLN, zRI, zRL, zRN, true_and, and_true, not_true_eq_false, not_false_eq_true, true_implies, false_implies, implies_true, forall_const, if_true, if_false, eq_self, false_and, and_false, implies_true, nI_l, ylle_t, ylle_f, xcl_t, xcl_f, e16]
      refine c_playat (lo := 40) (u := 1024000000) (f := fN B.1 s) rg hA' hB hp (fN_ok hB.1 s) g0 (fun z hz2 => hz z (by omega)) (by omega) (by omega) (fun h2 r2 f2 s2 => ?_)
      exact u_X10_night_149 r2 (by omega) (c_bellH s2.1.2 (rPlay_o (hB.2 p hp) (fN_ok hB.1 s)) (kk h2 r2 ((fg.weak (fun a q => by omega)).trans f2.c)))
    | succ m ih =>
      intro c hc g u6 u7 rg fg g0 hz
      have hA' : bAt B g 15 := hA.keepF (fg.weak (fun a q => by omega))
      have e16 : g.1 16 0 = nI B.1.1 := hA'.1.1
      have e20 : g.1 20 c = nI (B.1.2.2.2.2 c) := (hA'.1.2 c (by omega)).2.2.2
      have hdr := (hB.1.2 c (by omega)).2.2.2
      have hH := nH_lt s c
      refine u_X10_night_30 (d1' := 0) (d2' := 3) rg (by omega) (by omega) ?_
      have hx := nHx s c
      have e7 : nI 100 + nI (nH s c % (2 * B.1.2.2.2.2 c + 1)) - nI (B.1.2.2.2.2 c) = nI (nPc B.1 s c) := by
        rw [nI_add, pk_sub (by omega)]; rfl
      have hrem : nI (nH s c) - nI (nH s c) / nI (2 * B.1.2.2.2.2 c + 1) * nI (2 * B.1.2.2.2.2 c + 1) = nI (nH s c % (2 * B.1.2.2.2.2 c + 1)) := pk_rem (by omega) (by omega) (by omega)
      have e2 : nI 2 * nI (B.1.2.2.2.2 c) + nI 1 = nI (2 * B.1.2.2.2.2 c + 1) := by rw [pk_mul, nI_add]
      have hne : ¬ nI (2 * B.1.2.2.2.2 c + 1) = 0 := nI_ne0 (by omega) (by omega)
      have c1 : (nI B.1.1 ≤ nI c) = False := xle_f (by omega) (by omega)
      have ec : (nI c).toNatClampNeg = c := nI_clamp (by omega)
      simp only [e16, c1, hx, ec, e20, e2, hrem, e7, false_implies, true_and, not_false_eq_true, true_implies, hne]
      refine ⟨vp_in_nI (by omega) (by omega), ?_⟩
      refine c_sof rg hA'.1 (zo rg (by decide) rfl) hB.1 (by omega) (by omega) ?_
      refine u_X10_night_113 ⟨zia rg (by decide) rfl (vp_in_nI (by omega) (by omega)), ?_⟩
      obtain ⟨b1, b2⟩ := nPc_b hB.1 s (c := c) (by omega)
      have hm := mp_b (cS_pos hB.1 (c := c) (by omega)) (cS_le hB.1 (c := c) (by omega)) b1 b2
      have ef : fN B.1 s c = cS B.1 c * nPc B.1 s c / 100 * 256 := if_pos (by omega)
      rw [pk_mul, pk_div (by omega) (by omega) (by omega), pk_mul, ← ef, ec, nI_add]
      refine ih (c + 1) (by omega) _ _ _ rg (fg.trans (zF_I _ _ _ (by omega))) ?_ (fun z hzc => ?_)
      · rw [zI_o _ _ _ (by omega)]; exact g0
      · by_cases y : z = c
        · rw [y, zI_s]
        · rw [zI_k _ _ _ y]; exact hz z (by omega)
  exact L B.1.1 0 (by omega) h1 none none r1 f1 a1 (fun z hz => absurd hz (Nat.not_lt_zero _))
theorem n_night {B : BK} {h : MH} {d : Nat} {x s k : Int32} {Q : Option MV → MH → Prop} (hr : zRf h) (hA : bIn B (h.1 112) 0) (hB : bOK B) (h28 : h.1 111 28 = -(nI 1)) (hd : 5 ≤ d) (kk : ∀ h', zRf h' → mK h h' → Q (some (.inl (gNight B x s k))) h') : Con mX11_night d 0 0 [.inr (.inr 111), .inl x, .inl s, .inl k] h Q := by
  unfold gNight at kk
  have h8 := hB.1.1
  have hA0 : bIn B ((zsI h 111 0 (nI 0)).1 112) 0 := hA
  refine u_X11_night (d1' := 2) hr (by omega) (by omega) ?_
  rcases ix3 x (n := 4) (by omega) with ⟨z, _, x1⟩ | ⟨z, _, _, x1, _, x2, _⟩ | ⟨p, hp, rfl, z⟩
  · rw [gP_none z] at kk
    simp (disch := omega) only [xle_t, xle_f, xlt_t, xlt_f, xeq_t, xeq_f, xle0_t, xle0_f, xlt0_f, x0lt_t, x0lt_f, x0le_t, xeq0_t, xeq0_f, xin, xem_f, xme_f, xlem_f, xlm_f, xml_t, xmle_t, nI_clamp, nI_add, pk_mul, pk_sub, zI_s, zI_k, zI_o, zL_s, zL_k, zL_o, zR_s, zR_k, zR_o, zIL, zIR, zIN, zLI, zLR, zLN, zRI, zRL, zRN, true_and, and_true, not_true_eq_false, not_false_eq_true, true_implies, false_implies, implies_true, forall_const, if_true, if_false, eq_self, false_and, and_false, implies_true, nI_l, ylle_t, ylle_f, xcl_t, xcl_f, x1, y_3]
    exact kk _ hr (mK_0 h)
  · rw [gP_none z] at kk
    simp (disch := omega) only [xle_t, xle_f, xlt_t, xlt_f, xeq_t, xeq_f, xle0_t, xle0_f, xlt0_f, x0lt_t, x0lt_f, x0le_t, xeq0_t, xeq0_f, xin, xem_f, xme_f, xlem_f, xlm_f, xml_t, xmle_t, nI_clamp, nI_add, pk_mul, pk_sub, zI_s, zI_k, zI_o, zL_s, zL_k, zL_o, zR_s, zR_k, zR_o, zIL, zIR, zIN, zLI, zLR, zLN, zRI, zRL, zRN, true_and, and_true, not_true_eq_false, not_false_eq_true, true_implies, false_implies, implies_true, forall_const, if_true, if_false, eq_self, false_and, and_false, implies_true, nI_l, ylle_t, ylle_f, xcl_t, xcl_f, x1, y_3, x2 3 rfl]
    exact kk _ hr (mK_0 h)
  rw [gP_some hp] at kk
  simp (disch := omega) only [xle_t, xle_f, xlt_t, xlt_f, xeq_t, xeq_f, xle0_t, xle0_f, xlt0_f, x0lt_t, x0lt_f, x0le_t, xeq0_t, xeq0_f, xin, xem_f, xme_f, xlem_f, xlm_f, xml_t, xmle_t, nI_clamp, nI_add, pk_mul, pk_sub, zI_s, zI_k, zI_o, zL_s, zL_k, zL_o, zR_s, zR_k, zR_o, zIL, zIR, zIN, zLI, zLR, zLN, zRI, zRL, zRN, true_and, and_true, not_true_eq_false, not_false_eq_true, true_implies, false_implies, implies_true, forall_const, if_true, if_false, eq_self, false_and, and_false, implies_true, nI_l, ylle_t, ylle_f, xcl_t, xcl_f, y_3]
  refine n_ast hr hA0.1 hB.1 (by omega) (fun h1 r1 f1 m1 => ?_)
  have hA1 : bIn B (h1.1 112) 0 := by rw [f1.i (by omega)]; exact hA0
  have k1 := (mK_0 h).trans (mK_116 f1)
  refine u_X11_night_19 ?_
  have L : ∀ m c, c + m = B.1.1 → ∀ (g : MH) (u6 : Option MV), zRf g → zF (fun a => a ≠ 116) h1 g → (∀ z, z < 8 → g.1 116 z = nI (if z < c then fN B.1 s z else fT B.1 z)) → J mX11_night d 0 0 Q 0 0 25 [some (.inr (.inr 111)), some (.inl (nI p)), some (.inl s), some (.inl k), some (.inl (nX s c)), some (.inl (nI c)), u6] [] g := by
    intro m
    induction m with
    | zero =>
      intro c hc g u6 rg fg hz
      have hA2 : bIn B (g.1 112) 0 := by rw [fg.i (by omega)]; exact hA1
      have e16 : g.1 112 0 = nI B.1.1 := hA2.1.1
      have k2 := k1.trans (mK_116 fg)
      refine u_X11_night_25 (d1' := 4) (d2' := 0) rg (by omega) (by omega) ?_
      simp (disch := omega) only [xle_t, xle_f, xlt_t, xlt_f, xeq_t, xeq_f, xle0_t, xle0_f, xlt0_f, x0lt_t, x0lt_f, x0le_t, xeq0_t, xeq0_f, xin, xem_f, xme_f, xlem_f, xlm_f, xml_t, xmle_t, nI_clamp, nI_add, pk_mul, pk_sub, zI_s, zI_k, zI_o, zL_s, zL_k, zL_o, zR_s, zR_k, zR_o, zIL, zIR, zIN, zLI, zLR, zLN, zRI, zRL, zRN, true_and, and_true, not_true_eq_false, not_false_eq_true, true_implies, false_implies, implies_true, forall_const, if_true, if_false, eq_self, false_and, and_false, implies_true, nI_l, ylle_t, ylle_f, xcl_t, xcl_f, e16]
      refine n_runs (lo := 40) (f := fN B.1 s) rg hp (fN_ok hB.1 s) (fun z hz8 => ?_) (mP.of hA2 hp (k2.2.2.2.2.trans h28)) (hB.2 p hp) (Or.inl ⟨rfl, rfl⟩) (by omega) (fun h2 r2 f2 s2 => ?_)
      · rw [hz z hz8]
        by_cases y : z < c
        · rw [if_pos y]
        · have e1 : fN B.1 s z = 0 := if_neg (by omega)
          have e2 : fT B.1 z = 0 := if_neg (by omega)
          rw [if_neg y, e1, e2]
      · exact u_X11_night_111 r2 (by omega) (n_bellH s2.2 (rPlay_o (hB.2 p hp) (fN_ok hB.1 s)) (kk h2 r2 (k2.trans f2.k)))
    | succ m ih =>
      intro c hc g u6 rg fg hz
      have hA2 : bIn B (g.1 112) 0 := by rw [fg.i (by omega)]; exact hA1
      have e16 : g.1 112 0 = nI B.1.1 := hA2.1.1
      have e65 : g.1 112 (65 + c) = nI (B.1.2.2.2.2 c) := by
        have := (hA2.1.2.2 c (by omega)).2.2.2
        rw [Nat.zero_add] at this
        exact this
      have hdr := (hB.1.2 c (by omega)).2.2.2
      have hH := nH_lt s c
      refine u_X11_night_25 (d1' := 0) (d2' := 1) rg (by omega) (by omega) ?_
      simp (disch := omega) only [xle_t, xle_f, xlt_t, xlt_f, xeq_t, xeq_f, xle0_t, xle0_f, xlt0_f, x0lt_t, x0lt_f, x0le_t, xeq0_t, xeq0_f, xin, xem_f, xme_f, xlem_f, xlm_f, xml_t, xmle_t, nI_clamp, nI_add, pk_mul, pk_sub, zI_s, zI_k, zI_o, zL_s, zL_k, zL_o, zR_s, zR_k, zR_o, zIL, zIR, zIN, zLI, zLR, zLN, zRI, zRL, zRN, true_and, and_true, not_true_eq_false, not_false_eq_true, true_implies, false_implies, implies_true, forall_const, if_true, if_false, eq_self, false_and, and_false, implies_true, nI_l, ylle_t, ylle_f, xcl_t, xcl_f, e16, e65]
      refine m_rest rg hA2.1 hB.1 (by omega) (by omega) ?_
      refine u_X11_night_72 ?_
      have hx := nHx s c
      have e7 : nI 100 + nI (nH s c % (2 * B.1.2.2.2.2 c + 1)) - nI (B.1.2.2.2.2 c) = nI (nPc B.1 s c) := by
        rw [nI_add, pk_sub (by omega)]; rfl
      have hrem : nI (nH s c) - nI (nH s c) / nI (2 * B.1.2.2.2.2 c + 1) * nI (2 * B.1.2.2.2.2 c + 1) = nI (nH s c % (2 * B.1.2.2.2.2 c + 1)) := pk_rem (by omega) (by omega) (by omega)
      have e2 : nI 2 * nI (B.1.2.2.2.2 c) + nI 1 = nI (2 * B.1.2.2.2.2 c + 1) := by rw [pk_mul, nI_add]
      have hne : ¬ nI (2 * B.1.2.2.2.2 c + 1) = 0 := nI_ne0 (by omega) (by omega)
      have ec : (nI c).toNatClampNeg = c := nI_clamp (by omega)
      simp only [hx, ec, e2, hrem, e7, not_false_eq_true, true_and, hne]
      refine ⟨zia rg (by decide) rfl (vp_in_nI (by omega) (by omega)), ?_⟩
      obtain ⟨b1, b2⟩ := nPc_b hB.1 s (c := c) (by omega)
      have hm := mp_b (cS_pos hB.1 (c := c) (by omega)) (cS_le hB.1 (c := c) (by omega)) b1 b2
      have ef : fN B.1 s c = cS B.1 c * nPc B.1 s c / 100 * 256 := if_pos (by omega)
      rw [pk_mul, pk_div (by omega) (by omega) (by omega), pk_mul, ← ef, nI_add]
      refine ih (c + 1) (by omega) _ _ rg (fg.trans (zF_I _ _ _ (by omega))) (fun z hz8 => ?_)
      by_cases y : z = c
      · rw [y, zI_s, if_pos (by omega)]
      · rw [zI_k _ _ _ y, hz z hz8]
        by_cases y2 : z < c
        · rw [if_pos y2, if_pos (by omega)]
        · rw [if_neg y2, if_neg (by omega)]
  exact L B.1.1 0 (by omega) h1 none r1 zF.rfl (fun z hz => by rw [if_neg (Nat.not_lt_zero _)]; exact m1 z hz)
/-! what is heard -/
def mHe (l : List Nat) (h : MH) : Prop := h.1 111 32 = nI l.length ∧ ∀ k, k < l.length → h.1 126 k = nI (l.getD k 0 / 256)
theorem getD_le {l : List Nat} {b : Nat} (h : ∀ x, x ∈ l → x ≤ b) {j : Nat} (hj : j < l.length) : l.getD j 0 ≤ b := h _ (by rw [List.getD_eq_getElem?_getD, List.getElem?_eq_getElem hj]; exact List.getElem_mem hj)
theorem getD_mem {l : List Nat} {j : Nat} (hj : j < l.length) : l.getD j 0 ∈ l := by rw [List.getD_eq_getElem?_getD, List.getElem?_eq_getElem hj]; exact List.getElem_mem hj
theorem rOut.be {P : PL} {n : Nat} {f : Nat → Nat} {R : RS} (ho : rOut P n f R) {j : Nat} (hj : j < R.2.1.length) : R.2.1.getD j 0 ≤ 400000000 := getD_le (fun x hx => Nat.le_trans (ho.2.2.2.2.1.1 x hx) ho.2.2.2.1) hj
/-- what the reference leaves where it hears -/
theorem n_hears {B : BK} {h : MH} {d p : Nat} {Q : Option MV → MH → Prop} (hr : zRf h) (hA : bIn B (h.1 112) 0) (hB : bOK B) (h28 : h.1 111 28 = -(nI 1)) (hp : p < 4) (hd : 5 ≤ d) (kk : ∀ h', zRf h' → mK h h' → mS B.1.1 (rTo B.1 (B.2 p)) h' → mHe (rTo B.1 (B.2 p)).2.1 h' → zF (fun a => 127 ≤ a ∧ a ≤ 139) h h' → Q none h') : Con mX11_hears d 0 0 [.inr (.inr 111), .inl (nI p)] h Q := by
  refine u_X11_hears (d1' := 2) hr (by omega) ?_
  refine n_ast hr hA.1 hB.1 (by omega) (fun h1 r1 f1 m1 => ?_)
  have hA1 : bIn B (h1.1 112) 0 := by rw [f1.i (by omega)]; exact hA
  have k1 := mK_116 f1
  refine u_X11_hears_4 (d1' := 4) r1 (by omega) ?_
  refine n_runs (lo := 40) r1 hp (fT_ok hB.1) m1 (mP.of hA1 hp (k1.2.2.2.2.trans h28)) (hB.2 p hp) (Or.inl ⟨rfl, rfl⟩) (by omega) (fun h2 r2 f2 s2 => ?_)
  have s2' : mS B.1.1 (rTo B.1 (B.2 p)) h2 := s2
  have ho := rTo_o hB hp
  have h40 := ho.1
  refine u_X11_hears_10 r2 ?_
  rw [s2'.2.1]
  have s3 : mS B.1.1 (rTo B.1 (B.2 p)) (zsI h2 111 32 (nI (rTo B.1 (B.2 p)).2.1.length)) := ⟨s2'.1.keep (fun a ha => zI_o _ _ _ (by omega)), s2'.2.keep (fun k hk => zI_k _ _ _ (by omega)) (zI_o _ _ _ (by omega)) (zI_o _ _ _ (by omega))⟩
  have k3 : mK h (zsI h2 111 32 (nI (rTo B.1 (B.2 p)).2.1.length)) := (k1.trans f2.k).trans ⟨zF_I _ _ _ (by omega), zI_k _ _ _ (by omega), zI_k _ _ _ (by omega), zI_k _ _ _ (by omega), zI_k _ _ _ (by omega)⟩
  have F3 : zF (fun a => 127 ≤ a ∧ a ≤ 139) h (zsI h2 111 32 (nI (rTo B.1 (B.2 p)).2.1.length)) := ((f1.weak (fun a q => by omega)).trans (f2.1.weak (fun a q => by omega))).trans (zF_I _ _ _ (by omega))
  have e32 : (zsI h2 111 32 (nI (rTo B.1 (B.2 p)).2.1.length)).1 111 32 = nI (rTo B.1 (B.2 p)).2.1.length := zI_s _ _ _ _
  have r3 : zRf (zsI h2 111 32 (nI (rTo B.1 (B.2 p)).2.1.length)) := r2
  generalize zsI h2 111 32 (nI (rTo B.1 (B.2 p)).2.1.length) = h3 at s3 k3 e32 r3 F3
  have hbe : ∀ j, j < (rTo B.1 (B.2 p)).2.1.length → (rTo B.1 (B.2 p)).2.1.getD j 0 ≤ 400000000 := fun j hj => ho.be hj
  generalize rTo B.1 (B.2 p) = R at s3 e32 h40 hbe kk
  have L : ∀ m i, i + m = R.2.1.length → ∀ g : MH, zRf g → zF (fun a => a ≠ 126) h3 g → (∀ j, j < i → g.1 126 j = nI (R.2.1.getD j 0 / 256)) → J mX11_hears d 0 0 Q 0 0 20 [some (.inr (.inr 111)), some (.inl (nI p)), some (.inl (nI i))] [] g := by
    intro m
    induction m with
    | zero =>
      intro i hi g rg fg hz
      have e25 : g.1 111 25 = nI R.2.1.length := by rw [fg.i (by omega)]; exact s3.2.1
      refine u_X11_hears_20 rg ?_
      simp (disch := omega) only [xle_t, xle_f, xlt_t, xlt_f, xeq_t, xeq_f, xle0_t, xle0_f, xlt0_f, x0lt_t, x0lt_f, x0le_t, xeq0_t, xeq0_f, xin, xem_f, xme_f, xlem_f, xlm_f, xml_t, xmle_t, nI_clamp, nI_add, pk_mul, pk_sub, zI_s, zI_k, zI_o, zL_s, zL_k, zL_o, zR_s, zR_k, zR_o, zIL, zIR, zIN, zLI, zLR, zLN, zRI, zRL, zRN, true_and, and_true, not_true_eq_false, not_false_eq_true, true_implies, false_implies, implies_true, forall_const, if_true, if_false, eq_self, false_and, and_false, implies_true, nI_l, ylle_t, ylle_f, xcl_t, xcl_f, e25]
      refine kk g rg (k3.trans ⟨fg.weak (fun a q => by omega), by rw [fg.i (by omega)], by rw [fg.i (by omega)], by rw [fg.i (by omega)], by rw [fg.i (by omega)]⟩) ⟨s3.1.keep (fun a ha => fg.i (by omega)), s3.2.keep (fun k hk => by rw [fg.i (by omega)]) (fg.i (by omega)) (fg.i (by omega))⟩ ⟨by rw [fg.i (by omega)]; exact e32, fun k hk => hz k (by omega)⟩ (F3.trans (fg.weak (fun a q => by omega)))
    | succ m ih =>
      intro i hi g rg fg hz
      have e25 : g.1 111 25 = nI R.2.1.length := by rw [fg.i (by omega)]; exact s3.2.1
      have e124 : g.1 124 i = nI (R.2.1.getD i 0) := by rw [fg.i (by omega)]; exact s3.2.2.1 i (by omega)
      have hb := hbe i (by omega)
      refine u_X11_hears_20 rg ?_
      simp (disch := omega) only [xle_t, xle_f, xlt_t, xlt_f, xeq_t, xeq_f, xle0_t, xle0_f, xlt0_f, x0lt_t, x0lt_f, x0le_t, xeq0_t, xeq0_f, xin, xem_f, xme_f, xlem_f, xlm_f, xml_t, xmle_t, nI_clamp, nI_add, pk_mul, pk_sub, zI_s, zI_k, zI_o, zL_s, zL_k, zL_o, zR_s, zR_k, zR_o, zIL, zIR, zIN, zLI, zLR, zLN, zRI, zRL, zRN, true_and, and_true, not_true_eq_false, not_false_eq_true, true_implies, false_implies, implies_true, forall_const, if_true, if_false, eq_self, false_and, and_false, implies_true, nI_l, ylle_t, ylle_f, xcl_t, xcl_f, e25, e124, pk_div]
      refine ih (i + 1) (by omega) _ rg (fg.trans (zF_I _ _ _ (by omega))) (fun j hj => ?_)
      by_cases y : j = i
      · rw [y, zI_s]
      · rw [zI_k _ _ _ y]; exact hz j (by omega)
  exact L R.2.1.length 0 (by omega) h3 r3 zF.rfl (fun j hj => absurd hj (Nat.not_lt_zero _))
