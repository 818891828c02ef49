/-! ===== runs (reference) ===== -/
theorem rBurn_app (s : Nat) : ∀ (m k c : Nat) (K : RC), rBurn s (m + k) c K = rBurn s k (c + m) (rBurn s m c K)
  | 0, k, c, K => by rw [Nat.zero_add]; rfl
  | m + 1, k, c, K => by
    rw [show m + 1 + k = (m + k) + 1 by omega]
    show rBurn s (m + k) (c + 1) (rBurn1 s c K) = rBurn s k (c + (m + 1)) (rBurn s m (c + 1) (rBurn1 s c K))
    rw [rBurn_app s m k (c + 1), show c + 1 + m = c + (m + 1) by omega]
theorem rBurn_zero (s : Nat) : ∀ (m c : Nat) (K : RC), (∀ x, c ≤ x → K.2.1 x = 0) → rBurn s m c K = K
  | 0, _, _, _ => rfl
  | m + 1, c, K, h => by
    have e : rBurn1 s c K = K := by unfold rBurn1; rw [if_neg (by rw [h c (Nat.le_refl _)]; omega)]
    show rBurn s m (c + 1) (rBurn1 s c K) = K
    rw [e]
    exact rBurn_zero s m (c + 1) K (fun x hx => h x (by omega))
theorem rBurn_8 {n s : Nat} {R : RS} (hV : rV n R) : rBurn s 8 0 R.1 = rBurn s n 0 R.1 := by
  have h8 := hV.1.1
  have e := rBurn_app s n (8 - n) 0 R.1
  rw [show n + (8 - n) = 8 by omega, Nat.zero_add] at e
  rw [e]
  refine rBurn_zero s _ _ _ (fun x hx => ?_)
  rw [(rBurn_rest s n 0 R.1).1]
  exact (hV.1.2.1 x hx).1
theorem rNx_8 {n : Nat} {R : RS} (hV : rV n R) : rNx R.1 8 0 none = rNx R.1 n 0 none := by
  have h8 := hV.1.1
  have e := rNx_app (K := R.1) (m := n) (k := 8 - n) (c := 0) (o := none)
  rw [show n + (8 - n) = 8 by omega, Nat.zero_add] at e
  rw [e]
  exact rNx_zero (fun x hx _ => (hV.1.2.1 x hx).1)
theorem rAway_8 {n now : Nat} {K : RC} (hn : n ≤ 8) (h : ∀ c, n ≤ c → rE K c = false) : rAway K now 8 = rAway K now n := by
  have hc' : ∀ x, (x < 8 ∧ rE K x = true) ↔ (x < n ∧ rE K x = true) := by
    intro x
    constructor
    · rintro ⟨w1, w2⟩
      refine ⟨?_, w2⟩
      by_cases y : x < n
      · exact y
      · rw [h x (by omega)] at w2; cases w2
    · rintro ⟨w1, w2⟩; exact ⟨by omega, w2⟩
  unfold rAway
  simp only [hc']
theorem rEnds_app (P : PL) (n lo : Nat) (E : Nat → Bool) : ∀ (m k c : Nat) (R : RS), rEnds P n lo E (m + k) c R = rEnds P n lo E k (c + m) (rEnds P n lo E m c R)
  | 0, k, c, R => by rw [Nat.zero_add]; rfl
  | m + 1, k, c, R => by
    rw [show m + 1 + k = (m + k) + 1 by omega]
    show rEnds P n lo E (m + k) (c + 1) _ = rEnds P n lo E k (c + (m + 1)) (rEnds P n lo E m (c + 1) _)
    rw [rEnds_app P n lo E m k (c + 1), show c + 1 + m = c + (m + 1) by omega]
theorem rEnds_zero (P : PL) (n lo : Nat) (E : Nat → Bool) : ∀ (m c : Nat) (R : RS), (∀ x, c ≤ x → E x = false) → rEnds P n lo E m c R = R
  | 0, _, _, _ => rfl
  | m + 1, c, R, h => by
    show rEnds P n lo E m (c + 1) (if E c = true then rRules P n lo c P.1 0 R else R) = R
    rw [if_neg (by rw [h c (Nat.le_refl _)]; decide)]
    exact rEnds_zero P n lo E m (c + 1) R (fun x hx => h x (by omega))
theorem rEnds_8 {P : PL} {n lo : Nat} {E : Nat → Bool} (hn : n ≤ 8) (h : ∀ c, n ≤ c → E c = false) (R : RS) : rEnds P n lo E 8 0 R = rEnds P n lo E n 0 R := by
  have e := rEnds_app P n lo E n (8 - n) 0 R
  rw [show n + (8 - n) = 8 by omega, Nat.zero_add] at e
  rw [e]
  exact rEnds_zero P n lo E _ _ _ h
/-- the reference's first row -/
def mFi (f : Nat → Nat) (h : MH) : Prop := ∀ c, c < 8 → h.1 116 c = nI (f c)
theorem n_begr {P : PL} {n lo p : Nat} {f : Nat → Nat} {h : MH} {d : Nat} {v2 : Int32} {Q : Option MV → MH → Prop} (hr : zRf h) (hF : fOK n f) (hf : mFi f h) (hp : mP P p lo n h) (hd : 4 ≤ d) (kk : ∀ h', zRf h' → mF h h' → mS n (rStart f) h' → Con mX11_doesRules 3 0 0 [.inr (.inr 111), .inl (nI p), .inl (-(nI 1))] h' (zrv fun h' => J mX11_runs d 0 0 Q 0 0 128 [some (.inr (.inr 111)), some (.inl (nI p)), some (.inl v2), some (.inl (nI 8)), none, none] [] h')) : Con mX11_runs d 0 0 [.inr (.inr 111), .inl (nI p), .inl v2] h Q := by
  refine u_X11_runs hr ?_
  have L2 : ∀ m c, c + m = 8 → ∀ g : MH, zRf g → mF h g → mTT (rStart f).2 g → (∀ x, x < c → g.1 117 x = nI (f x) ∧ g.1 121 x = nI (f x) ∧ g.1 118 x = nI 0 ∧ g.1 119 x = nI 0 ∧ g.1 120 x = -(nI 1) ∧ g.1 122 (8 * x) = nI x ∧ g.1 123 x = nI 1) → J mX11_runs d 0 0 Q 0 0 48 [some (.inr (.inr 111)), some (.inl (nI p)), some (.inl v2), some (.inl (nI c)), none, none] [] g := by
    intro m
    induction m with
    | zero =>
      intro c hc g rg fg tg hx
      obtain rfl : c = 8 := by omega
      refine u_X11_runs_48 (d1' := 3) rg (by omega) ?_
      simp (disch := omega) only [xle_t, xle_f, xlt_t, xlt_f, xeq_t, xeq_f, xle0_t, xle0_f, xlt0_f, x0lt_t, x0lt_f, x0le_t, xeq0_t, xeq0_f, xin, xem_f, xme_f, xlem_f, xlm_f, xml_t, xmle_t, nI_clamp, nI_add, pk_mul, pk_sub, zI_s, zI_k, zI_o, zL_s, zL_k, zL_o, zR_s, zR_k, zR_o, zIL, zIR, zIN, zLI, zLR, zLN, zRI, zRL, zRN, true_and, and_true, not_true_eq_false, not_false_eq_true, true_implies, false_implies, implies_true, forall_const, if_true, if_false, eq_self, false_and, and_false, implies_true, nI_l, ylle_t, ylle_f, xcl_t, xcl_f]
      refine kk g rg fg ⟨fun x hx8 => ?_, tg⟩
      obtain ⟨x0, x1, x2, x3, x4, x5, x6⟩ := hx x hx8
      refine ⟨x0, x2, x1, ?_, x4, fun _ _ => ⟨x6, fun i hi => ?_⟩⟩
      · rw [x3]; exact propext ⟨fun _ => rfl, fun _ => rfl⟩
      · have hi' : i < 1 := hi
        rw [show i = 0 by omega]
        exact x5
    | succ m ih =>
      intro c hc g rg fg tg hx
      have e116 : g.1 116 c = nI (f c) := by rw [fg.1.i (by omega)]; exact hf c (by omega)
      refine u_X11_runs_48 (d1' := 0) rg (by omega) ?_
      simp (disch := omega) only [xle_t, xle_f, xlt_t, xlt_f, xeq_t, xeq_f, xle0_t, xle0_f, xlt0_f, x0lt_t, x0lt_f, x0le_t, xeq0_t, xeq0_f, xin, xem_f, xme_f, xlem_f, xlm_f, xml_t, xmle_t, nI_clamp, nI_add, pk_mul, pk_sub, zI_s, zI_k, zI_o, zL_s, zL_k, zL_o, zR_s, zR_k, zR_o, zIL, zIR, zIN, zLI, zLR, zLN, zRI, zRL, zRN, true_and, and_true, not_true_eq_false, not_false_eq_true, true_implies, false_implies, implies_true, forall_const, if_true, if_false, eq_self, false_and, and_false, implies_true, nI_l, ylle_t, ylle_f, xcl_t, xcl_f, e116]
      refine ih (c + 1) (by omega) _ rg (fg.trans (((((((mF_I (by omega)).trans (mF_I (by omega))).trans (mF_I (by omega))).trans (mF_I (by omega))).trans (mF_I (by omega))).trans (mF_I (by omega))).trans (mF_I (by omega)))) (tg.keep (fun k hk => ?_) ?_ ?_) (fun x hxc => ?_)
      · simp (disch := omega) only [xle_t, xle_f, xlt_t, xlt_f, xeq_t, xeq_f, xle0_t, xle0_f, xlt0_f, x0lt_t, x0lt_f, x0le_t, xeq0_t, xeq0_f, xin, xem_f, xme_f, xlem_f, xlm_f, xml_t, xmle_t, nI_clamp, nI_add, pk_mul, pk_sub, zI_s, zI_k, zI_o, zL_s, zL_k, zL_o, zR_s, zR_k, zR_o, zIL, zIR, zIN, zLI, zLR, zLN, zRI, zRL, zRN, true_and, and_true, not_true_eq_false, not_false_eq_true, true_implies, false_implies, implies_true, forall_const, if_true, if_false, eq_self, false_and, and_false, implies_true, nI_l, ylle_t, ylle_f, xcl_t, xcl_f]
      · simp (disch := omega) only [xle_t, xle_f, xlt_t, xlt_f, xeq_t, xeq_f, xle0_t, xle0_f, xlt0_f, x0lt_t, x0lt_f, x0le_t, xeq0_t, xeq0_f, xin, xem_f, xme_f, xlem_f, xlm_f, xml_t, xmle_t, nI_clamp, nI_add, pk_mul, pk_sub, zI_s, zI_k, zI_o, zL_s, zL_k, zL_o, zR_s, zR_k, zR_o, zIL, zIR, zIN, zLI, zLR, zLN, zRI, zRL, zRN, true_and, and_true, not_true_eq_false, not_false_eq_true, true_implies, false_implies, implies_true, forall_const, if_true, if_false, eq_self, false_and, and_false, implies_true, nI_l, ylle_t, ylle_f, xcl_t, xcl_f]
      · simp (disch := omega) only [xle_t, xle_f, xlt_t, xlt_f, xeq_t, xeq_f, xle0_t, xle0_f, xlt0_f, x0lt_t, x0lt_f, x0le_t, xeq0_t, xeq0_f, xin, xem_f, xme_f, xlem_f, xlm_f, xml_t, xmle_t, nI_clamp, nI_add, pk_mul, pk_sub, zI_s, zI_k, zI_o, zL_s, zL_k, zL_o, zR_s, zR_k, zR_o, zIL, zIR, zIN, zLI, zLR, zLN, zRI, zRL, zRN, true_and, and_true, not_true_eq_false, not_false_eq_true, true_implies, false_implies, implies_true, forall_const, if_true, if_false, eq_self, false_and, and_false, implies_true, nI_l, ylle_t, ylle_f, xcl_t, xcl_f]
      · by_cases y : x = c
        · subst y
          simp (disch := omega) only [xle_t, xle_f, xlt_t, xlt_f, xeq_t, xeq_f, xle0_t, xle0_f, xlt0_f, x0lt_t, x0lt_f, x0le_t, xeq0_t, xeq0_f, xin, xem_f, xme_f, xlem_f, xlm_f, xml_t, xmle_t, nI_clamp, nI_add, pk_mul, pk_sub, zI_s, zI_k, zI_o, zL_s, zL_k, zL_o, zR_s, zR_k, zR_o, zIL, zIR, zIN, zLI, zLR, zLN, zRI, zRL, zRN, true_and, and_true, not_true_eq_false, not_false_eq_true, true_implies, false_implies, implies_true, forall_const, if_true, if_false, eq_self, false_and, and_false, implies_true, nI_l, ylle_t, ylle_f, xcl_t, xcl_f]
        · obtain ⟨x0, x1, x2, x3, x4, x5, x6⟩ := hx x (by omega)
          have y8 : 8 * x ≠ 8 * c := by omega
          simp (disch := omega) only [xle_t, xle_f, xlt_t, xlt_f, xeq_t, xeq_f, xle0_t, xle0_f, xlt0_f, x0lt_t, x0lt_f, x0le_t, xeq0_t, xeq0_f, xin, xem_f, xme_f, xlem_f, xlm_f, xml_t, xmle_t, nI_clamp, nI_add, pk_mul, pk_sub, zI_s, zI_k, zI_o, zL_s, zL_k, zL_o, zR_s, zR_k, zR_o, zIL, zIR, zIN, zLI, zLR, zLN, zRI, zRL, zRN, true_and, and_true, not_true_eq_false, not_false_eq_true, true_implies, false_implies, implies_true, forall_const, if_true, if_false, eq_self, false_and, and_false, implies_true, nI_l, ylle_t, ylle_f, xcl_t, xcl_f, x0, x1, x2, x3, x4, x5, x6]
  have L1 : ∀ m k, k + m = 40 → ∀ g : MH, zRf g → mF h g → (g.1 111 24 = nI 0 ∧ g.1 111 25 = nI 0 ∧ g.1 111 26 = nI 0 ∧ g.1 111 27 = nI 0 ∧ g.1 111 29 = nI 0) → (∀ j, j < k → g.1 125 j = nI 0) → J mX11_runs d 0 0 Q 0 0 27 [some (.inr (.inr 111)), some (.inl (nI p)), some (.inl v2), some (.inl (nI k)), none, none] [] g := by
    intro m
    induction m with
    | zero =>
      intro k hk g rg fg g1 g2
      obtain rfl : k = 40 := by omega
      refine u_X11_runs_27 rg ?_
      simp (disch := omega) only [xle_t, xle_f, xlt_t, xlt_f, xeq_t, xeq_f, xle0_t, xle0_f, xlt0_f, x0lt_t, x0lt_f, x0le_t, xeq0_t, xeq0_f, xin, xem_f, xme_f, xlem_f, xlm_f, xml_t, xmle_t, nI_clamp, nI_add, pk_mul, pk_sub, zI_s, zI_k, zI_o, zL_s, zL_k, zL_o, zR_s, zR_k, zR_o, zIL, zIR, zIN, zLI, zLR, zLN, zRI, zRL, zRN, true_and, and_true, not_true_eq_false, not_false_eq_true, true_implies, false_implies, implies_true, forall_const, if_true, if_false, eq_self, false_and, and_false, implies_true, nI_l, ylle_t, ylle_f, xcl_t, xcl_f]
      refine L2 8 0 (by omega) g rg fg ⟨g1.2.1, fun j hj => absurd hj (Nat.not_lt_zero _), ?_, fun j hj => g2 j hj, g1.2.2.2.2, g1.2.2.2.1, g1.1⟩ (fun x hx => absurd hx (Nat.not_lt_zero _))
      rw [g1.2.2.1]
      have : fb_ct (rStart f).2.2.1 40 = 0 := fb_ct_zero.mpr (fun k _ => rfl)
      show nI 0 = nI (fb_ct (rStart f).2.2.1 40)
      rw [this]
    | succ m ih =>
      intro k hk g rg fg g1 g2
      refine u_X11_runs_27 rg ?_
      simp (disch := omega) only [xle_t, xle_f, xlt_t, xlt_f, xeq_t, xeq_f, xle0_t, xle0_f, xlt0_f, x0lt_t, x0lt_f, x0le_t, xeq0_t, xeq0_f, xin, xem_f, xme_f, xlem_f, xlm_f, xml_t, xmle_t, nI_clamp, nI_add, pk_mul, pk_sub, zI_s, zI_k, zI_o, zL_s, zL_k, zL_o, zR_s, zR_k, zR_o, zIL, zIR, zIN, zLI, zLR, zLN, zRI, zRL, zRN, true_and, and_true, not_true_eq_false, not_false_eq_true, true_implies, false_implies, implies_true, forall_const, if_true, if_false, eq_self, false_and, and_false, implies_true, nI_l, ylle_t, ylle_f, xcl_t, xcl_f]
      refine ih (k + 1) (by omega) _ rg (fg.trans (mF_I (by omega))) ?_ (fun j hj => ?_)
      · simp (disch := omega) only [xle_t, xle_f, xlt_t, xlt_f, xeq_t, xeq_f, xle0_t, xle0_f, xlt0_f, x0lt_t, x0lt_f, x0le_t, xeq0_t, xeq0_f, xin, xem_f, xme_f, xlem_f, xlm_f, xml_t, xmle_t, nI_clamp, nI_add, pk_mul, pk_sub, zI_s, zI_k, zI_o, zL_s, zL_k, zL_o, zR_s, zR_k, zR_o, zIL, zIR, zIN, zLI, zLR, zLN, zRI, zRL, zRN, true_and, and_true, not_true_eq_false, not_false_eq_true, true_implies, false_implies, implies_true, forall_const, if_true, if_false, eq_self, false_and, and_false, implies_true, nI_l, ylle_t, ylle_f, xcl_t, xcl_f, g1.1, g1.2.1, g1.2.2.1, g1.2.2.2.1, g1.2.2.2.2]
      · by_cases y : j = k
        · rw [y, zI_s]
        · rw [zI_k _ _ _ y]; exact g2 j (by omega)
  refine L1 40 0 (by omega) _ hr (((((mF_1 (by omega)).trans (mF_1 (by omega))).trans (mF_1 (by omega))).trans (mF_1 (by omega))).trans (mF_1 (by omega))) ?_ (fun j hj => absurd hj (Nat.not_lt_zero _))
  simp (disch := omega) only [xle_t, xle_f, xlt_t, xlt_f, xeq_t, xeq_f, xle0_t, xle0_f, xlt0_f, x0lt_t, x0lt_f, x0le_t, xeq0_t, xeq0_f, xin, xem_f, xme_f, xlem_f, xlm_f, xml_t, xmle_t, nI_clamp, nI_add, pk_mul, pk_sub, zI_s, zI_k, zI_o, zL_s, zL_k, zL_o, zR_s, zR_k, zR_o, zIL, zIR, zIN, zLI, zLR, zLN, zRI, zRL, zRN, true_and, and_true, not_true_eq_false, not_false_eq_true, true_implies, false_implies, implies_true, forall_const, if_true, if_false, eq_self, false_and, and_false, implies_true, nI_l, ylle_t, ylle_f, xcl_t, xcl_f]
theorem n_runs {P : PL} {n lo p u : Nat} {f : Nat → Nat} {h : MH} {d : Nat} {v2 : Int32} {Q : Option MV → MH → Prop} (hr : zRf h) (hp4 : p < 4) (hF : fOK n f) (hf : mFi f h) (hp : mP P p lo n h) (hO : pOK P) (hu : (v2 = -(nI 1) ∧ u = 1024000000) ∨ (v2 = nI u ∧ u ≤ 1024000000)) (hd : 4 ≤ d) (kk : ∀ h', zRf h' → mF h h' → mS n (rPlay P n lo u f) h' → Q none h') : Con mX11_runs d 0 0 [.inr (.inr 111), .inl (nI p), .inl v2] h Q := by
  have hn := hF.1
  refine n_begr hr hF hf hp hd (fun h1 r1 f1 s1 => ?_)
  have hst := rV_start hF
  have w40 : ∀ (D : Nat → Bool) (R : RS) (c : Nat), rB P D R → D c = false → R.2.1.length + wg P c P.1 0 ≤ 40 ∧ R.2.2.2.2.1 + 2 * wg P c P.1 0 ≤ 1000 := by
    intro D R c hB hc
    have e := wD_add P hc P.1 0
    have e2 := wD_40 hO (kU D c true)
    have b1 := hB.1
    have b2 := hB.2.1
    exact ⟨by omega, by omega⟩
  have w0 := w40 _ _ 8 (rB_start (P := P) (f := f)) rfl
  refine n_rules (c := 8) r1 hp4 s1 hst (hp.keep f1) hO (by omega) w0.1 w0.2 ((rB_start (P := P) (f := f)).2.2.2 8 rfl) (by omega) (fun h2 r2 f2 s2 => ?_)
  have F2 := f1.trans f2
  have hH := rH_start (lo := lo) hO hF
  have e0 : rLoop P n lo u 8 (rRules P n lo 8 P.1 0 (rStart f)) = rPlay P n lo u f := rfl
  have hno0 : (rRules P n lo 8 P.1 0 (rStart f)).2.2.2.2.2 ≤ u := by
    rw [(rRules_b P n lo 8 P.1 0 (rStart f)).2.2.2]
    exact Nat.zero_le _
  have hy0 : rY f (rRules P n lo 8 P.1 0 (rStart f)) := rY_rules _ _ rY_start
  generalize rRules P n lo 8 P.1 0 (rStart f) = R0 at s2 hH e0 hno0 hy0
  generalize rPlay P n lo u f = Rt at kk e0
  have kb8 : ∀ {R : RS}, rV n R → ∀ c, c < 8 → R.1.1 c ≤ 400000000 ∧ R.1.2.1 c ≤ 2 := by
    intro R hV c hc
    by_cases cn : c < n
    · exact ⟨hV.re c cn, (hV.1.2.2.1 c cn).1⟩
    · have := hV.1.2.1 c (by omega)
      exact ⟨by rw [this.2]; omega, by rw [this.1]; omega⟩
  have f8 : ∀ x, f x ≤ 400000000 := fun x => by
    by_cases y : x < n
    · exact hF.le y
    · rw [hF.2.2.1 x (by omega)]; omega
  have mb8 : ∀ {R : RS} {s : Nat}, rV n R → (∀ x, x < 8 → R.1.2.2.1 x ≤ 400000000) → (∀ x, x < n → 0 < R.1.2.1 x → s ≤ R.1.1 x / R.1.2.1 x) → mB n s R.1 := by
    intro R s hV hOw hs c hc
    obtain ⟨b1, b2⟩ := kb8 hV c hc
    refine ⟨b1, b2, hOw c hc, ?_, fun fl => ?_⟩
    · by_cases fl : 0 < R.1.2.1 c
      · have cn : c < n := by
          by_cases y : c < n
          · exact y
          · have := (hV.1.2.1 c (by omega)).1
            omega
        have := hs c cn fl
        have h2 : R.1.1 c / R.1.2.1 c * R.1.2.1 c ≤ R.1.1 c := Nat.div_mul_le_self _ _
        exact Nat.le_trans (Nat.mul_le_mul_right _ this) h2
      · show s * R.1.2.1 c ≤ R.1.1 c
        rw [show R.1.2.1 c = 0 by omega]; omega
    · have cn : c < n := by
        by_cases y : c < n
        · exact y
        · have := (hV.1.2.1 c (by omega)).1
          omega
      have st := hV.fl cn fl
      obtain ⟨r, er, hm, hl⟩ := hV.ch cn st
      refine ⟨cn, st, by rw [er]; exact hl, fun x hx => ?_⟩
      have := hm x (by rw [← er]; exact hx)
      omega
  -- the turns
  have L : ∀ m t, t + m = 8 → ∀ (R : RS) (g : MH) (u4 u5 : Option MV), zRf g → mF h g → mS n R g → rH P n t R → rY f R → R.2.2.2.2.2 ≤ u → rLoop P n lo u m R = Rt → J mX11_runs d 0 0 Q 0 0 133 [some (.inr (.inr 111)), some (.inl (nI p)), some (.inl v2), some (.inl (oI (rNx R.1 n 0 none))), u4, u5] [] g := by
    intro m
    induction m with
    | zero =>
      intro t ht R g u4 u5 rg fg sg hg how hno e
      have hx : rNx R.1 n 0 none = none := rCt_all hg.1 (by have := hg.2.2.2; omega)
      rw [hx]
      refine u_X11_runs_133 (d1' := 0) (d2' := 0) (d3' := 0) rg (by omega) (by omega) (by omega) ?_
      simp (disch := omega) only [xle_t, xle_f, xlt_t, xlt_f, xeq_t, xeq_f, xle0_t, xle0_f, xlt0_f, x0lt_t, x0lt_f, x0le_t, xeq0_t, xeq0_f, xin, xem_f, xme_f, xlem_f, xlm_f, xml_t, xmle_t, nI_clamp, nI_add, pk_mul, pk_sub, zI_s, zI_k, zI_o, zL_s, zL_k, zL_o, zR_s, zR_k, zR_o, zIL, zIR, zIN, zLI, zLR, zLN, zRI, zRL, zRN, true_and, and_true, not_true_eq_false, not_false_eq_true, true_implies, false_implies, implies_true, forall_const, if_true, if_false, eq_self, false_and, and_false, implies_true, nI_l, ylle_t, ylle_f, xcl_t, xcl_f, oI]
      have e' : R = Rt := e
      rw [e'] at sg
      exact kk g rg fg sg
    | succ m ih =>
      intro t ht R g u4 u5 rg fg sg hg hy hno e
      have how : ∀ x, x < 8 → R.1.2.2.1 x ≤ 400000000 := fun x _ => Nat.le_trans (hy.2.2 x) (f8 x)
      have e1 : (match rNx R.1 n 0 none with
          | none => R
          | some s => if R.2.2.2.2.2 + s ≤ u then rLoop P n lo u m (rTurn P n lo s R) else (rBurn (u - R.2.2.2.2.2) n 0 R.1, rTick (u - R.2.2.2.2.2) R.2)) = Rt := e
      cases hx : rNx R.1 n 0 none with
      | none =>
        rw [hx] at e1
        have e' : R = Rt := e1
        refine u_X11_runs_133 (d1' := 0) (d2' := 0) (d3' := 0) rg (by omega) (by omega) (by omega) ?_
        simp (disch := omega) only [xle_t, xle_f, xlt_t, xlt_f, xeq_t, xeq_f, xle0_t, xle0_f, xlt0_f, x0lt_t, x0lt_f, x0le_t, xeq0_t, xeq0_f, xin, xem_f, xme_f, xlem_f, xlm_f, xml_t, xmle_t, nI_clamp, nI_add, pk_mul, pk_sub, zI_s, zI_k, zI_o, zL_s, zL_k, zL_o, zR_s, zR_k, zR_o, zIL, zIR, zIN, zLI, zLR, zLN, zRI, zRL, zRN, true_and, and_true, not_true_eq_false, not_false_eq_true, true_implies, false_implies, implies_true, forall_const, if_true, if_false, eq_self, false_and, and_false, implies_true, nI_l, ylle_t, ylle_f, xcl_t, xcl_f, oI]
        rw [e'] at sg
        exact kk g rg fg sg
      | some s =>
        rw [hx] at e1
        obtain ⟨b1, b2⟩ := rNx_4 hg.1 hx
        have e24 := sg.2.2.2.2.2.2.2
        have e' : (if R.2.2.2.2.2 + s ≤ u then rLoop P n lo u m (rTurn P n lo s R) else (rBurn (u - R.2.2.2.2.2) n 0 R.1, rTick (u - R.2.2.2.2.2) R.2)) = Rt := e1
        -- a whole turn
        have T : R.2.2.2.2.2 + s ≤ u → ∀ d', Con mX11_burns d' 0 0 [.inr (.inr 111), .inl (nI s)] g (zrv fun h' => J mX11_runs d 0 0 Q 0 0 158 [some (.inr (.inr 111)), some (.inl (nI p)), some (.inl v2), some (.inl (nI s)), u4, u5] [] h') := by
          intro hle d'
          rw [if_pos hle] at e'
          refine n_burns rg sg (mb8 hg.1 how b2) b1 (fun g1 r1 f1 s1 => ?_)
          rw [rBurn_8 hg.1] at s1
          refine u_X11_runs_158 ?_
          have hV1 := rV_burn hg.1 b2 (by
            obtain ⟨a1, _, a3⟩ := rNx_some hx
            rcases a1 with z | ⟨x, x1, x2, x3, x4⟩
            · cases z
            · exact Or.inr ⟨x, by omega, x3⟩)
          obtain ⟨hD, hBt⟩ := rB_turn (lo := lo) (s := s) hO hg.1 hg.2.1
          obtain ⟨a1, a2, a3, a4⟩ := rBurn_rest s n 0 R.1
          have hE8 : ∀ c, n ≤ c → rE (rBurn s n 0 R.1) c = false := by
            intro c hc
            cases z : rE (rBurn s n 0 R.1) c with
            | false => rfl
            | true =>
              have := (rE_t.mp z).1
              rw [a1, (hg.1.1.2.1 c hc).1] at this
              omega
          have bK : ∀ c, c < 8 → (rBurn s n 0 R.1).1 c ≤ 400000000 ∧ (rBurn s n 0 R.1).2.1 c ≤ 2 := by
            intro c hc
            obtain ⟨y1, y2⟩ := kb8 hg.1 c hc
            refine ⟨?_, by rw [a1]; exact y2⟩
            rw [a3 c]
            split <;> omega
          have hturn : rTurn P n lo s R = rEnds P n lo (rE (rBurn s n 0 R.1)) 8 0 (rAway (rBurn s n 0 R.1) (R.2.2.2.2.2 + s) 8, rTick s R.2) := by
            rw [rEnds_8 hn hE8, rAway_8 hn hE8]; rfl
          have hOw1 : rY f (rTurn P n lo s R) := rY_turn hy
          have hno1 : (rTurn P n lo s R).2.2.2.2.2 ≤ u := by
            have := (rEnds_st P n lo (rE (rBurn s n 0 R.1)) 0 n 0 (rAway (rBurn s n 0 R.1) (R.2.2.2.2.2 + s) n, rTick s R.2)).2.2
            show (rEnds P n lo _ n 0 _).2.2.2.2.2 ≤ u
            rw [this]
            exact hle
          have hH1 := rH_turn (lo := lo) hO hg (by omega) hx
          have aw8 : rAway (rBurn s n 0 R.1) (R.2.2.2.2.2 + s) 8 = rAway (rBurn s n 0 R.1) (R.2.2.2.2.2 + s) n := rAway_8 hn hE8
          generalize rTurn P n lo s R = R9 at e' hturn hOw1 hno1 hH1 hBt
          generalize rBurn s n 0 R.1 = K1 at s1 hV1 hD hE8 bK hturn a1 a2 a3 a4 aw8
          -- the rules of those that ended
          have E : ∀ m' c, c + m' = 8 → ∀ (D : Nat → Bool) (R' : RS) (g3 : MH), zRf g3 → mF h g3 → mS n R' g3 → rV n R' → rB P D R' → (∀ x, c ≤ x → rE K1 x = true → D x = false) → rEnds P n lo (rE K1) m' c R' = R9 → J mX11_runs d 0 0 Q 0 0 239 [some (.inr (.inr 111)), some (.inl (nI p)), some (.inl v2), some (.inl (nI s)), some (.inl (rBits (rE K1) 8)), some (.inl (nI c))] [] g3 := by
            intro m'
            induction m' with
            | zero =>
              intro c hc D R' g3 r3 f3 s3 v3 q3 hD3 e3
              have e3' : R' = R9 := e3
              subst e3'
              refine u_X11_runs_239 (d1' := 3) (d2' := 3) r3 (by omega) (by omega) ?_
              simp (disch := omega) only [xle_t, xle_f, xlt_t, xlt_f, xeq_t, xeq_f, xle0_t, xle0_f, xlt0_f, x0lt_t, x0lt_f, x0le_t, xeq0_t, xeq0_f, xin, xem_f, xme_f, xlem_f, xlm_f, xml_t, xmle_t, nI_clamp, nI_add, pk_mul, pk_sub, zI_s, zI_k, zI_o, zL_s, zL_k, zL_o, zR_s, zR_k, zR_o, zIL, zIR, zIN, zLI, zLR, zLN, zRI, zRL, zRN, true_and, and_true, not_true_eq_false, not_false_eq_true, true_implies, false_implies, implies_true, forall_const, if_true, if_false, eq_self, false_and, and_false, implies_true, nI_l, ylle_t, ylle_f, xcl_t, xcl_f]
              refine n_nx r3 s3.1 (kb8 hH1.1) ?_
              rw [rNx_8 hH1.1]
              refine u_X11_runs_274 ?_
              exact ih (t + 1) (by omega) R' g3 _ _ r3 f3 s3 hH1 hOw1 hno1 e'
            | succ m' ihE =>
              intro c hc D R' g3 r3 f3 s3 v3 q3 hD3 e3
              have e3' : rEnds P n lo (rE K1) m' (c + 1) (if rE K1 c = true then rRules P n lo c P.1 0 R' else R') = R9 := e3
              refine u_X11_runs_239 (d1' := 3) (d2' := 3) r3 (by omega) (by omega) ?_
              have hb1 : (((rBits (rE K1) 8 >>> (nI c &&& 31)) &&& (nI 1)) = nI 1) = (rE K1 c = true) := by
                have eb := xbit (rBits (rE K1) 8) (c := c) (by omega)
                rw [rBits_b (rE K1) 8 (by omega) c (by omega), decide_eq_true (show c < 8 by omega), Bool.true_and] at eb
                have h01 : ∀ x : Int32, (x &&& nI 1 = 0) ∨ (x &&& nI 1 = nI 1) := by
                  intro x
                  rw [pk_and x 1 rfl]
                  have : x.toBitVec.toNat % 2 ^ 1 < 2 := Nat.mod_lt _ (by decide)
                  generalize x.toBitVec.toNat % 2 ^ 1 = y at this
                  have : y = 0 ∨ y = 1 := by omega
                  rcases this with z | z
                  · left; rw [z]; rfl
                  · right; rw [z]
                refine propext ⟨fun w => ?_, fun w => ?_⟩
                · cases z : rE K1 c with
                  | true => rfl
                  | false =>
                    rw [z] at eb
                    have : ((rBits (rE K1) 8 >>> (nI c &&& 31)) &&& (nI 1)) = 0 := eb.mpr rfl
                    rw [this] at w
                    exact absurd w (by decide)
                · rcases h01 (rBits (rE K1) 8 >>> (nI c &&& 31)) with z | z
                  · have := eb.mp z
                    rw [this] at w; cases w
                  · exact z
              by_cases q : rE K1 c = true
              · rw [if_pos q] at e3'
                have hb2 : (((rBits (rE K1) 8 >>> (nI c &&& 31)) &&& (nI 1)) = nI 1) = True := by rw [hb1]; exact eq_true q
                simp (disch := omega) only [xle_t, xle_f, xlt_t, xlt_f, xeq_t, xeq_f, xle0_t, xle0_f, xlt0_f, x0lt_t, x0lt_f, x0le_t, xeq0_t, xeq0_f, xin, xem_f, xme_f, xlem_f, xlm_f, xml_t, xmle_t, nI_clamp, nI_add, pk_mul, pk_sub, zI_s, zI_k, zI_o, zL_s, zL_k, zL_o, zR_s, zR_k, zR_o, zIL, zIR, zIN, zLI, zLR, zLN, zRI, zRL, zRN, true_and, and_true, not_true_eq_false, not_false_eq_true, true_implies, false_implies, implies_true, forall_const, if_true, if_false, eq_self, false_and, and_false, implies_true, nI_l, ylle_t, ylle_f, xcl_t, xcl_f, hb2]
                have w := w40 D R' c q3 (hD3 c (Nat.le_refl _) q)
                have ec : nI c = pBy c := (if_pos (by omega)).symm
                have := n_rules (Q := (zrv fun h' => J mX11_runs d 0 0 Q 0 0 264 [some (.inr (.inr 111)), some (.inl (nI p)), some (.inl v2), some (.inl (nI s)), some (.inl (rBits (rE K1) 8)), some (.inl (nI c))] [] h')) (d := 3) (c := c) r3 hp4 s3 v3 (hp.keep f3) hO (by omega) w.1 w.2 (q3.2.2.2 c (hD3 c (Nat.le_refl _) q)) (by omega) (fun g4 r4 f4 s4 => ?_)
                · rw [← ec] at this
                  exact this
                · refine u_X11_runs_264 ?_
                  rw [nI_add]
                  exact ihE (c + 1) (by omega) (kU D c true) _ g4 r4 (f3.trans f4) s4 (rV_rules _ _ v3) (rB_rules hO q3 (hD3 c (Nat.le_refl _) q)) (fun x hx hx2 => by rw [kU_o _ _ (by omega)]; exact hD3 x (by omega) hx2) e3'
              · rw [if_neg q] at e3'
                have hb2 : (((rBits (rE K1) 8 >>> (nI c &&& 31)) &&& (nI 1)) = nI 1) = False := by rw [hb1]; exact eq_false q
                simp (disch := omega) only [xle_t, xle_f, xlt_t, xlt_f, xeq_t, xeq_f, xle0_t, xle0_f, xlt0_f, x0lt_t, x0lt_f, x0le_t, xeq0_t, xeq0_f, xin, xem_f, xme_f, xlem_f, xlm_f, xml_t, xmle_t, nI_clamp, nI_add, pk_mul, pk_sub, zI_s, zI_k, zI_o, zL_s, zL_k, zL_o, zR_s, zR_k, zR_o, zIL, zIR, zIN, zLI, zLR, zLN, zRI, zRL, zRN, true_and, and_true, not_true_eq_false, not_false_eq_true, true_implies, false_implies, implies_true, forall_const, if_true, if_false, eq_self, false_and, and_false, implies_true, nI_l, ylle_t, ylle_f, xcl_t, xcl_f, hb2]
                exact ihE (c + 1) (by omega) D R' g3 r3 f3 s3 v3 q3 (fun x hx => hD3 x (by omega)) e3'
          -- those that ended are put away
          have A : ∀ m' c, c + m' = 8 → ∀ g2 : MH, zRf g2 → mF h g2 → mS n (rAway K1 (R.2.2.2.2.2 + s) c, rTick s R.2) g2 → J mX11_runs d 0 0 Q 0 0 164 [some (.inr (.inr 111)), some (.inl (nI p)), some (.inl v2), some (.inl (nI s)), some (.inl (rBits (rE K1) c)), some (.inl (nI c))] [] g2 := by
            intro m'
            induction m' with
            | zero =>
              intro c hc g2 r2 f2 s2
              obtain rfl : c = 8 := by omega
              refine u_X11_runs_164 r2 ?_
              simp (disch := omega) only [xle_t, xle_f, xlt_t, xlt_f, xeq_t, xeq_f, xle0_t, xle0_f, xlt0_f, x0lt_t, x0lt_f, x0le_t, xeq0_t, xeq0_f, xin, xem_f, xme_f, xlem_f, xlm_f, xml_t, xmle_t, nI_clamp, nI_add, pk_mul, pk_sub, zI_s, zI_k, zI_o, zL_s, zL_k, zL_o, zR_s, zR_k, zR_o, zIL, zIR, zIN, zLI, zLR, zLN, zRI, zRL, zRN, true_and, and_true, not_true_eq_false, not_false_eq_true, true_implies, false_implies, implies_true, forall_const, if_true, if_false, eq_self, false_and, and_false, implies_true, nI_l, ylle_t, ylle_f, xcl_t, xcl_f]
              refine E 8 0 (by omega) (rDm n R) _ g2 r2 f2 s2 ?_ ?_ hD hturn.symm
              · rw [aw8]; exact hV1
              · exact hg.2.1
            | succ m' ihA =>
              intro c hc g2 r2 f2 s2
              obtain ⟨c0, c1, c2, c3, c4, c5⟩ := s2.1 c (by omega)
              obtain ⟨y1, y2⟩ := bK c (by omega)
              have c0' : g2.1 117 c = nI (K1.1 c) := c0
              have c1' : g2.1 118 c = nI (K1.2.1 c) := by
                have : (rAway K1 (R.2.2.2.2.2 + s) c).2.1 c = K1.2.1 c := if_neg (by omega)
                rw [c1, this]
              have hbit : rBits (rE K1) (c + 1) = if rE K1 c = true then rBits (rE K1) c ||| rBit c else rBits (rE K1) c := rfl
              have same : ¬ rE K1 c = true → rAway K1 (R.2.2.2.2.2 + s) (c + 1) = rAway K1 (R.2.2.2.2.2 + s) c := by
                intro z
                have hc' : ∀ x, (x < c + 1 ∧ rE K1 x = true) ↔ (x < c ∧ rE K1 x = true) := by
                  intro x
                  constructor
                  · rintro ⟨w1, w2⟩
                    refine ⟨?_, w2⟩
                    by_cases y : x = c
                    · rw [y] at w2; exact absurd w2 z
                    · omega
                  · rintro ⟨w1, w2⟩; exact ⟨by omega, w2⟩
                unfold rAway
                simp only [hc']
              refine u_X11_runs_164 r2 ?_
              have e24' : g2.1 111 24 = nI (R.2.2.2.2.2 + s) := s2.2.2.2.2.2.2.2
              by_cases fl : 0 < K1.2.1 c
              · by_cases w : K1.1 c = 0
                · have z : rE K1 c = true := rE_t.mpr ⟨fl, w⟩
                  rw [if_pos z] at hbit
                  simp (disch := omega) only [xle_t, xle_f, xlt_t, xlt_f, xeq_t, xeq_f, xle0_t, xle0_f, xlt0_f, x0lt_t, x0lt_f, x0le_t, xeq0_t, xeq0_f, xin, xem_f, xme_f, xlem_f, xlm_f, xml_t, xmle_t, nI_clamp, nI_add, pk_mul, pk_sub, zI_s, zI_k, zI_o, zL_s, zL_k, zL_o, zR_s, zR_k, zR_o, zIL, zIR, zIN, zLI, zLR, zLN, zRI, zRL, zRN, true_and, and_true, not_true_eq_false, not_false_eq_true, true_implies, false_implies, implies_true, forall_const, if_true, if_false, eq_self, false_and, and_false, implies_true, nI_l, ylle_t, ylle_f, xcl_t, xcl_f, c0', c1', e24']
                  have := ihA (c + 1) (by omega) (zsI (zsI (zsI g2 118 c (nI 0)) 119 c (nI 1)) 120 c (nI (R.2.2.2.2.2 + s))) r2 (f2.trans (((mF_I (by omega)).trans (mF_I (by omega))).trans (mF_I (by omega)))) ⟨fun x hx8 => ?_, s2.2.keep (fun k hk => by simp (disch := omega) only [xle_t, xle_f, xlt_t, xlt_f, xeq_t, xeq_f, xle0_t, xle0_f, xlt0_f, x0lt_t, x0lt_f, x0le_t, xeq0_t, xeq0_f, xin, xem_f, xme_f, xlem_f, xlm_f, xml_t, xmle_t, nI_clamp, nI_add, pk_mul, pk_sub, zI_s, zI_k, zI_o, zL_s, zL_k, zL_o, zR_s, zR_k, zR_o, zIL, zIR, zIN, zLI, zLR, zLN, zRI, zRL, zRN, true_and, and_true, not_true_eq_false, not_false_eq_true, true_implies, false_implies, implies_true, forall_const, if_true, if_false, eq_self, false_and, and_false, implies_true, nI_l, ylle_t, ylle_f, xcl_t, xcl_f]) (by simp (disch := omega) only [xle_t, xle_f, xlt_t, xlt_f, xeq_t, xeq_f, xle0_t, xle0_f, xlt0_f, x0lt_t, x0lt_f, x0le_t, xeq0_t, xeq0_f, xin, xem_f, xme_f, xlem_f, xlm_f, xml_t, xmle_t, nI_clamp, nI_add, pk_mul, pk_sub, zI_s, zI_k, zI_o, zL_s, zL_k, zL_o, zR_s, zR_k, zR_o, zIL, zIR, zIN, zLI, zLR, zLN, zRI, zRL, zRN, true_and, and_true, not_true_eq_false, not_false_eq_true, true_implies, false_implies, implies_true, forall_const, if_true, if_false, eq_self, false_and, and_false, implies_true, nI_l, ylle_t, ylle_f, xcl_t, xcl_f]) (by simp (disch := omega) only [xle_t, xle_f, xlt_t, xlt_f, xeq_t, xeq_f, xle0_t, xle0_f, xlt0_f, x0lt_t, x0lt_f, x0le_t, xeq0_t, xeq0_f, xin, xem_f, xme_f, xlem_f, xlm_f, xml_t, xmle_t, nI_clamp, nI_add, pk_mul, pk_sub, zI_s, zI_k, zI_o, zL_s, zL_k, zL_o, zR_s, zR_k, zR_o, zIL, zIR, zIN, zLI, zLR, zLN, zRI, zRL, zRN, true_and, and_true, not_true_eq_false, not_false_eq_true, true_implies, false_implies, implies_true, forall_const, if_true, if_false, eq_self, false_and, and_false, implies_true, nI_l, ylle_t, ylle_f, xcl_t, xcl_f])⟩
                  · rw [hbit] at this
                    exact this
                  · obtain ⟨x0, x1, x2, x3, x4, x5⟩ := s2.1 x hx8
                    by_cases y : x = c
                    · subst y
                      have q : x < x + 1 ∧ rE K1 x = true := ⟨by omega, z⟩
                      have q1 : (rAway K1 (R.2.2.2.2.2 + s) (x + 1)).2.1 x = 0 := if_pos q
                      have q2 : (rAway K1 (R.2.2.2.2.2 + s) (x + 1)).2.2.2.2.1 x = 1 := if_pos q
                      have q3 : (rAway K1 (R.2.2.2.2.2 + s) (x + 1)).2.2.2.2.2 x = R.2.2.2.2.2 + s + 1 := if_pos q
                      show _ ∧ _ = nI ((rAway K1 (R.2.2.2.2.2 + s) (x + 1)).2.1 x) ∧ _ ∧ _ = ((rAway K1 (R.2.2.2.2.2 + s) (x + 1)).2.2.2.2.1 x = 0) ∧ _ = eI ((rAway K1 (R.2.2.2.2.2 + s) (x + 1)).2.2.2.2.2 x) ∧ (x < n → (rAway K1 (R.2.2.2.2.2 + s) (x + 1)).2.2.2.2.1 x = 0 → _)
                      rw [q1, q2, q3]
                      refine ⟨?_, ?_, ?_, ?_, ?_, fun _ v => absurd v (by decide)⟩
                      · simp (disch := omega) only [xle_t, xle_f, xlt_t, xlt_f, xeq_t, xeq_f, xle0_t, xle0_f, xlt0_f, x0lt_t, x0lt_f, x0le_t, xeq0_t, xeq0_f, xin, xem_f, xme_f, xlem_f, xlm_f, xml_t, xmle_t, nI_clamp, nI_add, pk_mul, pk_sub, zI_s, zI_k, zI_o, zL_s, zL_k, zL_o, zR_s, zR_k, zR_o, zIL, zIR, zIN, zLI, zLR, zLN, zRI, zRL, zRN, true_and, and_true, not_true_eq_false, not_false_eq_true, true_implies, false_implies, implies_true, forall_const, if_true, if_false, eq_self, false_and, and_false, implies_true, nI_l, ylle_t, ylle_f, xcl_t, xcl_f]; exact x0
                      · simp (disch := omega) only [xle_t, xle_f, xlt_t, xlt_f, xeq_t, xeq_f, xle0_t, xle0_f, xlt0_f, x0lt_t, x0lt_f, x0le_t, xeq0_t, xeq0_f, xin, xem_f, xme_f, xlem_f, xlm_f, xml_t, xmle_t, nI_clamp, nI_add, pk_mul, pk_sub, zI_s, zI_k, zI_o, zL_s, zL_k, zL_o, zR_s, zR_k, zR_o, zIL, zIR, zIN, zLI, zLR, zLN, zRI, zRL, zRN, true_and, and_true, not_true_eq_false, not_false_eq_true, true_implies, false_implies, implies_true, forall_const, if_true, if_false, eq_self, false_and, and_false, implies_true, nI_l, ylle_t, ylle_f, xcl_t, xcl_f]
                      · simp (disch := omega) only [xle_t, xle_f, xlt_t, xlt_f, xeq_t, xeq_f, xle0_t, xle0_f, xlt0_f, x0lt_t, x0lt_f, x0le_t, xeq0_t, xeq0_f, xin, xem_f, xme_f, xlem_f, xlm_f, xml_t, xmle_t, nI_clamp, nI_add, pk_mul, pk_sub, zI_s, zI_k, zI_o, zL_s, zL_k, zL_o, zR_s, zR_k, zR_o, zIL, zIR, zIN, zLI, zLR, zLN, zRI, zRL, zRN, true_and, and_true, not_true_eq_false, not_false_eq_true, true_implies, false_implies, implies_true, forall_const, if_true, if_false, eq_self, false_and, and_false, implies_true, nI_l, ylle_t, ylle_f, xcl_t, xcl_f]; exact x2
                      · simp (disch := omega) only [xle_t, xle_f, xlt_t, xlt_f, xeq_t, xeq_f, xle0_t, xle0_f, xlt0_f, x0lt_t, x0lt_f, x0le_t, xeq0_t, xeq0_f, xin, xem_f, xme_f, xlem_f, xlm_f, xml_t, xmle_t, nI_clamp, nI_add, pk_mul, pk_sub, zI_s, zI_k, zI_o, zL_s, zL_k, zL_o, zR_s, zR_k, zR_o, zIL, zIR, zIN, zLI, zLR, zLN, zRI, zRL, zRN, true_and, and_true, not_true_eq_false, not_false_eq_true, true_implies, false_implies, implies_true, forall_const, if_true, if_false, eq_self, false_and, and_false, implies_true, nI_l, ylle_t, ylle_f, xcl_t, xcl_f]
                        exact propext ⟨fun z => absurd z (by decide), fun z => absurd z (by decide)⟩
                      · simp (disch := omega) only [xle_t, xle_f, xlt_t, xlt_f, xeq_t, xeq_f, xle0_t, xle0_f, xlt0_f, x0lt_t, x0lt_f, x0le_t, xeq0_t, xeq0_f, xin, xem_f, xme_f, xlem_f, xlm_f, xml_t, xmle_t, nI_clamp, nI_add, pk_mul, pk_sub, zI_s, zI_k, zI_o, zL_s, zL_k, zL_o, zR_s, zR_k, zR_o, zIL, zIR, zIN, zLI, zLR, zLN, zRI, zRL, zRN, true_and, and_true, not_true_eq_false, not_false_eq_true, true_implies, false_implies, implies_true, forall_const, if_true, if_false, eq_self, false_and, and_false, implies_true, nI_l, ylle_t, ylle_f, xcl_t, xcl_f]; rfl
                    · have q : (x < c + 1 ∧ rE K1 x = true) ↔ (x < c ∧ rE K1 x = true) := by
                        constructor
                        · rintro ⟨w1, w2⟩; exact ⟨by omega, w2⟩
                        · rintro ⟨w1, w2⟩; exact ⟨by omega, w2⟩
                      have q1 : (rAway K1 (R.2.2.2.2.2 + s) (c + 1)).2.1 x = (rAway K1 (R.2.2.2.2.2 + s) c).2.1 x := by
                        show (if _ then _ else _) = if _ then _ else _
                        simp only [q]
                      have q2 : (rAway K1 (R.2.2.2.2.2 + s) (c + 1)).2.2.2.2.1 x = (rAway K1 (R.2.2.2.2.2 + s) c).2.2.2.2.1 x := by
                        show (if _ then _ else _) = if _ then _ else _
                        simp only [q]
                      have q3 : (rAway K1 (R.2.2.2.2.2 + s) (c + 1)).2.2.2.2.2 x = (rAway K1 (R.2.2.2.2.2 + s) c).2.2.2.2.2 x := by
                        show (if _ then _ else _) = if _ then _ else _
                        simp only [q]
                      show _ ∧ _ = nI ((rAway K1 (R.2.2.2.2.2 + s) (c + 1)).2.1 x) ∧ _ ∧ _ = ((rAway K1 (R.2.2.2.2.2 + s) (c + 1)).2.2.2.2.1 x = 0) ∧ _ = eI ((rAway K1 (R.2.2.2.2.2 + s) (c + 1)).2.2.2.2.2 x) ∧ (x < n → (rAway K1 (R.2.2.2.2.2 + s) (c + 1)).2.2.2.2.1 x = 0 → _)
                      rw [q1, q2, q3]
                      refine ⟨?_, ?_, ?_, ?_, ?_, ?_⟩
                      · simp (disch := omega) only [xle_t, xle_f, xlt_t, xlt_f, xeq_t, xeq_f, xle0_t, xle0_f, xlt0_f, x0lt_t, x0lt_f, x0le_t, xeq0_t, xeq0_f, xin, xem_f, xme_f, xlem_f, xlm_f, xml_t, xmle_t, nI_clamp, nI_add, pk_mul, pk_sub, zI_s, zI_k, zI_o, zL_s, zL_k, zL_o, zR_s, zR_k, zR_o, zIL, zIR, zIN, zLI, zLR, zLN, zRI, zRL, zRN, true_and, and_true, not_true_eq_false, not_false_eq_true, true_implies, false_implies, implies_true, forall_const, if_true, if_false, eq_self, false_and, and_false, implies_true, nI_l, ylle_t, ylle_f, xcl_t, xcl_f]; exact x0
                      · simp (disch := omega) only [xle_t, xle_f, xlt_t, xlt_f, xeq_t, xeq_f, xle0_t, xle0_f, xlt0_f, x0lt_t, x0lt_f, x0le_t, xeq0_t, xeq0_f, xin, xem_f, xme_f, xlem_f, xlm_f, xml_t, xmle_t, nI_clamp, nI_add, pk_mul, pk_sub, zI_s, zI_k, zI_o, zL_s, zL_k, zL_o, zR_s, zR_k, zR_o, zIL, zIR, zIN, zLI, zLR, zLN, zRI, zRL, zRN, true_and, and_true, not_true_eq_false, not_false_eq_true, true_implies, false_implies, implies_true, forall_const, if_true, if_false, eq_self, false_and, and_false, implies_true, nI_l, ylle_t, ylle_f, xcl_t, xcl_f]; exact x1
                      · simp (disch := omega) only [xle_t, xle_f, xlt_t, xlt_f, xeq_t, xeq_f, xle0_t, xle0_f, xlt0_f, x0lt_t, x0lt_f, x0le_t, xeq0_t, xeq0_f, xin, xem_f, xme_f, xlem_f, xlm_f, xml_t, xmle_t, nI_clamp, nI_add, pk_mul, pk_sub, zI_s, zI_k, zI_o, zL_s, zL_k, zL_o, zR_s, zR_k, zR_o, zIL, zIR, zIN, zLI, zLR, zLN, zRI, zRL, zRN, true_and, and_true, not_true_eq_false, not_false_eq_true, true_implies, false_implies, implies_true, forall_const, if_true, if_false, eq_self, false_and, and_false, implies_true, nI_l, ylle_t, ylle_f, xcl_t, xcl_f]; exact x2
                      · rw [zI_o _ _ _ (by omega), zI_k _ _ _ y, zI_o _ _ _ (by omega)]; exact x3
                      · simp (disch := omega) only [xle_t, xle_f, xlt_t, xlt_f, xeq_t, xeq_f, xle0_t, xle0_f, xlt0_f, x0lt_t, x0lt_f, x0le_t, xeq0_t, xeq0_f, xin, xem_f, xme_f, xlem_f, xlm_f, xml_t, xmle_t, nI_clamp, nI_add, pk_mul, pk_sub, zI_s, zI_k, zI_o, zL_s, zL_k, zL_o, zR_s, zR_k, zR_o, zIL, zIR, zIN, zLI, zLR, zLN, zRI, zRL, zRN, true_and, and_true, not_true_eq_false, not_false_eq_true, true_implies, false_implies, implies_true, forall_const, if_true, if_false, eq_self, false_and, and_false, implies_true, nI_l, ylle_t, ylle_f, xcl_t, xcl_f]; exact x4
                      · rw [zI_o _ _ _ (by omega), zI_o _ _ _ (by omega), zI_o _ _ _ (by omega), zI_o _ _ _ (by omega), zI_o _ _ _ (by omega), zI_o _ _ _ (by omega)]; exact x5
                · have z : ¬ rE K1 c = true := by rw [rE_t]; omega
                  rw [if_neg z] at hbit
                  simp (disch := omega) only [xle_t, xle_f, xlt_t, xlt_f, xeq_t, xeq_f, xle0_t, xle0_f, xlt0_f, x0lt_t, x0lt_f, x0le_t, xeq0_t, xeq0_f, xin, xem_f, xme_f, xlem_f, xlm_f, xml_t, xmle_t, nI_clamp, nI_add, pk_mul, pk_sub, zI_s, zI_k, zI_o, zL_s, zL_k, zL_o, zR_s, zR_k, zR_o, zIL, zIR, zIN, zLI, zLR, zLN, zRI, zRL, zRN, true_and, and_true, not_true_eq_false, not_false_eq_true, true_implies, false_implies, implies_true, forall_const, if_true, if_false, eq_self, false_and, and_false, implies_true, nI_l, ylle_t, ylle_f, xcl_t, xcl_f, c0', c1']
                  rw [← hbit]
                  exact ihA (c + 1) (by omega) g2 r2 f2 (by rw [same z]; exact s2)
              · have z : ¬ rE K1 c = true := by rw [rE_t]; omega
                rw [if_neg z] at hbit
                simp (disch := omega) only [xle_t, xle_f, xlt_t, xlt_f, xeq_t, xeq_f, xle0_t, xle0_f, xlt0_f, x0lt_t, x0lt_f, x0le_t, xeq0_t, xeq0_f, xin, xem_f, xme_f, xlem_f, xlm_f, xml_t, xmle_t, nI_clamp, nI_add, pk_mul, pk_sub, zI_s, zI_k, zI_o, zL_s, zL_k, zL_o, zR_s, zR_k, zR_o, zIL, zIR, zIN, zLI, zLR, zLN, zRI, zRL, zRN, true_and, and_true, not_true_eq_false, not_false_eq_true, true_implies, false_implies, implies_true, forall_const, if_true, if_false, eq_self, false_and, and_false, implies_true, nI_l, ylle_t, ylle_f, xcl_t, xcl_f, c0', c1']
                rw [← hbit]
                exact ihA (c + 1) (by omega) g2 r2 f2 (by rw [same z]; exact s2)
          refine A 8 0 (by omega) g1 r1 (fg.trans f1) ?_
          have ea : rAway K1 (R.2.2.2.2.2 + s) 0 = K1 := by
            have hc' : ∀ x, (x < 0 ∧ rE K1 x = true) ↔ False := fun x => ⟨fun w => absurd w.1 (Nat.not_lt_zero _), fun w => w.elim⟩
            unfold rAway
            simp only [hc', if_false]
          rw [ea]
          exact s1
        refine u_X11_runs_133 (d1' := 3) (d2' := 3) (d3' := 3) rg (by omega) (by omega) (by omega) ?_
        rcases hu with ⟨hv, hu0⟩ | ⟨hv, hu0⟩
        · subst hv
          simp (disch := omega) only [xle_t, xle_f, xlt_t, xlt_f, xeq_t, xeq_f, xle0_t, xle0_f, xlt0_f, x0lt_t, x0lt_f, x0le_t, xeq0_t, xeq0_f, xin, xem_f, xme_f, xlem_f, xlm_f, xml_t, xmle_t, nI_clamp, nI_add, pk_mul, pk_sub, zI_s, zI_k, zI_o, zL_s, zL_k, zL_o, zR_s, zR_k, zR_o, zIL, zIR, zIN, zLI, zLR, zLN, zRI, zRL, zRN, true_and, and_true, not_true_eq_false, not_false_eq_true, true_implies, false_implies, implies_true, forall_const, if_true, if_false, eq_self, false_and, and_false, implies_true, nI_l, ylle_t, ylle_f, xcl_t, xcl_f, oI]
          exact T (by omega) 3
        · subst hv
          by_cases hle : R.2.2.2.2.2 + s ≤ u
          · simp (disch := omega) only [xle_t, xle_f, xlt_t, xlt_f, xeq_t, xeq_f, xle0_t, xle0_f, xlt0_f, x0lt_t, x0lt_f, x0le_t, xeq0_t, xeq0_f, xin, xem_f, xme_f, xlem_f, xlm_f, xml_t, xmle_t, nI_clamp, nI_add, pk_mul, pk_sub, zI_s, zI_k, zI_o, zL_s, zL_k, zL_o, zR_s, zR_k, zR_o, zIL, zIR, zIN, zLI, zLR, zLN, zRI, zRL, zRN, true_and, and_true, not_true_eq_false, not_false_eq_true, true_implies, false_implies, implies_true, forall_const, if_true, if_false, eq_self, false_and, and_false, implies_true, nI_l, ylle_t, ylle_f, xcl_t, xcl_f, oI, e24]
            exact T hle 3
          · rw [if_neg hle] at e'
            simp (disch := omega) only [xle_t, xle_f, xlt_t, xlt_f, xeq_t, xeq_f, xle0_t, xle0_f, xlt0_f, x0lt_t, x0lt_f, x0le_t, xeq0_t, xeq0_f, xin, xem_f, xme_f, xlem_f, xlm_f, xml_t, xmle_t, nI_clamp, nI_add, pk_mul, pk_sub, zI_s, zI_k, zI_o, zL_s, zL_k, zL_o, zR_s, zR_k, zR_o, zIL, zIR, zIN, zLI, zLR, zLN, zRI, zRL, zRN, true_and, and_true, not_true_eq_false, not_false_eq_true, true_implies, false_implies, implies_true, forall_const, if_true, if_false, eq_self, false_and, and_false, implies_true, nI_l, ylle_t, ylle_f, xcl_t, xcl_f, oI, e24]
            refine n_burns rg sg (mb8 hg.1 how (fun x hx2 hx3 => Nat.le_trans (by omega) (b2 x hx2 hx3))) (by omega) (fun g1 r1 f1 s1 => ?_)
            rw [rBurn_8 hg.1, e'] at s1
            exact u_X11_runs_298 (kk g1 r1 (fg.trans f1) s1)
  refine u_X11_runs_128 (d1' := 3) r2 (by omega) ?_
  refine n_nx r2 s2.1 (kb8 hH.1) ?_
  rw [rNx_8 hH.1]
  refine u_X11_runs_132 ?_
  exact L 8 0 (by omega) R0 h2 none none r2 F2 s2 hH hy0 hno0 e0
