/-! ===== the reference's next ===== -/
def mN (h h' : MH) : Prop := zF (fun a => a ≠ 111) h h' ∧ ∀ k, k ≠ 6 → k ≠ 7 → k ≠ 9 → k ≠ 10 → h'.1 111 k = h.1 111 k
theorem mN.rfl {h : MH} : mN h h := ⟨zF.rfl, fun _ _ _ _ _ => Eq.refl _⟩
theorem mN.trans {h h1 h2 : MH} (a : mN h h1) (b : mN h1 h2) : mN h h2 := ⟨a.1.trans b.1, fun k q1 q2 q3 q4 => (b.2 k q1 q2 q3 q4).trans (a.2 k q1 q2 q3 q4)⟩
theorem mN_I (h : MH) {k : Nat} (v : Int32) (hk : k = 6 ∨ k = 7 ∨ k = 9 ∨ k = 10) : mN h (zsI h 111 k v) := ⟨zF_I _ _ _ (by omega), fun j q1 q2 q3 q4 => zI_k _ _ _ (by omega)⟩
theorem kM.keep {f : Nat → Nat} {n : Nat} {h h' : MH} (k : kM f n h) (e : h'.1 114 = h.1 114) : kM f n h' := ⟨k.1, fun j hj => by rw [e]; exact k.2 j hj⟩
def mQ (n : Nat) (t : TK) (h : MH) : Prop := h.1 111 8 = nI n ∧ h.1 111 6 = nI t.2.1 ∧ h.1 111 7 = nI t.2.2.1 ∧ h.1 111 9 = nI t.1 ∧ (t.1 = 12 → h.1 111 10 = nI t.2.2.2)
theorem n_adv {f : Nat → Nat} {n p : Nat} {h : MH} {d : Nat} {Q : Option MV → MH → Prop} (hZ : kStr) (hr : zRf h) (hk : kM f n h) (hp : p ≤ n) (h8 : h.1 111 8 = nI n) (h7 : h.1 111 7 = nI p) (hd : 12 ≤ d) (kk : ∀ h', zRf h' → mN h h' → mQ n (kTk f n p) h' → Q none h') : Con mX11_next d 0 0 [.inr (.inr 111)] h Q := by
  have h400 := hk.1
  refine u_X11_next hr ?_
  rw [h7]
  unfold kTk at kk
  have D : ∀ s, s < n → kE kSpc f n p = s → kDig (f s) = true → kLet (f s) = false → ∀ m q, q + m = n → s ≤ q → kE kDig f n q = kE kDig f n s → ∀ g, zRf g → mN h g → g.1 111 6 = nI s → g.1 111 7 = nI q → g.1 111 10 = nI (kV f s (q - s)) → (∀ i, i < q - s → f (s + i) ≤ 57) → J mX11_next d 0 0 Q 0 0 146 [some (.inr (.inr 111))] [] g := by
    intro s hs es hd1 hl1 m
    have kk' : ∀ h', zRf h' → mN h h' → mQ n (if kE kDig f n s - s ≤ 3 then 12 else 15, s, kE kDig f n s, kV f s (kE kDig f n s - s)) h' → Q none h' := by
      rw [es] at kk
      unfold kT1 at kk
      rw [if_neg (by omega), if_neg (by rw [hl1]; decide), if_pos hd1] at kk
      exact kk
    have fin : ∀ q, q ≤ n → s ≤ q → q = kE kDig f n s → ∀ g, zRf g → mN h g → g.1 111 8 = nI n → g.1 111 6 = nI s → g.1 111 7 = nI q → g.1 111 10 = nI (kV f s (q - s)) → (q - s ≤ 3 → Q none (zsI g 111 9 (nI 12))) ∧ (¬ q - s ≤ 3 → Q none (zsI g 111 9 (nI 15))) := by
      intro q hq hsq eq g rg fg e8 e6 e7 e10
      rw [← eq] at kk'
      refine ⟨fun z => ?_, fun z => ?_⟩
      · rw [if_pos z] at kk'
        exact kk' _ rg (fg.trans (mN_I _ _ (by omega))) ⟨(zI_k _ _ _ (by decide)).trans e8, (zI_k _ _ _ (by decide)).trans e6, (zI_k _ _ _ (by decide)).trans e7, zI_s _ _ _ _, fun _ => (zI_k _ _ _ (by decide)).trans e10⟩
      · rw [if_neg z] at kk'
        exact kk' _ rg (fg.trans (mN_I _ _ (by omega))) ⟨(zI_k _ _ _ (by decide)).trans e8, (zI_k _ _ _ (by decide)).trans e6, (zI_k _ _ _ (by decide)).trans e7, zI_s _ _ _ _, fun y => absurd (show (15 : Nat) = 12 from y) (by decide)⟩
    induction m with
    | zero =>
      intro q hq hsq eq g rg fg e6 e7 e10 b
      have e8 : g.1 111 8 = nI n := (fg.2 8 (by decide) (by decide) (by decide) (by decide)).trans h8
      obtain rfl : q = n := by omega
      obtain ⟨a1, a2⟩ := fin q (by omega) hsq (by rw [← eq, kE_stop (by omega)]) g rg fg e8 e6 e7 e10
      refine u_X11_next_146 rg (by omega) ?_
      by_cases z : q - s ≤ 3
      · simp (disch := omega) only [xle_t, xle_f, xlt_t, xlt_f, xeq_t, xeq_f, xle0_t, xle0_f, xlt0_f, x0lt_t, x0lt_f, x0le_t, xeq0_t, xeq0_f, xin, xem_f, xme_f, xlem_f, xlm_f, xml_t, xmle_t, nI_clamp, nI_add, pk_mul, pk_sub, zI_s, zI_k, zI_o, zL_s, zL_k, zL_o, zR_s, zR_k, zR_o, zIL, zIR, zIN, zLI, zLR, zLN, zRI, zRL, zRN, true_and, and_true, not_true_eq_false, not_false_eq_true, true_implies, false_implies, implies_true, forall_const, if_true, if_false, eq_self, false_and, and_false, implies_true, nI_l, ylle_t, ylle_f, xcl_t, xcl_f, e8, e7, e6, z]
        exact a1 z
      · simp (disch := omega) only [xle_t, xle_f, xlt_t, xlt_f, xeq_t, xeq_f, xle0_t, xle0_f, xlt0_f, x0lt_t, x0lt_f, x0le_t, xeq0_t, xeq0_f, xin, xem_f, xme_f, xlem_f, xlm_f, xml_t, xmle_t, nI_clamp, nI_add, pk_mul, pk_sub, zI_s, zI_k, zI_o, zL_s, zL_k, zL_o, zR_s, zR_k, zR_o, zIL, zIR, zIN, zLI, zLR, zLN, zRI, zRL, zRN, true_and, and_true, not_true_eq_false, not_false_eq_true, true_implies, false_implies, implies_true, forall_const, if_true, if_false, eq_self, false_and, and_false, implies_true, nI_l, ylle_t, ylle_f, xcl_t, xcl_f, e8, e7, e6, z]
        exact a2 z
    | succ m ih =>
      intro q hq hsq eq g rg fg e6 e7 e10 b
      have e8 : g.1 111 8 = nI n := (fg.2 8 (by decide) (by decide) (by decide) (by decide)).trans h8
      obtain ⟨k1, k2⟩ := hk.2 q (by omega)
      have k1' : g.1 114 q = nI (f q) := by rw [fg.1.i (by omega)]; exact k1
      refine u_X11_next_146 rg (by omega) ?_
      by_cases dg : kDig (f q) = true
      · have dg' := kDig_t.mp dg
        rw [kE_go (by omega) dg] at eq
        have b2 : ∀ i, i < q + 1 - s → f (s + i) ≤ 57 := fun i hi => by
          by_cases y : i = q - s
          · rw [y, show s + (q - s) = q by omega]; exact dg'.2
          · exact b i (by omega)
        have kv : kV f s (q + 1 - s) = if q - s < 3 then kV f s (q - s) * 10 + (f q - 48) else kV f s (q - s) := by
          rw [show q + 1 - s = (q - s) + 1 by omega]
          show (if q - s < 3 then kV f s (q - s) * 10 + (f (s + (q - s)) - 48) else kV f s (q - s)) = _
          rw [show s + (q - s) = q by omega]
        by_cases z : 3 ≤ q - s
        · rw [if_neg (by omega)] at kv
          simp (disch := omega) only [xle_t, xle_f, xlt_t, xlt_f, xeq_t, xeq_f, xle0_t, xle0_f, xlt0_f, x0lt_t, x0lt_f, x0le_t, xeq0_t, xeq0_f, xin, xem_f, xme_f, xlem_f, xlm_f, xml_t, xmle_t, nI_clamp, nI_add, pk_mul, pk_sub, zI_s, zI_k, zI_o, zL_s, zL_k, zL_o, zR_s, zR_k, zR_o, zIL, zIR, zIN, zLI, zLR, zLN, zRI, zRL, zRN, true_and, and_true, not_true_eq_false, not_false_eq_true, true_implies, false_implies, implies_true, forall_const, if_true, if_false, eq_self, false_and, and_false, implies_true, nI_l, ylle_t, ylle_f, xcl_t, xcl_f, e8, e7, e6, k1', z]
          refine ih (q + 1) (by omega) (by omega) eq _ rg (fg.trans (mN_I _ _ (by omega))) ((zI_k _ _ _ (by decide)).trans e6) (zI_s _ _ _ _) ?_ b2
          rw [zI_k _ _ _ (by decide), kv]; exact e10
        · rw [if_pos (by omega)] at kv
          have hv := kV_le f s (q - s) b
          have hp : 10 ^ (q - s) ≤ 10 ^ 2 := Nat.pow_le_pow_right (by decide) (by omega)
          have hv2 : kV f s (q - s) ≤ 99 := by omega
          clear hv hp
          simp (disch := omega) only [xle_t, xle_f, xlt_t, xlt_f, xeq_t, xeq_f, xle0_t, xle0_f, xlt0_f, x0lt_t, x0lt_f, x0le_t, xeq0_t, xeq0_f, xin, xem_f, xme_f, xlem_f, xlm_f, xml_t, xmle_t, nI_clamp, nI_add, pk_mul, pk_sub, zI_s, zI_k, zI_o, zL_s, zL_k, zL_o, zR_s, zR_k, zR_o, zIL, zIR, zIN, zLI, zLR, zLN, zRI, zRL, zRN, true_and, and_true, not_true_eq_false, not_false_eq_true, true_implies, false_implies, implies_true, forall_const, if_true, if_false, eq_self, false_and, and_false, implies_true, nI_l, ylle_t, ylle_f, xcl_t, xcl_f, e8, e7, e6, k1', z, e10]
          refine ih (q + 1) (by omega) (by omega) eq _ rg (fg.trans ((mN_I _ _ (by omega)).trans (mN_I _ _ (by omega)))) ?_ ?_ ?_ b2
          · rw [zI_k _ _ _ (by decide), zI_k _ _ _ (by decide)]; exact e6
          · rw [zI_s]
          · rw [zI_k _ _ _ (by decide), zI_s, kv]
            exact congrArg nI (by omega)
      · have dg' : ¬ (48 ≤ f q ∧ f q ≤ 57) := fun y => dg (kDig_t.mpr y)
        obtain ⟨a1, a2⟩ := fin q (by omega) hsq (by rw [← eq, kE_stop (fun y => dg y.2)]) g rg fg e8 e6 e7 e10
        by_cases y1 : f q < 48
        · by_cases z : q - s ≤ 3
          · simp (disch := omega) only [xle_t, xle_f, xlt_t, xlt_f, xeq_t, xeq_f, xle0_t, xle0_f, xlt0_f, x0lt_t, x0lt_f, x0le_t, xeq0_t, xeq0_f, xin, xem_f, xme_f, xlem_f, xlm_f, xml_t, xmle_t, nI_clamp, nI_add, pk_mul, pk_sub, zI_s, zI_k, zI_o, zL_s, zL_k, zL_o, zR_s, zR_k, zR_o, zIL, zIR, zIN, zLI, zLR, zLN, zRI, zRL, zRN, true_and, and_true, not_true_eq_false, not_false_eq_true, true_implies, false_implies, implies_true, forall_const, if_true, if_false, eq_self, false_and, and_false, implies_true, nI_l, ylle_t, ylle_f, xcl_t, xcl_f, e8, e7, e6, k1', y1, z]
            exact a1 z
          · simp (disch := omega) only [xle_t, xle_f, xlt_t, xlt_f, xeq_t, xeq_f, xle0_t, xle0_f, xlt0_f, x0lt_t, x0lt_f, x0le_t, xeq0_t, xeq0_f, xin, xem_f, xme_f, xlem_f, xlm_f, xml_t, xmle_t, nI_clamp, nI_add, pk_mul, pk_sub, zI_s, zI_k, zI_o, zL_s, zL_k, zL_o, zR_s, zR_k, zR_o, zIL, zIR, zIN, zLI, zLR, zLN, zRI, zRL, zRN, true_and, and_true, not_true_eq_false, not_false_eq_true, true_implies, false_implies, implies_true, forall_const, if_true, if_false, eq_self, false_and, and_false, implies_true, nI_l, ylle_t, ylle_f, xcl_t, xcl_f, e8, e7, e6, k1', y1, z]
            exact a2 z
        · have y2 : 57 < f q := by omega
          by_cases z : q - s ≤ 3
          · simp (disch := omega) only [xle_t, xle_f, xlt_t, xlt_f, xeq_t, xeq_f, xle0_t, xle0_f, xlt0_f, x0lt_t, x0lt_f, x0le_t, xeq0_t, xeq0_f, xin, xem_f, xme_f, xlem_f, xlm_f, xml_t, xmle_t, nI_clamp, nI_add, pk_mul, pk_sub, zI_s, zI_k, zI_o, zL_s, zL_k, zL_o, zR_s, zR_k, zR_o, zIL, zIR, zIN, zLI, zLR, zLN, zRI, zRL, zRN, true_and, and_true, not_true_eq_false, not_false_eq_true, true_implies, false_implies, implies_true, forall_const, if_true, if_false, eq_self, false_and, and_false, implies_true, nI_l, ylle_t, ylle_f, xcl_t, xcl_f, e8, e7, e6, k1', y1, y2, z]
            exact a1 z
          · simp (disch := omega) only [xle_t, xle_f, xlt_t, xlt_f, xeq_t, xeq_f, xle0_t, xle0_f, xlt0_f, x0lt_t, x0lt_f, x0le_t, xeq0_t, xeq0_f, xin, xem_f, xme_f, xlem_f, xlm_f, xml_t, xmle_t, nI_clamp, nI_add, pk_mul, pk_sub, zI_s, zI_k, zI_o, zL_s, zL_k, zL_o, zR_s, zR_k, zR_o, zIL, zIR, zIN, zLI, zLR, zLN, zRI, zRL, zRN, true_and, and_true, not_true_eq_false, not_false_eq_true, true_implies, false_implies, implies_true, forall_const, if_true, if_false, eq_self, false_and, and_false, implies_true, nI_l, ylle_t, ylle_f, xcl_t, xcl_f, e8, e7, e6, k1', y1, y2, z]
            exact a2 z
  have W : ∀ s, s < n → kE kSpc f n p = s → kLet (f s) = true → ∀ m q, q + m = n → s ≤ q → kE kLet f n q = kE kLet f n s → ∀ g, zRf g → mN h g → g.1 111 6 = nI s → g.1 111 7 = nI q → J mX11_next d 0 0 Q 0 0 89 [some (.inr (.inr 111))] [] g := by
    intro s hs es hl1 m
    have kk' : ∀ h', zRf h' → mN h h' → mQ n (kKey f s (kE kLet f n s), s, kE kLet f n s, 0) h' → Q none h' := by
      rw [es] at kk
      unfold kT1 at kk
      rw [if_neg (by omega), if_pos hl1] at kk
      exact kk
    have fin : ∀ q, q ≤ n → s ≤ q → q = kE kLet f n s → ∀ g, zRf g → mN h g → g.1 111 6 = nI s → g.1 111 7 = nI q → Con mX11_keyAt 11 0 0 [.inr (.inr 111)] g (zri (fun x h' => J mX11_next d 0 0 Q 0 0 121 [some (.inr (.inr 111))] [.inl x, .inr (.inr 111)] h')) := by
      intro q hq hsq eq g rg fg e6 e7
      have e8 : g.1 111 8 = nI n := (fg.2 8 (by decide) (by decide) (by decide) (by decide)).trans h8
      rw [← eq] at kk'
      refine n_key hZ rg (hk.keep (fg.1.i (by omega))) e6 e7 hsq hq (by omega) ?_
      refine u_X11_next_121 rg ?_
      refine kk' _ rg (fg.trans (mN_I _ _ (by omega))) ⟨(zI_k _ _ _ (by decide)).trans e8, (zI_k _ _ _ (by decide)).trans e6, (zI_k _ _ _ (by decide)).trans e7, zI_s _ _ _ _, fun y => ?_⟩
      have := kKey_le f s q
      have y' : kKey f s q = 12 := y
      omega
    induction m with
    | zero =>
      intro q hq hsq eq g rg fg e6 e7
      have e8 : g.1 111 8 = nI n := (fg.2 8 (by decide) (by decide) (by decide) (by decide)).trans h8
      obtain rfl : q = n := by omega
      refine u_X11_next_89 (d1' := 11) (d2' := 11) (d3' := 11) rg (by omega) (by omega) (by omega) (by omega) ?_
      simp (disch := omega) only [xle_t, xle_f, xlt_t, xlt_f, xeq_t, xeq_f, xle0_t, xle0_f, xlt0_f, x0lt_t, x0lt_f, x0le_t, xeq0_t, xeq0_f, xin, xem_f, xme_f, xlem_f, xlm_f, xml_t, xmle_t, nI_clamp, nI_add, pk_mul, pk_sub, zI_s, zI_k, zI_o, zL_s, zL_k, zL_o, zR_s, zR_k, zR_o, zIL, zIR, zIN, zLI, zLR, zLN, zRI, zRL, zRN, true_and, and_true, not_true_eq_false, not_false_eq_true, true_implies, false_implies, implies_true, forall_const, if_true, if_false, eq_self, false_and, and_false, implies_true, nI_l, ylle_t, ylle_f, xcl_t, xcl_f, e8, e7]
      exact fin q (by omega) hsq (by rw [← eq, kE_stop (by omega)]) g rg fg e6 e7
    | succ m ih =>
      intro q hq hsq eq g rg fg e6 e7
      have e8 : g.1 111 8 = nI n := (fg.2 8 (by decide) (by decide) (by decide) (by decide)).trans h8
      obtain ⟨k1, k2⟩ := hk.2 q (by omega)
      have k1' : g.1 114 q = nI (f q) := by rw [fg.1.i (by omega)]; exact k1
      refine u_X11_next_89 (d1' := 11) (d2' := 11) (d3' := 11) rg (by omega) (by omega) (by omega) (by omega) ?_
      by_cases lt : kLet (f q) = true
      · have lt' := kLet_t.mp lt
        rw [kE_go (by omega) lt] at eq
        simp (disch := omega) only [xle_t, xle_f, xlt_t, xlt_f, xeq_t, xeq_f, xle0_t, xle0_f, xlt0_f, x0lt_t, x0lt_f, x0le_t, xeq0_t, xeq0_f, xin, xem_f, xme_f, xlem_f, xlm_f, xml_t, xmle_t, nI_clamp, nI_add, pk_mul, pk_sub, zI_s, zI_k, zI_o, zL_s, zL_k, zL_o, zR_s, zR_k, zR_o, zIL, zIR, zIN, zLI, zLR, zLN, zRI, zRL, zRN, true_and, and_true, not_true_eq_false, not_false_eq_true, true_implies, false_implies, implies_true, forall_const, if_true, if_false, eq_self, false_and, and_false, implies_true, nI_l, ylle_t, ylle_f, xcl_t, xcl_f, e8, e7, k1']
        exact ih (q + 1) (by omega) (by omega) eq _ rg (fg.trans (mN_I _ _ (by omega))) ((zI_k _ _ _ (by decide)).trans e6) (zI_s _ _ _ _)
      · have lt' : ¬ (97 ≤ f q ∧ f q ≤ 122) := fun y => lt (kLet_t.mpr y)
        have a1 := fin q (by omega) hsq (by rw [← eq, kE_stop (fun y => lt y.2)]) g rg fg e6 e7
        by_cases y1 : f q < 97
        · simp (disch := omega) only [xle_t, xle_f, xlt_t, xlt_f, xeq_t, xeq_f, xle0_t, xle0_f, xlt0_f, x0lt_t, x0lt_f, x0le_t, xeq0_t, xeq0_f, xin, xem_f, xme_f, xlem_f, xlm_f, xml_t, xmle_t, nI_clamp, nI_add, pk_mul, pk_sub, zI_s, zI_k, zI_o, zL_s, zL_k, zL_o, zR_s, zR_k, zR_o, zIL, zIR, zIN, zLI, zLR, zLN, zRI, zRL, zRN, true_and, and_true, not_true_eq_false, not_false_eq_true, true_implies, false_implies, implies_true, forall_const, if_true, if_false, eq_self, false_and, and_false, implies_true, nI_l, ylle_t, ylle_f, xcl_t, xcl_f, e8, e7, k1', y1]
          exact a1
        · have y2 : 122 < f q := by omega
          simp (disch := omega) only [xle_t, xle_f, xlt_t, xlt_f, xeq_t, xeq_f, xle0_t, xle0_f, xlt0_f, x0lt_t, x0lt_f, x0le_t, xeq0_t, xeq0_f, xin, xem_f, xme_f, xlem_f, xlm_f, xml_t, xmle_t, nI_clamp, nI_add, pk_mul, pk_sub, zI_s, zI_k, zI_o, zL_s, zL_k, zL_o, zR_s, zR_k, zR_o, zIL, zIR, zIN, zLI, zLR, zLN, zRI, zRL, zRN, true_and, and_true, not_true_eq_false, not_false_eq_true, true_implies, false_implies, implies_true, forall_const, if_true, if_false, eq_self, false_and, and_false, implies_true, nI_l, ylle_t, ylle_f, xcl_t, xcl_f, e8, e7, k1', y1, y2]
          exact a1
  have L : ∀ m s, s + m = n → kE kSpc f n s = kE kSpc f n p → ∀ g, zRf g → mN h g → g.1 111 6 = nI s → J mX11_next d 0 0 Q 0 0 8 [some (.inr (.inr 111))] [] g := by
    intro m
    induction m with
    | zero =>
      intro s hs es g rg fg e6
      have e8 : g.1 111 8 = nI n := (fg.2 8 (by decide) (by decide) (by decide) (by decide)).trans h8
      obtain rfl : s = n := by omega
      rw [kE_stop (by omega)] at es
      rw [← es] at kk
      unfold kT1 at kk
      rw [if_pos (Nat.le_refl _)] at kk
      refine u_X11_next_8 rg (by omega) ?_
      simp (disch := omega) only [xle_t, xle_f, xlt_t, xlt_f, xeq_t, xeq_f, xle0_t, xle0_f, xlt0_f, x0lt_t, x0lt_f, x0le_t, xeq0_t, xeq0_f, xin, xem_f, xme_f, xlem_f, xlm_f, xml_t, xmle_t, nI_clamp, nI_add, pk_mul, pk_sub, zI_s, zI_k, zI_o, zL_s, zL_k, zL_o, zR_s, zR_k, zR_o, zIL, zIR, zIN, zLI, zLR, zLN, zRI, zRL, zRN, true_and, and_true, not_true_eq_false, not_false_eq_true, true_implies, false_implies, implies_true, forall_const, if_true, if_false, eq_self, false_and, and_false, implies_true, nI_l, ylle_t, ylle_f, xcl_t, xcl_f, e8, e6]
      refine kk _ rg (fg.trans ((mN_I _ _ (by omega)).trans (mN_I _ _ (by omega)))) ⟨?_, ?_, ?_, zI_s _ _ _ _, fun y => absurd (show (14 : Nat) = 12 from y) (by decide)⟩
      · rw [zI_k _ _ _ (by decide), zI_k _ _ _ (by decide)]; exact e8
      · rw [zI_k _ _ _ (by decide), zI_k _ _ _ (by decide)]; exact e6
      · rw [zI_k _ _ _ (by decide), zI_s]
    | succ m ih =>
      intro s hs es g rg fg e6
      have e8 : g.1 111 8 = nI n := (fg.2 8 (by decide) (by decide) (by decide) (by decide)).trans h8
      obtain ⟨k1, k2⟩ := hk.2 s (by omega)
      have k1' : g.1 114 s = nI (f s) := by rw [fg.1.i (by omega)]; exact k1
      refine u_X11_next_8 rg (by omega) ?_
      by_cases sp : kSpc (f s) = true
      · have sp' := kSpc_t.mp sp
        rw [kE_go (by omega) sp] at es
        rcases sp' with sp' | sp'
        · simp (disch := omega) only [xle_t, xle_f, xlt_t, xlt_f, xeq_t, xeq_f, xle0_t, xle0_f, xlt0_f, x0lt_t, x0lt_f, x0le_t, xeq0_t, xeq0_f, xin, xem_f, xme_f, xlem_f, xlm_f, xml_t, xmle_t, nI_clamp, nI_add, pk_mul, pk_sub, zI_s, zI_k, zI_o, zL_s, zL_k, zL_o, zR_s, zR_k, zR_o, zIL, zIR, zIN, zLI, zLR, zLN, zRI, zRL, zRN, true_and, and_true, not_true_eq_false, not_false_eq_true, true_implies, false_implies, implies_true, forall_const, if_true, if_false, eq_self, false_and, and_false, implies_true, nI_l, ylle_t, ylle_f, xcl_t, xcl_f, e8, e6, k1', sp']
          exact ih (s + 1) (by omega) es _ rg (fg.trans (mN_I _ _ (by omega))) (zI_s _ _ _ _)
        · simp (disch := omega) only [xle_t, xle_f, xlt_t, xlt_f, xeq_t, xeq_f, xle0_t, xle0_f, xlt0_f, x0lt_t, x0lt_f, x0le_t, xeq0_t, xeq0_f, xin, xem_f, xme_f, xlem_f, xlm_f, xml_t, xmle_t, nI_clamp, nI_add, pk_mul, pk_sub, zI_s, zI_k, zI_o, zL_s, zL_k, zL_o, zR_s, zR_k, zR_o, zIL, zIR, zIN, zLI, zLR, zLN, zRI, zRL, zRN, true_and, and_true, not_true_eq_false, not_false_eq_true, true_implies, false_implies, implies_true, forall_const, if_true, if_false, eq_self, false_and, and_false, implies_true, nI_l, ylle_t, ylle_f, xcl_t, xcl_f, e8, e6, k1', sp']
          exact ih (s + 1) (by omega) es _ rg (fg.trans (mN_I _ _ (by omega))) (zI_s _ _ _ _)
      · have sp' : ¬ (f s = 32 ∨ f s = 10) := fun y => sp (kSpc_t.mpr y)
        have sp1 : ¬ f s = 32 := fun y => sp' (Or.inl y)
        have sp2 : ¬ f s = 10 := fun y => sp' (Or.inr y)
        rw [kE_stop (fun y => sp y.2)] at es
        by_cases lt : kLet (f s) = true
        · have lt' := kLet_t.mp lt
          simp (disch := omega) only [xle_t, xle_f, xlt_t, xlt_f, xeq_t, xeq_f, xle0_t, xle0_f, xlt0_f, x0lt_t, x0lt_f, x0le_t, xeq0_t, xeq0_f, xin, xem_f, xme_f, xlem_f, xlm_f, xml_t, xmle_t, nI_clamp, nI_add, pk_mul, pk_sub, zI_s, zI_k, zI_o, zL_s, zL_k, zL_o, zR_s, zR_k, zR_o, zIL, zIR, zIN, zLI, zLR, zLN, zRI, zRL, zRN, true_and, and_true, not_true_eq_false, not_false_eq_true, true_implies, false_implies, implies_true, forall_const, if_true, if_false, eq_self, false_and, and_false, implies_true, nI_l, ylle_t, ylle_f, xcl_t, xcl_f, e8, e6, k1', sp1, sp2]
          exact W s (by omega) es.symm lt (n - s) s (by omega) (by omega) rfl _ rg (fg.trans (mN_I _ _ (by omega))) ((zI_k _ _ _ (by decide)).trans e6) (zI_s _ _ _ _)
        · have lt' : ¬ (97 ≤ f s ∧ f s ≤ 122) := fun y => lt (kLet_t.mpr y)
          have lf : kLet (f s) = false := by cases hl : kLet (f s) with
            | false => rfl
            | true => exact absurd hl lt
          by_cases dg : kDig (f s) = true
          · have dg' := kDig_t.mp dg
            simp (disch := omega) only [xle_t, xle_f, xlt_t, xlt_f, xeq_t, xeq_f, xle0_t, xle0_f, xlt0_f, x0lt_t, x0lt_f, x0le_t, xeq0_t, xeq0_f, xin, xem_f, xme_f, xlem_f, xlm_f, xml_t, xmle_t, nI_clamp, nI_add, pk_mul, pk_sub, zI_s, zI_k, zI_o, zL_s, zL_k, zL_o, zR_s, zR_k, zR_o, zIL, zIR, zIN, zLI, zLR, zLN, zRI, zRL, zRN, true_and, and_true, not_true_eq_false, not_false_eq_true, true_implies, false_implies, implies_true, forall_const, if_true, if_false, eq_self, false_and, and_false, implies_true, nI_l, ylle_t, ylle_f, xcl_t, xcl_f, e8, e6, k1', sp1, sp2]
            refine D s (by omega) es.symm dg lf (n - s) s (by omega) (by omega) rfl _ rg (fg.trans ((mN_I _ _ (by omega)).trans (mN_I _ _ (by omega)))) ?_ ?_ ?_ (fun i hi => by omega)
            · rw [zI_k _ _ _ (by decide), zI_k _ _ _ (by decide)]; exact e6
            · rw [zI_k _ _ _ (by decide), zI_s]
            · rw [zI_s, Nat.sub_self]; rfl
          · have dg' : ¬ (48 ≤ f s ∧ f s ≤ 57) := fun y => dg (kDig_t.mpr y)
            rw [← es] at kk
            unfold kT1 at kk
            rw [if_neg (by omega), if_neg lt, if_neg dg] at kk
            have fin : ∀ k, (if f s = 59 then 13 else 15) = k → Q none (zsI (zsI (zsI g 111 7 (nI s)) 111 7 (nI (s + 1))) 111 9 (nI k)) := by
              intro k ek
              rw [ek] at kk
              refine kk _ rg (fg.trans ((mN_I _ _ (by omega)).trans ((mN_I _ _ (by omega)).trans (mN_I _ _ (by omega))))) ⟨?_, ?_, ?_, zI_s _ _ _ _, fun y => ?_⟩
              · rw [zI_k _ _ _ (by decide), zI_k _ _ _ (by decide), zI_k _ _ _ (by decide)]; exact e8
              · rw [zI_k _ _ _ (by decide), zI_k _ _ _ (by decide), zI_k _ _ _ (by decide)]; exact e6
              · rw [zI_k _ _ _ (by decide), zI_s]
              · have y' : k = 12 := y
                split at ek <;> omega
            by_cases c : f s = 59
            · have a := fin 13 (if_pos c)
              simp (disch := omega) only [xle_t, xle_f, xlt_t, xlt_f, xeq_t, xeq_f, xle0_t, xle0_f, xlt0_f, x0lt_t, x0lt_f, x0le_t, xeq0_t, xeq0_f, xin, xem_f, xme_f, xlem_f, xlm_f, xml_t, xmle_t, nI_clamp, nI_add, pk_mul, pk_sub, zI_s, zI_k, zI_o, zL_s, zL_k, zL_o, zR_s, zR_k, zR_o, zIL, zIR, zIN, zLI, zLR, zLN, zRI, zRL, zRN, true_and, and_true, not_true_eq_false, not_false_eq_true, true_implies, false_implies, implies_true, forall_const, if_true, if_false, eq_self, false_and, and_false, implies_true, nI_l, ylle_t, ylle_f, xcl_t, xcl_f, e8, e6, k1', c]
              exact a
            · have a := fin 15 (if_neg c)
              by_cases y1 : f s < 48
              · simp (disch := omega) only [xle_t, xle_f, xlt_t, xlt_f, xeq_t, xeq_f, xle0_t, xle0_f, xlt0_f, x0lt_t, x0lt_f, x0le_t, xeq0_t, xeq0_f, xin, xem_f, xme_f, xlem_f, xlm_f, xml_t, xmle_t, nI_clamp, nI_add, pk_mul, pk_sub, zI_s, zI_k, zI_o, zL_s, zL_k, zL_o, zR_s, zR_k, zR_o, zIL, zIR, zIN, zLI, zLR, zLN, zRI, zRL, zRN, true_and, and_true, not_true_eq_false, not_false_eq_true, true_implies, false_implies, implies_true, forall_const, if_true, if_false, eq_self, false_and, and_false, implies_true, nI_l, ylle_t, ylle_f, xcl_t, xcl_f, e8, e6, k1', c, sp1, sp2, y1]
                exact a
              · by_cases y2 : f s < 97
                · simp (disch := omega) only [xle_t, xle_f, xlt_t, xlt_f, xeq_t, xeq_f, xle0_t, xle0_f, xlt0_f, x0lt_t, x0lt_f, x0le_t, xeq0_t, xeq0_f, xin, xem_f, xme_f, xlem_f, xlm_f, xml_t, xmle_t, nI_clamp, nI_add, pk_mul, pk_sub, zI_s, zI_k, zI_o, zL_s, zL_k, zL_o, zR_s, zR_k, zR_o, zIL, zIR, zIN, zLI, zLR, zLN, zRI, zRL, zRN, true_and, and_true, not_true_eq_false, not_false_eq_true, true_implies, false_implies, implies_true, forall_const, if_true, if_false, eq_self, false_and, and_false, implies_true, nI_l, ylle_t, ylle_f, xcl_t, xcl_f, e8, e6, k1', c, sp1, sp2, y1, y2]
                  exact a
                · simp (disch := omega) only [xle_t, xle_f, xlt_t, xlt_f, xeq_t, xeq_f, xle0_t, xle0_f, xlt0_f, x0lt_t, x0lt_f, x0le_t, xeq0_t, xeq0_f, xin, xem_f, xme_f, xlem_f, xlm_f, xml_t, xmle_t, nI_clamp, nI_add, pk_mul, pk_sub, zI_s, zI_k, zI_o, zL_s, zL_k, zL_o, zR_s, zR_k, zR_o, zIL, zIR, zIN, zLI, zLR, zLN, zRI, zRL, zRN, true_and, and_true, not_true_eq_false, not_false_eq_true, true_implies, false_implies, implies_true, forall_const, if_true, if_false, eq_self, false_and, and_false, implies_true, nI_l, ylle_t, ylle_f, xcl_t, xcl_f, e8, e6, k1', c, sp1, sp2, y1, y2]
                  exact a
  exact L (n - p) p (by omega) rfl _ hr (mN_I _ _ (by omega)) (zI_s _ _ _ _)
