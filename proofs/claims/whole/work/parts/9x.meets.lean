/-! ===== ways in the reference: meets ===== -/
theorem bt_1 : ∀ j, j < 32 → bt (nI 1) j = decide (j = 0) := by decide +kernel
theorem bt_sh {k i : Nat} (hk : k < 32) (hi : i < 32) : bt (nI 1 <<< (nI k &&& 31)) i = decide (i = k) := by
  rw [b_shl k hk _ hi]
  by_cases z : k ≤ i
  · rw [decide_eq_true z, Bool.true_and, bt_1 _ (by omega)]
    by_cases y : i = k
    · rw [decide_eq_true y, decide_eq_true (by omega)]
    · rw [decide_eq_false y, decide_eq_false (by omega)]
  · rw [decide_eq_false z, Bool.false_and, decide_eq_false (by omega)]
def mTb (S : Nat → Bool) (f : Nat → Int32) : Prop := ∀ t, t < 371200 → bt (f (t / 32)) (t % 32) = S t
theorem mTb_add {S : Nat → Bool} {h : MH} {t : Nat} (q : mTb S (h.1 132)) : mTb (wKu S t) ((zsI h 132 (t / 32) (h.1 132 (t / 32) ||| (nI 1 <<< (nI (t % 32) &&& 31)))).1 132) := fun j hj => by
  have qj := q j hj
  unfold wKu
  by_cases z : j / 32 = t / 32
  · rw [z, zI_s]
    rw [z] at qj
    rw [b_or, qj, bt_sh (Nat.mod_lt _ (by decide)) (Nat.mod_lt _ (by decide))]
    congr 1
    by_cases y : j = t
    · rw [y, decide_eq_true rfl, decide_eq_true rfl]
    · rw [decide_eq_false (by omega), decide_eq_false y]
  · rw [zI_k _ _ _ z, qj, decide_eq_false (by omega), Bool.or_false]
def nU (S : Nat → Bool) (b : WN) : Nat → Bool := wKu S (b.2.2.2 b.1)
theorem wFt_I {h : MH} {k : Nat} (v : Int32) (hk : k = 41 ∨ k = 48) : wFt h (zsI h 111 k v) := ⟨zF_I _ _ _ (by omega), fun j q1 q2 => zI_k _ _ _ (by omega)⟩
theorem wFt.rfl {h : MH} : wFt h h := ⟨zF.rfl, fun _ _ _ => Eq.refl _⟩
theorem wFt.trans {h h1 h2 : MH} (a : wFt h h1) (b : wFt h1 h2) : wFt h h2 := ⟨a.1.trans b.1, fun k q1 q2 => (b.2 k q1 q2).trans (a.2 k q1 q2)⟩
section MT
variable {n d : Nat} {out : Bool} {b : WN} {h h00 : MH} {Q : Option MV → MH → Prop}
theorem m_mt0 {S : Nat → Bool} (hd : 1 ≤ d) (hI : wI n b) (hr : zRf h) (hf : wFm 0 h00 h) (hw : wQ n out b h) (t40 : h00.1 111 40 = nI 0) (hR : mTb S (h.1 132)) (kk : ∀ h', zRf h' → wFt h h' → mTb (nU S b) (h'.1 132) → Q none h') : Con mX11_meets d 0 0 [.inr (.inr 111), .inl (nI b.1)] h Q := by
  have hl : b.1 ≤ 4 := by have := hI.2.1; omega
  have bS := hI.2.2.2
  have em := (hw.2.2.1 b.1 (Nat.le_refl _)).1
  have e40 : h.1 111 40 = nI 0 := by rw [hf.2.1 40 (by omega) (by omega)]; exact t40
  have ef : nI (b.2.2.2 b.1) - nI (b.2.2.2 b.1) / nI 32 * nI 32 = nI (b.2.2.2 b.1 % 32) := pk_rem (by omega) (by decide) (by decide)
  have eq : nI (b.2.2.2 b.1) / nI 32 = nI (b.2.2.2 b.1 / 32) := pk_div (by omega) (by decide) (by decide)
  refine u_X11_meets (d1' := 0) hr hd (by omega) ?_
  simp (disch := omega) only [nI_clamp, em, ef]
  simp only [eq]
  simp (disch := omega) only [xle_t, xle_f, xlt_t, xlt_f, xeq_t, xeq_f, xle0_t, xle0_f, xlt0_f, x0lt_t, x0lt_f, x0le_t, xeq0_t, xeq0_f, xin, xem_f, xme_f, xlem_f, xlm_f, xml_t, xmle_t, nI_clamp, nI_add, pk_mul, pk_sub, zI_s, zI_k, zI_o, zL_s, zL_k, zL_o, zR_s, zR_k, zR_o, zIL, zIR, zIN, zLI, zLR, zLN, zRI, zRL, zRN, true_and, and_true, not_true_eq_false, not_false_eq_true, true_implies, false_implies, implies_true, forall_const, if_true, if_false, eq_self, false_and, and_false, implies_true, nI_l, ylle_t, ylle_f, xcl_t, xcl_f, e40]
  exact kk _ hr ⟨zF_I _ _ _ (by omega), fun j _ _ => by rw [zI_o _ _ _ (by omega)]⟩ (mTb_add hR)
theorem m_mt4 {n0 g T A : Nat} {s : SK} (hg : g = 1) (hd : 1 ≤ d) (hI : wI n b) (hr : zRf h) (hf : wFm 0 h00 h) (hw : wQ n out b h) (t40 : h00.1 111 40 = nI 4) (t39 : h00.1 111 39 = nI T) (hT : T < 2 ^ 31) (hR : h.1 111 41 = bI s.isSome) (kk : ∀ h', zRf h' → wFt h h' → h'.1 111 41 = bI (sU n0 g T A s b).isSome → Q none h') : Con mX11_meets d 0 0 [.inr (.inr 111), .inl (nI b.1)] h Q := by
  have hl : b.1 ≤ 4 := by have := hI.2.1; omega
  have bS := hI.2.2.2
  have em := (hw.2.2.1 b.1 (Nat.le_refl _)).1
  have e40 : h.1 111 40 = nI 4 := by rw [hf.2.1 40 (by omega) (by omega)]; exact t40
  have e39 : h.1 111 39 = nI T := by rw [hf.2.1 39 (by omega) (by omega)]; exact t39
  refine u_X11_meets (d1' := 0) hr hd (by omega) ?_
  by_cases z : b.2.2.2 b.1 = T
  · have : (sU n0 g T A s b).isSome = true := by
      unfold sU
      rw [if_pos z]
      cases s with
      | none => rfl
      | some r => simp only; split <;> rfl
    rw [this] at kk
    simp (disch := omega) only [xle_t, xle_f, xlt_t, xlt_f, xeq_t, xeq_f, xle0_t, xle0_f, xlt0_f, x0lt_t, x0lt_f, x0le_t, xeq0_t, xeq0_f, xin, xem_f, xme_f, xlem_f, xlm_f, xml_t, xmle_t, nI_clamp, nI_add, pk_mul, pk_sub, zI_s, zI_k, zI_o, zL_s, zL_k, zL_o, zR_s, zR_k, zR_o, zIL, zIR, zIN, zLI, zLR, zLN, zRI, zRL, zRN, true_and, and_true, not_true_eq_false, not_false_eq_true, true_implies, false_implies, implies_true, forall_const, if_true, if_false, eq_self, false_and, and_false, implies_true, nI_l, ylle_t, ylle_f, xcl_t, xcl_f, em, e40, e39]
    exact kk _ hr (wFt_I _ (Or.inl rfl)) (by rw [zI_s]; rfl)
  · rw [sU_ne z] at kk
    simp (disch := omega) only [xle_t, xle_f, xlt_t, xlt_f, xeq_t, xeq_f, xle0_t, xle0_f, xlt0_f, x0lt_t, x0lt_f, x0le_t, xeq0_t, xeq0_f, xin, xem_f, xme_f, xlem_f, xlm_f, xml_t, xmle_t, nI_clamp, nI_add, pk_mul, pk_sub, zI_s, zI_k, zI_o, zL_s, zL_k, zL_o, zR_s, zR_k, zR_o, zIL, zIR, zIN, zLI, zLR, zLN, zRI, zRL, zRN, true_and, and_true, not_true_eq_false, not_false_eq_true, true_implies, false_implies, implies_true, forall_const, if_true, if_false, eq_self, false_and, and_false, implies_true, nI_l, ylle_t, ylle_f, xcl_t, xcl_f, em, e40, e39]
    exact kk _ hr (wFt_I _ (Or.inl rfl)) (by rw [zI_s]; exact hR)
theorem m_mt1 {T : Nat} {f : Bool} (hd : 1 ≤ d) (hI : wI n b) (hM : wMo b) (hr : zRf h) (hf : wFm 0 h00 h) (hw : wQ n out b h) (t40 : h00.1 111 40 = nI 1) (t39 : h00.1 111 39 = nI T) (hT : T < 2 ^ 31) (hR : h.1 111 41 = bI f) (kk : ∀ h', zRf h' → wFt h h' → h'.1 111 41 = bI (fU (bet T) f b) → Q none h') : Con mX11_meets d 0 0 [.inr (.inr 111), .inl (nI b.1)] h Q := by
  have hl : b.1 ≤ 4 := by have := hI.2.1; omega
  have bS := hI.2.2.2
  have em := (hw.2.2.1 b.1 (Nat.le_refl _)).1
  have e40 : h.1 111 40 = nI 1 := by rw [hf.2.1 40 (by omega) (by omega)]; exact t40
  have e39 : h.1 111 39 = nI T := by rw [hf.2.1 39 (by omega) (by omega)]; exact t39
  refine u_X11_meets (d1' := 0) hr hd (by omega) ?_
  simp (disch := omega) only [xle_t, xle_f, xlt_t, xlt_f, xeq_t, xeq_f, xle0_t, xle0_f, xlt0_f, x0lt_t, x0lt_f, x0le_t, xeq0_t, xeq0_f, xin, xem_f, xme_f, xlem_f, xlm_f, xml_t, xmle_t, nI_clamp, nI_add, pk_mul, pk_sub, zI_s, zI_k, zI_o, zL_s, zL_k, zL_o, zR_s, zR_k, zR_o, zIL, zIR, zIN, zLI, zLR, zLN, zRI, zRL, zRN, true_and, and_true, not_true_eq_false, not_false_eq_true, true_implies, false_implies, implies_true, forall_const, if_true, if_false, eq_self, false_and, and_false, implies_true, nI_l, ylle_t, ylle_f, xcl_t, xcl_f, em, e40]
  have L : ∀ m i, i + m = b.1 → ∀ h', zRf h' → wFt h h' → h'.1 111 41 = bI (f || decide (∃ j, j < i ∧ b.2.2.2 j + T = b.2.2.2 b.1)) → J mX11_meets d 0 0 Q 0 0 63 [some (.inr (.inr 111)), some (.inl (nI b.1)), some (.inl (nI (b.2.2.2 b.1))), some (.inl (nI i)), none] [] h' := by
    intro m
    induction m with
    | zero =>
      intro i hi h' r' f' g'
      obtain rfl : i = b.1 := by omega
      refine u_X11_meets_63 r' ?_
      simp (disch := omega) only [xle_t, xle_f, xlt_t, xlt_f, xeq_t, xeq_f, xle0_t, xle0_f, xlt0_f, x0lt_t, x0lt_f, x0le_t, xeq0_t, xeq0_f, xin, xem_f, xme_f, xlem_f, xlm_f, xml_t, xmle_t, nI_clamp, nI_add, pk_mul, pk_sub, zI_s, zI_k, zI_o, zL_s, zL_k, zL_o, zR_s, zR_k, zR_o, zIL, zIR, zIN, zLI, zLR, zLN, zRI, zRL, zRN, true_and, and_true, not_true_eq_false, not_false_eq_true, true_implies, false_implies, implies_true, forall_const, if_true, if_false, eq_self, false_and, and_false, implies_true, nI_l, ylle_t, ylle_f, xcl_t, xcl_f]
      exact kk h' r' f' g'
    | succ m ih =>
      intro i hi h' r' f' g'
      have ei : h'.1 130 i = nI (b.2.2.2 i) := by rw [f'.1.i (by omega)]; exact (hw.2.2.1 i (by omega)).1
      have e3 : h'.1 111 39 = nI T := by rw [f'.2 39 (by omega) (by omega)]; exact e39
      have le := hM.le (i := i) (j := b.1) (by omega) (Nat.le_refl _)
      refine u_X11_meets_63 r' ?_
      by_cases z : b.2.2.2 i + T = b.2.2.2 b.1
      · simp (disch := omega) only [xle_t, xle_f, xlt_t, xlt_f, xeq_t, xeq_f, xle0_t, xle0_f, xlt0_f, x0lt_t, x0lt_f, x0le_t, xeq0_t, xeq0_f, xin, xem_f, xme_f, xlem_f, xlm_f, xml_t, xmle_t, nI_clamp, nI_add, pk_mul, pk_sub, zI_s, zI_k, zI_o, zL_s, zL_k, zL_o, zR_s, zR_k, zR_o, zIL, zIR, zIN, zLI, zLR, zLN, zRI, zRL, zRN, true_and, and_true, not_true_eq_false, not_false_eq_true, true_implies, false_implies, implies_true, forall_const, if_true, if_false, eq_self, false_and, and_false, implies_true, nI_l, ylle_t, ylle_f, xcl_t, xcl_f, ei, e3]
        refine ih (i + 1) (by omega) _ r' (f'.trans (wFt_I _ (Or.inl rfl))) ?_
        have : decide (∃ j, j < i + 1 ∧ b.2.2.2 j + T = b.2.2.2 b.1) = true := decide_eq_true ⟨i, by omega, z⟩
        rw [zI_s, this, Bool.or_true]
        rfl
      · simp (disch := omega) only [xle_t, xle_f, xlt_t, xlt_f, xeq_t, xeq_f, xle0_t, xle0_f, xlt0_f, x0lt_t, x0lt_f, x0le_t, xeq0_t, xeq0_f, xin, xem_f, xme_f, xlem_f, xlm_f, xml_t, xmle_t, nI_clamp, nI_add, pk_mul, pk_sub, zI_s, zI_k, zI_o, zL_s, zL_k, zL_o, zR_s, zR_k, zR_o, zIL, zIR, zIN, zLI, zLR, zLN, zRI, zRL, zRN, true_and, and_true, not_true_eq_false, not_false_eq_true, true_implies, false_implies, implies_true, forall_const, if_true, if_false, eq_self, false_and, and_false, implies_true, nI_l, ylle_t, ylle_f, xcl_t, xcl_f, ei, e3]
        refine ih (i + 1) (by omega) _ r' (f'.trans (wFt_I _ (Or.inl rfl))) ?_
        have : decide (∃ j, j < i + 1 ∧ b.2.2.2 j + T = b.2.2.2 b.1) = decide (∃ j, j < i ∧ b.2.2.2 j + T = b.2.2.2 b.1) := by
          refine decide_eq_decide.mpr ⟨fun ⟨j, j1, j2⟩ => ⟨j, ?_, j2⟩, fun ⟨j, j1, j2⟩ => ⟨j, by omega, j2⟩⟩
          by_cases y : j = i
          · rw [y] at j2; exact absurd j2 z
          · omega
        rw [zI_s, this]
        exact g'
  have base : ∀ i, i = 0 → h.1 111 41 = bI (f || decide (∃ j, j < i ∧ b.2.2.2 j + T = b.2.2.2 b.1)) := fun i hi => by
    have : decide (∃ j, j < i ∧ b.2.2.2 j + T = b.2.2.2 b.1) = false := decide_eq_false (fun ⟨j, j1, _⟩ => by omega)
    rw [this, Bool.or_false]
    exact hR
  exact L b.1 0 (by omega) h hr wFt.rfl (base 0 rfl)
/-- what comes of the best -/
def sB (s : SK) : Option Nat := s.map (·.1)
theorem sU_B {n g T A : Nat} {s : SK} {b : WN} (hg : g ≠ 1) (h : b.2.2.2 b.1 = T) : sB (sU n g T A s b) = some (match sB s with
    | none => sCo n g A b
    | some v => min v (sCo n g A b)) := by
  unfold sU
  rw [if_pos h]
  rcases s with _ | r
  · rfl
  · show sB (if g ≠ 1 ∧ sCo n g A b < r.1 then _ else _) = some (min r.1 _)
    by_cases z : sCo n g A b < r.1
    · rw [if_pos ⟨hg, z⟩]
      show some (sCo n g A b) = _
      rw [Nat.min_eq_right (by omega)]
    · rw [if_neg (fun q => z q.2)]
      show some r.1 = _
      rw [Nat.min_eq_left (by omega)]
theorem m_mt2 {T A : Nat} {s : SK} (hd : 1 ≤ d) (hI : wI n b) (hF : wFw n b) (hr : zRf h) (hf : wFm 0 h00 h) (hw : wQ n out b h) (t40 : h00.1 111 40 = nI 2) (t39 : h00.1 111 39 = nI T) (hT : T < 2 ^ 31) (hR : h.1 111 41 = oI (sB s) ∧ ∀ v, sB s = some v → v ≤ 400000) (kk : ∀ h', zRf h' → wFt h h' → (h'.1 111 41 = oI (sB (sU n 2 T A s b)) ∧ ∀ v, sB (sU n 2 T A s b) = some v → v ≤ 400000) → Q none h') : Con mX11_meets d 0 0 [.inr (.inr 111), .inl (nI b.1)] h Q := by
  have hl : b.1 ≤ 4 := by have := hI.2.1; omega
  have bS := hI.2.2.2
  obtain ⟨em, el, _⟩ := hw.2.2.1 b.1 (Nat.le_refl _)
  have e40 : h.1 111 40 = nI 2 := by rw [hf.2.1 40 (by omega) (by omega)]; exact t40
  have e39 : h.1 111 39 = nI T := by rw [hf.2.1 39 (by omega) (by omega)]; exact t39
  have bl : wLi n b b.1 ≤ 32 := wLi_le hI.1 hF (Nat.le_refl _) hl
  have ec : sCo n 2 A b = wLi n b b.1 := if_pos rfl
  obtain ⟨e41, hv⟩ := hR
  refine u_X11_meets (d1' := 0) hr hd (by omega) ?_
  by_cases z : b.2.2.2 b.1 = T
  · have eU := sU_B (n := n) (A := A) (s := s) (g := 2) (by decide) z
    rw [ec] at eU
    rcases es : sB s with _ | v
    · rw [es] at eU e41
      simp only at eU
      rw [eU] at kk
      rw [show oI none = -(nI 1) from rfl] at e41
      simp (disch := omega) only [xle_t, xle_f, xlt_t, xlt_f, xeq_t, xeq_f, xle0_t, xle0_f, xlt0_f, x0lt_t, x0lt_f, x0le_t, xeq0_t, xeq0_f, xin, xem_f, xme_f, xlem_f, xlm_f, xml_t, xmle_t, nI_clamp, nI_add, pk_mul, pk_sub, zI_s, zI_k, zI_o, zL_s, zL_k, zL_o, zR_s, zR_k, zR_o, zIL, zIR, zIN, zLI, zLR, zLN, zRI, zRL, zRN, true_and, and_true, not_true_eq_false, not_false_eq_true, true_implies, false_implies, implies_true, forall_const, if_true, if_false, eq_self, false_and, and_false, implies_true, nI_l, ylle_t, ylle_f, xcl_t, xcl_f, em, el, e40, e39, e41]
      exact kk _ hr (wFt_I _ (Or.inl rfl)) ⟨by rw [zI_s]; rfl, fun v q => by have := Option.some.inj q; omega⟩
    · rw [es] at eU e41
      have v4 := hv v es
      rw [show oI (some v) = nI v from rfl] at e41
      rcases Nat.lt_or_ge (wLi n b b.1) v with c1 | c1
      · simp only [Nat.min_eq_right (Nat.le_of_lt c1)] at eU
        rw [eU] at kk
        simp (disch := omega) only [xle_t, xle_f, xlt_t, xlt_f, xeq_t, xeq_f, xle0_t, xle0_f, xlt0_f, x0lt_t, x0lt_f, x0le_t, xeq0_t, xeq0_f, xin, xem_f, xme_f, xlem_f, xlm_f, xml_t, xmle_t, nI_clamp, nI_add, pk_mul, pk_sub, zI_s, zI_k, zI_o, zL_s, zL_k, zL_o, zR_s, zR_k, zR_o, zIL, zIR, zIN, zLI, zLR, zLN, zRI, zRL, zRN, true_and, and_true, not_true_eq_false, not_false_eq_true, true_implies, false_implies, implies_true, forall_const, if_true, if_false, eq_self, false_and, and_false, implies_true, nI_l, ylle_t, ylle_f, xcl_t, xcl_f, em, el, e40, e39, e41]
        exact kk _ hr (wFt_I _ (Or.inl rfl)) ⟨by rw [zI_s]; rfl, fun v q => by have := Option.some.inj q; omega⟩
      · simp only [Nat.min_eq_left c1] at eU
        rw [eU] at kk
        simp (disch := omega) only [xle_t, xle_f, xlt_t, xlt_f, xeq_t, xeq_f, xle0_t, xle0_f, xlt0_f, x0lt_t, x0lt_f, x0le_t, xeq0_t, xeq0_f, xin, xem_f, xme_f, xlem_f, xlm_f, xml_t, xmle_t, nI_clamp, nI_add, pk_mul, pk_sub, zI_s, zI_k, zI_o, zL_s, zL_k, zL_o, zR_s, zR_k, zR_o, zIL, zIR, zIN, zLI, zLR, zLN, zRI, zRL, zRN, true_and, and_true, not_true_eq_false, not_false_eq_true, true_implies, false_implies, implies_true, forall_const, if_true, if_false, eq_self, false_and, and_false, implies_true, nI_l, ylle_t, ylle_f, xcl_t, xcl_f, em, el, e40, e39, e41]
        exact kk _ hr wFt.rfl ⟨e41, fun v' q => by have := Option.some.inj q; omega⟩
  · rw [sU_ne z] at kk
    simp (disch := omega) only [xle_t, xle_f, xlt_t, xlt_f, xeq_t, xeq_f, xle0_t, xle0_f, xlt0_f, x0lt_t, x0lt_f, x0le_t, xeq0_t, xeq0_f, xin, xem_f, xme_f, xlem_f, xlm_f, xml_t, xmle_t, nI_clamp, nI_add, pk_mul, pk_sub, zI_s, zI_k, zI_o, zL_s, zL_k, zL_o, zR_s, zR_k, zR_o, zIL, zIR, zIN, zLI, zLR, zLN, zRI, zRL, zRN, true_and, and_true, not_true_eq_false, not_false_eq_true, true_implies, false_implies, implies_true, forall_const, if_true, if_false, eq_self, false_and, and_false, implies_true, nI_l, ylle_t, ylle_f, xcl_t, xcl_f, em, e40, e39]
    exact kk _ hr wFt.rfl ⟨e41, hv⟩
end MT
