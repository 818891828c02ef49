/-! ===== ways in the reference: goes ===== -/
def wDg (g : Nat → Nat) : Nat → Nat
  | 0 => 0
  | n + 1 => 10 * wDg g n + g n
theorem wDg_lt {g : Nat → Nat} : ∀ {n : Nat}, n ≤ 4 → (∀ c, c < n → g c < 3) → wDg g n < 10 ^ n
  | 0, _, _ => Nat.lt_of_lt_of_le Nat.zero_lt_one (Nat.le_refl 1)
  | n + 1, hn, h => by
    have h1 := wDg_lt (n := n) (by omega) (fun c hc => h c (by omega))
    have h2 := h n (by omega)
    rw [Nat.pow_succ]
    show 10 * wDg g n + g n < _
    omega
def wWas (a : WN) (i c : Nat) : Nat := if a.2.1 i c = 0 then 0 else a.2.2.1 i c
def wLi (n : Nat) (a : WN) (i : Nat) : Nat := fb_sm (fun j => fb_sm (fun c => a.2.2.1 (j + 1) c - a.2.2.1 j c) n) i
/-- the reference's rows hold the way to a -/
def wQ (n : Nat) (out : Bool) (a : WN) (h : MH) : Prop := h.1 111 38 = nI n ∧ h.1 111 42 = bI out ∧ (∀ i, i ≤ a.1 → h.1 130 i = nI (a.2.2.2 i) ∧ h.1 131 i = nI (wLi n a i) ∧ ∀ c, c < n → h.1 128 (4 * i + c) = nI (a.2.1 i c) ∧ h.1 129 (4 * i + c) = nI (wWas a i c)) ∧ ∀ i, i < a.1 → h.1 134 i = nI (wDg (a.2.2.1 (i + 1)) n)
def wFm (l : Nat) (h h' : MH) : Prop := zF (fun a => a ≠ 111 ∧ (a < 128 ∨ 131 < a) ∧ a ≠ 132 ∧ a ≠ 134 ∧ a ≠ 135) h h' ∧ (∀ k, k ≠ 41 → k ≠ 48 → h'.1 111 k = h.1 111 k) ∧ (∀ j, j < 4 * (l + 1) → h'.1 128 j = h.1 128 j ∧ h'.1 129 j = h.1 129 j) ∧ (∀ i, i ≤ l → h'.1 130 i = h.1 130 i ∧ h'.1 131 i = h.1 131 i) ∧ ∀ i, i < l → h'.1 134 i = h.1 134 i
theorem wFm.rfl {l : Nat} {h : MH} : wFm l h h := ⟨zF.rfl, fun _ _ _ => Eq.refl _, fun _ _ => ⟨Eq.refl _, Eq.refl _⟩, fun _ _ => ⟨Eq.refl _, Eq.refl _⟩, fun _ _ => Eq.refl _⟩
theorem wFm.trans {l : Nat} {h h1 h2 : MH} (a : wFm l h h1) (b : wFm l h1 h2) : wFm l h h2 := ⟨a.1.trans b.1, fun k q1 q2 => (b.2.1 k q1 q2).trans (a.2.1 k q1 q2), fun j q => ⟨(b.2.2.1 j q).1.trans (a.2.2.1 j q).1, (b.2.2.1 j q).2.trans (a.2.2.1 j q).2⟩, fun i q => ⟨(b.2.2.2.1 i q).1.trans (a.2.2.2.1 i q).1, (b.2.2.2.1 i q).2.trans (a.2.2.2.1 i q).2⟩, fun i q => (b.2.2.2.2 i q).trans (a.2.2.2.2 i q)⟩
theorem wFm.up {l : Nat} {h h1 : MH} (a : wFm (l + 1) h h1) : wFm l h h1 := ⟨a.1, a.2.1, fun j q => a.2.2.1 j (by omega), fun i q => a.2.2.2.1 i (by omega), fun i q => a.2.2.2.2 i (by omega)⟩
theorem wQ.keep {n l : Nat} {out : Bool} {a : WN} {h h' : MH} (hw : wQ n out a h) (hn : n ≤ 4) (f : wFm l h h') (hl : a.1 ≤ l) : wQ n out a h' := by
  refine ⟨(f.2.1 38 (by omega) (by omega)).trans hw.1, (f.2.1 42 (by omega) (by omega)).trans hw.2.1, fun i hi => ?_, fun i hi => (f.2.2.2.2 i (by omega)).trans (hw.2.2.2 i hi)⟩
  obtain ⟨q1, q2, q3⟩ := hw.2.2.1 i hi
  refine ⟨((f.2.2.2.1 i (by omega)).1).trans q1, ((f.2.2.2.1 i (by omega)).2).trans q2, fun c hc => ?_⟩
  rw [(f.2.2.1 (4 * i + c) (by omega)).1, (f.2.2.1 (4 * i + c) (by omega)).2]
  exact q3 c hc
/-- the span, as the reference takes it -/
def mSq (x f : Nat) (sp : Option Nat) : Option Nat := if 0 < f ∧ 0 < x then some (match sp with
  | none => x / f
  | some s => min s (x / f)) else sp
def mSp (x g : Nat → Nat) : Nat → Option Nat
  | 0 => none
  | c + 1 => mSq (x c) (g c) (mSp x g c)
theorem mSp_ok {x g : Nat → Nat} : ∀ {n : Nat}, (∀ c, c < n → 0 < g c → 0 < x c) → mSp x g n = wSp x g n
  | 0, _ => rfl
  | n + 1, h => by
    show mSq (x n) (g n) (mSp x g n) = (if 0 < g n then some (match wSp x g n with
      | none => x n / g n
      | some s => min s (x n / g n)) else wSp x g n)
    rw [mSp_ok (fun c hc => h c (by omega))]
    unfold mSq
    by_cases z : 0 < g n
    · rw [if_pos ⟨z, h n (by omega) z⟩, if_pos z]
    · rw [if_neg (fun q => z q.1), if_neg z]
theorem mSp_le {x g : Nat → Nat} {b s : Nat} : ∀ {n : Nat}, (∀ c, c < n → x c ≤ b) → mSp x g n = some s → s ≤ b
  | 0, _, h => by cases h
  | n + 1, hx, h => by
    have h' : mSq (x n) (g n) (mSp x g n) = some s := h
    unfold mSq at h'
    by_cases z : 0 < g n ∧ 0 < x n
    · rw [if_pos z] at h'
      have h1 := Option.some.inj h'
      have h2 := Nat.div_le_self (x n) (g n)
      have h3 := hx n (by omega)
      cases e : mSp x g n with
      | none => rw [e] at h1; simp only at h1; omega
      | some s' => rw [e] at h1; simp only at h1; omega
    · rw [if_neg z] at h'
      exact mSp_le (fun c hc => hx c (by omega)) h'
theorem m_216 {d l i : Nat} {h : MH} {v2 v3 v4 v5 v6 v7 v8 v10 v11 v12 : Int32} {Q : Option MV → MH → Prop} (hJ : J mX11_goes d 0 0 Q 0 0 47 [some (.inr (.inr 111)), some (.inl (nI l)), some (.inl v2), some (.inl v3), some (.inl v4), some (.inl v5), some (.inl v6), some (.inl v7), some (.inl v8), some (.inl (nI (i + 1))), some (.inl v10), some (.inl v11), some (.inl v12)] [] h) : J mX11_goes d 0 0 Q 0 0 216 [some (.inr (.inr 111)), some (.inl (nI l)), some (.inl v2), some (.inl v3), some (.inl v4), some (.inl v5), some (.inl v6), some (.inl v7), some (.inl v8), some (.inl (nI i)), some (.inl v10), some (.inl v11), some (.inl v12)] [] h := by
  refine u_X11_goes_216 ?_
  rw [nI_add]
  exact hJ
theorem m_140 {d l i x w f li : Nat} {sp : Option Nat} {h : MH} {v2 v3 v4 v5 v8 : Int32} {Q : Option MV → MH → Prop} (hr : zRf h) (hl : l < 4) (hi : i < 4) (hx : x ≤ 400000) (hw : w ≤ 2) (hf : f ≤ 2) (hs : ∀ s, sp = some s → s ≤ 400000)
    (hJ : J mX11_goes d 0 0 Q 0 0 47 [some (.inr (.inr 111)), some (.inl (nI l)), some (.inl v2), some (.inl v3), some (.inl v4), some (.inl v5), some (.inl (nI (li + (f - w)))), some (.inl (oI (mSq x f sp))), some (.inl (nI 1)), some (.inl (nI (i + 1))), some (.inl (nI f)), some (.inl (nI w)), some (.inl (nI x))] [] (zsI h 129 (4 * (l + 1) + i) (nI f))) :
    J mX11_goes d 0 0 Q 0 0 140 [some (.inr (.inr 111)), some (.inl (nI l)), some (.inl v2), some (.inl v3), some (.inl v4), some (.inl v5), some (.inl (nI li)), some (.inl (oI sp)), some (.inl v8), some (.inl (nI i)), some (.inl (nI f)), some (.inl (nI w)), some (.inl (nI x))] [] h := by
  refine u_X11_goes_140 hr ?_
  rw [show 4 * (l + 1) + i = 4 * l + 4 + i by omega] at hJ
  unfold mSq at hJ
  have q1 : 0 < f → x / f ≤ x := fun _ => Nat.div_le_self x f
  rcases Nat.lt_or_ge w f with c1 | c1
  · rcases Nat.eq_zero_or_pos x with c3 | c3
    · rw [if_neg (by omega)] at hJ
      rw [c3] at hJ ⊢
      simp (disch := omega) only [xle_t, xle_f, xlt_t, xlt_f, xeq_t, xeq_f, xle0_t, xle0_f, xlt0_f, x0lt_t, x0lt_f, x0le_t, xeq0_t, xeq0_f, xin, xem_f, xme_f, xlem_f, xlm_f, xml_t, xmle_t, nI_clamp, nI_add, pk_mul, pk_sub, zI_s, zI_k, zI_o, zL_s, zL_k, zL_o, zR_s, zR_k, zR_o, zIL, zIR, zIN, zLI, zLR, zLN, zRI, zRL, zRN, true_and, and_true, not_true_eq_false, not_false_eq_true, true_implies, false_implies, implies_true, forall_const, if_true, if_false, eq_self, false_and, and_false, implies_true, nI_l, ylle_t, ylle_f, xcl_t, xcl_f]
      exact m_216 hJ
    · rw [if_pos ⟨by omega, c3⟩] at hJ
      rcases sp with _ | s
      · rw [show oI none = -(nI 1) from rfl]
        have hJ' : oI (some (x / f)) = nI (x / f) := rfl
        simp only [hJ'] at hJ
        simp (disch := omega) only [xle_t, xle_f, xlt_t, xlt_f, xeq_t, xeq_f, xle0_t, xle0_f, xlt0_f, x0lt_t, x0lt_f, x0le_t, xeq0_t, xeq0_f, xin, xem_f, xme_f, xlem_f, xlm_f, xml_t, xmle_t, nI_clamp, nI_add, pk_mul, pk_sub, zI_s, zI_k, zI_o, zL_s, zL_k, zL_o, zR_s, zR_k, zR_o, zIL, zIR, zIN, zLI, zLR, zLN, zRI, zRL, zRN, true_and, and_true, not_true_eq_false, not_false_eq_true, true_implies, false_implies, implies_true, forall_const, if_true, if_false, eq_self, false_and, and_false, implies_true, nI_l, ylle_t, ylle_f, xcl_t, xcl_f]
        refine u_X11_goes_209 ?_
        simp (disch := omega) only [xle_t, xle_f, xlt_t, xlt_f, xeq_t, xeq_f, xle0_t, xle0_f, xlt0_f, x0lt_t, x0lt_f, x0le_t, xeq0_t, xeq0_f, xin, xem_f, xme_f, xlem_f, xlm_f, xml_t, xmle_t, nI_clamp, nI_add, pk_mul, pk_sub, zI_s, zI_k, zI_o, zL_s, zL_k, zL_o, zR_s, zR_k, zR_o, zIL, zIR, zIN, zLI, zLR, zLN, zRI, zRL, zRN, true_and, and_true, not_true_eq_false, not_false_eq_true, true_implies, false_implies, implies_true, forall_const, if_true, if_false, eq_self, false_and, and_false, implies_true, nI_l, ylle_t, ylle_f, xcl_t, xcl_f, pk_div]
        exact m_216 hJ
      · have s4 := hs s rfl
        have hJ' : oI (some (min s (x / f))) = nI (min s (x / f)) := rfl
        simp only [hJ'] at hJ
        rw [show oI (some s) = nI s from rfl]
        by_cases c4 : s ≤ x / f
        · rw [Nat.min_eq_left c4] at hJ
          simp (disch := omega) only [xle_t, xle_f, xlt_t, xlt_f, xeq_t, xeq_f, xle0_t, xle0_f, xlt0_f, x0lt_t, x0lt_f, x0le_t, xeq0_t, xeq0_f, xin, xem_f, xme_f, xlem_f, xlm_f, xml_t, xmle_t, nI_clamp, nI_add, pk_mul, pk_sub, zI_s, zI_k, zI_o, zL_s, zL_k, zL_o, zR_s, zR_k, zR_o, zIL, zIR, zIN, zLI, zLR, zLN, zRI, zRL, zRN, true_and, and_true, not_true_eq_false, not_false_eq_true, true_implies, false_implies, implies_true, forall_const, if_true, if_false, eq_self, false_and, and_false, implies_true, nI_l, ylle_t, ylle_f, xcl_t, xcl_f, pk_div]
          exact m_216 hJ
        · rw [Nat.min_eq_right (by omega)] at hJ
          simp (disch := omega) only [xle_t, xle_f, xlt_t, xlt_f, xeq_t, xeq_f, xle0_t, xle0_f, xlt0_f, x0lt_t, x0lt_f, x0le_t, xeq0_t, xeq0_f, xin, xem_f, xme_f, xlem_f, xlm_f, xml_t, xmle_t, nI_clamp, nI_add, pk_mul, pk_sub, zI_s, zI_k, zI_o, zL_s, zL_k, zL_o, zR_s, zR_k, zR_o, zIL, zIR, zIN, zLI, zLR, zLN, zRI, zRL, zRN, true_and, and_true, not_true_eq_false, not_false_eq_true, true_implies, false_implies, implies_true, forall_const, if_true, if_false, eq_self, false_and, and_false, implies_true, nI_l, ylle_t, ylle_f, xcl_t, xcl_f, pk_div]
          refine u_X11_goes_209 ?_
          simp (disch := omega) only [xle_t, xle_f, xlt_t, xlt_f, xeq_t, xeq_f, xle0_t, xle0_f, xlt0_f, x0lt_t, x0lt_f, x0le_t, xeq0_t, xeq0_f, xin, xem_f, xme_f, xlem_f, xlm_f, xml_t, xmle_t, nI_clamp, nI_add, pk_mul, pk_sub, zI_s, zI_k, zI_o, zL_s, zL_k, zL_o, zR_s, zR_k, zR_o, zIL, zIR, zIN, zLI, zLR, zLN, zRI, zRL, zRN, true_and, and_true, not_true_eq_false, not_false_eq_true, true_implies, false_implies, implies_true, forall_const, if_true, if_false, eq_self, false_and, and_false, implies_true, nI_l, ylle_t, ylle_f, xcl_t, xcl_f, pk_div]
          exact m_216 hJ
  · rw [show f - w = 0 by omega, Nat.add_zero] at hJ
    rcases Nat.eq_zero_or_pos f with c2 | c2
    · rw [if_neg (by omega)] at hJ
      rw [c2] at hJ ⊢
      simp (disch := omega) only [xle_t, xle_f, xlt_t, xlt_f, xeq_t, xeq_f, xle0_t, xle0_f, xlt0_f, x0lt_t, x0lt_f, x0le_t, xeq0_t, xeq0_f, xin, xem_f, xme_f, xlem_f, xlm_f, xml_t, xmle_t, nI_clamp, nI_add, pk_mul, pk_sub, zI_s, zI_k, zI_o, zL_s, zL_k, zL_o, zR_s, zR_k, zR_o, zIL, zIR, zIN, zLI, zLR, zLN, zRI, zRL, zRN, true_and, and_true, not_true_eq_false, not_false_eq_true, true_implies, false_implies, implies_true, forall_const, if_true, if_false, eq_self, false_and, and_false, implies_true, nI_l, ylle_t, ylle_f, xcl_t, xcl_f]
      exact m_216 hJ
    · rcases Nat.eq_zero_or_pos x with c3 | c3
      · rw [if_neg (by omega)] at hJ
        rw [c3] at hJ ⊢
        simp (disch := omega) only [xle_t, xle_f, xlt_t, xlt_f, xeq_t, xeq_f, xle0_t, xle0_f, xlt0_f, x0lt_t, x0lt_f, x0le_t, xeq0_t, xeq0_f, xin, xem_f, xme_f, xlem_f, xlm_f, xml_t, xmle_t, nI_clamp, nI_add, pk_mul, pk_sub, zI_s, zI_k, zI_o, zL_s, zL_k, zL_o, zR_s, zR_k, zR_o, zIL, zIR, zIN, zLI, zLR, zLN, zRI, zRL, zRN, true_and, and_true, not_true_eq_false, not_false_eq_true, true_implies, false_implies, implies_true, forall_const, if_true, if_false, eq_self, false_and, and_false, implies_true, nI_l, ylle_t, ylle_f, xcl_t, xcl_f]
        exact m_216 hJ
      · rw [if_pos ⟨by omega, c3⟩] at hJ
        rcases sp with _ | s
        · rw [show oI none = -(nI 1) from rfl]
          have hJ' : oI (some (x / f)) = nI (x / f) := rfl
          simp only [hJ'] at hJ
          simp (disch := omega) only [xle_t, xle_f, xlt_t, xlt_f, xeq_t, xeq_f, xle0_t, xle0_f, xlt0_f, x0lt_t, x0lt_f, x0le_t, xeq0_t, xeq0_f, xin, xem_f, xme_f, xlem_f, xlm_f, xml_t, xmle_t, nI_clamp, nI_add, pk_mul, pk_sub, zI_s, zI_k, zI_o, zL_s, zL_k, zL_o, zR_s, zR_k, zR_o, zIL, zIR, zIN, zLI, zLR, zLN, zRI, zRL, zRN, true_and, and_true, not_true_eq_false, not_false_eq_true, true_implies, false_implies, implies_true, forall_const, if_true, if_false, eq_self, false_and, and_false, implies_true, nI_l, ylle_t, ylle_f, xcl_t, xcl_f]
          refine u_X11_goes_209 ?_
          simp (disch := omega) only [xle_t, xle_f, xlt_t, xlt_f, xeq_t, xeq_f, xle0_t, xle0_f, xlt0_f, x0lt_t, x0lt_f, x0le_t, xeq0_t, xeq0_f, xin, xem_f, xme_f, xlem_f, xlm_f, xml_t, xmle_t, nI_clamp, nI_add, pk_mul, pk_sub, zI_s, zI_k, zI_o, zL_s, zL_k, zL_o, zR_s, zR_k, zR_o, zIL, zIR, zIN, zLI, zLR, zLN, zRI, zRL, zRN, true_and, and_true, not_true_eq_false, not_false_eq_true, true_implies, false_implies, implies_true, forall_const, if_true, if_false, eq_self, false_and, and_false, implies_true, nI_l, ylle_t, ylle_f, xcl_t, xcl_f, pk_div]
          exact m_216 hJ
        · have s4 := hs s rfl
          have hJ' : oI (some (min s (x / f))) = nI (min s (x / f)) := rfl
          simp only [hJ'] at hJ
          rw [show oI (some s) = nI s from rfl]
          by_cases c4 : s ≤ x / f
          · rw [Nat.min_eq_left c4] at hJ
            simp (disch := omega) only [xle_t, xle_f, xlt_t, xlt_f, xeq_t, xeq_f, xle0_t, xle0_f, xlt0_f, x0lt_t, x0lt_f, x0le_t, xeq0_t, xeq0_f, xin, xem_f, xme_f, xlem_f, xlm_f, xml_t, xmle_t, nI_clamp, nI_add, pk_mul, pk_sub, zI_s, zI_k, zI_o, zL_s, zL_k, zL_o, zR_s, zR_k, zR_o, zIL, zIR, zIN, zLI, zLR, zLN, zRI, zRL, zRN, true_and, and_true, not_true_eq_false, not_false_eq_true, true_implies, false_implies, implies_true, forall_const, if_true, if_false, eq_self, false_and, and_false, implies_true, nI_l, ylle_t, ylle_f, xcl_t, xcl_f, pk_div]
            exact m_216 hJ
          · rw [Nat.min_eq_right (by omega)] at hJ
            simp (disch := omega) only [xle_t, xle_f, xlt_t, xlt_f, xeq_t, xeq_f, xle0_t, xle0_f, xlt0_f, x0lt_t, x0lt_f, x0le_t, xeq0_t, xeq0_f, xin, xem_f, xme_f, xlem_f, xlm_f, xml_t, xmle_t, nI_clamp, nI_add, pk_mul, pk_sub, zI_s, zI_k, zI_o, zL_s, zL_k, zL_o, zR_s, zR_k, zR_o, zIL, zIR, zIN, zLI, zLR, zLN, zRI, zRL, zRN, true_and, and_true, not_true_eq_false, not_false_eq_true, true_implies, false_implies, implies_true, forall_const, if_true, if_false, eq_self, false_and, and_false, implies_true, nI_l, ylle_t, ylle_f, xcl_t, xcl_f, pk_div]
            refine u_X11_goes_209 ?_
            simp (disch := omega) only [xle_t, xle_f, xlt_t, xlt_f, xeq_t, xeq_f, xle0_t, xle0_f, xlt0_f, x0lt_t, x0lt_f, x0le_t, xeq0_t, xeq0_f, xin, xem_f, xme_f, xlem_f, xlm_f, xml_t, xmle_t, nI_clamp, nI_add, pk_mul, pk_sub, zI_s, zI_k, zI_o, zL_s, zL_k, zL_o, zR_s, zR_k, zR_o, zIL, zIR, zIN, zLI, zLR, zLN, zRI, zRL, zRN, true_and, and_true, not_true_eq_false, not_false_eq_true, true_implies, false_implies, implies_true, forall_const, if_true, if_false, eq_self, false_and, and_false, implies_true, nI_l, ylle_t, ylle_f, xcl_t, xcl_f, pk_div]
            exact m_216 hJ
theorem m_144 {d l i x w f li : Nat} {sp : Option Nat} {h : MH} {v2 v3 v4 v5 v8 : Int32} {Q : Option MV → MH → Prop} (hr : zRf h) (hl : l < 4) (hi : i < 4) (hx : x ≤ 400000) (hw : w ≤ 2) (hf : f ≤ 2) (hs : ∀ s, sp = some s → s ≤ 400000)
    (hJ : J mX11_goes d 0 0 Q 0 0 47 [some (.inr (.inr 111)), some (.inl (nI l)), some (.inl v2), some (.inl v3), some (.inl v4), some (.inl v5), some (.inl (nI (li + (f - w)))), some (.inl (oI (mSq x f sp))), some (.inl (nI 0)), some (.inl (nI (i + 1))), some (.inl (nI f)), some (.inl (nI w)), some (.inl (nI x))] [] (zsI h 129 (4 * (l + 1) + i) (nI f))) :
    J mX11_goes d 0 0 Q 0 0 144 [some (.inr (.inr 111)), some (.inl (nI l)), some (.inl v2), some (.inl v3), some (.inl v4), some (.inl v5), some (.inl (nI li)), some (.inl (oI sp)), some (.inl v8), some (.inl (nI i)), some (.inl (nI f)), some (.inl (nI w)), some (.inl (nI x))] [] h := by
  refine u_X11_goes_144 hr ?_
  rw [show 4 * (l + 1) + i = 4 * l + 4 + i by omega] at hJ
  unfold mSq at hJ
  have q1 : 0 < f → x / f ≤ x := fun _ => Nat.div_le_self x f
  rcases Nat.lt_or_ge w f with c1 | c1
  · rcases Nat.eq_zero_or_pos x with c3 | c3
    · rw [if_neg (by omega)] at hJ
      rw [c3] at hJ ⊢
      simp (disch := omega) only [xle_t, xle_f, xlt_t, xlt_f, xeq_t, xeq_f, xle0_t, xle0_f, xlt0_f, x0lt_t, x0lt_f, x0le_t, xeq0_t, xeq0_f, xin, xem_f, xme_f, xlem_f, xlm_f, xml_t, xmle_t, nI_clamp, nI_add, pk_mul, pk_sub, zI_s, zI_k, zI_o, zL_s, zL_k, zL_o, zR_s, zR_k, zR_o, zIL, zIR, zIN, zLI, zLR, zLN, zRI, zRL, zRN, true_and, and_true, not_true_eq_false, not_false_eq_true, true_implies, false_implies, implies_true, forall_const, if_true, if_false, eq_self, false_and, and_false, implies_true, nI_l, ylle_t, ylle_f, xcl_t, xcl_f]
      exact m_216 hJ
    · rw [if_pos ⟨by omega, c3⟩] at hJ
      rcases sp with _ | s
      · rw [show oI none = -(nI 1) from rfl]
        have hJ' : oI (some (x / f)) = nI (x / f) := rfl
        simp only [hJ'] at hJ
        simp (disch := omega) only [xle_t, xle_f, xlt_t, xlt_f, xeq_t, xeq_f, xle0_t, xle0_f, xlt0_f, x0lt_t, x0lt_f, x0le_t, xeq0_t, xeq0_f, xin, xem_f, xme_f, xlem_f, xlm_f, xml_t, xmle_t, nI_clamp, nI_add, pk_mul, pk_sub, zI_s, zI_k, zI_o, zL_s, zL_k, zL_o, zR_s, zR_k, zR_o, zIL, zIR, zIN, zLI, zLR, zLN, zRI, zRL, zRN, true_and, and_true, not_true_eq_false, not_false_eq_true, true_implies, false_implies, implies_true, forall_const, if_true, if_false, eq_self, false_and, and_false, implies_true, nI_l, ylle_t, ylle_f, xcl_t, xcl_f]
        refine u_X11_goes_209 ?_
        simp (disch := omega) only [xle_t, xle_f, xlt_t, xlt_f, xeq_t, xeq_f, xle0_t, xle0_f, xlt0_f, x0lt_t, x0lt_f, x0le_t, xeq0_t, xeq0_f, xin, xem_f, xme_f, xlem_f, xlm_f, xml_t, xmle_t, nI_clamp, nI_add, pk_mul, pk_sub, zI_s, zI_k, zI_o, zL_s, zL_k, zL_o, zR_s, zR_k, zR_o, zIL, zIR, zIN, zLI, zLR, zLN, zRI, zRL, zRN, true_and, and_true, not_true_eq_false, not_false_eq_true, true_implies, false_implies, implies_true, forall_const, if_true, if_false, eq_self, false_and, and_false, implies_true, nI_l, ylle_t, ylle_f, xcl_t, xcl_f, pk_div]
        exact m_216 hJ
      · have s4 := hs s rfl
        have hJ' : oI (some (min s (x / f))) = nI (min s (x / f)) := rfl
        simp only [hJ'] at hJ
        rw [show oI (some s) = nI s from rfl]
        by_cases c4 : s ≤ x / f
        · rw [Nat.min_eq_left c4] at hJ
          simp (disch := omega) only [xle_t, xle_f, xlt_t, xlt_f, xeq_t, xeq_f, xle0_t, xle0_f, xlt0_f, x0lt_t, x0lt_f, x0le_t, xeq0_t, xeq0_f, xin, xem_f, xme_f, xlem_f, xlm_f, xml_t, xmle_t, nI_clamp, nI_add, pk_mul, pk_sub, zI_s, zI_k, zI_o, zL_s, zL_k, zL_o, zR_s, zR_k, zR_o, zIL, zIR, zIN, zLI, zLR, zLN, zRI, zRL, zRN, true_and, and_true, not_true_eq_false, not_false_eq_true, true_implies, false_implies, implies_true, forall_const, if_true, if_false, eq_self, false_and, and_false, implies_true, nI_l, ylle_t, ylle_f, xcl_t, xcl_f, pk_div]
          exact m_216 hJ
        · rw [Nat.min_eq_right (by omega)] at hJ
          simp (disch := omega) only [xle_t, xle_f, xlt_t, xlt_f, xeq_t, xeq_f, xle0_t, xle0_f, xlt0_f, x0lt_t, x0lt_f, x0le_t, xeq0_t, xeq0_f, xin, xem_f, xme_f, xlem_f, xlm_f, xml_t, xmle_t, nI_clamp, nI_add, pk_mul, pk_sub, zI_s, zI_k, zI_o, zL_s, zL_k, zL_o, zR_s, zR_k, zR_o, zIL, zIR, zIN, zLI, zLR, zLN, zRI, zRL, zRN, true_and, and_true, not_true_eq_false, not_false_eq_true, true_implies, false_implies, implies_true, forall_const, if_true, if_false, eq_self, false_and, and_false, implies_true, nI_l, ylle_t, ylle_f, xcl_t, xcl_f, pk_div]
          refine u_X11_goes_209 ?_
          simp (disch := omega) only [xle_t, xle_f, xlt_t, xlt_f, xeq_t, xeq_f, xle0_t, xle0_f, xlt0_f, x0lt_t, x0lt_f, x0le_t, xeq0_t, xeq0_f, xin, xem_f, xme_f, xlem_f, xlm_f, xml_t, xmle_t, nI_clamp, nI_add, pk_mul, pk_sub, zI_s, zI_k, zI_o, zL_s, zL_k, zL_o, zR_s, zR_k, zR_o, zIL, zIR, zIN, zLI, zLR, zLN, zRI, zRL, zRN, true_and, and_true, not_true_eq_false, not_false_eq_true, true_implies, false_implies, implies_true, forall_const, if_true, if_false, eq_self, false_and, and_false, implies_true, nI_l, ylle_t, ylle_f, xcl_t, xcl_f, pk_div]
          exact m_216 hJ
  · rw [show f - w = 0 by omega, Nat.add_zero] at hJ
    rcases Nat.eq_zero_or_pos f with c2 | c2
    · rw [if_neg (by omega)] at hJ
      rw [c2] at hJ ⊢
      simp (disch := omega) only [xle_t, xle_f, xlt_t, xlt_f, xeq_t, xeq_f, xle0_t, xle0_f, xlt0_f, x0lt_t, x0lt_f, x0le_t, xeq0_t, xeq0_f, xin, xem_f, xme_f, xlem_f, xlm_f, xml_t, xmle_t, nI_clamp, nI_add, pk_mul, pk_sub, zI_s, zI_k, zI_o, zL_s, zL_k, zL_o, zR_s, zR_k, zR_o, zIL, zIR, zIN, zLI, zLR, zLN, zRI, zRL, zRN, true_and, and_true, not_true_eq_false, not_false_eq_true, true_implies, false_implies, implies_true, forall_const, if_true, if_false, eq_self, false_and, and_false, implies_true, nI_l, ylle_t, ylle_f, xcl_t, xcl_f]
      exact m_216 hJ
    · rcases Nat.eq_zero_or_pos x with c3 | c3
      · rw [if_neg (by omega)] at hJ
        rw [c3] at hJ ⊢
        simp (disch := omega) only [xle_t, xle_f, xlt_t, xlt_f, xeq_t, xeq_f, xle0_t, xle0_f, xlt0_f, x0lt_t, x0lt_f, x0le_t, xeq0_t, xeq0_f, xin, xem_f, xme_f, xlem_f, xlm_f, xml_t, xmle_t, nI_clamp, nI_add, pk_mul, pk_sub, zI_s, zI_k, zI_o, zL_s, zL_k, zL_o, zR_s, zR_k, zR_o, zIL, zIR, zIN, zLI, zLR, zLN, zRI, zRL, zRN, true_and, and_true, not_true_eq_false, not_false_eq_true, true_implies, false_implies, implies_true, forall_const, if_true, if_false, eq_self, false_and, and_false, implies_true, nI_l, ylle_t, ylle_f, xcl_t, xcl_f]
        exact m_216 hJ
      · rw [if_pos ⟨by omega, c3⟩] at hJ
        rcases sp with _ | s
        · rw [show oI none = -(nI 1) from rfl]
          have hJ' : oI (some (x / f)) = nI (x / f) := rfl
          simp only [hJ'] at hJ
          simp (disch := omega) only [xle_t, xle_f, xlt_t, xlt_f, xeq_t, xeq_f, xle0_t, xle0_f, xlt0_f, x0lt_t, x0lt_f, x0le_t, xeq0_t, xeq0_f, xin, xem_f, xme_f, xlem_f, xlm_f, xml_t, xmle_t, nI_clamp, nI_add, pk_mul, pk_sub, zI_s, zI_k, zI_o, zL_s, zL_k, zL_o, zR_s, zR_k, zR_o, zIL, zIR, zIN, zLI, zLR, zLN, zRI, zRL, zRN, true_and, and_true, not_true_eq_false, not_false_eq_true, true_implies, false_implies, implies_true, forall_const, if_true, if_false, eq_self, false_and, and_false, implies_true, nI_l, ylle_t, ylle_f, xcl_t, xcl_f]
          refine u_X11_goes_209 ?_
          simp (disch := omega) only [xle_t, xle_f, xlt_t, xlt_f, xeq_t, xeq_f, xle0_t, xle0_f, xlt0_f, x0lt_t, x0lt_f, x0le_t, xeq0_t, xeq0_f, xin, xem_f, xme_f, xlem_f, xlm_f, xml_t, xmle_t, nI_clamp, nI_add, pk_mul, pk_sub, zI_s, zI_k, zI_o, zL_s, zL_k, zL_o, zR_s, zR_k, zR_o, zIL, zIR, zIN, zLI, zLR, zLN, zRI, zRL, zRN, true_and, and_true, not_true_eq_false, not_false_eq_true, true_implies, false_implies, implies_true, forall_const, if_true, if_false, eq_self, false_and, and_false, implies_true, nI_l, ylle_t, ylle_f, xcl_t, xcl_f, pk_div]
          exact m_216 hJ
        · have s4 := hs s rfl
          have hJ' : oI (some (min s (x / f))) = nI (min s (x / f)) := rfl
          simp only [hJ'] at hJ
          rw [show oI (some s) = nI s from rfl]
          by_cases c4 : s ≤ x / f
          · rw [Nat.min_eq_left c4] at hJ
            simp (disch := omega) only [xle_t, xle_f, xlt_t, xlt_f, xeq_t, xeq_f, xle0_t, xle0_f, xlt0_f, x0lt_t, x0lt_f, x0le_t, xeq0_t, xeq0_f, xin, xem_f, xme_f, xlem_f, xlm_f, xml_t, xmle_t, nI_clamp, nI_add, pk_mul, pk_sub, zI_s, zI_k, zI_o, zL_s, zL_k, zL_o, zR_s, zR_k, zR_o, zIL, zIR, zIN, zLI, zLR, zLN, zRI, zRL, zRN, true_and, and_true, not_true_eq_false, not_false_eq_true, true_implies, false_implies, implies_true, forall_const, if_true, if_false, eq_self, false_and, and_false, implies_true, nI_l, ylle_t, ylle_f, xcl_t, xcl_f, pk_div]
            exact m_216 hJ
          · rw [Nat.min_eq_right (by omega)] at hJ
            simp (disch := omega) only [xle_t, xle_f, xlt_t, xlt_f, xeq_t, xeq_f, xle0_t, xle0_f, xlt0_f, x0lt_t, x0lt_f, x0le_t, xeq0_t, xeq0_f, xin, xem_f, xme_f, xlem_f, xlm_f, xml_t, xmle_t, nI_clamp, nI_add, pk_mul, pk_sub, zI_s, zI_k, zI_o, zL_s, zL_k, zL_o, zR_s, zR_k, zR_o, zIL, zIR, zIN, zLI, zLR, zLN, zRI, zRL, zRN, true_and, and_true, not_true_eq_false, not_false_eq_true, true_implies, false_implies, implies_true, forall_const, if_true, if_false, eq_self, false_and, and_false, implies_true, nI_l, ylle_t, ylle_f, xcl_t, xcl_f, pk_div]
            refine u_X11_goes_209 ?_
            simp (disch := omega) only [xle_t, xle_f, xlt_t, xlt_f, xeq_t, xeq_f, xle0_t, xle0_f, xlt0_f, x0lt_t, x0lt_f, x0le_t, xeq0_t, xeq0_f, xin, xem_f, xme_f, xlem_f, xlm_f, xml_t, xmle_t, nI_clamp, nI_add, pk_mul, pk_sub, zI_s, zI_k, zI_o, zL_s, zL_k, zL_o, zR_s, zR_k, zR_o, zIL, zIR, zIN, zLI, zLR, zLN, zRI, zRL, zRN, true_and, and_true, not_true_eq_false, not_false_eq_true, true_implies, false_implies, implies_true, forall_const, if_true, if_false, eq_self, false_and, and_false, implies_true, nI_l, ylle_t, ylle_f, xcl_t, xcl_f, pk_div]
            exact m_216 hJ
