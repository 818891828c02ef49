/-! ===== plans, books; count, fault ===== -/
/-- rules, acts; by (8: first), acts up to; an act: kind, one, other -/
abbrev PL : Type := Nat × Nat × (Nat → Nat) × (Nat → Nat) × (Nat → Nat × Nat × Nat)
def pBy (b : Nat) : Int32 := if b < 8 then nI b else -(nI 1)
def pFr (P : PL) (r : Nat) : Nat := if r = 0 then 0 else P.2.2.2.1 (r - 1)
def pOK (P : PL) : Prop := P.1 ≤ 20 ∧ P.2.1 ≤ 40 ∧ (∀ r, r < P.1 → P.2.2.1 r ≤ 8 ∧ P.2.2.2.1 r ≤ P.2.1 ∧ pFr P r ≤ P.2.2.2.1 r) ∧ (P.2.1 = pFr P P.1) ∧ ∀ k, k < P.2.1 → (P.2.2.2.2 k).1 ≤ 4 ∧ (P.2.2.2.2 k).2.1 ≤ 7 ∧ (P.2.2.2.2 k).2.2 ≤ 7
def pAt (P : PL) (h : MH) (a : Nat) : Prop := h.1 a 0 = nI P.1 ∧ h.1 a 1 = nI P.2.1 ∧ (∀ r, r < P.1 → h.1 (a + 1) r = pBy (P.2.2.1 r) ∧ h.1 (a + 2) r = nI (P.2.2.2.1 r)) ∧ ∀ k, k < P.2.1 → h.1 (a + 3) k = nI (P.2.2.2.2 k).1 ∧ h.1 (a + 4) k = nI (P.2.2.2.2 k).2.1 ∧ h.1 (a + 5) k = nI (P.2.2.2.2 k).2.2
def pIn (P : PL) (f : Nat → Int32) (o : Nat) : Prop := f o = nI P.1 ∧ f (o + 1) = nI P.2.1 ∧ (∀ r, r < P.1 → f (o + 2 + r) = pBy (P.2.2.1 r) ∧ f (o + 22 + r) = nI (pFr P r)) ∧ ∀ k, k < P.2.1 → f (o + 42 + k) = nI (((P.2.2.2.2 k).1 + 6) * 100 + 10 * (P.2.2.2.2 k).2.1 + (P.2.2.2.2 k).2.2)
abbrev BK : Type := CE × (Nat → PL)
def bOK (B : BK) : Prop := cOK B.1 ∧ ∀ p, p < 4 → pOK (B.2 p)
def bAt (B : BK) (h : MH) (a : Nat) : Prop := cAt B.1 h (a + 1) ∧ ∀ p, p < 4 → pAt (B.2 p) h (a + 7 + 6 * p)
def bIn (B : BK) (f : Nat → Int32) (o : Nat) : Prop := cIn B.1 f o ∧ ∀ p, p < 4 → pIn (B.2 p) f (o + 74 + 162 * p)
/-! the heap h' has the same as h in these places -/
theorem cAt.keep {C : CE} {h h' : MH} {a : Nat} (q : cAt C h a) (e : ∀ k, k ≤ 4 → h'.1 (a + k) = h.1 (a + k)) : cAt C h' a := by
  have e0 := e 0 (by omega)
  have e1 := e 1 (by omega)
  have e2 := e 2 (by omega)
  have e3 := e 3 (by omega)
  have e4 := e 4 (by omega)
  rw [Nat.add_zero] at e0
  unfold cAt
  rw [e0, e1, e2, e3, e4]
  exact q
theorem pAt.keep {P : PL} {h h' : MH} {a : Nat} (q : pAt P h a) (e : ∀ k, k ≤ 5 → h'.1 (a + k) = h.1 (a + k)) : pAt P h' a := by
  have e0 := e 0 (by omega)
  have e1 := e 1 (by omega)
  have e2 := e 2 (by omega)
  have e3 := e 3 (by omega)
  have e4 := e 4 (by omega)
  have e5 := e 5 (by omega)
  rw [Nat.add_zero] at e0
  unfold pAt
  rw [e0, e1, e2, e3, e4, e5]
  exact q
theorem bAt.keep {B : BK} {h h' : MH} {a : Nat} (q : bAt B h a) (e : ∀ k, k ≤ 30 → h'.1 (a + k) = h.1 (a + k)) : bAt B h' a := by
  refine ⟨q.1.keep (fun k hk => ?_), fun p hp => (q.2 p hp).keep (fun k hk => ?_)⟩
  · rw [Nat.add_assoc]; exact e _ (by omega)
  · rw [show a + 7 + 6 * p + k = a + (7 + 6 * p + k) by omega]; exact e _ (by omega)
def fWax (C : CE) : Nat := zsum C.2.2.2.1 C.1
theorem fWax_le {C : CE} (hC : cOK C) {n : Nat} (hn : n ≤ C.1) : zsum C.2.2.2.1 n ≤ n * 999 := zsum_le (fun k hk => (hC.2 k (by omega)).2.2.1.2)
def fCntT (B : BK) (tn t : Nat) : Int32 := if t = 0 ∨ t = 6 then nI B.1.1 else if t ≤ 4 then nI (B.2 (t - 1)).1 else if t = 5 then nI tn else nI (fWax B.1)
def fCnt (B : BK) (tn : Nat) (x : Int32) : Int32 := match zix x 8 with
  | none => -(nI 1)
  | some t => fCntT B tn t
theorem c_wax {C : CE} {h : MH} {a d : Nat} {Q : Option MV → MH → Prop} (hr : zRf h) (hA : cAt C h a) (ho : zokO h a 2) (hC : cOK C) (kk : Q (some (.inl (nI (fWax C)))) h) : Con mX2_allWax d 0 0 [.inr (.inr a)] h Q := by
  have h8 := hC.1
  have e0 := hA.1
  refine t_X2_allWax ?_
  have L : ∀ n i, i + n = C.1 → J mX2_allWax d 0 0 Q 0 0 4 [some (.inr (.inr a)), some (.inl (nI (zsum C.2.2.2.1 i))), some (.inl (nI i))] [] h := by
    intro n
    induction n with
    | zero =>
      intro i hi
      obtain rfl : i = C.1 := by omega
      have hle : h.1 a 0 ≤ nI C.1 := by rw [e0]; exact nI_le (Nat.le_refl _) (by omega)
      exact t_X2_allWax_4 hr ho (fun q => absurd hle q) (fun _ => kk) (fun q => absurd hle q)
    | succ n ih =>
      intro i hi
      have hnle : ¬ h.1 a 0 ≤ nI i := by rw [e0, nI_leI (by omega) (by omega)]; omega
      refine t_X2_allWax_4 hr ho (fun _ => vp_in_nI (by omega) (by omega)) (fun q => absurd q hnle) (fun _ => ?_)
      rw [nI_clamp (by omega), (hA.2 i (by omega)).2.2.1, nI_add, nI_add]
      exact ih (i + 1) (by omega)
  exact L C.1 0 (by omega)
theorem o_count {B : BK} {T : TP} {h : MH} {d : Nat} {Q : Option MV → MH → Prop} (hr : zRf h) (hA : bAt B h 15) (hB : bOK B) (hT : tC T h) (hd : 1 ≤ d) {x : Int32} (kk : Q (some (.inl (fCnt B T.1 x))) h) : Con mX10_count d 0 0 [.inr (.inr 1), .inl x] h Q := by
  have hC := hB.1
  have ho : zokO h 16 2 := zo hr (by decide) rfl
  have hcA : cAt B.1 h 16 := hA.1
  have hN : (∀ t, t < 8 → x ≠ nI t) → Q (some (.inl (-(nI 1)))) h := by
    intro z
    cases hx : zix x 8 with
    | none =>
      have e : fCnt B T.1 x = -(nI 1) := by simp only [fCnt, hx]
      rw [e] at kk
      exact kk
    | some t => exact absurd (zix_s hx).2 (z t (zix_s hx).1)
  have hT' : ∀ t, t < 8 → x = nI t → Q (some (.inl (fCntT B T.1 t))) h := by
    rintro t ht rfl
    have e : fCnt B T.1 (nI t) = fCntT B T.1 t := by simp only [fCnt, zix_n ht (by omega)]
    rw [e] at kk
    exact kk
  have hrg : ¬ x < nI 1 → ¬ nI 4 < x → ∃ p, p < 4 ∧ x = nI (p + 1) := by
    intro p q
    rw [Int32.lt_iff_toInt_lt, nI_toInt (by omega)] at p q
    have x0 : ¬ x < 0 := by
      rw [Int32.lt_iff_toInt_lt]
      have : (0 : Int32).toInt = 0 := rfl
      omega
    obtain ⟨j, hj, rfl⟩ := nI_of x0
    rw [nI_toInt hj] at p q
    exact ⟨j - 1, by omega, by rw [show j - 1 + 1 = j by omega]⟩
  refine t_X10_count (d1' := 0) (d2' := 0) hr (by omega) (by omega) (fun _ _ p q => ?_) (fun p => ?_) (fun p0 p6 p1 p5 p7 => ?_) (fun _ _ p q r => ?_) (fun _ _ p q => ?_) (fun p0 p6 _ p4 p5 p7 => ?_) (fun _ _ _ _ _ r => ?_) (fun _ _ _ _ r => ?_) (fun _ _ p q => ?_) (fun _ p => ?_)
  · obtain ⟨j, hj, rfl⟩ := hrg p q
    rw [pk_sub (by omega)]
    exact vp_in_nI (by omega) (by omega)
  · rw [hcA.1]; exact hT' 0 (by omega) p
  · refine hN ?_
    rintro t ht rfl
    rw [nI_ltI (by omega) (by omega)] at p1
    exact p0 (by rw [show t = 0 by omega]; rfl)
  · subst r; exact absurd p (by decide)
  · subst q; exact absurd p (by decide)
  · refine hN ?_
    rintro t ht rfl
    rw [nI_ltI (by omega) (by omega)] at p4
    rw [nI_eq (by omega) (by omega)] at p5 p6 p7
    omega
  · refine c_wax hr hcA ho hC ?_
    exact t_X10_count_72 (hT' 7 (by omega) r)
  · rw [hT.1]; exact hT' 5 (by omega) r
  · obtain ⟨j, hj, rfl⟩ := hrg p q
    rw [pk_sub (by omega), nI_clamp (by omega), show j + 1 - 1 = j by omega]
    have e1 := (hA.2 j hj).1
    rw [show 15 + 7 + 6 * j = 22 + 6 * j by omega] at e1
    have e2 := hT' (j + 1) (by omega) rfl
    unfold fCntT at e2
    rw [if_neg (by omega), if_pos (by omega), show j + 1 - 1 = j by omega] at e2
    rw [e1]
    exact e2
  · rw [hcA.1]; exact hT' 6 (by omega) p
theorem n_count {B : BK} {T : TP} {h : MH} {d : Nat} {Q : Option MV → MH → Prop} (hr : zRf h) (hA : bIn B (h.1 112) 0) (hB : bOK B) (hT : tM T h) (hd : 1 ≤ d) {x : Int32} (kk : Q (some (.inl (fCnt B T.1 x))) (zsI h 111 0 (nI 0))) : Con mX11_count d 0 0 [.inr (.inr 111), .inl x] h Q := by
  have hC := hB.1
  have h8 := hC.1
  have hA' : bIn B ((zsI h 111 0 (nI 0)).1 112) 0 := hA
  have hr' : zRf (zsI h 111 0 (nI 0)) := hr
  have e5 : (zsI h 111 0 (nI 0)).1 111 5 = nI T.1 := (zI_k _ _ _ (by decide)).trans hT.1
  have hN : (∀ t, t < 8 → x ≠ nI t) → Q (some (.inl (-(nI 1)))) (zsI h 111 0 (nI 0)) := by
    intro z
    cases hx : zix x 8 with
    | none =>
      have e : fCnt B T.1 x = -(nI 1) := by simp only [fCnt, hx]
      rw [e] at kk
      exact kk
    | some t => exact absurd (zix_s hx).2 (z t (zix_s hx).1)
  have hT' : ∀ t, t < 8 → x = nI t → Q (some (.inl (fCntT B T.1 t))) (zsI h 111 0 (nI 0)) := by
    rintro t ht rfl
    have e : fCnt B T.1 (nI t) = fCntT B T.1 t := by simp only [fCnt, zix_n ht (by omega)]
    rw [e] at kk
    exact kk
  have hlo : (lN 1) ≤ x.toInt64 ↔ 1 ≤ x.toInt := by rw [wle, w64]; rfl
  have hhi : x.toInt64 ≤ (4 : Int64) ↔ x.toInt ≤ 4 := by rw [wle, w64]; rfl
  have hrg : 1 ≤ x.toInt → x.toInt ≤ 4 → ∃ p, p < 4 ∧ x = nI (p + 1) := by
    intro p q
    have x0 : ¬ x < 0 := by
      rw [Int32.lt_iff_toInt_lt]
      have : (0 : Int32).toInt = 0 := rfl
      omega
    obtain ⟨j, hj, rfl⟩ := nI_of x0
    rw [nI_toInt hj] at p q
    exact ⟨j - 1, by omega, by rw [show j - 1 + 1 = j by omega]⟩
  have sw : ¬ (1 ≤ x.toInt ∧ x.toInt ≤ 4) → J mX11_count d 0 0 Q 0 0 36 [some (.inr (.inr 111)), some (.inl x), some (.inl (nI 0)), some (.inl (nI 0))] [] (zsI h 111 0 (nI 0)) := by
    intro hout
    generalize zsI h 111 0 (nI 0) = h1 at hA' hr' hT' hN e5
    have e0 : h1.1 112 0 = nI B.1.1 := hA'.1.1
    have L : ∀ n i, i + n = B.1.1 → J mX11_count d 0 0 Q 0 0 36 [some (.inr (.inr 111)), some (.inl x), some (.inl (nI (zsum B.1.2.2.2.1 i))), some (.inl (nI i))] [] h1 := by
      intro n
      induction n with
      | zero =>
        intro i hi
        obtain rfl : i = B.1.1 := by omega
        have hle : h1.1 112 0 ≤ nI B.1.1 := by rw [e0]; exact nI_le (Nat.le_refl _) (by omega)
        refine t_X11_count_36 hr' (fun q => absurd hle q) (fun _ => ?_) (fun q => absurd hle q)
        by_cases z : x.toInt < 0 ∨ 7 < x.toInt
        · refine s_tableOut dX11_count_65 z (tgt := 134) rfl (t_X11_count_134 (hN ?_))
          rintro t ht rfl
          rw [nI_toInt (by omega)] at z
          omega
        · have x0 : ¬ x < 0 := by
            rw [Int32.lt_iff_toInt_lt]
            have : (0 : Int32).toInt = 0 := rfl
            omega
          obtain ⟨t, ht, rfl⟩ := nI_of x0
          rw [nI_toInt ht] at z hout
          have ht4 : t = 0 ∨ t = 5 ∨ t = 6 ∨ t = 7 := by omega
          rcases ht4 with rfl | rfl | rfl | rfl
          · refine s_tableIn dX11_count_65 (by decide) (by decide) (off := 47) rfl (tgt := 112) rfl (t_X11_count_112 hr' ?_)
            rw [e0]; exact hT' 0 (by omega) rfl
          · refine s_tableIn dX11_count_65 (by decide) (by decide) (off := 54) rfl (tgt := 119) rfl (t_X11_count_119 hr' ?_)
            rw [e5]; exact hT' 5 (by omega) rfl
          · refine s_tableIn dX11_count_65 (by decide) (by decide) (off := 59) rfl (tgt := 124) rfl (t_X11_count_124 hr' ?_)
            rw [hA'.1.2.1]; exact hT' 6 (by omega) rfl
          · refine s_tableIn dX11_count_65 (by decide) (by decide) (off := 67) rfl (tgt := 132) rfl (t_X11_count_132 ?_)
            exact hT' 7 (by omega) rfl
      | succ n ih =>
        intro i hi
        have hnle : ¬ h1.1 112 0 ≤ nI i := by rw [e0, nI_leI (by omega) (by omega)]; omega
        refine t_X11_count_36 hr' (fun _ => by rw [nI_add]; exact vp_in_nI (by omega) (by omega)) (fun q => absurd q hnle) (fun _ => ?_)
        have := (hA'.1.2.2 i (by omega)).2.2.1
        rw [show 0 + 57 + i = 57 + i by omega] at this
        rw [nI_add, nI_clamp (by omega), this, nI_add, nI_add]
        exact ih (i + 1) (by omega)
    exact L B.1.1 0 (by omega)
  refine t_X11_count hr (by omega) (fun p q => ?_) (fun p => sw (fun z => p (hlo.mpr z.1))) (fun _ q => sw (fun z => q (hhi.mpr z.2))) (fun p q => ?_)
  · obtain ⟨j, hj, rfl⟩ := hrg (hlo.mp p) (hhi.mp q)
    rw [pk_sub (by omega), pk_mul, nI_add]
    exact zia hr' (by decide) rfl (vp_in_nI (by omega) (by omega))
  · obtain ⟨j, hj, rfl⟩ := hrg (hlo.mp p) (hhi.mp q)
    have e1 := (hA'.2 j hj).1
    rw [show 0 + 74 + 162 * j = 74 + 162 * j by omega] at e1
    have e2 := hT' (j + 1) (by omega) rfl
    unfold fCntT at e2
    rw [if_neg (by omega), if_pos (by omega), show j + 1 - 1 = j by omega] at e2
    rw [pk_sub (by omega), pk_mul, nI_add, nI_clamp (by omega), show j + 1 - 1 = j by omega, e1]
    exact e2
/-- fault: kind and place -/
def fFlt (F : Int32 × Int32) (x : Int32) : Int32 := if x = 0 then F.1 else if x = nI 1 then F.2 else -(nI 1)
theorem o_fault {h : MH} {d : Nat} {Q : Option MV → MH → Prop} (hr : zRf h) {x : Int32} (kk : Q (some (.inl (fFlt (h.1 2 6, h.1 2 7) x))) h) : Con mX10_fault d 0 0 [.inr (.inr 1), .inl x] h Q := by
  unfold fFlt at kk
  refine t_X10_fault hr (fun p q => ?_) (fun p q => ?_) (fun p => ?_)
  · rw [if_neg p, if_neg q] at kk; exact kk
  · rw [if_neg p, if_pos q] at kk; exact kk
  · rw [if_pos p] at kk; exact kk
theorem n_fault {h : MH} {d : Nat} {Q : Option MV → MH → Prop} (hr : zRf h) {x : Int32} (kk : Q (some (.inl (fFlt (h.1 111 13, h.1 111 14) x))) (zsI h 111 0 (nI 0))) : Con mX11_fault d 0 0 [.inr (.inr 111), .inl x] h Q := by
  unfold fFlt at kk
  refine t_X11_fault hr (fun p q => ?_) (fun p q => ?_) (fun p => ?_)
  · rw [if_neg p, if_neg q] at kk; exact kk
  · rw [if_neg p, if_pos q] at kk; rw [zI_k _ _ _ (by decide)]; exact kk
  · rw [if_pos p] at kk; rw [zI_k _ _ _ (by decide)]; exact kk
