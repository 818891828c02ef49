/-! ===== candle ===== -/
def fCandT (C : CE) (c t : Nat) : Int32 := if t = 0 then nI (C.2.1 c) else if t = 1 then nI (cB C c (C.2.1 c)) else if t = 2 then nI (C.2.2.2.1 c) else if t = 3 then nI (C.2.2.2.2 c) else if t < 10 then -(nI 2) else nI (cM C c (t - 10))
def fCand (C : CE) (x y : Int32) : Int32 := match zix x C.1 with
  | none => -(nI 2)
  | some c => match zix y (10 + C.2.1 c) with
    | none => -(nI 2)
    | some t => fCandT C c t
theorem o_candle {C : CE} {h : MH} {d : Nat} {Q : Option MV → MH → Prop} (hr : zRf h) (hA : cAt C h 16) (hC : cOK C) (hd : 5 ≤ d) {x y : Int32} (kk : Q (some (.inl (fCand C x y))) h) : Con mX10_candle d 0 0 [.inr (.inr 1), .inl x, .inl y] h Q := by
  have h8 := hC.1
  have ho : zokO h 16 2 := zo hr (by decide) rfl
  cases hx : zix x C.1 with
  | none =>
    have e : fCand C x y = -(nI 2) := by simp only [fCand, hx]
    rw [e] at kk
    have hn : ¬ x < 0 → ¬ h.1 16 0 ≤ x → False := fun p q => absurd (by rw [hA.1]; exact zix_lo hx p (by omega)) q
    exact t_X10_candle (d1' := 0) (d2' := 0) hr (by omega) (by omega) (by omega) (fun p q => (hn p q).elim) (fun p q => (hn p q).elim) (fun p q => (hn p q).elim) (fun p q => (hn p q).elim) (fun _ => kk) (fun _ _ => kk) (fun p q => (hn p q).elim) (fun p q => (hn p q).elim) (fun p q => (hn p q).elim) (fun p q => (hn p q).elim) (fun p q => (hn p q).elim) (fun p q => (hn p q).elim) (fun p q => (hn p q).elim)
  | some c =>
    obtain ⟨hc, rfl⟩ := zix_s hx
    have hp := (hC.2 c hc).1
    have hS := cS_le hC hc
    have ec : (nI c).toNatClampNeg = c := nI_clamp (by omega)
    have e1 : h.1 17 (nI c).toNatClampNeg = nI (C.2.1 c) := by rw [ec]; exact (hA.2 c hc).1
    have e3 : h.1 19 (nI c).toNatClampNeg = nI (C.2.2.2.1 c) := by rw [ec]; exact (hA.2 c hc).2.2.1
    have e4 : h.1 20 (nI c).toNatClampNeg = nI (C.2.2.2.2 c) := by rw [ec]; exact (hA.2 c hc).2.2.2
    have hv : vp_in (nI c) 8 := vp_in_nI (by omega) (by omega)
    have hq : (h.1 16 0) ≤ nI c → False := fun q => by rw [hA.1, nI_leI (by omega) (by omega)] at q; omega
    have hT : ∀ t, t < 10 + C.2.1 c → y = nI t → Q (some (.inl (fCandT C c t))) h := by
      rintro t ht rfl
      have e : fCand C (nI c) (nI t) = fCandT C c t := by simp only [fCand, hx, zix_n ht (by omega)]
      rw [e] at kk
      exact kk
    have hN : ¬ (∃ t, t < 10 + C.2.1 c ∧ y = nI t) → Q (some (.inl (-(nI 2)))) h := by
      intro z
      cases hy : zix y (10 + C.2.1 c) with
      | none =>
        have e : fCand C (nI c) y = -(nI 2) := by simp only [fCand, hx, hy]
        rw [e] at kk
        exact kk
      | some t => exact absurd ⟨t, zix_s hy⟩ z
    refine t_X10_candle (d1' := 2) (d2' := 4) hr (by omega) (by omega) (by omega) (fun _ _ _ _ _ _ _ => hv) (fun _ _ _ _ _ _ => hv) (fun _ _ _ _ _ => hv) (fun _ _ _ => hv) (fun p => absurd p (nI_pos (by omega))) (fun _ q => (hq q).elim) (fun _ _ n0 n1 n2 n3 p => ?_) (fun _ _ _ _ _ _ p q => ?_) (fun _ _ _ _ _ _ p q => ?_) (fun _ _ _ _ _ p => ?_) (fun _ _ _ _ p => ?_) (fun _ _ _ p => ?_) (fun _ _ p => ?_)
    · by_cases z : ∃ t, t < 10 + C.2.1 c ∧ y = nI t
      · obtain ⟨t, ht, rfl⟩ := z
        rw [nI_ltI (by omega) (by omega)] at p
        have t0 : t ≠ 0 := fun z => n0 (by rw [z]; rfl)
        have t1 : t ≠ 1 := fun z => n1 (by rw [z])
        have t2 : t ≠ 2 := fun z => n2 (by rw [z])
        have t3 : t ≠ 3 := fun z => n3 (by rw [z])
        have := hT t ht rfl
        unfold fCandT at this
        rw [if_neg t0, if_neg t1, if_neg t2, if_neg t3, if_pos p] at this
        exact this
      · exact hN z
    · have y0 : ¬ y < 0 := by
        intro z
        apply p
        rw [Int32.lt_iff_toInt_lt] at z ⊢
        rw [nI_toInt (by omega)]
        have : (0 : Int32).toInt = 0 := rfl
        omega
      obtain ⟨t, ht, rfl⟩ := nI_of y0
      rw [nI_ltI (by omega) (by omega)] at p
      rw [pk_sub (by omega), e1, nI_ltI (by omega) (by omega)] at q
      rw [pk_sub (by omega)]
      refine c_sop hr hA ho hC hc (by omega) (by omega) ?_
      refine t_X10_candle_100 ?_
      have hm := cM_le hC hc (t - 10)
      rw [pk_div (by omega) (by omega) (by omega), show 256 * cM C c (t - 10) / 256 = cM C c (t - 10) by omega]
      have := hT t (by omega) rfl
      unfold fCandT at this
      rw [if_neg (by omega), if_neg (by omega), if_neg (by omega), if_neg (by omega), if_neg p] at this
      exact this
    · refine hN ?_
      rintro ⟨t, ht, rfl⟩
      rw [nI_ltI (by omega) (by omega)] at p
      rw [pk_sub (by omega), e1, nI_ltI (by omega) (by omega)] at q
      omega
    · rw [e4]; exact hT 3 (by omega) p
    · rw [e3]; exact hT 2 (by omega) p
    · refine c_sof hr hA ho hC hc (by omega) ?_
      refine t_X10_candle_40 ?_
      rw [pk_div (by omega) (by omega) (by omega), show cS C c / 256 = cB C c (C.2.1 c) by unfold cS; omega]
      exact hT 1 (by omega) p
    · rw [e1]; exact hT 0 (by omega) p
theorem n_candle {C : CE} {h : MH} {d : Nat} {Q : Option MV → MH → Prop} (hr : zRf h) (hA : cIn C (h.1 112) 0) (hC : cOK C) (hd : 3 ≤ d) {x y : Int32} (kk : Q (some (.inl (fCand C x y))) (zsI h 111 0 (nI 0))) : Con mX11_candle d 0 0 [.inr (.inr 111), .inl x, .inl y] h Q := by
  have h8 := hC.1
  have e0 : (zsI h 111 0 (nI 0)).1 112 0 = nI C.1 := hA.1
  have hA' : cIn C ((zsI h 111 0 (nI 0)).1 112) 0 := hA
  have hr' : zRf (zsI h 111 0 (nI 0)) := hr
  cases hx : zix x C.1 with
  | none =>
    have e9 : fCand C x y = -(nI 2) := by simp only [fCand, hx]
    rw [e9] at kk
    have hn : (lN 0) ≤ x.toInt64 → x.toInt64 ≤ ((((zsI h 111 0 (nI 0)).1 112 0) - (nI 1)).toInt64) → False := by
      intro p q
      rw [e0] at q
      exact absurd ⟨p, q⟩ (w_no (by omega) hx)
    exact t_X11_candle hr (by omega) (fun p q => (hn p q).elim) (fun p q => (hn p q).elim) (fun _ => kk) (fun _ _ => kk) (fun p q => (hn p q).elim) (fun p q => (hn p q).elim) (fun p q => (hn p q).elim)
  | some c =>
    obtain ⟨hc, rfl⟩ := zix_s hx
    have hp := (hC.2 c hc).1
    have hS := cS_le hC hc
    have hw := w_yes (c := c) (n := C.1) (by omega) hc
    have hT : ∀ t, t < 10 + C.2.1 c → y = nI t → Q (some (.inl (fCandT C c t))) (zsI h 111 0 (nI 0)) := by
      rintro t ht rfl
      have e : fCand C (nI c) (nI t) = fCandT C c t := by simp only [fCand, hx, zix_n ht (by omega)]
      rw [e] at kk
      exact kk
    have hN : ¬ (∃ t, t < 10 + C.2.1 c ∧ y = nI t) → Q (some (.inl (-(nI 2)))) (zsI h 111 0 (nI 0)) := by
      intro z
      cases hy : zix y (10 + C.2.1 c) with
      | none =>
        have e : fCand C (nI c) y = -(nI 2) := by simp only [fCand, hx, hy]
        rw [e] at kk
        exact kk
      | some t => exact absurd ⟨t, zix_s hy⟩ z
    have e1 : (zsI h 111 0 (nI 0)).1 112 ((nI 1) + nI c).toNatClampNeg = nI (C.2.1 c) := by
      rw [nI_add, nI_clamp (by omega)]
      have := (hA'.2.2 c hc).1
      rw [show 0 + 1 + c = 1 + c by omega] at this
      exact this
    have h10 : (10 : Int64) ≤ y.toInt64 ↔ 10 ≤ y.toInt := by rw [wle, w64]; rfl
    have hup : y.toInt64 ≤ ((nI 9) + nI (C.2.1 c)).toInt64 ↔ y.toInt ≤ 9 + (C.2.1 c : Int) := by
      rw [wle, w64, w64, nI_add, nI_toInt (by omega)]
      omega
    have sw : (10 ≤ y.toInt → ¬ y.toInt ≤ 9 + (C.2.1 c : Int)) → J mX11_candle d 0 0 Q 0 0 50 [some (.inr (.inr 111)), some (.inl (nI c)), some (.inl y)] [.inl y] (zsI h 111 0 (nI 0)) := by
      intro hout
      generalize zsI h 111 0 (nI 0) = h1 at hA' hr' hT hN e1
      by_cases z : y.toInt < 0 ∨ 3 < y.toInt
      · refine s_tableOut dX11_candle_50 z (tgt := 119) rfl ?_
        refine t_X11_candle_119 ?_
        by_cases z2 : ∃ t, t < 10 + C.2.1 c ∧ y = nI t
        · obtain ⟨t, ht, rfl⟩ := z2
          rw [nI_toInt (by omega)] at z hout
          have := hT t ht rfl
          unfold fCandT at this
          rw [if_neg (by omega), if_neg (by omega), if_neg (by omega), if_neg (by omega), if_pos (by omega)] at this
          exact this
        · exact hN z2
      · have y0 : ¬ y < 0 := by
          rw [Int32.lt_iff_toInt_lt]
          have : (0 : Int32).toInt = 0 := rfl
          omega
        obtain ⟨t, ht, rfl⟩ := nI_of y0
        rw [nI_toInt ht] at z
        have ht4 : t = 0 ∨ t = 1 ∨ t = 2 ∨ t = 3 := by omega
        rcases ht4 with rfl | rfl | rfl | rfl
        · refine s_tableIn dX11_candle_50 (by decide) (by decide) (off := 30) rfl (tgt := 80) rfl ?_
          refine t_X11_candle_80 hr' (by rw [nI_add]; exact vp_in_nI (by omega) (by omega)) ?_
          rw [e1]
          exact hT 0 (by omega) rfl
        · refine s_tableIn dX11_candle_50 (by decide) (by decide) (off := 39) rfl (tgt := 89) rfl ?_
          refine t_X11_candle_89 (d1' := 1) hr' (by omega) ?_
          refine m_rest hr' hA' hC hc (by omega) ?_
          refine t_X11_candle_94 ?_
          rw [pk_div (by omega) (by omega) (by omega), show cS C c / 256 = cB C c (C.2.1 c) by unfold cS; omega]
          exact hT 1 (by omega) rfl
        · refine s_tableIn dX11_candle_50 (by decide) (by decide) (off := 49) rfl (tgt := 99) rfl ?_
          refine t_X11_candle_99 hr' (by rw [nI_add]; exact vp_in_nI (by omega) (by omega)) ?_
          have := (hA'.2.2 c hc).2.2.1
          rw [show 0 + 57 + c = 57 + c by omega] at this
          rw [nI_add, nI_clamp (by omega), this]
          exact hT 2 (by omega) rfl
        · refine s_tableIn dX11_candle_50 (by decide) (by decide) (off := 59) rfl (tgt := 109) rfl ?_
          refine t_X11_candle_109 hr' (by rw [nI_add]; exact vp_in_nI (by omega) (by omega)) ?_
          have := (hA'.2.2 c hc).2.2.2
          rw [show 0 + 65 + c = 65 + c by omega] at this
          rw [nI_add, nI_clamp (by omega), this]
          exact hT 3 (by omega) rfl
    have hin : 10 ≤ y.toInt → y.toInt ≤ 9 + (C.2.1 c : Int) → ∃ k, k < C.2.1 c ∧ y = nI (10 + k) := by
      intro p q
      have y0 : ¬ y < 0 := by
        rw [Int32.lt_iff_toInt_lt]
        have : (0 : Int32).toInt = 0 := rfl
        omega
      obtain ⟨t, ht, rfl⟩ := nI_of y0
      rw [nI_toInt ht] at p q
      exact ⟨t - 10, by omega, by rw [show 10 + (t - 10) = t by omega]⟩
    refine t_X11_candle hr (by omega) (fun _ _ => by rw [nI_add]; exact vp_in_nI (by omega) (by omega)) (fun _ _ p q => ?_) (fun p => absurd hw.1 p) (fun _ q => ?_) (fun _ _ p => ?_) (fun _ _ p q => ?_) (fun _ _ p q => ?_)
    · rw [e1] at q
      obtain ⟨k, hk, rfl⟩ := hin (h10.mp p) (hup.mp q)
      rw [pk_sub (by omega), pk_mul, nI_add, nI_add]
      exact vp_in_nI (by omega) (by omega)
    · rw [e0] at q; exact absurd hw.2 q
    · exact sw (fun z => absurd (h10.mpr z) p)
    · rw [e1] at q
      exact sw (fun _ z => q (hup.mpr z))
    · rw [e1] at q
      obtain ⟨k, hk, rfl⟩ := hin (h10.mp p) (hup.mp q)
      have := (hA'.2.2 c hc).2.1 k hk
      rw [show 0 + 9 + 6 * c + k = 9 + 6 * c + k by omega] at this
      rw [pk_sub (by omega), pk_mul, nI_add, nI_add, nI_clamp (by omega), show 9 + 6 * c + (10 + k - 10) = 9 + 6 * c + k by omega, this]
      have := hT (10 + k) (by omega) rfl
      unfold fCandT at this
      rw [if_neg (by omega), if_neg (by omega), if_neg (by omega), if_neg (by omega), if_neg (by omega), show 10 + k - 10 = k by omega, show cM C c k = C.2.2.1 c k from if_pos hk] at this
      exact this
