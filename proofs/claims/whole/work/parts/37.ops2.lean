/-! ===== piece (reference), halves, candle ===== -/
theorem n_piece {C : CE} {h : MH} {d : Nat} {Q : Option MV → MH → Prop} (hr : zRf h) (hA : cIn C (h.1 112) 0) (hC : cOK C) (hd : 3 ≤ d) {x y w : Int32} (e : Bool) (he : w = 0 ↔ e = false) (kk : Q (some (.inl (fPiece C x y e))) (zsI h 111 0 (nI 0))) : Con mX11_piece d 0 0 [.inr (.inr 111), .inl x, .inl y, .inl w] h Q := by
  have h8 := hC.1
  have e0 : (zsI h 111 0 (nI 0)).1 112 0 = nI C.1 := hA.1
  have hA' : cIn C ((zsI h 111 0 (nI 0)).1 112) 0 := hA
  have hr' : zRf (zsI h 111 0 (nI 0)) := hr
  cases hx : zix x C.1 with
  | none =>
    have e9 : fPiece C x y e = -(nI 2) := by simp only [fPiece, hx]
    rw [e9] at kk
    refine t_X11_piece (d1' := 0) hr (by omega) (by omega) (fun _ => kk) (fun _ _ => kk) (fun p q => ?_)
    rw [e0] at q
    exact absurd ⟨p, q⟩ (w_no (by omega) hx)
  | some c =>
    obtain ⟨hc, rfl⟩ := zix_s hx
    have hS := cS_le hC hc
    have hp := (hC.2 c hc).1
    have hw := w_yes (c := c) (n := C.1) (by omega) hc
    refine t_X11_piece (d1' := 1) hr (by omega) (by omega) (fun p => absurd hw.1 p) (fun _ q => ?_) (fun _ _ => ?_)
    · rw [e0] at q; exact absurd hw.2 q
    generalize zsI h 111 0 (nI 0) = h1 at hA' hr' kk
    refine m_rest hr' hA' hC hc (by omega) ?_
    have hno : zix y (cS C c + 1) = none → Q (some (.inl (-(nI 3)))) h1 := by
      intro q
      have e9 : fPiece C (nI c) y e = -(nI 3) := by simp only [fPiece, hx, q]
      rw [e9] at kk
      exact kk
    have hdec : zix y (cS C c + 1) = none ∨ ∃ s, s < cS C c + 1 ∧ y = nI s := by
      cases hz : zix y (cS C c + 1) with
      | none => exact Or.inl rfl
      | some s => exact Or.inr ⟨s, zix_s hz⟩
    refine t_X11_piece_24 (by omega) (fun p => ?_) (fun p q => ?_) (fun p q => ?_)
    · rcases hdec with z | z
      · exact hno z
      · exact absurd ((w_up (by omega)).mpr z).1 p
    · rcases hdec with z | z
      · exact hno z
      · exact absurd ((w_up (by omega)).mpr z).2 q
    obtain ⟨s, hs, rfl⟩ := (w_up (m := cS C c) (by omega)).mp ⟨p, q⟩
    have e9 : fPiece C (nI c) (nI s) e = rO (cnx C c e s (C.2.1 c) 0) := by simp only [fPiece, hx, zix_n (show s < cS C c + 1 by omega) (by omega)]
    rw [e9] at kk
    have e1 : h1.1 112 ((nI 1) + nI c).toNatClampNeg = nI (C.2.1 c) := by
      rw [nI_add, nI_clamp (by omega)]
      have := (hA'.2.2 c hc).1
      rw [show 0 + 1 + c = 1 + c by omega] at this
      exact this
    have g0 : vp_in ((nI 1) + nI c) 2166 := by rw [nI_add]; exact vp_in_nI (by omega) (by omega)
    have L : ∀ n i, i + n = C.2.1 c → 256 * cBo C c e i ≤ s → cnx C c e s n i = cnx C c e s (C.2.1 c) 0 → ∀ u, J mX11_piece d 0 0 Q 0 0 40 [some (.inr (.inr 111)), some (.inl (nI c)), some (.inl (nI s)), some (.inl w), some (.inl (nI (s - 256 * cBo C c e i))), some (.inl (nI i)), u] [] h1 := by
      intro n
      induction n with
      | zero =>
        intro i hi hle hxx u
        have hend : h1.1 112 ((nI 1) + nI c).toNatClampNeg ≤ nI i := by rw [e1]; exact nI_le (by omega) (by omega)
        refine t_X11_piece_40 hr' (by omega) g0 (fun p => absurd hend p) (fun p => absurd hend p) (fun _ => ?_) (fun p => absurd hend p) (fun p => absurd hend p) (fun p => absurd hend p) (fun p => absurd hend p)
        rw [← hxx] at kk
        exact kk
      | succ n ih =>
        intro i hi hle hxx u
        have hnot : ¬ h1.1 112 ((nI 1) + nI c).toNatClampNeg ≤ nI i := by rw [e1, nI_leI (by omega) (by omega)]; omega
        have hstep := cBo_s C c e i
        have hok : cO C c e i < C.2.1 c := by unfold cO; split <;> omega
        have em : cM C c (cO C c e i) = C.2.2.1 c (cO C c e i) := if_pos hok
        have hm := (hC.2 c hc).2.1 _ hok
        have e2 : ∀ z : Int32, z = nI (cO C c e i) → h1.1 112 (((nI 9) + ((nI 6) * nI c)) + z).toNatClampNeg = nI (cM C c (cO C c e i)) ∧ vp_in (((nI 9) + ((nI 6) * nI c)) + z) 2166 := by
          intro z hz
          subst hz
          rw [pk_mul, nI_add, nI_add, nI_clamp (by omega)]
          have := (hA'.2.2 c hc).2.1 _ hok
          rw [show 0 + 9 + 6 * c + cO C c e i = 9 + 6 * c + cO C c e i by omega] at this
          rw [this, em]
          exact ⟨rfl, vp_in_nI (by omega) (by omega)⟩
        have go : ∀ z : Int32, z = nI (cO C c e i) → (0 ≤ nI (s - 256 * cBo C c e i) - nI 256 * h1.1 112 (((nI 9) + ((nI 6) * nI c)) + z).toNatClampNeg → J mX11_piece d 0 0 Q 0 0 40 [some (.inr (.inr 111)), some (.inl (nI c)), some (.inl (nI s)), some (.inl w), some (.inl (nI (s - 256 * cBo C c e i) - nI 256 * h1.1 112 (((nI 9) + ((nI 6) * nI c)) + z).toNatClampNeg)), some (.inl (nI i + nI 1)), some (.inl z)] [] h1) ∧ (¬ 0 ≤ nI (s - 256 * cBo C c e i) - nI 256 * h1.1 112 (((nI 9) + ((nI 6) * nI c)) + z).toNatClampNeg → Q (some (.inl z)) h1) := by
          intro z hz
          rw [(e2 z hz).1, pk_mul]
          constructor
          · intro q
            have q2 : 256 * cM C c (cO C c e i) ≤ s - 256 * cBo C c e i := by
              rcases Nat.lt_or_ge (s - 256 * cBo C c e i) (256 * cM C c (cO C c e i)) with z1 | z1
              · exact absurd q (Int32.not_le.mpr (pk_sneg (by omega) z1))
              · exact z1
            rw [pk_sub q2, nI_add, show s - 256 * cBo C c e i - 256 * cM C c (cO C c e i) = s - 256 * cBo C c e (i + 1) by omega]
            refine ih (i + 1) (by omega) (by omega) ?_ _
            rw [← hxx]
            exact (if_neg (by omega)).symm
          · intro q
            have q2 : ¬ 256 * cM C c (cO C c e i) ≤ s - 256 * cBo C c e i := fun z1 => q (by rw [pk_sub z1]; exact nI_pos' (by omega))
            rw [← hxx] at kk
            have e7 : cnx C c e s (n + 1) i = some (cO C c e i) := if_pos (by omega)
            rw [e7] at kk
            rw [hz]
            exact kk
        refine t_X11_piece_40 hr' (by omega) g0 (fun _ q => ?_) (fun _ q => ?_) (fun p => absurd p hnot) (fun _ q => ?_) (fun _ q => ?_) (fun _ q => ?_) (fun _ q => ?_)
        · have eo : cO C c e i = i := by rw [he.mp q]; rfl
          exact (e2 (nI i) (by rw [eo])).2
        · have ee : e = true := by cases e with | true => rfl | false => exact absurd (he.mpr rfl) q
          have eo : cO C c e i = C.2.1 c - 1 - i := by rw [ee]; rfl
          exact (e2 _ (by rw [e1, pk_sub (by omega), pk_sub (by omega), eo])).2
        · have eo : cO C c e i = i := by rw [he.mp q]; rfl
          exact (go (nI i) (by rw [eo])).1
        · have eo : cO C c e i = i := by rw [he.mp q]; rfl
          exact (go (nI i) (by rw [eo])).2
        · have ee : e = true := by cases e with | true => rfl | false => exact absurd (he.mpr rfl) q
          have eo : cO C c e i = C.2.1 c - 1 - i := by rw [ee]; rfl
          exact (go _ (by rw [e1, pk_sub (by omega), pk_sub (by omega), eo])).1
        · have ee : e = true := by cases e with | true => rfl | false => exact absurd (he.mpr rfl) q
          have eo : cO C c e i = C.2.1 c - 1 - i := by rw [ee]; rfl
          exact (go _ (by rw [e1, pk_sub (by omega), pk_sub (by omega), eo])).2
    exact L (C.2.1 c) 0 (by omega) (by show 256 * 0 ≤ s; omega) rfl _
/-- twice the minutes of the first half -/
def cH (C : CE) (c : Nat) : Nat → Nat
  | 0 => 0
  | i + 1 => cH C c i + (if 2 * i + 2 ≤ C.2.1 c then 2 * cM C c i else if 2 * i + 1 = C.2.1 c then cM C c i else 0)
theorem cH_le {C : CE} (hC : cOK C) {c : Nat} (hc : c < C.1) : ∀ i, cH C c i ≤ i * 120
  | 0 => by simp [cH]
  | i + 1 => by
    have h1 := cH_le hC hc i
    have h2 := cM_le hC hc i
    show cH C c i + (if 2 * i + 2 ≤ C.2.1 c then 2 * cM C c i else if 2 * i + 1 = C.2.1 c then cM C c i else 0) ≤ (i + 1) * 120
    by_cases q1 : 2 * i + 2 ≤ C.2.1 c
    · rw [if_pos q1]; omega
    · rw [if_neg q1]
      by_cases q2 : 2 * i + 1 = C.2.1 c
      · rw [if_pos q2]; omega
      · rw [if_neg q2]; omega
def fHalf (C : CE) (x : Int32) : Int32 := match zix x C.1 with
  | none => -(nI 2)
  | some c => nI (128 * cH C c (C.2.1 c))
theorem n_halves {C : CE} {h : MH} {d : Nat} {Q : Option MV → MH → Prop} (hr : zRf h) (hA : cIn C (h.1 112) 0) (hC : cOK C) (hd : 3 ≤ d) {x : Int32} (kk : Q (some (.inl (fHalf C x))) (zsI h 111 0 (nI 0))) : Con mX11_halves d 0 0 [.inr (.inr 111), .inl x] h Q := by
  have h8 := hC.1
  have e0 : (zsI h 111 0 (nI 0)).1 112 0 = nI C.1 := hA.1
  have hA' : cIn C ((zsI h 111 0 (nI 0)).1 112) 0 := hA
  have hr' : zRf (zsI h 111 0 (nI 0)) := hr
  cases hx : zix x C.1 with
  | none =>
    have e9 : fHalf C x = -(nI 2) := by simp only [fHalf, hx]
    rw [e9] at kk
    refine t_X11_halves hr (by omega) (fun _ => kk) (fun _ _ => kk) (fun p q => ?_)
    rw [e0] at q
    exact absurd ⟨p, q⟩ (w_no (by omega) hx)
  | some c =>
    obtain ⟨hc, rfl⟩ := zix_s hx
    have hp := (hC.2 c hc).1
    have hw := w_yes (c := c) (n := C.1) (by omega) hc
    refine t_X11_halves hr (by omega) (fun p => absurd hw.1 p) (fun _ q => ?_) (fun _ _ => ?_)
    · rw [e0] at q; exact absurd hw.2 q
    generalize zsI h 111 0 (nI 0) = h1 at hA' hr' kk
    have e9 : fHalf C (nI c) = nI (128 * cH C c (C.2.1 c)) := by simp only [fHalf, hx]
    rw [e9] at kk
    have e1 : h1.1 112 ((nI 1) + nI c).toNatClampNeg = nI (C.2.1 c) := by
      rw [nI_add, nI_clamp (by omega)]
      have := (hA'.2.2 c hc).1
      rw [show 0 + 1 + c = 1 + c by omega] at this
      exact this
    have g0 : vp_in ((nI 1) + nI c) 2166 := by rw [nI_add]; exact vp_in_nI (by omega) (by omega)
    have L : ∀ n i, i + n = C.2.1 c → J mX11_halves d 0 0 Q 0 0 20 [some (.inr (.inr 111)), some (.inl (nI c)), some (.inl (nI (cH C c i))), some (.inl (nI i))] [] h1 := by
      intro n
      induction n with
      | zero =>
        intro i hi
        have hend : h1.1 112 ((nI 1) + nI c).toNatClampNeg ≤ nI i := by rw [e1]; exact nI_le (by omega) (by omega)
        refine t_X11_halves_20 hr' (by omega) g0 (fun p => absurd hend p) (fun p => absurd hend p) (fun _ => ?_) (fun p => absurd hend p) (fun p => absurd hend p) (fun p => absurd hend p)
        rw [pk_mul, show i = C.2.1 c by omega]
        exact kk
      | succ n ih =>
        intro i hi
        have hik : i < C.2.1 c := by omega
        have em : cM C c i = C.2.2.1 c i := if_pos hik
        have hm := (hC.2 c hc).2.1 i hik
        have e2 : h1.1 112 (((nI 9) + ((nI 6) * nI c)) + nI i).toNatClampNeg = nI (cM C c i) := by
          rw [pk_mul, nI_add, nI_add, nI_clamp (by omega)]
          have := (hA'.2.2 c hc).2.1 i hik
          rw [show 0 + 9 + 6 * c + i = 9 + 6 * c + i by omega] at this
          rw [this, em]
        have g1 : vp_in (((nI 9) + ((nI 6) * nI c)) + nI i) 2166 := by
          rw [pk_mul, nI_add, nI_add]
          exact vp_in_nI (by omega) (by omega)
        have hnot : ¬ h1.1 112 ((nI 1) + nI c).toNatClampNeg ≤ nI i := by rw [e1, nI_leI (by omega) (by omega)]; omega
        have h2 : ((nI 2 * nI i) + nI 2) = nI (2 * i + 2) := by rw [pk_mul, nI_add]
        have h3 : ((nI 2 * nI i) + nI 1) = nI (2 * i + 1) := by rw [pk_mul, nI_add]
        have step := ih (i + 1) (by omega)
        refine t_X11_halves_20 hr' (by omega) g0 (fun _ _ _ => g1) (fun _ _ => g1) (fun p => absurd p hnot) (fun _ p q => ?_) (fun _ p q => ?_) (fun _ p => ?_)
        · rw [e1, h2, nI_ltI (by omega) (by omega)] at p
          rw [e1, h3, nI_eq (by omega) (by omega)] at q
          rw [nI_add, nI_add]
          have : cH C c (i + 1) = cH C c i + 0 := by show cH C c i + (if _ then _ else _) = _; rw [if_neg (by omega), if_neg (by omega)]
          rw [this] at step
          exact step
        · rw [e1, h2, nI_ltI (by omega) (by omega)] at p
          rw [e1, h3, nI_eq (by omega) (by omega)] at q
          rw [e2, nI_add, nI_add]
          have : cH C c (i + 1) = cH C c i + cM C c i := by show cH C c i + (if _ then _ else _) = _; rw [if_neg (by omega), if_pos q]
          rw [this] at step
          exact step
        · rw [e1, h2, nI_ltI (by omega) (by omega)] at p
          rw [e2, pk_mul, nI_add, nI_add]
          have : cH C c (i + 1) = cH C c i + 2 * cM C c i := by show cH C c i + (if _ then _ else _) = _; rw [if_pos (by omega)]
          rw [this] at step
          exact step
    exact L (C.2.1 c) 0 (by omega)
theorem o_halves {C : CE} {h : MH} {d : Nat} {Q : Option MV → MH → Prop} (hr : zRf h) (hA : cAt C h 16) (hC : cOK C) (hd : 5 ≤ d) {x : Int32} (kk : Q (some (.inl (fHalf C x))) h) : Con mX10_halves d 0 0 [.inr (.inr 1), .inl x] h Q := by
  have h8 := hC.1
  have ho : zokO h 16 2 := zo hr (by decide) rfl
  cases hx : zix x C.1 with
  | none =>
    have e : fHalf C x = -(nI 2) := by simp only [fHalf, hx]
    rw [e] at kk
    refine t_X10_halves hr (by omega) (fun _ => kk) (fun _ _ => kk) (fun p q => ?_)
    exact absurd (by rw [hA.1]; exact zix_lo hx p (by omega)) q
  | some c =>
    obtain ⟨hc, rfl⟩ := zix_s hx
    have hp := (hC.2 c hc).1
    refine t_X10_halves hr (by omega) (fun p => absurd p (nI_pos (by omega))) (fun _ q => ?_) (fun _ _ => ?_)
    · rw [hA.1, nI_leI (by omega) (by omega)] at q; omega
    have e9 : fHalf C (nI c) = nI (128 * cH C c (C.2.1 c)) := by simp only [fHalf, hx]
    rw [e9] at kk
    have e1 : h.1 (16 + 1) (nI c).toNatClampNeg = nI (C.2.1 c) := by rw [nI_clamp (by omega)]; exact (hA.2 c hc).1
    have L : ∀ n i, i + n = C.2.1 c → ∀ u, J mX10_halves d 0 0 Q 0 0 24 [some (.inr (.inr 1)), some (.inl (nI c)), some (.inr (.inr 16)), some (.inl (nI (128 * cH C c i))), some (.inl (nI i)), u] [] h := by
      intro n
      induction n with
      | zero =>
        intro i hi u
        have hend : h.1 (16 + 1) (nI c).toNatClampNeg ≤ nI i := by rw [e1]; exact nI_le (by omega) (by omega)
        refine t_X10_halves_24 (d1' := 1) hr (by omega) (by omega) ho (vp_in_nI (by omega) (by omega)) (fun _ => ?_) (fun p => absurd hend p)
        rw [show i = C.2.1 c by omega]
        exact kk
      | succ n ih =>
        intro i hi u
        have hnot : ¬ h.1 (16 + 1) (nI c).toNatClampNeg ≤ nI i := by rw [e1, nI_leI (by omega) (by omega)]; omega
        have hm := cM_le hC hc i
        refine t_X10_halves_24 (d1' := 1) hr (by omega) (by omega) ho (vp_in_nI (by omega) (by omega)) (fun p => absurd p hnot) (fun _ => ?_)
        refine c_sop hr hA ho hC hc (by omega) (by omega) ?_
        refine t_X10_halves_64 ?_
        have step := ih (i + 1) (by omega)
        rw [nI_add, e1, pk_div (by omega) (by omega) (by omega), show 256 * cM C c i / 2 = 128 * cM C c i by omega]
        have ew : ∃ w : Nat, w ≤ 2 ∧ (if nI 0 < (if (nI (C.2.1 c) - nI 2 * nI i) < nI 2 then (nI (C.2.1 c) - nI 2 * nI i) else nI 2) then (if (nI (C.2.1 c) - nI 2 * nI i) < nI 2 then (nI (C.2.1 c) - nI 2 * nI i) else nI 2) else nI 0) = nI w ∧ cH C c (i + 1) = cH C c i + w * cM C c i := by
          rw [pk_mul]
          by_cases q1 : 2 * i + 2 ≤ C.2.1 c
          · refine ⟨2, by omega, ?_, ?_⟩
            · rw [pk_sub (by omega)]
              have : ¬ nI (C.2.1 c - 2 * i) < nI 2 := nI_nlt (by omega) (by omega)
              rw [if_neg this, if_pos (by decide)]
            · show cH C c i + (if _ then _ else _) = _
              rw [if_pos q1]
          · by_cases q2 : 2 * i + 1 = C.2.1 c
            · refine ⟨1, by omega, ?_, ?_⟩
              · rw [pk_sub (by omega), show C.2.1 c - 2 * i = 1 by omega, if_pos (by decide), if_pos (by decide)]
              · show cH C c i + (if _ then _ else _) = _
                rw [if_neg q1, if_pos q2, Nat.one_mul]
            · refine ⟨0, by omega, ?_, ?_⟩
              · have e5 : (nI (C.2.1 c) - nI (2 * i)).toInt = (C.2.1 c : Int) - (2 * i : Nat) := pk_sub_toInt (by omega) (by omega)
                have l1 : nI (C.2.1 c) - nI (2 * i) < nI 2 := by rw [Int32.lt_iff_toInt_lt, e5, nI_toInt (by omega)]; omega
                have l2 : ¬ nI 0 < nI (C.2.1 c) - nI (2 * i) := by
                  rw [Int32.lt_iff_toInt_lt, e5]
                  show ¬ (0 : Int) < _
                  omega
                rw [if_pos l1, if_neg l2]
              · show cH C c i + (if _ then _ else _) = _
                rw [if_neg q1, if_neg q2, Nat.zero_mul]
        obtain ⟨w, hw, e3, e4⟩ := ew
        rw [e3, pk_mul, nI_add, show 128 * cH C c i + 128 * cM C c i * w = 128 * cH C c (i + 1) by rw [e4, Nat.mul_add, Nat.mul_assoc, Nat.mul_comm w]]
        exact step _
    exact L (C.2.1 c) 0 (by omega) none
