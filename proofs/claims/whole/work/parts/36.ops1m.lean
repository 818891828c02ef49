/-! ===== length, meet, piece: the reference ===== -/
theorem w_no {x : Int32} {n : Nat} (hn : n < 2 ^ 30) (h : zix x n = none) : ¬ (lN 0 ≤ x.toInt64 ∧ x.toInt64 ≤ (nI n - nI 1).toInt64) := fun q => zix_o h (by omega) ((w_in hn).mp q)
theorem w_yes {c n : Nat} (hn : n < 2 ^ 30) (h : c < n) : lN 0 ≤ (nI c).toInt64 ∧ (nI c).toInt64 ≤ (nI n - nI 1).toInt64 := (w_in hn).mpr ⟨c, h, rfl⟩
theorem w_up {y : Int32} {m : Nat} (hm : m < 2 ^ 30) : (lN 0 ≤ y.toInt64 ∧ y.toInt64 ≤ (nI m).toInt64) ↔ ∃ s, s < m + 1 ∧ y = nI s := by
  have := w_in (x := y) (n := m + 1) 
  rw [wle, wle, w64, w64, wlN (by omega), nI_toInt (by omega)]
  constructor
  · intro ⟨h1, h2⟩
    have h3 : ¬ y < 0 := by rw [Int32.lt_iff_toInt_lt]; simpa using h1
    obtain ⟨j, hj, rfl⟩ := nI_of h3
    rw [nI_toInt hj] at h2
    exact ⟨j, by omega, rfl⟩
  · rintro ⟨c, hc, rfl⟩
    rw [nI_toInt (by omega)]
    omega
theorem n_length {C : CE} {h : MH} {d : Nat} {Q : Option MV → MH → Prop} (hr : zRf h) (hA : cIn C (h.1 112) 0) (hC : cOK C) (hd : 3 ≤ d) {x y : Int32} (kk : Q (some (.inl (fLen C x y))) (zsI h 111 0 (nI 0))) : Con mX11_length d 0 0 [.inr (.inr 111), .inl x, .inl y] h Q := by
  have h8 := hC.1
  have e0 : (zsI h 111 0 (nI 0)).1 112 0 = nI C.1 := hA.1
  have hA' : cIn C ((zsI h 111 0 (nI 0)).1 112) 0 := hA
  have hr' : zRf (zsI h 111 0 (nI 0)) := hr
  cases hx : zix x C.1 with
  | none =>
    have e : fLen C x y = -(nI 2) := by simp only [fLen, hx]
    rw [e] at kk
    refine t_X11_length (d1' := 0) hr (by omega) (by omega) (fun _ => kk) (fun _ _ => kk) (fun p q => ?_)
    rw [e0] at q
    exact absurd ⟨p, q⟩ (w_no (by omega) hx)
  | some c =>
    obtain ⟨hc, rfl⟩ := zix_s hx
    have hS := cS_le hC hc
    have hw := w_yes (c := c) (n := C.1) (by omega) hc
    refine t_X11_length (d1' := 1) hr (by omega) (by omega) (fun p => absurd hw.1 p) (fun _ q => ?_) (fun _ _ => ?_)
    · rw [e0] at q; exact absurd hw.2 q
    · refine m_rest hr' hA' hC hc (by omega) ?_
      have hno : zix y (cS C c + 1) = none → Q (some (.inl (-(nI 3)))) (zsI h 111 0 (nI 0)) := by
        intro q
        have e : fLen C (nI c) y = -(nI 3) := by simp only [fLen, hx, q]
        rw [e] at kk
        exact kk
      have hdec : zix y (cS C c + 1) = none ∨ ∃ s, s < cS C c + 1 ∧ y = nI s := by
        cases hz : zix y (cS C c + 1) with
        | none => exact Or.inl rfl
        | some s => exact Or.inr ⟨s, zix_s hz⟩
      refine t_X11_length_24 (d1' := 1) hr' (by omega) (by omega) (fun p => ?_) (fun p q => ?_) (fun p q => ?_)
      · rcases hdec with z | z
        · exact hno z
        · exact absurd ((w_up (by omega)).mpr z).1 p
      · rcases hdec with z | z
        · exact hno z
        · exact absurd ((w_up (by omega)).mpr z).2 q
      · obtain ⟨s, hs, rfl⟩ := (w_up (m := cS C c) (by omega)).mp ⟨p, q⟩
        refine m_burnt hr' hA' hC hc (by omega) (by omega) true (by decide) ?_
        intro k t1 t2 t3
        refine t_X11_length_44 ?_
        rw [pk_sub t3, t1]
        have e : fLen C (nI c) (nI s) = nI (cTh C c s true) := by simp only [fLen, hx, zix_n (show s < cS C c + 1 by omega) (by omega)]
        rw [e] at kk
        exact kk
theorem n_meet {C : CE} {h : MH} {d : Nat} {Q : Option MV → MH → Prop} (hr : zRf h) (hA : cIn C (h.1 112) 0) (hC : cOK C) (hd : 3 ≤ d) {x : Int32} (kk : Q (some (.inl (fMeet C x))) (zsI h 111 0 (nI 0))) : Con mX11_meet d 0 0 [.inr (.inr 111), .inl x] h Q := by
  have h8 := hC.1
  have e0 : (zsI h 111 0 (nI 0)).1 112 0 = nI C.1 := hA.1
  have hA' : cIn C ((zsI h 111 0 (nI 0)).1 112) 0 := hA
  have hr' : zRf (zsI h 111 0 (nI 0)) := hr
  cases hx : zix x C.1 with
  | none =>
    have e : fMeet C x = -(nI 2) := by simp only [fMeet, hx]
    rw [e] at kk
    refine t_X11_meet (d1' := 0) hr (by omega) (by omega) (fun _ => kk) (fun _ _ => kk) (fun p q => ?_)
    rw [e0] at q
    exact absurd ⟨p, q⟩ (w_no (by omega) hx)
  | some c =>
    obtain ⟨hc, rfl⟩ := zix_s hx
    have hS := cS_le hC hc
    have hw := w_yes (c := c) (n := C.1) (by omega) hc
    refine t_X11_meet (d1' := 1) hr (by omega) (by omega) (fun p => absurd hw.1 p) (fun _ q => ?_) (fun _ _ => ?_)
    · rw [e0] at q; exact absurd hw.2 q
    · refine m_rest hr' hA' hC hc (by omega) ?_
      refine t_X11_meet_20 (d1' := 1) hr' (by omega) ?_
      rw [pk_div (by omega) (by omega) (by omega)]
      refine m_burnt hr' hA' hC hc (by omega) (by omega) false (by decide) ?_
      intro k t1 t2 t3
      refine t_X11_meet_26 ?_
      rw [t2]
      have e : fMeet C (nI c) = nI (cTh C c (cS C c / 2) false) := by simp only [fMeet, hx]
      rw [e] at kk
      exact kk
