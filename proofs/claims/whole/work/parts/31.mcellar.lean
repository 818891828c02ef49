
theorem w64 (x : Int32) : x.toInt64.toInt = x.toInt := by simp
theorem wlN {n : Nat} (h : n < 2 ^ 31) : (lN n).toInt = (n : Int) := lN_toInt h
theorem wle {x y : Int64} : x ≤ y ↔ x.toInt ≤ y.toInt := Int64.le_iff_toInt_le
/-- a number among the first n -/
theorem w_in {x : Int32} {n : Nat} (hn : n < 2 ^ 30) : (lN 0 ≤ x.toInt64 ∧ x.toInt64 ≤ (nI n - nI 1).toInt64) ↔ ∃ c, c < n ∧ x = nI c := by
  rw [wle, wle, w64, w64, wlN (by omega), pk_sub_toInt (by omega) (by omega)]
  constructor
  · intro ⟨h1, h2⟩
    have h3 : ¬ x < 0 := by rw [Int32.lt_iff_toInt_lt]; simpa using h1
    obtain ⟨j, hj, rfl⟩ := nI_of h3
    rw [nI_toInt hj] at h2
    exact ⟨j, by omega, rfl⟩
  · rintro ⟨c, hc, rfl⟩
    rw [nI_toInt (by omega)]
    omega
theorem m_rest {C : CE} {h : MH} {d : Nat} {Q : Option MV → MH → Prop} (hr : zRf h) (hA : cIn C (h.1 112) 0) (hC : cOK C) {c : Nat} (hc : c < C.1) (hd : 1 ≤ d) (kk : Q (some (.inl (nI (cS C c)))) h) : Con mX11_restOf d 0 0 [.inr (.inr 111), .inl (nI c)] h Q := by
  have h8 := hC.1
  have hp := (hC.2 c hc).1
  have e1 : h.1 112 ((nI 1) + nI c).toNatClampNeg = nI (C.2.1 c) := by
    rw [nI_add, nI_clamp (by omega)]
    have := (hA.2.2 c hc).1
    rw [show 0 + 1 + c = 1 + c by omega] at this
    exact this
  refine t_X11_restOf ?_
  have L : ∀ n i, i + n = C.2.1 c → J mX11_restOf d 0 0 Q 0 0 4 [some (.inr (.inr 111)), some (.inl (nI c)), some (.inl (nI (cB C c i))), some (.inl (nI i))] [] h := by
    intro n
    induction n with
    | zero =>
      intro i hi
      have : i = C.2.1 c := by omega
      subst this
      refine t_X11_restOf_4 hr hd ?_ ?_ ?_ ?_
      · rw [nI_add]; exact vp_in_nI (by omega) (by omega)
      · intro p
        rw [e1] at p
        exact absurd (nI_le (Nat.le_refl _) (by omega)) p
      · intro _
        rw [pk_mul]
        exact kk
      · intro p
        rw [e1] at p
        exact absurd (nI_le (Nat.le_refl _) (by omega)) p
    | succ n ih =>
      intro i hi
      have e2 : h.1 112 (((nI 9) + ((nI 6) * nI c)) + nI i).toNatClampNeg = nI (cM C c i) := by
        rw [pk_mul, nI_add, nI_add, nI_clamp (by omega)]
        have := (hA.2.2 c hc).2.1 i (by omega)
        rw [show 0 + 9 + 6 * c + i = 9 + 6 * c + i by omega] at this
        have e3 : cM C c i = C.2.2.1 c i := if_pos (by omega)
        rw [this, e3]
      refine t_X11_restOf_4 hr hd ?_ ?_ ?_ ?_
      · rw [nI_add]; exact vp_in_nI (by omega) (by omega)
      · intro _
        rw [pk_mul, nI_add, nI_add]
        exact vp_in_nI (by omega) (by omega)
      · intro p
        rw [e1, nI_leI (by omega) (by omega)] at p
        omega
      · intro _
        rw [e2, nI_add, nI_add]
        exact ih (i + 1) (by omega)
  exact L (C.2.1 c) 0 (by omega)
