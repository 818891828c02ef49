/-! ===== along a candle: which piece is next, thousandths ===== -/
def cO (C : CE) (c : Nat) (e : Bool) (j : Nat) : Nat := if e then C.2.1 c - 1 - j else j
def cBo (C : CE) (c : Nat) (e : Bool) (i : Nat) : Nat := zsum (fun j => cM C c (cO C c e j)) i
def cnx (C : CE) (c : Nat) (e : Bool) (s : Nat) : Nat → Nat → Option Nat
  | 0, _ => none
  | m + 1, i => if s < 256 * cBo C c e (i + 1) then some (cO C c e i) else cnx C c e s m (i + 1)
def rO (o : Option Nat) : Int32 := match o with
  | none => -(nI 1)
  | some k => nI k
theorem cBo_f (C : CE) (c i : Nat) : cBo C c false i = cB C c i := zsum_congr (fun _ _ => rfl)
theorem cBo_s (C : CE) (c : Nat) (e : Bool) (i : Nat) : cBo C c e (i + 1) = cBo C c e i + cM C c (cO C c e i) := rfl
theorem cBo_le {C : CE} (hC : cOK C) {c : Nat} (hc : c < C.1) (e : Bool) (i : Nat) : cBo C c e i ≤ i * 60 := zsum_le (fun _ _ => cM_le hC hc _)
theorem c_next {C : CE} {h : MH} {a d s : Nat} {x : Int32} {Q : Option MV → MH → Prop} (hr : zRf h) (hA : cAt C h a) (ho : zokO h a 2) (hC : cOK C) {c : Nat} (hc : c < C.1) (hs : s < 2 ^ 30) (hd : 2 ≤ d) (e : Bool) (he : x = 0 ↔ e = false) (kk : Q (some (.inl (rO (cnx C c e s (C.2.1 c) 0)))) h) : Con mX2_nextPiece d 0 0 [.inr (.inr a), .inl (nI c), .inl (nI s), .inl x] h Q := by
  have h8 := hC.1
  have hp := (hC.2 c hc).1
  have ec : (nI c).toNatClampNeg = c := nI_clamp (by omega)
  have e1 : h.1 (a + 1) (nI c).toNatClampNeg = nI (C.2.1 c) := by rw [ec]; exact (hA.2 c hc).1
  refine t_X2_nextPiece (by omega) ho (fun p => absurd p (nI_pos (by omega))) (fun _ q => ?_) (fun _ _ => ?_)
  · rw [hA.1, nI_leI (by omega) (by omega)] at q
    omega
  have L : ∀ n i, i + n = C.2.1 c → 256 * cBo C c e i ≤ s → cnx C c e s n i = cnx C c e s (C.2.1 c) 0 → ∀ u, J mX2_nextPiece d 0 0 Q 0 0 16 [some (.inr (.inr a)), some (.inl (nI c)), some (.inl (nI s)), some (.inl x), some (.inl (nI (s - 256 * cBo C c e i))), some (.inl (nI i)), u] [] h := by
    intro n
    induction n with
    | zero =>
      intro i hi hle hx u
      refine t_X2_nextPiece_16 (d1' := 1) (d2' := 1) hr (by omega) (by omega) ho (vp_in_nI (by omega) (by omega)) ?_ ?_ ?_
      · intro _
        rw [← hx] at kk
        exact kk
      · intro p
        rw [e1, nI_leI (by omega) (by omega)] at p
        omega
      · intro p
        rw [e1, nI_leI (by omega) (by omega)] at p
        omega
    | succ n ih =>
      intro i hi hle hx u
      have key : ∀ u6 : Int32, u6 = nI (cO C c e i) → J mX2_nextPiece d 0 0 Q 0 0 58 [some (.inr (.inr a)), some (.inl (nI c)), some (.inl (nI s)), some (.inl x), some (.inl (nI (s - 256 * cBo C c e i))), some (.inl (nI i)), some (.inl u6)] [.inl (nI (256 * cM C c (cO C c e i))), .inl (nI (s - 256 * cBo C c e i))] h := by
        intro u6 hu
        subst hu
        have hm := cM_le hC hc (cO C c e i)
        have hstep := cBo_s C c e i
        have hkk : cO C c e i < 2 ^ 31 := by unfold cO; split <;> omega
        refine t_X2_nextPiece_58 (d1' := 1) (by omega) (fun _ => ho) ?_ ?_
        · intro p
          rw [nI_leI (by omega) (by omega)] at p
          refine c_sop hr hA ho hC hc hkk (by omega) ?_
          refine t_X2_nextPiece_73 ?_
          rw [pk_sub p, nI_add, show s - 256 * cBo C c e i - 256 * cM C c (cO C c e i) = s - 256 * cBo C c e (i + 1) by omega]
          refine ih (i + 1) (by omega) (by omega) ?_ _
          rw [← hx]
          exact (if_neg (by omega)).symm
        · intro p
          rw [nI_leI (by omega) (by omega)] at p
          rw [← hx] at kk
          have e9 : cnx C c e s (n + 1) i = some (cO C c e i) := if_pos (by omega)
          rw [e9] at kk
          exact kk
      refine t_X2_nextPiece_16 (d1' := 1) (d2' := 1) hr (by omega) (by omega) ho (vp_in_nI (by omega) (by omega)) ?_ ?_ ?_
      · intro p
        rw [e1, nI_leI (by omega) (by omega)] at p
        omega
      · intro _ q
        have ee := he.mp q
        have eo : cO C c e i = i := by rw [ee]; rfl
        refine c_sop hr hA ho hC hc (by omega) (by omega) ?_
        have := key (nI i) (by rw [eo])
        rw [eo] at this
        exact this
      · intro _ q
        have ee : e = true := by
          cases e with
          | true => rfl
          | false => exact absurd (he.mpr rfl) q
        have eo : cO C c e i = C.2.1 c - 1 - i := by rw [ee]; rfl
        have e5 : h.1 (a + 1) (nI c).toNatClampNeg - nI 1 - nI i = nI (cO C c e i) := by
          rw [e1, pk_sub (by omega), pk_sub (by omega), eo]
        rw [e5]
        refine c_sop hr hA ho hC hc (by rw [eo]; omega) (by omega) ?_
        exact key _ rfl
  have := L (C.2.1 c) 0 (by omega) (by show 256 * 0 ≤ s; omega) rfl none
  exact this
