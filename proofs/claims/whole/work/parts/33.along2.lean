theorem cnx_some {C : CE} {c : Nat} {e : Bool} {s k : Nat} : ∀ {n i : Nat}, 256 * cBo C c e i ≤ s → cnx C c e s n i = some k → ∃ j, i ≤ j ∧ j < i + n ∧ k = cO C c e j ∧ 256 * cBo C c e j ≤ s ∧ s < 256 * cBo C c e (j + 1)
  | 0, _, _, h => by cases h
  | n + 1, i, hl, h => by
    unfold cnx at h
    split at h
    · rename_i q
      cases h
      exact ⟨i, by omega, by omega, rfl, hl, q⟩
    · rename_i q
      obtain ⟨j, h1, h2, h3⟩ := cnx_some (by omega) h
      exact ⟨j, by omega, by omega, h3⟩
theorem cnx_none {C : CE} {c : Nat} {e : Bool} {s : Nat} : ∀ {n i : Nat}, 256 * cBo C c e i ≤ s → cnx C c e s n i = none → 256 * cBo C c e (i + n) ≤ s
  | 0, _, hl, _ => hl
  | n + 1, i, hl, h => by
    unfold cnx at h
    split at h
    · cases h
    · rename_i q
      have := cnx_none (by omega) h
      rw [show i + (n + 1) = i + 1 + n by omega]
      exact this
/-- of the length: in shares of piece k, what is burnt when s sparks burnt -/
def cDen (C : CE) (c k : Nat) : Nat := C.2.1 c * (256 * cM C c k)
def cNum (C : CE) (c s k : Nat) : Nat := k * (256 * cM C c k) + (s - 256 * cB C c k)
def cTh (C : CE) (c s : Nat) (left : Bool) : Nat := match cnx C c false s (C.2.1 c) 0 with
  | none => if left then 0 else 1000
  | some k => (if left then cDen C c k - cNum C c s k else cNum C c s k) * 1000 / cDen C c k
theorem cTh_facts {C : CE} (hC : cOK C) {c : Nat} (hc : c < C.1) {s k : Nat} (hx : cnx C c false s (C.2.1 c) 0 = some k) : k < C.2.1 c ∧ 256 * cB C c k ≤ s ∧ s < 256 * cB C c (k + 1) ∧ 256 ≤ 256 * cM C c k ∧ 256 * cM C c k ≤ 15360 ∧ cNum C c s k ≤ cDen C c k ∧ 256 ≤ cDen C c k ∧ cDen C c k ≤ 92160 := by
  obtain ⟨j, h1, h2, h3, h4, h5⟩ := cnx_some (by show 256 * 0 ≤ s; omega) hx
  have ek : k = j := h3
  subst ek
  rw [cBo_f] at h4 h5
  have hk : k < C.2.1 c := by omega
  have em : cM C c k = C.2.2.1 c k := if_pos hk
  have hm := (hC.2 c hc).2.1 k hk
  have hp := (hC.2 c hc).1
  have hB : cB C c (k + 1) = cB C c k + cM C c k := rfl
  refine ⟨hk, h4, h5, by omega, by omega, ?_, ?_, ?_⟩
  · unfold cNum cDen
    have : k * (256 * cM C c k) + 256 * cM C c k ≤ C.2.1 c * (256 * cM C c k) := by
      rw [← Nat.succ_mul]
      exact Nat.mul_le_mul_right _ hk
    omega
  · unfold cDen
    calc 256 ≤ 256 * cM C c k := by omega
      _ = 1 * (256 * cM C c k) := (Nat.one_mul _).symm
      _ ≤ _ := Nat.mul_le_mul_right _ hp.1
  · unfold cDen
    calc C.2.1 c * (256 * cM C c k) ≤ 6 * (256 * cM C c k) := Nat.mul_le_mul_right _ hp.2
      _ ≤ 92160 := by omega
theorem cTh_le {C : CE} (hC : cOK C) {c : Nat} (hc : c < C.1) (s : Nat) (left : Bool) : cTh C c s left ≤ 1000 := by
  unfold cTh
  split
  · split <;> omega
  · rename_i k hx
    obtain ⟨-, -, -, -, -, h1, h2, -⟩ := cTh_facts hC hc hx
    apply Nat.div_le_of_le_mul
    refine Nat.mul_le_mul_right _ ?_
    split <;> omega
theorem c_thou {C : CE} {h : MH} {a d s : Nat} {x : Int32} {Q : Option MV → MH → Prop} (hr : zRf h) (hA : cAt C h a) (ho : zokO h a 2) (hC : cOK C) {c : Nat} (hc : c < C.1) (hs : s ≤ 92160) (hd : 3 ≤ d) (left : Bool) (he : x = 0 ↔ left = false) (kk : Q (some (.inl (nI (cTh C c s left)))) h) : Con mX2_thousandths d 0 0 [.inr (.inr a), .inl (nI c), .inl (nI s), .inl x] h Q := by
  have h8 := hC.1
  have hp := (hC.2 c hc).1
  have ec : (nI c).toNatClampNeg = c := nI_clamp (by omega)
  have e1 : h.1 (a + 1) (nI c).toNatClampNeg = nI (C.2.1 c) := by rw [ec]; exact (hA.2 c hc).1
  have fin0 : cTh C c s left = (if left then 0 else 1000) → (x = 0 → Q (some (.inl (nI 1000))) h) ∧ (¬ x = 0 → Q (some (.inl (nI 0))) h) := by
    intro e
    rw [e] at kk
    constructor
    · intro q; rw [he.mp q] at kk; exact kk
    · intro q
      have : left = true := by cases left with | true => rfl | false => exact absurd (he.mpr rfl) q
      rw [this] at kk; exact kk
  refine t_X2_thousandths (d1' := 2) (by omega) ho ?_
  refine c_next hr hA ho hC hc (by omega) (by omega) false (by decide) ?_
  cases hx : cnx C c false s (C.2.1 c) 0 with
  | none =>
    have hf := fin0 (by unfold cTh; rw [hx])
    show J _ _ _ _ _ _ _ 7 _ [.inl (-(nI 1))] h
    exact t_X2_thousandths_7 (d1' := 1) hr (by omega) (fun q => absurd rfl q) (fun q => absurd rfl q) (fun q => absurd rfl q) (fun _ q => hf.1 q) (fun _ q => hf.2 q)
  | some k =>
    obtain ⟨hk, h4, h5, g1, g2, g3, g4, g5⟩ := cTh_facts hC hc hx
    have hne : ¬ nI k = -(nI 1) := by
      intro q
      have := congrArg Int32.toInt q
      rw [nI_toInt (by omega), sb_negT (by omega)] at this
      omega
    have eT : cTh C c s left = (if left then cDen C c k - cNum C c s k else cNum C c s k) * 1000 / cDen C c k := by unfold cTh; rw [hx]
    rw [eT] at kk
    show J _ _ _ _ _ _ _ 7 _ [.inl (nI k)] h
    refine t_X2_thousandths_7 (d1' := 1) hr (by omega) (fun _ => ho) (fun _ => vp_in_nI (by omega) (by omega)) (fun _ => ?_) (fun q => absurd q hne) (fun q => absurd q hne)
    refine c_sop hr hA ho hC hc (by omega) (by omega) ?_
    rw [e1]
    have hpos : (0 : Int32) < nI (C.2.1 c) * nI (256 * cM C c k) := by
      rw [pk_mul]
      exact nI_lt (a := 0) (by show 0 < cDen C c k; omega) (by show cDen C c k < _; omega)
    refine t_X2_thousandths_32 (d1' := 1) (by omega) (fun _ => ho) (fun _ => ?_) (fun q => absurd hpos q) (fun q => absurd hpos q)
    refine c_sop hr hA ho hC hc (by omega) (by omega) ?_
    refine t_X2_thousandths_61 (d1' := 2) (by omega) ho ?_
    refine c_sbe hr hA ho hC hc (by omega) (by omega) ?_
    have eN : nI k * nI (256 * cM C c k) + nI s - nI (256 * cB C c k) = nI (cNum C c s k) := by
      rw [pk_mul, nI_add, pk_sub (by omega)]
      unfold cNum
      congr 1
      omega
    have eD : nI (C.2.1 c) * nI (256 * cM C c k) = nI (cDen C c k) := by rw [pk_mul]; rfl
    show J _ _ _ _ _ _ _ 71 _ _ h
    refine t_X2_thousandths_71 ?_ ?_ ?_ ?_
    · intro _; rw [eD]; exact nI_ne0 (by omega) (by omega)
    · intro _; rw [eD]; exact nI_ne0 (by omega) (by omega)
    · intro q
      rw [eN, eD, pk_mul, pk_div (by omega) (by omega) (by omega)]
      rw [he.mp q] at kk
      exact kk
    · intro q
      have : left = true := by cases left with | true => rfl | false => exact absurd (he.mpr rfl) q
      rw [this] at kk
      rw [eN, eD, pk_sub (by omega), pk_mul, pk_div (by omega) (by omega) (by omega)]
      exact kk
