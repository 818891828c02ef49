/-! ===== THE CELLAR: n candles, pieces, minutes, wax, draught ===== -/
abbrev CE : Type := Nat × (Nat → Nat) × (Nat → Nat → Nat) × (Nat → Nat) × (Nat → Nat)
def cOK (C : CE) : Prop := C.1 ≤ 8 ∧ ∀ c, c < C.1 → (1 ≤ C.2.1 c ∧ C.2.1 c ≤ 6) ∧ (∀ k, k < C.2.1 c → 1 ≤ C.2.2.1 c k ∧ C.2.2.1 c k ≤ 60) ∧ (1 ≤ C.2.2.2.1 c ∧ C.2.2.2.1 c ≤ 999) ∧ C.2.2.2.2 c ≤ 50
/-- in the class, at the object a -/
def cAt (C : CE) (h : MH) (a : Nat) : Prop := h.1 a 0 = nI C.1 ∧ ∀ c, c < C.1 → h.1 (a + 1) c = nI (C.2.1 c) ∧ (∀ k, k < C.2.1 c → h.1 (a + 2) (6 * c + k) = nI (C.2.2.1 c k)) ∧ h.1 (a + 3) c = nI (C.2.2.2.1 c) ∧ h.1 (a + 4) c = nI (C.2.2.2.2 c)
/-- in the reference, in the row f from o on -/
def cIn (C : CE) (f : Nat → Int32) (o : Nat) : Prop := f o = nI C.1 ∧ f (o + 73) = nI C.1 ∧ ∀ c, c < C.1 → f (o + 1 + c) = nI (C.2.1 c) ∧ (∀ k, k < C.2.1 c → f (o + 9 + 6 * c + k) = nI (C.2.2.1 c k)) ∧ f (o + 57 + c) = nI (C.2.2.2.1 c) ∧ f (o + 65 + c) = nI (C.2.2.2.2 c)
def zsum (f : Nat → Nat) : Nat → Nat
  | 0 => 0
  | n + 1 => zsum f n + f n
theorem zsum_le {f : Nat → Nat} {b : Nat} : ∀ {n : Nat}, (∀ k, k < n → f k ≤ b) → zsum f n ≤ n * b
  | 0, _ => by simp [zsum]
  | n + 1, h => by
    have h1 := zsum_le (n := n) (fun k hk => h k (by omega))
    have h2 := h n (by omega)
    show zsum f n + f n ≤ (n + 1) * b
    rw [Nat.add_mul]
    omega
theorem zsum_congr {f g : Nat → Nat} : ∀ {n : Nat}, (∀ k, k < n → f k = g k) → zsum f n = zsum g n
  | 0, _ => rfl
  | n + 1, h => by
    show zsum f n + f n = zsum g n + g n
    rw [zsum_congr (fun k hk => h k (by omega)), h n (by omega)]
theorem zsum_mono {f : Nat → Nat} {m n : Nat} (h : m ≤ n) : zsum f m ≤ zsum f n := by
  induction n with
  | zero => rw [show m = 0 by omega]; exact Nat.le_refl _
  | succ n ih =>
    by_cases e : m = n + 1
    · rw [e]; exact Nat.le_refl _
    · have := ih (by omega)
      show zsum f m ≤ zsum f n + f n
      omega
/-- minutes of piece k, 0 beyond -/
def cM (C : CE) (c k : Nat) : Nat := if k < C.2.1 c then C.2.2.1 c k else 0
/-- minutes of the pieces before k -/
def cB (C : CE) (c k : Nat) : Nat := zsum (cM C c) k
/-- sparks of a candle -/
def cS (C : CE) (c : Nat) : Nat := 256 * cB C c (C.2.1 c)
theorem cM_le {C : CE} (hC : cOK C) {c : Nat} (hc : c < C.1) (k : Nat) : cM C c k ≤ 60 := by
  unfold cM
  split
  · rename_i q
    exact ((hC.2 c hc).2.1 k q).2
  · omega
theorem cB_le {C : CE} (hC : cOK C) {c : Nat} (hc : c < C.1) (k : Nat) : cB C c k ≤ k * 60 := zsum_le (fun k _ => cM_le hC hc k)
theorem cB_end {C : CE} {c : Nat} : ∀ {k : Nat}, C.2.1 c ≤ k → cB C c k = cB C c (C.2.1 c) := by
  intro k hk
  induction k with
  | zero => rw [show C.2.1 c = 0 by omega]
  | succ k ih =>
    by_cases e : C.2.1 c = k + 1
    · rw [e]
    · have h1 := ih (by omega)
      show zsum (cM C c) k + cM C c k = _
      have h2 : cM C c k = 0 := if_neg (by omega)
      rw [h2]
      exact h1
theorem cS_6 {C : CE} (hC : cOK C) {c : Nat} (hc : c < C.1) : cS C c = 256 * cB C c 6 := by
  unfold cS
  rw [cB_end (hC.2 c hc).1.2]
theorem cS_le {C : CE} (hC : cOK C) {c : Nat} (hc : c < C.1) : cS C c ≤ 92160 := by
  have := cB_le hC hc 6
  rw [cS_6 hC hc]
  omega
theorem cB_pos {C : CE} (hC : cOK C) {c : Nat} (hc : c < C.1) : 1 ≤ cB C c (C.2.1 c) := by
  have h1 := (hC.2 c hc).1.1
  have h2 : cB C c 1 ≤ cB C c (C.2.1 c) := zsum_mono h1
  have h3 : cB C c 1 = cM C c 0 := by show zsum _ 0 + _ = _; simp [zsum]
  have h4 : cM C c 0 = C.2.2.1 c 0 := if_pos (by omega)
  have h5 := ((hC.2 c hc).2.1 0 (by omega)).1
  omega
theorem cS_pos {C : CE} (hC : cOK C) {c : Nat} (hc : c < C.1) : 256 ≤ cS C c := by
  have := cB_pos hC hc
  unfold cS
  omega

theorem c_has {C : CE} {h : MH} {a d : Nat} {Q : Option MV → MH → Prop} (hA : cAt C h a) (ho : zokO h a 2) (hC : cOK C) {x : Int32} (k0 : ¬ (∃ c, c < C.1 ∧ x = nI c) → Q (some (.inl (nI 0))) h) (k1 : ∀ c, c < C.1 → x = nI c → Q (some (.inl (nI 1))) h) : Con mX2_has d 0 0 [.inr (.inr a), .inl x] h Q := by
  have h8 := hC.1
  refine t_X2_has (fun _ => ho) ?_ ?_ ?_
  · intro p
    refine k0 ?_
    rintro ⟨c, hc, rfl⟩
    exact nI_pos (by omega) p
  · intro p q
    refine k0 ?_
    rintro ⟨c, hc, rfl⟩
    rw [hA.1, nI_leI (by omega) (by omega)] at q
    omega
  · intro p q
    obtain ⟨j, hj, rfl⟩ := nI_of p
    rw [hA.1, nI_leI (by omega) hj] at q
    exact k1 j (by omega) rfl
theorem c_sop {C : CE} {h : MH} {a d : Nat} {Q : Option MV → MH → Prop} (hr : zRf h) (hA : cAt C h a) (ho : zokO h a 2) (hC : cOK C) {c k : Nat} (hc : c < C.1) (hk : k < 2 ^ 31) (hd : 1 ≤ d) (kk : Q (some (.inl (nI (256 * cM C c k)))) h) : Con mX2_sparksOfPiece d 0 0 [.inr (.inr a), .inl (nI c), .inl (nI k)] h Q := by
  have h8 := hC.1
  have hp := (hC.2 c hc).1
  have ec : (nI c).toNatClampNeg = c := nI_clamp (by omega)
  have e1 := (hA.2 c hc).1
  refine t_X2_sparksOfPiece hr hd ho ?_ ?_ ?_ ?_ ?_ ?_ ?_
  · intro _ _ _
    exact vp_in_nI (by omega) (by omega)
  · intro _ _ _ q
    rw [ec, e1, nI_ltI hk (by omega)] at q
    rw [pk_mul, nI_add]
    exact vp_in_nI (by omega) (by omega)
  · intro p
    exact absurd p (nI_pos (by omega))
  · intro _ q
    rw [hA.1, nI_leI (by omega) (by omega)] at q
    omega
  · intro _ _ p
    exact absurd p (nI_pos hk)
  · intro _ _ _ q
    rw [ec, e1, nI_ltI hk (by omega)] at q
    rw [pk_mul, nI_add, nI_clamp (by omega), show c * 6 + k = 6 * c + k by omega, (hA.2 c hc).2.1 k q, pk_mul]
    have e2 : cM C c k = C.2.2.1 c k := if_pos q
    rw [e2, Nat.mul_comm] at kk
    exact kk
  · intro _ _ _ q
    rw [ec, e1, nI_ltI hk (by omega)] at q
    have e2 : cM C c k = 0 := if_neg q
    rw [e2] at kk
    exact kk
theorem c_sbe {C : CE} {h : MH} {a d : Nat} {Q : Option MV → MH → Prop} (hr : zRf h) (hA : cAt C h a) (ho : zokO h a 2) (hC : cOK C) {c k : Nat} (hc : c < C.1) (hk : k ≤ 6) (hd : 2 ≤ d) (kk : Q (some (.inl (nI (256 * cB C c k)))) h) : Con mX2_sparksBefore d 0 0 [.inr (.inr a), .inl (nI c), .inl (nI k)] h Q := by
  refine t_X2_sparksBefore ?_
  have L : ∀ n i, i + n = k → J mX2_sparksBefore d 0 0 Q 0 0 5 [some (.inr (.inr a)), some (.inl (nI c)), some (.inl (nI k)), some (.inl (nI (256 * cB C c i))), some (.inl (nI i))] [] h := by
    intro n
    induction n with
    | zero =>
      intro i hi
      have : i = k := by omega
      subst this
      refine t_X2_sparksBefore_5 (d1' := 1) (by omega) (fun _ _ => ho) (fun _ => kk) (fun p => absurd (nI_le (Nat.le_refl _) (by omega)) p) (fun p => absurd (nI_le (Nat.le_refl _) (by omega)) p)
    | succ n ih =>
      intro i hi
      refine t_X2_sparksBefore_5 (d1' := 1) (by omega) (fun _ _ => ho) (fun p => ?_) (fun p q => ?_) (fun p q => ?_)
      · rw [nI_leI (by omega) (by omega)] at p
        omega
      · rw [nI_leI (by omega) (by omega)] at q
        omega
      · refine c_sop hr hA ho hC hc (by omega) (by omega) ?_
        refine t_X2_sparksBefore_26 ?_
        have := ih (i + 1) (by omega)
        rw [nI_add, nI_add, show 256 * cB C c i + 256 * cM C c i = 256 * cB C c (i + 1) by show _ = 256 * (cB C c i + cM C c i); omega]
        exact this
  have := L k 0 (by omega)
  exact this
theorem c_sof {C : CE} {h : MH} {a d : Nat} {Q : Option MV → MH → Prop} (hr : zRf h) (hA : cAt C h a) (ho : zokO h a 2) (hC : cOK C) {c : Nat} (hc : c < C.1) (hd : 3 ≤ d) (kk : Q (some (.inl (nI (cS C c)))) h) : Con mX2_sparksOf d 0 0 [.inr (.inr a), .inl (nI c)] h Q := by
  refine t_X2_sparksOf (d1' := 2) (by omega) ho ?_
  refine c_sbe hr hA ho hC hc (by omega) (by omega) ?_
  rw [← cS_6 hC hc]
  exact t_X2_sparksOf_7 kk
