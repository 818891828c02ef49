/-! ===== the reference's burntOf ===== -/
theorem ceil_id {num den : Nat} (h : num ≤ den) (h0 : 0 < den) : 1000 - (1000 * num + (den - 1)) / den = (den - num) * 1000 / den := by
  have e : (1000 * num + (den - 1)) / den = 1000 - (den - num) * 1000 / den := by
    generalize hq : (den - num) * 1000 / den = q
    have h1 := Nat.div_add_mod ((den - num) * 1000) den
    have h2 := Nat.mod_lt ((den - num) * 1000) h0
    rw [hq] at h1
    generalize (den - num) * 1000 % den = r at h1 h2
    have hq1 : q ≤ 1000 := by
      rw [← hq]
      apply Nat.div_le_of_le_mul
      exact Nat.mul_le_mul_right _ (by omega)
    obtain ⟨w, hw⟩ : ∃ w, q + w = 1000 := ⟨1000 - q, by omega⟩
    have h3 : den * 1000 = den * q + den * w := by rw [← Nat.mul_add, hw]
    have h4 : 1000 * num + (den - 1) = (den - 1 - r) + w * den := by
      have h5 : (den - num) * 1000 = den * 1000 - num * 1000 := Nat.sub_mul _ _ _
      rw [Nat.mul_comm w den]
      have h6 : num * 1000 ≤ den * 1000 := Nat.mul_le_mul_right _ h
      omega
    rw [h4, Nat.add_mul_div_right _ _ h0, Nat.div_eq_of_lt (by omega)]
    omega
  rw [e]
  have : (den - num) * 1000 / den ≤ 1000 := by
    apply Nat.div_le_of_le_mul
    exact Nat.mul_le_mul_right _ (by omega)
  generalize (den - num) * 1000 / den = q at this ⊢
  omega
/-- the answer of burntOf at piece k -/
def cBu (C : CE) (c s k : Nat) (up : Bool) : Nat := (1000 * cNum C c s k + (if up then cDen C c k - 1 else 0)) / cDen C c k
theorem cBu_th {C : CE} (hC : cOK C) {c : Nat} (hc : c < C.1) {s k : Nat} (hk : k < C.2.1 c) (hs : s ≤ cS C c) (h4 : 256 * cB C c k ≤ s) (h6 : s < 256 * cB C c (k + 1) ∨ k + 1 = C.2.1 c) (hb : ∀ j, j < k → 256 * cB C c (j + 1) ≤ s) : 1000 - cBu C c s k true = cTh C c s true ∧ cBu C c s k false = cTh C c s false ∧ cBu C c s k true ≤ 1000 ∧ cNum C c s k ≤ cDen C c k := by
  have em : cM C c k = C.2.2.1 c k := if_pos hk
  have hm := (hC.2 c hc).2.1 k hk
  have hp := (hC.2 c hc).1
  have hB : cB C c (k + 1) = cB C c k + cM C c k := rfl
  have hgo : ∀ n i, i + n = C.2.1 c → i ≤ k → 256 * cB C c i ≤ s → cnx C c false s n i = if s < 256 * cB C c (k + 1) then some k else none := by
    intro n
    induction n with
    | zero => intro i hi hik; omega
    | succ n ih =>
      intro i hi hik hle
      unfold cnx
      rw [cBo_f]
      by_cases e : i = k
      · subst e
        by_cases q : s < 256 * cB C c (i + 1)
        · rw [if_pos q, if_pos q]; rfl
        · rw [if_neg q, if_neg q]
          have hz : n = 0 := by omega
          subst hz
          rfl
      · rw [if_neg (by have := hb i (by omega); omega)]
        exact ih (i + 1) (by omega) (by omega) (hb i (by omega))
  have hx := hgo (C.2.1 c) 0 (by omega) (by omega) (by show 256 * 0 ≤ s; omega)
  have hden : 0 < cDen C c k := by
    unfold cDen
    exact Nat.mul_pos (by omega) (by omega)
  have hend : k + 1 = C.2.1 c → s ≤ 256 * cB C c (k + 1) := by
    intro q
    rw [q]
    exact hs
  have hle : cNum C c s k ≤ cDen C c k := by
    unfold cNum cDen
    have : k * (256 * cM C c k) + 256 * cM C c k ≤ C.2.1 c * (256 * cM C c k) := by
      rw [← Nat.succ_mul]
      exact Nat.mul_le_mul_right _ hk
    rcases h6 with q | q
    · omega
    · have := hend q
      omega
  have hu : cBu C c s k true ≤ 1000 := by
    have := ceil_id hle hden
    unfold cBu
    rw [if_pos rfl]
    apply Nat.le_of_lt_succ
    apply Nat.div_lt_of_lt_mul
    have : cDen C c k * (1000 + 1) = 1000 * cDen C c k + cDen C c k := by rw [Nat.mul_comm, Nat.succ_mul]
    have h9 : 1000 * cNum C c s k ≤ 1000 * cDen C c k := Nat.mul_le_mul_left _ hle
    show _ < cDen C c k * (1000 + 1)
    omega
  by_cases q : s < 256 * cB C c (k + 1)
  · rw [if_pos q] at hx
    refine ⟨?_, ?_, hu, hle⟩
    · unfold cTh cBu
      rw [hx, if_pos rfl]
      show _ = (if true = true then _ else _) * 1000 / _
      rw [if_pos rfl]
      exact ceil_id hle hden
    · unfold cTh cBu
      rw [hx, if_neg (by decide)]
      show _ = (if false = true then _ else _) * 1000 / _
      rw [if_neg (by decide), Nat.add_zero, Nat.mul_comm]
  · rw [if_neg q] at hx
    have q1 : k + 1 = C.2.1 c := by rcases h6 with z | z <;> omega
    have q2 := hend q1
    have q3 : s = 256 * cB C c (k + 1) := by omega
    have q4 : cNum C c s k = cDen C c k := by
      unfold cNum cDen
      rw [← q1, Nat.add_mul, Nat.one_mul]
      omega
    refine ⟨?_, ?_, hu, hle⟩
    · have := ceil_id hle hden
      unfold cTh cBu
      rw [hx, if_pos rfl, this, q4]
      simp
    · unfold cTh cBu
      rw [hx, if_neg (by decide), q4, Nat.add_zero, Nat.mul_div_cancel _ hden]
      rfl
theorem m_burnt {C : CE} {h : MH} {d s : Nat} {x : Int32} {Q : Option MV → MH → Prop} (hr : zRf h) (hA : cIn C (h.1 112) 0) (hC : cOK C) {c : Nat} (hc : c < C.1) (hs : s ≤ cS C c) (hd : 1 ≤ d) (up : Bool) (he : x = 0 ↔ up = false)
    (kk : ∀ k, 1000 - cBu C c s k true = cTh C c s true → cBu C c s k false = cTh C c s false → cBu C c s k true ≤ 1000 → Q (some (.inl (nI (cBu C c s k up)))) h) : Con mX11_burntOf d 0 0 [.inr (.inr 111), .inl (nI c), .inl (nI s), .inl x] h Q := by
  have h8 := hC.1
  have hp := (hC.2 c hc).1
  have hS := cS_le hC hc
  have e1 : h.1 112 ((nI 1) + nI c).toNatClampNeg = nI (C.2.1 c) := by
    rw [nI_add, nI_clamp (by omega)]
    have := (hA.2.2 c hc).1
    rw [show 0 + 1 + c = 1 + c by omega] at this
    exact this
  have g0 : vp_in ((nI 1) + nI c) 2166 := by rw [nI_add]; exact vp_in_nI (by omega) (by omega)
  refine t_X11_burntOf ?_
  have L : ∀ n i, i + n + 1 = C.2.1 c → 256 * cB C c i ≤ s → (∀ j, j < i → 256 * cB C c (j + 1) ≤ s) → J mX11_burntOf d 0 0 Q 0 0 6 [some (.inr (.inr 111)), some (.inl (nI c)), some (.inl (nI s)), some (.inl x), some (.inl (nI (s - 256 * cB C c i))), some (.inl (nI i)), none, none, none, none, none, none] [] h := by
    intro n
    induction n with
    | zero =>
      intro i hi hle hb
      have hik : i < C.2.1 c := by omega
      have em : cM C c i = C.2.2.1 c i := if_pos hik
      have hm := (hC.2 c hc).2.1 i hik
      have e2 : h.1 112 (((nI 9) + ((nI 6) * nI c)) + nI i).toNatClampNeg = nI (cM C c i) := by
        rw [pk_mul, nI_add, nI_add, nI_clamp (by omega)]
        have := (hA.2.2 c hc).2.1 i hik
        rw [show 0 + 9 + 6 * c + i = 9 + 6 * c + i by omega] at this
        rw [this, em]
      have g1 : vp_in (((nI 9) + ((nI 6) * nI c)) + nI i) 2166 := by
        rw [pk_mul, nI_add, nI_add]
        exact vp_in_nI (by omega) (by omega)
      obtain ⟨t1, t2, t3, t4⟩ := cBu_th hC hc hik hs hle (Or.inr (by omega)) hb
      have hden : 0 < cDen C c i := Nat.mul_pos (by omega) (by omega)
      have hden2 : cDen C c i ≤ 92160 := by
        unfold cDen
        calc C.2.1 c * (256 * cM C c i) ≤ 6 * (256 * cM C c i) := Nat.mul_le_mul_right _ hp.2
          _ ≤ 92160 := by omega
      have eD : (nI (C.2.1 c)).toInt64 * (nI 256 * nI (cM C c i)).toInt64 = lN (cDen C c i) := by
        rw [pk_mul, nI_l (by omega), nI_l (by omega), lN_mul]
        rfl
      have eN : (1000 : Int64) * ((nI i).toInt64 * (nI 256 * nI (cM C c i)).toInt64 + (nI (s - 256 * cB C c i)).toInt64) = lN (1000 * cNum C c s i) := by
        rw [pk_mul, nI_l (by omega), nI_l (by omega), nI_l (by omega), lN_mul, lN_add, show (1000 : Int64) = lN 1000 from rfl, lN_mul]
        rfl
      have hne : ¬ lN (cDen C c i) = 0 := by
        intro q
        have := (pk_lEQ (a := cDen C c i) (b := 0) (by omega) (by omega)).mp q
        omega
      have hlast : (nI (C.2.1 c) - nI 1) ≤ nI i := by
        rw [pk_sub (by omega)]
        exact nI_le (by omega) (by omega)
      have fin : ∀ z : Int64, z = lN (if up then cDen C c i - 1 else 0) → Q (some (.inl (((lN (1000 * cNum C c s i) + z) / lN (cDen C c i)).toInt32))) h := by
        intro z hz
        rw [hz, lN_add, pk_lDiv (by have : (if up then cDen C c i - 1 else 0) ≤ 92160 := by split <;> omega
                                    omega) hden (by omega), lN_i]
        exact kk i t1 t2 t3
      refine t_X11_burntOf_6 hr hd g0 (fun _ => g1) ?_ ?_ ?_ ?_ ?_ ?_ ?_ ?_ ?_ ?_
      · intro _ _; rw [e1, e2, eD]; exact hne
      · intro _ _; rw [e1, e2, eD]; exact hne
      · intro q; rw [e1] at q; exact absurd hlast q
      · intro q; rw [e1] at q; exact absurd hlast q
      · intro q; rw [e1] at q; exact absurd hlast q
      · intro _ q
        rw [e1, e2, eD, eN]
        exact fin _ (by rw [he.mp q]; rfl)
      · intro _ q
        have : up = true := by cases up with | true => rfl | false => exact absurd (he.mpr rfl) q
        rw [e1, e2, eD, eN]
        refine fin _ ?_
        rw [this, lN_sub (by omega)]
        rfl
      · intro q; rw [e1] at q; exact absurd hlast q
      · intro q; rw [e1] at q; exact absurd hlast q
      · intro q; rw [e1] at q; exact absurd hlast q
    | succ n ih =>
      intro i hi hle hb
      have hik : i < C.2.1 c := by omega
      have em : cM C c i = C.2.2.1 c i := if_pos hik
      have hm := (hC.2 c hc).2.1 i hik
      have hB : cB C c (i + 1) = cB C c i + cM C c i := rfl
      have e2 : h.1 112 (((nI 9) + ((nI 6) * nI c)) + nI i).toNatClampNeg = nI (cM C c i) := by
        rw [pk_mul, nI_add, nI_add, nI_clamp (by omega)]
        have := (hA.2.2 c hc).2.1 i hik
        rw [show 0 + 9 + 6 * c + i = 9 + 6 * c + i by omega] at this
        rw [this, em]
      have g1 : vp_in (((nI 9) + ((nI 6) * nI c)) + nI i) 2166 := by
        rw [pk_mul, nI_add, nI_add]
        exact vp_in_nI (by omega) (by omega)
      have hden : 0 < cDen C c i := Nat.mul_pos (by omega) (by omega)
      have hden2 : cDen C c i ≤ 92160 := by
        unfold cDen
        calc C.2.1 c * (256 * cM C c i) ≤ 6 * (256 * cM C c i) := Nat.mul_le_mul_right _ hp.2
          _ ≤ 92160 := by omega
      have eD : (nI (C.2.1 c)).toInt64 * (nI 256 * nI (cM C c i)).toInt64 = lN (cDen C c i) := by
        rw [pk_mul, nI_l (by omega), nI_l (by omega), lN_mul]
        rfl
      have eN : (1000 : Int64) * ((nI i).toInt64 * (nI 256 * nI (cM C c i)).toInt64 + (nI (s - 256 * cB C c i)).toInt64) = lN (1000 * cNum C c s i) := by
        rw [pk_mul, nI_l (by omega), nI_l (by omega), nI_l (by omega), lN_mul, lN_add, show (1000 : Int64) = lN 1000 from rfl, lN_mul]
        rfl
      have hne : ¬ lN (cDen C c i) = 0 := by
        intro q
        have := (pk_lEQ (a := cDen C c i) (b := 0) (by omega) (by omega)).mp q
        omega
      have hnot : ¬ (nI (C.2.1 c) - nI 1) ≤ nI i := by
        rw [pk_sub (by omega), nI_leI (by omega) (by omega)]
        omega
      have elt : nI (s - 256 * cB C c i) < nI 256 * nI (cM C c i) ↔ s < 256 * cB C c (i + 1) := by
        rw [pk_mul, nI_ltI (by omega) (by omega)]
        omega
      have fin : ∀ z : Int64, s < 256 * cB C c (i + 1) → z = lN (if up then cDen C c i - 1 else 0) → Q (some (.inl (((lN (1000 * cNum C c s i) + z) / lN (cDen C c i)).toInt32))) h := by
        intro z hlt hz
        obtain ⟨t1, t2, t3, t4⟩ := cBu_th hC hc hik hs hle (Or.inl hlt) hb
        rw [hz, lN_add, pk_lDiv (by have : (if up then cDen C c i - 1 else 0) ≤ 92160 := by split <;> omega
                                    omega) hden (by omega), lN_i]
        exact kk i t1 t2 t3
      refine t_X11_burntOf_6 hr hd g0 ?_ ?_ ?_ (fun _ => g1) ?_ ?_ ?_ ?_ ?_ ?_ ?_
      · intro q; rw [e1] at q; exact absurd q hnot
      · intro q; rw [e1] at q; exact absurd q hnot
      · intro q; rw [e1] at q; exact absurd q hnot
      · intro _ _ _; rw [e1, e2, eD]; exact hne
      · intro _ _ _; rw [e1, e2, eD]; exact hne
      · intro q; rw [e1] at q; exact absurd q hnot
      · intro q; rw [e1] at q; exact absurd q hnot
      · intro _ q1 q
        rw [e2] at q1
        rw [e1, e2, eD, eN]
        exact fin _ (elt.mp q1) (by rw [he.mp q]; rfl)
      · intro _ q1 q
        have : up = true := by cases up with | true => rfl | false => exact absurd (he.mpr rfl) q
        rw [e2] at q1
        rw [e1, e2, eD, eN]
        refine fin _ (elt.mp q1) ?_
        rw [this, lN_sub (by omega)]
        rfl
      · intro _ q1
        rw [e2] at q1 ⊢
        have q2 : ¬ s < 256 * cB C c (i + 1) := fun z => q1 (elt.mpr z)
        rw [pk_mul, pk_sub (by omega), nI_add, show s - 256 * cB C c i - 256 * cM C c i = s - 256 * cB C c (i + 1) by omega]
        refine ih (i + 1) (by omega) (by omega) ?_
        intro j hj
        by_cases z : j = i
        · subst z; omega
        · exact hb j (by omega)
  exact L (C.2.1 c - 1) 0 (by omega) (by show 256 * 0 ≤ s; omega) (fun j hj => by omega)
