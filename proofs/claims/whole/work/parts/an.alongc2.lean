/-! ===== along, in the class: until the next thing; follow, go ===== -/
theorem ifm {x y : Nat} (hx : x < 2 ^ 31) (hy : y < 2 ^ 31) : (if nI x < nI y then nI x else nI y) = nI (if x < y then x else y) := by
  by_cases z : x < y
  · rw [if_pos z, if_pos ((nI_ltI hx hy).mpr z)]
  · rw [if_neg z, if_neg (fun q => z ((nI_ltI hx hy).mp q))]
theorem aS2_end {X : AX} (hX : aOK X) {G : Nat → Nat} {l : Nat} : aS2 X G l X.1 = aS2 X G l 2 := by
  have n2 := hX.1
  have s : ∀ k, X.1 ≤ k → aS2 X G l (k + 1) = aS2 X G l k := fun k hk => if_pos (aE_d (fun q => by have := (aLv_i.mp q).1; omega))
  have c : X.1 = 0 ∨ X.1 = 1 ∨ X.1 = 2 := by omega
  rcases c with c | c | c
  · rw [c, s 1 (by omega), s 0 (by omega)]
  · rw [c, s 1 (by omega)]
  · rw [c]
theorem aS1_b {X : AX} {i a b e : Nat} : aSp X i a b e ≤ aA X i := by
  have := (aS1_is X i a b e (X.2.1 i - 1)).1
  have e0 : aS1 X i a b e 0 = if e = 3 then (aA X i - a - b) / 2 else aA X i - a - b := rfl
  rw [e0] at this
  unfold aSp
  split at this <;> omega
theorem aS2_b {X : AX} (hX : aOK X) {G : Nat → Nat} {l k st : Nat} (h : aS2 X G l k = some st) : st ≤ 92160 := by
  obtain ⟨_, i, h1, h2, h3⟩ := aS2_p h
  have hi := (aLv_i.mp (aE_lv h2)).1
  have := (hX.2 i hi).2.2.1
  rw [h3]
  exact Nat.le_trans aS1_b this
theorem getD_b {X : AX} (hX : aOK X) {G : Nat → Nat} {l k : Nat} : (aS2 X G l k).getD 368656 ≤ 368656 := by
  cases h : aS2 X G l k with
  | none => exact Nat.le_refl _
  | some st => have := aS2_b hX h; show st ≤ _; omega
theorem getD_mn {s : Option Nat} {u : Nat} (hu : u < 368656) : (if u < s.getD 368656 then u else s.getD 368656) = aMn s u := by
  cases s with
  | none => exact if_pos hu
  | some v => rfl
section AC
variable {X : AX} {h : MH} {d : Nat} {Q : Option MV → MH → Prop}
theorem c_unx {lv l lit w now : Nat} {G : Nat → Nat} (hX : aOK X) (hI : aI X G lit now) (hw : w < 16) (hlw : l = lit ||| w) (hr : zRf h) (hA : aAt X h) (hl : lv < 13) (hR : aRw lv G h) (hG : ∀ q, G q ≤ 92160) (hd : 1 ≤ d) (kk : Q (some (.inl (nI ((aS2 X G l 2).getD 368656)))) h) : Con mX0_untilNext d 0 0 [.inr (.inr 77), .inl (nI lv), .inl (nI (aE X G l 0 + 4 * aE X G l 1))] h Q := by
  have n2 := hX.1
  have n0 := hA.1
  refine u_X0_untilNext ?_
  have L : ∀ m i, i + m = X.1 → ∀ u5 u6 u7, J mX0_untilNext d 0 0 Q 0 0 6 [some (.inr (.inr 77)), some (.inl (nI lv)), some (.inl (nI (aE X G l 0 + 4 * aE X G l 1))), some (.inl (nI ((aS2 X G l i).getD 368656))), some (.inl (nI i)), u5, u6, u7] [] h := by
    intro m
    induction m with
    | zero =>
      intro i hi u5 u6 u7
      refine u_X0_untilNext_6 (d1' := d - 1) (d2' := d - 1) hr hd (by omega) (by omega) ?_
      simp (disch := omega) only [xle_t, xle_f, xlt_t, xlt_f, xeq_t, xeq_f, xle0_t, xle0_f, xlt0_f, x0lt_t, x0lt_f, x0le_t, xeq0_t, xeq0_f, xin, xem_f, xme_f, xlem_f, xlm_f, xml_t, xmle_t, nI_clamp, nI_add, pk_mul, pk_sub, zI_s, zI_k, zI_o, zL_s, zL_k, zL_o, zR_s, zR_k, zR_o, zIL, zIR, zIN, zLI, zLR, zLN, zRI, zRL, zRN, true_and, and_true, not_true_eq_false, not_false_eq_true, true_implies, false_implies, implies_true, forall_const, if_true, if_false, eq_self, false_and, and_false, implies_true, nI_l, ylle_t, ylle_f, xcl_t, xcl_f, n0]
      rw [← aS2_end hX] at kk
      rw [show i = X.1 by omega]
      exact kk
    | succ m ih =>
      intro i hi u5 u6 u7
      have i2 : i < 2 := by omega
      have hiX : i < X.1 := by omega
      obtain ⟨e1, e2, e3⟩ := hA.2 i hiX
      have a9 := (hX.2 i hiX).2.2.1
      have r0 := hR (2 * i) (by omega)
      have r1 := hR (2 * i + 1) (by omega)
      have g0 := hG (2 * i)
      have g1 := hG (2 * i + 1)
      have gb := getD_b hX (G := G) (l := l) (k := i)
      have mh := aM_h (aE X G l 0) aE_lt (aE X G l 1) aE_lt i i2
      rw [show (if i = 0 then aE X G l 0 else aE X G l 1) = aE X G l i by
        rcases (show i = 0 ∨ i = 1 by omega) with rfl | rfl <;> rfl] at mh
      have nx := ih (i + 1) (by omega)
      have es : aS2 X G l (i + 1) = if aE X G l i = 0 then aS2 X G l i else some (aMn (aS2 X G l i) (aSp X i (G (2 * i)) (G (2 * i + 1)) (aE X G l i))) := rfl
      rw [es] at nx
      have elt := aE_lt (X := X) (G := G) (l := l) (i := i)
      have m1 := aM_1 _ elt
      have m2 := aM_2 _ elt
      by_cases z : aE X G l i = 0
      · rw [if_pos z] at nx
        rw [z] at m1 m2 mh
        refine u_X0_untilNext_6 (d1' := d - 1) (d2' := d - 1) hr hd (by omega) (by omega) ?_
        simp (disch := omega) only [xle_t, xle_f, xlt_t, xlt_f, xeq_t, xeq_f, xle0_t, xle0_f, xlt0_f, x0lt_t, x0lt_f, x0le_t, xeq0_t, xeq0_f, xin, xem_f, xme_f, xlem_f, xlm_f, xml_t, xmle_t, nI_clamp, nI_add, pk_mul, pk_sub, zI_s, zI_k, zI_o, zL_s, zL_k, zL_o, zR_s, zR_k, zR_o, zIL, zIR, zIN, zLI, zLR, zLN, zRI, zRL, zRN, true_and, and_true, not_true_eq_false, not_false_eq_true, true_implies, false_implies, implies_true, forall_const, if_true, if_false, eq_self, false_and, and_false, implies_true, nI_l, ylle_t, ylle_f, xcl_t, xcl_f, n0, e2, r0, r1, zok84 hr, mh, m1, m2]
        exact nx _ _ _
      · rw [if_neg z] at nx
        have z' := z
        rw [hlw] at z'
        obtain ⟨_, _, lv3, c4⟩ := aE_c hX hI hw z'
        rw [← hlw] at c4
        have sb := aS1_b (X := X) (i := i) (a := G (2 * i)) (b := G (2 * i + 1)) (e := aE X G l i)
        have nx' : ∀ u, u = aSp X i (G (2 * i)) (G (2 * i + 1)) (aE X G l i) → ∀ u5 u6 u7, J mX0_untilNext d 0 0 Q 0 0 6 [some (.inr (.inr 77)), some (.inl (nI lv)), some (.inl (nI (aE X G l 0 + 4 * aE X G l 1))), some (.inl (nI (if u < (aS2 X G l i).getD 368656 then u else (aS2 X G l i).getD 368656))), some (.inl (nI (i + 1))), u5, u6, u7] [] h := fun u hu => by
          rw [getD_mn (by omega), hu]
          exact nx
        refine u_X0_untilNext_6 (d1' := d - 1) (d2' := d - 1) hr hd (by omega) (by omega) ?_
        rcases c4 with ⟨c, b0⟩ | ⟨c, a0⟩ | c
        · rw [c] at m1 m2 mh nx'
          simp (disch := omega) only [xle_t, xle_f, xlt_t, xlt_f, xeq_t, xeq_f, xle0_t, xle0_f, xlt0_f, x0lt_t, x0lt_f, x0le_t, xeq0_t, xeq0_f, xin, xem_f, xme_f, xlem_f, xlm_f, xml_t, xmle_t, nI_clamp, nI_add, pk_mul, pk_sub, zI_s, zI_k, zI_o, zL_s, zL_k, zL_o, zR_s, zR_k, zR_o, zIL, zIR, zIN, zLI, zLR, zLN, zRI, zRL, zRN, true_and, and_true, not_true_eq_false, not_false_eq_true, true_implies, false_implies, implies_true, forall_const, if_true, if_false, eq_self, false_and, and_false, implies_true, nI_l, ylle_t, ylle_f, xcl_t, xcl_f, n0, e2, r0, r1, zok84 hr, mh, m1, m2]
          refine c_ued hX hiX (by omega) hr hA (fun u hu => ?_)
          have e : u = aSp X i (G (2 * i)) (G (2 * i + 1)) 1 := by rw [b0]; exact (as_1 hX hiX (by omega) hu).symm
          have ub : u ≤ 92160 := by rw [e]; exact Nat.le_trans aS1_b a9
          refine u_X0_untilNext_69 (d1' := d - 1) hr hd (by omega) ?_
          rw [ifm (by omega) (by omega)]
          simp (disch := omega) only [xle_t, xle_f, xlt_t, xlt_f, xeq_t, xeq_f, xle0_t, xle0_f, xlt0_f, x0lt_t, x0lt_f, x0le_t, xeq0_t, xeq0_f, xin, xem_f, xme_f, xlem_f, xlm_f, xml_t, xmle_t, nI_clamp, nI_add, pk_mul, pk_sub, zI_s, zI_k, zI_o, zL_s, zL_k, zL_o, zR_s, zR_k, zR_o, zIL, zIR, zIN, zLI, zLR, zLN, zRI, zRL, zRN, true_and, and_true, not_true_eq_false, not_false_eq_true, true_implies, false_implies, implies_true, forall_const, if_true, if_false, eq_self, false_and, and_false, implies_true, nI_l, ylle_t, ylle_f, xcl_t, xcl_f, m2]
          exact nx' u e _ _ _
        · rw [c] at m1 m2 mh nx'
          simp (disch := omega) only [xle_t, xle_f, xlt_t, xlt_f, xeq_t, xeq_f, xle0_t, xle0_f, xlt0_f, x0lt_t, x0lt_f, x0le_t, xeq0_t, xeq0_f, xin, xem_f, xme_f, xlem_f, xlm_f, xml_t, xmle_t, nI_clamp, nI_add, pk_mul, pk_sub, zI_s, zI_k, zI_o, zL_s, zL_k, zL_o, zR_s, zR_k, zR_o, zIL, zIR, zIN, zLI, zLR, zLN, zRI, zRL, zRN, true_and, and_true, not_true_eq_false, not_false_eq_true, true_implies, false_implies, implies_true, forall_const, if_true, if_false, eq_self, false_and, and_false, implies_true, nI_l, ylle_t, ylle_f, xcl_t, xcl_f, n0, e2, r0, r1, zok84 hr, mh, m1, m2]
          refine c_uef hX hiX (by omega) hr hA (fun u hu => ?_)
          have e : u = aSp X i (G (2 * i)) (G (2 * i + 1)) 2 := by rw [a0]; exact (as_2 hX hiX (by omega) hu).symm
          have ub : u ≤ 92160 := by rw [e]; exact Nat.le_trans aS1_b a9
          refine u_X0_untilNext_89 hr hd ?_
          rw [ifm (by omega) (by omega)]
          simp (disch := omega) only [xle_t, xle_f, xlt_t, xlt_f, xeq_t, xeq_f, xle0_t, xle0_f, xlt0_f, x0lt_t, x0lt_f, x0le_t, xeq0_t, xeq0_f, xin, xem_f, xme_f, xlem_f, xlm_f, xml_t, xmle_t, nI_clamp, nI_add, pk_mul, pk_sub, zI_s, zI_k, zI_o, zL_s, zL_k, zL_o, zR_s, zR_k, zR_o, zIL, zIR, zIN, zLI, zLR, zLN, zRI, zRL, zRN, true_and, and_true, not_true_eq_false, not_false_eq_true, true_implies, false_implies, implies_true, forall_const, if_true, if_false, eq_self, false_and, and_false, implies_true, nI_l, ylle_t, ylle_f, xcl_t, xcl_f]
          exact nx' u e _ _ _
        · rw [c] at m1 m2 mh nx'
          simp (disch := omega) only [xle_t, xle_f, xlt_t, xlt_f, xeq_t, xeq_f, xle0_t, xle0_f, xlt0_f, x0lt_t, x0lt_f, x0le_t, xeq0_t, xeq0_f, xin, xem_f, xme_f, xlem_f, xlm_f, xml_t, xmle_t, nI_clamp, nI_add, pk_mul, pk_sub, zI_s, zI_k, zI_o, zL_s, zL_k, zL_o, zR_s, zR_k, zR_o, zIL, zIR, zIN, zLI, zLR, zLN, zRI, zRL, zRN, true_and, and_true, not_true_eq_false, not_false_eq_true, true_implies, false_implies, implies_true, forall_const, if_true, if_false, eq_self, false_and, and_false, implies_true, nI_l, ylle_t, ylle_f, xcl_t, xcl_f, n0, e2, r0, r1, zok84 hr, mh, m1, m2]
          refine c_ued hX hiX (by omega) hr hA (fun u hu => ?_)
          have ub : u ≤ 92160 := by
            obtain ⟨j, j1, j2, j3, j4, j5⟩ := hu
            have : X.2.2 i j ≤ aA X i := by
              rcases Nat.lt_or_ge j (X.2.1 i) with z | z
              · exact Nat.le_of_lt (hX.lt hiX (Nat.le_refl _) z)
              · rw [show j = X.2.1 i by omega]; exact Nat.le_refl _
            omega
          refine u_X0_untilNext_69 (d1' := d - 1) hr hd (by omega) ?_
          rw [ifm (by omega) (by omega)]
          simp (disch := omega) only [xle_t, xle_f, xlt_t, xlt_f, xeq_t, xeq_f, xle0_t, xle0_f, xlt0_f, x0lt_t, x0lt_f, x0le_t, xeq0_t, xeq0_f, xin, xem_f, xme_f, xlem_f, xlm_f, xml_t, xmle_t, nI_clamp, nI_add, pk_mul, pk_sub, zI_s, zI_k, zI_o, zL_s, zL_k, zL_o, zR_s, zR_k, zR_o, zIL, zIR, zIN, zLI, zLR, zLN, zRI, zRL, zRN, true_and, and_true, not_true_eq_false, not_false_eq_true, true_implies, false_implies, implies_true, forall_const, if_true, if_false, eq_self, false_and, and_false, implies_true, nI_l, ylle_t, ylle_f, xcl_t, xcl_f, m2]
          refine c_uef hX hiX (by omega) hr hA (fun u' hu' => ?_)
          have ub' : u' ≤ 92160 := by
            obtain ⟨j, j1, j3, j4, j5⟩ := hu'
            omega
          have s1 : (if u < (aS2 X G l i).getD 368656 then u else (aS2 X G l i).getD 368656) ≤ 368656 := by split <;> omega
          refine u_X0_untilNext_89 hr hd ?_
          generalize (aS2 X G l i).getD 368656 = g at gb nx' s1 ⊢
          rw [ifm (by omega) (by omega)]
          have s2 : (if u' < (if u < g then u else g) then u' else (if u < g then u else g)) ≤ 368656 := by (repeat' split) <;> omega
          simp (disch := omega) only [xle_t, xle_f, xlt_t, xlt_f, xeq_t, xeq_f, xle0_t, xle0_f, xlt0_f, x0lt_t, x0lt_f, x0le_t, xeq0_t, xeq0_f, xin, xem_f, xme_f, xlem_f, xlm_f, xml_t, xmle_t, nI_clamp, nI_add, pk_mul, pk_sub, zI_s, zI_k, zI_o, zL_s, zL_k, zL_o, zR_s, zR_k, zR_o, zIL, zIR, zIN, zLI, zLR, zLN, zRI, zRL, zRN, true_and, and_true, not_true_eq_false, not_false_eq_true, true_implies, false_implies, implies_true, forall_const, if_true, if_false, eq_self, false_and, and_false, implies_true, nI_l, ylle_t, ylle_f, xcl_t, xcl_f, e2]
          have dv : nI (aA X i - G (2 * i) - G (2 * i + 1)) / nI 2 = nI ((aA X i - G (2 * i) - G (2 * i + 1)) / 2) := pk_div (by omega) (by decide) (by decide)
          rw [dv, ifm (by omega) (by omega)]
          have mn : ∃ v, v = (if (if u < u' then u else u') < (aA X i - G (2 * i) - G (2 * i + 1)) / 2 then (if u < u' then u else u') else (aA X i - G (2 * i) - G (2 * i + 1)) / 2) := ⟨_, rfl⟩
          obtain ⟨v, hv⟩ := mn
          have ev := as_3 hX hiX lv3 hu hu' (v := v) (by rw [hv]; split <;> split <;> omega) (by rw [hv]; split <;> split <;> omega) (by rw [hv]; split <;> split <;> omega) (by rw [hv]; split <;> split <;> omega)
          have fin := nx' v ev.symm
          have ew : (if (aA X i - G (2 * i) - G (2 * i + 1)) / 2 < (if u' < (if u < g then u else g) then u' else (if u < g then u else g)) then (aA X i - G (2 * i) - G (2 * i + 1)) / 2 else (if u' < (if u < g then u else g) then u' else (if u < g then u else g))) = (if v < g then v else g) := by
            rw [hv]
            generalize (aA X i - G (2 * i) - G (2 * i + 1)) / 2 = y
            clear hv ev fin nx' s1 s2 nx
            (repeat' split) <;> omega
          rw [ew]
          exact fin _ _ _
  exact L X.1 0 (by omega) _ _ _
end AC
