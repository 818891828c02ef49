/-! ===== acts, rules (class) ===== -/
def kS (n : Nat) (R : RS) (h : MH) : Prop := kK n R.1 h ∧ kT R.2 h
theorem x8 {n : Nat} (h : n ≤ 7) : n < 2 ^ 31 := by omega
theorem c_give {n : Nat} {R : RS} {h : MH} {d a v : Nat} {Q : Option MV → MH → Prop} (hr : zRf h) (hS : kS n R h) (hn : n ≤ 8) (ha : a < n) (hf : R.1.2.1 a ≤ 2) (hv : v ≤ 3) (hli : R.2.2.2.2.1 ≤ 1000) (hd : 1 ≤ d) (k0 : ¬ v ≤ 2 → Q (some (.inl (nI 0))) h) (k1 : v ≤ 2 → ∀ h', zRf h' → kF h h' → kS n (rGive R a v) h' → Q (some (.inl (nI 1))) h') : Con mX8_giveFlames d 0 0 [.inr (.inr 48), .inl (nI a), .inl (nI v)] h Q := by
  obtain ⟨hK, hT⟩ := hS
  refine u_X8_giveFlames hr hd ?_
  have a1 := (hK.2 a ha).2.1
  have e12 := hT.2.2.2.2.1
  by_cases z : v ≤ 2
  · have hm : (if nI 0 < nI v - nI (R.1.2.1 a) then nI v - nI (R.1.2.1 a) else nI 0) = nI (v - R.1.2.1 a) := by
      by_cases w : R.1.2.1 a ≤ v
      · rw [pk_sub w]
        by_cases y : 0 < v - R.1.2.1 a
        · rw [if_pos (nI_lt y (by omega))]
        · rw [if_neg (nI_nlt (by omega) (by omega)), show v - R.1.2.1 a = 0 by omega]
      · have h1 : nI v - nI (R.1.2.1 a) < 0 := pk_sneg (by omega) (by omega)
        rw [if_neg (by rw [nI_0]; exact Int32.not_lt.mpr (Int32.le_of_lt h1)), show v - R.1.2.1 a = 0 by omega]
    simp (disch := omega) only [xle_t, xle_f, xlt_t, xlt_f, xeq_t, xeq_f, xle0_t, xle0_f, xlt0_f, x0lt_t, x0lt_f, x0le_t, xeq0_t, xeq0_f, xin, xem_f, xme_f, xlem_f, xlm_f, xml_t, xmle_t, nI_clamp, nI_add, pk_mul, pk_sub, zI_s, zI_k, zI_o, zL_s, zL_k, zL_o, zR_s, zR_k, zR_o, zIL, zIR, zIN, zLI, zLR, zLN, zRI, zRL, zRN, true_and, and_true, not_true_eq_false, not_false_eq_true, true_implies, false_implies, implies_true, forall_const, if_true, if_false, eq_self, false_and, and_false, implies_true, a1, e12, hm]
    refine k1 z _ hr ((kF_I (by omega) (by omega)).trans (kF_I (by omega) (by omega))) ⟨⟨?_, fun c hc => ?_⟩, ?_⟩
    · rw [zI_o _ _ _ (by omega), zI_k _ _ _ (by omega)]; exact hK.1
    · obtain ⟨c0, c1, c2, c3, c4⟩ := hK.2 c hc
      refine ⟨?_, ?_, ?_, ?_, ?_⟩
      · rw [zI_o _ _ _ (by omega), zI_o _ _ _ (by omega)]; exact c0
      · show _ = nI (kU R.1.2.1 a v c)
        by_cases y : c = a
        · rw [y, zI_s, kU_s]
        · rw [zI_k _ _ _ y, kU_o _ _ y, zI_o _ _ _ (by omega)]; exact c1
      · rw [zI_o _ _ _ (by omega), zI_o _ _ _ (by omega)]; exact c2
      · rw [zI_o _ _ _ (by omega), zI_o _ _ _ (by omega)]; exact c3
      · rw [zI_o _ _ _ (by omega), zI_o _ _ _ (by omega), zI_o _ _ _ (by omega), zI_o _ _ _ (by omega)]; exact c4
    · obtain ⟨t1, t2, t3, t4, t5, t6⟩ := hT
      refine ⟨?_, fun k hk => ?_, t3, ?_, ?_, ?_⟩
      · rw [zI_o _ _ _ (by omega), zI_k _ _ _ (by omega)]; exact t1
      · rw [zI_o _ _ _ (by omega), zI_o _ _ _ (by omega)]; exact t2 k hk
      · rw [zI_o _ _ _ (by omega), zI_k _ _ _ (by omega)]; exact t4
      · rw [zI_o _ _ _ (by omega), zI_s]; rfl
      · rw [zI_o _ _ _ (by omega), zI_k _ _ _ (by omega)]; exact t6
  · simp (disch := omega) only [xle_t, xle_f, xlt_t, xlt_f, xeq_t, xeq_f, xle0_t, xle0_f, xlt0_f, x0lt_t, x0lt_f, x0le_t, xeq0_t, xeq0_f, xin, xem_f, xme_f, xlem_f, xlm_f, xml_t, xmle_t, nI_clamp, nI_add, pk_mul, pk_sub, zI_s, zI_k, zI_o, zL_s, zL_k, zL_o, zR_s, zR_k, zR_o, zIL, zIR, zIN, zLI, zLR, zLN, zRI, zRL, zRN, true_and, and_true, not_true_eq_false, not_false_eq_true, true_implies, false_implies, implies_true, forall_const, if_true, if_false, eq_self, false_and, and_false, implies_true]
    exact k0 z
theorem c_join {n : Nat} {R : RS} {h : MH} {d a b : Nat} {Q : Option MV → MH → Prop} (hr : zRf h) (hS : kS n R h) (hV : rV n R) (ha : a ≤ 7) (hb : b ≤ 7) (hd : 1 ≤ d) (k0 : ¬ (a < n ∧ R.1.2.2.2.2.1 a = 0 ∧ b < n ∧ R.1.2.2.2.2.1 b = 0 ∧ a ≠ b ∧ R.1.2.1 a = 0 ∧ R.1.2.1 b = 0) → Q (some (.inl (nI 0))) h) (k1 : (a < n ∧ R.1.2.2.2.2.1 a = 0 ∧ b < n ∧ R.1.2.2.2.2.1 b = 0 ∧ a ≠ b ∧ R.1.2.1 a = 0 ∧ R.1.2.1 b = 0) → ∀ h', zRf h' → kF h h' → kS n (rJoin R a b) h' → Q (some (.inl (nI 1))) h') : Con mX8_join d 0 0 [.inr (.inr 48), .inl (nI a), .inl (nI b)] h Q := by
  obtain ⟨hK, hT⟩ := hS
  have h8 := hV.1.1
  have st0 : ∀ c, c < n → (R.1.2.2.2.2.1 c = 0 ↔ R.1.1 c ≠ 0) := by
    intro c hc
    constructor
    · intro z; have := hV.2.1 c hc z; omega
    · intro z
      by_cases w : R.1.2.2.2.2.1 c = 0
      · exact w
      · exact absurd ((hV.1.2.2.1 c hc).2.1 w).2 z
  refine u_X8_join hr hd ?_
  have hre : ∀ c, c < n → R.1.1 c ≤ 400000000 := hV.re
  have hfl : ∀ c, c < n → R.1.2.1 c ≤ 2 := fun c hc => (hV.1.2.2.1 c hc).1
  by_cases an : a < n
  · have a0 := (hK.2 a an).1
    have a1 := (hK.2 a an).2.1
    have ra := hre a an
    have fa := hfl a an
    by_cases ar : R.1.1 a = 0
    · simp (disch := omega) only [xle_t, xle_f, xlt_t, xlt_f, xeq_t, xeq_f, xle0_t, xle0_f, xlt0_f, x0lt_t, x0lt_f, x0le_t, xeq0_t, xeq0_f, xin, xem_f, xme_f, xlem_f, xlm_f, xml_t, xmle_t, nI_clamp, nI_add, pk_mul, pk_sub, zI_s, zI_k, zI_o, zL_s, zL_k, zL_o, zR_s, zR_k, zR_o, zIL, zIR, zIN, zLI, zLR, zLN, zRI, zRL, zRN, true_and, and_true, not_true_eq_false, not_false_eq_true, true_implies, false_implies, implies_true, forall_const, if_true, if_false, eq_self, false_and, and_false, implies_true, hK.1, a0]
      exact k0 (fun z => absurd ar ((st0 a an).mp z.2.1))
    by_cases bn : b < n
    · have b0 := (hK.2 b bn).1
      have b1 := (hK.2 b bn).2.1
      have rb := hre b bn
      have fb := hfl b bn
      by_cases br : R.1.1 b = 0
      · simp (disch := omega) only [xle_t, xle_f, xlt_t, xlt_f, xeq_t, xeq_f, xle0_t, xle0_f, xlt0_f, x0lt_t, x0lt_f, x0le_t, xeq0_t, xeq0_f, xin, xem_f, xme_f, xlem_f, xlm_f, xml_t, xmle_t, nI_clamp, nI_add, pk_mul, pk_sub, zI_s, zI_k, zI_o, zL_s, zL_k, zL_o, zR_s, zR_k, zR_o, zIL, zIR, zIN, zLI, zLR, zLN, zRI, zRL, zRN, true_and, and_true, not_true_eq_false, not_false_eq_true, true_implies, false_implies, implies_true, forall_const, if_true, if_false, eq_self, false_and, and_false, implies_true, hK.1, a0, b0]
        exact k0 (fun z => absurd br ((st0 b bn).mp z.2.2.2.1))
      by_cases ab : a = b
      · simp (disch := omega) only [xle_t, xle_f, xlt_t, xlt_f, xeq_t, xeq_f, xle0_t, xle0_f, xlt0_f, x0lt_t, x0lt_f, x0le_t, xeq0_t, xeq0_f, xin, xem_f, xme_f, xlem_f, xlm_f, xml_t, xmle_t, nI_clamp, nI_add, pk_mul, pk_sub, zI_s, zI_k, zI_o, zL_s, zL_k, zL_o, zR_s, zR_k, zR_o, zIL, zIR, zIN, zLI, zLR, zLN, zRI, zRL, zRN, true_and, and_true, not_true_eq_false, not_false_eq_true, true_implies, false_implies, implies_true, forall_const, if_true, if_false, eq_self, false_and, and_false, implies_true, hK.1, a0, b0]
        exact k0 (fun z => absurd ab z.2.2.2.2.1)
      by_cases f1 : R.1.2.1 a = 0
      · by_cases f2 : R.1.2.1 b = 0
        · have sa := (st0 a an).mpr ar
          have sb := (st0 b bn).mpr br
          obtain ⟨r, er, hl, hlast⟩ := (hK.2 a an).2.2.2.2 sa
          obtain ⟨s, es, hl2, hlast2⟩ := (hK.2 b bn).2.2.2.2 sb
          obtain ⟨g, hg⟩ := hV.1.2.2.2.1
          have hla : lst a r < n := ((hg a an sa).2 (lst a r) (by rw [er]; exact lst_mem a r)).1
          have hlg : g (lst a r) = a := ((hg a an sa).2 (lst a r) (by rw [er]; exact lst_mem a r)).2
          have h54 : ∀ v1 v2 : Int32, (zsI (zsI h 50 a v1) 50 b v2).1 54 = h.1 54 := fun v1 v2 => by rw [zI_o _ _ _ (by omega), zI_o _ _ _ (by omega)]
          simp (disch := omega) only [xle_t, xle_f, xlt_t, xlt_f, xeq_t, xeq_f, xle0_t, xle0_f, xlt0_f, x0lt_t, x0lt_f, x0le_t, xeq0_t, xeq0_f, xin, xem_f, xme_f, xlem_f, xlm_f, xml_t, xmle_t, nI_clamp, nI_add, pk_mul, pk_sub, zI_s, zI_k, zI_o, zL_s, zL_k, zL_o, zR_s, zR_k, zR_o, zIL, zIR, zIN, zLI, zLR, zLN, zRI, zRL, zRN, true_and, and_true, not_true_eq_false, not_false_eq_true, true_implies, false_implies, implies_true, forall_const, if_true, if_false, eq_self, false_and, and_false, implies_true, hK.1, a0, b0, a1, b1, h54, hlast, hlast2]
          refine k1 ⟨an, sa, bn, sb, ab, f1, f2⟩ _ hr ((((kF_I (by omega) (by omega)).trans (kF_I (by omega) (by omega))).trans (kF_I (by omega) (by omega))).trans (kF_I (by omega) (by omega))) ⟨⟨?_, fun c hc => ?_⟩, hT.keep ?_ ?_ rfl⟩
          · rw [zI_o _ _ _ (by omega), zI_o _ _ _ (by omega), zI_o _ _ _ (by omega), zI_o _ _ _ (by omega)]; exact hK.1
          · obtain ⟨c0, c1, c2, c3, c4⟩ := hK.2 c hc
            refine ⟨?_, ?_, ?_, ?_, fun q => ?_⟩
            · show _ = nI (kU (kU R.1.1 a (R.1.1 a + R.1.1 b)) b 0 c)
              rw [zI_o _ _ _ (by omega), zI_o _ _ _ (by omega)]
              by_cases y : c = b
              · rw [y, zI_s, kU_s]
              · rw [zI_k _ _ _ y, kU_o _ _ y]
                by_cases y2 : c = a
                · rw [y2, zI_s, kU_s]
                · rw [zI_k _ _ _ y2, kU_o _ _ y2]; exact c0
            · rw [zI_o _ _ _ (by omega), zI_o _ _ _ (by omega), zI_o _ _ _ (by omega), zI_o _ _ _ (by omega)]; exact c1
            · rw [zI_o _ _ _ (by omega), zI_o _ _ _ (by omega), zI_o _ _ _ (by omega), zI_o _ _ _ (by omega)]; exact c2
            · rw [zI_o _ _ _ (by omega), zI_o _ _ _ (by omega), zI_o _ _ _ (by omega), zI_o _ _ _ (by omega)]; exact c3
            · have q' : kU R.1.2.2.2.2.1 b 2 c = 0 := q
              have cb : c ≠ b := fun z => by rw [z, kU_s] at q'; omega
              rw [kU_o _ _ cb] at q'
              have f53 : ∀ y, y ≠ lst a r → (zsI (zsI (zsI h 50 a (nI (R.1.1 a + R.1.1 b))) 50 b (nI 0)) 53 (lst a r) (nI b)).1 53 y = h.1 53 y := fun y hy => by
                rw [zI_k _ _ _ hy, zI_o _ _ _ (by omega), zI_o _ _ _ (by omega)]
              have notl : ∀ c, c < n → R.1.2.2.2.2.1 c = 0 → c ≠ a → ∀ y, y ∈ R.1.2.2.2.1 c → y ≠ lst a r := by
                intro c hc hs hca y hy z
                have h1 := ((hg c hc hs).2 y hy).2
                rw [z, hlg] at h1
                exact hca h1.symm
              rw [zI_o _ (b := 53) _ _ (by omega)]
              show ∃ r', kU R.1.2.2.2.1 a (R.1.2.2.2.1 a ++ R.1.2.2.2.1 b) c = c :: r' ∧ _
              by_cases ca : c = a
              · subst ca
                refine ⟨r ++ b :: s, by rw [kU_s, er, es]; rfl, ?_, ?_⟩
                · refine lnk_app (x := c) (r := r) hl (lnk_congr (fun y hy => f53 y ?_) hl2) (fun y hy => ?_) (zI_s _ _ _ _) f53
                  · exact notl b bn sb (fun z => ab z.symm) y (by rw [es]; exact hy)
                  · have := ((hg c an sa).2 y (by rw [er]; exact hy)).1
                    omega
                · rw [zI_s, lst_app]
              · obtain ⟨r', er', hl', hlast'⟩ := c4 q'
                refine ⟨r', by rw [kU_o _ _ ca]; exact er', lnk_congr (fun y hy => f53 y ?_) hl', ?_⟩
                · exact notl c hc q' ca y (by rw [er']; exact hy)
                · rw [zI_k _ _ _ ca, zI_o _ _ _ (by omega), zI_o _ _ _ (by omega), zI_o _ _ _ (by omega)]; exact hlast'
          · rw [zI_o _ _ _ (by omega), zI_o _ _ _ (by omega), zI_o _ _ _ (by omega), zI_o _ _ _ (by omega)]
          · rw [zI_o _ _ _ (by omega), zI_o _ _ _ (by omega), zI_o _ _ _ (by omega), zI_o _ _ _ (by omega)]
        · simp (disch := omega) only [xle_t, xle_f, xlt_t, xlt_f, xeq_t, xeq_f, xle0_t, xle0_f, xlt0_f, x0lt_t, x0lt_f, x0le_t, xeq0_t, xeq0_f, xin, xem_f, xme_f, xlem_f, xlm_f, xml_t, xmle_t, nI_clamp, nI_add, pk_mul, pk_sub, zI_s, zI_k, zI_o, zL_s, zL_k, zL_o, zR_s, zR_k, zR_o, zIL, zIR, zIN, zLI, zLR, zLN, zRI, zRL, zRN, true_and, and_true, not_true_eq_false, not_false_eq_true, true_implies, false_implies, implies_true, forall_const, if_true, if_false, eq_self, false_and, and_false, implies_true, hK.1, a0, b0, a1, b1]
          exact k0 (fun z => absurd z.2.2.2.2.2.2 f2)
      · simp (disch := omega) only [xle_t, xle_f, xlt_t, xlt_f, xeq_t, xeq_f, xle0_t, xle0_f, xlt0_f, x0lt_t, x0lt_f, x0le_t, xeq0_t, xeq0_f, xin, xem_f, xme_f, xlem_f, xlm_f, xml_t, xmle_t, nI_clamp, nI_add, pk_mul, pk_sub, zI_s, zI_k, zI_o, zL_s, zL_k, zL_o, zR_s, zR_k, zR_o, zIL, zIR, zIN, zLI, zLR, zLN, zRI, zRL, zRN, true_and, and_true, not_true_eq_false, not_false_eq_true, true_implies, false_implies, implies_true, forall_const, if_true, if_false, eq_self, false_and, and_false, implies_true, hK.1, a0, b0, a1, b1]
        exact k0 (fun z => absurd z.2.2.2.2.2.1 f1)
    · simp (disch := omega) only [xle_t, xle_f, xlt_t, xlt_f, xeq_t, xeq_f, xle0_t, xle0_f, xlt0_f, x0lt_t, x0lt_f, x0le_t, xeq0_t, xeq0_f, xin, xem_f, xme_f, xlem_f, xlm_f, xml_t, xmle_t, nI_clamp, nI_add, pk_mul, pk_sub, zI_s, zI_k, zI_o, zL_s, zL_k, zL_o, zR_s, zR_k, zR_o, zIL, zIR, zIN, zLI, zLR, zLN, zRI, zRL, zRN, true_and, and_true, not_true_eq_false, not_false_eq_true, true_implies, false_implies, implies_true, forall_const, if_true, if_false, eq_self, false_and, and_false, implies_true, hK.1, a0]
      exact k0 (fun z => absurd z.2.2.1 bn)
  · simp (disch := omega) only [xle_t, xle_f, xlt_t, xlt_f, xeq_t, xeq_f, xle0_t, xle0_f, xlt0_f, x0lt_t, x0lt_f, x0le_t, xeq0_t, xeq0_f, xin, xem_f, xme_f, xlem_f, xlm_f, xml_t, xmle_t, nI_clamp, nI_add, pk_mul, pk_sub, zI_s, zI_k, zI_o, zL_s, zL_k, zL_o, zR_s, zR_k, zR_o, zIL, zIR, zIN, zLI, zLR, zLN, zRI, zRL, zRN, true_and, and_true, not_true_eq_false, not_false_eq_true, true_implies, false_implies, implies_true, forall_const, if_true, if_false, eq_self, false_and, and_false, implies_true, hK.1]
    exact k0 (fun z => absurd z.1 an)
