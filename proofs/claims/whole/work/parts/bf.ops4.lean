/-! ===== image, restore ===== -/
section CH
variable {S : SS}
theorem p_image (hO : sO S) (x : Int32) : ∃ S' r, cOp mX10_image 31 751 [.inl x] S S' (.inl r) ∧ mOp mX11_image [.inl x] S S' (.inl r) := by
  have hcc : (0 : Nat) ≤ 31 ∧ (0 : Nat) ≤ 751 := by decide
  rcases ix3 x (n := 2) (by omega) with ⟨z, x1, x2⟩ | ⟨z, x1, x2, x3, _, x4, _⟩ | ⟨i, hi, rfl, z⟩
  · refine ⟨S, -(nI 2), fun h d Q hd hr hc hm kk => ?_, fun h d Q hd hr hc hm kk => ?_⟩
    · refine Con.intro (by decide) (Nat.le_of_ble_eq_true rfl) ?_
      exact bX10_image_0 hcc (fun _ => bX10_image_9 hcc (kk h hr hO hc hm)) (fun q => absurd (of_eq_true x1) q)
    · refine u_X11_image hr (by omega) ?_
      simp (disch := omega) only [xle_t, xle_f, xlt_t, xlt_f, xeq_t, xeq_f, xle0_t, xle0_f, xlt0_f, x0lt_t, x0lt_f, x0le_t, xeq0_t, xeq0_f, xin, xem_f, xme_f, xlem_f, xlm_f, xml_t, xmle_t, nI_clamp, nI_add, pk_mul, pk_sub, zI_s, zI_k, zI_o, zL_s, zL_k, zL_o, zR_s, zR_k, zR_o, zIL, zIR, zIN, zLI, zLR, zLN, zRI, zRL, zRN, true_and, and_true, not_true_eq_false, not_false_eq_true, true_implies, false_implies, implies_true, forall_const, if_true, if_false, eq_self, false_and, and_false, implies_true, nI_l, ylle_t, ylle_f, xcl_t, xcl_f, x2]
      exact kk _ hr (hc.mk (zF_I _ _ _ (by omega))) (hm.mk (mK_0 h))
  · refine ⟨S, -(nI 2), fun h d Q hd hr hc hm kk => ?_, fun h d Q hd hr hc hm kk => ?_⟩
    · refine Con.intro (by decide) (Nat.le_of_ble_eq_true rfl) ?_
      refine bX10_image_0 hcc (fun q => absurd q (by rw [x1]; exact id)) (fun _ => ?_)
      refine bX10_image_4 hcc (fun q => ?_) (fun _ => bX10_image_9 hcc (kk h hr hO hc hm))
      exfalso
      have q2 : nI 2 ≤ x := of_eq_true x2
      rw [Int32.lt_iff_toInt_lt] at q
      rw [Int32.le_iff_toInt_le] at q2
      omega
    · refine u_X11_image hr (by omega) ?_
      simp (disch := omega) only [xle_t, xle_f, xlt_t, xlt_f, xeq_t, xeq_f, xle0_t, xle0_f, xlt0_f, x0lt_t, x0lt_f, x0le_t, xeq0_t, xeq0_f, xin, xem_f, xme_f, xlem_f, xlm_f, xml_t, xmle_t, nI_clamp, nI_add, pk_mul, pk_sub, zI_s, zI_k, zI_o, zL_s, zL_k, zL_o, zR_s, zR_k, zR_o, zIL, zIR, zIN, zLI, zLR, zLN, zRI, zRL, zRN, true_and, and_true, not_true_eq_false, not_false_eq_true, true_implies, false_implies, implies_true, forall_const, if_true, if_false, eq_self, false_and, and_false, implies_true, nI_l, ylle_t, ylle_f, xcl_t, xcl_f, x3, x4 1 rfl]
      exact kk _ hr (hc.mk (zF_I _ _ _ (by omega))) (hm.mk (mK_0 h))
  refine ⟨(S.1, S.2.1, S.2.2.1, S.2.2.2.1, kU S.2.2.2.2 i (some S.1)), nI 0, fun h d Q hd hr hc hm kk => ?_, fun h d Q hd hr hc hm kk => ?_⟩
  · have hO' : sO (S.1, S.2.1, S.2.2.1, S.2.2.2.1, kU S.2.2.2.2 i (some S.1)) := ⟨hO.1, hO.2.1, hO.2.2.1, fun j B' hB => by
      have hB' : kU S.2.2.2.2 i (some S.1) j = some B' := hB
      by_cases y : j = i
      · rw [y, kU_s] at hB'; cases hB'; exact hO.1
      · rw [kU_o _ _ y] at hB'; exact hO.2.2.2 j B' hB'⟩
    obtain ⟨q1, q2, q3, q4, q5, _, _, _⟩ := id hc
    obtain ⟨i1, i2, i3⟩ := id q5
    cases hm' : S.2.2.2.2 i with
    | none =>
      have h0 := (i1 i hi).1 hm'
      have hN : h.2.2.2 = 142 ∨ h.2.2.2 = 173 := by
        rw [i3]
        rcases (show i = 0 ∨ i = 1 by omega) with rfl | rfl
        · rw [hm', if_neg (by decide)]
          split
          · exact Or.inr rfl
          · exact Or.inl rfl
        · rw [hm']
          have : (if (none : Option BK).isSome = true then 31 else 0) = 0 := rfl
          rw [this]
          split
          · exact Or.inr rfl
          · exact Or.inl rfl
      refine o_imgN hr hc.1 hO.1 hi h0 hN (by omega) (fun h' r' f' a' => ?_)
      have E : ∀ a, a ≤ h.2.2.2 → a ≠ 46 → h'.1 a = h.1 a ∧ h'.2.1 a = h.2.1 a := fun a ha h46 => ⟨(f'.i ha).trans (hIm_o ha h46).1, (f'.l ha).trans (hIm_o ha h46).2.1⟩
      have F : zF (fun a => a ≤ 142 ∧ a ≠ 46) h (h'.1, h'.2.1, h.2.2.1, h.2.2.2) := ⟨fun a ha => ⟨(E a (by omega) ha.2).1, (E a (by omega) ha.2).2, rfl⟩, rfl⟩
      obtain ⟨w1, w2, w3⟩ := hc.caches (h' := (h'.1, h'.2.1, h.2.2.1, h.2.2.2)) (F.weak (fun a q => by omega))
      have e46 : h'.2.2.1 46 = (hIm h i).2.2.1 46 := f'.r (show 46 ≤ h.2.2.2 by omega)
      have en : h'.2.2.2 = h.2.2.2 + 31 := f'.2
      refine kk h' r' hO' ⟨q1.keep (fun k hk => (E _ (by omega) (by omega)).1), q2.keep' (E 1 (by omega) (by omega)).1 (E 3 (by omega) (by omega)).1, by rw [(E 2 (by omega) (by omega)).1]; exact q3, q4.keep (h' := (h'.1, h'.2.1, h.2.2.1, h.2.2.2)) (F.weak (fun a q => by omega)), ⟨fun j hj => ?_, fun B0 B1 hb0 hb1 => ?_, ?_⟩, w1, w2, w3⟩ (hm.k (h' := (h'.1, h'.2.1, h.2.2.1, h.2.2.2)) (F.weak (fun a q => by omega)))
      · show (kU S.2.2.2.2 i (some S.1) j = none → _) ∧ ∀ B', kU S.2.2.2.2 i (some S.1) j = some B' → _
        rw [e46, hIm_46 (by omega), en]
        by_cases y : j = i
        · rw [y, kU_s, if_pos rfl]
          refine ⟨fun q => (by cases q), fun B' hB => ?_⟩
          cases hB
          exact ⟨by omega, by omega, a'⟩
        · rw [kU_o _ _ y, if_neg y]
          refine ⟨(i1 j hj).1, fun B' hB => ?_⟩
          obtain ⟨b1, b2, b3⟩ := (i1 j hj).2 B' hB
          exact ⟨b1, by omega, b3.keep (fun k hk => (E _ (by omega) (by omega)).1)⟩
      · have hb0' : kU S.2.2.2.2 i (some S.1) 0 = some B0 := hb0
        have hb1' : kU S.2.2.2.2 i (some S.1) 1 = some B1 := hb1
        rw [e46, hIm_46 (by omega), hIm_46 (by omega)]
        rcases (show i = 0 ∨ i = 1 by omega) with rfl | rfl
        · rw [kU_o _ _ (by decide)] at hb1'
          obtain ⟨b1, b2, b3⟩ := (i1 1 (by omega)).2 B1 hb1'
          rw [if_pos rfl, if_neg (by decide)]
          omega
        · rw [kU_o _ _ (by decide)] at hb0'
          obtain ⟨b1, b2, b3⟩ := (i1 0 (by omega)).2 B0 hb0'
          rw [if_pos rfl, if_neg (by decide)]
          omega
      · show h'.2.2.2 = 142 + (if (kU S.2.2.2.2 i (some S.1) 0).isSome = true then 31 else 0) + (if (kU S.2.2.2.2 i (some S.1) 1).isSome = true then 31 else 0)
        rw [en, i3]
        have n0 : (if (none : Option BK).isSome = true then 31 else 0) = 0 := rfl
        have n1 : (if (some S.1 : Option BK).isSome = true then 31 else 0) = 31 := rfl
        rcases (show i = 0 ∨ i = 1 by omega) with rfl | rfl
        · rw [hm', kU_s, kU_o _ _ (by decide), n0, n1]
          omega
        · rw [hm', kU_s, kU_o _ _ (by decide), n0, n1]
    | some B0 =>
      obtain ⟨b1, b2, b3⟩ := (i1 i hi).2 B0 hm'
      have hN : h.2.2.2 = 173 ∨ h.2.2.2 = 204 := by
        have := hr.1
        omega
      refine o_imgS hr hc.1 hO.1 hi rfl hN b1 b2 (by omega) (fun h' r' f' a' => ?_)
      have e46 : h'.2.2.1 46 = h.2.2.1 46 := f'.r (by omega)
      obtain ⟨w1, w2, w3⟩ := hc.caches (f'.weak (fun a q => by omega))
      refine kk h' r' hO' ⟨q1.keep (fun k hk => f'.i (by omega)), q2.keep' (f'.i (by omega)) (f'.i (by omega)), by rw [f'.i (by omega)]; exact q3, q4.keep (f'.weak (fun a q => by omega)), ⟨fun j hj => ?_, fun B0' B1' hb0 hb1 => ?_, ?_⟩, w1, w2, w3⟩ (hm.k (f'.weak (fun a q => by omega)))
      · show (kU S.2.2.2.2 i (some S.1) j = none → _) ∧ ∀ B', kU S.2.2.2.2 i (some S.1) j = some B' → _
        rw [e46, f'.2]
        by_cases y : j = i
        · rw [y, kU_s]
          refine ⟨fun q => (by cases q), fun B' hB => ?_⟩
          cases hB
          exact ⟨b1, b2, a'⟩
        · rw [kU_o _ _ y]
          refine ⟨(i1 j hj).1, fun B' hB => ?_⟩
          obtain ⟨c1, c2, c3⟩ := (i1 j hj).2 B' hB
          have ne : h.2.2.1 46 j ≠ h.2.2.1 46 i := by
            rcases (show i = 0 ∧ j = 1 ∨ i = 1 ∧ j = 0 by omega) with ⟨rfl, rfl⟩ | ⟨rfl, rfl⟩
            · exact (i2 B0 B' hm' hB).symm
            · exact i2 B' B0 hB hm'
          exact ⟨c1, c2, c3.keep (fun k hk => f'.i (by omega))⟩
      · have hb0' : kU S.2.2.2.2 i (some S.1) 0 = some B0' := hb0
        have hb1' : kU S.2.2.2.2 i (some S.1) 1 = some B1' := hb1
        rw [e46]
        rcases (show i = 0 ∨ i = 1 by omega) with rfl | rfl
        · rw [kU_o _ _ (by decide)] at hb1'
          exact i2 B0 B1' hm' hb1'
        · rw [kU_o _ _ (by decide)] at hb0'
          exact i2 B0' B0 hb0' hm'
      · show h'.2.2.2 = 142 + (if (kU S.2.2.2.2 i (some S.1) 0).isSome = true then 31 else 0) + (if (kU S.2.2.2.2 i (some S.1) 1).isSome = true then 31 else 0)
        rw [f'.2, i3]
        rcases (show i = 0 ∨ i = 1 by omega) with rfl | rfl
        · rw [hm', kU_s, kU_o _ _ (by decide)]
          rfl
        · rw [hm', kU_s, kU_o _ _ (by decide)]
          rfl
  · refine n_image hr hi (by omega) (fun h' r' f' k' e1 e2 e113 e113' => ?_)
    obtain ⟨q1, q2, q3, q4, q5, q6⟩ := hm
    refine kk h' r' (hc.mk (f'.weak (fun a q => by omega))) ⟨bIn_c hO.1 (fun k hk => e2 _ (by omega)) q1, ⟨(k' 5 (by omega)).trans q2.1, fun k hk => by rw [f'.i (by omega)]; exact q2.2 k hk⟩, ⟨(k' 13 (by omega)).trans q3.1, (k' 14 (by omega)).trans q3.2⟩, q4.keep (f'.weak (fun a q => by omega)), fun j hj => ?_, (k' 28 (by omega)).trans q6⟩
    show (kU S.2.2.2.2 i (some S.1) j = none → _) ∧ ∀ B', kU S.2.2.2.2 i (some S.1) j = some B' → _
    by_cases y : j = i
    · rw [y, kU_s]
      refine ⟨fun q => (by cases q), fun B' hB => ?_⟩
      cases hB
      refine ⟨e113, bIn_c hO.1 (fun k hk => ?_) q1⟩
      rw [e1 k hk, Nat.zero_add]
    · rw [kU_o _ _ y, e113' j y]
      refine ⟨(q5 j hj).1, fun B' hB => ?_⟩
      obtain ⟨c1, c2⟩ := (q5 j hj).2 B' hB
      exact ⟨c1, bIn_c (hO.2.2.2 j B' hB) (fun k hk => e2 _ (by omega)) c2⟩
theorem p_restore (hO : sO S) (x : Int32) : ∃ S' r, cOp mX10_restore 0 0 [.inl x] S S' (.inl r) ∧ mOp mX11_restore [.inl x] S S' (.inl r) := by
  rcases ix3 x (n := 2) (by omega) with ⟨z, x1, x2⟩ | ⟨z, x1, x2, x3, _, x4, x5⟩ | ⟨i, hi, rfl, z⟩
  · refine ⟨S, -(nI 2), fun h d Q hd hr hc hm kk => ?_, fun h d Q hd hr hc hm kk => ?_⟩
    · refine u_X10_restore (d1' := d - 1) hr (by omega) ?_
      simp (disch := omega) only [xle_t, xle_f, xlt_t, xlt_f, xeq_t, xeq_f, xle0_t, xle0_f, xlt0_f, x0lt_t, x0lt_f, x0le_t, xeq0_t, xeq0_f, xin, xem_f, xme_f, xlem_f, xlm_f, xml_t, xmle_t, nI_clamp, nI_add, pk_mul, pk_sub, zI_s, zI_k, zI_o, zL_s, zL_k, zL_o, zR_s, zR_k, zR_o, zIL, zIR, zIN, zLI, zLR, zLN, zRI, zRL, zRN, true_and, and_true, not_true_eq_false, not_false_eq_true, true_implies, false_implies, implies_true, forall_const, if_true, if_false, eq_self, false_and, and_false, implies_true, nI_l, ylle_t, ylle_f, xcl_t, xcl_f, x1]
      exact kk h hr hO hc hm
    · refine u_X11_restore hr (by omega) ?_
      simp (disch := omega) only [xle_t, xle_f, xlt_t, xlt_f, xeq_t, xeq_f, xle0_t, xle0_f, xlt0_f, x0lt_t, x0lt_f, x0le_t, xeq0_t, xeq0_f, xin, xem_f, xme_f, xlem_f, xlm_f, xml_t, xmle_t, nI_clamp, nI_add, pk_mul, pk_sub, zI_s, zI_k, zI_o, zL_s, zL_k, zL_o, zR_s, zR_k, zR_o, zIL, zIR, zIN, zLI, zLR, zLN, zRI, zRL, zRN, true_and, and_true, not_true_eq_false, not_false_eq_true, true_implies, false_implies, implies_true, forall_const, if_true, if_false, eq_self, false_and, and_false, implies_true, nI_l, ylle_t, ylle_f, xcl_t, xcl_f, x2]
      exact kk _ hr (hc.mk (zF_I _ _ _ (by omega))) (hm.mk (mK_0 h))
  · refine ⟨S, -(nI 2), fun h d Q hd hr hc hm kk => ?_, fun h d Q hd hr hc hm kk => ?_⟩
    · refine u_X10_restore (d1' := d - 1) hr (by omega) ?_
      have nx : (x < nI 2) = False := eq_false (fun q => by
        have q2 : nI 2 ≤ x := of_eq_true x2
        rw [Int32.lt_iff_toInt_lt] at q
        rw [Int32.le_iff_toInt_le] at q2
        omega)
      simp (disch := omega) only [xle_t, xle_f, xlt_t, xlt_f, xeq_t, xeq_f, xle0_t, xle0_f, xlt0_f, x0lt_t, x0lt_f, x0le_t, xeq0_t, xeq0_f, xin, xem_f, xme_f, xlem_f, xlm_f, xml_t, xmle_t, nI_clamp, nI_add, pk_mul, pk_sub, zI_s, zI_k, zI_o, zL_s, zL_k, zL_o, zR_s, zR_k, zR_o, zIL, zIR, zIN, zLI, zLR, zLN, zRI, zRL, zRN, true_and, and_true, not_true_eq_false, not_false_eq_true, true_implies, false_implies, implies_true, forall_const, if_true, if_false, eq_self, false_and, and_false, implies_true, nI_l, ylle_t, ylle_f, xcl_t, xcl_f, x1, nx]
      exact kk h hr hO hc hm
    · refine u_X11_restore hr (by omega) ?_
      simp (disch := omega) only [xle_t, xle_f, xlt_t, xlt_f, xeq_t, xeq_f, xle0_t, xle0_f, xlt0_f, x0lt_t, x0lt_f, x0le_t, xeq0_t, xeq0_f, xin, xem_f, xme_f, xlem_f, xlm_f, xml_t, xmle_t, nI_clamp, nI_add, pk_mul, pk_sub, zI_s, zI_k, zI_o, zL_s, zL_k, zL_o, zR_s, zR_k, zR_o, zIL, zIR, zIN, zLI, zLR, zLN, zRI, zRL, zRN, true_and, and_true, not_true_eq_false, not_false_eq_true, true_implies, false_implies, implies_true, forall_const, if_true, if_false, eq_self, false_and, and_false, implies_true, nI_l, ylle_t, ylle_f, xcl_t, xcl_f, x3, x4 1 rfl]
      exact kk _ hr (hc.mk (zF_I _ _ _ (by omega))) (hm.mk (mK_0 h))
  cases hm' : S.2.2.2.2 i with
  | none =>
    refine ⟨S, -(nI 5), fun h d Q hd hr hc hm kk => ?_, fun h d Q hd hr hc hm kk => ?_⟩
    · exact o_rest5 hr hi ((hc.2.2.2.2.1.1 i hi).1 hm') (by omega) (kk h hr hO hc hm)
    · exact n_rest5 hr hi ((hm.2.2.2.2.1 i hi).1 hm') (by omega) (kk _ hr (hc.mk (zF_I _ _ _ (by omega))) (hm.mk (mK_0 h)))
  | some B' =>
    have hB' := hO.2.2.2 i B' hm'
    refine ⟨(B', S.2), nI 0, fun h d Q hd hr hc hm kk => ?_, fun h d Q hd hr hc hm kk => ?_⟩
    · obtain ⟨q1, q2, q3, q4, q5, _, _, _⟩ := id hc
      obtain ⟨b1, b2, b3⟩ := (q5.1 i hi).2 B' hm'
      have hN : h.2.2.2 = 173 ∨ h.2.2.2 = 204 := by
        have := hr.1
        omega
      refine o_restore hr hi rfl hB' b3 (by omega) (fun h' f' => bZ_of hN b1 b2 h' f'.2) (by omega) (fun h' r' f' a' e58 e97 e99 e101 => ?_)
      exact kk h' r' ⟨hB', hO.2⟩ ⟨a', q2.keep' (f'.i (by omega)) (f'.i (by omega)), by rw [f'.i (by omega)]; exact q3, q4.keep (f'.weak (fun a q => by omega)), q5.keep (f'.weak (fun a q => by omega)), Or.inl e58, ⟨Or.inl e97, Or.inl e99⟩, Or.inl e101⟩ (hm.k (f'.weak (fun a q => by omega)))
    · obtain ⟨q1, q2, q3, q4, q5, q6⟩ := hm
      obtain ⟨c1, c2⟩ := (q5 i hi).2 B' hm'
      refine n_restore hr hi c1 (by omega) (fun h' r' f' k' e1 e2 => ?_)
      refine kk h' r' (hc.mk (f'.weak (fun a q => by omega))) ⟨bIn_c hB' (fun k hk => by rw [Nat.zero_add]; exact e1 k hk) c2, ⟨(k' 5 (by omega)).trans q2.1, fun k hk => by rw [f'.i (by omega)]; exact q2.2 k hk⟩, ⟨(k' 13 (by omega)).trans q3.1, (k' 14 (by omega)).trans q3.2⟩, q4.keep (f'.weak (fun a q => by omega)), fun j hj => ?_, (k' 28 (by omega)).trans q6⟩
      rw [f'.i (a := 113) (by omega)]
      exact ⟨(q5 j hj).1, fun B2 hB2 => ⟨((q5 j hj).2 B2 hB2).1, bIn_c (hO.2.2.2 j B2 hB2) (fun k hk => e2 _ (by omega)) ((q5 j hj).2 B2 hB2).2⟩⟩
end CH
