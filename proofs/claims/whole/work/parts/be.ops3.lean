/-! ===== cellar, plan, image, restore ===== -/
theorem cIn_c {C : CE} {f g : Nat → Int32} {o o' : Nat} (hC : cOK C) (e : ∀ k, k < 74 → g (o' + k) = f (o + k)) (q : cIn C f o) : cIn C g o' := by
  have n8 := hC.1
  refine ⟨by have := e 0 (by omega); rw [Nat.add_zero, Nat.add_zero] at this; rw [this]; exact q.1, by rw [e 73 (by omega)]; exact q.2.1, fun c hc => ?_⟩
  obtain ⟨q1, q2, q3, q4⟩ := q.2.2 c hc
  have p6 := (hC.2 c hc).1
  refine ⟨?_, fun k hk => ?_, ?_, ?_⟩
  · rw [Nat.add_assoc, e (1 + c) (by omega), ← Nat.add_assoc]; exact q1
  · rw [Nat.add_assoc, Nat.add_assoc, e (9 + (6 * c + k)) (by omega), ← Nat.add_assoc, ← Nat.add_assoc]; exact q2 k hk
  · rw [Nat.add_assoc, e (57 + c) (by omega), ← Nat.add_assoc]; exact q3
  · rw [Nat.add_assoc, e (65 + c) (by omega), ← Nat.add_assoc]; exact q4
theorem pIn_c {P : PL} {f g : Nat → Int32} {o o' : Nat} (hP : pOK P) (e : ∀ k, k < 162 → g (o' + k) = f (o + k)) (q : pIn P f o) : pIn P g o' := by
  have n20 := hP.1
  have n40 := hP.2.1
  refine ⟨by have := e 0 (by omega); rw [Nat.add_zero, Nat.add_zero] at this; rw [this]; exact q.1, by rw [e 1 (by omega)]; exact q.2.1, fun r hr => ?_, fun k hk => ?_⟩
  · obtain ⟨q1, q2⟩ := q.2.2.1 r hr
    exact ⟨by rw [Nat.add_assoc, e (2 + r) (by omega), ← Nat.add_assoc]; exact q1, by rw [Nat.add_assoc, e (22 + r) (by omega), ← Nat.add_assoc]; exact q2⟩
  · rw [Nat.add_assoc, e (42 + k) (by omega), ← Nat.add_assoc]; exact q.2.2.2 k hk
theorem bIn_c {B : BK} {f g : Nat → Int32} {o o' : Nat} (hB : bOK B) (e : ∀ k, k < 722 → g (o' + k) = f (o + k)) (q : bIn B f o) : bIn B g o' := by
  refine ⟨cIn_c hB.1 (fun k hk => e k (by omega)) q.1, fun p hp => pIn_c (hB.2 p hp) (fun k hk => ?_) (q.2 p hp)⟩
  rw [show o' + 74 + 162 * p + k = o' + (74 + 162 * p + k) by omega, e _ (by omega), show o + 74 + 162 * p + k = o + (74 + 162 * p + k) by omega]
section CH
variable {S : SS}
theorem tC_0 {f : Nat → Nat} {h : MH} (e : h.1 1 0 = nI 0) : tC (0, f) h := ⟨e, fun k hk => absurd hk (by show ¬ k < 0; omega)⟩
theorem tM_0 {f : Nat → Nat} {h : MH} (e : h.1 111 5 = nI 0) : tM (0, f) h := ⟨e, fun k hk => absurd hk (by show ¬ k < 0; omega)⟩
theorem tOK_0 {f : Nat → Nat} : tOK (0, f) := ⟨Nat.zero_le _, fun k hk => absurd hk (by show ¬ k < 0; omega)⟩
theorem p_cellar (hO : sO S) (x : Int32) : ∃ S' r, cOp mX10_cellar 0 0 [.inl x] S S' (.inl r) ∧ mOp mX11_cellar [.inl x] S S' (.inl r) := by
  have t4 := hO.2.1.1
  rcases rng_c x (T := S.2.1.1) (by omega) with hx | ⟨n, hn, rfl⟩
  · exact ⟨S, -(nI 3), fun h d Q hd hr hc hm kk => o_cel3 hr hc.2.1.1 (by omega) hx (kk h hr hO hc hm), fun h d Q hd hr hc hm kk => n_cel3 hr hm.2.1.1 (by omega) (by omega) hx (kk _ hr (hc.mk (zF_I _ _ _ (by omega))) (hm.mk (mK_0 h)))⟩
  · cases hp : pCel S.2.1.2 n 9 (kTk S.2.1.2 n 0) cNil with
    | inl e =>
      refine ⟨(S.1, (0, S.2.1.2), (nI e.1, nI e.2), S.2.2.2), -(nI (30 + e.1)), fun h d Q hd hr hc hm kk => ?_, fun h d Q hd hr hc hm kk => ?_⟩
      · refine o_cel kStr_ok hr (tCk hc.2.1 hO.2.1 hn) hc.2.1.1 ⟨hn, t4⟩ (by omega) (fun e' h' he r' f' k' e1 e36 e37 => ?_) (fun C h' he => ?_)
        · cases hp.symm.trans he
          obtain ⟨q1, q2, q3, q4, q5, _, _, _⟩ := id hc
          obtain ⟨w1, w2, w3⟩ := hc.caches (f'.weak (fun a q => by omega))
          rw [neg30]
          exact kk h' r' ⟨hO.1, tOK_0, hO.2.2⟩ ⟨q1.keep (fun k hk => f'.i (by omega)), tC_0 e1, ⟨e36, e37⟩, q4.keep (f'.weak (fun a q => by omega)), q5.keep (f'.weak (fun a q => by omega)), w1, w2, w3⟩ (hm.k (f'.weak (fun a q => by omega)))
        · cases hp.symm.trans he
      · refine n_cel kStr_ok hr (tMk hm.2.1 hO.2.1 hn) hm.2.1.1 ⟨hn, t4⟩ (by omega) (fun e' h' he be r' f' e112 e5 e13 e14 => ?_) (fun C h' he => ?_)
        · cases hp.symm.trans he
          obtain ⟨q1, q2, q3, q4, q5, q6⟩ := hm
          refine kk h' r' (hc.mk (f'.1.weak (fun a q => by omega))) ⟨by rw [e112]; exact q1, tM_0 e5, ⟨e13, e14⟩, q4.keep (f'.1.weak (fun a q => by omega)), fun i hi => by rw [f'.1.i (a := 113) (by omega), e112]; exact q5 i hi, (f'.2 28 (by omega)).trans q6⟩
        · cases hp.symm.trans he
    | inr C =>
      refine ⟨((C, S.1.2), (0, S.2.1.2), (nI 0, -(nI 1)), S.2.2.2), nI C.1, fun h d Q hd hr hc hm kk => ?_, fun h d Q hd hr hc hm kk => ?_⟩
      · refine o_cel kStr_ok hr (tCk hc.2.1 hO.2.1 hn) hc.2.1.1 ⟨hn, t4⟩ (by omega) (fun e' h' he => ?_) (fun C' h' he hC r' f' k' e1 e36 e37 c' e58 e97 e99 e101 => ?_)
        · cases hp.symm.trans he
        · cases hp.symm.trans he
          obtain ⟨q1, q2, q3, q4, q5, _, _, _⟩ := id hc
          exact kk h' r' ⟨⟨hC, hO.1.2⟩, tOK_0, hO.2.2⟩ ⟨⟨c', fun p hp => (q1.2 p hp).keep (fun k hk => f'.i (by omega))⟩, tC_0 e1, ⟨e36, e37⟩, q4.keep (f'.weak (fun a q => by omega)), q5.keep (f'.weak (fun a q => by omega)), Or.inl e58, ⟨Or.inl e97, Or.inl e99⟩, Or.inl e101⟩ (hm.k (f'.weak (fun a q => by omega)))
      · refine n_cel kStr_ok hr (tMk hm.2.1 hO.2.1 hn) hm.2.1.1 ⟨hn, t4⟩ (by omega) (fun e' h' he => ?_) (fun C' h' he r' f' c' e112 e5 e13 e14 => ?_)
        · cases hp.symm.trans he
        · cases hp.symm.trans he
          obtain ⟨q1, q2, q3, q4, q5, q6⟩ := hm
          refine kk h' r' (hc.mk (f'.1.weak (fun a q => by omega))) ⟨⟨c', fun p hp => pIn_c (hO.1.2 p hp) (fun k hk => e112 _ (by omega)) (q1.2 p hp)⟩, tM_0 e5, ⟨e13, e14⟩, q4.keep (f'.1.weak (fun a q => by omega)), fun i hi => ?_, (f'.2 28 (by omega)).trans q6⟩
          rw [f'.1.i (a := 113) (by omega)]
          exact ⟨(q5 i hi).1, fun B' hB => ⟨((q5 i hi).2 B' hB).1, bIn_c (hO.2.2.2 i B' hB) (fun k hk => e112 _ (by omega)) ((q5 i hi).2 B' hB).2⟩⟩
theorem n_pla3 {T p : Nat} {x : Int32} {h : MH} {d : Nat} {Q : Option MV → MH → Prop} (hr : zRf h) (h5 : h.1 111 5 = nI T) (hT : T < 2 ^ 31) (hp : p < 4) (hd : 1 ≤ d) (hx : x < 0 ∨ ¬ x ≤ nI T) (kk : Q (some (.inl (-(nI 3)))) (zsI h 111 0 (nI 0))) : Con mX11_plan d 0 0 [.inr (.inr 111), .inl (nI p), .inl x] h Q := by
  refine u_X11_plan (d1' := 0) hr (by omega) (by omega) ?_
  have e5 : (zsI h 111 0 (nI 0)).1 111 5 = nI T := (zI_k _ _ _ (by decide)).trans h5
  rw [e5, y_3]
  have f := rng_64 hT hx
  rw [nI_l hT] at f
  simp (disch := omega) only [xle_t, xle_f, xlt_t, xlt_f, xeq_t, xeq_f, xle0_t, xle0_f, xlt0_f, x0lt_t, x0lt_f, x0le_t, xeq0_t, xeq0_f, xin, xem_f, xme_f, xlem_f, xlm_f, xml_t, xmle_t, nI_clamp, nI_add, pk_mul, pk_sub, zI_s, zI_k, zI_o, zL_s, zL_k, zL_o, zR_s, zR_k, zR_o, zIL, zIR, zIN, zLI, zLR, zLN, zRI, zRL, zRN, true_and, and_true, not_true_eq_false, not_false_eq_true, true_implies, false_implies, implies_true, forall_const, if_true, if_false, eq_self, false_and, and_false, implies_true, nI_l, ylle_t, ylle_f, xcl_t, xcl_f]
  refine ⟨fun q1 => ⟨fun q2 => ?_, fun _ => kk⟩, fun _ => kk⟩
  exact (f.mp ⟨q1, q2⟩).elim
theorem p_plan (hO : sO S) (x y : Int32) : ∃ S' r, cOp mX10_plan 0 0 [.inl x, .inl y] S S' (.inl r) ∧ mOp mX11_plan [.inl x, .inl y] S S' (.inl r) := by
  have t4 := hO.2.1.1
  rcases ix3 x (n := 4) (by omega) with ⟨z, x1, x2⟩ | ⟨z, x1, x2, x3, _, x4, _⟩ | ⟨p, hp4, rfl, z⟩
  · refine ⟨S, -(nI 2), fun h d Q hd hr hc hm kk => ?_, fun h d Q hd hr hc hm kk => ?_⟩
    · refine u_X10_plan (d1' := d - 1) hr (by omega) (by omega) ?_
      simp (disch := omega) only [xle_t, xle_f, xlt_t, xlt_f, xeq_t, xeq_f, xle0_t, xle0_f, xlt0_f, x0lt_t, x0lt_f, x0le_t, xeq0_t, xeq0_f, xin, xem_f, xme_f, xlem_f, xlm_f, xml_t, xmle_t, nI_clamp, nI_add, pk_mul, pk_sub, zI_s, zI_k, zI_o, zL_s, zL_k, zL_o, zR_s, zR_k, zR_o, zIL, zIR, zIN, zLI, zLR, zLN, zRI, zRL, zRN, true_and, and_true, not_true_eq_false, not_false_eq_true, true_implies, false_implies, implies_true, forall_const, if_true, if_false, eq_self, false_and, and_false, implies_true, nI_l, ylle_t, ylle_f, xcl_t, xcl_f, x1]
      exact kk h hr hO hc hm
    · refine u_X11_plan (d1' := d - 1) hr (by omega) (by omega) ?_
      simp (disch := omega) only [xle_t, xle_f, xlt_t, xlt_f, xeq_t, xeq_f, xle0_t, xle0_f, xlt0_f, x0lt_t, x0lt_f, x0le_t, xeq0_t, xeq0_f, xin, xem_f, xme_f, xlem_f, xlm_f, xml_t, xmle_t, nI_clamp, nI_add, pk_mul, pk_sub, zI_s, zI_k, zI_o, zL_s, zL_k, zL_o, zR_s, zR_k, zR_o, zIL, zIR, zIN, zLI, zLR, zLN, zRI, zRL, zRN, true_and, and_true, not_true_eq_false, not_false_eq_true, true_implies, false_implies, implies_true, forall_const, if_true, if_false, eq_self, false_and, and_false, implies_true, nI_l, ylle_t, ylle_f, xcl_t, xcl_f, x2]
      exact kk _ hr (hc.mk (zF_I _ _ _ (by omega))) (hm.mk (mK_0 h))
  · refine ⟨S, -(nI 2), fun h d Q hd hr hc hm kk => ?_, fun h d Q hd hr hc hm kk => ?_⟩
    · refine u_X10_plan (d1' := d - 1) hr (by omega) (by omega) ?_
      simp (disch := omega) only [xle_t, xle_f, xlt_t, xlt_f, xeq_t, xeq_f, xle0_t, xle0_f, xlt0_f, x0lt_t, x0lt_f, x0le_t, xeq0_t, xeq0_f, xin, xem_f, xme_f, xlem_f, xlm_f, xml_t, xmle_t, nI_clamp, nI_add, pk_mul, pk_sub, zI_s, zI_k, zI_o, zL_s, zL_k, zL_o, zR_s, zR_k, zR_o, zIL, zIR, zIN, zLI, zLR, zLN, zRI, zRL, zRN, true_and, and_true, not_true_eq_false, not_false_eq_true, true_implies, false_implies, implies_true, forall_const, if_true, if_false, eq_self, false_and, and_false, implies_true, nI_l, ylle_t, ylle_f, xcl_t, xcl_f, x1, x2]
      exact kk h hr hO hc hm
    · refine u_X11_plan (d1' := d - 1) hr (by omega) (by omega) ?_
      simp (disch := omega) only [xle_t, xle_f, xlt_t, xlt_f, xeq_t, xeq_f, xle0_t, xle0_f, xlt0_f, x0lt_t, x0lt_f, x0le_t, xeq0_t, xeq0_f, xin, xem_f, xme_f, xlem_f, xlm_f, xml_t, xmle_t, nI_clamp, nI_add, pk_mul, pk_sub, zI_s, zI_k, zI_o, zL_s, zL_k, zL_o, zR_s, zR_k, zR_o, zIL, zIR, zIN, zLI, zLR, zLN, zRI, zRL, zRN, true_and, and_true, not_true_eq_false, not_false_eq_true, true_implies, false_implies, implies_true, forall_const, if_true, if_false, eq_self, false_and, and_false, implies_true, nI_l, ylle_t, ylle_f, xcl_t, xcl_f, x3, y_3, x4 3 rfl]
      exact kk _ hr (hc.mk (zF_I _ _ _ (by omega))) (hm.mk (mK_0 h))
  rcases rng_c y (T := S.2.1.1) (by omega) with hx | ⟨n, hn, rfl⟩
  · exact ⟨S, -(nI 3), fun h d Q hd hr hc hm kk => o_pla3 hr hc.2.1.1 hp4 (by omega) hx (kk h hr hO hc hm), fun h d Q hd hr hc hm kk => n_pla3 hr hm.2.1.1 (by omega) hp4 (by omega) hx (kk _ hr (hc.mk (zF_I _ _ _ (by omega))) (hm.mk (mK_0 h)))⟩
  · cases hp : pPl S.2.1.2 n 21 (kTk S.2.1.2 n 0) pNil with
    | inl e =>
      refine ⟨(S.1, (0, S.2.1.2), (nI e.1, nI e.2), S.2.2.2), -(nI (30 + e.1)), fun h d Q hd hr hc hm kk => ?_, fun h d Q hd hr hc hm kk => ?_⟩
      · refine o_pla kStr_ok hr (tCk hc.2.1 hO.2.1 hn) hp4 hc.2.1.1 ⟨hn, t4⟩ (by omega) (fun e' h' he r' f' k' e1 e36 e37 => ?_) (fun C h' he => ?_)
        · cases hp.symm.trans he
          obtain ⟨q1, q2, q3, q4, q5, _, _, _⟩ := id hc
          obtain ⟨w1, w2, w3⟩ := hc.caches (f'.weak (fun a q => by omega))
          rw [neg30]
          exact kk h' r' ⟨hO.1, tOK_0, hO.2.2⟩ ⟨q1.keep (fun k hk => f'.i (by omega)), tC_0 e1, ⟨e36, e37⟩, q4.keep (f'.weak (fun a q => by omega)), q5.keep (f'.weak (fun a q => by omega)), w1, w2, w3⟩ (hm.k (f'.weak (fun a q => by omega)))
        · cases hp.symm.trans he
      · refine n_pla kStr_ok hr (tMk hm.2.1 hO.2.1 hn) hp4 hm.2.1.1 ⟨hn, t4⟩ (by omega) (fun e' h' he be r' f' e112 e5 e13 e14 => ?_) (fun C h' he => ?_)
        · cases hp.symm.trans he
          obtain ⟨q1, q2, q3, q4, q5, q6⟩ := hm
          refine kk h' r' (hc.mk (f'.1.weak (fun a q => by omega))) ⟨by rw [e112]; exact q1, tM_0 e5, ⟨e13, e14⟩, q4.keep (f'.1.weak (fun a q => by omega)), fun i hi => by rw [f'.1.i (a := 113) (by omega), e112]; exact q5 i hi, (f'.2 28 (by omega)).trans q6⟩
        · cases hp.symm.trans he
    | inr P =>
      refine ⟨((S.1.1, kU S.1.2 p P), (0, S.2.1.2), (nI 0, -(nI 1)), S.2.2.2), nI P.1, fun h d Q hd hr hc hm kk => ?_, fun h d Q hd hr hc hm kk => ?_⟩
      · refine o_pla kStr_ok hr (tCk hc.2.1 hO.2.1 hn) hp4 hc.2.1.1 ⟨hn, t4⟩ (by omega) (fun e' h' he => ?_) (fun P' h' he hP r' f' k' e1 e36 e37 p' e58 => ?_)
        · cases hp.symm.trans he
        · cases hp.symm.trans he
          obtain ⟨q1, q2, q3, q4, q5, _, ⟨w1, w2⟩, w3⟩ := id hc
          refine kk h' r' ⟨⟨hO.1.1, fun q hq => ?_⟩, tOK_0, hO.2.2⟩ ⟨⟨q1.1.keep (fun k hk => f'.i (by omega)), fun q hq => ?_⟩, tC_0 e1, ⟨e36, e37⟩, q4.keep (f'.weak (fun a q => by omega)), q5.keep (f'.weak (fun a q => by omega)), Or.inl e58, ⟨w1.keep (f'.i (by omega)) (f'.l (by omega)), w2.keep (f'.i (by omega)) (f'.l (by omega))⟩, w3.keep (f'.i (by omega)) (f'.l (by omega))⟩ (hm.k (f'.weak (fun a q => by omega)))
          · show pOK (kU S.1.2 p P q)
            by_cases y : q = p
            · rw [y, kU_s]; exact hP
            · rw [kU_o _ _ y]; exact hO.1.2 q hq
          · show pAt (kU S.1.2 p P q) h' (15 + 7 + 6 * q)
            by_cases y : q = p
            · rw [y, kU_s, show 15 + 7 + 6 * p = 22 + 6 * p by omega]; exact p'
            · rw [kU_o _ _ y]; exact (q1.2 q hq).keep (fun k hk => f'.i (by omega))
      · refine n_pla kStr_ok hr (tMk hm.2.1 hO.2.1 hn) hp4 hm.2.1.1 ⟨hn, t4⟩ (by omega) (fun e' h' he => ?_) (fun P' h' he r' f' p' e112 e5 e13 e14 => ?_)
        · cases hp.symm.trans he
        · cases hp.symm.trans he
          obtain ⟨q1, q2, q3, q4, q5, q6⟩ := hm
          refine kk h' r' (hc.mk (f'.1.weak (fun a q => by omega))) ⟨⟨cIn_c hO.1.1 (fun k hk => e112 _ (by omega)) q1.1, fun q hq => ?_⟩, tM_0 e5, ⟨e13, e14⟩, q4.keep (f'.1.weak (fun a q => by omega)), fun i hi => ?_, (f'.2 28 (by omega)).trans q6⟩
          · show pIn (kU S.1.2 p P q) (h'.1 112) (0 + 74 + 162 * q)
            by_cases y : q = p
            · rw [y, kU_s, show 0 + 74 + 162 * p = 74 + 162 * p by omega]; exact p'
            · rw [kU_o _ _ y]; exact pIn_c (hO.1.2 q hq) (fun k hk => e112 _ (by omega)) (q1.2 q hq)
          · rw [f'.1.i (a := 113) (by omega)]
            exact ⟨(q5 i hi).1, fun B' hB => ⟨((q5 i hi).2 B' hB).1, bIn_c (hO.2.2.2 i B' hB) (fun k hk => e112 _ (by omega)) ((q5 i hi).2 B' hB).2⟩⟩
end CH
