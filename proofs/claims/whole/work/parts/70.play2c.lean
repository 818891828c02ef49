/-! ===== play (class) ===== -/
theorem xb1 : ∀ i, i < 32 → bt (nI 1) i = decide (i = 0) := by decide +kernel
theorem xbit (x : Int32) {c : Nat} (hc : c < 31) : ((x >>> (nI c &&& 31)) &&& (nI 1) = 0) = (bt x c = false) := by
  refine propext ⟨fun h => ?_, fun h => ?_⟩
  · have h1 : bt ((x >>> (nI c &&& 31)) &&& (nI 1)) 0 = false := by rw [h, b_0]
    rw [b_and, b_sshr c (by omega) x (by omega), xb1 0 (by omega), if_pos (by omega)] at h1
    simpa using h1
  · refine b_ext (fun i hi => ?_)
    rw [b_and, b_sshr c (by omega) x hi, xb1 i hi, b_0]
    by_cases e : i = 0
    · rw [e, if_pos (by omega), Nat.add_zero, h]; rfl
    · rw [decide_eq_false e, Bool.and_false]
theorem rBit_b {r : Nat} (hr : r < 31) : ∀ i, i < 32 → bt (rBit r) i = decide (i = r) := by
  intro i hi
  unfold rBit
  rw [b_shl r (by omega) _ hi]
  by_cases e : r ≤ i
  · rw [decide_eq_true e, xb1 _ (by omega), Bool.true_and]
    by_cases e2 : i = r
    · rw [decide_eq_true e2, decide_eq_true (by omega)]
    · rw [decide_eq_false e2, decide_eq_false (by omega)]
  · rw [decide_eq_false e, decide_eq_false (by omega), Bool.false_and]
theorem rBits_b (E : Nat → Bool) : ∀ n, n ≤ 8 → ∀ i, i < 32 → bt (rBits E n) i = (decide (i < n) && E i)
  | 0, _, i, _ => by
    rw [decide_eq_false (Nat.not_lt_zero _), Bool.false_and]
    show bt (nI 0) i = false
    rw [nI_0, b_0]
  | n + 1, h, i, hi => by
    have ih := rBits_b E n (by omega) i hi
    show bt (if E n = true then rBits E n ||| rBit n else rBits E n) i = _
    by_cases e : E n = true
    · rw [if_pos e, b_or, ih, rBit_b (by omega) i hi]
      by_cases q : i = n
      · rw [q, decide_eq_true (show n < n + 1 by omega), e, decide_eq_true rfl]; simp
      · rw [decide_eq_false q, Bool.or_false]
        by_cases w : i < n
        · rw [decide_eq_true w, decide_eq_true (show i < n + 1 by omega)]
        · rw [decide_eq_false w, decide_eq_false (show ¬ i < n + 1 by omega)]
    · rw [if_neg e, ih]
      have e' : E n = false := by cases z : E n with
        | false => rfl
        | true => exact absurd z e
      by_cases q : i = n
      · rw [q, e', Bool.and_false, Bool.and_false]
      · by_cases w : i < n
        · rw [decide_eq_true w, decide_eq_true (show i < n + 1 by omega)]
        · rw [decide_eq_false w, decide_eq_false (show ¬ i < n + 1 by omega)]
theorem c_begr {P : PL} {n lo pa : Nat} {f : Nat → Nat} {h : MH} {d : Nat} {Q : Option MV → MH → Prop} (hr : zRf h) (hn : n ≤ 8) (h48 : h.1 48 0 = nI n) (hf : ∀ c, c < n → h.1 49 c = nI (f c)) (hpo : zokO h pa 5) (hpa : pa + 5 < 48) (hP : pAt P h pa) (kk : ∀ h', zRf h' → zF (fun a => a < 48 ∨ 56 < a ∨ a = 49) h h' → kS n (rStart f) h' → kP P pa lo h' → Q none h') : Con mX8_begin d 0 0 [.inr (.inr 48), .inr (.inr pa), .inl (loI lo)] h Q := by
  refine u_X8_begin hr ?_
  have L : ∀ m c, c + m = n → ∀ g : MH, zRf g → zF (fun a => a < 48 ∨ 56 < a ∨ a = 49) h g → g.1 48 0 = nI n → kT (rStart f).2 g → g.2.2.1 48 14 = pa → g.1 48 15 = loI lo → (∀ x, x < c → g.1 50 x = nI (f x) ∧ g.1 51 x = nI 0 ∧ g.1 52 x = nI (f x) ∧ g.1 53 x = -(nI 1) ∧ g.1 54 x = nI x ∧ g.1 55 x = -(nI 1)) → J mX8_begin d 0 0 Q 0 0 37 [some (.inr (.inr 48)), some (.inr (.inr pa)), some (.inl (loI lo)), some (.inl (nI c))] [] g := by
    intro m
    induction m with
    | zero =>
      intro c hc g rg fg g0 tg gp gl hx
      obtain rfl : c = n := by omega
      refine u_X8_begin_37 rg ?_
      simp (disch := omega) only [xle_t, xle_f, xlt_t, xlt_f, xeq_t, xeq_f, xle0_t, xle0_f, xlt0_f, x0lt_t, x0lt_f, x0le_t, xeq0_t, xeq0_f, xin, xem_f, xme_f, xlem_f, xlm_f, xml_t, xmle_t, nI_clamp, nI_add, pk_mul, pk_sub, zI_s, zI_k, zI_o, zL_s, zL_k, zL_o, zR_s, zR_k, zR_o, zIL, zIR, zIN, zLI, zLR, zLN, zRI, zRL, zRN, true_and, and_true, not_true_eq_false, not_false_eq_true, true_implies, false_implies, implies_true, forall_const, if_true, if_false, eq_self, false_and, and_false, implies_true, g0]
      refine kk g rg fg ⟨⟨g0, fun x hxn => ?_⟩, tg⟩ ⟨gp, ⟨hpo.1, ?_, hpo.2.2⟩, hpa, hP.keep (fun k hk => fg.i (by omega)), gl⟩
      · obtain ⟨x0, x1, x2, x3, x4, x5⟩ := hx x hxn
        exact ⟨x0, x1, x2, x5, fun _ => ⟨[], rfl, ⟨x3, trivial⟩, x4⟩⟩
      · rw [fg.2]; exact hpo.2.1
    | succ m ih =>
      intro c hc g rg fg g0 tg gp gl hx
      have e49 : g.1 49 c = nI (f c) := by rw [fg.i (by omega)]; exact hf c (by omega)
      refine u_X8_begin_37 rg ?_
      simp (disch := omega) only [xle_t, xle_f, xlt_t, xlt_f, xeq_t, xeq_f, xle0_t, xle0_f, xlt0_f, x0lt_t, x0lt_f, x0le_t, xeq0_t, xeq0_f, xin, xem_f, xme_f, xlem_f, xlm_f, xml_t, xmle_t, nI_clamp, nI_add, pk_mul, pk_sub, zI_s, zI_k, zI_o, zL_s, zL_k, zL_o, zR_s, zR_k, zR_o, zIL, zIR, zIN, zLI, zLR, zLN, zRI, zRL, zRN, true_and, and_true, not_true_eq_false, not_false_eq_true, true_implies, false_implies, implies_true, forall_const, if_true, if_false, eq_self, false_and, and_false, implies_true, g0, e49]
      refine ih (c + 1) (by omega) _ rg (fg.trans ((((((zF_I _ _ _ (by omega)).trans (zF_I _ _ _ (by omega))).trans (zF_I _ _ _ (by omega))).trans (zF_I _ _ _ (by omega))).trans (zF_I _ _ _ (by omega))).trans (zF_I _ _ _ (by omega)))) ?_ (tg.keep ?_ ?_ rfl) gp ?_ (fun x hxc => ?_)
      · simp (disch := omega) only [xle_t, xle_f, xlt_t, xlt_f, xeq_t, xeq_f, xle0_t, xle0_f, xlt0_f, x0lt_t, x0lt_f, x0le_t, xeq0_t, xeq0_f, xin, xem_f, xme_f, xlem_f, xlm_f, xml_t, xmle_t, nI_clamp, nI_add, pk_mul, pk_sub, zI_s, zI_k, zI_o, zL_s, zL_k, zL_o, zR_s, zR_k, zR_o, zIL, zIR, zIN, zLI, zLR, zLN, zRI, zRL, zRN, true_and, and_true, not_true_eq_false, not_false_eq_true, true_implies, false_implies, implies_true, forall_const, if_true, if_false, eq_self, false_and, and_false, implies_true, g0]
      · simp (disch := omega) only [xle_t, xle_f, xlt_t, xlt_f, xeq_t, xeq_f, xle0_t, xle0_f, xlt0_f, x0lt_t, x0lt_f, x0le_t, xeq0_t, xeq0_f, xin, xem_f, xme_f, xlem_f, xlm_f, xml_t, xmle_t, nI_clamp, nI_add, pk_mul, pk_sub, zI_s, zI_k, zI_o, zL_s, zL_k, zL_o, zR_s, zR_k, zR_o, zIL, zIR, zIN, zLI, zLR, zLN, zRI, zRL, zRN, true_and, and_true, not_true_eq_false, not_false_eq_true, true_implies, false_implies, implies_true, forall_const, if_true, if_false, eq_self, false_and, and_false, implies_true]
      · simp (disch := omega) only [xle_t, xle_f, xlt_t, xlt_f, xeq_t, xeq_f, xle0_t, xle0_f, xlt0_f, x0lt_t, x0lt_f, x0le_t, xeq0_t, xeq0_f, xin, xem_f, xme_f, xlem_f, xlm_f, xml_t, xmle_t, nI_clamp, nI_add, pk_mul, pk_sub, zI_s, zI_k, zI_o, zL_s, zL_k, zL_o, zR_s, zR_k, zR_o, zIL, zIR, zIN, zLI, zLR, zLN, zRI, zRL, zRN, true_and, and_true, not_true_eq_false, not_false_eq_true, true_implies, false_implies, implies_true, forall_const, if_true, if_false, eq_self, false_and, and_false, implies_true]
      · simp (disch := omega) only [xle_t, xle_f, xlt_t, xlt_f, xeq_t, xeq_f, xle0_t, xle0_f, xlt0_f, x0lt_t, x0lt_f, x0le_t, xeq0_t, xeq0_f, xin, xem_f, xme_f, xlem_f, xlm_f, xml_t, xmle_t, nI_clamp, nI_add, pk_mul, pk_sub, zI_s, zI_k, zI_o, zL_s, zL_k, zL_o, zR_s, zR_k, zR_o, zIL, zIR, zIN, zLI, zLR, zLN, zRI, zRL, zRN, true_and, and_true, not_true_eq_false, not_false_eq_true, true_implies, false_implies, implies_true, forall_const, if_true, if_false, eq_self, false_and, and_false, implies_true, gl]
      · by_cases y : x = c
        · subst y
          simp (disch := omega) only [xle_t, xle_f, xlt_t, xlt_f, xeq_t, xeq_f, xle0_t, xle0_f, xlt0_f, x0lt_t, x0lt_f, x0le_t, xeq0_t, xeq0_f, xin, xem_f, xme_f, xlem_f, xlm_f, xml_t, xmle_t, nI_clamp, nI_add, pk_mul, pk_sub, zI_s, zI_k, zI_o, zL_s, zL_k, zL_o, zR_s, zR_k, zR_o, zIL, zIR, zIN, zLI, zLR, zLN, zRI, zRL, zRN, true_and, and_true, not_true_eq_false, not_false_eq_true, true_implies, false_implies, implies_true, forall_const, if_true, if_false, eq_self, false_and, and_false, implies_true]
        · obtain ⟨x0, x1, x2, x3, x4, x5⟩ := hx x (by omega)
          simp (disch := omega) only [xle_t, xle_f, xlt_t, xlt_f, xeq_t, xeq_f, xle0_t, xle0_f, xlt0_f, x0lt_t, x0lt_f, x0le_t, xeq0_t, xeq0_f, xin, xem_f, xme_f, xlem_f, xlm_f, xml_t, xmle_t, nI_clamp, nI_add, pk_mul, pk_sub, zI_s, zI_k, zI_o, zL_s, zL_k, zL_o, zR_s, zR_k, zR_o, zIL, zIR, zIN, zLI, zLR, zLN, zRI, zRL, zRN, true_and, and_true, not_true_eq_false, not_false_eq_true, true_implies, false_implies, implies_true, forall_const, if_true, if_false, eq_self, false_and, and_false, implies_true, x0, x1, x2, x3, x4, x5]
  refine L n 0 (by omega) _ ?_ ?_ ?_ ?_ ?_ ?_ (fun x hx => absurd hx (Nat.not_lt_zero _))
  · exact zRf_R hr pa rfl hpo.2.1
  · refine ⟨fun a ha => ⟨?_, ?_, ?_⟩, rfl⟩
    · simp (disch := omega) only [xle_t, xle_f, xlt_t, xlt_f, xeq_t, xeq_f, xle0_t, xle0_f, xlt0_f, x0lt_t, x0lt_f, x0le_t, xeq0_t, xeq0_f, xin, xem_f, xme_f, xlem_f, xlm_f, xml_t, xmle_t, nI_clamp, nI_add, pk_mul, pk_sub, zI_s, zI_k, zI_o, zL_s, zL_k, zL_o, zR_s, zR_k, zR_o, zIL, zIR, zIN, zLI, zLR, zLN, zRI, zRL, zRN, true_and, and_true, not_true_eq_false, not_false_eq_true, true_implies, false_implies, implies_true, forall_const, if_true, if_false, eq_self, false_and, and_false, implies_true]
    · simp (disch := omega) only [xle_t, xle_f, xlt_t, xlt_f, xeq_t, xeq_f, xle0_t, xle0_f, xlt0_f, x0lt_t, x0lt_f, x0le_t, xeq0_t, xeq0_f, xin, xem_f, xme_f, xlem_f, xlm_f, xml_t, xmle_t, nI_clamp, nI_add, pk_mul, pk_sub, zI_s, zI_k, zI_o, zL_s, zL_k, zL_o, zR_s, zR_k, zR_o, zIL, zIR, zIN, zLI, zLR, zLN, zRI, zRL, zRN, true_and, and_true, not_true_eq_false, not_false_eq_true, true_implies, false_implies, implies_true, forall_const, if_true, if_false, eq_self, false_and, and_false, implies_true]
    · simp (disch := omega) only [xle_t, xle_f, xlt_t, xlt_f, xeq_t, xeq_f, xle0_t, xle0_f, xlt0_f, x0lt_t, x0lt_f, x0le_t, xeq0_t, xeq0_f, xin, xem_f, xme_f, xlem_f, xlm_f, xml_t, xmle_t, nI_clamp, nI_add, pk_mul, pk_sub, zI_s, zI_k, zI_o, zL_s, zL_k, zL_o, zR_s, zR_k, zR_o, zIL, zIR, zIN, zLI, zLR, zLN, zRI, zRL, zRN, true_and, and_true, not_true_eq_false, not_false_eq_true, true_implies, false_implies, implies_true, forall_const, if_true, if_false, eq_self, false_and, and_false, implies_true]
  · simp (disch := omega) only [xle_t, xle_f, xlt_t, xlt_f, xeq_t, xeq_f, xle0_t, xle0_f, xlt0_f, x0lt_t, x0lt_f, x0le_t, xeq0_t, xeq0_f, xin, xem_f, xme_f, xlem_f, xlm_f, xml_t, xmle_t, nI_clamp, nI_add, pk_mul, pk_sub, zI_s, zI_k, zI_o, zL_s, zL_k, zL_o, zR_s, zR_k, zR_o, zIL, zIR, zIN, zLI, zLR, zLN, zRI, zRL, zRN, true_and, and_true, not_true_eq_false, not_false_eq_true, true_implies, false_implies, implies_true, forall_const, if_true, if_false, eq_self, false_and, and_false, implies_true, h48]
  · refine ⟨?_, fun k hk => absurd hk (Nat.not_lt_zero _), fun i hi => ?_, ?_, ?_, ?_⟩
    · simp (disch := omega) only [xle_t, xle_f, xlt_t, xlt_f, xeq_t, xeq_f, xle0_t, xle0_f, xlt0_f, x0lt_t, x0lt_f, x0le_t, xeq0_t, xeq0_f, xin, xem_f, xme_f, xlem_f, xlm_f, xml_t, xmle_t, nI_clamp, nI_add, pk_mul, pk_sub, zI_s, zI_k, zI_o, zL_s, zL_k, zL_o, zR_s, zR_k, zR_o, zIL, zIR, zIN, zLI, zLR, zLN, zRI, zRL, zRN, true_and, and_true, not_true_eq_false, not_false_eq_true, true_implies, false_implies, implies_true, forall_const, if_true, if_false, eq_self, false_and, and_false, implies_true]; rfl
    · simp (disch := omega) only [xle_t, xle_f, xlt_t, xlt_f, xeq_t, xeq_f, xle0_t, xle0_f, xlt0_f, x0lt_t, x0lt_f, x0le_t, xeq0_t, xeq0_f, xin, xem_f, xme_f, xlem_f, xlm_f, xml_t, xmle_t, nI_clamp, nI_add, pk_mul, pk_sub, zI_s, zI_k, zI_o, zL_s, zL_k, zL_o, zR_s, zR_k, zR_o, zIL, zIR, zIN, zLI, zLR, zLN, zRI, zRL, zRN, true_and, and_true, not_true_eq_false, not_false_eq_true, true_implies, false_implies, implies_true, forall_const, if_true, if_false, eq_self, false_and, and_false, implies_true]
      show (lN 0).toBitVec.getLsbD i = false
      rw [wb_tb]; simp
    · simp (disch := omega) only [xle_t, xle_f, xlt_t, xlt_f, xeq_t, xeq_f, xle0_t, xle0_f, xlt0_f, x0lt_t, x0lt_f, x0le_t, xeq0_t, xeq0_f, xin, xem_f, xme_f, xlem_f, xlm_f, xml_t, xmle_t, nI_clamp, nI_add, pk_mul, pk_sub, zI_s, zI_k, zI_o, zL_s, zL_k, zL_o, zR_s, zR_k, zR_o, zIL, zIR, zIN, zLI, zLR, zLN, zRI, zRL, zRN, true_and, and_true, not_true_eq_false, not_false_eq_true, true_implies, false_implies, implies_true, forall_const, if_true, if_false, eq_self, false_and, and_false, implies_true]; rfl
    · simp (disch := omega) only [xle_t, xle_f, xlt_t, xlt_f, xeq_t, xeq_f, xle0_t, xle0_f, xlt0_f, x0lt_t, x0lt_f, x0le_t, xeq0_t, xeq0_f, xin, xem_f, xme_f, xlem_f, xlm_f, xml_t, xmle_t, nI_clamp, nI_add, pk_mul, pk_sub, zI_s, zI_k, zI_o, zL_s, zL_k, zL_o, zR_s, zR_k, zR_o, zIL, zIR, zIN, zLI, zLR, zLN, zRI, zRL, zRN, true_and, and_true, not_true_eq_false, not_false_eq_true, true_implies, false_implies, implies_true, forall_const, if_true, if_false, eq_self, false_and, and_false, implies_true]; rfl
    · simp (disch := omega) only [xle_t, xle_f, xlt_t, xlt_f, xeq_t, xeq_f, xle0_t, xle0_f, xlt0_f, x0lt_t, x0lt_f, x0le_t, xeq0_t, xeq0_f, xin, xem_f, xme_f, xlem_f, xlm_f, xml_t, xmle_t, nI_clamp, nI_add, pk_mul, pk_sub, zI_s, zI_k, zI_o, zL_s, zL_k, zL_o, zR_s, zR_k, zR_o, zIL, zIR, zIN, zLI, zLR, zLN, zRI, zRL, zRN, true_and, and_true, not_true_eq_false, not_false_eq_true, true_implies, false_implies, implies_true, forall_const, if_true, if_false, eq_self, false_and, and_false, implies_true]; rfl
  · simp (disch := omega) only [xle_t, xle_f, xlt_t, xlt_f, xeq_t, xeq_f, xle0_t, xle0_f, xlt0_f, x0lt_t, x0lt_f, x0le_t, xeq0_t, xeq0_f, xin, xem_f, xme_f, xlem_f, xlm_f, xml_t, xmle_t, nI_clamp, nI_add, pk_mul, pk_sub, zI_s, zI_k, zI_o, zL_s, zL_k, zL_o, zR_s, zR_k, zR_o, zIL, zIR, zIN, zLI, zLR, zLN, zRI, zRL, zRN, true_and, and_true, not_true_eq_false, not_false_eq_true, true_implies, false_implies, implies_true, forall_const, if_true, if_false, eq_self, false_and, and_false, implies_true]
  · simp (disch := omega) only [xle_t, xle_f, xlt_t, xlt_f, xeq_t, xeq_f, xle0_t, xle0_f, xlt0_f, x0lt_t, x0lt_f, x0le_t, xeq0_t, xeq0_f, xin, xem_f, xme_f, xlem_f, xlm_f, xml_t, xmle_t, nI_clamp, nI_add, pk_mul, pk_sub, zI_s, zI_k, zI_o, zL_s, zL_k, zL_o, zR_s, zR_k, zR_o, zIL, zIR, zIN, zLI, zLR, zLN, zRI, zRL, zRN, true_and, and_true, not_true_eq_false, not_false_eq_true, true_implies, false_implies, implies_true, forall_const, if_true, if_false, eq_self, false_and, and_false, implies_true]
