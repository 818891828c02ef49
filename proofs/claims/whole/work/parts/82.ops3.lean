/-! ===== rest, flames, days ===== -/
theorem rLoop_ge {P : PL} {n lo u : Nat} : ∀ (m : Nat) (R : RS), R.2.2.2.2.2 ≤ (rLoop P n lo u m R).2.2.2.2.2
  | 0, R => Nat.le_refl _
  | m + 1, R => by
    show R.2.2.2.2.2 ≤ (match rNx R.1 n 0 none with
      | none => R
      | some s => if R.2.2.2.2.2 + s ≤ u then rLoop P n lo u m (rTurn P n lo s R) else (rBurn (u - R.2.2.2.2.2) n 0 R.1, rTick (u - R.2.2.2.2.2) R.2)).2.2.2.2.2
    cases rNx R.1 n 0 none with
    | none => exact Nat.le_refl _
    | some s =>
      show R.2.2.2.2.2 ≤ (if R.2.2.2.2.2 + s ≤ u then rLoop P n lo u m (rTurn P n lo s R) else (rBurn (u - R.2.2.2.2.2) n 0 R.1, rTick (u - R.2.2.2.2.2) R.2)).2.2.2.2.2
      split
      · have h1 := rLoop_ge (P := P) (n := n) (lo := lo) (u := u) m (rTurn P n lo s R)
        have h2 := (rEnds_st P n lo (rE (rBurn s n 0 R.1)) 0 n 0 (rAway (rBurn s n 0 R.1) (R.2.2.2.2.2 + s) n, rTick s R.2)).2.2
        have h3 : (rTurn P n lo s R).2.2.2.2.2 = R.2.2.2.2.2 + s := h2
        omega
      · exact Nat.le_add_right _ _
theorem rTurn_no (P : PL) (n lo s : Nat) (R : RS) : (rTurn P n lo s R).2.2.2.2.2 = R.2.2.2.2.2 + s := (rEnds_st P n lo (rE (rBurn s n 0 R.1)) 0 n 0 (rAway (rBurn s n 0 R.1) (R.2.2.2.2.2 + s) n, rTick s R.2)).2.2
theorem rLoop_u {P : PL} {n lo u v : Nat} (hP : pOK P) (hv : 400000000 ≤ v) : ∀ (m t : Nat) (R : RS), t + m = 8 → rH P n t R → (rLoop P n lo v m R).2.2.2.2.2 ≤ u → rLoop P n lo u m R = rLoop P n lo v m R
  | 0, t, R, _, _, _ => rfl
  | m + 1, t, R, ht, h, hu => by
    have hu' : (match rNx R.1 n 0 none with
      | none => R
      | some s => if R.2.2.2.2.2 + s ≤ v then rLoop P n lo v m (rTurn P n lo s R) else (rBurn (v - R.2.2.2.2.2) n 0 R.1, rTick (v - R.2.2.2.2.2) R.2)).2.2.2.2.2 ≤ u := hu
    show (match rNx R.1 n 0 none with
      | none => R
      | some s => if R.2.2.2.2.2 + s ≤ u then rLoop P n lo u m (rTurn P n lo s R) else (rBurn (u - R.2.2.2.2.2) n 0 R.1, rTick (u - R.2.2.2.2.2) R.2)) = (match rNx R.1 n 0 none with
      | none => R
      | some s => if R.2.2.2.2.2 + s ≤ v then rLoop P n lo v m (rTurn P n lo s R) else (rBurn (v - R.2.2.2.2.2) n 0 R.1, rTick (v - R.2.2.2.2.2) R.2))
    cases hx : rNx R.1 n 0 none with
    | none => rfl
    | some s =>
      obtain ⟨b1, b2⟩ := rNx_4 h.1 hx
      rw [hx] at hu'
      have hu2 : (if R.2.2.2.2.2 + s ≤ v then rLoop P n lo v m (rTurn P n lo s R) else (rBurn (v - R.2.2.2.2.2) n 0 R.1, rTick (v - R.2.2.2.2.2) R.2)).2.2.2.2.2 ≤ u := hu'
      rw [if_pos (by omega)] at hu2
      show (if R.2.2.2.2.2 + s ≤ u then rLoop P n lo u m (rTurn P n lo s R) else (rBurn (u - R.2.2.2.2.2) n 0 R.1, rTick (u - R.2.2.2.2.2) R.2)) = if R.2.2.2.2.2 + s ≤ v then rLoop P n lo v m (rTurn P n lo s R) else (rBurn (v - R.2.2.2.2.2) n 0 R.1, rTick (v - R.2.2.2.2.2) R.2)
      have h1 := rLoop_ge (P := P) (n := n) (lo := lo) (u := v) m (rTurn P n lo s R)
      rw [rTurn_no] at h1
      rw [if_pos (by omega), if_pos (by omega)]
      exact rLoop_u hP hv m (t + 1) _ (by omega) (rH_turn hP h (by omega) hx) hu2
theorem rLoop_n {P : PL} {n lo v : Nat} (hP : pOK P) (hv : 400000000 ≤ v) : ∀ (m t : Nat) (R : RS), t + m = 8 → rH P n t R → rD n (m + 8) R → 256 ∣ (rLoop P n lo v m R).2.2.2.2.2
  | 0, t, R, _, h, hd => hd.2.1
  | m + 1, t, R, ht, h, hd => by
    show 256 ∣ (match rNx R.1 n 0 none with
      | none => R
      | some s => if R.2.2.2.2.2 + s ≤ v then rLoop P n lo v m (rTurn P n lo s R) else (rBurn (v - R.2.2.2.2.2) n 0 R.1, rTick (v - R.2.2.2.2.2) R.2)).2.2.2.2.2
    cases hx : rNx R.1 n 0 none with
    | none => exact Nat.dvd_trans (show 2 ^ 8 ∣ 2 ^ (m + 1 + 8) from Nat.pow_dvd_pow 2 (by omega)) hd.2.1
    | some s =>
      obtain ⟨b1, b2⟩ := rNx_4 h.1 hx
      show 256 ∣ (if R.2.2.2.2.2 + s ≤ v then rLoop P n lo v m (rTurn P n lo s R) else (rBurn (v - R.2.2.2.2.2) n 0 R.1, rTick (v - R.2.2.2.2.2) R.2)).2.2.2.2.2
      rw [if_pos (by omega)]
      refine rLoop_n hP hv m (t + 1) _ (by omega) (rH_turn hP h (by omega) hx) (rD_turn ?_ h.1 hx)
      rw [show m + 8 + 1 = m + 1 + 8 by omega]; exact hd
theorem fT_16 {C : CE} : ∀ c, c < C.1 → 65536 ∣ fT C c := by
  intro c hc
  have : fT C c = cS C c * 256 := if_pos hc
  rw [this]
  unfold cS
  exact ⟨cB C c (C.2.1 c), by omega⟩
theorem rTo_n {B : BK} (hB : bOK B) {p : Nat} (hp : p < 4) : 256 ∣ (rTo B.1 (B.2 p)).2.2.2.2.2 :=
  rLoop_n (hB.2 p hp) (by omega) 8 0 _ (by omega) (rH_start (hB.2 p hp) (fT_ok hB.1)) (rD_rules _ _ ⟨fT_16, Nat.dvd_zero _, fun b hb => absurd hb List.not_mem_nil⟩)
theorem rTo_d {B : BK} (hB : bOK B) {p : Nat} (hp : p < 4) : ∀ b, b ∈ (rTo B.1 (B.2 p)).2.1 → 256 ∣ b := rPlay_d (hB.2 p hp) (fT_ok hB.1) fT_16
/-- the state at so many sparks -/
noncomputable def rAt (C : CE) (P : PL) (t : Nat) : RS := rPlay P C.1 40 (min t 4000000 * 256) (fT C)
theorem rAt_late {B : BK} (hB : bOK B) {p t : Nat} (hp : p < 4) (h : (rTo B.1 (B.2 p)).2.2.2.2.2 / 256 ≤ t) : rAt B.1 (B.2 p) t = rTo B.1 (B.2 p) := by
  obtain ⟨q, hq⟩ := rTo_n hB hp
  have hn := (rTo_o hB hp).2.2.2.1
  refine rLoop_u (hB.2 p hp) (by omega) 8 0 _ (by omega) (rH_start (hB.2 p hp) (fT_ok hB.1)) ?_
  have e : (rTo B.1 (B.2 p)).2.2.2.2.2 ≤ min t 4000000 * 256 := by omega
  exact e
noncomputable def gN (y : Int32) (F : Nat → Int32) : Int32 := if y < 0 then -(nI 3) else F y.toNatClampNeg
theorem gN_neg {y : Int32} {F : Nat → Int32} (h : y < 0) : gN y F = -(nI 3) := if_pos h
theorem gN_nat {t : Nat} {F : Nat → Int32} (h : t < 2 ^ 31) : gN (nI t) F = F t := by unfold gN; rw [if_neg (nI_pos h), nI_clamp h]
theorem x0le_neg {y : Int32} (h : y < 0) : (0 ≤ y) = False := eq_false (fun q => Int32.not_lt.mpr q h)
noncomputable def gRest (B : BK) (x y t : Int32) : Int32 := gP x (fun p => gC B.1.1 y (fun c => gN t (fun t => nI ((rAt B.1 (B.2 p) t).1.1 c / 256))))
noncomputable def gFlam (B : BK) (x y t : Int32) : Int32 := gP x (fun p => gC B.1.1 y (fun c => gN t (fun t => nI ((rAt B.1 (B.2 p) t).1.2.1 c))))
theorem o_rest {B : BK} {h : MH} {d : Nat} {x y t : Int32} {Q : Option MV → MH → Prop} (hr : zRf h) (hA : bAt B h 15) (hB : bOK B) (hd : 6 ≤ d) (kk : ∀ h', zRf h' → cF h h' → Q (some (.inl (gRest B x y t))) h') : Con mX10_rest d 0 0 [.inr (.inr 1), .inl x, .inl y, .inl t] h Q := by
  unfold gRest at kk
  have h8 := hB.1.1
  have hn0 : h.1 16 0 = nI B.1.1 := hA.1.1
  refine u_X10_rest (d1' := 5) hr (by omega) (by omega) ?_
  rcases ix3 x (n := 4) (by omega) with ⟨z, x1, _⟩ | ⟨z, x1, x2, _⟩ | ⟨p, hp, rfl, z⟩
  · rw [gP_none z] at kk
    simp (disch := omega) only [xle_t, xle_f, xlt_t, xlt_f, xeq_t, xeq_f, xle0_t, xle0_f, xlt0_f, x0lt_t, x0lt_f, x0le_t, xeq0_t, xeq0_f, xin, xem_f, xme_f, xlem_f, xlm_f, xml_t, xmle_t, nI_clamp, nI_add, pk_mul, pk_sub, zI_s, zI_k, zI_o, zL_s, zL_k, zL_o, zR_s, zR_k, zR_o, zIL, zIR, zIN, zLI, zLR, zLN, zRI, zRL, zRN, true_and, and_true, not_true_eq_false, not_false_eq_true, true_implies, false_implies, implies_true, forall_const, if_true, if_false, eq_self, false_and, and_false, implies_true, nI_l, ylle_t, ylle_f, xcl_t, xcl_f, x1]
    exact kk h hr zF.rfl
  · rw [gP_none z] at kk
    simp (disch := omega) only [xle_t, xle_f, xlt_t, xlt_f, xeq_t, xeq_f, xle0_t, xle0_f, xlt0_f, x0lt_t, x0lt_f, x0le_t, xeq0_t, xeq0_f, xin, xem_f, xme_f, xlem_f, xlm_f, xml_t, xmle_t, nI_clamp, nI_add, pk_mul, pk_sub, zI_s, zI_k, zI_o, zL_s, zL_k, zL_o, zR_s, zR_k, zR_o, zIL, zIR, zIN, zLI, zLR, zLN, zRI, zRL, zRN, true_and, and_true, not_true_eq_false, not_false_eq_true, true_implies, false_implies, implies_true, forall_const, if_true, if_false, eq_self, false_and, and_false, implies_true, nI_l, ylle_t, ylle_f, xcl_t, xcl_f, x1, x2]
    exact kk h hr zF.rfl
  rw [gP_some hp] at kk
  rcases ix3 y (n := B.1.1) (by omega) with ⟨z, x1, _⟩ | ⟨z, x1, x2, _⟩ | ⟨c, hc, rfl, z⟩
  · rw [gC_none z] at kk
    simp (disch := omega) only [xle_t, xle_f, xlt_t, xlt_f, xeq_t, xeq_f, xle0_t, xle0_f, xlt0_f, x0lt_t, x0lt_f, x0le_t, xeq0_t, xeq0_f, xin, xem_f, xme_f, xlem_f, xlm_f, xml_t, xmle_t, nI_clamp, nI_add, pk_mul, pk_sub, zI_s, zI_k, zI_o, zL_s, zL_k, zL_o, zR_s, zR_k, zR_o, zIL, zIR, zIN, zLI, zLR, zLN, zRI, zRL, zRN, true_and, and_true, not_true_eq_false, not_false_eq_true, true_implies, false_implies, implies_true, forall_const, if_true, if_false, eq_self, false_and, and_false, implies_true, nI_l, ylle_t, ylle_f, xcl_t, xcl_f, x1, hn0]
    exact kk h hr zF.rfl
  · rw [gC_none z] at kk
    simp (disch := omega) only [xle_t, xle_f, xlt_t, xlt_f, xeq_t, xeq_f, xle0_t, xle0_f, xlt0_f, x0lt_t, x0lt_f, x0le_t, xeq0_t, xeq0_f, xin, xem_f, xme_f, xlem_f, xlm_f, xml_t, xmle_t, nI_clamp, nI_add, pk_mul, pk_sub, zI_s, zI_k, zI_o, zL_s, zL_k, zL_o, zR_s, zR_k, zR_o, zIL, zIR, zIN, zLI, zLR, zLN, zRI, zRL, zRN, true_and, and_true, not_true_eq_false, not_false_eq_true, true_implies, false_implies, implies_true, forall_const, if_true, if_false, eq_self, false_and, and_false, implies_true, nI_l, ylle_t, ylle_f, xcl_t, xcl_f, x1, x2, hn0]
    exact kk h hr zF.rfl
  rw [gC_some hc (by omega)] at kk
  by_cases tn : t < 0
  · rw [gN_neg tn] at kk
    simp (disch := omega) only [xle_t, xle_f, xlt_t, xlt_f, xeq_t, xeq_f, xle0_t, xle0_f, xlt0_f, x0lt_t, x0lt_f, x0le_t, xeq0_t, xeq0_f, xin, xem_f, xme_f, xlem_f, xlm_f, xml_t, xmle_t, nI_clamp, nI_add, pk_mul, pk_sub, zI_s, zI_k, zI_o, zL_s, zL_k, zL_o, zR_s, zR_k, zR_o, zIL, zIR, zIN, zLI, zLR, zLN, zRI, zRL, zRN, true_and, and_true, not_true_eq_false, not_false_eq_true, true_implies, false_implies, implies_true, forall_const, if_true, if_false, eq_self, false_and, and_false, implies_true, nI_l, ylle_t, ylle_f, xcl_t, xcl_f, hn0, x0le_neg tn]
    exact kk h hr zF.rfl
  obtain ⟨t, ht, rfl⟩ := nI_of tn
  rw [gN_nat ht] at kk
  simp (disch := omega) only [xle_t, xle_f, xlt_t, xlt_f, xeq_t, xeq_f, xle0_t, xle0_f, xlt0_f, x0lt_t, x0lt_f, x0le_t, xeq0_t, xeq0_f, xin, xem_f, xme_f, xlem_f, xlm_f, xml_t, xmle_t, nI_clamp, nI_add, pk_mul, pk_sub, zI_s, zI_k, zI_o, zL_s, zL_k, zL_o, zR_s, zR_k, zR_o, zIL, zIR, zIN, zLI, zLR, zLN, zRI, zRL, zRN, true_and, and_true, not_true_eq_false, not_false_eq_true, true_implies, false_implies, implies_true, forall_const, if_true, if_false, eq_self, false_and, and_false, implies_true, nI_l, ylle_t, ylle_f, xcl_t, xcl_f, hn0]
  refine c_puntil hr hA hB hp ht (by omega) (fun h1 r1 f1 s1 => ?_)
  have ho := rPlay_o (lo := 40) (u := min t 4000000 * 256) (hB.2 p hp) (fT_ok hB.1)
  have hb := (ho.2.2.2.2.2 c hc).1
  have e50 := (s1.1.1.2 c hc).1
  refine u_X10_rest_37 r1 ?_
  simp (disch := omega) only [xle_t, xle_f, xlt_t, xlt_f, xeq_t, xeq_f, xle0_t, xle0_f, xlt0_f, x0lt_t, x0lt_f, x0le_t, xeq0_t, xeq0_f, xin, xem_f, xme_f, xlem_f, xlm_f, xml_t, xmle_t, nI_clamp, nI_add, pk_mul, pk_sub, zI_s, zI_k, zI_o, zL_s, zL_k, zL_o, zR_s, zR_k, zR_o, zIL, zIR, zIN, zLI, zLR, zLN, zRI, zRL, zRN, true_and, and_true, not_true_eq_false, not_false_eq_true, true_implies, false_implies, implies_true, forall_const, if_true, if_false, eq_self, false_and, and_false, implies_true, nI_l, ylle_t, ylle_f, xcl_t, xcl_f, e50, pk_div]
  exact kk h1 r1 f1.c
theorem o_flam {B : BK} {h : MH} {d : Nat} {x y t : Int32} {Q : Option MV → MH → Prop} (hr : zRf h) (hA : bAt B h 15) (hB : bOK B) (hd : 6 ≤ d) (kk : ∀ h', zRf h' → cF h h' → Q (some (.inl (gFlam B x y t))) h') : Con mX10_flames d 0 0 [.inr (.inr 1), .inl x, .inl y, .inl t] h Q := by
  unfold gFlam at kk
  have h8 := hB.1.1
  have hn0 : h.1 16 0 = nI B.1.1 := hA.1.1
  refine u_X10_flames (d1' := 5) hr (by omega) (by omega) ?_
  rcases ix3 x (n := 4) (by omega) with ⟨z, x1, _⟩ | ⟨z, x1, x2, _⟩ | ⟨p, hp, rfl, z⟩
  · rw [gP_none z] at kk
    simp (disch := omega) only [xle_t, xle_f, xlt_t, xlt_f, xeq_t, xeq_f, xle0_t, xle0_f, xlt0_f, x0lt_t, x0lt_f, x0le_t, xeq0_t, xeq0_f, xin, xem_f, xme_f, xlem_f, xlm_f, xml_t, xmle_t, nI_clamp, nI_add, pk_mul, pk_sub, zI_s, zI_k, zI_o, zL_s, zL_k, zL_o, zR_s, zR_k, zR_o, zIL, zIR, zIN, zLI, zLR, zLN, zRI, zRL, zRN, true_and, and_true, not_true_eq_false, not_false_eq_true, true_implies, false_implies, implies_true, forall_const, if_true, if_false, eq_self, false_and, and_false, implies_true, nI_l, ylle_t, ylle_f, xcl_t, xcl_f, x1]
    exact kk h hr zF.rfl
  · rw [gP_none z] at kk
    simp (disch := omega) only [xle_t, xle_f, xlt_t, xlt_f, xeq_t, xeq_f, xle0_t, xle0_f, xlt0_f, x0lt_t, x0lt_f, x0le_t, xeq0_t, xeq0_f, xin, xem_f, xme_f, xlem_f, xlm_f, xml_t, xmle_t, nI_clamp, nI_add, pk_mul, pk_sub, zI_s, zI_k, zI_o, zL_s, zL_k, zL_o, zR_s, zR_k, zR_o, zIL, zIR, zIN, zLI, zLR, zLN, zRI, zRL, zRN, true_and, and_true, not_true_eq_false, not_false_eq_true, true_implies, false_implies, implies_true, forall_const, if_true, if_false, eq_self, false_and, and_false, implies_true, nI_l, ylle_t, ylle_f, xcl_t, xcl_f, x1, x2]
    exact kk h hr zF.rfl
  rw [gP_some hp] at kk
  rcases ix3 y (n := B.1.1) (by omega) with ⟨z, x1, _⟩ | ⟨z, x1, x2, _⟩ | ⟨c, hc, rfl, z⟩
  · rw [gC_none z] at kk
    simp (disch := omega) only [xle_t, xle_f, xlt_t, xlt_f, xeq_t, xeq_f, xle0_t, xle0_f, xlt0_f, x0lt_t, x0lt_f, x0le_t, xeq0_t, xeq0_f, xin, xem_f, xme_f, xlem_f, xlm_f, xml_t, xmle_t, nI_clamp, nI_add, pk_mul, pk_sub, zI_s, zI_k, zI_o, zL_s, zL_k, zL_o, zR_s, zR_k, zR_o, zIL, zIR, zIN, zLI, zLR, zLN, zRI, zRL, zRN, true_and, and_true, not_true_eq_false, not_false_eq_true, true_implies, false_implies, implies_true, forall_const, if_true, if_false, eq_self, false_and, and_false, implies_true, nI_l, ylle_t, ylle_f, xcl_t, xcl_f, x1, hn0]
    exact kk h hr zF.rfl
  · rw [gC_none z] at kk
    simp (disch := omega) only [xle_t, xle_f, xlt_t, xlt_f, xeq_t, xeq_f, xle0_t, xle0_f, xlt0_f, x0lt_t, x0lt_f, x0le_t, xeq0_t, xeq0_f, xin, xem_f, xme_f, xlem_f, xlm_f, xml_t, xmle_t, nI_clamp, nI_add, pk_mul, pk_sub, zI_s, zI_k, zI_o, zL_s, zL_k, zL_o, zR_s, zR_k, zR_o, zIL, zIR, zIN, zLI, zLR, zLN, zRI, zRL, zRN, true_and, and_true, not_true_eq_false, not_false_eq_true, true_implies, false_implies, implies_true, forall_const, if_true, if_false, eq_self, false_and, and_false, implies_true, nI_l, ylle_t, ylle_f, xcl_t, xcl_f, x1, x2, hn0]
    exact kk h hr zF.rfl
  rw [gC_some hc (by omega)] at kk
  by_cases tn : t < 0
  · rw [gN_neg tn] at kk
    simp (disch := omega) only [xle_t, xle_f, xlt_t, xlt_f, xeq_t, xeq_f, xle0_t, xle0_f, xlt0_f, x0lt_t, x0lt_f, x0le_t, xeq0_t, xeq0_f, xin, xem_f, xme_f, xlem_f, xlm_f, xml_t, xmle_t, nI_clamp, nI_add, pk_mul, pk_sub, zI_s, zI_k, zI_o, zL_s, zL_k, zL_o, zR_s, zR_k, zR_o, zIL, zIR, zIN, zLI, zLR, zLN, zRI, zRL, zRN, true_and, and_true, not_true_eq_false, not_false_eq_true, true_implies, false_implies, implies_true, forall_const, if_true, if_false, eq_self, false_and, and_false, implies_true, nI_l, ylle_t, ylle_f, xcl_t, xcl_f, hn0, x0le_neg tn]
    exact kk h hr zF.rfl
  obtain ⟨t, ht, rfl⟩ := nI_of tn
  rw [gN_nat ht] at kk
  simp (disch := omega) only [xle_t, xle_f, xlt_t, xlt_f, xeq_t, xeq_f, xle0_t, xle0_f, xlt0_f, x0lt_t, x0lt_f, x0le_t, xeq0_t, xeq0_f, xin, xem_f, xme_f, xlem_f, xlm_f, xml_t, xmle_t, nI_clamp, nI_add, pk_mul, pk_sub, zI_s, zI_k, zI_o, zL_s, zL_k, zL_o, zR_s, zR_k, zR_o, zIL, zIR, zIN, zLI, zLR, zLN, zRI, zRL, zRN, true_and, and_true, not_true_eq_false, not_false_eq_true, true_implies, false_implies, implies_true, forall_const, if_true, if_false, eq_self, false_and, and_false, implies_true, nI_l, ylle_t, ylle_f, xcl_t, xcl_f, hn0]
  refine c_puntil hr hA hB hp ht (by omega) (fun h1 r1 f1 s1 => ?_)
  have e51 := (s1.1.1.2 c hc).2.1
  refine u_X10_flames_37 r1 ?_
  simp (disch := omega) only [xle_t, xle_f, xlt_t, xlt_f, xeq_t, xeq_f, xle0_t, xle0_f, xlt0_f, x0lt_t, x0lt_f, x0le_t, xeq0_t, xeq0_f, xin, xem_f, xme_f, xlem_f, xlm_f, xml_t, xmle_t, nI_clamp, nI_add, pk_mul, pk_sub, zI_s, zI_k, zI_o, zL_s, zL_k, zL_o, zR_s, zR_k, zR_o, zIL, zIR, zIN, zLI, zLR, zLN, zRI, zRL, zRN, true_and, and_true, not_true_eq_false, not_false_eq_true, true_implies, false_implies, implies_true, forall_const, if_true, if_false, eq_self, false_and, and_false, implies_true, nI_l, ylle_t, ylle_f, xcl_t, xcl_f, e51]
  exact kk h1 r1 f1.c
theorem n_rto {B : BK} {h : MH} {d p t : Nat} {Q : Option MV → MH → Prop} (hr : zRf h) (hA : bIn B (h.1 112) 0) (hB : bOK B) (h28 : h.1 111 28 = -(nI 1)) (hp : p < 4) (ht : t < 2 ^ 31) (hd : 5 ≤ d) (kk : ∀ h', zRf h' → mK h h' → mS B.1.1 (rAt B.1 (B.2 p) t) h' → Q none h') : Con mX11_runsTo d 0 0 [.inr (.inr 111), .inl (nI p), .inl (nI t)] h Q := by
  refine u_X11_runsTo (d1' := 2) hr (by omega) ?_
  refine n_ast hr hA.1 hB.1 (by omega) (fun h1 r1 f1 m1 => ?_)
  have hA1 : bIn B (h1.1 112) 0 := by rw [f1.i (by omega)]; exact hA
  have k1 := mK_116 f1
  refine u_X11_runsTo_4 (d1' := 4) r1 (by omega) ?_
  refine n_runs (lo := 40) r1 hp (fT_ok hB.1) m1 (mP.of hA1 hp (k1.2.2.2.2.trans h28)) (hB.2 p hp) (Or.inl ⟨rfl, rfl⟩) (by omega) (fun h2 r2 f2 s2 => ?_)
  have s2' : mS B.1.1 (rTo B.1 (B.2 p)) h2 := s2
  have hn := (rTo_o hB hp).2.2.2.1
  have e24 := s2'.2.2.2.2.2.2.2
  refine u_X11_runsTo_10 (d1' := 4) r2 (by omega) ?_
  by_cases q : (rTo B.1 (B.2 p)).2.2.2.2.2 / 256 ≤ t
  · simp (disch := omega) only [xle_t, xle_f, xlt_t, xlt_f, xeq_t, xeq_f, xle0_t, xle0_f, xlt0_f, x0lt_t, x0lt_f, x0le_t, xeq0_t, xeq0_f, xin, xem_f, xme_f, xlem_f, xlm_f, xml_t, xmle_t, nI_clamp, nI_add, pk_mul, pk_sub, zI_s, zI_k, zI_o, zL_s, zL_k, zL_o, zR_s, zR_k, zR_o, zIL, zIR, zIN, zLI, zLR, zLN, zRI, zRL, zRN, true_and, and_true, not_true_eq_false, not_false_eq_true, true_implies, false_implies, implies_true, forall_const, if_true, if_false, eq_self, false_and, and_false, implies_true, nI_l, ylle_t, ylle_f, xcl_t, xcl_f, e24, pk_div]
    rw [← rAt_late hB hp q] at s2'
    exact kk h2 r2 (k1.trans f2.k) s2'
  · simp (disch := omega) only [xle_t, xle_f, xlt_t, xlt_f, xeq_t, xeq_f, xle0_t, xle0_f, xlt0_f, x0lt_t, x0lt_f, x0le_t, xeq0_t, xeq0_f, xin, xem_f, xme_f, xlem_f, xlm_f, xml_t, xmle_t, nI_clamp, nI_add, pk_mul, pk_sub, zI_s, zI_k, zI_o, zL_s, zL_k, zL_o, zR_s, zR_k, zR_o, zIL, zIR, zIN, zLI, zLR, zLN, zRI, zRL, zRN, true_and, and_true, not_true_eq_false, not_false_eq_true, true_implies, false_implies, implies_true, forall_const, if_true, if_false, eq_self, false_and, and_false, implies_true, nI_l, ylle_t, ylle_f, xcl_t, xcl_f, e24, pk_div]
    have hA2 : bIn B (h2.1 112) 0 := by rw [f2.1.i (by omega)]; exact hA1
    have k2 := k1.trans f2.k
    refine n_runs (u := t * 256) (lo := 40) r2 hp (fT_ok hB.1) (fun c hc => ?_) (mP.of hA2 hp (k2.2.2.2.2.trans h28)) (hB.2 p hp) (Or.inr ⟨rfl, by omega⟩) (by omega) (fun h3 r3 f3 s3 => ?_)
    · rw [f2.1.i (by omega)]; exact m1 c hc
    · refine u_X11_runsTo_34 (kk h3 r3 (k2.trans f3.k) ?_)
      unfold rAt
      rw [Nat.min_eq_left (by omega)]
      exact s3
theorem n_rest {B : BK} {h : MH} {d : Nat} {x y t : Int32} {Q : Option MV → MH → Prop} (hr : zRf h) (hA : bIn B (h.1 112) 0) (hB : bOK B) (h28 : h.1 111 28 = -(nI 1)) (hd : 6 ≤ d) (kk : ∀ h', zRf h' → mK h h' → Q (some (.inl (gRest B x y t))) h') : Con mX11_rest d 0 0 [.inr (.inr 111), .inl x, .inl y, .inl t] h Q := by
  unfold gRest at kk
  have h8 := hB.1.1
  have hn0 : h.1 112 0 = nI B.1.1 := hA.1.1
  have hA0 : bIn B ((zsI h 111 0 (nI 0)).1 112) 0 := hA
  refine u_X11_rest (d1' := 5) hr (by omega) (by omega) ?_
  rcases ix3 x (n := 4) (by omega) with ⟨z, _, x1⟩ | ⟨z, _, _, x1, _, x2, _⟩ | ⟨p, hp, rfl, z⟩
  · rw [gP_none z] at kk
    simp (disch := omega) only [xle_t, xle_f, xlt_t, xlt_f, xeq_t, xeq_f, xle0_t, xle0_f, xlt0_f, x0lt_t, x0lt_f, x0le_t, xeq0_t, xeq0_f, xin, xem_f, xme_f, xlem_f, xlm_f, xml_t, xmle_t, nI_clamp, nI_add, pk_mul, pk_sub, zI_s, zI_k, zI_o, zL_s, zL_k, zL_o, zR_s, zR_k, zR_o, zIL, zIR, zIN, zLI, zLR, zLN, zRI, zRL, zRN, true_and, and_true, not_true_eq_false, not_false_eq_true, true_implies, false_implies, implies_true, forall_const, if_true, if_false, eq_self, false_and, and_false, implies_true, nI_l, ylle_t, ylle_f, xcl_t, xcl_f, x1, y_3]
    exact kk _ hr (mK_0 h)
  · rw [gP_none z] at kk
    simp (disch := omega) only [xle_t, xle_f, xlt_t, xlt_f, xeq_t, xeq_f, xle0_t, xle0_f, xlt0_f, x0lt_t, x0lt_f, x0le_t, xeq0_t, xeq0_f, xin, xem_f, xme_f, xlem_f, xlm_f, xml_t, xmle_t, nI_clamp, nI_add, pk_mul, pk_sub, zI_s, zI_k, zI_o, zL_s, zL_k, zL_o, zR_s, zR_k, zR_o, zIL, zIR, zIN, zLI, zLR, zLN, zRI, zRL, zRN, true_and, and_true, not_true_eq_false, not_false_eq_true, true_implies, false_implies, implies_true, forall_const, if_true, if_false, eq_self, false_and, and_false, implies_true, nI_l, ylle_t, ylle_f, xcl_t, xcl_f, x1, y_3, x2 3 rfl]
    exact kk _ hr (mK_0 h)
  rw [gP_some hp] at kk
  rcases ix3 y (n := B.1.1) (by omega) with ⟨z, _, x1⟩ | ⟨z, _, _, x1, x2, x3, _⟩ | ⟨c, hc, rfl, z⟩
  · rw [gC_none z] at kk
    simp (disch := omega) only [xle_t, xle_f, xlt_t, xlt_f, xeq_t, xeq_f, xle0_t, xle0_f, xlt0_f, x0lt_t, x0lt_f, x0le_t, xeq0_t, xeq0_f, xin, xem_f, xme_f, xlem_f, xlm_f, xml_t, xmle_t, nI_clamp, nI_add, pk_mul, pk_sub, zI_s, zI_k, zI_o, zL_s, zL_k, zL_o, zR_s, zR_k, zR_o, zIL, zIR, zIN, zLI, zLR, zLN, zRI, zRL, zRN, true_and, and_true, not_true_eq_false, not_false_eq_true, true_implies, false_implies, implies_true, forall_const, if_true, if_false, eq_self, false_and, and_false, implies_true, nI_l, ylle_t, ylle_f, xcl_t, xcl_f, x1, y_3, hn0]
    exact kk _ hr (mK_0 h)
  · rw [gC_none z] at kk
    simp (disch := omega) only [xle_t, xle_f, xlt_t, xlt_f, xeq_t, xeq_f, xle0_t, xle0_f, xlt0_f, x0lt_t, x0lt_f, x0le_t, xeq0_t, xeq0_f, xin, xem_f, xme_f, xlem_f, xlm_f, xml_t, xmle_t, nI_clamp, nI_add, pk_mul, pk_sub, zI_s, zI_k, zI_o, zL_s, zL_k, zL_o, zR_s, zR_k, zR_o, zIL, zIR, zIN, zLI, zLR, zLN, zRI, zRL, zRN, true_and, and_true, not_true_eq_false, not_false_eq_true, true_implies, false_implies, implies_true, forall_const, if_true, if_false, eq_self, false_and, and_false, implies_true, nI_l, ylle_t, ylle_f, xcl_t, xcl_f, x1, x2, y_3, hn0]
    exact kk _ hr (mK_0 h)
  rw [gC_some hc (by omega)] at kk
  by_cases tn : t < 0
  · rw [gN_neg tn] at kk
    simp (disch := omega) only [xle_t, xle_f, xlt_t, xlt_f, xeq_t, xeq_f, xle0_t, xle0_f, xlt0_f, x0lt_t, x0lt_f, x0le_t, xeq0_t, xeq0_f, xin, xem_f, xme_f, xlem_f, xlm_f, xml_t, xmle_t, nI_clamp, nI_add, pk_mul, pk_sub, zI_s, zI_k, zI_o, zL_s, zL_k, zL_o, zR_s, zR_k, zR_o, zIL, zIR, zIN, zLI, zLR, zLN, zRI, zRL, zRN, true_and, and_true, not_true_eq_false, not_false_eq_true, true_implies, false_implies, implies_true, forall_const, if_true, if_false, eq_self, false_and, and_false, implies_true, nI_l, ylle_t, ylle_f, xcl_t, xcl_f, y_3, hn0, x0le_neg tn]
    exact kk _ hr (mK_0 h)
  obtain ⟨t, ht, rfl⟩ := nI_of tn
  rw [gN_nat ht] at kk
  simp (disch := omega) only [xle_t, xle_f, xlt_t, xlt_f, xeq_t, xeq_f, xle0_t, xle0_f, xlt0_f, x0lt_t, x0lt_f, x0le_t, xeq0_t, xeq0_f, xin, xem_f, xme_f, xlem_f, xlm_f, xml_t, xmle_t, nI_clamp, nI_add, pk_mul, pk_sub, zI_s, zI_k, zI_o, zL_s, zL_k, zL_o, zR_s, zR_k, zR_o, zIL, zIR, zIN, zLI, zLR, zLN, zRI, zRL, zRN, true_and, and_true, not_true_eq_false, not_false_eq_true, true_implies, false_implies, implies_true, forall_const, if_true, if_false, eq_self, false_and, and_false, implies_true, nI_l, ylle_t, ylle_f, xcl_t, xcl_f, y_3, hn0]
  have k0 := mK_0 h
  refine n_rto hr hA0 hB (k0.2.2.2.2.trans h28) hp ht (by omega) (fun h2 r2 k2 s2 => ?_)
  have ho := rPlay_o (lo := 40) (u := min t 4000000 * 256) (hB.2 p hp) (fT_ok hB.1)
  have hb : (rAt B.1 (B.2 p) t).1.1 c ≤ 400000000 := (ho.2.2.2.2.2 c hc).1
  have e50 := (s2.1 c (by omega)).1
  refine u_X11_rest_36 r2 ?_
  simp (disch := omega) only [xle_t, xle_f, xlt_t, xlt_f, xeq_t, xeq_f, xle0_t, xle0_f, xlt0_f, x0lt_t, x0lt_f, x0le_t, xeq0_t, xeq0_f, xin, xem_f, xme_f, xlem_f, xlm_f, xml_t, xmle_t, nI_clamp, nI_add, pk_mul, pk_sub, zI_s, zI_k, zI_o, zL_s, zL_k, zL_o, zR_s, zR_k, zR_o, zIL, zIR, zIN, zLI, zLR, zLN, zRI, zRL, zRN, true_and, and_true, not_true_eq_false, not_false_eq_true, true_implies, false_implies, implies_true, forall_const, if_true, if_false, eq_self, false_and, and_false, implies_true, nI_l, ylle_t, ylle_f, xcl_t, xcl_f, e50, pk_div]
  exact kk h2 r2 (k0.trans k2)
theorem n_flam {B : BK} {h : MH} {d : Nat} {x y t : Int32} {Q : Option MV → MH → Prop} (hr : zRf h) (hA : bIn B (h.1 112) 0) (hB : bOK B) (h28 : h.1 111 28 = -(nI 1)) (hd : 6 ≤ d) (kk : ∀ h', zRf h' → mK h h' → Q (some (.inl (gFlam B x y t))) h') : Con mX11_flames d 0 0 [.inr (.inr 111), .inl x, .inl y, .inl t] h Q := by
  unfold gFlam at kk
  have h8 := hB.1.1
  have hn0 : h.1 112 0 = nI B.1.1 := hA.1.1
  have hA0 : bIn B ((zsI h 111 0 (nI 0)).1 112) 0 := hA
  refine u_X11_flames (d1' := 5) hr (by omega) (by omega) ?_
  rcases ix3 x (n := 4) (by omega) with ⟨z, _, x1⟩ | ⟨z, _, _, x1, _, x2, _⟩ | ⟨p, hp, rfl, z⟩
  · rw [gP_none z] at kk
    simp (disch := omega) only [xle_t, xle_f, xlt_t, xlt_f, xeq_t, xeq_f, xle0_t, xle0_f, xlt0_f, x0lt_t, x0lt_f, x0le_t, xeq0_t, xeq0_f, xin, xem_f, xme_f, xlem_f, xlm_f, xml_t, xmle_t, nI_clamp, nI_add, pk_mul, pk_sub, zI_s, zI_k, zI_o, zL_s, zL_k, zL_o, zR_s, zR_k, zR_o, zIL, zIR, zIN, zLI, zLR, zLN, zRI, zRL, zRN, true_and, and_true, not_true_eq_false, not_false_eq_true, true_implies, false_implies, implies_true, forall_const, if_true, if_false, eq_self, false_and, and_false, implies_true, nI_l, ylle_t, ylle_f, xcl_t, xcl_f, x1, y_3]
    exact kk _ hr (mK_0 h)
  · rw [gP_none z] at kk
    simp (disch := omega) only [xle_t, xle_f, xlt_t, xlt_f, xeq_t, xeq_f, xle0_t, xle0_f, xlt0_f, x0lt_t, x0lt_f, x0le_t, xeq0_t, xeq0_f, xin, xem_f, xme_f, xlem_f, xlm_f, xml_t, xmle_t, nI_clamp, nI_add, pk_mul, pk_sub, zI_s, zI_k, zI_o, zL_s, zL_k, zL_o, zR_s, zR_k, zR_o, zIL, zIR, zIN, zLI, zLR, zLN, zRI, zRL, zRN, true_and, and_true, not_true_eq_false, not_false_eq_true, true_implies, false_implies, implies_true, forall_const, if_true, if_false, eq_self, false_and, and_false, implies_true, nI_l, ylle_t, ylle_f, xcl_t, xcl_f, x1, y_3, x2 3 rfl]
    exact kk _ hr (mK_0 h)
  rw [gP_some hp] at kk
  rcases ix3 y (n := B.1.1) (by omega) with ⟨z, _, x1⟩ | ⟨z, _, _, x1, x2, x3, _⟩ | ⟨c, hc, rfl, z⟩
  · rw [gC_none z] at kk
    simp (disch := omega) only [xle_t, xle_f, xlt_t, xlt_f, xeq_t, xeq_f, xle0_t, xle0_f, xlt0_f, x0lt_t, x0lt_f, x0le_t, xeq0_t, xeq0_f, xin, xem_f, xme_f, xlem_f, xlm_f, xml_t, xmle_t, nI_clamp, nI_add, pk_mul, pk_sub, zI_s, zI_k, zI_o, zL_s, zL_k, zL_o, zR_s, zR_k, zR_o, zIL, zIR, zIN, zLI, zLR, zLN, zRI, zRL, zRN, true_and, and_true, not_true_eq_false, not_false_eq_true, true_implies, false_implies, implies_true, forall_const, if_true, if_false, eq_self, false_and, and_false, implies_true, nI_l, ylle_t, ylle_f, xcl_t, xcl_f, x1, y_3, hn0]
    exact kk _ hr (mK_0 h)
  · rw [gC_none z] at kk
    simp (disch := omega) only [xle_t, xle_f, xlt_t, xlt_f, xeq_t, xeq_f, xle0_t, xle0_f, xlt0_f, x0lt_t, x0lt_f, x0le_t, xeq0_t, xeq0_f, xin, xem_f, xme_f, xlem_f, xlm_f, xml_t, xmle_t, nI_clamp, nI_add, pk_mul, pk_sub, zI_s, zI_k, zI_o, zL_s, zL_k, zL_o, zR_s, zR_k, zR_o, zIL, zIR, zIN, zLI, zLR, zLN, zRI, zRL, zRN, true_and, and_true, not_true_eq_false, not_false_eq_true, true_implies, false_implies, implies_true, forall_const, if_true, if_false, eq_self, false_and, and_false, implies_true, nI_l, ylle_t, ylle_f, xcl_t, xcl_f, x1, x2, y_3, hn0]
    exact kk _ hr (mK_0 h)
  rw [gC_some hc (by omega)] at kk
  by_cases tn : t < 0
  · rw [gN_neg tn] at kk
    simp (disch := omega) only [xle_t, xle_f, xlt_t, xlt_f, xeq_t, xeq_f, xle0_t, xle0_f, xlt0_f, x0lt_t, x0lt_f, x0le_t, xeq0_t, xeq0_f, xin, xem_f, xme_f, xlem_f, xlm_f, xml_t, xmle_t, nI_clamp, nI_add, pk_mul, pk_sub, zI_s, zI_k, zI_o, zL_s, zL_k, zL_o, zR_s, zR_k, zR_o, zIL, zIR, zIN, zLI, zLR, zLN, zRI, zRL, zRN, true_and, and_true, not_true_eq_false, not_false_eq_true, true_implies, false_implies, implies_true, forall_const, if_true, if_false, eq_self, false_and, and_false, implies_true, nI_l, ylle_t, ylle_f, xcl_t, xcl_f, y_3, hn0, x0le_neg tn]
    exact kk _ hr (mK_0 h)
  obtain ⟨t, ht, rfl⟩ := nI_of tn
  rw [gN_nat ht] at kk
  simp (disch := omega) only [xle_t, xle_f, xlt_t, xlt_f, xeq_t, xeq_f, xle0_t, xle0_f, xlt0_f, x0lt_t, x0lt_f, x0le_t, xeq0_t, xeq0_f, xin, xem_f, xme_f, xlem_f, xlm_f, xml_t, xmle_t, nI_clamp, nI_add, pk_mul, pk_sub, zI_s, zI_k, zI_o, zL_s, zL_k, zL_o, zR_s, zR_k, zR_o, zIL, zIR, zIN, zLI, zLR, zLN, zRI, zRL, zRN, true_and, and_true, not_true_eq_false, not_false_eq_true, true_implies, false_implies, implies_true, forall_const, if_true, if_false, eq_self, false_and, and_false, implies_true, nI_l, ylle_t, ylle_f, xcl_t, xcl_f, y_3, hn0]
  have k0 := mK_0 h
  refine n_rto hr hA0 hB (k0.2.2.2.2.trans h28) hp ht (by omega) (fun h2 r2 k2 s2 => ?_)
  have e51 := (s2.1 c (by omega)).2.1
  refine u_X11_flames_36 r2 ?_
  simp (disch := omega) only [xle_t, xle_f, xlt_t, xlt_f, xeq_t, xeq_f, xle0_t, xle0_f, xlt0_f, x0lt_t, x0lt_f, x0le_t, xeq0_t, xeq0_f, xin, xem_f, xme_f, xlem_f, xlm_f, xml_t, xmle_t, nI_clamp, nI_add, pk_mul, pk_sub, zI_s, zI_k, zI_o, zL_s, zL_k, zL_o, zR_s, zR_k, zR_o, zIL, zIR, zIN, zLI, zLR, zLN, zRI, zRL, zRN, true_and, and_true, not_true_eq_false, not_false_eq_true, true_implies, false_implies, implies_true, forall_const, if_true, if_false, eq_self, false_and, and_false, implies_true, nI_l, ylle_t, ylle_f, xcl_t, xcl_f, e51]
  exact kk h2 r2 (k0.trans k2)
