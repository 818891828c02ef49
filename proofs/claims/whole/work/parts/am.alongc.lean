/-! ===== along, in the class ===== -/
theorem zok81 {h : MH} (hr : zRf h) {i c : Nat} (hi : i < 2) (hc : c < 7) : zokA h (81 + i) 20 (nI c) = True := eq_true (zia hr (n := 7) (by omega) (by
  rcases (show i = 0 ∨ i = 1 by omega) with rfl | rfl <;> rfl) (vp_in_nI (by omega) (by omega)))
theorem zk84 : ∀ i, i < 13 → zk (84 + i) = (20, 4) := by decide
theorem zok84 {h : MH} (hr : zRf h) {i c : Nat} (hi : i < 13) (hc : c < 4) : zokA h (84 + i) 20 (nI c) = True := eq_true (zia hr (n := 4) (by omega) (zk84 i hi) (vp_in_nI (by omega) (by omega)))
def aAt (X : AX) (h : MH) : Prop := h.1 77 0 = nI X.1 ∧ ∀ i, i < X.1 → h.1 78 i = nI (X.2.1 i) ∧ h.1 79 i = nI (aA X i) ∧ ∀ j, j ≤ 6 → h.1 (81 + i) j = nI (X.2.2 i j)
def aP (X : AX) (G : Nat → Nat) : Nat := 3 * (if aLv X G 0 = true then 1 else 0) + 12 * (if aLv X G 1 = true then 1 else 0)
theorem aM_ok : ∀ x, x < 2 → ∀ y, y < 2 → ∀ lit, lit < 16 → ∀ w, w < 16 → (((nI w &&& ((nI (3 * x + 12 * y) &&& (nI lit ^^^ (-(nI 1)))) ^^^ (-(nI 1)))) = 0) ↔ ((if x = 1 then decide (aQ w 0 &&& aQ lit 0 = 0) else decide (aQ w 0 = 0)) && (if y = 1 then decide (aQ w 1 &&& aQ lit 1 = 0) else decide (aQ w 1 = 0))) = true) := by decide +kernel
theorem aM_ok' (X : AX) (G : Nat → Nat) {lit w : Nat} (hl : lit < 16) (hw : w < 16) : ((nI w &&& ((nI (aP X G) &&& (nI lit ^^^ (-(nI 1)))) ^^^ (-(nI 1)))) = 0) = (aOk X G lit w = true) := by
  have := aM_ok (if aLv X G 0 = true then 1 else 0) (by split <;> omega) (if aLv X G 1 = true then 1 else 0) (by split <;> omega) lit hl w hw
  unfold aP
  rw [propext this]
  unfold aOk aO1
  congr 2
  · by_cases z : aLv X G 0 = true
    · rw [if_pos z, if_pos rfl, if_pos z]
    · rw [if_neg z, if_neg (by decide), if_neg z]
  · by_cases z : aLv X G 1 = true
    · rw [if_pos z, if_pos rfl, if_pos z]
    · rw [if_neg z, if_neg (by decide), if_neg z]
theorem aM_bu : ∀ x, x < 2 → ∀ y, y < 2 → ∀ l, l < 16 → (3 * x + 12 * y) &&& l = (if x = 1 then aQ l 0 else 0) + 4 * (if y = 1 then aQ l 1 else 0) := by decide +kernel
theorem aM_bu' (X : AX) (G : Nat → Nat) {l : Nat} (hl : l < 16) : nI (aP X G) &&& nI l = nI (aE X G l 0 + 4 * aE X G l 1) := by
  rw [nx_and]
  have := aM_bu (if aLv X G 0 = true then 1 else 0) (by split <;> omega) (if aLv X G 1 = true then 1 else 0) (by split <;> omega) l hl
  unfold aP
  rw [this]
  unfold aE
  congr 2
  · by_cases z : aLv X G 0 = true
    · rw [if_pos z, if_pos rfl, if_pos z]
    · rw [if_neg z, if_neg (by decide), if_neg z]
  · by_cases z : aLv X G 1 = true
    · rw [if_pos z, if_pos rfl, if_pos z]
    · rw [if_neg z, if_neg (by decide), if_neg z]
theorem aM_q : ∀ e, e < 4 → ∀ f, f < 4 → ∀ q, q < 4 → ((nI (e + 4 * f) >>> (nI q &&& 31)) &&& nI 1) = nI ((if q / 2 = 0 then e else f) / 2 ^ (q % 2) % 2) := by decide +kernel
theorem aM_h : ∀ e, e < 4 → ∀ f, f < 4 → ∀ i, i < 2 → ((nI (e + 4 * f) >>> (nI (2 * i) &&& 31)) &&& nI 3) = nI (if i = 0 then e else f) := by decide +kernel
theorem aM_1 : ∀ e, e < 4 → nI e &&& nI 1 = nI (e % 2) := by decide +kernel
theorem aM_2 : ∀ e, e < 4 → nI e &&& nI 2 = nI (2 * (e / 2)) := by decide +kernel
theorem aM_s : ∀ x, x < 2 → ∀ i, i < 2 → nI (i * 3 * x) ||| (nI 3 <<< (nI (2 * i) &&& 31)) = nI (i * 3 * x + 3 * 4 ^ i) := by decide +kernel
section AC
variable {X : AX} {h : MH} {d : Nat} {Q : Option MV → MH → Prop}
theorem c_ued {i a : Nat} (hX : aOK X) (hi : i < X.1) (ha : a < aA X i) (hr : zRf h) (hA : aAt X h) (kk : ∀ u, uF X i a u → Q (some (.inl (nI u))) h) : Con mX0_untilEdge d 0 0 [.inr (.inr 77), .inl (nI i), .inl (nI a)] h Q := by
  have n2 := hX.1
  obtain ⟨p16, _, a9, _, _⟩ := hX.2 i hi
  obtain ⟨e1, e2, e3⟩ := hA.2 i hi
  have lt := fun j (q : j ≤ X.2.1 i) => (show X.2.2 i j ≤ 92160 by
    rcases Nat.lt_or_ge j (X.2.1 i) with z | z
    · have := hX.lt hi (Nat.le_refl _) z
      have eA : aA X i = X.2.2 i (X.2.1 i) := rfl
      omega
    · rw [show j = X.2.1 i by omega]
      exact a9)
  refine u_X0_untilEdge ?_
  have L : ∀ m j, j + m = X.2.1 i → 1 ≤ j → (∀ k, 1 ≤ k → k < j → X.2.2 i k ≤ a) → J mX0_untilEdge d 0 0 Q 0 0 2 [some (.inr (.inr 77)), some (.inl (nI i)), some (.inl (nI a)), some (.inl (nI j))] [] h := by
    intro m
    induction m with
    | zero =>
      intro j hj j1 hk
      have eA : aA X i = X.2.2 i (X.2.1 i) := rfl
      have ej := e3 j (by omega)
      have lj := lt j (by omega)
      have gt : a < X.2.2 i j := by rw [show j = X.2.1 i by omega]; omega
      refine u_X0_untilEdge_2 hr ?_
      simp (disch := omega) only [xle_t, xle_f, xlt_t, xlt_f, xeq_t, xeq_f, xle0_t, xle0_f, xlt0_f, x0lt_t, x0lt_f, x0le_t, xeq0_t, xeq0_f, xin, xem_f, xme_f, xlem_f, xlm_f, xml_t, xmle_t, nI_clamp, nI_add, pk_mul, pk_sub, zI_s, zI_k, zI_o, zL_s, zL_k, zL_o, zR_s, zR_k, zR_o, zIL, zIR, zIN, zLI, zLR, zLN, zRI, zRL, zRN, true_and, and_true, not_true_eq_false, not_false_eq_true, true_implies, false_implies, implies_true, forall_const, if_true, if_false, eq_self, false_and, and_false, implies_true, nI_l, ylle_t, ylle_f, xcl_t, xcl_f, e1, ej, zok81 hr]
      exact kk _ ⟨j, j1, by omega, gt, rfl, hk⟩
    | succ m ih =>
      intro j hj j1 hk
      have ej := e3 j (by omega)
      have lj := lt j (by omega)
      refine u_X0_untilEdge_2 hr ?_
      rcases Nat.lt_or_ge a (X.2.2 i j) with z | z
      · simp (disch := omega) only [xle_t, xle_f, xlt_t, xlt_f, xeq_t, xeq_f, xle0_t, xle0_f, xlt0_f, x0lt_t, x0lt_f, x0le_t, xeq0_t, xeq0_f, xin, xem_f, xme_f, xlem_f, xlm_f, xml_t, xmle_t, nI_clamp, nI_add, pk_mul, pk_sub, zI_s, zI_k, zI_o, zL_s, zL_k, zL_o, zR_s, zR_k, zR_o, zIL, zIR, zIN, zLI, zLR, zLN, zRI, zRL, zRN, true_and, and_true, not_true_eq_false, not_false_eq_true, true_implies, false_implies, implies_true, forall_const, if_true, if_false, eq_self, false_and, and_false, implies_true, nI_l, ylle_t, ylle_f, xcl_t, xcl_f, e1, ej, zok81 hr]
        exact kk _ ⟨j, j1, by omega, z, rfl, hk⟩
      · simp (disch := omega) only [xle_t, xle_f, xlt_t, xlt_f, xeq_t, xeq_f, xle0_t, xle0_f, xlt0_f, x0lt_t, x0lt_f, x0le_t, xeq0_t, xeq0_f, xin, xem_f, xme_f, xlem_f, xlm_f, xml_t, xmle_t, nI_clamp, nI_add, pk_mul, pk_sub, zI_s, zI_k, zI_o, zL_s, zL_k, zL_o, zR_s, zR_k, zR_o, zIL, zIR, zIN, zLI, zLR, zLN, zRI, zRL, zRN, true_and, and_true, not_true_eq_false, not_false_eq_true, true_implies, false_implies, implies_true, forall_const, if_true, if_false, eq_self, false_and, and_false, implies_true, nI_l, ylle_t, ylle_f, xcl_t, xcl_f, e1, ej, zok81 hr]
        refine ih (j + 1) (by omega) (by omega) (fun k k1 k2 => ?_)
        by_cases y : k = j
        · rw [y]; exact z
        · exact hk k k1 (by omega)
  exact L (X.2.1 i - 1) 1 (by omega) (by omega) (fun k k1 k2 => by omega)
theorem c_uef {i b : Nat} (hX : aOK X) (hi : i < X.1) (hb : b < aA X i) (hr : zRf h) (hA : aAt X h) (kk : ∀ u, uB X i b u → Q (some (.inl (nI u))) h) : Con mX0_untilEdgeFromEnd d 0 0 [.inr (.inr 77), .inl (nI i), .inl (nI b)] h Q := by
  have n2 := hX.1
  obtain ⟨p16, z0, a9, _, _⟩ := hX.2 i hi
  obtain ⟨e1, e2, e3⟩ := hA.2 i hi
  have lt := fun j (q : j < X.2.1 i) => (show X.2.2 i j < aA X i from hX.lt hi (Nat.le_refl _) q)
  refine u_X0_untilEdgeFromEnd hr ?_
  have L : ∀ j, j < X.2.1 i → (∀ k, j < k → k < X.2.1 i → aA X i ≤ X.2.2 i k + b) → J mX0_untilEdgeFromEnd d 0 0 Q 0 0 9 [some (.inr (.inr 77)), some (.inl (nI i)), some (.inl (nI b)), some (.inl (nI j))] [] h := by
    intro j
    induction j with
    | zero =>
      intro hj hk
      have ej := e3 0 (by omega)
      refine u_X0_untilEdgeFromEnd_9 hr ?_
      simp (disch := omega) only [xle_t, xle_f, xlt_t, xlt_f, xeq_t, xeq_f, xle0_t, xle0_f, xlt0_f, x0lt_t, x0lt_f, x0le_t, xeq0_t, xeq0_f, xin, xem_f, xme_f, xlem_f, xlm_f, xml_t, xmle_t, nI_clamp, nI_add, pk_mul, pk_sub, zI_s, zI_k, zI_o, zL_s, zL_k, zL_o, zR_s, zR_k, zR_o, zIL, zIR, zIN, zLI, zLR, zLN, zRI, zRL, zRN, true_and, and_true, not_true_eq_false, not_false_eq_true, true_implies, false_implies, implies_true, forall_const, if_true, if_false, eq_self, false_and, and_false, implies_true, nI_l, ylle_t, ylle_f, xcl_t, xcl_f, e2, ej, zok81 hr]
      exact kk _ ⟨0, hj, by omega, rfl, hk⟩
    | succ j ih =>
      intro hj hk
      have ej := e3 (j + 1) (by omega)
      have lj := lt (j + 1) (by omega)
      refine u_X0_untilEdgeFromEnd_9 hr ?_
      rcases Nat.lt_or_ge (X.2.2 i (j + 1) + b) (aA X i) with z | z
      · simp (disch := omega) only [xle_t, xle_f, xlt_t, xlt_f, xeq_t, xeq_f, xle0_t, xle0_f, xlt0_f, x0lt_t, x0lt_f, x0le_t, xeq0_t, xeq0_f, xin, xem_f, xme_f, xlem_f, xlm_f, xml_t, xmle_t, nI_clamp, nI_add, pk_mul, pk_sub, zI_s, zI_k, zI_o, zL_s, zL_k, zL_o, zR_s, zR_k, zR_o, zIL, zIR, zIN, zLI, zLR, zLN, zRI, zRL, zRN, true_and, and_true, not_true_eq_false, not_false_eq_true, true_implies, false_implies, implies_true, forall_const, if_true, if_false, eq_self, false_and, and_false, implies_true, nI_l, ylle_t, ylle_f, xcl_t, xcl_f, e2, ej, zok81 hr]
        exact kk _ ⟨j + 1, hj, z, rfl, hk⟩
      · simp (disch := omega) only [xle_t, xle_f, xlt_t, xlt_f, xeq_t, xeq_f, xle0_t, xle0_f, xlt0_f, x0lt_t, x0lt_f, x0le_t, xeq0_t, xeq0_f, xin, xem_f, xme_f, xlem_f, xlm_f, xml_t, xmle_t, nI_clamp, nI_add, pk_mul, pk_sub, zI_s, zI_k, zI_o, zL_s, zL_k, zL_o, zR_s, zR_k, zR_o, zIL, zIR, zIN, zLI, zLR, zLN, zRI, zRL, zRN, true_and, and_true, not_true_eq_false, not_false_eq_true, true_implies, false_implies, implies_true, forall_const, if_true, if_false, eq_self, false_and, and_false, implies_true, nI_l, ylle_t, ylle_f, xcl_t, xcl_f, e2, ej, zok81 hr, nI_dec, eI_s]
        refine ih (by omega) (fun k k1 k2 => ?_)
        by_cases y : k = j + 1
        · rw [y]; exact z
        · exact hk k (by omega) k2
  simp (disch := omega) only [xle_t, xle_f, xlt_t, xlt_f, xeq_t, xeq_f, xle0_t, xle0_f, xlt0_f, x0lt_t, x0lt_f, x0le_t, xeq0_t, xeq0_f, xin, xem_f, xme_f, xlem_f, xlm_f, xml_t, xmle_t, nI_clamp, nI_add, pk_mul, pk_sub, zI_s, zI_k, zI_o, zL_s, zL_k, zL_o, zR_s, zR_k, zR_o, zIL, zIR, zIN, zLI, zLR, zLN, zRI, zRL, zRN, true_and, and_true, not_true_eq_false, not_false_eq_true, true_implies, false_implies, implies_true, forall_const, if_true, if_false, eq_self, false_and, and_false, implies_true, nI_l, ylle_t, ylle_f, xcl_t, xcl_f, e1]
  exact L (X.2.1 i - 1) (by omega) (fun k k1 k2 => by omega)
def aRw (lv : Nat) (G : Nat → Nat) (h : MH) : Prop := ∀ q, q < 4 → h.1 (84 + lv) q = nI (G q)
theorem c_pls {lv : Nat} {G : Nat → Nat} (hX : aOK X) (hr : zRf h) (hA : aAt X h) (hl : lv < 13) (hR : aRw lv G h) (hG : ∀ q, G q ≤ 92160) (kk : Q (some (.inl (nI (aP X G)))) h) : Con mX0_places d 0 0 [.inr (.inr 77), .inl (nI lv)] h Q := by
  have n2 := hX.1
  have n0 := hA.1
  refine u_X0_places ?_
  have fin : ∀ v, nI v = nI (aP X G) → J mX0_places d 0 0 Q 0 0 4 [some (.inr (.inr 77)), some (.inl (nI lv)), some (.inl (nI v)), some (.inl (nI X.1))] [] h := fun v hv => by
    refine u_X0_places_4 hr ?_
    simp (disch := omega) only [xle_t, xle_f, xlt_t, xlt_f, xeq_t, xeq_f, xle0_t, xle0_f, xlt0_f, x0lt_t, x0lt_f, x0le_t, xeq0_t, xeq0_f, xin, xem_f, xme_f, xlem_f, xlm_f, xml_t, xmle_t, nI_clamp, nI_add, pk_mul, pk_sub, zI_s, zI_k, zI_o, zL_s, zL_k, zL_o, zR_s, zR_k, zR_o, zIL, zIR, zIN, zLI, zLR, zLN, zRI, zRL, zRN, true_and, and_true, not_true_eq_false, not_false_eq_true, true_implies, false_implies, implies_true, forall_const, if_true, if_false, eq_self, false_and, and_false, implies_true, nI_l, ylle_t, ylle_f, xcl_t, xcl_f, n0]
    rw [hv]
    exact kk
  have step : ∀ i x, i < X.1 → x < 2 → J mX0_places d 0 0 Q 0 0 4 [some (.inr (.inr 77)), some (.inl (nI lv)), some (.inl (nI (i * 3 * x + (if aLv X G i = true then 3 * 4 ^ i else 0)))), some (.inl (nI (i + 1)))] [] h → J mX0_places d 0 0 Q 0 0 4 [some (.inr (.inr 77)), some (.inl (nI lv)), some (.inl (nI (i * 3 * x))), some (.inl (nI i))] [] h := fun i x hi hx nx => by
    obtain ⟨e1, e2, e3⟩ := hA.2 i hi
    have a9 := (hX.2 i hi).2.2.1
    have r0 := hR (2 * i) (by omega)
    have r1 := hR (2 * i + 1) (by omega)
    have g0 := hG (2 * i)
    have g1 := hG (2 * i + 1)
    have ms := aM_s x hx i (by omega)
    refine u_X0_places_4 hr ?_
    by_cases z : aLv X G i = true
    · rw [if_pos z] at nx
      have z' := (aLv_i.mp z).2
      simp (disch := omega) only [xle_t, xle_f, xlt_t, xlt_f, xeq_t, xeq_f, xle0_t, xle0_f, xlt0_f, x0lt_t, x0lt_f, x0le_t, xeq0_t, xeq0_f, xin, xem_f, xme_f, xlem_f, xlm_f, xml_t, xmle_t, nI_clamp, nI_add, pk_mul, pk_sub, zI_s, zI_k, zI_o, zL_s, zL_k, zL_o, zR_s, zR_k, zR_o, zIL, zIR, zIN, zLI, zLR, zLN, zRI, zRL, zRN, true_and, and_true, not_true_eq_false, not_false_eq_true, true_implies, false_implies, implies_true, forall_const, if_true, if_false, eq_self, false_and, and_false, implies_true, nI_l, ylle_t, ylle_f, xcl_t, xcl_f, n0, e2, r0, r1, zok84 hr, ms]
      exact nx
    · rw [if_neg z, Nat.add_zero] at nx
      have z' : ¬ G (2 * i) + G (2 * i + 1) < aA X i := fun q => z (aLv_i.mpr ⟨hi, q⟩)
      simp (disch := omega) only [xle_t, xle_f, xlt_t, xlt_f, xeq_t, xeq_f, xle0_t, xle0_f, xlt0_f, x0lt_t, x0lt_f, x0le_t, xeq0_t, xeq0_f, xin, xem_f, xme_f, xlem_f, xlm_f, xml_t, xmle_t, nI_clamp, nI_add, pk_mul, pk_sub, zI_s, zI_k, zI_o, zL_s, zL_k, zL_o, zR_s, zR_k, zR_o, zIL, zIR, zIN, zLI, zLR, zLN, zRI, zRL, zRN, true_and, and_true, not_true_eq_false, not_false_eq_true, true_implies, false_implies, implies_true, forall_const, if_true, if_false, eq_self, false_and, and_false, implies_true, nI_l, ylle_t, ylle_f, xcl_t, xcl_f, n0, e2, r0, r1, zok84 hr, ms]
      exact nx
  have dead : ∀ i, X.1 ≤ i → ¬ aLv X G i = true := fun i hi q => by have := (aLv_i.mp q).1; omega
  have c : X.1 = 0 ∨ X.1 = 1 ∨ X.1 = 2 := by omega
  rcases c with c | c | c
  · have f := fin 0 (by unfold aP; rw [if_neg (dead 0 (by omega)), if_neg (dead 1 (by omega))])
    rw [c] at f
    exact f
  · have f := fin (if aLv X G 0 = true then 3 else 0) (by unfold aP; rw [if_neg (dead 1 (by omega))]; split <;> rfl)
    rw [c] at f
    have s := step 0 0 (by omega) (by omega)
    rw [show (0 * 3 * 0 : Nat) = 0 from rfl, show (3 * 4 ^ 0 : Nat) = 3 from rfl, Nat.zero_add] at s
    exact s f
  · have f := fin (1 * 3 * (if aLv X G 0 = true then 1 else 0) + (if aLv X G 1 = true then 3 * 4 ^ 1 else 0)) (by unfold aP; congr 1; split <;> split <;> rfl)
    rw [c] at f
    have s1 := step 1 (if aLv X G 0 = true then 1 else 0) (by omega) (by split <;> omega) f
    have s0 := step 0 0 (by omega) (by omega)
    rw [show (0 * 3 * 0 : Nat) = 0 from rfl, show (3 * 4 ^ 0 : Nat) = 3 from rfl, Nat.zero_add, show (if aLv X G 0 = true then (3 : Nat) else 0) = 1 * 3 * (if aLv X G 0 = true then 1 else 0) by split <;> rfl] at s0
    exact s0 s1
end AC
