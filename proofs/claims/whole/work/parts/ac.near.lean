/-! ===== nearest ===== -/
def dis (T t : Nat) : Nat := if t < T then T - t else t - T
def nBt (T t : Nat) (b : Option Nat) : Option Nat := match b with
  | none => some t
  | some v => if dis T t < dis T v then some t else some v
def fNe (f : Nat → Bool) (T : Nat) : Nat → Nat → Option Nat → Option Nat
  | 0, _, b => b
  | m + 1, t, b => fNe f T m (t + 1) (if f t = true then nBt T t b else b)
theorem fNe_none {f : Nat → Bool} {T : Nat} : ∀ {m t : Nat}, (∀ u, t ≤ u → f u = false) → fNe f T m t none = none
  | 0, _, _ => rfl
  | m + 1, t, h => by
    show fNe f T m (t + 1) (if f t = true then _ else none) = none
    rw [h t (Nat.le_refl _), if_neg (by decide)]
    exact fNe_none (fun u hu => h u (by omega))
theorem fNe_after {f : Nat → Bool} {T v : Nat} : ∀ {m t : Nat}, (∀ u, t ≤ u → f u = true → ¬ dis T u < dis T v) → fNe f T m t (some v) = some v
  | 0, _, _ => rfl
  | m + 1, t, h => by
    show fNe f T m (t + 1) (if f t = true then (if dis T t < dis T v then some t else some v) else some v) = some v
    by_cases z : f t = true
    · rw [if_pos z, if_neg (h t (Nat.le_refl _) z)]
      exact fNe_after (fun u hu => h u (by omega))
    · rw [if_neg z]
      exact fNe_after (fun u hu => h u (by omega))
theorem fNe_eq {f : Nat → Bool} {T v : Nat} (hv : f v = true) (hm : ∀ u, f u = true → dis T v ≤ dis T u ∧ (dis T u = dis T v → v ≤ u)) : ∀ {m t : Nat} (b : Option Nat), t ≤ v → v < t + m → (∀ u, b = some u → dis T v < dis T u) → fNe f T m t b = some v
  | 0, t, b, h1, h2, _ => by omega
  | m + 1, t, b, h1, h2, hb => by
    show fNe f T m (t + 1) (if f t = true then nBt T t b else b) = some v
    by_cases z : t = v
    · rw [z, if_pos hv]
      have e : nBt T v b = some v := by
        cases b with
        | none => rfl
        | some u => exact if_pos (hb u rfl)
      rw [e]
      exact fNe_after (fun u _ hu => by have := (hm u hu).1; omega)
    · by_cases y : f t = true
      · rw [if_pos y]
        have q := hm t y
        refine fNe_eq hv hm _ (by omega) (by omega) (fun u hu => ?_)
        cases b with
        | none =>
          have := Option.some.inj hu
          rw [← this]
          omega
        | some w =>
          have hw := hb w rfl
          have hu' : (if dis T t < dis T w then some t else some w) = some u := hu
          split at hu'
          · have := Option.some.inj hu'
            rw [← this]; omega
          · have := Option.some.inj hu'
            rw [← this]; exact hw
      · rw [if_neg y]
        exact fNe_eq hv hm b (by omega) (by omega) hb
def gNe (f : Nat → Bool) (T : Nat) : Int32 := oI (fNe f T 371199 1 none)
def gNea (B : BK) (x : Int32) (out : Bool) (t : Int32) : Int32 := gSet B.1 4 x (fun S => gT1 t (fun T => gNe (wTm B.1 S out) T))
theorem and_m64 {i : Nat} (h : i < 2 ^ 31) : nI i &&& -(nI 64) = nI (64 * (i / 64)) := by
  rw [nI_neg (by decide) (by decide), nx_and]
  congr 1
  refine Nat.eq_of_testBit_eq (fun j => ?_)
  rw [Nat.testBit_and, show (2 : Nat) ^ 32 - 64 = 2 ^ 6 * (2 ^ 26 - 1) from rfl, show (64 : Nat) = 2 ^ 6 from rfl, Nat.testBit_two_pow_mul, Nat.testBit_two_pow_mul, Nat.testBit_two_pow_sub_one, Nat.testBit_div_two_pow]
  by_cases z : 6 ≤ j
  · rw [decide_eq_true z, Bool.true_and, Bool.true_and, show j - 6 + 6 = j by omega]
    by_cases y : j - 6 < 26
    · rw [decide_eq_true y, Bool.and_true]
    · rw [decide_eq_false y, Bool.and_false, Nat.testBit_lt_two_pow (Nat.lt_of_lt_of_le h (Nat.pow_le_pow_right (by decide) (by omega)))]
  · rw [decide_eq_false z, Bool.false_and, Bool.false_and, Bool.and_false]
theorem or63 : ∀ r, r < 64 → r ||| 63 = 63 := by decide +kernel
theorem or_63 (i : Nat) : nI i ||| nI 63 = nI (64 * (i / 64) + 63) := by
  rw [nx_or]
  congr 1
  have e1 : i = 2 ^ 6 * (i / 64) ||| (i % 64) := by
    rw [← Nat.two_pow_add_eq_or_of_lt (show i % 64 < 2 ^ 6 from Nat.mod_lt _ (by decide))]
    have := Nat.div_add_mod i 64
    show i = 64 * (i / 64) + i % 64
    omega
  have e2 : 64 * (i / 64) + 63 = 2 ^ 6 * (i / 64) ||| 63 := Nat.two_pow_add_eq_or_of_lt (show 63 < 2 ^ 6 by decide) _
  rw [e2]
  conv => lhs; rw [e1]
  rw [Nat.or_assoc, or63 _ (Nat.mod_lt _ (by decide))]
theorem lgc_0 (x : Int64) : (lg_cmp x (lN 0) = 0) = (x = lN 0) := propext (lg_cmp_eq _ _)
section OPS
variable {B : BK} {out : Bool} {h : MH} {d : Nat} {Q : Option MV → MH → Prop}
theorem wz {w i : Nat} {g : Nat → Bool} (hK : wKw g (h.2.1 w)) (hi : i < 361) (hz : h.2.1 w i = lN 0) : ∀ j, j < 64 → g (64 * i + j) = false := fun j hj => by
  have := hK (64 * i + j) (by omega)
  rw [show (64 * i + j) / 64 = i by omega, hz] at this
  rw [← this]
  show (BitVec.ofNat 64 0).getLsbD _ = false
  rw [BitVec.getLsbD_ofNat, Nat.zero_testBit, Bool.and_false]
theorem c_lst {w T : Nat} {f g : Nat → Bool} (hr : zRf h) (hz : zokO h (w - 1) 3) (hw0 : 0 < w) (hT : T < 2 ^ 31) (hg : ∀ j, f (16 * j) = g j) (hf : tF f) (hK : wKw g (h.2.1 w)) (hd : 1 ≤ d) (k0 : (∀ u, u ≤ T → f u = false) → Q (some (.inl (-(nI 1)))) h) (k1 : ∀ v, f v = true → v ≤ T → (∀ u, v < u → u ≤ T → f u = false) → Q (some (.inl (nI v))) h) : Con mX3_lastUpTo d 0 0 [.inr (.inr (w - 1)), .inl (nI T)] h Q := by
  refine u_X3_lastUpTo hd ?_
  have eq : nI T / nI 16 = nI (T / 16) := pk_div hT (by decide) (by decide)
  rw [eq, xmin (by omega) (by omega)]
  have bridge : ∀ i, (∀ j, i ≤ j → j ≤ min 23103 (T / 16) → g j = false) → ∀ u, 16 * i ≤ u → u ≤ T → f u = false := fun i q u u1 u2 => Bool.eq_false_iff.mpr (fun y => by
    obtain ⟨y1, y2⟩ := hf u y
    obtain ⟨j, hj⟩ := y1
    have : g j = true := by rw [← hg, ← hj]; exact y
    rw [q j (by omega) (by omega)] at this
    cases this)
  have L : ∀ i, i ≤ min 23103 (T / 16) + 1 → (∀ j, i ≤ j → j ≤ min 23103 (T / 16) → g j = false) → J mX3_lastUpTo d 0 0 Q 0 0 11 [some (.inr (.inr (w - 1))), some (.inl (nI T)), some (.inl (eI i))] [] h := by
    intro i
    induction i using Nat.strongRecOn with
    | ind i ih =>
      intro hi no
      refine u_X3_lastUpTo_11 hr hd ?_
      rcases i with _ | i
      · rw [eI_0]
        simp (disch := omega) only [xle_t, xle_f, xlt_t, xlt_f, xeq_t, xeq_f, xle0_t, xle0_f, xlt0_f, x0lt_t, x0lt_f, x0le_t, xeq0_t, xeq0_f, xin, xem_f, xme_f, xlem_f, xlm_f, xml_t, xmle_t, nI_clamp, nI_add, pk_mul, pk_sub, zI_s, zI_k, zI_o, zL_s, zL_k, zL_o, zR_s, zR_k, zR_o, zIL, zIR, zIN, zLI, zLR, zLN, zRI, zRL, zRN, true_and, and_true, not_true_eq_false, not_false_eq_true, true_implies, false_implies, implies_true, forall_const, if_true, if_false, eq_self, false_and, and_false, implies_true, nI_l, ylle_t, ylle_f, xcl_t, xcl_f, xm_lt0]
        exact k0 (fun u hu => bridge 0 no u (by omega) hu)
      · rw [eI_s, show w - 1 + 1 = w by omega, lgc_0]
        have b := hK i (by omega)
        have cb := c_bitT (x := h.2.1 w (i / 64)) (i := i)
        rw [b] at cb
        cases gi : g i with
        | true =>
          rw [gi, eq_false (show ¬ true = false by decide)] at cb
          simp (disch := omega) only [xle_t, xle_f, xlt_t, xlt_f, xeq_t, xeq_f, xle0_t, xle0_f, xlt0_f, x0lt_t, x0lt_f, x0le_t, xeq0_t, xeq0_f, xin, xem_f, xme_f, xlem_f, xlm_f, xml_t, xmle_t, nI_clamp, nI_add, pk_mul, pk_sub, zI_s, zI_k, zI_o, zL_s, zL_k, zL_o, zR_s, zR_k, zR_o, zIL, zIR, zIN, zLI, zLR, zLN, zRI, zRL, zRN, true_and, and_true, not_true_eq_false, not_false_eq_true, true_implies, false_implies, implies_true, forall_const, if_true, if_false, eq_self, false_and, and_false, implies_true, nI_l, ylle_t, ylle_f, xcl_t, xcl_f, nI_shr6, cb]
          refine ⟨hz, ?_⟩
          rw [Nat.mul_comm]
          refine k1 (16 * i) (by rw [hg]; exact gi) (by omega) (fun u u1 u2 => ?_)
          exact Bool.eq_false_iff.mpr (fun y => by
            obtain ⟨⟨j, hj⟩, y2⟩ := hf u y
            have : g j = true := by rw [← hg, ← hj]; exact y
            rw [no j (by omega) (by omega)] at this
            cases this)
        | false =>
          rw [gi, eq_true rfl] at cb
          have no' : ∀ j, i ≤ j → j ≤ min 23103 (T / 16) → g j = false := fun j q1 q2 => by
            by_cases y : j = i
            · rw [y]; exact gi
            · exact no j (by omega) q2
          by_cases wzr : h.2.1 w (i / 64) = lN 0
          · rw [wzr] at cb
            simp (disch := omega) only [xle_t, xle_f, xlt_t, xlt_f, xeq_t, xeq_f, xle0_t, xle0_f, xlt0_f, x0lt_t, x0lt_f, x0le_t, xeq0_t, xeq0_f, xin, xem_f, xme_f, xlem_f, xlm_f, xml_t, xmle_t, nI_clamp, nI_add, pk_mul, pk_sub, zI_s, zI_k, zI_o, zL_s, zL_k, zL_o, zR_s, zR_k, zR_o, zIL, zIR, zIN, zLI, zLR, zLN, zRI, zRL, zRN, true_and, and_true, not_true_eq_false, not_false_eq_true, true_implies, false_implies, implies_true, forall_const, if_true, if_false, eq_self, false_and, and_false, implies_true, nI_l, ylle_t, ylle_f, xcl_t, xcl_f, nI_shr6, cb, wzr, and_m64, nI_dec]
            refine ⟨hz, ih (64 * (i / 64)) (by omega) (by omega) (fun j q1 q2 => ?_)⟩
            rcases Nat.lt_or_ge j i with y | y
            · have := wz hK (i := i / 64) (by omega) wzr (j - 64 * (i / 64)) (by omega)
              rw [show 64 * (i / 64) + (j - 64 * (i / 64)) = j by omega] at this
              exact this
            · exact no' j y q2
          · simp (disch := omega) only [xle_t, xle_f, xlt_t, xlt_f, xeq_t, xeq_f, xle0_t, xle0_f, xlt0_f, x0lt_t, x0lt_f, x0le_t, xeq0_t, xeq0_f, xin, xem_f, xme_f, xlem_f, xlm_f, xml_t, xmle_t, nI_clamp, nI_add, pk_mul, pk_sub, zI_s, zI_k, zI_o, zL_s, zL_k, zL_o, zR_s, zR_k, zR_o, zIL, zIR, zIN, zLI, zLR, zLN, zRI, zRL, zRN, true_and, and_true, not_true_eq_false, not_false_eq_true, true_implies, false_implies, implies_true, forall_const, if_true, if_false, eq_self, false_and, and_false, implies_true, nI_l, ylle_t, ylle_f, xcl_t, xcl_f, nI_shr6, cb, wzr, nI_dec]
            exact ⟨hz, ih i (by omega) (by omega) no'⟩
  have := L (min 23103 (T / 16) + 1) (Nat.le_refl _) (fun j q1 q2 => by omega)
  rw [eI_s] at this
  exact this
theorem c_fst {w T : Nat} {f g : Nat → Bool} (hr : zRf h) (hz : zokO h (w - 1) 3) (hw0 : 0 < w) (hT : T < 2 ^ 31) (hg : ∀ j, f (16 * j) = g j) (hf : tF f) (hK : wKw g (h.2.1 w)) (hd : 1 ≤ d) (k0 : (∀ u, T ≤ u → f u = false) → Q (some (.inl (-(nI 1)))) h) (k1 : ∀ v, f v = true → T ≤ v → (∀ u, T ≤ u → u < v → f u = false) → Q (some (.inl (nI v))) h) : Con mX3_firstFrom d 0 0 [.inr (.inr (w - 1)), .inl (nI T)] h Q := by
  refine u_X3_firstFrom ?_
  rw [show (369648 : Int32) = nI 369648 from rfl]
  rcases Nat.lt_or_ge 369648 T with c1 | c1
  · simp (disch := omega) only [xle_t, xle_f, xlt_t, xlt_f, xeq_t, xeq_f, xle0_t, xle0_f, xlt0_f, x0lt_t, x0lt_f, x0le_t, xeq0_t, xeq0_f, xin, xem_f, xme_f, xlem_f, xlm_f, xml_t, xmle_t, nI_clamp, nI_add, pk_mul, pk_sub, zI_s, zI_k, zI_o, zL_s, zL_k, zL_o, zR_s, zR_k, zR_o, zIL, zIR, zIN, zLI, zLR, zLN, zRI, zRL, zRN, true_and, and_true, not_true_eq_false, not_false_eq_true, true_implies, false_implies, implies_true, forall_const, if_true, if_false, eq_self, false_and, and_false, implies_true, nI_l, ylle_t, ylle_f, xcl_t, xcl_f]
    exact k0 (fun u hu => Bool.eq_false_iff.mpr (fun y => by have := (hf u y).2; omega))
  · simp (disch := omega) only [xle_t, xle_f, xlt_t, xlt_f, xeq_t, xeq_f, xle0_t, xle0_f, xlt0_f, x0lt_t, x0lt_f, x0le_t, xeq0_t, xeq0_f, xin, xem_f, xme_f, xlem_f, xlm_f, xml_t, xmle_t, nI_clamp, nI_add, pk_mul, pk_sub, zI_s, zI_k, zI_o, zL_s, zL_k, zL_o, zR_s, zR_k, zR_o, zIL, zIR, zIN, zLI, zLR, zLN, zRI, zRL, zRN, true_and, and_true, not_true_eq_false, not_false_eq_true, true_implies, false_implies, implies_true, forall_const, if_true, if_false, eq_self, false_and, and_false, implies_true, nI_l, ylle_t, ylle_f, xcl_t, xcl_f]
    have eq : nI (T + 16 - 1) / nI 16 = nI ((T + 16 - 1) / 16) := pk_div (by omega) (by decide) (by decide)
    rw [eq]
    have L : ∀ m i, i + m = 23104 → (T + 16 - 1) / 16 ≤ i → (∀ j, (T + 16 - 1) / 16 ≤ j → j < i → g j = false) → J mX3_firstFrom d 0 0 Q 0 0 18 [some (.inr (.inr (w - 1))), some (.inl (nI T)), some (.inl (nI i))] [] h := by
      intro m
      induction m using Nat.strongRecOn with
      | ind m ih =>
        intro i hi h1 no
        refine u_X3_firstFrom_18 hr hd ?_
        rcases Nat.eq_zero_or_pos m with m0 | m0
        · simp (disch := omega) only [xle_t, xle_f, xlt_t, xlt_f, xeq_t, xeq_f, xle0_t, xle0_f, xlt0_f, x0lt_t, x0lt_f, x0le_t, xeq0_t, xeq0_f, xin, xem_f, xme_f, xlem_f, xlm_f, xml_t, xmle_t, nI_clamp, nI_add, pk_mul, pk_sub, zI_s, zI_k, zI_o, zL_s, zL_k, zL_o, zR_s, zR_k, zR_o, zIL, zIR, zIN, zLI, zLR, zLN, zRI, zRL, zRN, true_and, and_true, not_true_eq_false, not_false_eq_true, true_implies, false_implies, implies_true, forall_const, if_true, if_false, eq_self, false_and, and_false, implies_true, nI_l, ylle_t, ylle_f, xcl_t, xcl_f]
          exact k0 (fun u hu => Bool.eq_false_iff.mpr (fun y => by
            obtain ⟨⟨j, hj⟩, y2⟩ := hf u y
            have : g j = true := by rw [← hg, ← hj]; exact y
            rw [no j (by omega) (by omega)] at this
            cases this))
        · rw [show w - 1 + 1 = w by omega, lgc_0]
          have b := hK i (by omega)
          have cb := c_bitT (x := h.2.1 w (i / 64)) (i := i)
          rw [b] at cb
          cases gi : g i with
          | true =>
            rw [gi, eq_false (show ¬ true = false by decide)] at cb
            simp (disch := omega) only [xle_t, xle_f, xlt_t, xlt_f, xeq_t, xeq_f, xle0_t, xle0_f, xlt0_f, x0lt_t, x0lt_f, x0le_t, xeq0_t, xeq0_f, xin, xem_f, xme_f, xlem_f, xlm_f, xml_t, xmle_t, nI_clamp, nI_add, pk_mul, pk_sub, zI_s, zI_k, zI_o, zL_s, zL_k, zL_o, zR_s, zR_k, zR_o, zIL, zIR, zIN, zLI, zLR, zLN, zRI, zRL, zRN, true_and, and_true, not_true_eq_false, not_false_eq_true, true_implies, false_implies, implies_true, forall_const, if_true, if_false, eq_self, false_and, and_false, implies_true, nI_l, ylle_t, ylle_f, xcl_t, xcl_f, nI_shr6, cb]
            refine ⟨hz, ?_⟩
            rw [Nat.mul_comm]
            refine k1 (16 * i) (by rw [hg]; exact gi) (by omega) (fun u u1 u2 => ?_)
            exact Bool.eq_false_iff.mpr (fun y => by
              obtain ⟨⟨j, hj⟩, y2⟩ := hf u y
              have : g j = true := by rw [← hg, ← hj]; exact y
              rw [no j (by omega) (by omega)] at this
              cases this)
          | false =>
            rw [gi, eq_true rfl] at cb
            have no' : ∀ j, (T + 16 - 1) / 16 ≤ j → j < i + 1 → g j = false := fun j q1 q2 => by
              by_cases y : j = i
              · rw [y]; exact gi
              · exact no j q1 (by omega)
            by_cases wzr : h.2.1 w (i / 64) = lN 0
            · rw [wzr] at cb
              simp (disch := omega) only [xle_t, xle_f, xlt_t, xlt_f, xeq_t, xeq_f, xle0_t, xle0_f, xlt0_f, x0lt_t, x0lt_f, x0le_t, xeq0_t, xeq0_f, xin, xem_f, xme_f, xlem_f, xlm_f, xml_t, xmle_t, nI_clamp, nI_add, pk_mul, pk_sub, zI_s, zI_k, zI_o, zL_s, zL_k, zL_o, zR_s, zR_k, zR_o, zIL, zIR, zIN, zLI, zLR, zLN, zRI, zRL, zRN, true_and, and_true, not_true_eq_false, not_false_eq_true, true_implies, false_implies, implies_true, forall_const, if_true, if_false, eq_self, false_and, and_false, implies_true, nI_l, ylle_t, ylle_f, xcl_t, xcl_f, nI_shr6, cb, wzr, or_63]
              refine ⟨hz, ih (23104 - (64 * (i / 64) + 63 + 1)) (by omega) (64 * (i / 64) + 63 + 1) (by omega) (by omega) (fun j q1 q2 => ?_)⟩
              rcases Nat.lt_or_ge j (i + 1) with y | y
              · exact no' j q1 y
              · have := wz hK (i := i / 64) (by omega) wzr (j - 64 * (i / 64)) (by omega)
                rw [show 64 * (i / 64) + (j - 64 * (i / 64)) = j by omega] at this
                exact this
            · simp (disch := omega) only [xle_t, xle_f, xlt_t, xlt_f, xeq_t, xeq_f, xle0_t, xle0_f, xlt0_f, x0lt_t, x0lt_f, x0le_t, xeq0_t, xeq0_f, xin, xem_f, xme_f, xlem_f, xlm_f, xml_t, xmle_t, nI_clamp, nI_add, pk_mul, pk_sub, zI_s, zI_k, zI_o, zL_s, zL_k, zL_o, zR_s, zR_k, zR_o, zIL, zIR, zIN, zLI, zLR, zLN, zRI, zRL, zRN, true_and, and_true, not_true_eq_false, not_false_eq_true, true_implies, false_implies, implies_true, forall_const, if_true, if_false, eq_self, false_and, and_false, implies_true, nI_l, ylle_t, ylle_f, xcl_t, xcl_f, nI_shr6, cb, wzr]
              exact ⟨hz, ih (m - 1) (by omega) (i + 1) (by omega) (by omega) no'⟩
    exact L (23104 - (T + 16 - 1) / 16) ((T + 16 - 1) / 16) (by omega) (Nat.le_refl _) (fun j q1 q2 => by omega)
end OPS
