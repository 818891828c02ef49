/-! ===== together, leastFor: what is wanted ===== -/
def wIns (ws : Nat → Nat) (at_ t : Nat) : Nat → Nat := fun k => if k < at_ then ws k else if k = at_ then t else ws (k - 1)
def srt (w : Nat) (ws : Nat → Nat) : Prop := ∀ i j, i < j → j < w → ws i < ws j
theorem wIns_s {w a t : Nat} {ws : Nat → Nat} (hs : srt w ws) (ha : a ≤ w) (h1 : ∀ k, k < a → ws k < t) (h2 : a < w → t < ws a) : srt (w + 1) (wIns ws a t) := fun i j q1 q2 => by
  have h3 : ∀ k, a ≤ k → k < w → t < ws k := fun k y1 y2 => by
    by_cases z : k = a
    · rw [z]; exact h2 (by omega)
    · have := hs a k (by omega) y2
      have := h2 (by omega)
      omega
  unfold wIns
  by_cases c1 : i < a
  · rw [if_pos c1]
    by_cases c2 : j < a
    · rw [if_pos c2]; exact hs i j q1 (by omega)
    · rw [if_neg c2]
      by_cases c3 : j = a
      · rw [if_pos c3]; exact h1 i c1
      · rw [if_neg c3]
        by_cases c4 : i = j - 1
        · omega
        · exact hs i (j - 1) (by omega) (by omega)
  · rw [if_neg c1, if_neg (show ¬ j < a by omega), if_neg (show ¬ j = a by omega)]
    by_cases c3 : i = a
    · rw [if_pos c3]; exact h3 (j - 1) (by omega) (by omega)
    · rw [if_neg c3]; exact hs (i - 1) (j - 1) (by omega) (by omega)
theorem wIns_m {w a t x : Nat} {ws : Nat → Nat} (ha : a ≤ w) : (∃ k, k < w + 1 ∧ wIns ws a t k = x) ↔ ((∃ k, k < w ∧ ws k = x) ∨ t = x) := by
  unfold wIns
  constructor
  · intro ⟨k, k1, k2⟩
    by_cases c1 : k < a
    · rw [if_pos c1] at k2; exact Or.inl ⟨k, by omega, k2⟩
    · rw [if_neg c1] at k2
      by_cases c2 : k = a
      · rw [if_pos c2] at k2; exact Or.inr k2
      · rw [if_neg c2] at k2; exact Or.inl ⟨k - 1, by omega, k2⟩
  · intro q
    rcases q with ⟨k, k1, k2⟩ | q
    · by_cases c1 : k < a
      · exact ⟨k, by omega, by rw [if_pos c1]; exact k2⟩
      · exact ⟨k + 1, by omega, by rw [if_neg (by omega), if_neg (by omega)]; exact k2⟩
    · exact ⟨a, by omega, by rw [if_neg (by omega), if_pos rfl]; exact q⟩
section OPS
variable {B : BK} {out : Bool} {h : MH} {d : Nat} {Q : Option MV → MH → Prop}
def wHd (w : Nat) (ws : Nat → Nat) (h : MH) : Prop := h.1 62 10 = nI w ∧ ∀ k, k < w → h.1 63 k = nI (ws k)
def wFw' (h h' : MH) : Prop := zF (fun a => a ≠ 62 ∧ a ≠ 63) h h' ∧ (∀ k, k ≠ 10 → h'.1 62 k = h.1 62 k) ∧ h'.2.2.1 62 = h.2.2.1 62
theorem wFw'.rfl : wFw' h h := ⟨zF.rfl, fun _ _ => Eq.refl _, Eq.refl _⟩
theorem wFw'.trans {h1 h2 : MH} (a : wFw' h h1) (b : wFw' h1 h2) : wFw' h h2 := ⟨a.1.trans b.1, fun k q => (b.2.1 k q).trans (a.2.1 k q), b.2.2.trans a.2.2⟩
theorem c_wal {w t : Nat} {ws : Nat → Nat} (hr : zRf h) (hw : wHd w ws h) (hs : srt w ws) (hw4 : w ≤ 4) (hb : ∀ k, k < w → ws k ≤ 400000) (ht : t ≤ 400000)
    (ksame : (∃ k, k < w ∧ ws k = t) → Q (some (.inl (nI 1))) h)
    (knew : ∀ a, a ≤ w → (∀ k, k < a → ws k < t) → (a < w → t < ws a) → w < 4 → ∀ h', zRf h' → wFw' h h' → wHd (w + 1) (wIns ws a t) h' → Q (some (.inl (nI 1))) h')
    (kfull : ∀ a, a ≤ w → (∀ k, k < a → ws k < t) → (a < w → t < ws a) → w = 4 → Q (some (.inl (nI 0))) h) : Con mX9_wantAlso d 0 0 [.inr (.inr 62), .inl (nI t)] h Q := by
  obtain ⟨e10, e63⟩ := hw
  refine u_X9_wantAlso ?_
  have ins : ∀ a, a ≤ w → (∀ k, k < a → ws k < t) → (a < w → t < ws a) → w < 4 → J mX9_wantAlso d 0 0 Q 0 0 61 [some (.inr (.inr 62)), some (.inl (nI t)), some (.inl (nI a)), some (.inl (nI w))] [] h := by
    intro a ha h1 h2 w4
    have L : ∀ m i, i = a + m → i ≤ w → ∀ h', zRf h' → zF (fun b => b ≠ 63) h h' → (∀ k, k < i → h'.1 63 k = nI (ws k)) → (∀ k, i < k → k ≤ w → h'.1 63 k = nI (ws (k - 1))) → J mX9_wantAlso d 0 0 Q 0 0 61 [some (.inr (.inr 62)), some (.inl (nI t)), some (.inl (nI a)), some (.inl (nI i))] [] h' := by
      intro m
      induction m with
      | zero =>
        intro i hi hiw h' r' f' g1 g2
        have e' : h'.1 62 10 = nI w := by rw [f'.i (by omega)]; exact e10
        refine u_X9_wantAlso_61 r' ?_
        simp (disch := omega) only [xle_t, xle_f, xlt_t, xlt_f, xeq_t, xeq_f, xle0_t, xle0_f, xlt0_f, x0lt_t, x0lt_f, x0le_t, xeq0_t, xeq0_f, xin, xem_f, xme_f, xlem_f, xlm_f, xml_t, xmle_t, nI_clamp, nI_add, pk_mul, pk_sub, zI_s, zI_k, zI_o, zL_s, zL_k, zL_o, zR_s, zR_k, zR_o, zIL, zIR, zIN, zLI, zLR, zLN, zRI, zRL, zRN, true_and, and_true, not_true_eq_false, not_false_eq_true, true_implies, false_implies, implies_true, forall_const, if_true, if_false, eq_self, false_and, and_false, implies_true, nI_l, ylle_t, ylle_f, xcl_t, xcl_f, e']
        refine knew a ha h1 h2 w4 _ r' ⟨((f'.weak (fun b q => q.2)).trans (zF_I _ _ _ (by omega))).trans (zF_I _ _ _ (by omega)), fun k hk => ?_, ?_⟩ ⟨?_, fun k hk => ?_⟩
        · rw [zI_k _ _ _ hk, zI_o _ _ _ (by omega), f'.i (by omega)]
        · exact f'.r (by omega)
        · rw [zI_s]
        · rw [zI_o _ _ _ (by omega)]
          unfold wIns
          by_cases c1 : k = a
          · rw [c1, zI_s, if_neg (by omega), if_pos rfl]
          · rw [zI_k _ _ _ c1]
            by_cases c2 : k < a
            · rw [if_pos c2]; exact g1 k (by omega)
            · rw [if_neg c2, if_neg c1]; exact g2 k (by omega) (by omega)
      | succ m ih =>
        intro i hi hiw h' r' f' g1 g2
        have ei := g1 (i - 1) (by omega)
        refine u_X9_wantAlso_61 r' ?_
        simp (disch := omega) only [xle_t, xle_f, xlt_t, xlt_f, xeq_t, xeq_f, xle0_t, xle0_f, xlt0_f, x0lt_t, x0lt_f, x0le_t, xeq0_t, xeq0_f, xin, xem_f, xme_f, xlem_f, xlm_f, xml_t, xmle_t, nI_clamp, nI_add, pk_mul, pk_sub, zI_s, zI_k, zI_o, zL_s, zL_k, zL_o, zR_s, zR_k, zR_o, zIL, zIR, zIN, zLI, zLR, zLN, zRI, zRL, zRN, true_and, and_true, not_true_eq_false, not_false_eq_true, true_implies, false_implies, implies_true, forall_const, if_true, if_false, eq_self, false_and, and_false, implies_true, nI_l, ylle_t, ylle_f, xcl_t, xcl_f, ei, nI_dec]
        obtain ⟨i', rfl⟩ : ∃ i', i = i' + 1 := ⟨i - 1, by omega⟩
        rw [eI_s]
        refine ih i' (by omega) (by omega) _ r' (f'.trans (zF_I _ _ _ (by omega))) (fun k hk => ?_) (fun k k1 k2 => ?_)
        · rw [zI_k _ _ _ (by omega)]; exact g1 k (by omega)
        · by_cases c1 : k = i' + 1
          · rw [c1, zI_s]
          · rw [zI_k _ _ _ c1]; exact g2 k (by omega) k2
    exact L (w - a) w (by omega) (Nat.le_refl _) h hr zF.rfl e63 (fun k k1 k2 => by omega)
  have L : ∀ m a, a + m = w → (∀ k, k < a → ws k < t) → J mX9_wantAlso d 0 0 Q 0 0 2 [some (.inr (.inr 62)), some (.inl (nI t)), some (.inl (nI a)), none] [] h := by
    intro m
    induction m with
    | zero =>
      intro a ha hlt
      refine u_X9_wantAlso_2 hr ?_
      rcases Nat.lt_or_ge w 4 with c | c
      · simp (disch := omega) only [xle_t, xle_f, xlt_t, xlt_f, xeq_t, xeq_f, xle0_t, xle0_f, xlt0_f, x0lt_t, x0lt_f, x0le_t, xeq0_t, xeq0_f, xin, xem_f, xme_f, xlem_f, xlm_f, xml_t, xmle_t, nI_clamp, nI_add, pk_mul, pk_sub, zI_s, zI_k, zI_o, zL_s, zL_k, zL_o, zR_s, zR_k, zR_o, zIL, zIR, zIN, zLI, zLR, zLN, zRI, zRL, zRN, true_and, and_true, not_true_eq_false, not_false_eq_true, true_implies, false_implies, implies_true, forall_const, if_true, if_false, eq_self, false_and, and_false, implies_true, nI_l, ylle_t, ylle_f, xcl_t, xcl_f, e10]
        exact ins a (by omega) hlt (fun q => by omega) c
      · simp (disch := omega) only [xle_t, xle_f, xlt_t, xlt_f, xeq_t, xeq_f, xle0_t, xle0_f, xlt0_f, x0lt_t, x0lt_f, x0le_t, xeq0_t, xeq0_f, xin, xem_f, xme_f, xlem_f, xlm_f, xml_t, xmle_t, nI_clamp, nI_add, pk_mul, pk_sub, zI_s, zI_k, zI_o, zL_s, zL_k, zL_o, zR_s, zR_k, zR_o, zIL, zIR, zIN, zLI, zLR, zLN, zRI, zRL, zRN, true_and, and_true, not_true_eq_false, not_false_eq_true, true_implies, false_implies, implies_true, forall_const, if_true, if_false, eq_self, false_and, and_false, implies_true, nI_l, ylle_t, ylle_f, xcl_t, xcl_f, e10]
        exact kfull a (by omega) hlt (fun q => by omega) (by omega)
    | succ m ih =>
      intro a ha hlt
      have ea := e63 a (by omega)
      have ba := hb a (by omega)
      refine u_X9_wantAlso_2 hr ?_
      rcases Nat.lt_or_ge (ws a) t with c1 | c1
      · simp (disch := omega) only [xle_t, xle_f, xlt_t, xlt_f, xeq_t, xeq_f, xle0_t, xle0_f, xlt0_f, x0lt_t, x0lt_f, x0le_t, xeq0_t, xeq0_f, xin, xem_f, xme_f, xlem_f, xlm_f, xml_t, xmle_t, nI_clamp, nI_add, pk_mul, pk_sub, zI_s, zI_k, zI_o, zL_s, zL_k, zL_o, zR_s, zR_k, zR_o, zIL, zIR, zIN, zLI, zLR, zLN, zRI, zRL, zRN, true_and, and_true, not_true_eq_false, not_false_eq_true, true_implies, false_implies, implies_true, forall_const, if_true, if_false, eq_self, false_and, and_false, implies_true, nI_l, ylle_t, ylle_f, xcl_t, xcl_f, e10, ea]
        exact ih (a + 1) (by omega) (fun k hk => by
          by_cases z : k = a
          · rw [z]; exact c1
          · exact hlt k (by omega))
      · by_cases c2 : ws a = t
        · simp (disch := omega) only [xle_t, xle_f, xlt_t, xlt_f, xeq_t, xeq_f, xle0_t, xle0_f, xlt0_f, x0lt_t, x0lt_f, x0le_t, xeq0_t, xeq0_f, xin, xem_f, xme_f, xlem_f, xlm_f, xml_t, xmle_t, nI_clamp, nI_add, pk_mul, pk_sub, zI_s, zI_k, zI_o, zL_s, zL_k, zL_o, zR_s, zR_k, zR_o, zIL, zIR, zIN, zLI, zLR, zLN, zRI, zRL, zRN, true_and, and_true, not_true_eq_false, not_false_eq_true, true_implies, false_implies, implies_true, forall_const, if_true, if_false, eq_self, false_and, and_false, implies_true, nI_l, ylle_t, ylle_f, xcl_t, xcl_f, e10, ea]
          exact ksame ⟨a, by omega, c2⟩
        · rcases Nat.lt_or_ge w 4 with c | c
          · simp (disch := omega) only [xle_t, xle_f, xlt_t, xlt_f, xeq_t, xeq_f, xle0_t, xle0_f, xlt0_f, x0lt_t, x0lt_f, x0le_t, xeq0_t, xeq0_f, xin, xem_f, xme_f, xlem_f, xlm_f, xml_t, xmle_t, nI_clamp, nI_add, pk_mul, pk_sub, zI_s, zI_k, zI_o, zL_s, zL_k, zL_o, zR_s, zR_k, zR_o, zIL, zIR, zIN, zLI, zLR, zLN, zRI, zRL, zRN, true_and, and_true, not_true_eq_false, not_false_eq_true, true_implies, false_implies, implies_true, forall_const, if_true, if_false, eq_self, false_and, and_false, implies_true, nI_l, ylle_t, ylle_f, xcl_t, xcl_f, e10, ea]
            exact ins a (by omega) hlt (fun q => by omega) c
          · simp (disch := omega) only [xle_t, xle_f, xlt_t, xlt_f, xeq_t, xeq_f, xle0_t, xle0_f, xlt0_f, x0lt_t, x0lt_f, x0le_t, xeq0_t, xeq0_f, xin, xem_f, xme_f, xlem_f, xlm_f, xml_t, xmle_t, nI_clamp, nI_add, pk_mul, pk_sub, zI_s, zI_k, zI_o, zL_s, zL_k, zL_o, zR_s, zR_k, zR_o, zIL, zIR, zIN, zLI, zLR, zLN, zRI, zRL, zRN, true_and, and_true, not_true_eq_false, not_false_eq_true, true_implies, false_implies, implies_true, forall_const, if_true, if_false, eq_self, false_and, and_false, implies_true, nI_l, ylle_t, ylle_f, xcl_t, xcl_f, e10, ea]
            exact kfull a (by omega) hlt (fun q => by omega) (by omega)
  exact L w 0 (by omega) (fun k hk => by omega)
/-- all of a row are moments -/
def rTd (n : Nat) (f : Nat → Int64) (b : WN) : Bool := decide (∀ i, i < n → ∃ j, j < b.1 ∧ ((b.2.2.2 (j + 1) : Nat) : Int) = (f i).toInt)
def wOf (w : Nat) (ws : Nat → Nat) (i : Nat) (f : Nat → Int64) : Prop := ∀ x : Nat, (∃ k, k < w ∧ ws k = x) ↔ ∃ j, j < i ∧ (f j).toInt = (x : Int)
theorem c_wnt {n : Nat} {r : Nat} {f : Nat → Int64} (hr : zRf h) (hq : r < 4) (hn : n ≤ 40) (e2 : h.1 (103 + 2 * r) 2 = nI n) (ef : ∀ i, i < n → h.2.1 (103 + 2 * r + 1) i = f i) (hd : 1 ≤ d)
    (kno : 0 < n → (∀ (C : CE) (S : Nat) (out : Bool), cOK C → wSet C S → ∀ b, b ∈ wAll C S out → rTd n f b = false) → ∀ h', zRf h' → wFw' h h' → Q (some (.inl (nI 0))) h')
    (kyes : ∀ w ws, w ≤ 4 → srt w ws → (∀ k, k < w → 1 ≤ ws k ∧ ws k ≤ 368656) → wOf w ws n f → (∀ j, j < n → 0 ≤ (f j).toInt) → ∀ h', zRf h' → wFw' h h' → wHd w ws h' → Q (some (.inl (nI 1))) h') : Con mX9_want d 0 0 [.inr (.inr 62), .inr (.inr (103 + 2 * r))] h Q := by
  refine u_X9_want hr ?_
  have L : ∀ m i w ws, i + m = n → w ≤ 4 → srt w ws → (∀ k, k < w → 1 ≤ ws k ∧ ws k ≤ 368656) → wOf w ws i f → (∀ j, j < i → 0 ≤ (f j).toInt) → ∀ h', zRf h' → wFw' h h' → wHd w ws h' → ∀ u, J mX9_want d 0 0 Q 0 0 7 [some (.inr (.inr 62)), some (.inr (.inr (103 + 2 * r))), some (.inl (nI i)), u, none] [] h' := by
    intro m
    induction m with
    | zero =>
      intro i w ws hi w4 sw bw ow pw h' r' f' hw u
      obtain rfl : i = n := by omega
      have z7 : zokO h' (103 + 2 * r) 7 := zrw' r' hq
      have e2' : h'.1 (103 + 2 * r) 2 = nI i := by rw [f'.1.i (by omega)]; exact e2
      refine u_X9_want_7 (d1' := d - 1) r' (by omega) ⟨z7, ?_⟩
      simp (disch := omega) only [xle_t, xle_f, xlt_t, xlt_f, xeq_t, xeq_f, xle0_t, xle0_f, xlt0_f, x0lt_t, x0lt_f, x0le_t, xeq0_t, xeq0_f, xin, xem_f, xme_f, xlem_f, xlm_f, xml_t, xmle_t, nI_clamp, nI_add, pk_mul, pk_sub, zI_s, zI_k, zI_o, zL_s, zL_k, zL_o, zR_s, zR_k, zR_o, zIL, zIR, zIN, zLI, zLR, zLN, zRI, zRL, zRN, true_and, and_true, not_true_eq_false, not_false_eq_true, true_implies, false_implies, implies_true, forall_const, if_true, if_false, eq_self, false_and, and_false, implies_true, nI_l, ylle_t, ylle_f, xcl_t, xcl_f, e2']
      exact kyes w ws w4 sw bw ow pw h' r' f' hw
    | succ m ih =>
      intro i w ws hi w4 sw bw ow pw h' r' f' hw u
      have z7 : zokO h' (103 + 2 * r) 7 := zrw' r' hq
      have e2' : h'.1 (103 + 2 * r) 2 = nI n := by rw [f'.1.i (by omega)]; exact e2
      have el : h'.2.1 (103 + 2 * r + 1) i = f i := by rw [f'.1.l (by omega)]; exact ef i (by omega)
      have c1 : (lg_cmp (f i) (lN 1) < 0) = ((f i).toInt < 1) := propext (by rw [lg_cmp_lt, Int64.lt_iff_toInt_lt]; exact Iff.rfl)
      have c2 : (0 < lg_cmp (f i) (368656 : Int64)) = (368656 < (f i).toInt) := propext (by rw [lg_cmp_gt, Int64.lt_iff_toInt_lt]; exact Iff.rfl)
      refine u_X9_want_7 (d1' := d - 1) r' (by omega) ⟨z7, ?_⟩
      -- a number that no moment can be
      have out_ : ((f i).toInt < 1 ∨ 368656 < (f i).toInt) → Q (some (.inl (nI 0))) h' := fun q => kno (by omega) (fun C S out hC hS b hb => decide_eq_false (fun y => by
        obtain ⟨j, j1, j2⟩ := y i (by omega)
        have y1 := (wAll_mom hC hS hb (j := j + 1) (by omega)).2
        have y2 := wAl_b hC hS
        have y3 := (wAll_gr hC hS hb).2.2.2.2.1.le (i := 1) (j := j + 1) (by omega) (by omega)
        have y4 : b.2.2.2 0 < b.2.2.2 1 := (wAll_gr hC hS hb).2.2.2.2.1 0 (by omega)
        omega)) h' r' f'
      by_cases q1 : (f i).toInt < 1
      · simp (disch := omega) only [xle_t, xle_f, xlt_t, xlt_f, xeq_t, xeq_f, xle0_t, xle0_f, xlt0_f, x0lt_t, x0lt_f, x0le_t, xeq0_t, xeq0_f, xin, xem_f, xme_f, xlem_f, xlm_f, xml_t, xmle_t, nI_clamp, nI_add, pk_mul, pk_sub, zI_s, zI_k, zI_o, zL_s, zL_k, zL_o, zR_s, zR_k, zR_o, zIL, zIR, zIN, zLI, zLR, zLN, zRI, zRL, zRN, true_and, and_true, not_true_eq_false, not_false_eq_true, true_implies, false_implies, implies_true, forall_const, if_true, if_false, eq_self, false_and, and_false, implies_true, nI_l, ylle_t, ylle_f, xcl_t, xcl_f, e2', el, c1, q1]
        exact out_ (Or.inl q1)
      by_cases q2 : 368656 < (f i).toInt
      · simp (disch := omega) only [xle_t, xle_f, xlt_t, xlt_f, xeq_t, xeq_f, xle0_t, xle0_f, xlt0_f, x0lt_t, x0lt_f, x0le_t, xeq0_t, xeq0_f, xin, xem_f, xme_f, xlem_f, xlm_f, xml_t, xmle_t, nI_clamp, nI_add, pk_mul, pk_sub, zI_s, zI_k, zI_o, zL_s, zL_k, zL_o, zR_s, zR_k, zR_o, zIL, zIR, zIN, zLI, zLR, zLN, zRI, zRL, zRN, true_and, and_true, not_true_eq_false, not_false_eq_true, true_implies, false_implies, implies_true, forall_const, if_true, if_false, eq_self, false_and, and_false, implies_true, nI_l, ylle_t, ylle_f, xcl_t, xcl_f, e2', el, c1, q1, c2, q2]
        exact out_ (Or.inr q2)
      obtain ⟨t, ht⟩ : ∃ t : Nat, (f i).toInt = (t : Int) := ⟨(f i).toInt.toNat, by omega⟩
      have fi : f i = lN t := Int64.toInt_inj.mp (by rw [ht, pk_lT (by omega)])
      simp (disch := omega) only [xle_t, xle_f, xlt_t, xlt_f, xeq_t, xeq_f, xle0_t, xle0_f, xlt0_f, x0lt_t, x0lt_f, x0le_t, xeq0_t, xeq0_f, xin, xem_f, xme_f, xlem_f, xlm_f, xml_t, xmle_t, nI_clamp, nI_add, pk_mul, pk_sub, zI_s, zI_k, zI_o, zL_s, zL_k, zL_o, zR_s, zR_k, zR_o, zIL, zIR, zIN, zLI, zLR, zLN, zRI, zRL, zRN, true_and, and_true, not_true_eq_false, not_false_eq_true, true_implies, false_implies, implies_true, forall_const, if_true, if_false, eq_self, false_and, and_false, implies_true, nI_l, ylle_t, ylle_f, xcl_t, xcl_f, e2', el, c1, q1, c2, q2]
      rw [fi, lN_to (by omega)]
      refine c_wal r' hw sw w4 (fun k hk => by have := (bw k hk).2; omega) (by omega) ?_ ?_ ?_
      · intro same
        refine u_X9_want_42 ?_
        simp (disch := omega) only [xle_t, xle_f, xlt_t, xlt_f, xeq_t, xeq_f, xle0_t, xle0_f, xlt0_f, x0lt_t, x0lt_f, x0le_t, xeq0_t, xeq0_f, xin, xem_f, xme_f, xlem_f, xlm_f, xml_t, xmle_t, nI_clamp, nI_add, pk_mul, pk_sub, zI_s, zI_k, zI_o, zL_s, zL_k, zL_o, zR_s, zR_k, zR_o, zIL, zIR, zIN, zLI, zLR, zLN, zRI, zRL, zRN, true_and, and_true, not_true_eq_false, not_false_eq_true, true_implies, false_implies, implies_true, forall_const, if_true, if_false, eq_self, false_and, and_false, implies_true, nI_l, ylle_t, ylle_f, xcl_t, xcl_f]
        refine ih (i + 1) w ws (by omega) w4 sw bw (fun x => ?_) (fun j hj => by
          by_cases y : j = i
          · rw [y]; omega
          · exact pw j (by omega)) h' r' f' hw _
        rw [ow x]
        constructor
        · intro ⟨j, j1, j2⟩; exact ⟨j, by omega, j2⟩
        · intro ⟨j, j1, j2⟩
          by_cases y : j = i
          · rw [y, ht] at j2
            obtain ⟨k, k1, k2⟩ := same
            exact (ow x).mp ⟨k, k1, by omega⟩
          · exact ⟨j, by omega, j2⟩
      · intro a ha h1 h2 w4' h2' r2 f2 hw2
        refine u_X9_want_42 ?_
        simp (disch := omega) only [xle_t, xle_f, xlt_t, xlt_f, xeq_t, xeq_f, xle0_t, xle0_f, xlt0_f, x0lt_t, x0lt_f, x0le_t, xeq0_t, xeq0_f, xin, xem_f, xme_f, xlem_f, xlm_f, xml_t, xmle_t, nI_clamp, nI_add, pk_mul, pk_sub, zI_s, zI_k, zI_o, zL_s, zL_k, zL_o, zR_s, zR_k, zR_o, zIL, zIR, zIN, zLI, zLR, zLN, zRI, zRL, zRN, true_and, and_true, not_true_eq_false, not_false_eq_true, true_implies, false_implies, implies_true, forall_const, if_true, if_false, eq_self, false_and, and_false, implies_true, nI_l, ylle_t, ylle_f, xcl_t, xcl_f]
        refine ih (i + 1) (w + 1) (wIns ws a t) (by omega) (by omega) (wIns_s sw ha h1 h2) (fun k hk => ?_) (fun x => ?_) (fun j hj => by
          by_cases y : j = i
          · rw [y]; omega
          · exact pw j (by omega)) h2' r2 (f'.trans f2) hw2 _
        · have := (wIns_m (ws := ws) (t := t) (x := wIns ws a t k) ha).mp ⟨k, hk, rfl⟩
          rcases this with ⟨k', k1, k2⟩ | q
          · rw [← k2]; exact bw k' k1
          · rw [← q]; omega
        · rw [wIns_m ha, ow x]
          constructor
          · intro q
            rcases q with ⟨j, j1, j2⟩ | q
            · exact ⟨j, by omega, j2⟩
            · exact ⟨i, by omega, by rw [ht, q]⟩
          · intro ⟨j, j1, j2⟩
            by_cases y : j = i
            · rw [y, ht] at j2; exact Or.inr (by omega)
            · exact Or.inl ⟨j, by omega, j2⟩
      · intro a ha h1 h2 w4'
        refine u_X9_want_42 ?_
        simp (disch := omega) only [xle_t, xle_f, xlt_t, xlt_f, xeq_t, xeq_f, xle0_t, xle0_f, xlt0_f, x0lt_t, x0lt_f, x0le_t, xeq0_t, xeq0_f, xin, xem_f, xme_f, xlem_f, xlm_f, xml_t, xmle_t, nI_clamp, nI_add, pk_mul, pk_sub, zI_s, zI_k, zI_o, zL_s, zL_k, zL_o, zR_s, zR_k, zR_o, zIL, zIR, zIN, zLI, zLR, zLN, zRI, zRL, zRN, true_and, and_true, not_true_eq_false, not_false_eq_true, true_implies, false_implies, implies_true, forall_const, if_true, if_false, eq_self, false_and, and_false, implies_true, nI_l, ylle_t, ylle_f, xcl_t, xcl_f]
        refine kno (by omega) (fun C S out hC hS b hb => Bool.eq_false_iff.mpr (fun y => ?_)) h' r' f'
        have y' := of_decide_eq_true y
        have b4 : b.1 ≤ 4 := by have := (wAll_gr hC hS hb).2.2.2.2.2.2.2.1; omega
        have td : wTd (w + 1) (wIns ws a t) b = true := decide_eq_true (fun k hk => by
          have q := (wIns_m (ws := ws) (t := t) (x := wIns ws a t k) ha).mp ⟨k, hk, rfl⟩
          have : ∃ j, j < n ∧ (f j).toInt = ((wIns ws a t k : Nat) : Int) := by
            rcases q with q | q
            · obtain ⟨j, j1, j2⟩ := (ow _).mp q
              exact ⟨j, by omega, j2⟩
            · exact ⟨i, by omega, by omega⟩
          obtain ⟨j, j1, j2⟩ := this
          obtain ⟨l, l1, l2⟩ := y' j j1
          exact ⟨l, l1, by omega⟩)
        have := wTd_cnt (wAll_gr hC hS hb).2.2.2.2.1 (wIns_s sw ha h1 h2) td
        omega
  refine L n 0 0 (fun _ => 0) (by omega) (by omega) (fun i j _ q => by omega) (fun k hk => by omega) (fun x => ⟨fun ⟨k, k1, _⟩ => by omega, fun ⟨j, j1, _⟩ => by omega⟩) (fun j hj => by omega) (zsI h 62 10 (nI 0)) hr ⟨zF_I _ _ _ (by omega), fun k hk => zI_k _ _ _ hk, rfl⟩ ⟨zI_s _ _ _ _, fun k hk => by omega⟩ _
theorem rTd_w {w n : Nat} {ws : Nat → Nat} {f : Nat → Int64} {b : WN} (h : wOf w ws n f) (hb : ∀ i, i < n → 0 ≤ (f i).toInt) : rTd n f b = wTd w ws b := by
  rw [Bool.eq_iff_iff]
  unfold rTd wTd
  rw [decide_eq_true_eq, decide_eq_true_eq]
  constructor
  · intro q k hk
    obtain ⟨j, j1, j2⟩ := (h (ws k)).mp ⟨k, hk, rfl⟩
    obtain ⟨l, l1, l2⟩ := q j j1
    exact ⟨l, l1, by omega⟩
  · intro q i hi
    obtain ⟨x, hx⟩ : ∃ x : Nat, (f i).toInt = (x : Int) := ⟨(f i).toInt.toNat, by have := hb i hi; omega⟩
    obtain ⟨k, k1, k2⟩ := (h x).mpr ⟨i, hi, hx⟩
    obtain ⟨l, l1, l2⟩ := q k k1
    exact ⟨l, l1, by omega⟩
end OPS
