/-! ===== ways in the class: all moments marked ===== -/
def wKw (S : Nat → Bool) (f : Nat → Int64) : Prop := ∀ i, i < 23104 → (f (i / 64)).toBitVec.getLsbD (i % 64) = S i
def wKu (S : Nat → Bool) (i : Nat) : Nat → Bool := fun j => S j || decide (j = i)
theorem lN_bit {k : Nat} (hk : k < 64) (i : Nat) (hi : i < 64) : (lN (1 * 2 ^ k)).toBitVec.getLsbD i = decide (i = k) := by
  rw [wb_tb, Nat.one_mul, BitVec.getLsbD_ofNat, Nat.testBit_two_pow, decide_eq_true hi, Bool.true_and]
  by_cases z : i = k
  · rw [decide_eq_true z, decide_eq_true z.symm]
  · rw [decide_eq_false z, decide_eq_false (fun q => z q.symm)]
/-- one mark more -/
theorem wKw_add {S : Nat → Bool} {h : MH} {w i : Nat} (q : wKw S (h.2.1 w)) (hi : i < 23104) : wKw (wKu S i) ((zsL h w (i / 64) (h.2.1 w (i / 64) ||| lN (1 * 2 ^ (i % 64)))).2.1 w) := fun j hj => by
  have qj := q j hj
  unfold wKu
  by_cases z : j / 64 = i / 64
  · rw [z, zL_s]
    rw [z] at qj
    rw [Int64.toBitVec_or, BitVec.getLsbD_or, qj, lN_bit (Nat.mod_lt _ (by decide)) _ (Nat.mod_lt _ (by decide))]
    congr 1
    by_cases y : j = i
    · rw [y, decide_eq_true rfl, decide_eq_true rfl]
    · rw [decide_eq_false (by omega), decide_eq_false y]
  · rw [zL_k _ _ _ z, qj, decide_eq_false (by omega), Bool.or_false]
theorem nI_shr6 {x : Nat} (h : x < 2 ^ 31) : nI x >>> ((nI 6) &&& 31) = nI (x / 64) := pk_shrN h _ 6 (by decide)
theorem nI_and63 {x : Nat} : nI x &&& nI 63 = nI (x % 64) := by
  rw [nx_and, show (63 : Nat) = 2 ^ 6 - 1 from rfl, Nat.and_two_pow_sub_one_eq_mod]
theorem lN_shl {x : Nat} : lN 1 <<< ((nI x &&& nI 63).toInt64 &&& 63) = lN (1 * 2 ^ (x % 64)) := by
  rw [nI_and63, wb_shl 1 (Nat.mod_lt _ (by decide))]
def mU (S : Nat → Bool) (b : WN) : Nat → Bool := wKu S (b.2.2.2 b.1 / 16)
def mkR (w : Nat) (S : Nat → Bool) (h : MH) : Prop := h.1 62 7 = nI 0 ∧ wKw S (h.2.1 w)
theorem c_arM {n w : Nat} {out : Bool} (hw9 : w = 98 ∨ w = 100) : ∀ (k e : Nat) (a : WN) (W : Nat), wI n a → 0 < W → W < 3 ^ n → wOk n out (a.2.1 a.1) (a.2.2.1 a.1) (wG n W) = true → a.1 + 1 + k = 4 → 3 * k + 1 ≤ e → ∀ (s : Nat → Bool) (h : MH) (sp : Int32), zRf h → wC n out (wCh n a W) h → h.1 62 4 = nI 0 → h.2.2.1 62 11 = w - 1 → mkR w s h → ∀ Q : Option MV → MH → Prop, (∀ h', zRf h' → wFr w (a.1 + 1) h h' → mkR w ((wCh n a W :: wNd n out k (wCh n a W)).foldl mU s) h' → Q none h') → Con mX9_arrive (e + 3) 0 0 [.inr (.inr 62), .inl (nI (a.1 + 1)), .inl (nI (fb_sm ((wCh n a W).2.1 (a.1 + 1)) n)), .inl sp] h Q := by
  intro k
  induction k with
  | zero =>
    intro e a W hI w0 w3 ok hk he s h sp hr hw t4 t11 hR Q kk
    have hI' := (wCh_I hI w0 w3 ok).1
    have bS := hI'.2.2.2
    have em := (hw.2.2 (a.1 + 1) (Nat.le_refl _)).1
    rw [wCh_L] at bS
    refine u_X9_arrive hr ?_
    rw [t4]
    refine arr_0 (u_X9_arrive_40 (d1' := e + 2) (d2' := e + 2) (d3' := e + 2) hr (by omega) (by omega) (by omega) (by omega) ?_)
    have z3 : zokO h (w - 1) 3 := by rcases hw9 with q | q <;> rw [q] <;> exact zo hr (by decide) rfl
    have e1 : w - 1 + 1 = w := by omega
    rw [t11, e1]
    simp (disch := omega) only [xle_t, xle_f, xlt_t, xlt_f, xeq_t, xeq_f, xle0_t, xle0_f, xlt0_f, x0lt_t, x0lt_f, x0le_t, xeq0_t, xeq0_f, xin, xem_f, xme_f, xlem_f, xlm_f, xml_t, xmle_t, nI_clamp, nI_add, pk_mul, pk_sub, zI_s, zI_k, zI_o, zL_s, zL_k, zL_o, zR_s, zR_k, zR_o, zIL, zIR, zIN, zLI, zLR, zLN, zRI, zRL, zRN, true_and, and_true, not_true_eq_false, not_false_eq_true, true_implies, false_implies, implies_true, forall_const, if_true, if_false, eq_self, false_and, and_false, implies_true, nI_l, ylle_t, ylle_f, xcl_t, xcl_f, em, pk_div, nI_shr6, lN_shl]
    refine ⟨z3, ?_⟩
    refine c_go (a := wCh n a W) (h0 := zsL h w _ _) (k := 0) (w := w) (d := e) (out := out) (U := mU) (ov := fun _ => false) (R := mkR w) (s := mU s (wCh n a W)) hr hI' hk ?_ (Or.inr (by omega)) ?_ rfl (fun _ _ q => by cases q) (fun _ _ q => q.1) ?_ (by omega) (fun k' q => by omega) ?_
    · exact hw
    · exact ⟨hR.1, wKw_add hR.2 (by rw [wCh_L]; omega)⟩
    · intro s' h1 h2 _ q f
      exact ⟨by rw [f.i (by omega)]; exact q.1, by rw [f.l (by omega)]; exact q.2⟩
    · intro h' r' f' R'
      refine u_X9_arrive_60 (kk h' r' (wFr.trans ?_ f') R')
      exact ⟨zF_L _ _ _ (by omega), fun _ _ => rfl, fun _ _ => rfl, rfl⟩
  | succ k ih =>
    intro e a W hI w0 w3 ok hk he s h sp hr hw t4 t11 hR Q kk
    have hI' := (wCh_I hI w0 w3 ok).1
    have bS := hI'.2.2.2
    have em := (hw.2.2 (a.1 + 1) (Nat.le_refl _)).1
    obtain ⟨e, rfl⟩ : ∃ e', e = e' + 3 := ⟨e - 3, by omega⟩
    rw [wCh_L] at bS
    refine u_X9_arrive hr ?_
    rw [t4]
    refine arr_0 (u_X9_arrive_40 (d1' := e + 5) (d2' := e + 5) (d3' := e + 5) hr (by omega) (by omega) (by omega) (by omega) ?_)
    have z3 : zokO h (w - 1) 3 := by rcases hw9 with q | q <;> rw [q] <;> exact zo hr (by decide) rfl
    have e1 : w - 1 + 1 = w := by omega
    rw [t11, e1]
    simp (disch := omega) only [xle_t, xle_f, xlt_t, xlt_f, xeq_t, xeq_f, xle0_t, xle0_f, xlt0_f, x0lt_t, x0lt_f, x0le_t, xeq0_t, xeq0_f, xin, xem_f, xme_f, xlem_f, xlm_f, xml_t, xmle_t, nI_clamp, nI_add, pk_mul, pk_sub, zI_s, zI_k, zI_o, zL_s, zL_k, zL_o, zR_s, zR_k, zR_o, zIL, zIR, zIN, zLI, zLR, zLN, zRI, zRL, zRN, true_and, and_true, not_true_eq_false, not_false_eq_true, true_implies, false_implies, implies_true, forall_const, if_true, if_false, eq_self, false_and, and_false, implies_true, nI_l, ylle_t, ylle_f, xcl_t, xcl_f, em, pk_div, nI_shr6, lN_shl]
    refine ⟨z3, ?_⟩
    refine c_go (a := wCh n a W) (h0 := zsL h w _ _) (k := k + 1) (w := w) (d := e + 3) (out := out) (U := mU) (ov := fun _ => false) (R := mkR w) (s := mU s (wCh n a W)) hr hI' hk ?_ (Or.inr (by omega)) ?_ rfl (fun _ _ q => by cases q) (fun _ _ q => q.1) ?_ (by omega) ?_ ?_
    · exact hw
    · exact ⟨hR.1, wKw_add hR.2 (by rw [wCh_L]; omega)⟩
    · intro s' h1 h2 _ q f
      exact ⟨by rw [f.i (by omega)]; exact q.1, by rw [f.l (by omega)]; exact q.2⟩
    · intro k' q W' v0 v3 ok' s' h' r' f' c' R' v' Q' kq
      obtain rfl : k = k' := by omega
      exact ih e (wCh n a W) W' hI' v0 v3 ok' (by rw [wCh_L]; omega) (by omega) s' h' _ r' c' (by rw [f'.2.1 4 (by omega)]; exact t4) (by rw [f'.2.2.2]; exact t11) R' Q' kq
    · intro h' r' f' R'
      refine u_X9_arrive_60 (kk h' r' (wFr.trans ?_ f') R')
      exact ⟨zF_L _ _ _ (by omega), fun _ _ => rfl, fun _ _ => rfl, rfl⟩
