/-! ===== the k-th of the times told ===== -/
theorem shw (x : Int32) {c : Nat} (hc : c < 32) : (x >>> (nI c &&& 31)) &&& nI 1 = nI (if bt x c = true then 1 else 0) := by
  have e := b_sshr c hc x (i := 0) (by omega)
  rw [if_pos (by omega), Nat.add_zero] at e
  rw [pk_and _ (m := nI 1) 1 rfl, ← e]
  unfold bt
  rw [BitVec.getLsbD, Nat.testBit_zero]
  by_cases z : (x >>> (nI c &&& 31)).toBitVec.toNat % 2 = 1
  · rw [decide_eq_true z, if_pos rfl]
    show nI (_ % 2) = _
    rw [z]
  · rw [decide_eq_false z, if_neg (by decide)]
    show nI (_ % 2) = _
    rw [show (x >>> (nI c &&& 31)).toBitVec.toNat % 2 = 0 by omega]
def tF (f : Nat → Bool) : Prop := ∀ t, f t = true → 16 ∣ t ∧ t ≤ 368640
theorem ct16 {f : Nat → Bool} (hf : tF f) : ∀ i, fb_ct f (16 * i) = fb_ct (fun j => f (16 * j)) i
  | 0 => rfl
  | i + 1 => by
    rw [show 16 * (i + 1) = 16 * i + (1 + 15) by omega, fb_ct_split, ct16 hf i, fb_ct_split, fb_ct_succ]
    have z : fb_ct (fun k => (fun k => f (16 * i + k)) (1 + k)) 15 = 0 := fb_ct_zero.mpr (fun k hk => Bool.eq_false_iff.mpr (fun q => by
      have := (hf _ q).1
      omega))
    rw [z, fb_ct_succ]
    show _ + (0 + _ + 0) = _
    rw [Nat.zero_add, Nat.add_zero]
    rfl
theorem ct_top {f : Nat → Bool} (hf : tF f) : fb_ct f 371200 = fb_ct (fun j => f (16 * j)) 23104 := by
  rw [← ct16 hf, show (371200 : Nat) = 16 * 23104 + 1536 from rfl, fb_ct_split]
  have : fb_ct (fun k => f (16 * 23104 + k)) 1536 = 0 := fb_ct_zero.mpr (fun k hk => Bool.eq_false_iff.mpr (fun q => by have := (hf _ q).2; omega))
  rw [this, Nat.add_zero]
def gTim (f : Nat → Bool) (k : Int32) : Int32 := if k = -(nI 1) then nI (fb_ct f 371200) else oI (fFst (fun t => f t && decide (nI (fb_ct f t) = k)) 371200 0)
theorem fFst_none {e : Nat → Bool} : ∀ {m k : Nat}, (∀ j, k ≤ j → j < k + m → e j = false) → fFst e m k = none
  | 0, _, _ => rfl
  | m + 1, k, h => by
    show (if e k = true then some k else fFst e m (k + 1)) = none
    rw [if_neg (by rw [h k (by omega) (by omega)]; decide)]
    exact fFst_none (fun j q1 q2 => h j (by omega) (by omega))
theorem fFst_at {e : Nat → Bool} {t : Nat} (ht : e t = true) : ∀ {m k : Nat}, k ≤ t → t < k + m → (∀ j, k ≤ j → j < t → e j = false) → fFst e m k = some t
  | 0, k, h1, h2, _ => by omega
  | m + 1, k, h1, h2, h => by
    show (if e k = true then some k else fFst e m (k + 1)) = some t
    by_cases z : k = t
    · rw [z, if_pos ht]
    · rw [if_neg (by rw [h k (by omega) (by omega)]; decide)]
      exact fFst_at ht (by omega) (by omega) (fun j q1 q2 => h j (by omega) q2)
theorem ct_lt {f : Nat → Bool} {a b : Nat} (h : a < b) (ha : f a = true) : fb_ct f a < fb_ct f b := by
  have h1 := fb_ct_mono f (show a + 1 ≤ b from h)
  rw [fb_ct_succ, if_pos ha] at h1
  omega
theorem gTim_hit {f : Nat → Bool} {t K : Nat} (ht : f t = true) (hk : fb_ct f t = K) (hl : t < 371200) : gTim f (nI K) = nI t := by
  have bK : K ≤ 371200 := by rw [← hk]; exact Nat.le_trans (fb_ct_le _ _) (by omega)
  unfold gTim
  rw [if_neg (by rw [xem_f (by omega)]; exact id), fFst_at (t := t) (by rw [ht, hk, decide_eq_true rfl]; rfl) (by omega) (by omega) (fun j _ q => ?_)]
  · rfl
  · cases hj : f j with
    | false => rfl
    | true =>
      have := ct_lt q hj
      have bj := fb_ct_le f j
      rw [Bool.true_and]
      exact decide_eq_false (fun y => by rw [nI_eq (by omega) (by omega)] at y; omega)
theorem gTim_miss {f : Nat → Bool} {K : Nat} (hK : K < 2 ^ 31) (hk : fb_ct f 371200 ≤ K) : gTim f (nI K) = -(nI 1) := by
  unfold gTim
  rw [if_neg (by rw [xem_f hK]; exact id), fFst_none (fun j _ q => ?_)]
  · rfl
  · cases hj : f j with
    | false => rfl
    | true =>
      have := ct_lt (show j < 371200 by omega) hj
      rw [Bool.true_and]
      exact decide_eq_false (fun y => by rw [nI_eq (by omega) hK] at y; omega)
theorem gTim_neg {f : Nat → Bool} {k : Int32} (h : k < 0) (h1 : ¬ k = -(nI 1)) : gTim f k = -(nI 1) := by
  unfold gTim
  rw [if_neg h1, fFst_none (fun j _ q => ?_)]
  · rfl
  · have bj := fb_ct_le f j
    rw [Bool.and_eq_false_iff]
    refine Or.inr (decide_eq_false (fun y => ?_))
    rw [← y] at h
    exact absurd h (nI_pos (by omega))
theorem n_tat {f : Nat → Bool} {k : Int32} {h : MH} {d : Nat} {Q : Option MV → MH → Prop} (hr : zRf h) (hT : mTb f (h.1 132)) (hd : 1 ≤ d) (kk : Q (some (.inl (gTim f k))) h) : Con mX11_timeAt d 0 0 [.inr (.inr 111), .inl k] h Q := by
  refine u_X11_timeAt ?_
  have L : ∀ m t, t + m = 371200 → Q (some (.inl (if k = -(nI 1) then nI (fb_ct f 371200) else oI (fFst (fun t => f t && decide (nI (fb_ct f t) = k)) m t)))) h → J mX11_timeAt d 0 0 Q 0 0 4 [some (.inr (.inr 111)), some (.inl k), some (.inl (nI (fb_ct f t))), some (.inl (nI t))] [] h := by
    intro m
    induction m with
    | zero =>
      intro t ht kq
      obtain rfl : t = 371200 := by omega
      refine u_X11_timeAt_4 hr hd ?_
      rw [show nI 32 * nI 11600 = nI 371200 from rfl]
      by_cases z : k = -(nI 1)
      · rw [if_pos z] at kq
        simp (disch := omega) only [xle_t, xle_f, xlt_t, xlt_f, xeq_t, xeq_f, xle0_t, xle0_f, xlt0_f, x0lt_t, x0lt_f, x0le_t, xeq0_t, xeq0_f, xin, xem_f, xme_f, xlem_f, xlm_f, xml_t, xmle_t, nI_clamp, nI_add, pk_mul, pk_sub, zI_s, zI_k, zI_o, zL_s, zL_k, zL_o, zR_s, zR_k, zR_o, zIL, zIR, zIN, zLI, zLR, zLN, zRI, zRL, zRN, true_and, and_true, not_true_eq_false, not_false_eq_true, true_implies, false_implies, implies_true, forall_const, if_true, if_false, eq_self, false_and, and_false, implies_true, nI_l, ylle_t, ylle_f, xcl_t, xcl_f, z]
        exact kq
      · rw [if_neg z] at kq
        simp (disch := omega) only [xle_t, xle_f, xlt_t, xlt_f, xeq_t, xeq_f, xle0_t, xle0_f, xlt0_f, x0lt_t, x0lt_f, x0le_t, xeq0_t, xeq0_f, xin, xem_f, xme_f, xlem_f, xlm_f, xml_t, xmle_t, nI_clamp, nI_add, pk_mul, pk_sub, zI_s, zI_k, zI_o, zL_s, zL_k, zL_o, zR_s, zR_k, zR_o, zIL, zIR, zIN, zLI, zLR, zLN, zRI, zRL, zRN, true_and, and_true, not_true_eq_false, not_false_eq_true, true_implies, false_implies, implies_true, forall_const, if_true, if_false, eq_self, false_and, and_false, implies_true, nI_l, ylle_t, ylle_f, xcl_t, xcl_f, z]
        exact kq
    | succ m ih =>
      intro t ht kq
      have bj := fb_ct_le f t
      have eq : nI t / nI 32 = nI (t / 32) := pk_div (by omega) (by decide) (by decide)
      have er : nI t - nI t / nI 32 * nI 32 = nI (t % 32) := pk_rem (by omega) (by decide) (by decide)
      have eb := shw (h.1 132 (t / 32)) (c := t % 32) (Nat.mod_lt _ (by decide))
      rw [hT t (by omega)] at eb
      refine u_X11_timeAt_4 hr hd ?_
      rw [show nI 32 * nI 11600 = nI 371200 from rfl, er, eq]
      have ns : fb_ct f (t + 1) = fb_ct f t + (if f t = true then 1 else 0) := rfl
      have nx := ih (t + 1) (by omega)
      rw [ns] at nx
      have st : fFst (fun t => f t && decide (nI (fb_ct f t) = k)) (m + 1) t = if (f t && decide (nI (fb_ct f t) = k)) = true then some t else fFst (fun t => f t && decide (nI (fb_ct f t) = k)) m (t + 1) := rfl
      rw [st] at kq
      cases ft : f t with
      | true =>
        rw [ft, if_pos rfl] at eb nx
        rw [ft, Bool.true_and] at kq
        by_cases z : nI (fb_ct f t) = k
        · rw [decide_eq_true z, if_pos rfl] at kq
          have : ¬ k = -(nI 1) := fun q => by rw [← z] at q; revert q; rw [xem_f (by omega)]; exact id
          rw [if_neg this] at kq
          simp (disch := omega) only [xle_t, xle_f, xlt_t, xlt_f, xeq_t, xeq_f, xle0_t, xle0_f, xlt0_f, x0lt_t, x0lt_f, x0le_t, xeq0_t, xeq0_f, xin, xem_f, xme_f, xlem_f, xlm_f, xml_t, xmle_t, nI_clamp, nI_add, pk_mul, pk_sub, zI_s, zI_k, zI_o, zL_s, zL_k, zL_o, zR_s, zR_k, zR_o, zIL, zIR, zIN, zLI, zLR, zLN, zRI, zRL, zRN, true_and, and_true, not_true_eq_false, not_false_eq_true, true_implies, false_implies, implies_true, forall_const, if_true, if_false, eq_self, false_and, and_false, implies_true, nI_l, ylle_t, ylle_f, xcl_t, xcl_f, eb, z]
          exact kq
        · rw [decide_eq_false z, if_neg (show ¬ (false = true) by decide)] at kq
          simp (disch := omega) only [xle_t, xle_f, xlt_t, xlt_f, xeq_t, xeq_f, xle0_t, xle0_f, xlt0_f, x0lt_t, x0lt_f, x0le_t, xeq0_t, xeq0_f, xin, xem_f, xme_f, xlem_f, xlm_f, xml_t, xmle_t, nI_clamp, nI_add, pk_mul, pk_sub, zI_s, zI_k, zI_o, zL_s, zL_k, zL_o, zR_s, zR_k, zR_o, zIL, zIR, zIN, zLI, zLR, zLN, zRI, zRL, zRN, true_and, and_true, not_true_eq_false, not_false_eq_true, true_implies, false_implies, implies_true, forall_const, if_true, if_false, eq_self, false_and, and_false, implies_true, nI_l, ylle_t, ylle_f, xcl_t, xcl_f, eb, z]
          exact nx kq
      | false =>
        rw [ft, if_neg (show ¬ (false = true) by decide), Nat.add_zero] at nx
        rw [ft, if_neg (show ¬ (false = true) by decide)] at eb
        rw [ft, Bool.false_and, if_neg (show ¬ (false = true) by decide)] at kq
        simp (disch := omega) only [xle_t, xle_f, xlt_t, xlt_f, xeq_t, xeq_f, xle0_t, xle0_f, xlt0_f, x0lt_t, x0lt_f, x0le_t, xeq0_t, xeq0_f, xin, xem_f, xme_f, xlem_f, xlm_f, xml_t, xmle_t, nI_clamp, nI_add, pk_mul, pk_sub, zI_s, zI_k, zI_o, zL_s, zL_k, zL_o, zR_s, zR_k, zR_o, zIL, zIR, zIN, zLI, zLR, zLN, zRI, zRL, zRN, true_and, and_true, not_true_eq_false, not_false_eq_true, true_implies, false_implies, implies_true, forall_const, if_true, if_false, eq_self, false_and, and_false, implies_true, nI_l, ylle_t, ylle_f, xcl_t, xcl_f, eb]
        exact nx kq
  exact L 371200 0 (by omega) kk
