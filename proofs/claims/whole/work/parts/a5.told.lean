/-! ===== what can be told, pure ===== -/
section WR
variable {C : CE} {S : Nat} {out : Bool}
def wTm (C : CE) (S : Nat) (out : Bool) (t : Nat) : Bool := (wAll C S out).any (fun b => decide (b.2.2.2 b.1 = t))
theorem sU_some {n T A : Nat} : ∀ (l : List WN) (s : SK), (l.foldl (sU n 1 T A) s).isSome = (s.isSome || l.any (fun b => decide (b.2.2.2 b.1 = T)))
  | [], s => by rw [List.any_nil, Bool.or_false]; rfl
  | b :: l, s => by
    rw [List.foldl_cons, sU_some l, List.any_cons]
    by_cases z : b.2.2.2 b.1 = T
    · have : (sU n 1 T A s b).isSome = true := by
        unfold sU
        rw [if_pos z]
        cases s with
        | none => rfl
        | some r => simp only; split <;> rfl
      rw [this, decide_eq_true z, Bool.true_or, Bool.or_true]
    · rw [sU_ne z, decide_eq_false z, Bool.false_or]
theorem mU_any : ∀ (l : List WN) (f : Nat → Bool) (i : Nat), l.foldl mU f i = (f i || l.any (fun b => decide (b.2.2.2 b.1 / 16 = i)))
  | [], f, i => by rw [List.any_nil, Bool.or_false]; rfl
  | b :: l, f, i => by
    rw [List.foldl_cons, mU_any l, List.any_cons]
    unfold mU wKu
    rw [Bool.or_assoc]
    congr 2
    exact decide_eq_decide.mpr ⟨fun q => q.symm, fun q => q.symm⟩
theorem nU_any : ∀ (l : List WN) (f : Nat → Bool) (i : Nat), l.foldl nU f i = (f i || l.any (fun b => decide (b.2.2.2 b.1 = i)))
  | [], f, i => by rw [List.any_nil, Bool.or_false]; rfl
  | b :: l, f, i => by
    rw [List.foldl_cons, nU_any l, List.any_cons]
    unfold nU wKu
    rw [Bool.or_assoc]
    congr 2
    exact decide_eq_decide.mpr ⟨fun q => q.symm, fun q => q.symm⟩
theorem wAll_16 (hC : cOK C) (hS : wSet C S) {b : WN} (hb : b ∈ wAll C S out) : 16 ∣ b.2.2.2 b.1 := by
  refine Nat.dvd_trans ?_ (wAll_gr hC hS hb).1
  obtain ⟨q, hq⟩ := (wG0_b hC hS.2.1 (c := 8)).1
  have n4 := hS.2.2
  rw [hq, show (256 : Nat) = 2 ^ wN S 8 * 2 ^ (8 - wN S 8) by rw [← Nat.pow_add, show wN S 8 + (8 - wN S 8) = 8 by omega], Nat.mul_assoc, Nat.mul_div_cancel_left _ (Nat.two_pow_pos _)]
  exact Nat.dvd_trans (Nat.pow_dvd_pow 2 (show 4 ≤ 8 - wN S 8 by omega)) ⟨q, rfl⟩
theorem any_c {α : Type} {p q : α → Bool} : ∀ {l : List α}, (∀ b, b ∈ l → p b = q b) → l.any p = l.any q
  | [], _ => rfl
  | b :: l, h => by rw [List.any_cons, List.any_cons, h b List.mem_cons_self, any_c (fun b' hb => h b' (List.mem_cons_of_mem _ hb))]
theorem mU_tm (hC : cOK C) (hS : wSet C S) (i : Nat) : (wAll C S out).foldl mU (fun _ => false) i = wTm C S out (16 * i) := by
  rw [mU_any, Bool.false_or]
  refine any_c (fun b hb => decide_eq_decide.mpr ?_)
  obtain ⟨q, hq⟩ := wAll_16 hC hS hb
  rw [hq]
  omega
theorem wTm_i (hC : cOK C) (hS : wSet C S) {t : Nat} (h : wTm C S out t = true) : 16 ∣ t ∧ t ≤ wAl C S ∧ t ≤ 368640 ∧ 0 < t := by
  obtain ⟨b, hb, e⟩ := List.any_eq_true.mp h
  have e' := of_decide_eq_true e
  have h1 := wAll_gr hC hS hb
  have h2 := wAl_b hC hS
  rw [← e']
  exact ⟨wAll_16 hC hS hb, h1.2.2.1, by omega, h1.2.2.2.1⟩
/-- the class's marks, if they are of some set -/
def wMk (C : CE) (out : Bool) (w : Nat) (h : MH) : Prop := h.1 (w - 1) 0 = nI 0 ∨ ∃ S, wSet C S ∧ h.1 (w - 1) 0 = nI S ∧ wKw (fun i => wTm C S out (16 * i)) (h.2.1 w)
theorem wMk.keep {w : Nat} {h h' : MH} (q : wMk C out w h) (e1 : h'.1 (w - 1) = h.1 (w - 1)) (e2 : h'.2.1 w = h.2.1 w) : wMk C out w h' := by
  unfold wMk
  rw [e1, e2]
  exact q
/-- a set of marks, in the class: whether one is there -/
theorem c_bitT {x : Int64} {i : Nat} : (lg_cmp (((x.toUInt64 >>> ((nI i &&& nI 63).toInt64.toUInt64 &&& Int64.toUInt64 63)).toInt64) &&& (lN 1)) (lN 0) = 0) = (x.toBitVec.getLsbD (i % 64) = false) := by
  rw [nI_and63]
  have hk : i % 64 < 64 := Nat.mod_lt _ (by decide)
  rw [wb_cu _ hk]
  refine propext (Iff.trans ?_ (ts_bit hk (s := UInt64.ofNat (i % 64)) ?_))
  · rw [lg_cmp_eq]; rfl
  · show (BitVec.ofNat 64 (i % 64)).toNat = _
    rw [BitVec.toNat_ofNat]
    exact Nat.mod_eq_of_lt (by omega)
theorem c_hs {w T d : Nat} {f : Nat → Bool} {h : MH} {Q : Option MV → MH → Prop} (hr : zRf h) (hz : zokO h (w - 1) 3) (hw0 : 0 < w) (hT : T < 2 ^ 31) (hK : wKw (fun i => f (16 * i)) (h.2.1 w)) (hf : ∀ t, f t = true → 16 ∣ t ∧ t ≤ 368640) (hd : 1 ≤ d) (kk : Q (some (.inl (bI (f T)))) h) : Con mX3_has d 0 0 [.inr (.inr (w - 1)), .inl (nI T)] h Q := by
  refine u_X3_has hr hd ?_
  have em : nI T - nI T / nI 16 * nI 16 = nI (T % 16) := pk_rem hT (by decide) (by decide)
  have ed : nI T / nI 16 = nI (T / 16) := pk_div hT (by decide) (by decide)
  have e1 : w - 1 + 1 = w := by omega
  rw [em, ed, e1]
  by_cases z : T % 16 = 0
  · rcases Nat.lt_or_ge (T / 16) 23104 with c1 | c1
    · have b := hK (T / 16) c1
      simp only at b
      rw [show 16 * (T / 16) = T by omega] at b
      have cb := c_bitT (x := h.2.1 w (T / 16 / 64)) (i := T / 16)
      cases hfT : f T with
      | true =>
        rw [hfT] at b kk
        rw [b, eq_false (show ¬ true = false by decide)] at cb
        simp (disch := omega) only [xle_t, xle_f, xlt_t, xlt_f, xeq_t, xeq_f, xle0_t, xle0_f, xlt0_f, x0lt_t, x0lt_f, x0le_t, xeq0_t, xeq0_f, xin, xem_f, xme_f, xlem_f, xlm_f, xml_t, xmle_t, nI_clamp, nI_add, pk_mul, pk_sub, zI_s, zI_k, zI_o, zL_s, zL_k, zL_o, zR_s, zR_k, zR_o, zIL, zIR, zIN, zLI, zLR, zLN, zRI, zRL, zRN, true_and, and_true, not_true_eq_false, not_false_eq_true, true_implies, false_implies, implies_true, forall_const, if_true, if_false, eq_self, false_and, and_false, implies_true, nI_l, ylle_t, ylle_f, xcl_t, xcl_f, nI_shr6, cb]
        exact ⟨hz, kk⟩
      | false =>
        rw [hfT] at b kk
        rw [b, eq_true rfl] at cb
        simp (disch := omega) only [xle_t, xle_f, xlt_t, xlt_f, xeq_t, xeq_f, xle0_t, xle0_f, xlt0_f, x0lt_t, x0lt_f, x0le_t, xeq0_t, xeq0_f, xin, xem_f, xme_f, xlem_f, xlm_f, xml_t, xmle_t, nI_clamp, nI_add, pk_mul, pk_sub, zI_s, zI_k, zI_o, zL_s, zL_k, zL_o, zR_s, zR_k, zR_o, zIL, zIR, zIN, zLI, zLR, zLN, zRI, zRL, zRN, true_and, and_true, not_true_eq_false, not_false_eq_true, true_implies, false_implies, implies_true, forall_const, if_true, if_false, eq_self, false_and, and_false, implies_true, nI_l, ylle_t, ylle_f, xcl_t, xcl_f, nI_shr6, cb]
        exact ⟨hz, kk⟩
    · have : f T = false := Bool.eq_false_iff.mpr (fun q => by have := (hf T q).2; omega)
      rw [this] at kk
      simp (disch := omega) only [xle_t, xle_f, xlt_t, xlt_f, xeq_t, xeq_f, xle0_t, xle0_f, xlt0_f, x0lt_t, x0lt_f, x0le_t, xeq0_t, xeq0_f, xin, xem_f, xme_f, xlem_f, xlm_f, xml_t, xmle_t, nI_clamp, nI_add, pk_mul, pk_sub, zI_s, zI_k, zI_o, zL_s, zL_k, zL_o, zR_s, zR_k, zR_o, zIL, zIR, zIN, zLI, zLR, zLN, zRI, zRL, zRN, true_and, and_true, not_true_eq_false, not_false_eq_true, true_implies, false_implies, implies_true, forall_const, if_true, if_false, eq_self, false_and, and_false, implies_true, nI_l, ylle_t, ylle_f, xcl_t, xcl_f]
      exact ⟨hz, kk⟩
  · have : f T = false := Bool.eq_false_iff.mpr (fun q => by have := (hf T q).1; omega)
    rw [this] at kk
    simp (disch := omega) only [xle_t, xle_f, xlt_t, xlt_f, xeq_t, xeq_f, xle0_t, xle0_f, xlt0_f, x0lt_t, x0lt_f, x0le_t, xeq0_t, xeq0_f, xin, xem_f, xme_f, xlem_f, xlm_f, xml_t, xmle_t, nI_clamp, nI_add, pk_mul, pk_sub, zI_s, zI_k, zI_o, zL_s, zL_k, zL_o, zR_s, zR_k, zR_o, zIL, zIR, zIN, zLI, zLR, zLN, zRI, zRL, zRN, true_and, and_true, not_true_eq_false, not_false_eq_true, true_implies, false_implies, implies_true, forall_const, if_true, if_false, eq_self, false_and, and_false, implies_true, nI_l, ylle_t, ylle_f, xcl_t, xcl_f]
    exact kk
end WR
