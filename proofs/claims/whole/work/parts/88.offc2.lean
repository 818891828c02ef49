/-! ===== note, tryAll, off (class) ===== -/
def oRep (g : Nat → Nat → Option Nat) (i : Nat) (h : MH) : Prop := ∃ most, most ≤ 40 ∧ h.1 58 1 = nI most ∧ (∀ k, k < most → ∃ u v, oFold 0 (fun j => g j k) i = some u ∧ oFold 1 (fun j => g j k) i = some v ∧ u ≤ 400000000 ∧ v ≤ 400000000 ∧ h.1 59 k = nI u ∧ h.1 60 k = nI v) ∧ ∀ k, most ≤ k → oFold 0 (fun j => g j k) i = none ∧ oFold 1 (fun j => g j k) i = none
theorem oFold_s (w : Nat) (g : Nat → Option Nat) (n : Nat) : oFold w g (n + 1) = oB w (oFold w g n) (g n) := rfl
theorem c_note {g : Nat → Nat → Option Nat} {i : Nat} {R : RS} {h : MH} {d : Nat} {Q : Option MV → MH → Prop} (hr : zRf h) (hT : kT R.2 h) (h40 : R.2.1.length ≤ 40) (hb : ∀ j, j < R.2.1.length → R.2.1.getD j 0 ≤ 400000000) (hg : ∀ k, g i k = R.2.1[k]?) (hO : oRep g i h) (hd : 1 ≤ d) (kk : ∀ h', zRf h' → zF (fun a => a < 58 ∨ 60 < a) h h' → h'.1 58 0 = h.1 58 0 → oRep g (i + 1) h' → Q none h') : Con mX4_note d 0 0 [.inr (.inr 58), .inr (.inr 48)] h Q := by
  obtain ⟨most, m40, e1, o1, o2⟩ := hO
  obtain ⟨t1, t2, _⟩ := hT
  have hgs : ∀ k, k < R.2.1.length → g i k = some (R.2.1.getD k 0) := fun k hk => by
    rw [hg k, List.getD_eq_getElem?_getD, List.getElem?_eq_getElem hk]; rfl
  have hgn : ∀ k, R.2.1.length ≤ k → g i k = none := fun k hk => by
    rw [hg k]; exact List.getElem?_eq_none hk
  refine u_X4_note ?_
  have L : ∀ m k, k + m = R.2.1.length → ∀ f : MH, zRf f → zF (fun a => a ≠ 59 ∧ a ≠ 60) h f → (∀ x, x < k → ∃ u v, oFold 0 (fun j => g j x) (i + 1) = some u ∧ oFold 1 (fun j => g j x) (i + 1) = some v ∧ u ≤ 400000000 ∧ v ≤ 400000000 ∧ f.1 59 x = nI u ∧ f.1 60 x = nI v) → (∀ x, k ≤ x → f.1 59 x = h.1 59 x ∧ f.1 60 x = h.1 60 x) → J mX4_note d 0 0 Q 0 0 2 [some (.inr (.inr 58)), some (.inr (.inr 48)), some (.inl (nI k))] [] f := by
    intro m
    induction m with
    | zero =>
      intro k hk f rf ff a1 a2
      have f9 : f.1 48 9 = nI R.2.1.length := by rw [ff.i (by omega)]; exact t1
      have f1 : f.1 58 1 = nI most := by rw [ff.i (by omega)]; exact e1
      refine u_X4_note_2 rf hd ?_
      simp (disch := omega) only [xle_t, xle_f, xlt_t, xlt_f, xeq_t, xeq_f, xle0_t, xle0_f, xlt0_f, x0lt_t, x0lt_f, x0le_t, xeq0_t, xeq0_f, xin, xem_f, xme_f, xlem_f, xlm_f, xml_t, xmle_t, nI_clamp, nI_add, pk_mul, pk_sub, zI_s, zI_k, zI_o, zL_s, zL_k, zL_o, zR_s, zR_k, zR_o, zIL, zIR, zIN, zLI, zLR, zLN, zRI, zRL, zRN, true_and, and_true, not_true_eq_false, not_false_eq_true, true_implies, false_implies, implies_true, forall_const, if_true, if_false, eq_self, false_and, and_false, implies_true, nI_l, ylle_t, ylle_f, xcl_t, xcl_f, f9, f1, xmax]
      refine kk _ rf ((ff.weak (fun a q => by omega)).trans (zF_I _ _ _ (by omega))) ?_ ⟨max most R.2.1.length, by omega, zI_s _ _ _ _, fun x hx => ?_, fun x hx => ?_⟩
      · rw [zI_k _ _ _ (by omega), ff.i (by omega)]
      · rw [zI_o _ _ _ (by omega), zI_o _ _ _ (by omega)]
        by_cases y : x < k
        · exact a1 x y
        · obtain ⟨u, v, c1, c2, c3, c4, c5, c6⟩ := o1 x (by omega)
          obtain ⟨d1, d2⟩ := a2 x (by omega)
          refine ⟨u, v, ?_, ?_, c3, c4, d1.trans c5, d2.trans c6⟩
          · rw [oFold_s, hgn x (by omega)]; exact c1
          · rw [oFold_s, hgn x (by omega)]; exact c2
      · rw [oFold_s, oFold_s, hgn x (by omega)]
        exact o2 x (by omega)
    | succ m ih =>
      intro k hk f rf ff a1 a2
      have f9 : f.1 48 9 = nI R.2.1.length := by rw [ff.i (by omega)]; exact t1
      have f1 : f.1 58 1 = nI most := by rw [ff.i (by omega)]; exact e1
      have f56 : f.1 56 k = nI (R.2.1.getD k 0) := by rw [ff.i (by omega)]; exact t2 k (by omega)
      have hbk := hb k (by omega)
      have hgk := hgs k (by omega)
      have z59 : ∀ (f : MH), zRf f → zokA f 59 20 (nI k) := fun f rf => zia rf (by decide) rfl (vp_in_nI (by omega) (by omega))
      have z60 : ∀ (f : MH), zRf f → zokA f 60 20 (nI k) := fun f rf => zia rf (by decide) rfl (vp_in_nI (by omega) (by omega))
      obtain ⟨d1, d2⟩ := a2 k (Nat.le_refl _)
      have nxt : ∀ u v : Nat, oFold 0 (fun j => g j k) (i + 1) = some u → oFold 1 (fun j => g j k) (i + 1) = some v → u ≤ 400000000 → v ≤ 400000000 → J mX4_note d 0 0 Q 0 0 2 [some (.inr (.inr 58)), some (.inr (.inr 48)), some (.inl (nI (k + 1)))] [] (zsI (zsI f 59 k (nI u)) 60 k (nI v)) := by
        intro u v hu hv bu bv
        refine ih (k + 1) (by omega) _ rf (ff.trans ((zF_I _ _ _ (by omega)).trans (zF_I _ _ _ (by omega)))) (fun x hx => ?_) (fun x hx => ?_)
        · by_cases y : x = k
          · subst y
            exact ⟨u, v, hu, hv, bu, bv, by rw [zI_o _ _ _ (by omega), zI_s], by rw [zI_s]⟩
          · rw [zI_o _ (b := 59) _ _ (by omega), zI_k _ _ _ y, zI_k _ _ _ y, zI_o _ _ _ (by omega)]
            exact a1 x (by omega)
        · rw [zI_o _ (b := 59) _ _ (by omega), zI_k _ _ _ (by omega), zI_k _ _ _ (by omega), zI_o _ _ _ (by omega)]
          exact a2 x (by omega)
      refine u_X4_note_2 rf hd ?_
      by_cases q : most ≤ k
      · obtain ⟨n0, n1⟩ := o2 k q
        have z59' := z59 f rf
        have z60' := z60 (zsI f 59 k (nI (R.2.1.getD k 0))) rf
        simp (disch := omega) only [xle_t, xle_f, xlt_t, xlt_f, xeq_t, xeq_f, xle0_t, xle0_f, xlt0_f, x0lt_t, x0lt_f, x0le_t, xeq0_t, xeq0_f, xin, xem_f, xme_f, xlem_f, xlm_f, xml_t, xmle_t, nI_clamp, nI_add, pk_mul, pk_sub, zI_s, zI_k, zI_o, zL_s, zL_k, zL_o, zR_s, zR_k, zR_o, zIL, zIR, zIN, zLI, zLR, zLN, zRI, zRL, zRN, true_and, and_true, not_true_eq_false, not_false_eq_true, true_implies, false_implies, implies_true, forall_const, if_true, if_false, eq_self, false_and, and_false, implies_true, nI_l, ylle_t, ylle_f, xcl_t, xcl_f, f9, f1, f56, z59', z60']
        refine nxt _ _ ?_ ?_ hbk hbk
        · rw [oFold_s, n0]; show oB 0 none (g i k) = _; rw [hgk]; rfl
        · rw [oFold_s, n1]; show oB 1 none (g i k) = _; rw [hgk]; rfl
      · obtain ⟨u, v, c1, c2, c3, c4, c5, c6⟩ := o1 k (by omega)
        rw [c5] at d1
        rw [c6] at d2
        have z59' := z59 f rf
        have hmn : (if nI (R.2.1.getD k 0) < nI u then nI (R.2.1.getD k 0) else nI u) = nI (min (R.2.1.getD k 0) u) := xmin (by omega) (by omega)
        have hmx : (if nI v < nI (R.2.1.getD k 0) then nI (R.2.1.getD k 0) else nI v) = nI (max v (R.2.1.getD k 0)) := xmax (by omega) (by omega)
        have z60' := z60 (zsI f 59 k (nI (min (R.2.1.getD k 0) u))) rf
        simp (disch := omega) only [xle_t, xle_f, xlt_t, xlt_f, xeq_t, xeq_f, xle0_t, xle0_f, xlt0_f, x0lt_t, x0lt_f, x0le_t, xeq0_t, xeq0_f, xin, xem_f, xme_f, xlem_f, xlm_f, xml_t, xmle_t, nI_clamp, nI_add, pk_mul, pk_sub, zI_s, zI_k, zI_o, zL_s, zL_k, zL_o, zR_s, zR_k, zR_o, zIL, zIR, zIN, zLI, zLR, zLN, zRI, zRL, zRN, true_and, and_true, not_true_eq_false, not_false_eq_true, true_implies, false_implies, implies_true, forall_const, if_true, if_false, eq_self, false_and, and_false, implies_true, nI_l, ylle_t, ylle_f, xcl_t, xcl_f, f9, f1, f56, z59', d1, hmn, z60', d2, hmx]
        refine nxt _ _ ?_ ?_ (by omega) (by omega)
        · rw [oFold_s, c1]; show oB 0 (some u) (g i k) = _; rw [hgk]
          show some (min u (R.2.1.getD k 0)) = _
          rw [Nat.min_comm]
        · rw [oFold_s, c2]; show oB 1 (some v) (g i k) = _; rw [hgk]; rfl
  exact L R.2.1.length 0 (by omega) h hr zF.rfl (fun x hx => absurd hx (Nat.not_lt_zero _)) (fun x _ => ⟨rfl, rfl⟩)
/-- what the class tries -/
noncomputable def oG (C : CE) (P : PL) (j k : Nat) : Option Nat := (oR C P (oDec (oPt C P) C.1 0 j)).2.1[k]?
theorem oDec_0 (pt : Nat → Bool) : ∀ m c x, oDec pt m c 0 x = 0
  | 0, _, _ => rfl
  | m + 1, c, x => by
    show (if x = c then (if pt c = true then 0 % 3 else 0) else oDec pt m (c + 1) (if pt c = true then 0 / 3 else 0) x) = 0
    have e : (if pt c = true then 0 / 3 else 0) = 0 := by split <;> rfl
    rw [e, oDec_0 pt m (c + 1) x]
    split <;> rfl
theorem fO_0 {C : CE} {σ : Nat → Nat} {x : Nat} (h : σ x = 0) : fO C σ x = fT C x := by
  unfold fO fT
  rw [h]
  by_cases c : x < C.1
  · rw [if_pos c, if_pos c]
    show cS C x * 100 / 100 * 256 = _
    rw [Nat.mul_div_cancel _ (by decide)]
  · rw [if_neg c, if_neg c]
theorem c_try {B : BK} {h : MH} {d p : Nat} {Q : Option MV → MH → Prop} (hr : zRf h) (hA : bAt B h 15) (hB : bOK B) (hp : p < 4) (hd : 5 ≤ d) (kk : ∀ h', zRf h' → zF (fun a => a < 48 ∨ a = 57 ∨ 61 < a) h h' → oRep (oG B.1 (B.2 p)) (oCt (oPt B.1 (B.2 p)) B.1.1 0) h' → Q none h') : Con mX4_tryAll d 0 0 [.inr (.inr 58), .inr (.inr 48), .inr (.inr 16), .inr (.inr (22 + 6 * p))] h Q := by
  have h8 := hB.1.1
  refine u_X4_tryAll (d1' := 4) hr (by omega) ?_
  have hA0 : bAt B (zsI h 58 1 (nI 0)) 15 := hA.keepF (zF_I _ _ _ (by omega))
  refine c_lay (h := zsI h 58 1 (nI 0)) hr hA0.1 hB.1 (by omega) (fun h1 r1 f1 a1 b1 => ?_)
  refine u_X4_tryAll_10 ?_
  have F1 : zF (fun a => a < 48 ∨ a = 57 ∨ 61 < a) h h1 := (zF_I _ _ _ (by omega)).trans (f1.weak (fun a q => by omega))
  have e581 : h1.1 58 1 = nI 0 := by rw [f1.i (by omega), zI_s]
  -- the tries
  have T : ∀ (v : Int32), (∀ c, c < 8 → bt v c = pUo (B.2 p) (B.2 p).2.1 c) → ∀ m i, i + m = oCt (oPt B.1 (B.2 p)) B.1.1 0 → 0 < m → ∀ g : MH, zRf g → zF (fun a => a < 48 ∨ a = 57 ∨ 61 < a) h g → g.1 48 0 = nI B.1.1 → (∀ x, x < B.1.1 → g.1 61 x = nI (oDec (oPt B.1 (B.2 p)) B.1.1 0 i x) ∧ g.1 49 x = nI (fO B.1 (oDec (oPt B.1 (B.2 p)) B.1.1 0 i) x)) → oRep (oG B.1 (B.2 p)) i g → J mX4_tryAll d 0 0 Q 0 0 43 [some (.inr (.inr 58)), some (.inr (.inr 48)), some (.inr (.inr 16)), some (.inr (.inr (22 + 6 * p))), some (.inl v), some (.inl (nI i))] [] g := by
    intro v hv m
    have hN := oCt_le (oPt B.1 (B.2 p)) B.1.1 0
    have h6 : 3 ^ B.1.1 ≤ 3 ^ 8 := Nat.pow_le_pow_right (by decide) h8
    have h65 : (3 : Nat) ^ 8 = 6561 := rfl
    induction m with
    | zero => intro i hi h0; omega
    | succ m ih =>
      intro i hi h0 g rg fg g0 gs go
      have hAg : bAt B g 15 := hA.keepF (fg.weak (fun a q => by omega))
      refine u_X4_tryAll_43 (d1' := 4) rg (by omega) ?_
      simp (disch := omega) only [xle_t, xle_f, xlt_t, xlt_f, xeq_t, xeq_f, xle0_t, xle0_f, xlt0_f, x0lt_t, x0lt_f, x0le_t, xeq0_t, xeq0_f, xin, xem_f, xme_f, xlem_f, xlm_f, xml_t, xmle_t, nI_clamp, nI_add, pk_mul, pk_sub, zI_s, zI_k, zI_o, zL_s, zL_k, zL_o, zR_s, zR_k, zR_o, zIL, zIR, zIN, zLI, zLR, zLN, zRI, zRL, zRN, true_and, and_true, not_true_eq_false, not_false_eq_true, true_implies, false_implies, implies_true, forall_const, if_true, if_false, eq_self, false_and, and_false, implies_true, nI_l, ylle_t, ylle_f, xcl_t, xcl_f]
      refine c_playat (lo := 40) (u := 1024000000) (f := fO B.1 (oDec (oPt B.1 (B.2 p)) B.1.1 0 i)) rg hAg hB hp (fO_ok hB.1 _) g0 (fun c hc => (gs c hc).2) (by omega) (by omega) (fun g1 rg1 fg1 sg1 => ?_)
      refine u_X4_tryAll_59 (d1' := 1) rg1 (by omega) ?_
      have ho := oR_o hB.1 (hB.2 p hp) (oDec (oPt B.1 (B.2 p)) B.1.1 0 i)
      have go1 : oRep (oG B.1 (B.2 p)) i g1 := by
        obtain ⟨most, m1, m2, m3, m4⟩ := go
        exact ⟨most, m1, by rw [fg1.i (by omega)]; exact m2, fun k hk => by rw [fg1.i (by omega), fg1.i (by omega)]; exact m3 k hk, m4⟩
      refine c_note (R := oR B.1 (B.2 p) (oDec (oPt B.1 (B.2 p)) B.1.1 0 i)) rg1 sg1.1.2 ho.1 (fun j hj => ho.be hj) (fun k => rfl) go1 (by omega) (fun g2 rg2 fg2 e2 go2 => ?_)
      refine u_X4_tryAll_64 (d1' := 4) rg2 (by omega) ?_
      have fall : zF (fun a => a < 48 ∨ a = 57 ∨ 61 < a) h g2 := (fg.trans (fg1.weak (fun a q => by omega))).trans (fg2.weak (fun a q => by omega))
      have hA2 : bAt B g2 15 := hA.keepF (fall.weak (fun a q => by omega))
      refine c_turn (P := B.2 p) (j := i) rg2 hA2.1 hB.1 hv (by omega) (fun x hx => ?_) (by omega) (fun w g3 rg3 fg3 => ?_) (fun w g3 rg3 fg3 gs3 => ?_)
      · rw [fg2.i (by omega), fg2.i (by omega), fg1.i (by omega)]
        exact ⟨(gs x hx).1, sg1.2 x hx⟩
      · refine u_X4_tryAll_72 ?_
        simp (disch := omega) only [xle_t, xle_f, xlt_t, xlt_f, xeq_t, xeq_f, xle0_t, xle0_f, xlt0_f, x0lt_t, x0lt_f, x0le_t, xeq0_t, xeq0_f, xin, xem_f, xme_f, xlem_f, xlm_f, xml_t, xmle_t, nI_clamp, nI_add, pk_mul, pk_sub, zI_s, zI_k, zI_o, zL_s, zL_k, zL_o, zR_s, zR_k, zR_o, zIL, zIR, zIN, zLI, zLR, zLN, zRI, zRL, zRN, true_and, and_true, not_true_eq_false, not_false_eq_true, true_implies, false_implies, implies_true, forall_const, if_true, if_false, eq_self, false_and, and_false, implies_true, nI_l, ylle_t, ylle_f, xcl_t, xcl_f]
        have ei : i + 1 = oCt (oPt B.1 (B.2 p)) B.1.1 0 := by omega
        rw [ei] at go2
        obtain ⟨most, m1, m2, m3, m4⟩ := go2
        exact kk g3 rg3 (fall.trans (fg3.weak (fun a q => by omega))) ⟨most, m1, by rw [fg3.i (by omega)]; exact m2, fun k hk => by rw [fg3.i (by omega), fg3.i (by omega)]; exact m3 k hk, m4⟩
      · refine u_X4_tryAll_72 ?_
        simp (disch := omega) only [xle_t, xle_f, xlt_t, xlt_f, xeq_t, xeq_f, xle0_t, xle0_f, xlt0_f, x0lt_t, x0lt_f, x0le_t, xeq0_t, xeq0_f, xin, xem_f, xme_f, xlem_f, xlm_f, xml_t, xmle_t, nI_clamp, nI_add, pk_mul, pk_sub, zI_s, zI_k, zI_o, zL_s, zL_k, zL_o, zR_s, zR_k, zR_o, zIL, zIR, zIN, zLI, zLR, zLN, zRI, zRL, zRN, true_and, and_true, not_true_eq_false, not_false_eq_true, true_implies, false_implies, implies_true, forall_const, if_true, if_false, eq_self, false_and, and_false, implies_true, nI_l, ylle_t, ylle_f, xcl_t, xcl_f]
        obtain ⟨most, m1, m2, m3, m4⟩ := go2
        refine ih (i + 1) (by omega) (by omega) g3 rg3 (fall.trans (fg3.weak (fun a q => by omega))) ?_ gs3 ⟨most, m1, by rw [fg3.i (by omega)]; exact m2, fun k hk => by rw [fg3.i (by omega), fg3.i (by omega)]; exact m3 k hk, m4⟩
        rw [fg3.i (by omega), fg2.i (by omega)]; exact sg1.1.1.1
  have L : ∀ m c, c + m = 8 → ∀ g : MH, zRf g → zF (fun a => a ≠ 61) h1 g → (∀ x, x < c → g.1 61 x = nI 0) → J mX4_tryAll d 0 0 Q 0 0 13 [some (.inr (.inr 58)), some (.inr (.inr 48)), some (.inr (.inr 16)), some (.inr (.inr (22 + 6 * p))), some (.inl (nI c)), none] [] g := by
    intro m
    induction m with
    | zero =>
      intro c hc g rg fg hz
      obtain rfl : c = 8 := by omega
      have Fg : zF (fun a => a < 48 ∨ a = 57 ∨ 61 < a) h g := F1.trans (fg.weak (fun a q => by omega))
      have hAg : bAt B g 15 := hA.keepF (Fg.weak (fun a q => by omega))
      have hpo := zpl' rg hp
      refine u_X4_tryAll_13 (d1' := 0) rg (by omega) ?_
      simp (disch := omega) only [xle_t, xle_f, xlt_t, xlt_f, xeq_t, xeq_f, xle0_t, xle0_f, xlt0_f, x0lt_t, x0lt_f, x0le_t, xeq0_t, xeq0_f, xin, xem_f, xme_f, xlem_f, xlm_f, xml_t, xmle_t, nI_clamp, nI_add, pk_mul, pk_sub, zI_s, zI_k, zI_o, zL_s, zL_k, zL_o, zR_s, zR_k, zR_o, zIL, zIR, zIN, zLI, zLR, zLN, zRI, zRL, zRN, true_and, and_true, not_true_eq_false, not_false_eq_true, true_implies, false_implies, implies_true, forall_const, if_true, if_false, eq_self, false_and, and_false, implies_true, nI_l, ylle_t, ylle_f, xcl_t, xcl_f, hpo]
      refine c_used rg hpo (pAt.pl hAg hp) (hB.2 p hp) (fun v hv => ?_)
      refine u_X4_tryAll_38 ?_
      have hN := oCt_le (oPt B.1 (B.2 p)) B.1.1 0
      refine T v hv _ 0 (Nat.zero_add _) (by omega) g rg Fg (by rw [fg.i (by omega)]; exact a1) (fun x hx => ?_) ⟨0, by omega, by rw [fg.i (by omega)]; exact e581, fun k hk => absurd hk (Nat.not_lt_zero _), fun k _ => ⟨rfl, rfl⟩⟩
      rw [oDec_0, fO_0 (oDec_0 _ _ _ _), fg.i (a := 49) (by omega)]
      exact ⟨hz x (by omega), b1 x hx⟩
    | succ m ih =>
      intro c hc g rg fg hz
      refine u_X4_tryAll_13 (d1' := 0) rg (by omega) ?_
      simp (disch := omega) only [xle_t, xle_f, xlt_t, xlt_f, xeq_t, xeq_f, xle0_t, xle0_f, xlt0_f, x0lt_t, x0lt_f, x0le_t, xeq0_t, xeq0_f, xin, xem_f, xme_f, xlem_f, xlm_f, xml_t, xmle_t, nI_clamp, nI_add, pk_mul, pk_sub, zI_s, zI_k, zI_o, zL_s, zL_k, zL_o, zR_s, zR_k, zR_o, zIL, zIR, zIN, zLI, zLR, zLN, zRI, zRL, zRN, true_and, and_true, not_true_eq_false, not_false_eq_true, true_implies, false_implies, implies_true, forall_const, if_true, if_false, eq_self, false_and, and_false, implies_true, nI_l, ylle_t, ylle_f, xcl_t, xcl_f]
      refine ih (c + 1) (by omega) _ rg (fg.trans (zF_I _ _ _ (by omega))) (fun x hx => ?_)
      by_cases y : x = c
      · rw [y, zI_s]
      · rw [zI_k _ _ _ y]; exact hz x (by omega)
  exact L 8 0 (by omega) h1 r1 zF.rfl (fun x hx => absurd hx (Nat.not_lt_zero _))
/-! the answer -/
def oTau (s : Nat) : Nat := if s = 0 then 1 else if s = 1 then 0 else 2
noncomputable def oH (C : CE) (P : PL) (i k : Nat) : Option Nat := (oR C P (fun x => oTau (oDec (fun _ => true) C.1 0 i x))).2.1[k]?
noncomputable def fOff (C : CE) (P : PL) (k w : Nat) : Int32 := match oFold w (fun i => oH C P i k) (3 ^ C.1) with
  | none => -(nI 1)
  | some v => nI (v / 256)
noncomputable def gOff (B : BK) (x k w : Int32) : Int32 := gP x (fun p => gC 2 w (fun w => gN k (fun k => fOff B.1 (B.2 p) k w)))
theorem oR_agree {C : CE} {P : PL} (hP : pOK P) {σ τ : Nat → Nat} (h : ∀ x, x < C.1 → oPt C P x = true → σ x = τ x) : (oR C P σ).2.1 = (oR C P τ).2.1 := by
  refine rPlay_sim hP (pUo_us P) (fun c hc => ?_)
  unfold fO
  by_cases q : c < C.1
  · rw [if_pos q, if_pos q]
    by_cases z : C.2.2.2.2 c = 0
    · rw [z]
      have e : ∀ s, oPct s 0 = 100 := fun s => by
        unfold oPct
        split
        · rfl
        · split <;> rfl
      rw [e, e]
    · rw [h c q (by unfold oPt; rw [hc, decide_eq_true (show 0 < C.2.2.2.2 c by omega)]; rfl)]
  · rw [if_neg q, if_neg q]
theorem oTau_2 (s : Nat) : oTau s ≤ 2 := by
  unfold oTau
  split
  · omega
  · split <;> omega
theorem oTau_t {s : Nat} (h : s ≤ 2) : oTau (oTau s) = s := by
  have : s = 0 ∨ s = 1 ∨ s = 2 := by omega
  rcases this with q | q | q <;> subst q <;> rfl
theorem fOff_c {C : CE} {P : PL} (hP : pOK P) (k w : Nat) : oFold w (fun i => oH C P i k) (3 ^ C.1) = oFold w (fun j => oG C P j k) (oCt (oPt C P) C.1 0) := by
  refine oFold_eq (fun i hi => ?_) (fun j hj => ?_)
  · have h2 : ∀ x, (fun x => oTau (oDec (fun _ => true) C.1 0 i x)) x ≤ 2 := fun x => oTau_2 _
    refine ⟨oEnc (oPt C P) (fun x => oTau (oDec (fun _ => true) C.1 0 i x)) C.1 0, oEnc_lt h2 C.1 0, ?_⟩
    show (oR C P _).2.1[k]? = (oR C P _).2.1[k]?
    rw [oR_agree hP (fun x hx hp => oDec_enc h2 C.1 0 x (Nat.zero_le _) (by omega) hp)]
  · have h2 : ∀ x, (fun x => oTau (oDec (oPt C P) C.1 0 j x)) x ≤ 2 := fun x => oTau_2 _
    refine ⟨oEnc (fun _ => true) (fun x => oTau (oDec (oPt C P) C.1 0 j x)) C.1 0, by rw [← oCt_all C.1 0]; exact oEnc_lt h2 C.1 0, ?_⟩
    show (oR C P _).2.1[k]? = (oR C P _).2.1[k]?
    rw [oR_agree hP (fun x hx _ => ?_)]
    show oTau (oDec (fun _ => true) C.1 0 _ x) = _
    rw [oDec_enc h2 C.1 0 x (Nat.zero_le _) (by omega) rfl]
    exact oTau_t (oDec_2 _ _ _ _ _)
/-- what is kept of tries is right -/
def offC (B : BK) (h : MH) : Prop := h.1 58 0 = -(nI 1) ∨ ∃ p, p < 4 ∧ h.1 58 0 = nI p ∧ oRep (oG B.1 (B.2 p)) (oCt (oPt B.1 (B.2 p)) B.1.1 0) h
theorem o_off {B : BK} {h : MH} {d : Nat} {x k w : Int32} {Q : Option MV → MH → Prop} (hr : zRf h) (hA : bAt B h 15) (hB : bOK B) (hO : offC B h) (hd : 6 ≤ d) (kk : ∀ h', zRf h' → zF (fun a => a < 48 ∨ a = 57 ∨ 61 < a) h h' → offC B h' → Q (some (.inl (gOff B x k w))) h') : Con mX10_off d 0 0 [.inr (.inr 1), .inl x, .inl k, .inl w] h Q := by
  unfold gOff at kk
  refine u_X10_off (d1' := 5) hr (by omega) (by omega) ?_
  rcases ix3 x (n := 4) (by omega) with ⟨z, x1, _⟩ | ⟨z, x1, x2, _⟩ | ⟨p, hp, rfl, z⟩
  · rw [gP_none z] at kk
    simp (disch := omega) only [xle_t, xle_f, xlt_t, xlt_f, xeq_t, xeq_f, xle0_t, xle0_f, xlt0_f, x0lt_t, x0lt_f, x0le_t, xeq0_t, xeq0_f, xin, xem_f, xme_f, xlem_f, xlm_f, xml_t, xmle_t, nI_clamp, nI_add, pk_mul, pk_sub, zI_s, zI_k, zI_o, zL_s, zL_k, zL_o, zR_s, zR_k, zR_o, zIL, zIR, zIN, zLI, zLR, zLN, zRI, zRL, zRN, true_and, and_true, not_true_eq_false, not_false_eq_true, true_implies, false_implies, implies_true, forall_const, if_true, if_false, eq_self, false_and, and_false, implies_true, nI_l, ylle_t, ylle_f, xcl_t, xcl_f, x1]
    exact kk h hr zF.rfl hO
  · rw [gP_none z] at kk
    simp (disch := omega) only [xle_t, xle_f, xlt_t, xlt_f, xeq_t, xeq_f, xle0_t, xle0_f, xlt0_f, x0lt_t, x0lt_f, x0le_t, xeq0_t, xeq0_f, xin, xem_f, xme_f, xlem_f, xlm_f, xml_t, xmle_t, nI_clamp, nI_add, pk_mul, pk_sub, zI_s, zI_k, zI_o, zL_s, zL_k, zL_o, zR_s, zR_k, zR_o, zIL, zIR, zIN, zLI, zLR, zLN, zRI, zRL, zRN, true_and, and_true, not_true_eq_false, not_false_eq_true, true_implies, false_implies, implies_true, forall_const, if_true, if_false, eq_self, false_and, and_false, implies_true, nI_l, ylle_t, ylle_f, xcl_t, xcl_f, x1, x2]
    exact kk h hr zF.rfl hO
  rw [gP_some hp] at kk
  rcases ix3 w (n := 2) (by omega) with ⟨z, x1, _⟩ | ⟨z, x1, _, _, _, _, x2, _⟩ | ⟨w, hw, rfl, z⟩
  · rw [gC_none z] at kk
    simp (disch := omega) only [xle_t, xle_f, xlt_t, xlt_f, xeq_t, xeq_f, xle0_t, xle0_f, xlt0_f, x0lt_t, x0lt_f, x0le_t, xeq0_t, xeq0_f, xin, xem_f, xme_f, xlem_f, xlm_f, xml_t, xmle_t, nI_clamp, nI_add, pk_mul, pk_sub, zI_s, zI_k, zI_o, zL_s, zL_k, zL_o, zR_s, zR_k, zR_o, zIL, zIR, zIN, zLI, zLR, zLN, zRI, zRL, zRN, true_and, and_true, not_true_eq_false, not_false_eq_true, true_implies, false_implies, implies_true, forall_const, if_true, if_false, eq_self, false_and, and_false, implies_true, nI_l, ylle_t, ylle_f, xcl_t, xcl_f, x1]
    exact kk h hr zF.rfl hO
  · rw [gC_none z] at kk
    simp (disch := omega) only [xle_t, xle_f, xlt_t, xlt_f, xeq_t, xeq_f, xle0_t, xle0_f, xlt0_f, x0lt_t, x0lt_f, x0le_t, xeq0_t, xeq0_f, xin, xem_f, xme_f, xlem_f, xlm_f, xml_t, xmle_t, nI_clamp, nI_add, pk_mul, pk_sub, zI_s, zI_k, zI_o, zL_s, zL_k, zL_o, zR_s, zR_k, zR_o, zIL, zIR, zIN, zLI, zLR, zLN, zRI, zRL, zRN, true_and, and_true, not_true_eq_false, not_false_eq_true, true_implies, false_implies, implies_true, forall_const, if_true, if_false, eq_self, false_and, and_false, implies_true, nI_l, ylle_t, ylle_f, xcl_t, xcl_f, x1, x2 1 rfl]
    exact kk h hr zF.rfl hO
  rw [gC_some hw (by omega)] at kk
  by_cases kn : k < 0
  · rw [gN_neg kn] at kk
    simp (disch := omega) only [xle_t, xle_f, xlt_t, xlt_f, xeq_t, xeq_f, xle0_t, xle0_f, xlt0_f, x0lt_t, x0lt_f, x0le_t, xeq0_t, xeq0_f, xin, xem_f, xme_f, xlem_f, xlm_f, xml_t, xmle_t, nI_clamp, nI_add, pk_mul, pk_sub, zI_s, zI_k, zI_o, zL_s, zL_k, zL_o, zR_s, zR_k, zR_o, zIL, zIR, zIN, zLI, zLR, zLN, zRI, zRL, zRN, true_and, and_true, not_true_eq_false, not_false_eq_true, true_implies, false_implies, implies_true, forall_const, if_true, if_false, eq_self, false_and, and_false, implies_true, nI_l, ylle_t, ylle_f, xcl_t, xcl_f, x0le_neg kn]
    exact kk h hr zF.rfl hO
  obtain ⟨k, hk, rfl⟩ := nI_of kn
  rw [gN_nat hk] at kk
  have ans : ∀ g : MH, oRep (oG B.1 (B.2 p)) (oCt (oPt B.1 (B.2 p)) B.1.1 0) g → Q (some (.inl (fOff B.1 (B.2 p) k w))) g → (nI k < g.1 58 1 → ((nI w = 0 → (vp_in (nI k) 40 ∧ Q (some (.inl ((g.1 59 (nI k).toNatClampNeg) / (nI 256)))) g)) ∧ (¬ nI w = 0 → (vp_in (nI k) 40 ∧ Q (some (.inl ((g.1 60 (nI k).toNatClampNeg) / (nI 256)))) g)))) ∧ (¬ nI k < g.1 58 1 → Q (some (.inl (-(nI 1)))) g) := by
    intro g ⟨most, m1, m2, m3, m4⟩ kq
    unfold fOff at kq
    rw [fOff_c (hB.2 p hp)] at kq
    by_cases q : k < most
    · obtain ⟨u, v, c1, c2, c3, c4, c5, c6⟩ := m3 k q
      by_cases w0 : w = 0
      · subst w0
        rw [c1] at kq
        simp (disch := omega) only [xle_t, xle_f, xlt_t, xlt_f, xeq_t, xeq_f, xle0_t, xle0_f, xlt0_f, x0lt_t, x0lt_f, x0le_t, xeq0_t, xeq0_f, xin, xem_f, xme_f, xlem_f, xlm_f, xml_t, xmle_t, nI_clamp, nI_add, pk_mul, pk_sub, zI_s, zI_k, zI_o, zL_s, zL_k, zL_o, zR_s, zR_k, zR_o, zIL, zIR, zIN, zLI, zLR, zLN, zRI, zRL, zRN, true_and, and_true, not_true_eq_false, not_false_eq_true, true_implies, false_implies, implies_true, forall_const, if_true, if_false, eq_self, false_and, and_false, implies_true, nI_l, ylle_t, ylle_f, xcl_t, xcl_f, m2, c5, pk_div]
        exact kq
      · obtain rfl : w = 1 := by omega
        rw [c2] at kq
        simp (disch := omega) only [xle_t, xle_f, xlt_t, xlt_f, xeq_t, xeq_f, xle0_t, xle0_f, xlt0_f, x0lt_t, x0lt_f, x0le_t, xeq0_t, xeq0_f, xin, xem_f, xme_f, xlem_f, xlm_f, xml_t, xmle_t, nI_clamp, nI_add, pk_mul, pk_sub, zI_s, zI_k, zI_o, zL_s, zL_k, zL_o, zR_s, zR_k, zR_o, zIL, zIR, zIN, zLI, zLR, zLN, zRI, zRL, zRN, true_and, and_true, not_true_eq_false, not_false_eq_true, true_implies, false_implies, implies_true, forall_const, if_true, if_false, eq_self, false_and, and_false, implies_true, nI_l, ylle_t, ylle_f, xcl_t, xcl_f, m2, c6, pk_div]
        exact kq
    · obtain ⟨n0, n1⟩ := m4 k (by omega)
      have hw2 : w = 0 ∨ w = 1 := by omega
      rcases hw2 with y | y
      · subst y
        rw [n0] at kq
        simp (disch := omega) only [xle_t, xle_f, xlt_t, xlt_f, xeq_t, xeq_f, xle0_t, xle0_f, xlt0_f, x0lt_t, x0lt_f, x0le_t, xeq0_t, xeq0_f, xin, xem_f, xme_f, xlem_f, xlm_f, xml_t, xmle_t, nI_clamp, nI_add, pk_mul, pk_sub, zI_s, zI_k, zI_o, zL_s, zL_k, zL_o, zR_s, zR_k, zR_o, zIL, zIR, zIN, zLI, zLR, zLN, zRI, zRL, zRN, true_and, and_true, not_true_eq_false, not_false_eq_true, true_implies, false_implies, implies_true, forall_const, if_true, if_false, eq_self, false_and, and_false, implies_true, nI_l, ylle_t, ylle_f, xcl_t, xcl_f, m2]
        exact kq
      · subst y
        rw [n1] at kq
        simp (disch := omega) only [xle_t, xle_f, xlt_t, xlt_f, xeq_t, xeq_f, xle0_t, xle0_f, xlt0_f, x0lt_t, x0lt_f, x0le_t, xeq0_t, xeq0_f, xin, xem_f, xme_f, xlem_f, xlm_f, xml_t, xmle_t, nI_clamp, nI_add, pk_mul, pk_sub, zI_s, zI_k, zI_o, zL_s, zL_k, zL_o, zR_s, zR_k, zR_o, zIL, zIR, zIN, zLI, zLR, zLN, zRI, zRL, zRN, true_and, and_true, not_true_eq_false, not_false_eq_true, true_implies, false_implies, implies_true, forall_const, if_true, if_false, eq_self, false_and, and_false, implies_true, nI_l, ylle_t, ylle_f, xcl_t, xcl_f, m2]
        exact kq
  have hpo := zpl' hr hp
  by_cases same : h.1 58 0 = nI p
  · have hrep : oRep (oG B.1 (B.2 p)) (oCt (oPt B.1 (B.2 p)) B.1.1 0) h := by
      rcases hO with y | ⟨p', y1, y2, y3⟩
      · rw [y] at same
        have := xme_f (a := p) (by omega)
        rw [same] at this
        exact absurd this (by simp)
      · rw [same] at y2
        have : p = p' := (nI_eq (by omega) (by omega)).mp y2
        subst this
        exact y3
    have := ans h hrep (kk h hr zF.rfl hO)
    simp (disch := omega) only [xle_t, xle_f, xlt_t, xlt_f, xeq_t, xeq_f, xle0_t, xle0_f, xlt0_f, x0lt_t, x0lt_f, x0le_t, xeq0_t, xeq0_f, xin, xem_f, xme_f, xlem_f, xlm_f, xml_t, xmle_t, nI_clamp, nI_add, pk_mul, pk_sub, zI_s, zI_k, zI_o, zL_s, zL_k, zL_o, zR_s, zR_k, zR_o, zIL, zIR, zIN, zLI, zLR, zLN, zRI, zRL, zRN, true_and, and_true, not_true_eq_false, not_false_eq_true, true_implies, false_implies, implies_true, forall_const, if_true, if_false, eq_self, false_and, and_false, implies_true, nI_l, ylle_t, ylle_f, xcl_t, xcl_f, same]
    simp (disch := omega) only [nI_clamp, xin, true_and] at this
    exact this
  · have hv : vp_in (nI p) 4 := vp_in_nI hp (by omega)
    simp (disch := omega) only [xle_t, xle_f, xlt_t, xlt_f, xeq_t, xeq_f, xle0_t, xle0_f, xlt0_f, x0lt_t, x0lt_f, x0le_t, xeq0_t, xeq0_f, xin, xem_f, xme_f, xlem_f, xlm_f, xml_t, xmle_t, nI_clamp, nI_add, pk_mul, pk_sub, zI_s, zI_k, zI_o, zL_s, zL_k, zL_o, zR_s, zR_k, zR_o, zIL, zIR, zIN, zLI, zLR, zLN, zRI, zRL, zRN, true_and, and_true, not_true_eq_false, not_false_eq_true, true_implies, false_implies, implies_true, forall_const, if_true, if_false, eq_self, false_and, and_false, implies_true, nI_l, ylle_t, ylle_f, xcl_t, xcl_f, same, eq_false same]
    refine c_try hr hA hB hp (by omega) (fun h1 r1 f1 o1 => ?_)
    refine u_X10_off_64 r1 ?_
    have o2 : oRep (oG B.1 (B.2 p)) (oCt (oPt B.1 (B.2 p)) B.1.1 0) (zsI h1 58 0 (nI p)) := by
      obtain ⟨most, m1, m2, m3, m4⟩ := o1
      exact ⟨most, m1, by rw [zI_k _ _ _ (by omega)]; exact m2, fun k hk => by rw [zI_o _ _ _ (by omega), zI_o _ _ _ (by omega)]; exact m3 k hk, m4⟩
    exact ans _ o2 (kk _ r1 (f1.trans (zF_I _ _ _ (by omega))) (Or.inr ⟨p, hp, zI_s _ _ _ _, o2⟩))
