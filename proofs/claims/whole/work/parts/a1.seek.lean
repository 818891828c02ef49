/-! ===== ways in the class: onGrid, search, seek ===== -/
def wGp (n q : Nat) (b : WN) : Prop := b.1 + wSt n (b.2.1 b.1) ≤ n ∧ (∀ c, c < n → 2 ^ (8 - b.1) * q ∣ b.2.1 b.1 c) ∧ 2 ^ (8 - b.1) * q ∣ b.2.2.2 b.1
theorem wGp_ch {n q : Nat} {out : Bool} {a : WN} {W : Nat} (hI : wI n a) (h : wGp n q a) (h0 : 0 < W) (h3 : W < 3 ^ n) (hok : wOk n out (a.2.1 a.1) (a.2.2.1 a.1) (wG n W) = true) : wGp n q (wCh n a W) := by
  obtain ⟨p1, p2, p3⟩ := h
  obtain ⟨_, st⟩ := wCh_I hI h0 h3 hok
  obtain ⟨_, _, _, ⟨j, hj, hj0, hjx⟩, l4, _⟩ := wStp hI h0 h3 hok
  have e8 : 2 ^ (8 - a.1) * q = 2 * (2 ^ (7 - a.1) * q) := by rw [show 8 - a.1 = (7 - a.1) + 1 by omega, Nat.pow_succ, Nat.mul_comm (2 ^ (7 - a.1)) 2, Nat.mul_assoc]
  have ds : 2 ^ (7 - a.1) * q ∣ wS n a W := by
    obtain ⟨z, hz⟩ := p2 j hj
    rw [e8, Nat.mul_assoc] at hz
    have g3 := wOk_3 hok j hj
    rcases (show wG n W j = 0 ∨ wG n W j = 1 ∨ wG n W j = 2 by omega) with y | y | y
    · rw [y, Nat.zero_mul] at hjx; omega
    · rw [y, Nat.one_mul] at hjx
      rw [hjx, hz]
      exact ⟨2 * z, by rw [Nat.mul_left_comm]⟩
    · rw [y, hz] at hjx
      exact ⟨z, Nat.eq_of_mul_eq_mul_left (by decide) hjx⟩
  have up : ∀ x, 2 ^ (8 - a.1) * q ∣ x → 2 ^ (7 - a.1) * q ∣ x := fun x hx => Nat.dvd_trans ⟨2, by rw [e8, Nat.mul_comm]⟩ hx
  refine ⟨by rw [wCh_L]; omega, fun c hc => ?_, ?_⟩
  · rw [wCh_L, wCh_X, show 8 - (a.1 + 1) = 7 - a.1 by omega]
    exact Nat.dvd_sub (up _ (p2 c hc)) (Nat.dvd_trans ds ⟨_, Nat.mul_comm _ _⟩)
  · rw [wCh_L, wCh_M, show 8 - (a.1 + 1) = 7 - a.1 by omega]
    exact Nat.dvd_add (up _ p3) ds
section WR
variable {C : CE} {S : Nat} {out : Bool}
def wAl (C : CE) (S : Nat) : Nat := fb_sm (wX0 C S 8) (wN S 8)
theorem wAl_b (hC : cOK C) (hS : wSet C S) : wAl C S ≤ 368640 := by have := (wRt_I hC hS).2.2.2; exact Nat.le_trans (Nat.le_add_right _ _) this
/-- all moments of the set -/
def wAll (C : CE) (S : Nat) (out : Bool) : List WN := wNd (wN S 8) out 4 (wRt C S)
theorem wAll_gr (hC : cOK C) (hS : wSet C S) {b : WN} (hb : b ∈ wAll C S out) : wG0 C S 8 / 2 ^ wN S 8 ∣ b.2.2.2 b.1 ∧ b.1 ≤ wN S 8 ∧ b.2.2.2 b.1 ≤ wAl C S ∧ 0 < b.2.2.2 b.1 ∧ wMo b ∧ b.2.2.2 0 = 0 ∧ wI (wN S 8) b := by
  have hI := wRt_I hC hS
  obtain ⟨q, hq⟩ := (wG0_b hC hS.2.1 (c := 8)).1
  have n4 := hS.2.2
  have h0 : wGp (wN S 8) q (wRt C S) := by
    refine ⟨?_, fun c hc => ?_, ⟨0, by rw [Nat.mul_zero]; rfl⟩⟩
    · show 0 + wSt (wN S 8) (wX0 C S 8) ≤ wN S 8
      have : wSt (wN S 8) (wX0 C S 8) ≤ wN S 8 := fb_ct_le _ _
      omega
    · show 2 ^ 8 * q ∣ wX0 C S 8 c
      have := (wX0_b hC hS.2.1 hc).2.2.2
      rw [hq] at this
      exact this
  obtain ⟨hIb, p1, p2, p3⟩ := wNd_all (out := out) (P := wGp (wN S 8) q) (fun _ _ i p w0 w3 ok => wGp_ch i p w0 w3 ok) 4 (wRt C S) hI h0 b hb
  obtain ⟨_, _, _, _, _, _, hE⟩ := wNd_E hI hb
  have lt := wNd_lt hI hb
  refine ⟨?_, by omega, ?_, Nat.lt_of_le_of_lt (Nat.zero_le _) lt.2, wNd_Mo hI (wRt_M C S) hb, (hE.2.1 0 (Nat.le_refl _)).1, hIb⟩
  · have e : wG0 C S 8 / 2 ^ wN S 8 = 2 ^ (8 - wN S 8) * q := by
      rw [hq, show (256 : Nat) = 2 ^ wN S 8 * 2 ^ (8 - wN S 8) by rw [← Nat.pow_add, show wN S 8 + (8 - wN S 8) = 8 by omega], Nat.mul_assoc, Nat.mul_div_cancel_left _ (Nat.two_pow_pos _)]
    rw [e]
    refine Nat.dvd_trans ?_ p3
    refine Nat.mul_dvd_mul (Nat.pow_dvd_pow 2 (by omega)) (Nat.dvd_refl _)
  · have h1 : b.2.2.2 b.1 + fb_sm (b.2.1 b.1) (wN S 8) ≤ 0 + wAl C S := hE.2.2.2.1
    omega
theorem c_ogr {n g T d : Nat} {h : MH} {Q : Option MV → MH → Prop} (hr : zRf h) (h0 : h.1 62 0 = nI n) (h3 : h.1 62 3 = nI g) (hn : n ≤ 4) (hg : 256 ∣ g) (hg0 : 0 < g) (hgb : g ≤ 92160) (hT : T < 2 ^ 31) (kk : Q (some (.inl (bI (decide (g / 2 ^ n ∣ T))))) h) : Con mX9_onGrid d 0 0 [.inr (.inr 62), .inl (nI T)] h Q := by
  have es : nI g >>> (nI n &&& 31) = nI (g / 2 ^ n) := pk_shrN (by omega) _ n (s_l n (by omega))
  have p0 : 0 < g / 2 ^ n := by
    refine Nat.div_pos ?_ (Nat.two_pow_pos n)
    have h1 : 2 ^ n ≤ 2 ^ 4 := Nat.pow_le_pow_right (by decide) hn
    have h2 := Nat.le_of_dvd hg0 hg
    omega
  have pb : g / 2 ^ n ≤ 92160 := Nat.le_trans (Nat.div_le_self _ _) hgb
  refine u_X9_onGrid hr ?_
  rw [h0, h3, es, pk_rem hT p0 (by omega)]
  have ml := Nat.mod_lt T p0
  by_cases z : T % (g / 2 ^ n) = 0
  · rw [decide_eq_true (Nat.dvd_of_mod_eq_zero z)] at kk
    simp (disch := omega) only [xle_t, xle_f, xlt_t, xlt_f, xeq_t, xeq_f, xle0_t, xle0_f, xlt0_f, x0lt_t, x0lt_f, x0le_t, xeq0_t, xeq0_f, xin, xem_f, xme_f, xlem_f, xlm_f, xml_t, xmle_t, nI_clamp, nI_add, pk_mul, pk_sub, zI_s, zI_k, zI_o, zL_s, zL_k, zL_o, zR_s, zR_k, zR_o, zIL, zIR, zIN, zLI, zLR, zLN, zRI, zRL, zRN, true_and, and_true, not_true_eq_false, not_false_eq_true, true_implies, false_implies, implies_true, forall_const, if_true, if_false, eq_self, false_and, and_false, implies_true, nI_l, ylle_t, ylle_f, xcl_t, xcl_f]
    exact kk
  · rw [decide_eq_false (fun q => z (Nat.mod_eq_zero_of_dvd q))] at kk
    simp (disch := omega) only [xle_t, xle_f, xlt_t, xlt_f, xeq_t, xeq_f, xle0_t, xle0_f, xlt0_f, x0lt_t, x0lt_f, x0le_t, xeq0_t, xeq0_f, xin, xem_f, xme_f, xlem_f, xlm_f, xml_t, xmle_t, nI_clamp, nI_add, pk_mul, pk_sub, zI_s, zI_k, zI_o, zL_s, zL_k, zL_o, zR_s, zR_k, zR_o, zIL, zIR, zIN, zLI, zLR, zLN, zRI, zRL, zRN, true_and, and_true, not_true_eq_false, not_false_eq_true, true_implies, false_implies, implies_true, forall_const, if_true, if_false, eq_self, false_and, and_false, implies_true, nI_l, ylle_t, ylle_f, xcl_t, xcl_f]
    exact kk
/-- what stays over a search -/
def cY (w : Nat) (h h' : MH) : Prop := zF (fun a => (a < 62 ∨ 76 < a) ∧ a ≠ w) h h'
theorem wFr.y {w : Nat} {h h' : MH} (f : wFr w 0 h h') : cY w h h' := f.1.weak (fun a q => by omega)
/-- the root, as search lays it -/
theorem wC_rt {h : MH} (hl : wLc C S 8 out h) : wC (wN S 8) out (wRt C S) (zsI (zsI (zsI h 62 6 (nI 0)) 62 7 (nI 0)) 64 0 (nI 0)) := by
  obtain ⟨l0, l1, l2, l3, l4⟩ := hl
  refine ⟨by simp (disch := omega) only [xle_t, xle_f, xlt_t, xlt_f, xeq_t, xeq_f, xle0_t, xle0_f, xlt0_f, x0lt_t, x0lt_f, x0le_t, xeq0_t, xeq0_f, xin, xem_f, xme_f, xlem_f, xlm_f, xml_t, xmle_t, nI_clamp, nI_add, pk_mul, pk_sub, zI_s, zI_k, zI_o, zL_s, zL_k, zL_o, zR_s, zR_k, zR_o, zIL, zIR, zIN, zLI, zLR, zLN, zRI, zRL, zRN, true_and, and_true, not_true_eq_false, not_false_eq_true, true_implies, false_implies, implies_true, forall_const, if_true, if_false, eq_self, false_and, and_false, implies_true, nI_l, ylle_t, ylle_f, xcl_t, xcl_f, l0], by simp (disch := omega) only [xle_t, xle_f, xlt_t, xlt_f, xeq_t, xeq_f, xle0_t, xle0_f, xlt0_f, x0lt_t, x0lt_f, x0le_t, xeq0_t, xeq0_f, xin, xem_f, xme_f, xlem_f, xlm_f, xml_t, xmle_t, nI_clamp, nI_add, pk_mul, pk_sub, zI_s, zI_k, zI_o, zL_s, zL_k, zL_o, zR_s, zR_k, zR_o, zIL, zIR, zIN, zLI, zLR, zLN, zRI, zRL, zRN, true_and, and_true, not_true_eq_false, not_false_eq_true, true_implies, false_implies, implies_true, forall_const, if_true, if_false, eq_self, false_and, and_false, implies_true, nI_l, ylle_t, ylle_f, xcl_t, xcl_f, l1], fun i hi => ?_⟩
  obtain rfl : i = 0 := Nat.le_zero.mp hi
  refine ⟨by rw [zI_s]; rfl, fun c hc => ?_⟩
  obtain ⟨y1, y2⟩ := l4 c hc
  have e1 : (zsI (zsI (zsI h 62 6 (nI 0)) 62 7 (nI 0)) 64 0 (nI 0)).1 (66 + 0) c = nI (wX0 C S 8 c) := by simp (disch := omega) only [xle_t, xle_f, xlt_t, xlt_f, xeq_t, xeq_f, xle0_t, xle0_f, xlt0_f, x0lt_t, x0lt_f, x0le_t, xeq0_t, xeq0_f, xin, xem_f, xme_f, xlem_f, xlm_f, xml_t, xmle_t, nI_clamp, nI_add, pk_mul, pk_sub, zI_s, zI_k, zI_o, zL_s, zL_k, zL_o, zR_s, zR_k, zR_o, zIL, zIR, zIN, zLI, zLR, zLN, zRI, zRL, zRN, true_and, and_true, not_true_eq_false, not_false_eq_true, true_implies, false_implies, implies_true, forall_const, if_true, if_false, eq_self, false_and, and_false, implies_true, nI_l, ylle_t, ylle_f, xcl_t, xcl_f, y1]
  have e2 : (zsI (zsI (zsI h 62 6 (nI 0)) 62 7 (nI 0)) 64 0 (nI 0)).1 (72 + 0) c = nI 0 := by simp (disch := omega) only [xle_t, xle_f, xlt_t, xlt_f, xeq_t, xeq_f, xle0_t, xle0_f, xlt0_f, x0lt_t, x0lt_f, x0le_t, xeq0_t, xeq0_f, xin, xem_f, xme_f, xlem_f, xlm_f, xml_t, xmle_t, nI_clamp, nI_add, pk_mul, pk_sub, zI_s, zI_k, zI_o, zL_s, zL_k, zL_o, zR_s, zR_k, zR_o, zIL, zIR, zIN, zLI, zLR, zLN, zRI, zRL, zRN, true_and, and_true, not_true_eq_false, not_false_eq_true, true_implies, false_implies, implies_true, forall_const, if_true, if_false, eq_self, false_and, and_false, implies_true, nI_l, ylle_t, ylle_f, xcl_t, xcl_f, y2]
  exact ⟨e1, e2⟩
theorem cY_3 {w : Nat} (h : MH) : cY w h (zsI (zsI (zsI h 62 6 (nI 0)) 62 7 (nI 0)) 64 0 (nI 0)) := ((zF_I _ _ _ (by omega)).trans (zF_I _ _ _ (by omega))).trans (zF_I _ _ _ (by omega))
theorem c_skS {g T d : Nat} {h : MH} {Q : Option MV → MH → Prop} (hg : g = 1 ∨ g = 2 ∨ g = 3) (hr : zRf h) (hC : cOK C) (hS : wSet C S) (hl : wLc C S 8 out h) (hT : 0 < T) (hTb : T < 2 ^ 31) (hd : 24 ≤ d)
    (kk : ∀ h', zRf h' → cY 62 h h' → h'.1 62 0 = nI (wN S 8) → (∀ be r F, (wAll C S out).foldl (sU (wN S 8) g T (wAl C S)) none = some (be, r, F) → h'.1 62 8 = nI be ∧ h'.1 62 9 = nI r ∧ r ≤ 4 ∧ (g = 1 → ∀ i, i ≤ r → ∀ c, c < wN S 8 → h'.1 (72 + i) c = nI (F i c))) → Q (some (.inl (bI ((wAll C S out).foldl (sU (wN S 8) g T (wAl C S)) none).isSome))) h') :
    Con mX9_seek d 0 0 [.inr (.inr 62), .inl (nI g), .inl (nI T)] h Q := by
  have hI := wRt_I hC hS
  have n4 := hS.2.2
  have ab := wAl_b hC hS
  obtain ⟨l0, l1, l2, l3, l4⟩ := id hl
  obtain ⟨g1, g2, g3⟩ := wG0_b hC hS.2.1 (c := 8)
  have none_ : (∀ b, b ∈ wAll C S out → b.2.2.2 b.1 ≠ T) → Q (some (.inl (nI 0))) h := fun q => by
    have e : (wAll C S out).foldl (sU (wN S 8) g T (wAl C S)) none = none := sU_all (fun b hb => sU_ne (q b hb))
    have := kk h hr zF.rfl l0 (fun be r F y => by rw [e] at y; cases y)
    rw [e] at this
    exact this
  refine u_X9_seek (d1' := d - 1) hr (by omega) ?_
  have l2' : h.1 62 2 = nI (wAl C S) := l2
  rcases Nat.lt_or_ge (wAl C S) T with c1 | c1
  · simp (disch := omega) only [xle_t, xle_f, xlt_t, xlt_f, xeq_t, xeq_f, xle0_t, xle0_f, xlt0_f, x0lt_t, x0lt_f, x0le_t, xeq0_t, xeq0_f, xin, xem_f, xme_f, xlem_f, xlm_f, xml_t, xmle_t, nI_clamp, nI_add, pk_mul, pk_sub, zI_s, zI_k, zI_o, zL_s, zL_k, zL_o, zR_s, zR_k, zR_o, zIL, zIR, zIN, zLI, zLR, zLN, zRI, zRL, zRN, true_and, and_true, not_true_eq_false, not_false_eq_true, true_implies, false_implies, implies_true, forall_const, if_true, if_false, eq_self, false_and, and_false, implies_true, nI_l, ylle_t, ylle_f, xcl_t, xcl_f, l2']
    exact none_ (fun b hb => by have := (wAll_gr hC hS hb).2.2.1; omega)
  · simp (disch := omega) only [xle_t, xle_f, xlt_t, xlt_f, xeq_t, xeq_f, xle0_t, xle0_f, xlt0_f, x0lt_t, x0lt_f, x0le_t, xeq0_t, xeq0_f, xin, xem_f, xme_f, xlem_f, xlm_f, xml_t, xmle_t, nI_clamp, nI_add, pk_mul, pk_sub, zI_s, zI_k, zI_o, zL_s, zL_k, zL_o, zR_s, zR_k, zR_o, zIL, zIR, zIN, zLI, zLR, zLN, zRI, zRL, zRN, true_and, and_true, not_true_eq_false, not_false_eq_true, true_implies, false_implies, implies_true, forall_const, if_true, if_false, eq_self, false_and, and_false, implies_true, nI_l, ylle_t, ylle_f, xcl_t, xcl_f, l2']
    refine c_ogr hr l0 l3 n4 g1 (g3 (wSet_n hC hS)) g2 hTb ?_
    refine u_X9_seek_13 (d1' := d - 1) hr (by omega) ?_
    by_cases z : wG0 C S 8 / 2 ^ wN S 8 ∣ T
    · rw [decide_eq_true z, show bI true = nI 1 from rfl]
      simp (disch := omega) only [xle_t, xle_f, xlt_t, xlt_f, xeq_t, xeq_f, xle0_t, xle0_f, xlt0_f, x0lt_t, x0lt_f, x0le_t, xeq0_t, xeq0_f, xin, xem_f, xme_f, xlem_f, xlm_f, xml_t, xmle_t, nI_clamp, nI_add, pk_mul, pk_sub, zI_s, zI_k, zI_o, zL_s, zL_k, zL_o, zR_s, zR_k, zR_o, zIL, zIR, zIN, zLI, zLR, zLN, zRI, zRL, zRN, true_and, and_true, not_true_eq_false, not_false_eq_true, true_implies, false_implies, implies_true, forall_const, if_true, if_false, eq_self, false_and, and_false, implies_true, nI_l, ylle_t, ylle_f, xcl_t, xcl_f]
      refine u_X9_begin hr (u_X9_seek_32 (d1' := d - 2) hr (by omega) ?_)
      have hl' : wLc C S 8 out (zsI (zsI h 62 4 (nI g)) 62 5 (nI T)) := ⟨by simp (disch := omega) only [xle_t, xle_f, xlt_t, xlt_f, xeq_t, xeq_f, xle0_t, xle0_f, xlt0_f, x0lt_t, x0lt_f, x0le_t, xeq0_t, xeq0_f, xin, xem_f, xme_f, xlem_f, xlm_f, xml_t, xmle_t, nI_clamp, nI_add, pk_mul, pk_sub, zI_s, zI_k, zI_o, zL_s, zL_k, zL_o, zR_s, zR_k, zR_o, zIL, zIR, zIN, zLI, zLR, zLN, zRI, zRL, zRN, true_and, and_true, not_true_eq_false, not_false_eq_true, true_implies, false_implies, implies_true, forall_const, if_true, if_false, eq_self, false_and, and_false, implies_true, nI_l, ylle_t, ylle_f, xcl_t, xcl_f, l0], by simp (disch := omega) only [xle_t, xle_f, xlt_t, xlt_f, xeq_t, xeq_f, xle0_t, xle0_f, xlt0_f, x0lt_t, x0lt_f, x0le_t, xeq0_t, xeq0_f, xin, xem_f, xme_f, xlem_f, xlm_f, xml_t, xmle_t, nI_clamp, nI_add, pk_mul, pk_sub, zI_s, zI_k, zI_o, zL_s, zL_k, zL_o, zR_s, zR_k, zR_o, zIL, zIR, zIN, zLI, zLR, zLN, zRI, zRL, zRN, true_and, and_true, not_true_eq_false, not_false_eq_true, true_implies, false_implies, implies_true, forall_const, if_true, if_false, eq_self, false_and, and_false, implies_true, nI_l, ylle_t, ylle_f, xcl_t, xcl_f, l1], by simp (disch := omega) only [xle_t, xle_f, xlt_t, xlt_f, xeq_t, xeq_f, xle0_t, xle0_f, xlt0_f, x0lt_t, x0lt_f, x0le_t, xeq0_t, xeq0_f, xin, xem_f, xme_f, xlem_f, xlm_f, xml_t, xmle_t, nI_clamp, nI_add, pk_mul, pk_sub, zI_s, zI_k, zI_o, zL_s, zL_k, zL_o, zR_s, zR_k, zR_o, zIL, zIR, zIN, zLI, zLR, zLN, zRI, zRL, zRN, true_and, and_true, not_true_eq_false, not_false_eq_true, true_implies, false_implies, implies_true, forall_const, if_true, if_false, eq_self, false_and, and_false, implies_true, nI_l, ylle_t, ylle_f, xcl_t, xcl_f, l2], by simp (disch := omega) only [xle_t, xle_f, xlt_t, xlt_f, xeq_t, xeq_f, xle0_t, xle0_f, xlt0_f, x0lt_t, x0lt_f, x0le_t, xeq0_t, xeq0_f, xin, xem_f, xme_f, xlem_f, xlm_f, xml_t, xmle_t, nI_clamp, nI_add, pk_mul, pk_sub, zI_s, zI_k, zI_o, zL_s, zL_k, zL_o, zR_s, zR_k, zR_o, zIL, zIR, zIN, zLI, zLR, zLN, zRI, zRL, zRN, true_and, and_true, not_true_eq_false, not_false_eq_true, true_implies, false_implies, implies_true, forall_const, if_true, if_false, eq_self, false_and, and_false, implies_true, nI_l, ylle_t, ylle_f, xcl_t, xcl_f, l3], fun j hj => by simp (disch := omega) only [xle_t, xle_f, xlt_t, xlt_f, xeq_t, xeq_f, xle0_t, xle0_f, xlt0_f, x0lt_t, x0lt_f, x0le_t, xeq0_t, xeq0_f, xin, xem_f, xme_f, xlem_f, xlm_f, xml_t, xmle_t, nI_clamp, nI_add, pk_mul, pk_sub, zI_s, zI_k, zI_o, zL_s, zL_k, zL_o, zR_s, zR_k, zR_o, zIL, zIR, zIN, zLI, zLR, zLN, zRI, zRL, zRN, true_and, and_true, not_true_eq_false, not_false_eq_true, true_implies, false_implies, implies_true, forall_const, if_true, if_false, eq_self, false_and, and_false, implies_true, nI_l, ylle_t, ylle_f, xcl_t, xcl_f, l4 j hj]⟩
      have e2 : (zsI (zsI (zsI (zsI (zsI h 62 4 (nI g)) 62 5 (nI T)) 62 6 (nI 0)) 62 7 (nI 0)) 64 0 (nI 0)).1 62 2 = nI (wAl C S) := by simp (disch := omega) only [xle_t, xle_f, xlt_t, xlt_f, xeq_t, xeq_f, xle0_t, xle0_f, xlt0_f, x0lt_t, x0lt_f, x0le_t, xeq0_t, xeq0_f, xin, xem_f, xme_f, xlem_f, xlm_f, xml_t, xmle_t, nI_clamp, nI_add, pk_mul, pk_sub, zI_s, zI_k, zI_o, zL_s, zL_k, zL_o, zR_s, zR_k, zR_o, zIL, zIR, zIN, zLI, zLR, zLN, zRI, zRL, zRN, true_and, and_true, not_true_eq_false, not_false_eq_true, true_implies, false_implies, implies_true, forall_const, if_true, if_false, eq_self, false_and, and_false, implies_true, nI_l, ylle_t, ylle_f, xcl_t, xcl_f, l2']
      rw [e2]
      obtain ⟨e, rfl⟩ : ∃ e, d = e + 4 := ⟨d - 4, by omega⟩
      have ht : sT g T (wAl C S) (zsI (zsI (zsI (zsI (zsI h 62 4 (nI g)) 62 5 (nI T)) 62 6 (nI 0)) 62 7 (nI 0)) 64 0 (nI 0)) := ⟨by simp (disch := omega) only [xle_t, xle_f, xlt_t, xlt_f, xeq_t, xeq_f, xle0_t, xle0_f, xlt0_f, x0lt_t, x0lt_f, x0le_t, xeq0_t, xeq0_f, xin, xem_f, xme_f, xlem_f, xlm_f, xml_t, xmle_t, nI_clamp, nI_add, pk_mul, pk_sub, zI_s, zI_k, zI_o, zL_s, zL_k, zL_o, zR_s, zR_k, zR_o, zIL, zIR, zIN, zLI, zLR, zLN, zRI, zRL, zRN, true_and, and_true, not_true_eq_false, not_false_eq_true, true_implies, false_implies, implies_true, forall_const, if_true, if_false, eq_self, false_and, and_false, implies_true, nI_l, ylle_t, ylle_f, xcl_t, xcl_f], by simp (disch := omega) only [xle_t, xle_f, xlt_t, xlt_f, xeq_t, xeq_f, xle0_t, xle0_f, xlt0_f, x0lt_t, x0lt_f, x0le_t, xeq0_t, xeq0_f, xin, xem_f, xme_f, xlem_f, xlm_f, xml_t, xmle_t, nI_clamp, nI_add, pk_mul, pk_sub, zI_s, zI_k, zI_o, zL_s, zL_k, zL_o, zR_s, zR_k, zR_o, zIL, zIR, zIN, zLI, zLR, zLN, zRI, zRL, zRN, true_and, and_true, not_true_eq_false, not_false_eq_true, true_implies, false_implies, implies_true, forall_const, if_true, if_false, eq_self, false_and, and_false, implies_true, nI_l, ylle_t, ylle_f, xcl_t, xcl_f], e2⟩
      refine c_go (a := wRt C S) (n := wN S 8) (k := 4) (w := 62) (d := e) (out := out) (U := sU (wN S 8) g T (wAl C S)) (ov := sOv g) (R := sR (wN S 8) g) (s := none) ?_ hI rfl (wC_rt hl') (Or.inl rfl) ?_ ?_ sU_ov sR_v sR_s (by omega) ?_ ?_
      · exact hr
      · refine ⟨?_, by simp (disch := omega) only [xle_t, xle_f, xlt_t, xlt_f, xeq_t, xeq_f, xle0_t, xle0_f, xlt0_f, x0lt_t, x0lt_f, x0le_t, xeq0_t, xeq0_f, xin, xem_f, xme_f, xlem_f, xlm_f, xml_t, xmle_t, nI_clamp, nI_add, pk_mul, pk_sub, zI_s, zI_k, zI_o, zL_s, zL_k, zL_o, zR_s, zR_k, zR_o, zIL, zIR, zIN, zLI, zLR, zLN, zRI, zRL, zRN, true_and, and_true, not_true_eq_false, not_false_eq_true, true_implies, false_implies, implies_true, forall_const, if_true, if_false, eq_self, false_and, and_false, implies_true, nI_l, ylle_t, ylle_f, xcl_t, xcl_f]⟩
        have : sOv g none = false := by unfold sOv; rw [Option.isSome_none, Bool.and_false]
        rw [this]
        simp (disch := omega) only [xle_t, xle_f, xlt_t, xlt_f, xeq_t, xeq_f, xle0_t, xle0_f, xlt0_f, x0lt_t, x0lt_f, x0le_t, xeq0_t, xeq0_f, xin, xem_f, xme_f, xlem_f, xlm_f, xml_t, xmle_t, nI_clamp, nI_add, pk_mul, pk_sub, zI_s, zI_k, zI_o, zL_s, zL_k, zL_o, zR_s, zR_k, zR_o, zIL, zIR, zIN, zLI, zLR, zLN, zRI, zRL, zRN, true_and, and_true, not_true_eq_false, not_false_eq_true, true_implies, false_implies, implies_true, forall_const, if_true, if_false, eq_self, false_and, and_false, implies_true, nI_l, ylle_t, ylle_f, xcl_t, xcl_f]
        rfl
      · unfold sOv
        rw [Option.isSome_none, Bool.and_false]
      · intro k' hk' W w0 w3 ok s' h' r' f' c' R' v' Q' kq
        obtain ⟨e, rfl⟩ : ∃ e', e = e' + 4 := ⟨e - 4, by omega⟩
        exact c_arS hg hT (by omega) ab k' e (wRt C S) W hI (wRt_F _ C S) w0 w3 ok (by show 0 + 1 + k' = 4; omega) (by omega) s' h' _ r' c' (ht.keep f') R' v' (fun _ => rfl) (Nat.le_refl _) Q' kq
      · intro h' r' f' R'
        refine u_X9_seek_42 r' ?_
        have y : cY 62 h h' := (((zF_I _ _ _ (by omega)).trans (zF_I _ _ _ (by omega))).trans (cY_3 _)).trans (wFr.y f')
        have e0 : h'.1 62 0 = nI (wN S 8) := by
          rw [f'.2.1 0 (by omega)]
          simp (disch := omega) only [xle_t, xle_f, xlt_t, xlt_f, xeq_t, xeq_f, xle0_t, xle0_f, xlt0_f, x0lt_t, x0lt_f, x0le_t, xeq0_t, xeq0_f, xin, xem_f, xme_f, xlem_f, xlm_f, xml_t, xmle_t, nI_clamp, nI_add, pk_mul, pk_sub, zI_s, zI_k, zI_o, zL_s, zL_k, zL_o, zR_s, zR_k, zR_o, zIL, zIR, zIN, zLI, zLR, zLN, zRI, zRL, zRN, true_and, and_true, not_true_eq_false, not_false_eq_true, true_implies, false_implies, implies_true, forall_const, if_true, if_false, eq_self, false_and, and_false, implies_true, nI_l, ylle_t, ylle_f, xcl_t, xcl_f, l0]
        have fin := kk h' r' y e0
        generalize hs : (wAll C S out).foldl (sU (wN S 8) g T (wAl C S)) none = s9 at fin
        have R9 : sR (wN S 8) g s9 h' := by rw [← hs]; exact R'
        rcases s9 with _ | ⟨be, r, F⟩
        · have e6 : h'.1 62 6 = nI 0 := R9.2
          rw [e6]
          exact ⟨Or.inl rfl, fin (fun _ _ _ y => by cases y)⟩
        · obtain ⟨_, e6, e8, _, e9, r4, rw⟩ := R9
          rw [e6]
          exact ⟨Or.inr rfl, fin (fun be' r' F' y => by
            have := Option.some.inj y
            cases this
            exact ⟨e8, e9, r4, rw⟩)⟩
    · rw [decide_eq_false z, show bI false = nI 0 from rfl]
      simp (disch := omega) only [xle_t, xle_f, xlt_t, xlt_f, xeq_t, xeq_f, xle0_t, xle0_f, xlt0_f, x0lt_t, x0lt_f, x0le_t, xeq0_t, xeq0_f, xin, xem_f, xme_f, xlem_f, xlm_f, xml_t, xmle_t, nI_clamp, nI_add, pk_mul, pk_sub, zI_s, zI_k, zI_o, zL_s, zL_k, zL_o, zR_s, zR_k, zR_o, zIL, zIR, zIN, zLI, zLR, zLN, zRI, zRL, zRN, true_and, and_true, not_true_eq_false, not_false_eq_true, true_implies, false_implies, implies_true, forall_const, if_true, if_false, eq_self, false_and, and_false, implies_true, nI_l, ylle_t, ylle_f, xcl_t, xcl_f]
      exact none_ (fun b hb q => z (by rw [← q]; exact (wAll_gr hC hS hb).1))
end WR
