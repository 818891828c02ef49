/-! ===== lay, playAsTold, playUntil (class) ===== -/
def fT (C : CE) (c : Nat) : Nat := if c < C.1 then cS C c * 256 else 0
theorem fT_ok {C : CE} (hC : cOK C) : fOK C.1 (fT C) := by
  refine ⟨hC.1, fun c hc => ?_, fun c hc => if_neg (by omega), ?_⟩
  · have : fT C c = cS C c * 256 := if_pos hc
    have h2 := cS_pos hC hc
    rw [this]
    exact ⟨Nat.dvd_mul_left _ _, by omega⟩
  · have : fb_sm (fT C) C.1 ≤ C.1 * 23592960 := fb_sm_bound (fun k hk => by
      have e : fT C k = cS C k * 256 := if_pos hk
      have := cS_le hC hk
      omega)
    have h8 := hC.1
    omega
def pPa (p : Nat) : Nat := 22 + 6 * p
theorem c_lay {C : CE} {h : MH} {d : Nat} {Q : Option MV → MH → Prop} (hr : zRf h) (hA : cAt C h 16) (hC : cOK C) (hd : 4 ≤ d) (kk : ∀ h', zRf h' → zF (fun a => a ≠ 48 ∧ a ≠ 49) h h' → h'.1 48 0 = nI C.1 → (∀ c, c < C.1 → h'.1 49 c = nI (fT C c)) → Q none h') : Con mX8_lay d 0 0 [.inr (.inr 48), .inr (.inr 16)] h Q := by
  have h8 := hC.1
  refine u_X8_lay hr ⟨zo hr (by decide) rfl, ?_⟩
  have L : ∀ m c, c + m = C.1 → ∀ g : MH, zRf g → zF (fun a => a ≠ 48 ∧ a ≠ 49) h g → g.1 48 0 = nI C.1 → (∀ x, x < c → g.1 49 x = nI (fT C x)) → J mX8_lay d 0 0 Q 0 0 10 [some (.inr (.inr 48)), some (.inr (.inr 16)), some (.inl (nI c))] [] g := by
    intro m
    induction m with
    | zero =>
      intro c hc g rg fg g0 hx
      obtain rfl : c = C.1 := by omega
      refine u_X8_lay_10 (d1' := 0) rg (by omega) ?_
      simp (disch := omega) only [xle_t, xle_f, xlt_t, xlt_f, xeq_t, xeq_f, xle0_t, xle0_f, xlt0_f, x0lt_t, x0lt_f, x0le_t, xeq0_t, xeq0_f, xin, xem_f, xme_f, xlem_f, xlm_f, xml_t, xmle_t, nI_clamp, nI_add, pk_mul, pk_sub, zI_s, zI_k, zI_o, zL_s, zL_k, zL_o, zR_s, zR_k, zR_o, zIL, zIR, zIN, zLI, zLR, zLN, zRI, zRL, zRN, true_and, and_true, not_true_eq_false, not_false_eq_true, true_implies, false_implies, implies_true, forall_const, if_true, if_false, eq_self, false_and, and_false, implies_true, g0]
      exact kk g rg fg g0 hx
    | succ m ih =>
      intro c hc g rg fg g0 hx
      have ho : zokO g 16 2 := zo rg (by decide) rfl
      refine u_X8_lay_10 (d1' := 3) rg (by omega) ?_
      simp (disch := omega) only [xle_t, xle_f, xlt_t, xlt_f, xeq_t, xeq_f, xle0_t, xle0_f, xlt0_f, x0lt_t, x0lt_f, x0le_t, xeq0_t, xeq0_f, xin, xem_f, xme_f, xlem_f, xlm_f, xml_t, xmle_t, nI_clamp, nI_add, pk_mul, pk_sub, zI_s, zI_k, zI_o, zL_s, zL_k, zL_o, zR_s, zR_k, zR_o, zIL, zIR, zIN, zLI, zLR, zLN, zRI, zRL, zRN, true_and, and_true, not_true_eq_false, not_false_eq_true, true_implies, false_implies, implies_true, forall_const, if_true, if_false, eq_self, false_and, and_false, implies_true, g0, ho]
      refine c_sof rg (hA.keep (fun k hk => fg.i (by omega))) ho hC (by omega) (by omega) ?_
      refine u_X8_lay_28 ⟨zia rg (by decide) rfl (vp_in_nI (by omega) (by omega)), ?_⟩
      have e : fT C c = cS C c * 256 := if_pos (by omega)
      rw [pk_mul, nI_clamp (by omega), nI_add]
      refine ih (c + 1) (by omega) _ rg (fg.trans (zF_I _ _ _ (by omega))) ?_ (fun x hxc => ?_)
      · rw [zI_o _ _ _ (by omega)]; exact g0
      · by_cases y : x = c
        · rw [y, zI_s, e]
        · rw [zI_k _ _ _ y]; exact hx x (by omega)
  refine L C.1 0 (by omega) _ hr (zF_I _ _ _ (by omega)) ?_ (fun x hx => absurd hx (Nat.not_lt_zero _))
  rw [zI_s]; exact hA.1
/-- a run of the plan P as told -/
noncomputable def rTo (C : CE) (P : PL) : RS := rPlay P C.1 40 1024000000 (fT C)
def kR (n : Nat) (f : Nat → Nat) (R : RS) (h : MH) : Prop := kS n R h ∧ ∀ c, c < n → h.1 49 c = nI (f c)
theorem pAt.pl {B : BK} {h : MH} (hA : bAt B h 15) {p : Nat} (hp : p < 4) : pAt (B.2 p) h (22 + 6 * p) := by
  have := hA.2 p hp
  rw [show 15 + 7 + 6 * p = 22 + 6 * p by omega] at this
  exact this
theorem zpl' {h : MH} (hr : zRf h) {p : Nat} (hp : p < 4) : zokO h (22 + 6 * p) 5 := by
  have := zpl hr (vp_in_nI hp (by omega))
  rw [nI_clamp (by omega)] at this
  exact this
theorem c_playat {B : BK} {h : MH} {d p lo u : Nat} {f : Nat → Nat} {Q : Option MV → MH → Prop} (hr : zRf h) (hA : bAt B h 15) (hB : bOK B) (hp : p < 4) (hF : fOK B.1.1 f) (h48 : h.1 48 0 = nI B.1.1) (h49 : ∀ c, c < B.1.1 → h.1 49 c = nI (f c)) (hu : u ≤ 1024000000) (hd : 4 ≤ d) (kk : ∀ h', zRf h' → zF (fun a => a < 48 ∨ 56 < a) h h' → kR B.1.1 f (rPlay (B.2 p) B.1.1 lo u f) h' → Q none h') : Con mX8_play d 0 0 [.inr (.inr 48), .inr (.inr (22 + 6 * p)), .inl (loI lo), .inl (nI u)] h Q := by
  refine c_play hr hF h48 h49 (zpl' hr hp) (by omega) (pAt.pl hA hp) (hB.2 p hp) hu hd (fun h1 r1 f1 s1 => ?_)
  exact kk h1 r1 (f1.weak (fun a q => by omega)) ⟨s1, fun c hc => by rw [f1.i (by omega)]; exact h49 c hc⟩
theorem bAt.keepF {B : BK} {h h' : MH} (hA : bAt B h 15) (f : zF (fun a => a < 48) h h') : bAt B h' 15 := hA.keep (fun k hk => f.i (by omega))
theorem c_pat {B : BK} {h : MH} {d p : Nat} {Q : Option MV → MH → Prop} (hr : zRf h) (hA : bAt B h 15) (hB : bOK B) (hp : p < 4) (hd : 5 ≤ d) (kk : ∀ h', zRf h' → zF (fun a => a < 48 ∨ 56 < a) h h' → kR B.1.1 (fT B.1) (rTo B.1 (B.2 p)) h' → Q none h') : Con mX10_playAsTold d 0 0 [.inr (.inr 1), .inl (nI p)] h Q := by
  refine u_X10_playAsTold (d1' := 4) hr (by omega) ?_
  refine c_lay hr hA.1 hB.1 (by omega) (fun h1 r1 f1 a1 b1 => ?_)
  refine u_X10_playAsTold_14 (d1' := 4) r1 (by omega) ?_
  simp (disch := omega) only [xle_t, xle_f, xlt_t, xlt_f, xeq_t, xeq_f, xle0_t, xle0_f, xlt0_f, x0lt_t, x0lt_f, x0le_t, xeq0_t, xeq0_f, xin, xem_f, xme_f, xlem_f, xlm_f, xml_t, xmle_t, nI_clamp, nI_add, pk_mul, pk_sub, zI_s, zI_k, zI_o, zL_s, zL_k, zL_o, zR_s, zR_k, zR_o, zIL, zIR, zIN, zLI, zLR, zLN, zRI, zRL, zRN, true_and, and_true, not_true_eq_false, not_false_eq_true, true_implies, false_implies, implies_true, forall_const, if_true, if_false, eq_self, false_and, and_false, implies_true]
  refine c_playat (lo := 40) (u := 1024000000) r1 (hA.keepF (f1.weak (fun a q => by omega))) hB hp (fT_ok hB.1) a1 b1 (by omega) (by omega) (fun h2 r2 f2 s2 => ?_)
  exact u_X10_playAsTold_33 (kk h2 r2 ((f1.weak (fun a q => by omega)).trans f2) s2)
theorem c_puntil {B : BK} {h : MH} {d p t : Nat} {Q : Option MV → MH → Prop} (hr : zRf h) (hA : bAt B h 15) (hB : bOK B) (hp : p < 4) (ht : t < 2 ^ 31) (hd : 5 ≤ d) (kk : ∀ h', zRf h' → zF (fun a => a < 48 ∨ 56 < a) h h' → kR B.1.1 (fT B.1) (rPlay (B.2 p) B.1.1 40 (min t 4000000 * 256) (fT B.1)) h' → Q none h') : Con mX10_playUntil d 0 0 [.inr (.inr 1), .inl (nI p), .inl (nI t)] h Q := by
  refine u_X10_playUntil (d1' := 4) hr (by omega) ?_
  refine c_lay hr hA.1 hB.1 (by omega) (fun h1 r1 f1 a1 b1 => ?_)
  refine u_X10_playUntil_14 (d1' := 4) r1 (by omega) (by omega) ?_
  have e : (if (4000000 : Int32) < nI t then (4000000 : Int32) else nI t) = nI (min t 4000000) := by
    have := xmin (a := 4000000) (b := t) ht (by omega)
    rw [Nat.min_comm]
    exact this
  simp (disch := omega) only [xle_t, xle_f, xlt_t, xlt_f, xeq_t, xeq_f, xle0_t, xle0_f, xlt0_f, x0lt_t, x0lt_f, x0le_t, xeq0_t, xeq0_f, xin, xem_f, xme_f, xlem_f, xlm_f, xml_t, xmle_t, nI_clamp, nI_add, pk_mul, pk_sub, zI_s, zI_k, zI_o, zL_s, zL_k, zL_o, zR_s, zR_k, zR_o, zIL, zIR, zIN, zLI, zLR, zLN, zRI, zRL, zRN, true_and, and_true, not_true_eq_false, not_false_eq_true, true_implies, false_implies, implies_true, forall_const, if_true, if_false, eq_self, false_and, and_false, implies_true, e]
  refine c_playat (lo := 40) (u := min t 4000000 * 256) r1 (hA.keepF (f1.weak (fun a q => by omega))) hB hp (fT_ok hB.1) a1 b1 (by omega) (by omega) (fun h2 r2 f2 s2 => ?_)
  exact u_X10_playUntil_41 (kk h2 r2 ((f1.weak (fun a q => by omega)).trans f2) s2)
