/-! ===== off (class) ===== -/
def oPct (s d : Nat) : Nat := if s = 1 then 100 - d else if s = 2 then 100 + d else 100
def fO (C : CE) (σ : Nat → Nat) (c : Nat) : Nat := if c < C.1 then cS C c * oPct (σ c) (C.2.2.2.2 c) / 100 * 256 else 0
theorem oPct_b {s d : Nat} (h : d ≤ 50) : 50 ≤ oPct s d ∧ oPct s d ≤ 150 := by
  unfold oPct
  split
  · omega
  · split <;> omega
theorem fO_ok {C : CE} (hC : cOK C) (σ : Nat → Nat) : fOK C.1 (fO C σ) := by
  refine ⟨hC.1, fun c hc => ?_, fun c hc => if_neg (by omega), ?_⟩
  · have e : fO C σ c = cS C c * oPct (σ c) (C.2.2.2.2 c) / 100 * 256 := if_pos hc
    obtain ⟨b1, b2⟩ := oPct_b (s := σ c) (hC.2 c hc).2.2.2
    have := mp_b (cS_pos hC hc) (cS_le hC hc) b1 b2
    rw [e]
    exact ⟨Nat.dvd_mul_left _ _, by omega⟩
  · have : fb_sm (fO C σ) C.1 ≤ C.1 * 35389440 := fb_sm_bound (fun k hk => by
      have e : fO C σ k = cS C k * oPct (σ k) (C.2.2.2.2 k) / 100 * 256 := if_pos hk
      obtain ⟨b1, b2⟩ := oPct_b (s := σ k) (hC.2 k hk).2.2.2
      have := mp_b (cS_pos hC hk) (cS_le hC hk) b1 b2
      omega)
    have h8 := hC.1
    omega
noncomputable def oR (C : CE) (P : PL) (σ : Nat → Nat) : RS := rPlay P C.1 40 1024000000 (fO C σ)
theorem oR_o {C : CE} {P : PL} (hC : cOK C) (hP : pOK P) (σ : Nat → Nat) : rOut P C.1 (fO C σ) (oR C P σ) := rPlay_o hP (fO_ok hC σ)
def pUo (P : PL) : Nat → Nat → Bool
  | 0, _ => false
  | m + 1, c => pUo P m c || ((decide ((P.2.2.2.2 m).1 = 0 ∨ (P.2.2.2.2 m).1 = 1 ∨ (P.2.2.2.2 m).1 = 3) && decide ((P.2.2.2.2 m).2.1 = c)) || (decide ((P.2.2.2.2 m).1 = 3) && decide ((P.2.2.2.2 m).2.2 = c)))
theorem pUo_mono {P : PL} {c : Nat} : ∀ {m k : Nat}, k ≤ m → pUo P k c = true → pUo P m c = true := by
  intro m k h q
  induction m with
  | zero => rw [show k = 0 by omega] at q; exact q
  | succ m ih =>
    by_cases e : k = m + 1
    · rw [e] at q; exact q
    · show (pUo P m c || _) = true
      rw [ih (by omega), Bool.true_or]
theorem pUo_us (P : PL) : pUs P (pUo P P.2.1) := by
  intro k hk
  refine ⟨fun q => pUo_mono (k := k + 1) (by omega) ?_, fun q => pUo_mono (k := k + 1) (by omega) ?_⟩
  · show (pUo P k _ || ((decide _ && decide _) || _)) = true
    rw [decide_eq_true q, decide_eq_true rfl]; simp
  · show (pUo P k _ || (_ || (decide _ && decide _))) = true
    rw [decide_eq_true q, decide_eq_true rfl]; simp
theorem c_used {P : PL} {pa : Nat} {h : MH} {d : Nat} {Q : Option MV → MH → Prop} (hr : zRf h) (hpo : zokO h pa 5) (hP : pAt P h pa) (hO : pOK P) (kk : ∀ v : Int32, (∀ c, c < 8 → bt v c = pUo P P.2.1 c) → Q (some (.inl v)) h) : Con mX5_used d 0 0 [.inr (.inr pa)] h Q := by
  have h40 := hO.2.1
  refine u_X5_used ?_
  have L : ∀ m k, k + m = P.2.1 → ∀ v : Int32, (∀ c, c < 8 → bt v c = pUo P k c) → J mX5_used d 0 0 Q 0 0 4 [some (.inr (.inr pa)), some (.inl v), some (.inl (nI k))] [] h := by
    intro m
    induction m with
    | zero =>
      intro k hk v hv
      obtain rfl : k = P.2.1 := by omega
      refine u_X5_used_4 hr ?_
      simp (disch := omega) only [xle_t, xle_f, xlt_t, xlt_f, xeq_t, xeq_f, xle0_t, xle0_f, xlt0_f, x0lt_t, x0lt_f, x0le_t, xeq0_t, xeq0_f, xin, xem_f, xme_f, xlem_f, xlm_f, xml_t, xmle_t, nI_clamp, nI_add, pk_mul, pk_sub, zI_s, zI_k, zI_o, zL_s, zL_k, zL_o, zR_s, zR_k, zR_o, zIL, zIR, zIN, zLI, zLR, zLN, zRI, zRL, zRN, true_and, and_true, not_true_eq_false, not_false_eq_true, true_implies, false_implies, implies_true, forall_const, if_true, if_false, eq_self, false_and, and_false, implies_true, nI_l, ylle_t, ylle_f, xcl_t, xcl_f, hpo, hP.2.1]
      exact kk v hv
    | succ m ih =>
      intro k hk v hv
      obtain ⟨b1, b2, b3⟩ := hO.2.2.2.2 k (by omega)
      obtain ⟨e3, e4, e5⟩ := hP.2.2.2 k (by omega)
      refine u_X5_used_4 hr ?_
      have step : ∀ v' : Int32, (∀ c, c < 8 → bt v' c = (bt v c || ((decide ((P.2.2.2.2 k).1 = 0 ∨ (P.2.2.2.2 k).1 = 1 ∨ (P.2.2.2.2 k).1 = 3) && decide ((P.2.2.2.2 k).2.1 = c)) || (decide ((P.2.2.2.2 k).1 = 3) && decide ((P.2.2.2.2 k).2.2 = c))))) → J mX5_used d 0 0 Q 0 0 4 [some (.inr (.inr pa)), some (.inl v'), some (.inl (nI (k + 1)))] [] h := by
        intro v' hv'
        refine ih (k + 1) (by omega) v' (fun c hc => ?_)
        rw [hv' c hc, hv c hc]; rfl
      have bO : ∀ c, c < 8 → bt ((nI 1) <<< (nI (P.2.2.2.2 k).2.1 &&& 31)) c = decide ((P.2.2.2.2 k).2.1 = c) := fun c hc => by
        have := rBit_b (r := (P.2.2.2.2 k).2.1) (by omega) c (by omega)
        unfold rBit at this
        rw [this]
        by_cases z : c = (P.2.2.2.2 k).2.1
        · rw [decide_eq_true z, decide_eq_true z.symm]
        · rw [decide_eq_false z, decide_eq_false (fun w => z w.symm)]
      have bX : ∀ c, c < 8 → bt ((nI 1) <<< (nI (P.2.2.2.2 k).2.2 &&& 31)) c = decide ((P.2.2.2.2 k).2.2 = c) := fun c hc => by
        have := rBit_b (r := (P.2.2.2.2 k).2.2) (by omega) c (by omega)
        unfold rBit at this
        rw [this]
        by_cases z : c = (P.2.2.2.2 k).2.2
        · rw [decide_eq_true z, decide_eq_true z.symm]
        · rw [decide_eq_false z, decide_eq_false (fun w => z w.symm)]
      have h5 : (P.2.2.2.2 k).1 = 0 ∨ (P.2.2.2.2 k).1 = 1 ∨ (P.2.2.2.2 k).1 = 2 ∨ (P.2.2.2.2 k).1 = 3 ∨ (P.2.2.2.2 k).1 = 4 := by omega
      rcases h5 with q | q | q | q | q
      · simp (disch := omega) only [xle_t, xle_f, xlt_t, xlt_f, xeq_t, xeq_f, xle0_t, xle0_f, xlt0_f, x0lt_t, x0lt_f, x0le_t, xeq0_t, xeq0_f, xin, xem_f, xme_f, xlem_f, xlm_f, xml_t, xmle_t, nI_clamp, nI_add, pk_mul, pk_sub, zI_s, zI_k, zI_o, zL_s, zL_k, zL_o, zR_s, zR_k, zR_o, zIL, zIR, zIN, zLI, zLR, zLN, zRI, zRL, zRN, true_and, and_true, not_true_eq_false, not_false_eq_true, true_implies, false_implies, implies_true, forall_const, if_true, if_false, eq_self, false_and, and_false, implies_true, nI_l, ylle_t, ylle_f, xcl_t, xcl_f, hpo, hP.2.1, e3, e4, e5]
        refine step _ (fun c hc => ?_)
        rw [b_or, bO c hc, q]; simp
      · simp (disch := omega) only [xle_t, xle_f, xlt_t, xlt_f, xeq_t, xeq_f, xle0_t, xle0_f, xlt0_f, x0lt_t, x0lt_f, x0le_t, xeq0_t, xeq0_f, xin, xem_f, xme_f, xlem_f, xlm_f, xml_t, xmle_t, nI_clamp, nI_add, pk_mul, pk_sub, zI_s, zI_k, zI_o, zL_s, zL_k, zL_o, zR_s, zR_k, zR_o, zIL, zIR, zIN, zLI, zLR, zLN, zRI, zRL, zRN, true_and, and_true, not_true_eq_false, not_false_eq_true, true_implies, false_implies, implies_true, forall_const, if_true, if_false, eq_self, false_and, and_false, implies_true, nI_l, ylle_t, ylle_f, xcl_t, xcl_f, hpo, hP.2.1, e3, e4, e5]
        refine step _ (fun c hc => ?_)
        rw [b_or, bO c hc, q]; simp
      · simp (disch := omega) only [xle_t, xle_f, xlt_t, xlt_f, xeq_t, xeq_f, xle0_t, xle0_f, xlt0_f, x0lt_t, x0lt_f, x0le_t, xeq0_t, xeq0_f, xin, xem_f, xme_f, xlem_f, xlm_f, xml_t, xmle_t, nI_clamp, nI_add, pk_mul, pk_sub, zI_s, zI_k, zI_o, zL_s, zL_k, zL_o, zR_s, zR_k, zR_o, zIL, zIR, zIN, zLI, zLR, zLN, zRI, zRL, zRN, true_and, and_true, not_true_eq_false, not_false_eq_true, true_implies, false_implies, implies_true, forall_const, if_true, if_false, eq_self, false_and, and_false, implies_true, nI_l, ylle_t, ylle_f, xcl_t, xcl_f, hpo, hP.2.1, e3, e4, e5]
        refine step _ (fun c hc => ?_)
        rw [q]; simp
      · simp (disch := omega) only [xle_t, xle_f, xlt_t, xlt_f, xeq_t, xeq_f, xle0_t, xle0_f, xlt0_f, x0lt_t, x0lt_f, x0le_t, xeq0_t, xeq0_f, xin, xem_f, xme_f, xlem_f, xlm_f, xml_t, xmle_t, nI_clamp, nI_add, pk_mul, pk_sub, zI_s, zI_k, zI_o, zL_s, zL_k, zL_o, zR_s, zR_k, zR_o, zIL, zIR, zIN, zLI, zLR, zLN, zRI, zRL, zRN, true_and, and_true, not_true_eq_false, not_false_eq_true, true_implies, false_implies, implies_true, forall_const, if_true, if_false, eq_self, false_and, and_false, implies_true, nI_l, ylle_t, ylle_f, xcl_t, xcl_f, hpo, hP.2.1, e3, e4, e5]
        refine step _ (fun c hc => ?_)
        rw [b_or, b_or, bO c hc, bX c hc, q]; simp [Bool.or_assoc]
      · simp (disch := omega) only [xle_t, xle_f, xlt_t, xlt_f, xeq_t, xeq_f, xle0_t, xle0_f, xlt0_f, x0lt_t, x0lt_f, x0le_t, xeq0_t, xeq0_f, xin, xem_f, xme_f, xlem_f, xlm_f, xml_t, xmle_t, nI_clamp, nI_add, pk_mul, pk_sub, zI_s, zI_k, zI_o, zL_s, zL_k, zL_o, zR_s, zR_k, zR_o, zIL, zIR, zIN, zLI, zLR, zLN, zRI, zRL, zRN, true_and, and_true, not_true_eq_false, not_false_eq_true, true_implies, false_implies, implies_true, forall_const, if_true, if_false, eq_self, false_and, and_false, implies_true, nI_l, ylle_t, ylle_f, xcl_t, xcl_f, hpo, hP.2.1, e3, e4, e5]
        refine step _ (fun c hc => ?_)
        rw [q]; simp
  exact L P.2.1 0 (by omega) (nI 0) (fun c hc => by rw [nI_0, b_0]; rfl)
/-- candles that a draught can change -/
def oPt (C : CE) (P : PL) (c : Nat) : Bool := decide (0 < C.2.2.2.2 c) && pUo P P.2.1 c
theorem pctI : ∀ t, t < 3 → ∀ d, d < 51 → (t = 2 → nI 100 + nI d = nI (oPct t d)) ∧ (t ≠ 2 → nI 100 + (-(nI t)) * nI d = nI (oPct t d)) := by decide +kernel
theorem c_turn {C : CE} {P : PL} {h : MH} {d j : Nat} {v : Int32} {Q : Option MV → MH → Prop} (hr : zRf h) (hA : cAt C h 16) (hC : cOK C) (hv : ∀ c, c < 8 → bt v c = pUo P P.2.1 c) (hj : j < oCt (oPt C P) C.1 0) (hs : ∀ x, x < C.1 → h.1 61 x = nI (oDec (oPt C P) C.1 0 j x) ∧ h.1 49 x = nI (fO C (oDec (oPt C P) C.1 0 j) x)) (hd : 4 ≤ d) (k0 : ¬ j + 1 < oCt (oPt C P) C.1 0 → ∀ h', zRf h' → zF (fun a => a ≠ 49 ∧ a ≠ 61) h h' → Q (some (.inl (nI 0))) h') (k1 : j + 1 < oCt (oPt C P) C.1 0 → ∀ h', zRf h' → zF (fun a => a ≠ 49 ∧ a ≠ 61) h h' → (∀ x, x < C.1 → h'.1 61 x = nI (oDec (oPt C P) C.1 0 (j + 1) x) ∧ h'.1 49 x = nI (fO C (oDec (oPt C P) C.1 0 (j + 1)) x)) → Q (some (.inl (nI 1))) h') : Con mX4_turnNext d 0 0 [.inr (.inr 58), .inr (.inr 48), .inr (.inr 16), .inl v] h Q := by
  have h8 := hC.1
  generalize hpt : oPt C P = pt at hj hs k0 k1
  refine u_X4_turnNext ?_
  have fOx : ∀ (σ τ : Nat → Nat) (x : Nat), σ x = τ x → fO C σ x = fO C τ x := fun σ τ x e => by unfold fO; rw [e]
  have L : ∀ m c, c + m = C.1 → ∀ (j : Nat) (τ : Nat → Nat) (g : MH) (u : Option MV), j < oCt pt m c → zRf g → zF (fun a => a ≠ 49 ∧ a ≠ 61) h g → (∀ x, x < c → g.1 61 x = nI (τ x) ∧ g.1 49 x = nI (fO C τ x)) → (∀ x, c ≤ x → x < C.1 → g.1 61 x = nI (oDec pt m c j x) ∧ g.1 49 x = nI (fO C (oDec pt m c j) x)) → (¬ j + 1 < oCt pt m c → ∀ h', zRf h' → zF (fun a => a ≠ 49 ∧ a ≠ 61) h h' → Q (some (.inl (nI 0))) h') → (j + 1 < oCt pt m c → ∀ h', zRf h' → zF (fun a => a ≠ 49 ∧ a ≠ 61) h h' → (∀ x, x < c → h'.1 61 x = nI (τ x) ∧ h'.1 49 x = nI (fO C τ x)) → (∀ x, c ≤ x → x < C.1 → h'.1 61 x = nI (oDec pt m c (j + 1) x) ∧ h'.1 49 x = nI (fO C (oDec pt m c (j + 1)) x)) → Q (some (.inl (nI 1))) h') → J mX4_turnNext d 0 0 Q 0 0 3 [some (.inr (.inr 58)), some (.inr (.inr 48)), some (.inr (.inr 16)), some (.inl v), some (.inl (nI c)), u] [] g := by
    intro m
    induction m with
    | zero =>
      intro c hc j τ g u hj rg fg s1 s2 q0 q1
      have hAg : cAt C g 16 := hA.keep (fun k hk => fg.i (by omega))
      have ho : zokO g 16 2 := zo rg (by decide) rfl
      refine u_X4_turnNext_3 (d1' := 0) (d2' := 0) rg (by omega) (by omega) ?_
      simp (disch := omega) only [xle_t, xle_f, xlt_t, xlt_f, xeq_t, xeq_f, xle0_t, xle0_f, xlt0_f, x0lt_t, x0lt_f, x0le_t, xeq0_t, xeq0_f, xin, xem_f, xme_f, xlem_f, xlm_f, xml_t, xmle_t, nI_clamp, nI_add, pk_mul, pk_sub, zI_s, zI_k, zI_o, zL_s, zL_k, zL_o, zR_s, zR_k, zR_o, zIL, zIR, zIN, zLI, zLR, zLN, zRI, zRL, zRN, true_and, and_true, not_true_eq_false, not_false_eq_true, true_implies, false_implies, implies_true, forall_const, if_true, if_false, eq_self, false_and, and_false, implies_true, nI_l, ylle_t, ylle_f, xcl_t, xcl_f, ho, hAg.1]
      have hj' : j < 1 := hj
      exact q0 (by show ¬ j + 1 < 1; omega) g rg fg
    | succ m ih =>
      intro c hc j τ g u hj rg fg s1 s2 q0 q1
      have hAg : cAt C g 16 := hA.keep (fun k hk => fg.i (by omega))
      have ho : zokO g 16 2 := zo rg (by decide) rfl
      have hcn : c < C.1 := by omega
      have hdr := (hC.2 c hcn).2.2.2
      have e20 : g.1 (16 + 4) c = nI (C.2.2.2.2 c) := (hAg.2 c hcn).2.2.2
      have hb := xbit v (c := c) (by omega)
      rw [hv c (by omega)] at hb
      have ept : pt c = (decide (0 < C.2.2.2.2 c) && pUo P P.2.1 c) := by rw [← hpt]; rfl
      have eD : ∀ j x, oDec pt (m + 1) c j x = if x = c then (if pt c = true then j % 3 else 0) else oDec pt m (c + 1) (if pt c = true then j / 3 else j) x := fun _ _ => rfl
      have eC : oCt pt (m + 1) c = if pt c = true then 3 * oCt pt m (c + 1) else oCt pt m (c + 1) := rfl
      refine u_X4_turnNext_3 (d1' := 3) (d2' := 3) rg (by omega) (by omega) ?_
      by_cases p : pt c = true
      · have pd : 0 < C.2.2.2.2 c ∧ pUo P P.2.1 c = true := by
          rw [ept, Bool.and_eq_true, decide_eq_true_eq] at p
          exact p
        rw [if_pos p] at eC
        have hb2 : (((v >>> (nI c &&& 31)) &&& (nI 1)) = 0) = False := by rw [hb, pd.2]; exact eq_false (by decide)
        obtain ⟨t61, t49⟩ := s2 c (Nat.le_refl _) hcn
        rw [eD, if_pos rfl, if_pos p] at t61
        have hrem : nI (j % 3 + 1) - nI (j % 3 + 1) / nI 3 * nI 3 = nI ((j % 3 + 1) % 3) := pk_rem (by omega) (by omega) (by omega)
        -- what comes behind sparksOf
        have A : ∀ v5 : Int32, nI 100 + v5 = nI (oPct ((j % 3 + 1) % 3) (C.2.2.2.2 c)) → Con mX2_sparksOf 3 0 0 [.inr (.inr 16), .inl (nI c)] (zsI g 61 c (nI ((j % 3 + 1) % 3))) (zri fun (x : Int32) h' => J mX4_turnNext d 0 0 Q 0 0 100 [some (.inr (.inr 58)), some (.inr (.inr 48)), some (.inr (.inr 16)), some (.inl v), some (.inl (nI c)), some (.inl v5)] [.inl x, .inl (nI c), .inr (.inr 49)] h') := by
          intro v5 hv5
          refine c_sof (C := C) (h := zsI g 61 c (nI ((j % 3 + 1) % 3))) (d := 3) rg (hAg.keep (fun k hk => zI_o _ _ _ (by omega))) (zo rg (by decide) rfl) hC hcn (by omega) ?_
          have hz : zokA (zsI g 61 c (nI ((j % 3 + 1) % 3))) 49 20 (nI c) := zia rg (by decide) rfl (vp_in_nI (by omega) (by omega))
          refine u_X4_turnNext_100 rg ?_
          obtain ⟨b1, b2⟩ := oPct_b (s := (j % 3 + 1) % 3) hdr
          have hm := mp_b (cS_pos hC hcn) (cS_le hC hcn) b1 b2
          have ef : ∀ σ : Nat → Nat, σ c = (j % 3 + 1) % 3 → cS C c * oPct ((j % 3 + 1) % 3) (C.2.2.2.2 c) / 100 * 256 = fO C σ c := fun σ e => by
            unfold fO
            rw [if_pos hcn, e]
          rw [hv5]
          by_cases z : j % 3 = 2
          · have z0 : (j % 3 + 1) % 3 = 0 := by omega
            rw [z0] at hm b1 b2 ef ⊢
            rw [z0] at hz
            simp (disch := omega) only [xle_t, xle_f, xlt_t, xlt_f, xeq_t, xeq_f, xle0_t, xle0_f, xlt0_f, x0lt_t, x0lt_f, x0le_t, xeq0_t, xeq0_f, xin, xem_f, xme_f, xlem_f, xlm_f, xml_t, xmle_t, nI_clamp, nI_add, pk_mul, pk_sub, zI_s, zI_k, zI_o, zL_s, zL_k, zL_o, zR_s, zR_k, zR_o, zIL, zIR, zIN, zLI, zLR, zLN, zRI, zRL, zRN, true_and, and_true, not_true_eq_false, not_false_eq_true, true_implies, false_implies, implies_true, forall_const, if_true, if_false, eq_self, false_and, and_false, implies_true, nI_l, ylle_t, ylle_f, xcl_t, xcl_f, hz, pk_div]
            rw [ef (fun _ => 0) rfl]
            refine ih (c + 1) (by omega) (j / 3) (kU τ c 0) _ _ (by omega) rg (fg.trans ((zF_I _ _ _ (by omega)).trans (zF_I _ _ _ (by omega)))) (fun x hx => ?_) (fun x hx1 hx2 => ?_) (fun w => q0 (by omega)) (fun w h' r' f' y1 y2 => ?_)
            · by_cases y : x = c
              · rw [y, zI_o _ _ _ (by omega), zI_s, zI_s, kU_s]
                exact ⟨rfl, by rw [fOx (fun _ => 0) (kU τ c 0) c (kU_s _ _ _).symm]⟩
              · rw [zI_o _ _ _ (by omega), zI_k _ _ _ y, zI_k _ _ _ y, zI_o _ _ _ (by omega), kU_o _ _ y, fOx (kU τ c 0) τ x (kU_o _ _ y)]
                exact s1 x (by omega)
            · have := s2 x (by omega) hx2
              rw [zI_o _ _ _ (by omega), zI_k _ _ _ (by omega), zI_k _ _ _ (by omega), zI_o _ _ _ (by omega)]
              have e1 := eD j x
              rw [if_neg (by omega), if_pos p] at e1
              rw [← e1, fOx (oDec pt m (c + 1) (j / 3)) (oDec pt (m + 1) c j) x e1.symm]
              exact this
            · refine q1 (by omega) h' r' f' (fun x hx => ?_) (fun x hx1 hx2 => ?_)
              · have := y1 x (by omega)
                rw [kU_o _ _ (by omega), fOx (kU τ c 0) τ x (kU_o _ _ (by omega))] at this
                exact this
              · have e1 := eD (j + 1) x
                by_cases y : x = c
                · have := y1 c (by omega)
                  rw [kU_s, fOx (kU τ c 0) (oDec pt (m + 1) c (j + 1)) c (by rw [kU_s, eD, if_pos rfl, if_pos p]; omega)] at this
                  rw [y, eD, if_pos rfl, if_pos p, show (j + 1) % 3 = 0 by omega]
                  exact this
                · have := y2 x (by omega) hx2
                  rw [if_neg y, if_pos p, show (j + 1) / 3 = j / 3 + 1 by omega] at e1
                  rw [e1, fOx (oDec pt (m + 1) c (j + 1)) (oDec pt m (c + 1) (j / 3 + 1)) x e1]
                  exact this
          · have z1 : (j % 3 + 1) % 3 = j % 3 + 1 := by omega
            simp (disch := omega) only [xle_t, xle_f, xlt_t, xlt_f, xeq_t, xeq_f, xle0_t, xle0_f, xlt0_f, x0lt_t, x0lt_f, x0le_t, xeq0_t, xeq0_f, xin, xem_f, xme_f, xlem_f, xlm_f, xml_t, xmle_t, nI_clamp, nI_add, pk_mul, pk_sub, zI_s, zI_k, zI_o, zL_s, zL_k, zL_o, zR_s, zR_k, zR_o, zIL, zIR, zIN, zLI, zLR, zLN, zRI, zRL, zRN, true_and, and_true, not_true_eq_false, not_false_eq_true, true_implies, false_implies, implies_true, forall_const, if_true, if_false, eq_self, false_and, and_false, implies_true, nI_l, ylle_t, ylle_f, xcl_t, xcl_f, hz, pk_div]
            rw [ef (oDec pt (m + 1) c (j + 1)) (by rw [eD, if_pos rfl, if_pos p]; omega)]
            refine q1 (by omega) _ rg (fg.trans ((zF_I _ _ _ (by omega)).trans (zF_I _ _ _ (by omega)))) (fun x hx => ?_) (fun x hx1 hx2 => ?_)
            · rw [zI_o _ _ _ (by omega), zI_k _ _ _ (by omega), zI_k _ _ _ (by omega), zI_o _ _ _ (by omega)]
              exact s1 x hx
            · by_cases y : x = c
              · rw [y, zI_o _ _ _ (by omega), zI_s, zI_s, eD, if_pos rfl, if_pos p, show (j + 1) % 3 = (j % 3 + 1) % 3 by omega]
                exact ⟨rfl, rfl⟩
              · have := s2 x hx1 hx2
                have e1 := eD j x
                have e2 := eD (j + 1) x
                rw [if_neg y, if_pos p] at e1 e2
                rw [show (j + 1) / 3 = j / 3 by omega, ← e1] at e2
                rw [zI_o _ _ _ (by omega), zI_k _ _ _ y, zI_k _ _ _ y, zI_o _ _ _ (by omega), e2, fOx (oDec pt (m + 1) c (j + 1)) (oDec pt (m + 1) c j) x e2]
                exact this
        have hpc := pctI ((j % 3 + 1) % 3) (by omega) (C.2.2.2.2 c) (by omega)
        by_cases z2 : (j % 3 + 1) % 3 = 2
        · simp (disch := omega) only [xle_t, xle_f, xlt_t, xlt_f, xeq_t, xeq_f, xle0_t, xle0_f, xlt0_f, x0lt_t, x0lt_f, x0le_t, xeq0_t, xeq0_f, xin, xem_f, xme_f, xlem_f, xlm_f, xml_t, xmle_t, nI_clamp, nI_add, pk_mul, pk_sub, zI_s, zI_k, zI_o, zL_s, zL_k, zL_o, zR_s, zR_k, zR_o, zIL, zIR, zIN, zLI, zLR, zLN, zRI, zRL, zRN, true_and, and_true, not_true_eq_false, not_false_eq_true, true_implies, false_implies, implies_true, forall_const, if_true, if_false, eq_self, false_and, and_false, implies_true, nI_l, ylle_t, ylle_f, xcl_t, xcl_f, ho, hAg.1, e20, hb2, t61, hrem]
          exact A _ (hpc.1 z2)
        · simp (disch := omega) only [xle_t, xle_f, xlt_t, xlt_f, xeq_t, xeq_f, xle0_t, xle0_f, xlt0_f, x0lt_t, x0lt_f, x0le_t, xeq0_t, xeq0_f, xin, xem_f, xme_f, xlem_f, xlm_f, xml_t, xmle_t, nI_clamp, nI_add, pk_mul, pk_sub, zI_s, zI_k, zI_o, zL_s, zL_k, zL_o, zR_s, zR_k, zR_o, zIL, zIR, zIN, zLI, zLR, zLN, zRI, zRL, zRN, true_and, and_true, not_true_eq_false, not_false_eq_true, true_implies, false_implies, implies_true, forall_const, if_true, if_false, eq_self, false_and, and_false, implies_true, nI_l, ylle_t, ylle_f, xcl_t, xcl_f, ho, hAg.1, e20, hb2, t61, hrem]
          exact A _ (hpc.2 z2)
      · rw [if_neg p] at eC
        have nxt : ∀ u, J mX4_turnNext d 0 0 Q 0 0 3 [some (.inr (.inr 58)), some (.inr (.inr 48)), some (.inr (.inr 16)), some (.inl v), some (.inl (nI (c + 1))), u] [] g := by
          intro u
          rw [eC] at hj q0 q1
          have e0 := fun j => eD j c
          refine ih (c + 1) (by omega) j (kU τ c 0) g u hj rg fg (fun x hx => ?_) (fun x hx1 hx2 => ?_) q0 (fun w h' r' f' y1 y2 => q1 w h' r' f' (fun x hx => ?_) (fun x hx1 hx2 => ?_))
          · by_cases y : x = c
            · have := s2 c (Nat.le_refl _) hcn
              rw [eD, if_pos rfl, if_neg p, fOx (oDec pt (m + 1) c j) (kU τ c 0) c (by rw [kU_s, eD, if_pos rfl, if_neg p])] at this
              rw [y, kU_s]; exact this
            · rw [kU_o _ _ y, fOx (kU τ c 0) τ x (kU_o _ _ y)]; exact s1 x (by omega)
          · have := s2 x (by omega) hx2
            have e1 := eD j x
            rw [if_neg (by omega), if_neg p] at e1
            rw [← e1, fOx (oDec pt m (c + 1) j) (oDec pt (m + 1) c j) x e1.symm]; exact this
          · have := y1 x (by omega)
            rw [kU_o _ _ (by omega), fOx (kU τ c 0) τ x (kU_o _ _ (by omega))] at this
            exact this
          · by_cases y : x = c
            · have := y1 c (by omega)
              rw [kU_s, fOx (kU τ c 0) (oDec pt (m + 1) c (j + 1)) c (by rw [kU_s, eD, if_pos rfl, if_neg p])] at this
              rw [y, eD, if_pos rfl, if_neg p]; exact this
            · have := y2 x (by omega) hx2
              have e1 := eD (j + 1) x
              rw [if_neg y, if_neg p] at e1
              rw [e1, fOx (oDec pt (m + 1) c (j + 1)) (oDec pt m (c + 1) (j + 1)) x e1]; exact this
        by_cases dz : C.2.2.2.2 c = 0
        · simp (disch := omega) only [xle_t, xle_f, xlt_t, xlt_f, xeq_t, xeq_f, xle0_t, xle0_f, xlt0_f, x0lt_t, x0lt_f, x0le_t, xeq0_t, xeq0_f, xin, xem_f, xme_f, xlem_f, xlm_f, xml_t, xmle_t, nI_clamp, nI_add, pk_mul, pk_sub, zI_s, zI_k, zI_o, zL_s, zL_k, zL_o, zR_s, zR_k, zR_o, zIL, zIR, zIN, zLI, zLR, zLN, zRI, zRL, zRN, true_and, and_true, not_true_eq_false, not_false_eq_true, true_implies, false_implies, implies_true, forall_const, if_true, if_false, eq_self, false_and, and_false, implies_true, nI_l, ylle_t, ylle_f, xcl_t, xcl_f, ho, hAg.1, e20]
          exact nxt _
        · have pu : pUo P P.2.1 c = false := by
            cases z : pUo P P.2.1 c with
            | false => rfl
            | true => exact absurd (by rw [ept, z, decide_eq_true (show 0 < C.2.2.2.2 c by omega)]; rfl) p
          have hb2 : (((v >>> (nI c &&& 31)) &&& (nI 1)) = 0) = True := by rw [hb, pu]; exact eq_true rfl
          simp (disch := omega) only [xle_t, xle_f, xlt_t, xlt_f, xeq_t, xeq_f, xle0_t, xle0_f, xlt0_f, x0lt_t, x0lt_f, x0le_t, xeq0_t, xeq0_f, xin, xem_f, xme_f, xlem_f, xlm_f, xml_t, xmle_t, nI_clamp, nI_add, pk_mul, pk_sub, zI_s, zI_k, zI_o, zL_s, zL_k, zL_o, zR_s, zR_k, zR_o, zIL, zIR, zIN, zLI, zLR, zLN, zRI, zRL, zRN, true_and, and_true, not_true_eq_false, not_false_eq_true, true_implies, false_implies, implies_true, forall_const, if_true, if_false, eq_self, false_and, and_false, implies_true, nI_l, ylle_t, ylle_f, xcl_t, xcl_f, ho, hAg.1, e20, hb2]
          exact nxt _
  refine L C.1 0 (by omega) j (fun _ => 0) h none hj hr zF.rfl (fun x hx => absurd hx (Nat.not_lt_zero _)) (fun x _ hx => hs x hx) k0 (fun w h' r' f' _ y2 => k1 w h' r' f' (fun x hx => y2 x (Nat.zero_le _) hx))
