/-! ===== ways in the class: one time sought ===== -/
abbrev SK : Type := Option (Nat × Nat × (Nat → Nat → Nat))
def sCo (n g A : Nat) (b : WN) : Nat := if g = 2 then wLt n b else A - fb_sm (b.2.1 b.1) n
def sU (n g T A : Nat) (s : SK) (b : WN) : SK := if b.2.2.2 b.1 = T then (match s with
  | none => some (sCo n g A b, b.1, b.2.2.1)
  | some r => if g ≠ 1 ∧ sCo n g A b < r.1 then some (sCo n g A b, b.1, b.2.2.1) else some r) else s
def sOv (g : Nat) (s : SK) : Bool := decide (g = 1) && s.isSome
def sR (n g : Nat) (s : SK) (h : MH) : Prop := h.1 62 7 = bI (sOv g s) ∧ match s with
  | none => h.1 62 6 = nI 0
  | some (be, r, F) => h.1 62 6 = nI 1 ∧ h.1 62 8 = nI be ∧ be ≤ 400000 ∧ h.1 62 9 = nI r ∧ r ≤ 4 ∧ (g = 1 → ∀ i, i ≤ r → ∀ c, c < n → h.1 (72 + i) c = nI (F i c))
def sT (g T A : Nat) (h : MH) : Prop := h.1 62 4 = nI g ∧ h.1 62 5 = nI T ∧ h.1 62 2 = nI A
theorem sT.keep {g T A w l : Nat} {h h' : MH} (q : sT g T A h) (f : wFr w l h h') : sT g T A h' := ⟨(f.2.1 4 (by omega)).trans q.1, (f.2.1 5 (by omega)).trans q.2.1, (f.2.1 2 (by omega)).trans q.2.2⟩
theorem sU_ne {n g T A : Nat} {s : SK} {b : WN} (h : b.2.2.2 b.1 ≠ T) : sU n g T A s b = s := if_neg h
theorem sU_all {n g T A : Nat} {s : SK} : ∀ {l : List WN}, (∀ b, b ∈ l → sU n g T A s b = s) → l.foldl (sU n g T A) s = s
  | [], _ => rfl
  | b :: l, h => by
    rw [List.foldl_cons, h b List.mem_cons_self]
    exact sU_all (fun b' hb => h b' (List.mem_cons_of_mem _ hb))
theorem sU_ov {n g T A : Nat} (s : SK) (b : WN) (h : sOv g s = true) : sU n g T A s b = s := by
  unfold sOv at h
  rw [Bool.and_eq_true, decide_eq_true_eq] at h
  obtain ⟨h1, h2⟩ := h
  unfold sU
  split
  · cases s with
    | none => cases h2
    | some r => exact if_neg (fun q => q.1 h1)
  · rfl
theorem sR_v {n g : Nat} (s : SK) (h : MH) (q : sR n g s h) : h.1 62 7 = bI (sOv g s) := q.1
theorem sR_s {n g : Nat} (s : SK) (h h' : MH) (hv : sOv g s = false) (q : sR n g s h) (f : zF (fun b => b ≠ 64 ∧ (b < 66 ∨ 76 < b)) h h') : sR n g s h' := by
  have e := f.i (a := 62) (by omega)
  unfold sR at q ⊢
  rw [e]
  refine ⟨q.1, ?_⟩
  rcases s with _ | ⟨be, r, F⟩
  · exact q.2
  · obtain ⟨_, q1, q2, q3, q4, q5, q6⟩ := q
    refine ⟨q1, q2, q3, q4, q5, fun z => ?_⟩
    unfold sOv at hv
    rw [decide_eq_true z] at hv
    cases hv
theorem wLt_le {n : Nat} {b : WN} (hn : n ≤ 4) (hl : b.1 ≤ 4) (hF : ∀ i, i ≤ b.1 → ∀ c, c < n → b.2.2.1 i c ≤ 2) : wLt n b ≤ 32 := by
  have h1 : wLt n b ≤ b.1 * (n * 2) := fb_sm_bound (fun i hi => fb_sm_bound (fun c hc => by have := hF (i + 1) (by omega) c hc; omega))
  have h2 : b.1 * (n * 2) ≤ 4 * (4 * 2) := Nat.mul_le_mul hl (by omega)
  omega
theorem xpos2 {a b : Nat} (ha : a ≤ 2) (hb : b ≤ 2) : (if nI 0 < nI a - nI b then nI a - nI b else nI 0) = nI (a - b) := by
  by_cases z : b ≤ a
  · rw [pk_sub z]
    by_cases y : 0 < a - b
    · rw [if_pos (nI_lt y (by omega))]
    · rw [if_neg (nI_nlt (by omega) (by omega)), show a - b = 0 by omega]
  · rw [show a - b = 0 by omega]
    have := pk_sneg (a := a) (b := b) (by omega) (by omega)
    refine if_neg (fun q => ?_)
    have e : nI 0 = (0 : Int32) := rfl
    rw [e] at q
    exact Int32.lt_irrefl (Int32.lt_trans q this)
/-- the flames given are few at every level -/
def wFw (n : Nat) (b : WN) : Prop := ∀ i, i ≤ b.1 → ∀ c, c < n → b.2.2.1 i c ≤ 2
theorem wFw_ch {n : Nat} {out : Bool} {a : WN} {W : Nat} (h : wFw n a) (hok : wOk n out (a.2.1 a.1) (a.2.2.1 a.1) (wG n W) = true) : wFw n (wCh n a W) := fun i hi c hc => by
  rw [wCh_L] at hi
  by_cases z : i = a.1 + 1
  · rw [z, wCh_F]; have := wOk_3 hok c hc; omega
  · rw [wCh_Fo (by omega)]; exact h i (by omega) c hc
theorem c_nfl {n : Nat} {out : Bool} {a : WN} {W : Nat} {h : MH} {d : Nat} {Q : Option MV → MH → Prop} (hr : zRf h) (hI : wI n a) (hl : a.1 < 4) (hF : wFw n a) (hok : wOk n out (a.2.1 a.1) (a.2.2.1 a.1) (wG n W) = true) (hw : wC n out (wCh n a W) h) (hd : 1 ≤ d) (kk : Q (some (.inl (nI (fb_sm (fun c => wG n W c - a.2.2.1 a.1 c) n)))) h) : Con mX9_newFlames d 0 0 [.inr (.inr 62), .inl (nI (a.1 + 1))] h Q := by
  obtain ⟨w0, w1, w2⟩ := hw
  have hn := hI.1
  have x1 := (w2 (a.1 + 1) (Nat.le_refl _)).2
  have x2 := (w2 a.1 (by rw [wCh_L]; omega)).2
  refine u_X9_newFlames ?_
  have L : ∀ m c, c + m = n → J mX9_newFlames d 0 0 Q 0 0 4 [some (.inr (.inr 62)), some (.inl (nI (a.1 + 1))), some (.inl (nI (fb_sm (fun c => wG n W c - a.2.2.1 a.1 c) c))), some (.inl (nI c))] [] h := by
    intro m
    induction m with
    | zero =>
      intro c hc
      obtain rfl : c = n := by omega
      refine u_X9_newFlames_4 hr hd ?_
      simp (disch := omega) only [xle_t, xle_f, xlt_t, xlt_f, xeq_t, xeq_f, xle0_t, xle0_f, xlt0_f, x0lt_t, x0lt_f, x0le_t, xeq0_t, xeq0_f, xin, xem_f, xme_f, xlem_f, xlm_f, xml_t, xmle_t, nI_clamp, nI_add, pk_mul, pk_sub, zI_s, zI_k, zI_o, zL_s, zL_k, zL_o, zR_s, zR_k, zR_o, zIL, zIR, zIN, zLI, zLR, zLN, zRI, zRL, zRN, true_and, and_true, not_true_eq_false, not_false_eq_true, true_implies, false_implies, implies_true, forall_const, if_true, if_false, eq_self, false_and, and_false, implies_true, nI_l, ylle_t, ylle_f, xcl_t, xcl_f, w0]
      exact kk
    | succ m ih =>
      intro c hc
      have hc' : c < n := by omega
      have e1 := (x1 c hc').2
      have e2 := (x2 c hc').2
      rw [wCh_F] at e1
      rw [wCh_Fo (Nat.le_refl _)] at e2
      have b1 := wOk_3 hok c hc'
      have b2 := hF a.1 (Nat.le_refl _) c hc'
      refine u_X9_newFlames_4 hr hd ?_
      simp (disch := omega) only [xle_t, xle_f, xlt_t, xlt_f, xeq_t, xeq_f, xle0_t, xle0_f, xlt0_f, x0lt_t, x0lt_f, x0le_t, xeq0_t, xeq0_f, xin, xem_f, xme_f, xlem_f, xlm_f, xml_t, xmle_t, nI_clamp, nI_add, pk_mul, pk_sub, zI_s, zI_k, zI_o, zL_s, zL_k, zL_o, zR_s, zR_k, zR_o, zIL, zIR, zIN, zLI, zLR, zLN, zRI, zRL, zRN, true_and, and_true, not_true_eq_false, not_false_eq_true, true_implies, false_implies, implies_true, forall_const, if_true, if_false, eq_self, false_and, and_false, implies_true, nI_l, ylle_t, ylle_f, xcl_t, xcl_f, w0, e1, e2, zok72 hr, show a.1 + 1 - 1 = a.1 from rfl]
      rw [xpos2 (by omega) (by omega), nI_add]
      exact ih (c + 1) (by omega)
  exact L n 0 (by omega)
theorem arr_0 {d : Nat} {Q : Option MV → MH → Prop} {ls : List (Option MV)} {h : MH} (k : J mX9_arrive d 0 0 Q 0 0 40 ls [] h) : J mX9_arrive d 0 0 Q 0 0 4 ls [.inl (nI 0)] h := s_lookup dX9_arrive_4 (by decide) (off := 36) (by decide) (tgt := 40) (by decide) k
theorem arr_4 {d : Nat} {Q : Option MV → MH → Prop} {ls : List (Option MV)} {h : MH} (k : J mX9_arrive d 0 0 Q 0 0 63 ls [] h) : J mX9_arrive d 0 0 Q 0 0 4 ls [.inl (nI 4)] h := s_lookup dX9_arrive_4 (by decide) (off := 59) (by decide) (tgt := 63) (by decide) k
theorem arr_5 {d : Nat} {Q : Option MV → MH → Prop} {ls : List (Option MV)} {h : MH} (k : J mX9_arrive d 0 0 Q 0 0 94 ls [] h) : J mX9_arrive d 0 0 Q 0 0 4 ls [.inl (nI 5)] h := s_lookup dX9_arrive_4 (by decide) (off := 90) (by decide) (tgt := 94) (by decide) k
theorem arr_s {d g : Nat} {Q : Option MV → MH → Prop} {ls : List (Option MV)} {h : MH} (hg : g = 1 ∨ g = 2 ∨ g = 3) (k : J mX9_arrive d 0 0 Q 0 0 104 ls [] h) : J mX9_arrive d 0 0 Q 0 0 4 ls [.inl (nI g)] h := by
  rcases hg with rfl | rfl | rfl
  · exact s_lookup dX9_arrive_4 (by decide) (off := 100) (by decide) (tgt := 104) (by decide) k
  · exact s_lookup dX9_arrive_4 (by decide) (off := 100) (by decide) (tgt := 104) (by decide) k
  · exact s_lookup dX9_arrive_4 (by decide) (off := 100) (by decide) (tgt := 104) (by decide) k
