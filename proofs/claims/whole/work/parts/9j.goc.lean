/-! ===== ways in the class: giveNext, follow, go ===== -/
theorem zok66 {h : MH} (hr : zRf h) {i c : Nat} (hi : i < 5) (hc : c < 4) : zokA h (66 + i) 20 (nI c) = True := eq_true (zia hr (n := 4) (by omega) (by
  rcases (show i = 0 ∨ i = 1 ∨ i = 2 ∨ i = 3 ∨ i = 4 by omega) with rfl | rfl | rfl | rfl | rfl <;> rfl) (vp_in_nI (by omega) (by omega)))
theorem zok72 {h : MH} (hr : zRf h) {i c : Nat} (hi : i < 5) (hc : c < 4) : zokA h (72 + i) 20 (nI c) = True := eq_true (zia hr (n := 4) (by omega) (by
  rcases (show i = 0 ∨ i = 1 ∨ i = 2 ∨ i = 3 ∨ i = 4 by omega) with rfl | rfl | rfl | rfl | rfl <;> rfl) (vp_in_nI (by omega) (by omega)))
theorem eI_s (m : Nat) : eI (m + 1) = nI m := if_neg (by omega)
theorem eI_0 : eI 0 = -(nI 1) := if_pos rfl
theorem nI_dec (m : Nat) : nI m + -(nI 1) = eI m := by
  cases m with
  | zero => rfl
  | succ m => rw [eI_s]; exact pk_m1 m
theorem xm_lt0 : (-(nI 1) < (0 : Int32)) = True := eq_true (by decide)
/-- the class's rows hold the way to a -/
def wC (n : Nat) (out : Bool) (a : WN) (h : MH) : Prop := h.1 62 0 = nI n ∧ h.1 62 1 = bI out ∧ ∀ i, i ≤ a.1 → h.1 64 i = nI (a.2.2.2 i) ∧ ∀ c, c < n → h.1 (66 + i) c = nI (a.2.1 i c) ∧ h.1 (72 + i) c = nI (a.2.2.1 i c)
/-- what stays while the ways behind l moments are gone -/
def wFr (w l : Nat) (h h' : MH) : Prop := zF (fun a => a ≠ 62 ∧ a ≠ 64 ∧ ¬ (66 + l < a ∧ a ≤ 70) ∧ ¬ (72 + l < a ∧ a ≤ 76) ∧ a ≠ w) h h' ∧ (∀ k, k < 6 ∨ 9 < k → h'.1 62 k = h.1 62 k) ∧ (∀ i, i ≤ l → h'.1 64 i = h.1 64 i) ∧ h'.2.2.1 62 = h.2.2.1 62
theorem wFr.rfl {w l : Nat} {h : MH} : wFr w l h h := ⟨zF.rfl, fun _ _ => Eq.refl _, fun _ _ => Eq.refl _, Eq.refl _⟩
theorem wFr.trans {w l : Nat} {h h1 h2 : MH} (a : wFr w l h h1) (b : wFr w l h1 h2) : wFr w l h h2 := ⟨a.1.trans b.1, fun k q => (b.2.1 k q).trans (a.2.1 k q), fun i q => (b.2.2.1 i q).trans (a.2.2.1 i q), b.2.2.2.trans a.2.2.2⟩
theorem wFr.up {w l : Nat} {h h1 : MH} (a : wFr w (l + 1) h h1) : wFr w l h h1 := ⟨a.1.weak (fun b q => by omega), a.2.1, fun i q => a.2.2.1 i (by omega), a.2.2.2⟩
theorem wC.keep {n w l : Nat} {out : Bool} {a : WN} {h h' : MH} (hw : wC n out a h) (f : wFr w l h h') (hl : a.1 ≤ l) (h4 : l ≤ 4) (hw9 : w = 62 ∨ 76 < w) : wC n out a h' := by
  refine ⟨(f.2.1 0 (by omega)).trans hw.1, (f.2.1 1 (by omega)).trans hw.2.1, fun i hi => ?_⟩
  obtain ⟨q1, q2⟩ := hw.2.2 i hi
  refine ⟨(f.2.2.1 i (by omega)).trans q1, fun c hc => ?_⟩
  rw [f.1.i (a := 66 + i) (by omega), f.1.i (a := 72 + i) (by omega)]
  exact q2 c hc
theorem wLo_t (x w : Nat → Nat) (c : Nat) : wLo true x w c = 0 := if_pos (Or.inl rfl)
theorem wLo_z {out : Bool} {x w : Nat → Nat} {c : Nat} (h : x c = 0) : wLo out x w c = 0 := if_pos (Or.inr h)
theorem wLo_f {x w : Nat → Nat} {c : Nat} (h : x c ≠ 0) : wLo false x w c = w c := if_neg (fun q => q.elim (fun e => by cases e) h)
theorem wI_x {n : Nat} {a : WN} (hI : wI n a) {c : Nat} (hc : c < n) : a.2.1 a.1 c ≤ 368640 := by
  have := fb_sm_part (a.2.1 a.1) hc
  have := hI.2.2.2
  omega
/-- where row g is put, as giveNext leaves it once the last n - m are full -/
theorem c_gvn {n : Nat} {out : Bool} {a : WN} {g : Nat → Nat} {h : MH} {d : Nat} {Q : Option MV → MH → Prop} (hr : zRf h) (hI : wI n a) (hl : a.1 < 4) (hw : wC n out a h) (hg : ∀ c, c < n → h.1 (72 + (a.1 + 1)) c = nI (g c)) (hok : wOk n out (a.2.1 a.1) (a.2.2.1 a.1) g = true) (hd : 1 ≤ d)
    (k1 : ∀ c, c < n → (∀ i, c < i → i < n → g i = wHi (a.2.1 a.1) i) → g c < wHi (a.2.1 a.1) c → ∀ h', zRf h' → zF (fun b => b ≠ 72 + (a.1 + 1)) h h' → (∀ i, i < n → h'.1 (72 + (a.1 + 1)) i = nI (wNx (wLo out (a.2.1 a.1) (a.2.2.1 a.1)) g c i)) → Q (some (.inl (nI 1))) h')
    (k0 : (∀ i, i < n → g i = wHi (a.2.1 a.1) i) → ∀ h', zRf h' → zF (fun b => b ≠ 72 + (a.1 + 1)) h h' → Q (some (.inl (nI 0))) h') : Con mX9_giveNext d 0 0 [.inr (.inr 62), .inl (nI a.1)] h Q := by
  obtain ⟨w0, w1, w2⟩ := hw
  obtain ⟨wm, wx⟩ := w2 a.1 (Nat.le_refl _)
  have hn := hI.1
  have hok' := wOk_i.mp hok
  have L : ∀ m, m ≤ n → (∀ i, m ≤ i → i < n → g i = wHi (a.2.1 a.1) i) → ∀ h', zRf h' → zF (fun b => b ≠ 72 + (a.1 + 1)) h h' → (∀ i, i < n → h'.1 (72 + (a.1 + 1)) i = nI (if i < m then g i else wLo out (a.2.1 a.1) (a.2.2.1 a.1) i)) → J mX9_giveNext d 0 0 Q 0 0 16 [some (.inr (.inr 62)), some (.inl (nI a.1)), some (.inr (.inr (72 + (a.1 + 1)))), some (.inl (eI m))] [] h' := by
    intro m
    induction m with
    | zero =>
      intro _ hf h' r' f' _
      refine u_X9_giveNext_16 r' hd ?_
      rw [eI_0]
      simp (disch := omega) only [xle_t, xle_f, xlt_t, xlt_f, xeq_t, xeq_f, xle0_t, xle0_f, xlt0_f, x0lt_t, x0lt_f, x0le_t, xeq0_t, xeq0_f, xin, xem_f, xme_f, xlem_f, xlm_f, xml_t, xmle_t, nI_clamp, nI_add, pk_mul, pk_sub, zI_s, zI_k, zI_o, zL_s, zL_k, zL_o, zR_s, zR_k, zR_o, zIL, zIR, zIN, zLI, zLR, zLN, zRI, zRL, zRN, true_and, and_true, not_true_eq_false, not_false_eq_true, true_implies, false_implies, implies_true, forall_const, if_true, if_false, eq_self, false_and, and_false, implies_true, nI_l, ylle_t, ylle_f, xcl_t, xcl_f, xm_lt0]
      exact k0 (fun i hi => hf i (by omega) hi) h' r' f'
    | succ m ih =>
      intro hm hf h' r' f' g'
      have hm' : m < n := by omega
      have e0 : h'.1 62 0 = nI n := by rw [f'.i (by omega)]; exact w0
      have e1 : h'.1 62 1 = bI out := by rw [f'.i (by omega)]; exact w1
      have ex : h'.1 (66 + a.1) m = nI (a.2.1 a.1 m) := by rw [f'.i (by omega)]; exact (wx m hm').1
      have ef : h'.1 (72 + a.1) m = nI (a.2.2.1 a.1 m) := by rw [f'.i (by omega)]; exact (wx m hm').2
      have eg := g' m hm'
      rw [if_pos (by omega)] at eg
      have okm := hok' m hm'
      have bx := wI_x hI hm'
      have bf := (hI.2.2.1 m hm').2
      refine u_X9_giveNext_16 r' hd ?_
      rw [eI_s]
      have nxt : g m = wHi (a.2.1 a.1) m → ∀ v, v = wLo out (a.2.1 a.1) (a.2.2.1 a.1) m → J mX9_giveNext d 0 0 Q 0 0 16 [some (.inr (.inr 62)), some (.inl (nI a.1)), some (.inr (.inr (72 + (a.1 + 1)))), some (.inl (eI m))] [] (zsI h' (72 + (a.1 + 1)) m (nI v)) := by
        intro hgm v hv
        refine ih (by omega) (fun i q1 q2 => ?_) _ r' (f'.trans (zF_I _ _ _ (by omega))) (fun i hi => ?_)
        · by_cases z : i = m
          · rw [z]; exact hgm
          · exact hf i (by omega) q2
        · by_cases z : i = m
          · rw [z, zI_s, if_neg (by omega), hv]
          · rw [zI_k _ _ _ z, g' i hi]
            by_cases y : i < m
            · rw [if_pos (by omega), if_pos y]
            · rw [if_neg (by omega), if_neg y]
      rcases Nat.eq_zero_or_pos (a.2.1 a.1 m) with x0 | x0
      · have hh : wHi (a.2.1 a.1) m = 0 := if_pos x0
        have gm : g m = wHi (a.2.1 a.1) m := by omega
        cases out with
        | true =>
          rw [show bI true = nI 1 from rfl] at e1
          simp (disch := omega) only [xle_t, xle_f, xlt_t, xlt_f, xeq_t, xeq_f, xle0_t, xle0_f, xlt0_f, x0lt_t, x0lt_f, x0le_t, xeq0_t, xeq0_f, xin, xem_f, xme_f, xlem_f, xlm_f, xml_t, xmle_t, nI_clamp, nI_add, pk_mul, pk_sub, zI_s, zI_k, zI_o, zL_s, zL_k, zL_o, zR_s, zR_k, zR_o, zIL, zIR, zIN, zLI, zLR, zLN, zRI, zRL, zRN, true_and, and_true, not_true_eq_false, not_false_eq_true, true_implies, false_implies, implies_true, forall_const, if_true, if_false, eq_self, false_and, and_false, implies_true, nI_l, ylle_t, ylle_f, xcl_t, xcl_f, ex, e1, x0, zok66 r', zok72 r', nI_dec]
          exact nxt gm 0 (wLo_z x0).symm
        | false =>
          rw [show bI false = nI 0 from rfl] at e1
          simp (disch := omega) only [xle_t, xle_f, xlt_t, xlt_f, xeq_t, xeq_f, xle0_t, xle0_f, xlt0_f, x0lt_t, x0lt_f, x0le_t, xeq0_t, xeq0_f, xin, xem_f, xme_f, xlem_f, xlm_f, xml_t, xmle_t, nI_clamp, nI_add, pk_mul, pk_sub, zI_s, zI_k, zI_o, zL_s, zL_k, zL_o, zR_s, zR_k, zR_o, zIL, zIR, zIN, zLI, zLR, zLN, zRI, zRL, zRN, true_and, and_true, not_true_eq_false, not_false_eq_true, true_implies, false_implies, implies_true, forall_const, if_true, if_false, eq_self, false_and, and_false, implies_true, nI_l, ylle_t, ylle_f, xcl_t, xcl_f, ex, e1, x0, zok66 r', zok72 r', nI_dec]
          exact nxt gm 0 (wLo_z x0).symm
      · have hh : wHi (a.2.1 a.1) m = 2 := if_neg (by omega)
        rcases Nat.lt_or_ge (g m) 2 with g2 | g2
        · simp (disch := omega) only [xle_t, xle_f, xlt_t, xlt_f, xeq_t, xeq_f, xle0_t, xle0_f, xlt0_f, x0lt_t, x0lt_f, x0le_t, xeq0_t, xeq0_f, xin, xem_f, xme_f, xlem_f, xlm_f, xml_t, xmle_t, nI_clamp, nI_add, pk_mul, pk_sub, zI_s, zI_k, zI_o, zL_s, zL_k, zL_o, zR_s, zR_k, zR_o, zIL, zIR, zIN, zLI, zLR, zLN, zRI, zRL, zRN, true_and, and_true, not_true_eq_false, not_false_eq_true, true_implies, false_implies, implies_true, forall_const, if_true, if_false, eq_self, false_and, and_false, implies_true, nI_l, ylle_t, ylle_f, xcl_t, xcl_f, ex, eg, zok66 r', zok72 r']
          refine k1 m hm' (fun i q1 q2 => hf i (by omega) q2) (by omega) _ r' (f'.trans (zF_I _ _ _ (by omega))) (fun i hi => ?_)
          unfold wNx
          by_cases z : i = m
          · rw [z, zI_s, if_neg (by omega), if_pos rfl]
          · rw [zI_k _ _ _ z, g' i hi]
            by_cases y : i < m
            · rw [if_pos (by omega), if_pos y]
            · rw [if_neg (by omega), if_neg y, if_neg z]
        · have gm : g m = wHi (a.2.1 a.1) m := by omega
          cases out with
          | true =>
            rw [show bI true = nI 1 from rfl] at e1
            simp (disch := omega) only [xle_t, xle_f, xlt_t, xlt_f, xeq_t, xeq_f, xle0_t, xle0_f, xlt0_f, x0lt_t, x0lt_f, x0le_t, xeq0_t, xeq0_f, xin, xem_f, xme_f, xlem_f, xlm_f, xml_t, xmle_t, nI_clamp, nI_add, pk_mul, pk_sub, zI_s, zI_k, zI_o, zL_s, zL_k, zL_o, zR_s, zR_k, zR_o, zIL, zIR, zIN, zLI, zLR, zLN, zRI, zRL, zRN, true_and, and_true, not_true_eq_false, not_false_eq_true, true_implies, false_implies, implies_true, forall_const, if_true, if_false, eq_self, false_and, and_false, implies_true, nI_l, ylle_t, ylle_f, xcl_t, xcl_f, ex, e1, eg, zok66 r', zok72 r', nI_dec]
            exact nxt gm 0 (wLo_t _ _ _).symm
          | false =>
            rw [show bI false = nI 0 from rfl] at e1
            simp (disch := omega) only [xle_t, xle_f, xlt_t, xlt_f, xeq_t, xeq_f, xle0_t, xle0_f, xlt0_f, x0lt_t, x0lt_f, x0le_t, xeq0_t, xeq0_f, xin, xem_f, xme_f, xlem_f, xlm_f, xml_t, xmle_t, nI_clamp, nI_add, pk_mul, pk_sub, zI_s, zI_k, zI_o, zL_s, zL_k, zL_o, zR_s, zR_k, zR_o, zIL, zIR, zIN, zLI, zLR, zLN, zRI, zRL, zRN, true_and, and_true, not_true_eq_false, not_false_eq_true, true_implies, false_implies, implies_true, forall_const, if_true, if_false, eq_self, false_and, and_false, implies_true, nI_l, ylle_t, ylle_f, xcl_t, xcl_f, ex, e1, eg, ef, zok66 r', zok72 r', nI_dec]
            exact nxt gm _ (wLo_f (by omega)).symm
  refine u_X9_giveNext hr ?_
  simp (disch := omega) only [xle_t, xle_f, xlt_t, xlt_f, xeq_t, xeq_f, xle0_t, xle0_f, xlt0_f, x0lt_t, x0lt_f, x0le_t, xeq0_t, xeq0_f, xin, xem_f, xme_f, xlem_f, xlm_f, xml_t, xmle_t, nI_clamp, nI_add, pk_mul, pk_sub, zI_s, zI_k, zI_o, zL_s, zL_k, zL_o, zR_s, zR_k, zR_o, zIL, zIR, zIN, zLI, zLR, zLN, zRI, zRL, zRN, true_and, and_true, not_true_eq_false, not_false_eq_true, true_implies, false_implies, implies_true, forall_const, if_true, if_false, eq_self, false_and, and_false, implies_true, nI_l, ylle_t, ylle_f, xcl_t, xcl_f, w0]
  have e9 : nI n - nI 1 = eI n := by
    cases n with
    | zero => rfl
    | succ n => rw [eI_s, pk_sub (by omega)]; rfl
  rw [e9]
  exact L n (Nat.le_refl _) (fun i q1 q2 => by omega) h hr zF.rfl (fun i hi => by rw [if_pos hi]; exact hg i hi)
