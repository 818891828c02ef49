/-! ===== log, nearly, missed, stolen ===== -/
def fHd (l : List Nat) (s : Nat) (f : Nat → Int64) : Nat → Nat → Nat → (Nat → Bool) → Option (Nat → Bool)
  | 0, _, _, T => some T
  | m + 1, i, k, T => match fFst (fun j => fNr (f i) s (l.getD j 0)) (l.length - k) k with
    | none => none
    | some j => fHd l s f m (i + 1) (j + 1) (kU T j true)
theorem fHd_s (l : List Nat) (s : Nat) (f : Nat → Int64) (m i k : Nat) (T : Nat → Bool) : fHd l s f (m + 1) i k T = match fFst (fun j => fNr (f i) s (l.getD j 0)) (l.length - k) k with
    | none => none
    | some j => fHd l s f m (i + 1) (j + 1) (kU T j true) := rfl
def fHr (l : List Nat) (s n : Nat) (f : Nat → Int64) : Option (Nat → Bool) := fHd l s f n 0 0 (fun _ => false)
theorem c_heard {R : RS} {h : MH} {d r n s : Nat} {f : Nat → Int64} {Q : Option MV → MH → Prop} (hr : zRf h) (hT : kT R.2 h) (h40 : R.2.1.length ≤ 40) (hb : ∀ j, j < R.2.1.length → R.2.1.getD j 0 ≤ 400000000) (hq : r < 4) (hn : n ≤ 40) (b2 : h.1 (103 + 2 * r) 2 = nI n) (b3 : ∀ i, i < n → h.2.1 (104 + 2 * r) i = f i) (hs : s < 2 ^ 31) (hd : 2 ≤ d) (k0 : fHr R.2.1 s n f = none → Q (some (.inr (.inl (-1 : Int64)))) h) (k1 : ∀ T w, fHr R.2.1 s n f = some T → (∀ i, i < 64 → w.toBitVec.getLsbD i = T i) → ((lg_cmp w (-1 : Int64) = 0) = False) → Q (some (.inr (.inl w))) h) : Con mX10_heard d 0 0 [.inr (.inr 1), .inr (.inr (103 + 2 * r)), .inl (nI s)] h Q := by
  refine u_X10_heard ?_
  have ho7 := zrw' hr hq
  have L : ∀ m i k, i + m = n → k ≤ R.2.1.length → ∀ (w : Int64) (T : Nat → Bool) (u : Option MV), (∀ i, i < 64 → w.toBitVec.getLsbD i = T i) → (∀ i, R.2.1.length ≤ i → T i = false) → fHr R.2.1 s n f = fHd R.2.1 s f m i k T → J mX10_heard d 0 0 Q 0 0 8 [some (.inr (.inr 1)), some (.inr (.inr (103 + 2 * r))), some (.inl (nI s)), some (.inr (.inl w)), none, some (.inl (nI k)), some (.inl (nI i)), u] [] h := by
    intro m
    induction m with
    | zero =>
      intro i k hi hk w T u hw hT2 e
      refine u_X10_heard_8 (d1' := 0) hr (by omega) ?_
      simp (disch := omega) only [xle_t, xle_f, xlt_t, xlt_f, xeq_t, xeq_f, xle0_t, xle0_f, xlt0_f, x0lt_t, x0lt_f, x0le_t, xeq0_t, xeq0_f, xin, xem_f, xme_f, xlem_f, xlm_f, xml_t, xmle_t, nI_clamp, nI_add, pk_mul, pk_sub, zI_s, zI_k, zI_o, zL_s, zL_k, zL_o, zR_s, zR_k, zR_o, zIL, zIR, zIN, zLI, zLR, zLN, zRI, zRL, zRN, true_and, and_true, not_true_eq_false, not_false_eq_true, true_implies, false_implies, implies_true, forall_const, if_true, if_false, eq_self, false_and, and_false, implies_true, nI_l, ylle_t, ylle_f, xcl_t, xcl_f, ho7, b2]
      refine k1 T w e hw (eq_false ?_)
      rw [lg_cmp_eq]
      intro z
      have c := hw 63 (by omega)
      rw [z, hT2 63 (by omega)] at c
      exact absurd c (by decide)
    | succ m ih =>
      intro i k hi hk w T u hw hT2 e
      have e3 : h.2.1 (103 + 2 * r + 1) i = f i := by rw [show 103 + 2 * r + 1 = 104 + 2 * r by omega]; exact b3 i (by omega)
      refine u_X10_heard_8 (d1' := 1) hr (by omega) ?_
      simp (disch := omega) only [xle_t, xle_f, xlt_t, xlt_f, xeq_t, xeq_f, xle0_t, xle0_f, xlt0_f, x0lt_t, x0lt_f, x0le_t, xeq0_t, xeq0_f, xin, xem_f, xme_f, xlem_f, xlm_f, xml_t, xmle_t, nI_clamp, nI_add, pk_mul, pk_sub, zI_s, zI_k, zI_o, zL_s, zL_k, zL_o, zR_s, zR_k, zR_o, zIL, zIR, zIN, zLI, zLR, zLN, zRI, zRL, zRN, true_and, and_true, not_true_eq_false, not_false_eq_true, true_implies, false_implies, implies_true, forall_const, if_true, if_false, eq_self, false_and, and_false, implies_true, nI_l, ylle_t, ylle_f, xcl_t, xcl_f, ho7, b2, e3]
      refine c_near hr hT h40 hb hs hk (by omega) ?_
      refine u_X10_heard_34 ?_
      rw [fHd_s] at e
      cases hf : fFst (fun j => fNr (f i) s (R.2.1.getD j 0)) (R.2.1.length - k) k with
      | none =>
        rw [hf] at e
        simp (disch := omega) only [xle_t, xle_f, xlt_t, xlt_f, xeq_t, xeq_f, xle0_t, xle0_f, xlt0_f, x0lt_t, x0lt_f, x0le_t, xeq0_t, xeq0_f, xin, xem_f, xme_f, xlem_f, xlm_f, xml_t, xmle_t, nI_clamp, nI_add, pk_mul, pk_sub, zI_s, zI_k, zI_o, zL_s, zL_k, zL_o, zR_s, zR_k, zR_o, zIL, zIR, zIN, zLI, zLR, zLN, zRI, zRL, zRN, true_and, and_true, not_true_eq_false, not_false_eq_true, true_implies, false_implies, implies_true, forall_const, if_true, if_false, eq_self, false_and, and_false, implies_true, nI_l, ylle_t, ylle_f, xcl_t, xcl_f, oI]
        exact k0 e
      | some j =>
        rw [hf] at e
        have := fFst_b hf
        simp (disch := omega) only [xle_t, xle_f, xlt_t, xlt_f, xeq_t, xeq_f, xle0_t, xle0_f, xlt0_f, x0lt_t, x0lt_f, x0le_t, xeq0_t, xeq0_f, xin, xem_f, xme_f, xlem_f, xlm_f, xml_t, xmle_t, nI_clamp, nI_add, pk_mul, pk_sub, zI_s, zI_k, zI_o, zL_s, zL_k, zL_o, zR_s, zR_k, zR_o, zIL, zIR, zIN, zLI, zLR, zLN, zRI, zRL, zRN, true_and, and_true, not_true_eq_false, not_false_eq_true, true_implies, false_implies, implies_true, forall_const, if_true, if_false, eq_self, false_and, and_false, implies_true, nI_l, ylle_t, ylle_f, xcl_t, xcl_f, oI]
        refine ih (i + 1) (j + 1) (by omega) (by omega) _ (kU T j true) _ (fun a ha => ?_) (fun a ha => ?_) e
        · rw [← nI_l (show j < 2 ^ 31 by omega), xbitL w (by omega) ha, hw a ha]
          unfold kU
          by_cases q : a = j
          · rw [if_pos q, decide_eq_true q, Bool.or_true]
          · rw [if_neg q, decide_eq_false q, Bool.or_false]
        · unfold kU
          rw [if_neg (by omega)]
          exact hT2 a ha
  exact L n 0 0 (by omega) (by omega) (lN 0) (fun _ => false) none (fun i hi => by rw [show (lN 0).toBitVec = 0#64 from rfl, BitVec.getLsbD_zero]) (fun _ _ => rfl) rfl
theorem n_maybe {B : BK} {W : RW} {h : MH} {d p r so n s : Nat} {f : Nat → Int64} {Q : Option MV → MH → Prop} (hr : zRf h) (hA : bIn B (h.1 112) 0) (hB : bOK B) (h28 : h.1 111 28 = -(nI 1)) (hW : rwM W h) (hp : p < 4) (hq : r < 4) (hw : W r = some (so, n, f)) (hn : n ≤ 40) (hs : s < 2 ^ 31) (hd : 6 ≤ d) (k0 : ∀ h', fHr (rTo B.1 (B.2 p)).2.1 s n f = none → zRf h' → mK h h' → Q (some (.inl (nI 0))) h') (k1 : ∀ T h', fHr (rTo B.1 (B.2 p)).2.1 s n f = some T → zRf h' → mK h h' → h'.1 111 32 = nI (rTo B.1 (B.2 p)).2.1.length → (∀ i, i < (rTo B.1 (B.2 p)).2.1.length → h'.1 139 i = bI (T i)) → Q (some (.inl (nI 1))) h') : Con mX11_mayBe d 0 0 [.inr (.inr 111), .inl (nI p), .inl (nI r), .inl (nI s)] h Q := by
  refine u_X11_mayBe (d1' := 5) hr (by omega) ?_
  refine n_hears hr hA hB h28 hp (by omega) (fun h1 r1 kk1 s1 he1 _ => ?_)
  have ho := rTo_o hB hp
  have hbe : ∀ j, j < (rTo B.1 (B.2 p)).2.1.length → (rTo B.1 (B.2 p)).2.1.getD j 0 ≤ 400000000 := fun j hj => ho.be hj
  have h40 := ho.1
  have hW1 : rwM W h1 := kk1.w hW
  obtain ⟨b0, b1, b2⟩ := (hW1 r hq).2 so n f hw
  obtain ⟨t1, t2⟩ := he1
  clear s1 ho
  have K0 := fun g e rg (fg : mK h1 g) => k0 g e rg (kk1.trans fg)
  have K1 := fun T g e rg (fg : mK h1 g) => k1 T g e rg (kk1.trans fg)
  refine u_X11_mayBe_5 ?_
  clear k0 k1 kk1 hA hW hW1
  generalize (rTo B.1 (B.2 p)).2.1 = l at K0 K1 t1 t2 hbe h40
  have M2 : ∀ m i, i + m = n → ∀ k T g, k ≤ l.length → zRf g → zF (fun a => a ≠ 139) h1 g → (∀ i, i < l.length → g.1 139 i = bI (T i)) → fHr l s n f = fHd l s f m i k T → J mX11_mayBe d 0 0 Q 0 0 37 [some (.inr (.inr 111)), some (.inl (nI p)), some (.inl (nI r)), some (.inl (nI s)), some (.inl (nI k)), some (.inl (nI i))] [] g := by
    intro m
    induction m with
    | zero =>
      intro i hi k T g hk rg fg tg e
      have e141 : g.1 141 r = nI n := by rw [fg.i (by omega)]; exact b1
      have e32 : g.1 111 32 = nI l.length := by rw [fg.i (by omega)]; exact t1
      refine u_X11_mayBe_37 rg ?_
      simp (disch := omega) only [xle_t, xle_f, xlt_t, xlt_f, xeq_t, xeq_f, xle0_t, xle0_f, xlt0_f, x0lt_t, x0lt_f, x0le_t, xeq0_t, xeq0_f, xin, xem_f, xme_f, xlem_f, xlm_f, xml_t, xmle_t, nI_clamp, nI_add, pk_mul, pk_sub, zI_s, zI_k, zI_o, zL_s, zL_k, zL_o, zR_s, zR_k, zR_o, zIL, zIR, zIN, zLI, zLR, zLN, zRI, zRL, zRN, true_and, and_true, not_true_eq_false, not_false_eq_true, true_implies, false_implies, implies_true, forall_const, if_true, if_false, eq_self, false_and, and_false, implies_true, nI_l, ylle_t, ylle_f, xcl_t, xcl_f, e141]
      exact K1 T g e rg ⟨fg.weak (fun a q => by omega), by rw [fg.i (by omega)], by rw [fg.i (by omega)], by rw [fg.i (by omega)], by rw [fg.i (by omega)]⟩ e32 tg
    | succ m ih =>
      intro i hi k T g hk rg fg tg e
      have e141 : g.1 141 r = nI n := by rw [fg.i (by omega)]; exact b1
      have e32 : g.1 111 32 = nI l.length := by rw [fg.i (by omega)]; exact t1
      have e142 : g.2.1 142 (40 * r + i) = f i := by rw [fg.l (by omega)]; exact b2 i (by omega)
      rw [fHd_s] at e
      refine u_X11_mayBe_37 rg ?_
      simp (disch := omega) only [xle_t, xle_f, xlt_t, xlt_f, xeq_t, xeq_f, xle0_t, xle0_f, xlt0_f, x0lt_t, x0lt_f, x0le_t, xeq0_t, xeq0_f, xin, xem_f, xme_f, xlem_f, xlm_f, xml_t, xmle_t, nI_clamp, nI_add, pk_mul, pk_sub, zI_s, zI_k, zI_o, zL_s, zL_k, zL_o, zR_s, zR_k, zR_o, zIL, zIR, zIN, zLI, zLR, zLN, zRI, zRL, zRN, true_and, and_true, not_true_eq_false, not_false_eq_true, true_implies, false_implies, implies_true, forall_const, if_true, if_false, eq_self, false_and, and_false, implies_true, nI_l, ylle_t, ylle_f, xcl_t, xcl_f, e141]
      have M3 : ∀ m' j, j + m' = l.length → fFst (fun j => fNr (f i) s (l.getD j 0)) (l.length - k) k = fFst (fun j => fNr (f i) s (l.getD j 0)) m' j → J mX11_mayBe d 0 0 Q 0 0 48 [some (.inr (.inr 111)), some (.inl (nI p)), some (.inl (nI r)), some (.inl (nI s)), some (.inl (nI j)), some (.inl (nI i))] [] g := by
        intro m'
        induction m' with
        | zero =>
          intro j hj e2
          have e2' : fFst (fun j => fNr (f i) s (l.getD j 0)) (l.length - k) k = none := e2
          rw [e2'] at e
          refine u_X11_mayBe_48 rg (by omega) ?_
          obtain rfl : j = l.length := by omega
          simp (disch := omega) only [xle_t, xle_f, xlt_t, xlt_f, xeq_t, xeq_f, xle0_t, xle0_f, xlt0_f, x0lt_t, x0lt_f, x0le_t, xeq0_t, xeq0_f, xin, xem_f, xme_f, xlem_f, xlm_f, xml_t, xmle_t, nI_clamp, nI_add, pk_mul, pk_sub, zI_s, zI_k, zI_o, zL_s, zL_k, zL_o, zR_s, zR_k, zR_o, zIL, zIR, zIN, zLI, zLR, zLN, zRI, zRL, zRN, true_and, and_true, not_true_eq_false, not_false_eq_true, true_implies, false_implies, implies_true, forall_const, if_true, if_false, eq_self, false_and, and_false, implies_true, nI_l, ylle_t, ylle_f, xcl_t, xcl_f, e32]
          exact K0 g e rg ⟨fg.weak (fun a q => by omega), by rw [fg.i (by omega)], by rw [fg.i (by omega)], by rw [fg.i (by omega)], by rw [fg.i (by omega)]⟩
        | succ m' ihM =>
          intro j hj e2
          have e2' : fFst (fun j => fNr (f i) s (l.getD j 0)) (l.length - k) k = if fNr (f i) s (l.getD j 0) = true then some j else fFst (fun j => fNr (f i) s (l.getD j 0)) m' (j + 1) := e2
          have e126 : g.1 126 j = nI (l.getD j 0 / 256) := by rw [fg.i (by omega)]; exact t2 j (by omega)
          have hbj := hbe j (by omega)
          obtain ⟨c1, c2⟩ := nrM (v := f i) hs hbj
          have en : fNr (f i) s (l.getD j 0) = decide (((l.getD j 0 / 256 : Nat) : Int) - (s : Int) ≤ (f i).toInt ∧ (f i).toInt ≤ ((l.getD j 0 / 256 : Nat) : Int) + (s : Int)) := rfl
          refine u_X11_mayBe_48 rg (by omega) ?_
          by_cases q1 : ((l.getD j 0 / 256 : Nat) : Int) - (s : Int) ≤ (f i).toInt
          · by_cases q2 : (f i).toInt ≤ ((l.getD j 0 / 256 : Nat) : Int) + (s : Int)
            · rw [en, decide_eq_true ⟨q1, q2⟩, if_pos rfl] at e2'
              rw [e2'] at e
              simp (disch := omega) only [xle_t, xle_f, xlt_t, xlt_f, xeq_t, xeq_f, xle0_t, xle0_f, xlt0_f, x0lt_t, x0lt_f, x0le_t, xeq0_t, xeq0_f, xin, xem_f, xme_f, xlem_f, xlm_f, xml_t, xmle_t, nI_clamp, nI_add, pk_mul, pk_sub, zI_s, zI_k, zI_o, zL_s, zL_k, zL_o, zR_s, zR_k, zR_o, zIL, zIR, zIN, zLI, zLR, zLN, zRI, zRL, zRN, true_and, and_true, not_true_eq_false, not_false_eq_true, true_implies, false_implies, implies_true, forall_const, if_true, if_false, eq_self, false_and, and_false, implies_true, nI_l, ylle_t, ylle_f, xcl_t, xcl_f, e32, e126, e142, c1, q1, c2, q2]
              refine ih (i + 1) (by omega) (j + 1) (kU T j true) (zsI g 139 j (nI 1)) (by omega) rg (fg.trans (zF_I _ _ _ (by omega))) (fun a ha => ?_) e
              unfold kU
              by_cases q : a = j
              · rw [if_pos q, q, zI_s]; rfl
              · rw [if_neg q, zI_k _ _ _ q]; exact tg a ha
            · rw [en, decide_eq_false (by omega), if_neg (by decide)] at e2'
              simp (disch := omega) only [xle_t, xle_f, xlt_t, xlt_f, xeq_t, xeq_f, xle0_t, xle0_f, xlt0_f, x0lt_t, x0lt_f, x0le_t, xeq0_t, xeq0_f, xin, xem_f, xme_f, xlem_f, xlm_f, xml_t, xmle_t, nI_clamp, nI_add, pk_mul, pk_sub, zI_s, zI_k, zI_o, zL_s, zL_k, zL_o, zR_s, zR_k, zR_o, zIL, zIR, zIN, zLI, zLR, zLN, zRI, zRL, zRN, true_and, and_true, not_true_eq_false, not_false_eq_true, true_implies, false_implies, implies_true, forall_const, if_true, if_false, eq_self, false_and, and_false, implies_true, nI_l, ylle_t, ylle_f, xcl_t, xcl_f, e32, e126, e142, c1, q1, c2, q2]
              exact ihM (j + 1) (by omega) e2'
          · rw [en, decide_eq_false (by omega), if_neg (by decide)] at e2'
            simp (disch := omega) only [xle_t, xle_f, xlt_t, xlt_f, xeq_t, xeq_f, xle0_t, xle0_f, xlt0_f, x0lt_t, x0lt_f, x0le_t, xeq0_t, xeq0_f, xin, xem_f, xme_f, xlem_f, xlm_f, xml_t, xmle_t, nI_clamp, nI_add, pk_mul, pk_sub, zI_s, zI_k, zI_o, zL_s, zL_k, zL_o, zR_s, zR_k, zR_o, zIL, zIR, zIN, zLI, zLR, zLN, zRI, zRL, zRN, true_and, and_true, not_true_eq_false, not_false_eq_true, true_implies, false_implies, implies_true, forall_const, if_true, if_false, eq_self, false_and, and_false, implies_true, nI_l, ylle_t, ylle_f, xcl_t, xcl_f, e32, e126, e142, c1, q1]
            exact ihM (j + 1) (by omega) e2'
      exact M3 (l.length - k) k (by omega) rfl
  have L : ∀ m j, j + m = l.length → ∀ g, zRf g → zF (fun a => a ≠ 139) h1 g → (∀ i, i < j → g.1 139 i = nI 0) → J mX11_mayBe d 0 0 Q 0 0 8 [some (.inr (.inr 111)), some (.inl (nI p)), some (.inl (nI r)), some (.inl (nI s)), some (.inl (nI j)), none] [] g := by
    intro m
    induction m with
    | zero =>
      intro j hj g rg fg tg
      have e32 : g.1 111 32 = nI l.length := by rw [fg.i (by omega)]; exact t1
      refine u_X11_mayBe_8 rg ?_
      simp (disch := omega) only [xle_t, xle_f, xlt_t, xlt_f, xeq_t, xeq_f, xle0_t, xle0_f, xlt0_f, x0lt_t, x0lt_f, x0le_t, xeq0_t, xeq0_f, xin, xem_f, xme_f, xlem_f, xlm_f, xml_t, xmle_t, nI_clamp, nI_add, pk_mul, pk_sub, zI_s, zI_k, zI_o, zL_s, zL_k, zL_o, zR_s, zR_k, zR_o, zIL, zIR, zIN, zLI, zLR, zLN, zRI, zRL, zRN, true_and, and_true, not_true_eq_false, not_false_eq_true, true_implies, false_implies, implies_true, forall_const, if_true, if_false, eq_self, false_and, and_false, implies_true, nI_l, ylle_t, ylle_f, xcl_t, xcl_f, e32]
      exact M2 n 0 (by omega) 0 (fun _ => false) g (by omega) rg fg (fun a ha => tg a (by omega)) rfl
    | succ m ih =>
      intro j hj g rg fg tg
      have e32 : g.1 111 32 = nI l.length := by rw [fg.i (by omega)]; exact t1
      refine u_X11_mayBe_8 rg ?_
      simp (disch := omega) only [xle_t, xle_f, xlt_t, xlt_f, xeq_t, xeq_f, xle0_t, xle0_f, xlt0_f, x0lt_t, x0lt_f, x0le_t, xeq0_t, xeq0_f, xin, xem_f, xme_f, xlem_f, xlm_f, xml_t, xmle_t, nI_clamp, nI_add, pk_mul, pk_sub, zI_s, zI_k, zI_o, zL_s, zL_k, zL_o, zR_s, zR_k, zR_o, zIL, zIR, zIN, zLI, zLR, zLN, zRI, zRL, zRN, true_and, and_true, not_true_eq_false, not_false_eq_true, true_implies, false_implies, implies_true, forall_const, if_true, if_false, eq_self, false_and, and_false, implies_true, nI_l, ylle_t, ylle_f, xcl_t, xcl_f, e32]
      refine ih (j + 1) (by omega) (zsI g 139 j (nI 0)) rg (fg.trans (zF_I _ _ _ (by omega))) (fun a ha => ?_)
      by_cases q : a = j
      · rw [q, zI_s]
      · rw [zI_k _ _ _ q]; exact tg a (by omega)
  exact L l.length 0 (by omega) h1 r1 zF.rfl (fun a ha => by omega)
/-! log, nearly -/
noncomputable def fPl (B : BK) (n : Nat) (f : Nat → Int64) (s : Nat) : Int32 := rBits (fun p => (fHr (rTo B.1 (B.2 p)).2.1 s n f).isSome) 4
theorem rBits_s (E : Nat → Bool) (n : Nat) : rBits E (n + 1) = if E n = true then rBits E n ||| rBit n else rBits E n := rfl
theorem c_plans {B : BK} {W : RW} {h : MH} {d r so n s : Nat} {f : Nat → Int64} {Q : Option MV → MH → Prop} (hr : zRf h) (hA : bAt B h 15) (hB : bOK B) (hW : rwC W h) (hq : r < 4) (hw : W r = some (so, n, f)) (hn : n ≤ 40) (hs : s < 2 ^ 31) (hd : 6 ≤ d) (kk : ∀ h', zRf h' → cF h h' → Q (some (.inl (fPl B n f s))) h') : Con mX10_plansOfLog d 0 0 [.inr (.inr 1), .inr (.inr (103 + 2 * r)), .inl (nI s)] h Q := by
  refine u_X10_plansOfLog ?_
  unfold fPl at kk
  have L : ∀ m p, p + m = 4 → ∀ g, zRf g → cF h g → J mX10_plansOfLog d 0 0 Q 0 0 5 [some (.inr (.inr 1)), some (.inr (.inr (103 + 2 * r))), some (.inl (nI s)), some (.inl (rBits (fun p => (fHr (rTo B.1 (B.2 p)).2.1 s n f).isSome) p)), some (.inl (nI p))] [] g := by
    intro m
    induction m with
    | zero =>
      intro p hp g rg fg
      obtain rfl : p = 4 := by omega
      refine u_X10_plansOfLog_5 (d1' := 0) rg (by omega) ?_
      simp (disch := omega) only [xle_t, xle_f, xlt_t, xlt_f, xeq_t, xeq_f, xle0_t, xle0_f, xlt0_f, x0lt_t, x0lt_f, x0le_t, xeq0_t, xeq0_f, xin, xem_f, xme_f, xlem_f, xlm_f, xml_t, xmle_t, nI_clamp, nI_add, pk_mul, pk_sub, zI_s, zI_k, zI_o, zL_s, zL_k, zL_o, zR_s, zR_k, zR_o, zIL, zIR, zIN, zLI, zLR, zLN, zRI, zRL, zRN, true_and, and_true, not_true_eq_false, not_false_eq_true, true_implies, false_implies, implies_true, forall_const, if_true, if_false, eq_self, false_and, and_false, implies_true, nI_l, ylle_t, ylle_f, xcl_t, xcl_f]
      exact kk g rg fg
    | succ m ih =>
      intro p hp g rg fg
      have hAg : bAt B g 15 := hA.keepF (fg.weak (fun a q => by omega))
      have hWg : rwC W g := hW.keep (fg.weak (fun a q => by omega))
      refine u_X10_plansOfLog_5 (d1' := 5) rg (by omega) ?_
      simp (disch := omega) only [xle_t, xle_f, xlt_t, xlt_f, xeq_t, xeq_f, xle0_t, xle0_f, xlt0_f, x0lt_t, x0lt_f, x0le_t, xeq0_t, xeq0_f, xin, xem_f, xme_f, xlem_f, xlm_f, xml_t, xmle_t, nI_clamp, nI_add, pk_mul, pk_sub, zI_s, zI_k, zI_o, zL_s, zL_k, zL_o, zR_s, zR_k, zR_o, zIL, zIR, zIN, zLI, zLR, zLN, zRI, zRL, zRN, true_and, and_true, not_true_eq_false, not_false_eq_true, true_implies, false_implies, implies_true, forall_const, if_true, if_false, eq_self, false_and, and_false, implies_true, nI_l, ylle_t, ylle_f, xcl_t, xcl_f]
      refine c_pat rg hAg hB (by omega) (by omega) (fun h1 r1 f1 s1 => ?_)
      have ho := rTo_o hB (show p < 4 by omega)
      have hW1 : rwC W h1 := hWg.keep (f1.weak (fun a q => by omega))
      obtain ⟨b0, b1, b2, b3⟩ := (hW1 r hq).2 so n f hw
      have eb := rBits_s (fun p => (fHr (rTo B.1 (B.2 p)).2.1 s n f).isSome) p
      have i1 := ih (p + 1) (by omega) h1 r1 (fg.trans f1.c)
      refine u_X10_plansOfLog_17 (d1' := 2) r1 (by omega) ?_
      refine c_heard r1 s1.1.2 ho.1 (fun j hj => ho.be hj) hq hn b2 b3 hs (by omega) (fun e => ?_) (fun T w e w1 w2 => ?_)
      · rw [if_neg (by simp only [e]; decide)] at eb
        rw [eb] at i1
        refine u_X10_plansOfLog_23 ?_
        have w2 : (lg_cmp (-1 : Int64) (-1 : Int64) = 0) = True := eq_true ((lg_cmp_eq _ _).mpr rfl)
        simp (disch := omega) only [xle_t, xle_f, xlt_t, xlt_f, xeq_t, xeq_f, xle0_t, xle0_f, xlt0_f, x0lt_t, x0lt_f, x0le_t, xeq0_t, xeq0_f, xin, xem_f, xme_f, xlem_f, xlm_f, xml_t, xmle_t, nI_clamp, nI_add, pk_mul, pk_sub, zI_s, zI_k, zI_o, zL_s, zL_k, zL_o, zR_s, zR_k, zR_o, zIL, zIR, zIN, zLI, zLR, zLN, zRI, zRL, zRN, true_and, and_true, not_true_eq_false, not_false_eq_true, true_implies, false_implies, implies_true, forall_const, if_true, if_false, eq_self, false_and, and_false, implies_true, nI_l, ylle_t, ylle_f, xcl_t, xcl_f, w2]
        exact i1
      · rw [if_pos (by simp only [e]; rfl)] at eb
        rw [eb] at i1
        refine u_X10_plansOfLog_23 ?_
        simp (disch := omega) only [xle_t, xle_f, xlt_t, xlt_f, xeq_t, xeq_f, xle0_t, xle0_f, xlt0_f, x0lt_t, x0lt_f, x0le_t, xeq0_t, xeq0_f, xin, xem_f, xme_f, xlem_f, xlm_f, xml_t, xmle_t, nI_clamp, nI_add, pk_mul, pk_sub, zI_s, zI_k, zI_o, zL_s, zL_k, zL_o, zR_s, zR_k, zR_o, zIL, zIR, zIN, zLI, zLR, zLN, zRI, zRL, zRN, true_and, and_true, not_true_eq_false, not_false_eq_true, true_implies, false_implies, implies_true, forall_const, if_true, if_false, eq_self, false_and, and_false, implies_true, nI_l, ylle_t, ylle_f, xcl_t, xcl_f, w2]
        exact i1
  exact L 4 0 (by omega) h hr zF.rfl
theorem n_plans {B : BK} {W : RW} {h : MH} {d r so n s : Nat} {f : Nat → Int64} {Q : Option MV → MH → Prop} (hr : zRf h) (hA : bIn B (h.1 112) 0) (hB : bOK B) (h28 : h.1 111 28 = -(nI 1)) (hW : rwM W h) (hq : r < 4) (hw : W r = some (so, n, f)) (hn : n ≤ 40) (hs : s < 2 ^ 31) (hd : 7 ≤ d) (kk : ∀ h', zRf h' → mK h h' → Q (some (.inl (fPl B n f s))) h') : Con mX11_plansOf d 0 0 [.inr (.inr 111), .inl (nI r), .inl (nI s)] h Q := by
  refine u_X11_plansOf ?_
  unfold fPl at kk
  have L : ∀ m p, p + m = 4 → ∀ g, zRf g → mK h g → J mX11_plansOf d 0 0 Q 0 0 5 [some (.inr (.inr 111)), some (.inl (nI r)), some (.inl (nI s)), some (.inl (rBits (fun p => (fHr (rTo B.1 (B.2 p)).2.1 s n f).isSome) p)), some (.inl (nI p))] [] g := by
    intro m
    induction m with
    | zero =>
      intro p hp g rg fg
      obtain rfl : p = 4 := by omega
      refine u_X11_plansOf_5 (d1' := 0) rg (by omega) ?_
      simp (disch := omega) only [xle_t, xle_f, xlt_t, xlt_f, xeq_t, xeq_f, xle0_t, xle0_f, xlt0_f, x0lt_t, x0lt_f, x0le_t, xeq0_t, xeq0_f, xin, xem_f, xme_f, xlem_f, xlm_f, xml_t, xmle_t, nI_clamp, nI_add, pk_mul, pk_sub, zI_s, zI_k, zI_o, zL_s, zL_k, zL_o, zR_s, zR_k, zR_o, zIL, zIR, zIN, zLI, zLR, zLN, zRI, zRL, zRN, true_and, and_true, not_true_eq_false, not_false_eq_true, true_implies, false_implies, implies_true, forall_const, if_true, if_false, eq_self, false_and, and_false, implies_true, nI_l, ylle_t, ylle_f, xcl_t, xcl_f]
      exact kk g rg fg
    | succ m ih =>
      intro p hp g rg fg
      have hAg : bIn B (g.1 112) 0 := by rw [fg.1.i (by omega)]; exact hA
      refine u_X11_plansOf_5 (d1' := 6) rg (by omega) ?_
      simp (disch := omega) only [xle_t, xle_f, xlt_t, xlt_f, xeq_t, xeq_f, xle0_t, xle0_f, xlt0_f, x0lt_t, x0lt_f, x0le_t, xeq0_t, xeq0_f, xin, xem_f, xme_f, xlem_f, xlm_f, xml_t, xmle_t, nI_clamp, nI_add, pk_mul, pk_sub, zI_s, zI_k, zI_o, zL_s, zL_k, zL_o, zR_s, zR_k, zR_o, zIL, zIR, zIN, zLI, zLR, zLN, zRI, zRL, zRN, true_and, and_true, not_true_eq_false, not_false_eq_true, true_implies, false_implies, implies_true, forall_const, if_true, if_false, eq_self, false_and, and_false, implies_true, nI_l, ylle_t, ylle_f, xcl_t, xcl_f]
      have eb := rBits_s (fun p => (fHr (rTo B.1 (B.2 p)).2.1 s n f).isSome) p
      refine n_maybe rg hAg hB (fg.2.2.2.2.trans h28) (fg.w hW) (by omega) hq hw hn hs (by omega) (fun h1 e r1 f1 => ?_) (fun T h1 e r1 f1 _ _ => ?_)
      · have i1 := ih (p + 1) (by omega) h1 r1 (fg.trans f1)
        rw [if_neg (by simp only [e]; decide)] at eb
        rw [eb] at i1
        refine u_X11_plansOf_20 ?_
        simp (disch := omega) only [xle_t, xle_f, xlt_t, xlt_f, xeq_t, xeq_f, xle0_t, xle0_f, xlt0_f, x0lt_t, x0lt_f, x0le_t, xeq0_t, xeq0_f, xin, xem_f, xme_f, xlem_f, xlm_f, xml_t, xmle_t, nI_clamp, nI_add, pk_mul, pk_sub, zI_s, zI_k, zI_o, zL_s, zL_k, zL_o, zR_s, zR_k, zR_o, zIL, zIR, zIN, zLI, zLR, zLN, zRI, zRL, zRN, true_and, and_true, not_true_eq_false, not_false_eq_true, true_implies, false_implies, implies_true, forall_const, if_true, if_false, eq_self, false_and, and_false, implies_true, nI_l, ylle_t, ylle_f, xcl_t, xcl_f]
        rw [show ∀ x : Int32, x ||| nI 0 = x from fun x => Int32.or_zero]
        exact i1
      · have i1 := ih (p + 1) (by omega) h1 r1 (fg.trans f1)
        rw [if_pos (by simp only [e]; rfl)] at eb
        rw [eb] at i1
        refine u_X11_plansOf_20 ?_
        simp (disch := omega) only [xle_t, xle_f, xlt_t, xlt_f, xeq_t, xeq_f, xle0_t, xle0_f, xlt0_f, x0lt_t, x0lt_f, x0le_t, xeq0_t, xeq0_f, xin, xem_f, xme_f, xlem_f, xlm_f, xml_t, xmle_t, nI_clamp, nI_add, pk_mul, pk_sub, zI_s, zI_k, zI_o, zL_s, zL_k, zL_o, zR_s, zR_k, zR_o, zIL, zIR, zIN, zLI, zLR, zLN, zRI, zRL, zRN, true_and, and_true, not_true_eq_false, not_false_eq_true, true_implies, false_implies, implies_true, forall_const, if_true, if_false, eq_self, false_and, and_false, implies_true, nI_l, ylle_t, ylle_f, xcl_t, xcl_f]
        exact i1
  exact L 4 0 (by omega) h hr mK.rfl
noncomputable def gLog (B : BK) (W : RW) (x : Int32) : Int32 := gW W x (fun _ w => fPl B w.2.1 w.2.2 0)
noncomputable def gNear (B : BK) (W : RW) (x t : Int32) : Int32 := gW W x (fun _ w => gN t (fun s => fPl B w.2.1 w.2.2 s))
theorem o_log {B : BK} {W : RW} {h : MH} {d : Nat} {x : Int32} {Q : Option MV → MH → Prop} (hr : zRf h) (hA : bAt B h 15) (hB : bOK B) (hW : rwC W h) (hWo : rwOK W) (hd : 7 ≤ d) (kk : ∀ h', zRf h' → cF h h' → Q (some (.inl (gLog B W x))) h') : Con mX10_log d 0 0 [.inr (.inr 1), .inl x] h Q := by
  unfold gLog at kk
  refine u_X10_log (d1' := 6) hr (by omega) (by omega) ?_
  rcases ix3 x (n := 4) (by omega) with ⟨z, x1, _⟩ | ⟨z, x1, x2, _⟩ | ⟨q, hq, rfl, z⟩
  · rw [gW_none z] at kk
    simp (disch := omega) only [xle_t, xle_f, xlt_t, xlt_f, xeq_t, xeq_f, xle0_t, xle0_f, xlt0_f, x0lt_t, x0lt_f, x0le_t, xeq0_t, xeq0_f, xin, xem_f, xme_f, xlem_f, xlm_f, xml_t, xmle_t, nI_clamp, nI_add, pk_mul, pk_sub, zI_s, zI_k, zI_o, zL_s, zL_k, zL_o, zR_s, zR_k, zR_o, zIL, zIR, zIN, zLI, zLR, zLN, zRI, zRL, zRN, true_and, and_true, not_true_eq_false, not_false_eq_true, true_implies, false_implies, implies_true, forall_const, if_true, if_false, eq_self, false_and, and_false, implies_true, nI_l, ylle_t, ylle_f, xcl_t, xcl_f, x1]
    exact kk h hr zF.rfl
  · rw [gW_none z] at kk
    simp (disch := omega) only [xle_t, xle_f, xlt_t, xlt_f, xeq_t, xeq_f, xle0_t, xle0_f, xlt0_f, x0lt_t, x0lt_f, x0le_t, xeq0_t, xeq0_f, xin, xem_f, xme_f, xlem_f, xlm_f, xml_t, xmle_t, nI_clamp, nI_add, pk_mul, pk_sub, zI_s, zI_k, zI_o, zL_s, zL_k, zL_o, zR_s, zR_k, zR_o, zIL, zIR, zIN, zLI, zLR, zLN, zRI, zRL, zRN, true_and, and_true, not_true_eq_false, not_false_eq_true, true_implies, false_implies, implies_true, forall_const, if_true, if_false, eq_self, false_and, and_false, implies_true, nI_l, ylle_t, ylle_f, xcl_t, xcl_f, x1, x2]
    exact kk h hr zF.rfl
  rcases hw : W q with _ | ⟨s, n, f⟩
  · rw [gW_no hq hw] at kk
    have e0 := (hW q hq).1 hw
    simp (disch := omega) only [xle_t, xle_f, xlt_t, xlt_f, xeq_t, xeq_f, xle0_t, xle0_f, xlt0_f, x0lt_t, x0lt_f, x0le_t, xeq0_t, xeq0_f, xin, xem_f, xme_f, xlem_f, xlm_f, xml_t, xmle_t, nI_clamp, nI_add, pk_mul, pk_sub, zI_s, zI_k, zI_o, zL_s, zL_k, zL_o, zR_s, zR_k, zR_o, zIL, zIR, zIN, zLI, zLR, zLN, zRI, zRL, zRN, true_and, and_true, not_true_eq_false, not_false_eq_true, true_implies, false_implies, implies_true, forall_const, if_true, if_false, eq_self, false_and, and_false, implies_true, nI_l, ylle_t, ylle_f, xcl_t, xcl_f, e0]
    exact kk h hr zF.rfl
  rw [gW_so hq hw] at kk
  obtain ⟨e0, e1, e2, e3⟩ := (hW q hq).2 s n f hw
  obtain ⟨s4, n40⟩ := hWo q s n f hw
  simp (disch := omega) only [xle_t, xle_f, xlt_t, xlt_f, xeq_t, xeq_f, xle0_t, xle0_f, xlt0_f, x0lt_t, x0lt_f, x0le_t, xeq0_t, xeq0_f, xin, xem_f, xme_f, xlem_f, xlm_f, xml_t, xmle_t, nI_clamp, nI_add, pk_mul, pk_sub, zI_s, zI_k, zI_o, zL_s, zL_k, zL_o, zR_s, zR_k, zR_o, zIL, zIR, zIN, zLI, zLR, zLN, zRI, zRL, zRN, true_and, and_true, not_true_eq_false, not_false_eq_true, true_implies, false_implies, implies_true, forall_const, if_true, if_false, eq_self, false_and, and_false, implies_true, nI_l, ylle_t, ylle_f, xcl_t, xcl_f, e0]
  refine c_plans hr hA hB hW hq hw n40 (by omega) (by omega) (fun h1 r1 f1 => ?_)
  exact u_X10_log_33 (kk h1 r1 f1)
theorem n_log {B : BK} {W : RW} {h : MH} {d : Nat} {x : Int32} {Q : Option MV → MH → Prop} (hr : zRf h) (hA : bIn B (h.1 112) 0) (hB : bOK B) (h28 : h.1 111 28 = -(nI 1)) (hW : rwM W h) (hWo : rwOK W) (hd : 8 ≤ d) (kk : ∀ h', zRf h' → mK h h' → Q (some (.inl (gLog B W x))) h') : Con mX11_log d 0 0 [.inr (.inr 111), .inl x] h Q := by
  unfold gLog at kk
  have hA0 : bIn B ((zsI h 111 0 (nI 0)).1 112) 0 := hA
  have hW0 : rwM W (zsI h 111 0 (nI 0)) := hW
  have k0 := mK_0 h
  refine u_X11_log (d1' := 7) hr (by omega) (by omega) ?_
  rcases ix3 x (n := 4) (by omega) with ⟨z, _, x1⟩ | ⟨z, _, _, x1, _, x2, _⟩ | ⟨q, hq, rfl, z⟩
  · rw [gW_none z] at kk
    simp (disch := omega) only [xle_t, xle_f, xlt_t, xlt_f, xeq_t, xeq_f, xle0_t, xle0_f, xlt0_f, x0lt_t, x0lt_f, x0le_t, xeq0_t, xeq0_f, xin, xem_f, xme_f, xlem_f, xlm_f, xml_t, xmle_t, nI_clamp, nI_add, pk_mul, pk_sub, zI_s, zI_k, zI_o, zL_s, zL_k, zL_o, zR_s, zR_k, zR_o, zIL, zIR, zIN, zLI, zLR, zLN, zRI, zRL, zRN, true_and, and_true, not_true_eq_false, not_false_eq_true, true_implies, false_implies, implies_true, forall_const, if_true, if_false, eq_self, false_and, and_false, implies_true, nI_l, ylle_t, ylle_f, xcl_t, xcl_f, x1, y_3]
    exact kk _ hr (mK_0 h)
  · rw [gW_none z] at kk
    simp (disch := omega) only [xle_t, xle_f, xlt_t, xlt_f, xeq_t, xeq_f, xle0_t, xle0_f, xlt0_f, x0lt_t, x0lt_f, x0le_t, xeq0_t, xeq0_f, xin, xem_f, xme_f, xlem_f, xlm_f, xml_t, xmle_t, nI_clamp, nI_add, pk_mul, pk_sub, zI_s, zI_k, zI_o, zL_s, zL_k, zL_o, zR_s, zR_k, zR_o, zIL, zIR, zIN, zLI, zLR, zLN, zRI, zRL, zRN, true_and, and_true, not_true_eq_false, not_false_eq_true, true_implies, false_implies, implies_true, forall_const, if_true, if_false, eq_self, false_and, and_false, implies_true, nI_l, ylle_t, ylle_f, xcl_t, xcl_f, x1, y_3, x2 3 rfl]
    exact kk _ hr (mK_0 h)
  rcases hw : W q with _ | ⟨s, n, f⟩
  · rw [gW_no hq hw] at kk
    have e0 := (hW q hq).1 hw
    simp (disch := omega) only [xle_t, xle_f, xlt_t, xlt_f, xeq_t, xeq_f, xle0_t, xle0_f, xlt0_f, x0lt_t, x0lt_f, x0le_t, xeq0_t, xeq0_f, xin, xem_f, xme_f, xlem_f, xlm_f, xml_t, xmle_t, nI_clamp, nI_add, pk_mul, pk_sub, zI_s, zI_k, zI_o, zL_s, zL_k, zL_o, zR_s, zR_k, zR_o, zIL, zIR, zIN, zLI, zLR, zLN, zRI, zRL, zRN, true_and, and_true, not_true_eq_false, not_false_eq_true, true_implies, false_implies, implies_true, forall_const, if_true, if_false, eq_self, false_and, and_false, implies_true, nI_l, ylle_t, ylle_f, xcl_t, xcl_f, y_3, e0]
    exact kk _ hr (mK_0 h)
  rw [gW_so hq hw] at kk
  obtain ⟨e0, e1, e2⟩ := (hW q hq).2 s n f hw
  obtain ⟨s4, n40⟩ := hWo q s n f hw
  simp (disch := omega) only [xle_t, xle_f, xlt_t, xlt_f, xeq_t, xeq_f, xle0_t, xle0_f, xlt0_f, x0lt_t, x0lt_f, x0le_t, xeq0_t, xeq0_f, xin, xem_f, xme_f, xlem_f, xlm_f, xml_t, xmle_t, nI_clamp, nI_add, pk_mul, pk_sub, zI_s, zI_k, zI_o, zL_s, zL_k, zL_o, zR_s, zR_k, zR_o, zIL, zIR, zIN, zLI, zLR, zLN, zRI, zRL, zRN, true_and, and_true, not_true_eq_false, not_false_eq_true, true_implies, false_implies, implies_true, forall_const, if_true, if_false, eq_self, false_and, and_false, implies_true, nI_l, ylle_t, ylle_f, xcl_t, xcl_f, y_3, e0]
  refine n_plans (h := zsI h 111 0 (nI 0)) hr hA0 hB (k0.2.2.2.2.trans h28) hW0 hq hw n40 (by omega) (by omega) (fun h1 r1 f1 => ?_)
  exact u_X11_log_39 (kk h1 r1 (k0.trans f1))
theorem o_nearly {B : BK} {W : RW} {h : MH} {d : Nat} {x t : Int32} {Q : Option MV → MH → Prop} (hr : zRf h) (hA : bAt B h 15) (hB : bOK B) (hW : rwC W h) (hWo : rwOK W) (hd : 7 ≤ d) (kk : ∀ h', zRf h' → cF h h' → Q (some (.inl (gNear B W x t))) h') : Con mX10_nearly d 0 0 [.inr (.inr 1), .inl x, .inl t] h Q := by
  unfold gNear at kk
  refine u_X10_nearly (d1' := 6) hr (by omega) (by omega) ?_
  rcases ix3 x (n := 4) (by omega) with ⟨z, x1, _⟩ | ⟨z, x1, x2, _⟩ | ⟨q, hq, rfl, z⟩
  · rw [gW_none z] at kk
    simp (disch := omega) only [xle_t, xle_f, xlt_t, xlt_f, xeq_t, xeq_f, xle0_t, xle0_f, xlt0_f, x0lt_t, x0lt_f, x0le_t, xeq0_t, xeq0_f, xin, xem_f, xme_f, xlem_f, xlm_f, xml_t, xmle_t, nI_clamp, nI_add, pk_mul, pk_sub, zI_s, zI_k, zI_o, zL_s, zL_k, zL_o, zR_s, zR_k, zR_o, zIL, zIR, zIN, zLI, zLR, zLN, zRI, zRL, zRN, true_and, and_true, not_true_eq_false, not_false_eq_true, true_implies, false_implies, implies_true, forall_const, if_true, if_false, eq_self, false_and, and_false, implies_true, nI_l, ylle_t, ylle_f, xcl_t, xcl_f, x1]
    exact kk h hr zF.rfl
  · rw [gW_none z] at kk
    simp (disch := omega) only [xle_t, xle_f, xlt_t, xlt_f, xeq_t, xeq_f, xle0_t, xle0_f, xlt0_f, x0lt_t, x0lt_f, x0le_t, xeq0_t, xeq0_f, xin, xem_f, xme_f, xlem_f, xlm_f, xml_t, xmle_t, nI_clamp, nI_add, pk_mul, pk_sub, zI_s, zI_k, zI_o, zL_s, zL_k, zL_o, zR_s, zR_k, zR_o, zIL, zIR, zIN, zLI, zLR, zLN, zRI, zRL, zRN, true_and, and_true, not_true_eq_false, not_false_eq_true, true_implies, false_implies, implies_true, forall_const, if_true, if_false, eq_self, false_and, and_false, implies_true, nI_l, ylle_t, ylle_f, xcl_t, xcl_f, x1, x2]
    exact kk h hr zF.rfl
  rcases hw : W q with _ | ⟨s, n, f⟩
  · rw [gW_no hq hw] at kk
    have e0 := (hW q hq).1 hw
    simp (disch := omega) only [xle_t, xle_f, xlt_t, xlt_f, xeq_t, xeq_f, xle0_t, xle0_f, xlt0_f, x0lt_t, x0lt_f, x0le_t, xeq0_t, xeq0_f, xin, xem_f, xme_f, xlem_f, xlm_f, xml_t, xmle_t, nI_clamp, nI_add, pk_mul, pk_sub, zI_s, zI_k, zI_o, zL_s, zL_k, zL_o, zR_s, zR_k, zR_o, zIL, zIR, zIN, zLI, zLR, zLN, zRI, zRL, zRN, true_and, and_true, not_true_eq_false, not_false_eq_true, true_implies, false_implies, implies_true, forall_const, if_true, if_false, eq_self, false_and, and_false, implies_true, nI_l, ylle_t, ylle_f, xcl_t, xcl_f, e0]
    exact kk h hr zF.rfl
  rw [gW_so hq hw] at kk
  obtain ⟨e0, e1, e2, e3⟩ := (hW q hq).2 s n f hw
  obtain ⟨s4, n40⟩ := hWo q s n f hw
  by_cases tn : t < 0
  · rw [gN_neg tn] at kk
    simp (disch := omega) only [xle_t, xle_f, xlt_t, xlt_f, xeq_t, xeq_f, xle0_t, xle0_f, xlt0_f, x0lt_t, x0lt_f, x0le_t, xeq0_t, xeq0_f, xin, xem_f, xme_f, xlem_f, xlm_f, xml_t, xmle_t, nI_clamp, nI_add, pk_mul, pk_sub, zI_s, zI_k, zI_o, zL_s, zL_k, zL_o, zR_s, zR_k, zR_o, zIL, zIR, zIN, zLI, zLR, zLN, zRI, zRL, zRN, true_and, and_true, not_true_eq_false, not_false_eq_true, true_implies, false_implies, implies_true, forall_const, if_true, if_false, eq_self, false_and, and_false, implies_true, nI_l, ylle_t, ylle_f, xcl_t, xcl_f, e0, x0le_neg tn]
    exact kk h hr zF.rfl
  obtain ⟨t, ht, rfl⟩ := nI_of tn
  rw [gN_nat ht] at kk
  simp (disch := omega) only [xle_t, xle_f, xlt_t, xlt_f, xeq_t, xeq_f, xle0_t, xle0_f, xlt0_f, x0lt_t, x0lt_f, x0le_t, xeq0_t, xeq0_f, xin, xem_f, xme_f, xlem_f, xlm_f, xml_t, xmle_t, nI_clamp, nI_add, pk_mul, pk_sub, zI_s, zI_k, zI_o, zL_s, zL_k, zL_o, zR_s, zR_k, zR_o, zIL, zIR, zIN, zLI, zLR, zLN, zRI, zRL, zRN, true_and, and_true, not_true_eq_false, not_false_eq_true, true_implies, false_implies, implies_true, forall_const, if_true, if_false, eq_self, false_and, and_false, implies_true, nI_l, ylle_t, ylle_f, xcl_t, xcl_f, e0]
  refine c_plans hr hA hB hW hq hw n40 ht (by omega) (fun h1 r1 f1 => ?_)
  exact u_X10_nearly_45 (kk h1 r1 f1)
theorem n_nearly {B : BK} {W : RW} {h : MH} {d : Nat} {x t : Int32} {Q : Option MV → MH → Prop} (hr : zRf h) (hA : bIn B (h.1 112) 0) (hB : bOK B) (h28 : h.1 111 28 = -(nI 1)) (hW : rwM W h) (hWo : rwOK W) (hd : 8 ≤ d) (kk : ∀ h', zRf h' → mK h h' → Q (some (.inl (gNear B W x t))) h') : Con mX11_nearly d 0 0 [.inr (.inr 111), .inl x, .inl t] h Q := by
  unfold gNear at kk
  have hA0 : bIn B ((zsI h 111 0 (nI 0)).1 112) 0 := hA
  have hW0 : rwM W (zsI h 111 0 (nI 0)) := hW
  have k0 := mK_0 h
  refine u_X11_nearly (d1' := 7) hr (by omega) (by omega) ?_
  rcases ix3 x (n := 4) (by omega) with ⟨z, _, x1⟩ | ⟨z, _, _, x1, _, x2, _⟩ | ⟨q, hq, rfl, z⟩
  · rw [gW_none z] at kk
    simp (disch := omega) only [xle_t, xle_f, xlt_t, xlt_f, xeq_t, xeq_f, xle0_t, xle0_f, xlt0_f, x0lt_t, x0lt_f, x0le_t, xeq0_t, xeq0_f, xin, xem_f, xme_f, xlem_f, xlm_f, xml_t, xmle_t, nI_clamp, nI_add, pk_mul, pk_sub, zI_s, zI_k, zI_o, zL_s, zL_k, zL_o, zR_s, zR_k, zR_o, zIL, zIR, zIN, zLI, zLR, zLN, zRI, zRL, zRN, true_and, and_true, not_true_eq_false, not_false_eq_true, true_implies, false_implies, implies_true, forall_const, if_true, if_false, eq_self, false_and, and_false, implies_true, nI_l, ylle_t, ylle_f, xcl_t, xcl_f, x1, y_3]
    exact kk _ hr (mK_0 h)
  · rw [gW_none z] at kk
    simp (disch := omega) only [xle_t, xle_f, xlt_t, xlt_f, xeq_t, xeq_f, xle0_t, xle0_f, xlt0_f, x0lt_t, x0lt_f, x0le_t, xeq0_t, xeq0_f, xin, xem_f, xme_f, xlem_f, xlm_f, xml_t, xmle_t, nI_clamp, nI_add, pk_mul, pk_sub, zI_s, zI_k, zI_o, zL_s, zL_k, zL_o, zR_s, zR_k, zR_o, zIL, zIR, zIN, zLI, zLR, zLN, zRI, zRL, zRN, true_and, and_true, not_true_eq_false, not_false_eq_true, true_implies, false_implies, implies_true, forall_const, if_true, if_false, eq_self, false_and, and_false, implies_true, nI_l, ylle_t, ylle_f, xcl_t, xcl_f, x1, y_3, x2 3 rfl]
    exact kk _ hr (mK_0 h)
  rcases hw : W q with _ | ⟨s, n, f⟩
  · rw [gW_no hq hw] at kk
    have e0 := (hW q hq).1 hw
    simp (disch := omega) only [xle_t, xle_f, xlt_t, xlt_f, xeq_t, xeq_f, xle0_t, xle0_f, xlt0_f, x0lt_t, x0lt_f, x0le_t, xeq0_t, xeq0_f, xin, xem_f, xme_f, xlem_f, xlm_f, xml_t, xmle_t, nI_clamp, nI_add, pk_mul, pk_sub, zI_s, zI_k, zI_o, zL_s, zL_k, zL_o, zR_s, zR_k, zR_o, zIL, zIR, zIN, zLI, zLR, zLN, zRI, zRL, zRN, true_and, and_true, not_true_eq_false, not_false_eq_true, true_implies, false_implies, implies_true, forall_const, if_true, if_false, eq_self, false_and, and_false, implies_true, nI_l, ylle_t, ylle_f, xcl_t, xcl_f, y_3, e0]
    exact kk _ hr (mK_0 h)
  rw [gW_so hq hw] at kk
  obtain ⟨e0, e1, e2⟩ := (hW q hq).2 s n f hw
  obtain ⟨s4, n40⟩ := hWo q s n f hw
  by_cases tn : t < 0
  · rw [gN_neg tn] at kk
    simp (disch := omega) only [xle_t, xle_f, xlt_t, xlt_f, xeq_t, xeq_f, xle0_t, xle0_f, xlt0_f, x0lt_t, x0lt_f, x0le_t, xeq0_t, xeq0_f, xin, xem_f, xme_f, xlem_f, xlm_f, xml_t, xmle_t, nI_clamp, nI_add, pk_mul, pk_sub, zI_s, zI_k, zI_o, zL_s, zL_k, zL_o, zR_s, zR_k, zR_o, zIL, zIR, zIN, zLI, zLR, zLN, zRI, zRL, zRN, true_and, and_true, not_true_eq_false, not_false_eq_true, true_implies, false_implies, implies_true, forall_const, if_true, if_false, eq_self, false_and, and_false, implies_true, nI_l, ylle_t, ylle_f, xcl_t, xcl_f, y_3, e0, x0le_neg tn]
    exact kk _ hr k0
  obtain ⟨t, ht, rfl⟩ := nI_of tn
  rw [gN_nat ht] at kk
  simp (disch := omega) only [xle_t, xle_f, xlt_t, xlt_f, xeq_t, xeq_f, xle0_t, xle0_f, xlt0_f, x0lt_t, x0lt_f, x0le_t, xeq0_t, xeq0_f, xin, xem_f, xme_f, xlem_f, xlm_f, xml_t, xmle_t, nI_clamp, nI_add, pk_mul, pk_sub, zI_s, zI_k, zI_o, zL_s, zL_k, zL_o, zR_s, zR_k, zR_o, zIL, zIR, zIN, zLI, zLR, zLN, zRI, zRL, zRN, true_and, and_true, not_true_eq_false, not_false_eq_true, true_implies, false_implies, implies_true, forall_const, if_true, if_false, eq_self, false_and, and_false, implies_true, nI_l, ylle_t, ylle_f, xcl_t, xcl_f, y_3, e0]
  refine n_plans (h := zsI h 111 0 (nI 0)) hr hA0 hB (k0.2.2.2.2.trans h28) hW0 hq hw n40 ht (by omega) (fun h1 r1 f1 => ?_)
  exact u_X11_nearly_48 (kk h1 r1 (k0.trans f1))
/-! missed -/
def fMi (k : Int32) (s : Nat) : Int32 := if k = -(nI 1) then nI s else -(nI 1)
noncomputable def gMissed (B : BK) (W : RW) (x y k : Int32) : Int32 := gP x (fun p => gW W y (fun _ w => match fHr (rTo B.1 (B.2 p)).2.1 0 w.2.1 w.2.2 with
  | none => -(nI 1)
  | some T => fKth (fun i => !T i) k (fMi k) (rTo B.1 (B.2 p)).2.1.length 0 0))
theorem o_missed {B : BK} {W : RW} {h : MH} {d : Nat} {x y k : Int32} {Q : Option MV → MH → Prop} (hr : zRf h) (hA : bAt B h 15) (hB : bOK B) (hW : rwC W h) (hWo : rwOK W) (hd : 7 ≤ d) (kk : ∀ h', zRf h' → cF h h' → Q (some (.inl (gMissed B W x y k))) h') : Con mX10_missed d 0 0 [.inr (.inr 1), .inl x, .inl y, .inl k] h Q := by
  unfold gMissed at kk
  refine u_X10_missed (d1' := 6) hr (by omega) (by omega) ?_
  rcases ix3 x (n := 4) (by omega) with ⟨z, x1, _⟩ | ⟨z, x1, x2, _⟩ | ⟨p, hp, rfl, z⟩
  · rw [gP_none z] at kk
    simp (disch := omega) only [xle_t, xle_f, xlt_t, xlt_f, xeq_t, xeq_f, xle0_t, xle0_f, xlt0_f, x0lt_t, x0lt_f, x0le_t, xeq0_t, xeq0_f, xin, xem_f, xme_f, xlem_f, xlm_f, xml_t, xmle_t, nI_clamp, nI_add, pk_mul, pk_sub, zI_s, zI_k, zI_o, zL_s, zL_k, zL_o, zR_s, zR_k, zR_o, zIL, zIR, zIN, zLI, zLR, zLN, zRI, zRL, zRN, true_and, and_true, not_true_eq_false, not_false_eq_true, true_implies, false_implies, implies_true, forall_const, if_true, if_false, eq_self, false_and, and_false, implies_true, nI_l, ylle_t, ylle_f, xcl_t, xcl_f, x1]
    exact kk h hr zF.rfl
  · rw [gP_none z] at kk
    simp (disch := omega) only [xle_t, xle_f, xlt_t, xlt_f, xeq_t, xeq_f, xle0_t, xle0_f, xlt0_f, x0lt_t, x0lt_f, x0le_t, xeq0_t, xeq0_f, xin, xem_f, xme_f, xlem_f, xlm_f, xml_t, xmle_t, nI_clamp, nI_add, pk_mul, pk_sub, zI_s, zI_k, zI_o, zL_s, zL_k, zL_o, zR_s, zR_k, zR_o, zIL, zIR, zIN, zLI, zLR, zLN, zRI, zRL, zRN, true_and, and_true, not_true_eq_false, not_false_eq_true, true_implies, false_implies, implies_true, forall_const, if_true, if_false, eq_self, false_and, and_false, implies_true, nI_l, ylle_t, ylle_f, xcl_t, xcl_f, x1, x2]
    exact kk h hr zF.rfl
  rw [gP_some hp] at kk
  rcases ix3 y (n := 4) (by omega) with ⟨z, x1, _⟩ | ⟨z, x1, x2, _⟩ | ⟨q, hq, rfl, z⟩
  · rw [gW_none z] at kk
    simp (disch := omega) only [xle_t, xle_f, xlt_t, xlt_f, xeq_t, xeq_f, xle0_t, xle0_f, xlt0_f, x0lt_t, x0lt_f, x0le_t, xeq0_t, xeq0_f, xin, xem_f, xme_f, xlem_f, xlm_f, xml_t, xmle_t, nI_clamp, nI_add, pk_mul, pk_sub, zI_s, zI_k, zI_o, zL_s, zL_k, zL_o, zR_s, zR_k, zR_o, zIL, zIR, zIN, zLI, zLR, zLN, zRI, zRL, zRN, true_and, and_true, not_true_eq_false, not_false_eq_true, true_implies, false_implies, implies_true, forall_const, if_true, if_false, eq_self, false_and, and_false, implies_true, nI_l, ylle_t, ylle_f, xcl_t, xcl_f, x1]
    exact kk h hr zF.rfl
  · rw [gW_none z] at kk
    simp (disch := omega) only [xle_t, xle_f, xlt_t, xlt_f, xeq_t, xeq_f, xle0_t, xle0_f, xlt0_f, x0lt_t, x0lt_f, x0le_t, xeq0_t, xeq0_f, xin, xem_f, xme_f, xlem_f, xlm_f, xml_t, xmle_t, nI_clamp, nI_add, pk_mul, pk_sub, zI_s, zI_k, zI_o, zL_s, zL_k, zL_o, zR_s, zR_k, zR_o, zIL, zIR, zIN, zLI, zLR, zLN, zRI, zRL, zRN, true_and, and_true, not_true_eq_false, not_false_eq_true, true_implies, false_implies, implies_true, forall_const, if_true, if_false, eq_self, false_and, and_false, implies_true, nI_l, ylle_t, ylle_f, xcl_t, xcl_f, x1, x2]
    exact kk h hr zF.rfl
  rcases hw : W q with _ | ⟨s, n, f⟩
  · rw [gW_no hq hw] at kk
    have e0 := (hW q hq).1 hw
    simp (disch := omega) only [xle_t, xle_f, xlt_t, xlt_f, xeq_t, xeq_f, xle0_t, xle0_f, xlt0_f, x0lt_t, x0lt_f, x0le_t, xeq0_t, xeq0_f, xin, xem_f, xme_f, xlem_f, xlm_f, xml_t, xmle_t, nI_clamp, nI_add, pk_mul, pk_sub, zI_s, zI_k, zI_o, zL_s, zL_k, zL_o, zR_s, zR_k, zR_o, zIL, zIR, zIN, zLI, zLR, zLN, zRI, zRL, zRN, true_and, and_true, not_true_eq_false, not_false_eq_true, true_implies, false_implies, implies_true, forall_const, if_true, if_false, eq_self, false_and, and_false, implies_true, nI_l, ylle_t, ylle_f, xcl_t, xcl_f, e0]
    exact kk h hr zF.rfl
  rw [gW_so hq hw] at kk
  obtain ⟨e0, e1, e2, e3⟩ := (hW q hq).2 s n f hw
  obtain ⟨s4, n40⟩ := hWo q s n f hw
  simp (disch := omega) only [xle_t, xle_f, xlt_t, xlt_f, xeq_t, xeq_f, xle0_t, xle0_f, xlt0_f, x0lt_t, x0lt_f, x0le_t, xeq0_t, xeq0_f, xin, xem_f, xme_f, xlem_f, xlm_f, xml_t, xmle_t, nI_clamp, nI_add, pk_mul, pk_sub, zI_s, zI_k, zI_o, zL_s, zL_k, zL_o, zR_s, zR_k, zR_o, zIL, zIR, zIN, zLI, zLR, zLN, zRI, zRL, zRN, true_and, and_true, not_true_eq_false, not_false_eq_true, true_implies, false_implies, implies_true, forall_const, if_true, if_false, eq_self, false_and, and_false, implies_true, nI_l, ylle_t, ylle_f, xcl_t, xcl_f, e0]
  refine c_pat hr hA hB hp (by omega) (fun h1 r1 f1 s1 => ?_)
  have kk1 := kk h1 r1 f1.c
  have ho := rTo_o hB hp
  have hW1 : rwC W h1 := hW.keep (f1.weak (fun a q => by omega))
  obtain ⟨b0, b1, b2, b3⟩ := (hW1 q hq).2 s n f hw
  have h40 := ho.1
  refine u_X10_missed_37 (d1' := 2) r1 (by omega) ?_
  simp (disch := omega) only [xle_t, xle_f, xlt_t, xlt_f, xeq_t, xeq_f, xle0_t, xle0_f, xlt0_f, x0lt_t, x0lt_f, x0le_t, xeq0_t, xeq0_f, xin, xem_f, xme_f, xlem_f, xlm_f, xml_t, xmle_t, nI_clamp, nI_add, pk_mul, pk_sub, zI_s, zI_k, zI_o, zL_s, zL_k, zL_o, zR_s, zR_k, zR_o, zIL, zIR, zIN, zLI, zLR, zLN, zRI, zRL, zRN, true_and, and_true, not_true_eq_false, not_false_eq_true, true_implies, false_implies, implies_true, forall_const, if_true, if_false, eq_self, false_and, and_false, implies_true, nI_l, ylle_t, ylle_f, xcl_t, xcl_f]
  refine c_heard (s := 0) r1 s1.1.2 ho.1 (fun j hj => ho.be hj) hq n40 b2 b3 (by omega) (by omega) (fun e => ?_) (fun T w e w1 w2 => ?_)
  · rw [show (s, n, f).2.1 = n from rfl, show (s, n, f).2.2 = f from rfl, e] at kk1
    refine u_X10_missed_48 ?_
    have w2 : (lg_cmp (-1 : Int64) (-1 : Int64) = 0) = True := eq_true ((lg_cmp_eq _ _).mpr rfl)
    simp (disch := omega) only [xle_t, xle_f, xlt_t, xlt_f, xeq_t, xeq_f, xle0_t, xle0_f, xlt0_f, x0lt_t, x0lt_f, x0le_t, xeq0_t, xeq0_f, xin, xem_f, xme_f, xlem_f, xlm_f, xml_t, xmle_t, nI_clamp, nI_add, pk_mul, pk_sub, zI_s, zI_k, zI_o, zL_s, zL_k, zL_o, zR_s, zR_k, zR_o, zIL, zIR, zIN, zLI, zLR, zLN, zRI, zRL, zRN, true_and, and_true, not_true_eq_false, not_false_eq_true, true_implies, false_implies, implies_true, forall_const, if_true, if_false, eq_self, false_and, and_false, implies_true, nI_l, ylle_t, ylle_f, xcl_t, xcl_f, w2]
    exact kk1
  · rw [show (s, n, f).2.1 = n from rfl, show (s, n, f).2.2 = f from rfl, e] at kk1
    have kk2 : Q (some (.inl (fKth (fun i => !T i) k (fMi k) (rTo B.1 (B.2 p)).2.1.length 0 0))) h1 := kk1
    have e9 : h1.1 48 9 = nI (rTo B.1 (B.2 p)).2.1.length := s1.1.2.1
    refine u_X10_missed_48 ?_
    simp (disch := omega) only [xle_t, xle_f, xlt_t, xlt_f, xeq_t, xeq_f, xle0_t, xle0_f, xlt0_f, x0lt_t, x0lt_f, x0le_t, xeq0_t, xeq0_f, xin, xem_f, xme_f, xlem_f, xlm_f, xml_t, xmle_t, nI_clamp, nI_add, pk_mul, pk_sub, zI_s, zI_k, zI_o, zL_s, zL_k, zL_o, zR_s, zR_k, zR_o, zIL, zIR, zIN, zLI, zLR, zLN, zRI, zRL, zRN, true_and, and_true, not_true_eq_false, not_false_eq_true, true_implies, false_implies, implies_true, forall_const, if_true, if_false, eq_self, false_and, and_false, implies_true, nI_l, ylle_t, ylle_f, xcl_t, xcl_f, w2]
    clear kk1 e s1 ho
    generalize (rTo B.1 (B.2 p)).2.1.length = le at kk2 e9 h40
    have L : ∀ m i c, i + m = le → c ≤ i → Q (some (.inl (fKth (fun i => !T i) k (fMi k) m i c))) h1 → J mX10_missed d 0 0 Q 0 0 67 [some (.inr (.inr 1)), some (.inl (nI p)), some (.inl (nI q)), some (.inl k), some (.inr (.inl w)), none, some (.inl (nI c)), some (.inl (nI i))] [] h1 := by
      intro m
      induction m with
      | zero =>
        intro i c hi hc kq
        have kq' : Q (some (.inl (fMi k c))) h1 := kq
        unfold fMi at kq'
        refine u_X10_missed_67 r1 ?_
        by_cases z : k = -(nI 1)
        · rw [if_pos z] at kq'
          simp (disch := omega) only [xle_t, xle_f, xlt_t, xlt_f, xeq_t, xeq_f, xle0_t, xle0_f, xlt0_f, x0lt_t, x0lt_f, x0le_t, xeq0_t, xeq0_f, xin, xem_f, xme_f, xlem_f, xlm_f, xml_t, xmle_t, nI_clamp, nI_add, pk_mul, pk_sub, zI_s, zI_k, zI_o, zL_s, zL_k, zL_o, zR_s, zR_k, zR_o, zIL, zIR, zIN, zLI, zLR, zLN, zRI, zRL, zRN, true_and, and_true, not_true_eq_false, not_false_eq_true, true_implies, false_implies, implies_true, forall_const, if_true, if_false, eq_self, false_and, and_false, implies_true, nI_l, ylle_t, ylle_f, xcl_t, xcl_f, e9, z]
          exact kq'
        · rw [if_neg z] at kq'
          simp (disch := omega) only [xle_t, xle_f, xlt_t, xlt_f, xeq_t, xeq_f, xle0_t, xle0_f, xlt0_f, x0lt_t, x0lt_f, x0le_t, xeq0_t, xeq0_f, xin, xem_f, xme_f, xlem_f, xlm_f, xml_t, xmle_t, nI_clamp, nI_add, pk_mul, pk_sub, zI_s, zI_k, zI_o, zL_s, zL_k, zL_o, zR_s, zR_k, zR_o, zIL, zIR, zIN, zLI, zLR, zLN, zRI, zRL, zRN, true_and, and_true, not_true_eq_false, not_false_eq_true, true_implies, false_implies, implies_true, forall_const, if_true, if_false, eq_self, false_and, and_false, implies_true, nI_l, ylle_t, ylle_f, xcl_t, xcl_f, e9, z]
          exact kq'
      | succ m ih =>
        intro i c hi hc kq
        have kq' : Q (some (.inl (if (!T i) = true then (if nI c = k then nI i else fKth (fun i => !T i) k (fMi k) m (i + 1) (c + 1)) else fKth (fun i => !T i) k (fMi k) m (i + 1) c))) h1 := kq
        have hb := w1 i (by omega)
        have xb := xbLl (w := w) (show i < 64 by omega)
        rw [hb] at xb
        refine u_X10_missed_67 r1 ?_
        by_cases v : T i = true
        · rw [v, if_neg (by decide)] at kq'
          rw [v, show (true = false) = False from eq_false (by decide)] at xb
          simp (disch := omega) only [xle_t, xle_f, xlt_t, xlt_f, xeq_t, xeq_f, xle0_t, xle0_f, xlt0_f, x0lt_t, x0lt_f, x0le_t, xeq0_t, xeq0_f, xin, xem_f, xme_f, xlem_f, xlm_f, xml_t, xmle_t, nI_clamp, nI_add, pk_mul, pk_sub, zI_s, zI_k, zI_o, zL_s, zL_k, zL_o, zR_s, zR_k, zR_o, zIL, zIR, zIN, zLI, zLR, zLN, zRI, zRL, zRN, true_and, and_true, not_true_eq_false, not_false_eq_true, true_implies, false_implies, implies_true, forall_const, if_true, if_false, eq_self, false_and, and_false, implies_true, nI_l, ylle_t, ylle_f, xcl_t, xcl_f, e9, xb]
          exact ih (i + 1) c (by omega) (by omega) kq'
        · have v' : T i = false := by cases hT : T i with
            | false => rfl
            | true => exact absurd hT v
          rw [v', if_pos (by decide)] at kq'
          rw [v', show (false = false) = True from eq_true rfl] at xb
          by_cases z : nI c = k
          · rw [if_pos z] at kq'
            simp (disch := omega) only [xle_t, xle_f, xlt_t, xlt_f, xeq_t, xeq_f, xle0_t, xle0_f, xlt0_f, x0lt_t, x0lt_f, x0le_t, xeq0_t, xeq0_f, xin, xem_f, xme_f, xlem_f, xlm_f, xml_t, xmle_t, nI_clamp, nI_add, pk_mul, pk_sub, zI_s, zI_k, zI_o, zL_s, zL_k, zL_o, zR_s, zR_k, zR_o, zIL, zIR, zIN, zLI, zLR, zLN, zRI, zRL, zRN, true_and, and_true, not_true_eq_false, not_false_eq_true, true_implies, false_implies, implies_true, forall_const, if_true, if_false, eq_self, false_and, and_false, implies_true, nI_l, ylle_t, ylle_f, xcl_t, xcl_f, e9, xb, z]
            exact kq'
          · rw [if_neg z] at kq'
            simp (disch := omega) only [xle_t, xle_f, xlt_t, xlt_f, xeq_t, xeq_f, xle0_t, xle0_f, xlt0_f, x0lt_t, x0lt_f, x0le_t, xeq0_t, xeq0_f, xin, xem_f, xme_f, xlem_f, xlm_f, xml_t, xmle_t, nI_clamp, nI_add, pk_mul, pk_sub, zI_s, zI_k, zI_o, zL_s, zL_k, zL_o, zR_s, zR_k, zR_o, zIL, zIR, zIN, zLI, zLR, zLN, zRI, zRL, zRN, true_and, and_true, not_true_eq_false, not_false_eq_true, true_implies, false_implies, implies_true, forall_const, if_true, if_false, eq_self, false_and, and_false, implies_true, nI_l, ylle_t, ylle_f, xcl_t, xcl_f, e9, xb, z]
            exact ih (i + 1) (c + 1) (by omega) (by omega) kq'
    exact L le 0 0 (by omega) (by omega) kk2
theorem n_missed {B : BK} {W : RW} {h : MH} {d : Nat} {x y k : Int32} {Q : Option MV → MH → Prop} (hr : zRf h) (hA : bIn B (h.1 112) 0) (hB : bOK B) (h28 : h.1 111 28 = -(nI 1)) (hW : rwM W h) (hWo : rwOK W) (hd : 7 ≤ d) (kk : ∀ h', zRf h' → mK h h' → Q (some (.inl (gMissed B W x y k))) h') : Con mX11_missed d 0 0 [.inr (.inr 111), .inl x, .inl y, .inl k] h Q := by
  unfold gMissed at kk
  have hA0 : bIn B ((zsI h 111 0 (nI 0)).1 112) 0 := hA
  have hW0 : rwM W (zsI h 111 0 (nI 0)) := hW
  have k0 := mK_0 h
  refine u_X11_missed (d1' := 6) hr (by omega) (by omega) ?_
  rcases ix3 x (n := 4) (by omega) with ⟨z, _, x1⟩ | ⟨z, _, _, x1, _, x2, _⟩ | ⟨p, hp, rfl, z⟩
  · rw [gP_none z] at kk
    simp (disch := omega) only [xle_t, xle_f, xlt_t, xlt_f, xeq_t, xeq_f, xle0_t, xle0_f, xlt0_f, x0lt_t, x0lt_f, x0le_t, xeq0_t, xeq0_f, xin, xem_f, xme_f, xlem_f, xlm_f, xml_t, xmle_t, nI_clamp, nI_add, pk_mul, pk_sub, zI_s, zI_k, zI_o, zL_s, zL_k, zL_o, zR_s, zR_k, zR_o, zIL, zIR, zIN, zLI, zLR, zLN, zRI, zRL, zRN, true_and, and_true, not_true_eq_false, not_false_eq_true, true_implies, false_implies, implies_true, forall_const, if_true, if_false, eq_self, false_and, and_false, implies_true, nI_l, ylle_t, ylle_f, xcl_t, xcl_f, x1, y_3]
    exact kk _ hr (mK_0 h)
  · rw [gP_none z] at kk
    simp (disch := omega) only [xle_t, xle_f, xlt_t, xlt_f, xeq_t, xeq_f, xle0_t, xle0_f, xlt0_f, x0lt_t, x0lt_f, x0le_t, xeq0_t, xeq0_f, xin, xem_f, xme_f, xlem_f, xlm_f, xml_t, xmle_t, nI_clamp, nI_add, pk_mul, pk_sub, zI_s, zI_k, zI_o, zL_s, zL_k, zL_o, zR_s, zR_k, zR_o, zIL, zIR, zIN, zLI, zLR, zLN, zRI, zRL, zRN, true_and, and_true, not_true_eq_false, not_false_eq_true, true_implies, false_implies, implies_true, forall_const, if_true, if_false, eq_self, false_and, and_false, implies_true, nI_l, ylle_t, ylle_f, xcl_t, xcl_f, x1, y_3, x2 3 rfl]
    exact kk _ hr (mK_0 h)
  rw [gP_some hp] at kk
  rcases ix3 y (n := 4) (by omega) with ⟨z, _, x1⟩ | ⟨z, _, _, x1, _, x2, _⟩ | ⟨q, hq, rfl, z⟩
  · rw [gW_none z] at kk
    simp (disch := omega) only [xle_t, xle_f, xlt_t, xlt_f, xeq_t, xeq_f, xle0_t, xle0_f, xlt0_f, x0lt_t, x0lt_f, x0le_t, xeq0_t, xeq0_f, xin, xem_f, xme_f, xlem_f, xlm_f, xml_t, xmle_t, nI_clamp, nI_add, pk_mul, pk_sub, zI_s, zI_k, zI_o, zL_s, zL_k, zL_o, zR_s, zR_k, zR_o, zIL, zIR, zIN, zLI, zLR, zLN, zRI, zRL, zRN, true_and, and_true, not_true_eq_false, not_false_eq_true, true_implies, false_implies, implies_true, forall_const, if_true, if_false, eq_self, false_and, and_false, implies_true, nI_l, ylle_t, ylle_f, xcl_t, xcl_f, x1, y_3]
    exact kk _ hr (mK_0 h)
  · rw [gW_none z] at kk
    simp (disch := omega) only [xle_t, xle_f, xlt_t, xlt_f, xeq_t, xeq_f, xle0_t, xle0_f, xlt0_f, x0lt_t, x0lt_f, x0le_t, xeq0_t, xeq0_f, xin, xem_f, xme_f, xlem_f, xlm_f, xml_t, xmle_t, nI_clamp, nI_add, pk_mul, pk_sub, zI_s, zI_k, zI_o, zL_s, zL_k, zL_o, zR_s, zR_k, zR_o, zIL, zIR, zIN, zLI, zLR, zLN, zRI, zRL, zRN, true_and, and_true, not_true_eq_false, not_false_eq_true, true_implies, false_implies, implies_true, forall_const, if_true, if_false, eq_self, false_and, and_false, implies_true, nI_l, ylle_t, ylle_f, xcl_t, xcl_f, x1, y_3, x2 3 rfl]
    exact kk _ hr (mK_0 h)
  rcases hw : W q with _ | ⟨s, n, f⟩
  · rw [gW_no hq hw] at kk
    have e0 := (hW q hq).1 hw
    simp (disch := omega) only [xle_t, xle_f, xlt_t, xlt_f, xeq_t, xeq_f, xle0_t, xle0_f, xlt0_f, x0lt_t, x0lt_f, x0le_t, xeq0_t, xeq0_f, xin, xem_f, xme_f, xlem_f, xlm_f, xml_t, xmle_t, nI_clamp, nI_add, pk_mul, pk_sub, zI_s, zI_k, zI_o, zL_s, zL_k, zL_o, zR_s, zR_k, zR_o, zIL, zIR, zIN, zLI, zLR, zLN, zRI, zRL, zRN, true_and, and_true, not_true_eq_false, not_false_eq_true, true_implies, false_implies, implies_true, forall_const, if_true, if_false, eq_self, false_and, and_false, implies_true, nI_l, ylle_t, ylle_f, xcl_t, xcl_f, y_3, e0]
    exact kk _ hr (mK_0 h)
  rw [gW_so hq hw] at kk
  obtain ⟨e0, e1, e2⟩ := (hW q hq).2 s n f hw
  obtain ⟨s4, n40⟩ := hWo q s n f hw
  simp (disch := omega) only [xle_t, xle_f, xlt_t, xlt_f, xeq_t, xeq_f, xle0_t, xle0_f, xlt0_f, x0lt_t, x0lt_f, x0le_t, xeq0_t, xeq0_f, xin, xem_f, xme_f, xlem_f, xlm_f, xml_t, xmle_t, nI_clamp, nI_add, pk_mul, pk_sub, zI_s, zI_k, zI_o, zL_s, zL_k, zL_o, zR_s, zR_k, zR_o, zIL, zIR, zIN, zLI, zLR, zLN, zRI, zRL, zRN, true_and, and_true, not_true_eq_false, not_false_eq_true, true_implies, false_implies, implies_true, forall_const, if_true, if_false, eq_self, false_and, and_false, implies_true, nI_l, ylle_t, ylle_f, xcl_t, xcl_f, y_3, e0]
  have h40 := (rTo_o hB hp).1
  refine n_maybe (h := zsI h 111 0 (nI 0)) hr hA0 hB (k0.2.2.2.2.trans h28) hW0 hp hq hw n40 (by omega) (by omega) (fun h1 e r1 f1 => ?_) (fun T h1 e r1 f1 e32 e139 => ?_)
  · have kk1 := kk h1 r1 (k0.trans f1)
    rw [show (s, n, f).2.1 = n from rfl, show (s, n, f).2.2 = f from rfl, e] at kk1
    refine u_X11_missed_47 ?_
    simp (disch := omega) only [xle_t, xle_f, xlt_t, xlt_f, xeq_t, xeq_f, xle0_t, xle0_f, xlt0_f, x0lt_t, x0lt_f, x0le_t, xeq0_t, xeq0_f, xin, xem_f, xme_f, xlem_f, xlm_f, xml_t, xmle_t, nI_clamp, nI_add, pk_mul, pk_sub, zI_s, zI_k, zI_o, zL_s, zL_k, zL_o, zR_s, zR_k, zR_o, zIL, zIR, zIN, zLI, zLR, zLN, zRI, zRL, zRN, true_and, and_true, not_true_eq_false, not_false_eq_true, true_implies, false_implies, implies_true, forall_const, if_true, if_false, eq_self, false_and, and_false, implies_true, nI_l, ylle_t, ylle_f, xcl_t, xcl_f]
    exact kk1
  · have kk1 := kk h1 r1 (k0.trans f1)
    rw [show (s, n, f).2.1 = n from rfl, show (s, n, f).2.2 = f from rfl, e] at kk1
    have kk2 : Q (some (.inl (fKth (fun i => !T i) k (fMi k) (rTo B.1 (B.2 p)).2.1.length 0 0))) h1 := kk1
    refine u_X11_missed_47 ?_
    simp (disch := omega) only [xle_t, xle_f, xlt_t, xlt_f, xeq_t, xeq_f, xle0_t, xle0_f, xlt0_f, x0lt_t, x0lt_f, x0le_t, xeq0_t, xeq0_f, xin, xem_f, xme_f, xlem_f, xlm_f, xml_t, xmle_t, nI_clamp, nI_add, pk_mul, pk_sub, zI_s, zI_k, zI_o, zL_s, zL_k, zL_o, zR_s, zR_k, zR_o, zIL, zIR, zIN, zLI, zLR, zLN, zRI, zRL, zRN, true_and, and_true, not_true_eq_false, not_false_eq_true, true_implies, false_implies, implies_true, forall_const, if_true, if_false, eq_self, false_and, and_false, implies_true, nI_l, ylle_t, ylle_f, xcl_t, xcl_f]
    clear kk1 e
    generalize (rTo B.1 (B.2 p)).2.1.length = le at kk2 e32 e139 h40
    have L : ∀ m i c, i + m = le → c ≤ i → Q (some (.inl (fKth (fun i => !T i) k (fMi k) m i c))) h1 → J mX11_missed d 0 0 Q 0 0 58 [some (.inr (.inr 111)), some (.inl (nI p)), some (.inl (nI q)), some (.inl k), some (.inl (nI c)), some (.inl (nI i))] [] h1 := by
      intro m
      induction m with
      | zero =>
        intro i c hi hc kq
        have kq' : Q (some (.inl (fMi k c))) h1 := kq
        unfold fMi at kq'
        refine u_X11_missed_58 r1 ?_
        by_cases z : k = -(nI 1)
        · rw [if_pos z] at kq'
          simp (disch := omega) only [xle_t, xle_f, xlt_t, xlt_f, xeq_t, xeq_f, xle0_t, xle0_f, xlt0_f, x0lt_t, x0lt_f, x0le_t, xeq0_t, xeq0_f, xin, xem_f, xme_f, xlem_f, xlm_f, xml_t, xmle_t, nI_clamp, nI_add, pk_mul, pk_sub, zI_s, zI_k, zI_o, zL_s, zL_k, zL_o, zR_s, zR_k, zR_o, zIL, zIR, zIN, zLI, zLR, zLN, zRI, zRL, zRN, true_and, and_true, not_true_eq_false, not_false_eq_true, true_implies, false_implies, implies_true, forall_const, if_true, if_false, eq_self, false_and, and_false, implies_true, nI_l, ylle_t, ylle_f, xcl_t, xcl_f, e32, z]
          exact kq'
        · rw [if_neg z] at kq'
          simp (disch := omega) only [xle_t, xle_f, xlt_t, xlt_f, xeq_t, xeq_f, xle0_t, xle0_f, xlt0_f, x0lt_t, x0lt_f, x0le_t, xeq0_t, xeq0_f, xin, xem_f, xme_f, xlem_f, xlm_f, xml_t, xmle_t, nI_clamp, nI_add, pk_mul, pk_sub, zI_s, zI_k, zI_o, zL_s, zL_k, zL_o, zR_s, zR_k, zR_o, zIL, zIR, zIN, zLI, zLR, zLN, zRI, zRL, zRN, true_and, and_true, not_true_eq_false, not_false_eq_true, true_implies, false_implies, implies_true, forall_const, if_true, if_false, eq_self, false_and, and_false, implies_true, nI_l, ylle_t, ylle_f, xcl_t, xcl_f, e32, z]
          exact kq'
      | succ m ih =>
        intro i c hi hc kq
        have kq' : Q (some (.inl (if (!T i) = true then (if nI c = k then nI i else fKth (fun i => !T i) k (fMi k) m (i + 1) (c + 1)) else fKth (fun i => !T i) k (fMi k) m (i + 1) c))) h1 := kq
        have hb := e139 i (by omega)
        refine u_X11_missed_58 r1 ?_
        by_cases v : T i = true
        · rw [v, if_neg (by decide)] at kq'
          rw [v, bIt] at hb
          simp (disch := omega) only [xle_t, xle_f, xlt_t, xlt_f, xeq_t, xeq_f, xle0_t, xle0_f, xlt0_f, x0lt_t, x0lt_f, x0le_t, xeq0_t, xeq0_f, xin, xem_f, xme_f, xlem_f, xlm_f, xml_t, xmle_t, nI_clamp, nI_add, pk_mul, pk_sub, zI_s, zI_k, zI_o, zL_s, zL_k, zL_o, zR_s, zR_k, zR_o, zIL, zIR, zIN, zLI, zLR, zLN, zRI, zRL, zRN, true_and, and_true, not_true_eq_false, not_false_eq_true, true_implies, false_implies, implies_true, forall_const, if_true, if_false, eq_self, false_and, and_false, implies_true, nI_l, ylle_t, ylle_f, xcl_t, xcl_f, e32, hb]
          exact ih (i + 1) c (by omega) (by omega) kq'
        · have v' : T i = false := by cases hT : T i with
            | false => rfl
            | true => exact absurd hT v
          rw [v', if_pos (by decide)] at kq'
          rw [v', bIf] at hb
          by_cases z : nI c = k
          · rw [if_pos z] at kq'
            simp (disch := omega) only [xle_t, xle_f, xlt_t, xlt_f, xeq_t, xeq_f, xle0_t, xle0_f, xlt0_f, x0lt_t, x0lt_f, x0le_t, xeq0_t, xeq0_f, xin, xem_f, xme_f, xlem_f, xlm_f, xml_t, xmle_t, nI_clamp, nI_add, pk_mul, pk_sub, zI_s, zI_k, zI_o, zL_s, zL_k, zL_o, zR_s, zR_k, zR_o, zIL, zIR, zIN, zLI, zLR, zLN, zRI, zRL, zRN, true_and, and_true, not_true_eq_false, not_false_eq_true, true_implies, false_implies, implies_true, forall_const, if_true, if_false, eq_self, false_and, and_false, implies_true, nI_l, ylle_t, ylle_f, xcl_t, xcl_f, e32, hb, z]
            exact kq'
          · rw [if_neg z] at kq'
            simp (disch := omega) only [xle_t, xle_f, xlt_t, xlt_f, xeq_t, xeq_f, xle0_t, xle0_f, xlt0_f, x0lt_t, x0lt_f, x0le_t, xeq0_t, xeq0_f, xin, xem_f, xme_f, xlem_f, xlm_f, xml_t, xmle_t, nI_clamp, nI_add, pk_mul, pk_sub, zI_s, zI_k, zI_o, zL_s, zL_k, zL_o, zR_s, zR_k, zR_o, zIL, zIR, zIN, zLI, zLR, zLN, zRI, zRL, zRN, true_and, and_true, not_true_eq_false, not_false_eq_true, true_implies, false_implies, implies_true, forall_const, if_true, if_false, eq_self, false_and, and_false, implies_true, nI_l, ylle_t, ylle_f, xcl_t, xcl_f, e32, hb, z]
            exact ih (i + 1) (c + 1) (by omega) (by omega) kq'
    exact L le 0 0 (by omega) (by omega) kk2
/-! stolen -/
noncomputable def fSt (R : RS) (f : Nat → Int64) (i : Nat) : Bool := decide ((f i).toInt < ((R.1.1 i / 256 : Nat) : Int))
noncomputable def gStolen (B : BK) (W : RW) (x y : Int32) : Int32 := gP x (fun p => gW W y (fun _ w => rBits (fSt (rTo B.1 (B.2 p)) w.2.2) (min B.1.1 w.2.1)))
theorem stL {v : Int64} {b : Nat} (hb : b < 2 ^ 31) : (0 ≤ lg_cmp v (lN b)) = ¬ (v.toInt < (b : Int)) := by
  refine propext ?_
  have := lg_cmp_lt v (lN b)
  rw [← Int32.not_lt, this, Int64.lt_iff_toInt_lt, pk_lT (by omega)]
theorem o_stolen {B : BK} {W : RW} {h : MH} {d : Nat} {x y : Int32} {Q : Option MV → MH → Prop} (hr : zRf h) (hA : bAt B h 15) (hB : bOK B) (hW : rwC W h) (hWo : rwOK W) (hd : 6 ≤ d) (kk : ∀ h', zRf h' → cF h h' → Q (some (.inl (gStolen B W x y))) h') : Con mX10_stolen d 0 0 [.inr (.inr 1), .inl x, .inl y] h Q := by
  unfold gStolen at kk
  have h8 := hB.1.1
  refine u_X10_stolen (d1' := 5) hr (by omega) (by omega) ?_
  rcases ix3 x (n := 4) (by omega) with ⟨z, x1, _⟩ | ⟨z, x1, x2, _⟩ | ⟨p, hp, rfl, z⟩
  · rw [gP_none z] at kk
    simp (disch := omega) only [xle_t, xle_f, xlt_t, xlt_f, xeq_t, xeq_f, xle0_t, xle0_f, xlt0_f, x0lt_t, x0lt_f, x0le_t, xeq0_t, xeq0_f, xin, xem_f, xme_f, xlem_f, xlm_f, xml_t, xmle_t, nI_clamp, nI_add, pk_mul, pk_sub, zI_s, zI_k, zI_o, zL_s, zL_k, zL_o, zR_s, zR_k, zR_o, zIL, zIR, zIN, zLI, zLR, zLN, zRI, zRL, zRN, true_and, and_true, not_true_eq_false, not_false_eq_true, true_implies, false_implies, implies_true, forall_const, if_true, if_false, eq_self, false_and, and_false, implies_true, nI_l, ylle_t, ylle_f, xcl_t, xcl_f, x1]
    exact kk h hr zF.rfl
  · rw [gP_none z] at kk
    simp (disch := omega) only [xle_t, xle_f, xlt_t, xlt_f, xeq_t, xeq_f, xle0_t, xle0_f, xlt0_f, x0lt_t, x0lt_f, x0le_t, xeq0_t, xeq0_f, xin, xem_f, xme_f, xlem_f, xlm_f, xml_t, xmle_t, nI_clamp, nI_add, pk_mul, pk_sub, zI_s, zI_k, zI_o, zL_s, zL_k, zL_o, zR_s, zR_k, zR_o, zIL, zIR, zIN, zLI, zLR, zLN, zRI, zRL, zRN, true_and, and_true, not_true_eq_false, not_false_eq_true, true_implies, false_implies, implies_true, forall_const, if_true, if_false, eq_self, false_and, and_false, implies_true, nI_l, ylle_t, ylle_f, xcl_t, xcl_f, x1, x2]
    exact kk h hr zF.rfl
  rw [gP_some hp] at kk
  rcases ix3 y (n := 4) (by omega) with ⟨z, x1, _⟩ | ⟨z, x1, x2, _⟩ | ⟨q, hq, rfl, z⟩
  · rw [gW_none z] at kk
    simp (disch := omega) only [xle_t, xle_f, xlt_t, xlt_f, xeq_t, xeq_f, xle0_t, xle0_f, xlt0_f, x0lt_t, x0lt_f, x0le_t, xeq0_t, xeq0_f, xin, xem_f, xme_f, xlem_f, xlm_f, xml_t, xmle_t, nI_clamp, nI_add, pk_mul, pk_sub, zI_s, zI_k, zI_o, zL_s, zL_k, zL_o, zR_s, zR_k, zR_o, zIL, zIR, zIN, zLI, zLR, zLN, zRI, zRL, zRN, true_and, and_true, not_true_eq_false, not_false_eq_true, true_implies, false_implies, implies_true, forall_const, if_true, if_false, eq_self, false_and, and_false, implies_true, nI_l, ylle_t, ylle_f, xcl_t, xcl_f, x1]
    exact kk h hr zF.rfl
  · rw [gW_none z] at kk
    simp (disch := omega) only [xle_t, xle_f, xlt_t, xlt_f, xeq_t, xeq_f, xle0_t, xle0_f, xlt0_f, x0lt_t, x0lt_f, x0le_t, xeq0_t, xeq0_f, xin, xem_f, xme_f, xlem_f, xlm_f, xml_t, xmle_t, nI_clamp, nI_add, pk_mul, pk_sub, zI_s, zI_k, zI_o, zL_s, zL_k, zL_o, zR_s, zR_k, zR_o, zIL, zIR, zIN, zLI, zLR, zLN, zRI, zRL, zRN, true_and, and_true, not_true_eq_false, not_false_eq_true, true_implies, false_implies, implies_true, forall_const, if_true, if_false, eq_self, false_and, and_false, implies_true, nI_l, ylle_t, ylle_f, xcl_t, xcl_f, x1, x2]
    exact kk h hr zF.rfl
  rcases hw : W q with _ | ⟨s, n, f⟩
  · rw [gW_no hq hw] at kk
    have e0 := (hW q hq).1 hw
    simp (disch := omega) only [xle_t, xle_f, xlt_t, xlt_f, xeq_t, xeq_f, xle0_t, xle0_f, xlt0_f, x0lt_t, x0lt_f, x0le_t, xeq0_t, xeq0_f, xin, xem_f, xme_f, xlem_f, xlm_f, xml_t, xmle_t, nI_clamp, nI_add, pk_mul, pk_sub, zI_s, zI_k, zI_o, zL_s, zL_k, zL_o, zR_s, zR_k, zR_o, zIL, zIR, zIN, zLI, zLR, zLN, zRI, zRL, zRN, true_and, and_true, not_true_eq_false, not_false_eq_true, true_implies, false_implies, implies_true, forall_const, if_true, if_false, eq_self, false_and, and_false, implies_true, nI_l, ylle_t, ylle_f, xcl_t, xcl_f, e0]
    exact kk h hr zF.rfl
  rw [gW_so hq hw] at kk
  obtain ⟨e0, e1, e2, e3⟩ := (hW q hq).2 s n f hw
  obtain ⟨s4, n40⟩ := hWo q s n f hw
  simp (disch := omega) only [xle_t, xle_f, xlt_t, xlt_f, xeq_t, xeq_f, xle0_t, xle0_f, xlt0_f, x0lt_t, x0lt_f, x0le_t, xeq0_t, xeq0_f, xin, xem_f, xme_f, xlem_f, xlm_f, xml_t, xmle_t, nI_clamp, nI_add, pk_mul, pk_sub, zI_s, zI_k, zI_o, zL_s, zL_k, zL_o, zR_s, zR_k, zR_o, zIL, zIR, zIN, zLI, zLR, zLN, zRI, zRL, zRN, true_and, and_true, not_true_eq_false, not_false_eq_true, true_implies, false_implies, implies_true, forall_const, if_true, if_false, eq_self, false_and, and_false, implies_true, nI_l, ylle_t, ylle_f, xcl_t, xcl_f, e0]
  refine c_pat hr hA hB hp (by omega) (fun h1 r1 f1 s1 => ?_)
  have kk1 := kk h1 r1 f1.c
  have ho := rTo_o hB hp
  have hW1 : rwC W h1 := hW.keep (f1.weak (fun a q => by omega))
  obtain ⟨b0, b1, b2, b3⟩ := (hW1 q hq).2 s n f hw
  have n0 : h1.1 16 0 = nI B.1.1 := by rw [f1.i (by omega)]; exact hA.1.1
  refine u_X10_stolen_37 r1 (by omega) ?_
  simp (disch := omega) only [xle_t, xle_f, xlt_t, xlt_f, xeq_t, xeq_f, xle0_t, xle0_f, xlt0_f, x0lt_t, x0lt_f, x0le_t, xeq0_t, xeq0_f, xin, xem_f, xme_f, xlem_f, xlm_f, xml_t, xmle_t, nI_clamp, nI_add, pk_mul, pk_sub, zI_s, zI_k, zI_o, zL_s, zL_k, zL_o, zR_s, zR_k, zR_o, zIL, zIR, zIN, zLI, zLR, zLN, zRI, zRL, zRN, true_and, and_true, not_true_eq_false, not_false_eq_true, true_implies, false_implies, implies_true, forall_const, if_true, if_false, eq_self, false_and, and_false, implies_true, nI_l, ylle_t, ylle_f, xcl_t, xcl_f, n0, b2]
  have em : (if nI B.1.1 < nI n then nI B.1.1 else nI n) = nI (min B.1.1 n) := by
    by_cases z : B.1.1 < n
    · rw [if_pos (nI_lt z (by omega)), Nat.min_eq_left (by omega)]
    · rw [if_neg (nI_nlt (by omega) (by omega)), Nat.min_eq_right (by omega)]
  try rw [em]
  clear em
  have L : ∀ m i, i + m = min B.1.1 n → J mX10_stolen d 0 0 Q 0 0 66 [some (.inr (.inr 1)), some (.inl (nI p)), some (.inl (nI q)), some (.inl (rBits (fSt (rTo B.1 (B.2 p)) f) i)), some (.inl (nI (min B.1.1 n))), some (.inl (nI i))] [] h1 := by
    intro m
    induction m with
    | zero =>
      intro i hi
      obtain rfl : i = min B.1.1 n := by omega
      refine u_X10_stolen_66 r1 ?_
      simp (disch := omega) only [xle_t, xle_f, xlt_t, xlt_f, xeq_t, xeq_f, xle0_t, xle0_f, xlt0_f, x0lt_t, x0lt_f, x0le_t, xeq0_t, xeq0_f, xin, xem_f, xme_f, xlem_f, xlm_f, xml_t, xmle_t, nI_clamp, nI_add, pk_mul, pk_sub, zI_s, zI_k, zI_o, zL_s, zL_k, zL_o, zR_s, zR_k, zR_o, zIL, zIR, zIN, zLI, zLR, zLN, zRI, zRL, zRN, true_and, and_true, not_true_eq_false, not_false_eq_true, true_implies, false_implies, implies_true, forall_const, if_true, if_false, eq_self, false_and, and_false, implies_true, nI_l, ylle_t, ylle_f, xcl_t, xcl_f]
      exact kk1
    | succ m ih =>
      intro i hi
      have i1 := ih (i + 1) (by omega)
      have e3 : h1.2.1 (103 + 2 * q + 1) i = f i := by rw [show 103 + 2 * q + 1 = 104 + 2 * q by omega]; exact b3 i (by omega)
      have e50 : h1.1 50 i = nI ((rTo B.1 (B.2 p)).1.1 i) := (s1.1.1.2 i (by omega)).1
      have bre := (ho.2.2.2.2.2 i (by omega)).1
      have ed : nI ((rTo B.1 (B.2 p)).1.1 i) / nI 256 = nI ((rTo B.1 (B.2 p)).1.1 i / 256) := pk_div (by omega) (by omega) (by omega)
      have sl := stL (v := f i) (b := (rTo B.1 (B.2 p)).1.1 i / 256) (by omega)
      rw [rBits_s] at i1
      refine u_X10_stolen_66 r1 ?_
      by_cases z : (f i).toInt < (((rTo B.1 (B.2 p)).1.1 i / 256 : Nat) : Int)
      · rw [if_pos (show fSt (rTo B.1 (B.2 p)) f i = true from decide_eq_true z)] at i1
        simp (disch := omega) only [xle_t, xle_f, xlt_t, xlt_f, xeq_t, xeq_f, xle0_t, xle0_f, xlt0_f, x0lt_t, x0lt_f, x0le_t, xeq0_t, xeq0_f, xin, xem_f, xme_f, xlem_f, xlm_f, xml_t, xmle_t, nI_clamp, nI_add, pk_mul, pk_sub, zI_s, zI_k, zI_o, zL_s, zL_k, zL_o, zR_s, zR_k, zR_o, zIL, zIR, zIN, zLI, zLR, zLN, zRI, zRL, zRN, true_and, and_true, not_true_eq_false, not_false_eq_true, true_implies, false_implies, implies_true, forall_const, if_true, if_false, eq_self, false_and, and_false, implies_true, nI_l, ylle_t, ylle_f, xcl_t, xcl_f, e3, e50, ed, sl, z]
        exact i1
      · rw [if_neg (show ¬ fSt (rTo B.1 (B.2 p)) f i = true from fun y => z (of_decide_eq_true y))] at i1
        simp (disch := omega) only [xle_t, xle_f, xlt_t, xlt_f, xeq_t, xeq_f, xle0_t, xle0_f, xlt0_f, x0lt_t, x0lt_f, x0le_t, xeq0_t, xeq0_f, xin, xem_f, xme_f, xlem_f, xlm_f, xml_t, xmle_t, nI_clamp, nI_add, pk_mul, pk_sub, zI_s, zI_k, zI_o, zL_s, zL_k, zL_o, zR_s, zR_k, zR_o, zIL, zIR, zIN, zLI, zLR, zLN, zRI, zRL, zRN, true_and, and_true, not_true_eq_false, not_false_eq_true, true_implies, false_implies, implies_true, forall_const, if_true, if_false, eq_self, false_and, and_false, implies_true, nI_l, ylle_t, ylle_f, xcl_t, xcl_f, e3, e50, ed, sl, z]
        exact i1
  exact L (min B.1.1 n) 0 (by omega)
theorem n_stolen {B : BK} {W : RW} {h : MH} {d : Nat} {x y : Int32} {Q : Option MV → MH → Prop} (hr : zRf h) (hA : bIn B (h.1 112) 0) (hB : bOK B) (h28 : h.1 111 28 = -(nI 1)) (hW : rwM W h) (hWo : rwOK W) (hd : 5 ≤ d) (kk : ∀ h', zRf h' → mK h h' → Q (some (.inl (gStolen B W x y))) h') : Con mX11_stolen d 0 0 [.inr (.inr 111), .inl x, .inl y] h Q := by
  unfold gStolen at kk
  have hA0 : bIn B ((zsI h 111 0 (nI 0)).1 112) 0 := hA
  have h8 := hB.1.1
  refine u_X11_stolen (d1' := 2) hr (by omega) (by omega) ?_
  rcases ix3 x (n := 4) (by omega) with ⟨z, _, x1⟩ | ⟨z, _, _, x1, _, x2, _⟩ | ⟨p, hp, rfl, z⟩
  · rw [gP_none z] at kk
    simp (disch := omega) only [xle_t, xle_f, xlt_t, xlt_f, xeq_t, xeq_f, xle0_t, xle0_f, xlt0_f, x0lt_t, x0lt_f, x0le_t, xeq0_t, xeq0_f, xin, xem_f, xme_f, xlem_f, xlm_f, xml_t, xmle_t, nI_clamp, nI_add, pk_mul, pk_sub, zI_s, zI_k, zI_o, zL_s, zL_k, zL_o, zR_s, zR_k, zR_o, zIL, zIR, zIN, zLI, zLR, zLN, zRI, zRL, zRN, true_and, and_true, not_true_eq_false, not_false_eq_true, true_implies, false_implies, implies_true, forall_const, if_true, if_false, eq_self, false_and, and_false, implies_true, nI_l, ylle_t, ylle_f, xcl_t, xcl_f, x1, y_3]
    exact kk _ hr (mK_0 h)
  · rw [gP_none z] at kk
    simp (disch := omega) only [xle_t, xle_f, xlt_t, xlt_f, xeq_t, xeq_f, xle0_t, xle0_f, xlt0_f, x0lt_t, x0lt_f, x0le_t, xeq0_t, xeq0_f, xin, xem_f, xme_f, xlem_f, xlm_f, xml_t, xmle_t, nI_clamp, nI_add, pk_mul, pk_sub, zI_s, zI_k, zI_o, zL_s, zL_k, zL_o, zR_s, zR_k, zR_o, zIL, zIR, zIN, zLI, zLR, zLN, zRI, zRL, zRN, true_and, and_true, not_true_eq_false, not_false_eq_true, true_implies, false_implies, implies_true, forall_const, if_true, if_false, eq_self, false_and, and_false, implies_true, nI_l, ylle_t, ylle_f, xcl_t, xcl_f, x1, y_3, x2 3 rfl]
    exact kk _ hr (mK_0 h)
  rw [gP_some hp] at kk
  rcases ix3 y (n := 4) (by omega) with ⟨z, _, x1⟩ | ⟨z, _, _, x1, _, x2, _⟩ | ⟨q, hq, rfl, z⟩
  · rw [gW_none z] at kk
    simp (disch := omega) only [xle_t, xle_f, xlt_t, xlt_f, xeq_t, xeq_f, xle0_t, xle0_f, xlt0_f, x0lt_t, x0lt_f, x0le_t, xeq0_t, xeq0_f, xin, xem_f, xme_f, xlem_f, xlm_f, xml_t, xmle_t, nI_clamp, nI_add, pk_mul, pk_sub, zI_s, zI_k, zI_o, zL_s, zL_k, zL_o, zR_s, zR_k, zR_o, zIL, zIR, zIN, zLI, zLR, zLN, zRI, zRL, zRN, true_and, and_true, not_true_eq_false, not_false_eq_true, true_implies, false_implies, implies_true, forall_const, if_true, if_false, eq_self, false_and, and_false, implies_true, nI_l, ylle_t, ylle_f, xcl_t, xcl_f, x1, y_3]
    exact kk _ hr (mK_0 h)
  · rw [gW_none z] at kk
    simp (disch := omega) only [xle_t, xle_f, xlt_t, xlt_f, xeq_t, xeq_f, xle0_t, xle0_f, xlt0_f, x0lt_t, x0lt_f, x0le_t, xeq0_t, xeq0_f, xin, xem_f, xme_f, xlem_f, xlm_f, xml_t, xmle_t, nI_clamp, nI_add, pk_mul, pk_sub, zI_s, zI_k, zI_o, zL_s, zL_k, zL_o, zR_s, zR_k, zR_o, zIL, zIR, zIN, zLI, zLR, zLN, zRI, zRL, zRN, true_and, and_true, not_true_eq_false, not_false_eq_true, true_implies, false_implies, implies_true, forall_const, if_true, if_false, eq_self, false_and, and_false, implies_true, nI_l, ylle_t, ylle_f, xcl_t, xcl_f, x1, y_3, x2 3 rfl]
    exact kk _ hr (mK_0 h)
  rcases hw : W q with _ | ⟨s, n, f⟩
  · rw [gW_no hq hw] at kk
    have e0 := (hW q hq).1 hw
    simp (disch := omega) only [xle_t, xle_f, xlt_t, xlt_f, xeq_t, xeq_f, xle0_t, xle0_f, xlt0_f, x0lt_t, x0lt_f, x0le_t, xeq0_t, xeq0_f, xin, xem_f, xme_f, xlem_f, xlm_f, xml_t, xmle_t, nI_clamp, nI_add, pk_mul, pk_sub, zI_s, zI_k, zI_o, zL_s, zL_k, zL_o, zR_s, zR_k, zR_o, zIL, zIR, zIN, zLI, zLR, zLN, zRI, zRL, zRN, true_and, and_true, not_true_eq_false, not_false_eq_true, true_implies, false_implies, implies_true, forall_const, if_true, if_false, eq_self, false_and, and_false, implies_true, nI_l, ylle_t, ylle_f, xcl_t, xcl_f, y_3, e0]
    exact kk _ hr (mK_0 h)
  rw [gW_so hq hw] at kk
  obtain ⟨e0, e1, e2⟩ := (hW q hq).2 s n f hw
  obtain ⟨s4, n40⟩ := hWo q s n f hw
  simp (disch := omega) only [xle_t, xle_f, xlt_t, xlt_f, xeq_t, xeq_f, xle0_t, xle0_f, xlt0_f, x0lt_t, x0lt_f, x0le_t, xeq0_t, xeq0_f, xin, xem_f, xme_f, xlem_f, xlm_f, xml_t, xmle_t, nI_clamp, nI_add, pk_mul, pk_sub, zI_s, zI_k, zI_o, zL_s, zL_k, zL_o, zR_s, zR_k, zR_o, zIL, zIR, zIN, zLI, zLR, zLN, zRI, zRL, zRN, true_and, and_true, not_true_eq_false, not_false_eq_true, true_implies, false_implies, implies_true, forall_const, if_true, if_false, eq_self, false_and, and_false, implies_true, nI_l, ylle_t, ylle_f, xcl_t, xcl_f, y_3, e0]
  refine n_ast hr hA0.1 hB.1 (by omega) (fun h1 r1 f1 m1 => ?_)
  have hA1 : bIn B (h1.1 112) 0 := by rw [f1.i (by omega)]; exact hA0
  have k1 := (mK_0 h).trans (mK_116 f1)
  refine u_X11_stolen_44 (d1' := 4) r1 (by omega) ?_
  refine n_runs (lo := 40) r1 hp (fT_ok hB.1) m1 (mP.of hA1 hp (k1.2.2.2.2.trans h28)) (hB.2 p hp) (Or.inl ⟨rfl, rfl⟩) (by omega) (fun h2 r2 f2 s2 => ?_)
  have kk1 := kk h2 r2 (k1.trans f2.k)
  have s2' : mS B.1.1 (rTo B.1 (B.2 p)) h2 := s2
  have ho := rTo_o hB hp
  obtain ⟨b0, b1, b2⟩ := ((k1.trans f2.k).w hW q hq).2 s n f hw
  have n0 : h2.1 112 0 = nI B.1.1 := by rw [f2.1.i (by omega)]; exact hA1.1.1
  refine u_X11_stolen_50 ?_
  have L : ∀ m i, i + m = min B.1.1 n → J mX11_stolen d 0 0 Q 0 0 55 [some (.inr (.inr 111)), some (.inl (nI p)), some (.inl (nI q)), some (.inl (rBits (fSt (rTo B.1 (B.2 p)) f) i)), some (.inl (nI i))] [] h2 := by
    intro m
    induction m with
    | zero =>
      intro i hi
      obtain rfl : i = min B.1.1 n := by omega
      refine u_X11_stolen_55 r2 ?_
      by_cases z : B.1.1 ≤ min B.1.1 n
      · simp (disch := omega) only [xle_t, xle_f, xlt_t, xlt_f, xeq_t, xeq_f, xle0_t, xle0_f, xlt0_f, x0lt_t, x0lt_f, x0le_t, xeq0_t, xeq0_f, xin, xem_f, xme_f, xlem_f, xlm_f, xml_t, xmle_t, nI_clamp, nI_add, pk_mul, pk_sub, zI_s, zI_k, zI_o, zL_s, zL_k, zL_o, zR_s, zR_k, zR_o, zIL, zIR, zIN, zLI, zLR, zLN, zRI, zRL, zRN, true_and, and_true, not_true_eq_false, not_false_eq_true, true_implies, false_implies, implies_true, forall_const, if_true, if_false, eq_self, false_and, and_false, implies_true, nI_l, ylle_t, ylle_f, xcl_t, xcl_f, n0, z]
        exact kk1
      · have z2 : n ≤ min B.1.1 n := by omega
        simp (disch := omega) only [xle_t, xle_f, xlt_t, xlt_f, xeq_t, xeq_f, xle0_t, xle0_f, xlt0_f, x0lt_t, x0lt_f, x0le_t, xeq0_t, xeq0_f, xin, xem_f, xme_f, xlem_f, xlm_f, xml_t, xmle_t, nI_clamp, nI_add, pk_mul, pk_sub, zI_s, zI_k, zI_o, zL_s, zL_k, zL_o, zR_s, zR_k, zR_o, zIL, zIR, zIN, zLI, zLR, zLN, zRI, zRL, zRN, true_and, and_true, not_true_eq_false, not_false_eq_true, true_implies, false_implies, implies_true, forall_const, if_true, if_false, eq_self, false_and, and_false, implies_true, nI_l, ylle_t, ylle_f, xcl_t, xcl_f, n0, z, b1, z2]
        exact kk1
    | succ m ih =>
      intro i hi
      have i1 := ih (i + 1) (by omega)
      have e3 := b2 i (by omega)
      have e117 : h2.1 117 i = nI ((rTo B.1 (B.2 p)).1.1 i) := (s2'.1 i (by omega)).1
      have bre := (ho.2.2.2.2.2 i (by omega)).1
      have ed : nI ((rTo B.1 (B.2 p)).1.1 i) / nI 256 = nI ((rTo B.1 (B.2 p)).1.1 i / 256) := pk_div (by omega) (by omega) (by omega)
      have sl := stL (v := f i) (b := (rTo B.1 (B.2 p)).1.1 i / 256) (by omega)
      rw [rBits_s] at i1
      refine u_X11_stolen_55 r2 ?_
      by_cases z : (f i).toInt < (((rTo B.1 (B.2 p)).1.1 i / 256 : Nat) : Int)
      · rw [if_pos (show fSt (rTo B.1 (B.2 p)) f i = true from decide_eq_true z)] at i1
        simp (disch := omega) only [xle_t, xle_f, xlt_t, xlt_f, xeq_t, xeq_f, xle0_t, xle0_f, xlt0_f, x0lt_t, x0lt_f, x0le_t, xeq0_t, xeq0_f, xin, xem_f, xme_f, xlem_f, xlm_f, xml_t, xmle_t, nI_clamp, nI_add, pk_mul, pk_sub, zI_s, zI_k, zI_o, zL_s, zL_k, zL_o, zR_s, zR_k, zR_o, zIL, zIR, zIN, zLI, zLR, zLN, zRI, zRL, zRN, true_and, and_true, not_true_eq_false, not_false_eq_true, true_implies, false_implies, implies_true, forall_const, if_true, if_false, eq_self, false_and, and_false, implies_true, nI_l, ylle_t, ylle_f, xcl_t, xcl_f, e3, n0, b1, e117, ed, sl, z]
        exact i1
      · rw [if_neg (show ¬ fSt (rTo B.1 (B.2 p)) f i = true from fun y => z (of_decide_eq_true y))] at i1
        simp (disch := omega) only [xle_t, xle_f, xlt_t, xlt_f, xeq_t, xeq_f, xle0_t, xle0_f, xlt0_f, x0lt_t, x0lt_f, x0le_t, xeq0_t, xeq0_f, xin, xem_f, xme_f, xlem_f, xlm_f, xml_t, xmle_t, nI_clamp, nI_add, pk_mul, pk_sub, zI_s, zI_k, zI_o, zL_s, zL_k, zL_o, zR_s, zR_k, zR_o, zIL, zIR, zIN, zLI, zLR, zLN, zRI, zRL, zRN, true_and, and_true, not_true_eq_false, not_false_eq_true, true_implies, false_implies, implies_true, forall_const, if_true, if_false, eq_self, false_and, and_false, implies_true, nI_l, ylle_t, ylle_f, xcl_t, xcl_f, e3, n0, b1, e117, ed, sl, z]
        rw [show ∀ x : Int32, x ||| nI 0 = x from fun x => Int32.or_zero]
        exact i1
  exact L (min B.1.1 n) 0 (by omega)
