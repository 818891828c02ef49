/-! ===== one run: the class's cells ===== -/
def eI (e : Nat) : Int32 := if e = 0 then -(nI 1) else nI (e - 1)
def oI (o : Option Nat) : Int32 := match o with
  | none => -(nI 1)
  | some v => nI v
def cu (l : List Nat) : Int32 := match l with
  | [] => -(nI 1)
  | x :: _ => nI x
def lnk (f : Nat → Int32) : List Nat → Prop
  | [] => True
  | x :: r => f x = cu r ∧ lnk f r
def lst (x : Nat) : List Nat → Nat
  | [] => x
  | y :: r => lst y r
theorem lst_mem : ∀ (x : Nat) (r : List Nat), lst x r ∈ x :: r
  | x, [] => List.mem_cons_self
  | x, y :: r => List.mem_cons_of_mem _ (lst_mem y r)
theorem lst_app : ∀ (x : Nat) (r : List Nat) (b : Nat) (s : List Nat), lst x (r ++ b :: s) = lst b s
  | x, [], b, s => rfl
  | x, y :: r, b, s => lst_app y r b s
theorem lnk_congr {f f' : Nat → Int32} : ∀ {l : List Nat}, (∀ x, x ∈ l → f' x = f x) → lnk f l → lnk f' l
  | [], _, _ => trivial
  | x :: r, h, q => ⟨(h x List.mem_cons_self).trans q.1, lnk_congr (fun y hy => h y (List.mem_cons_of_mem _ hy)) q.2⟩
theorem lnk_last {f : Nat → Int32} : ∀ {x : Nat} {r : List Nat}, lnk f (x :: r) → f (lst x r) = -(nI 1)
  | x, [], q => q.1
  | x, y :: r, q => lnk_last (x := y) (r := r) q.2
theorem lnk_app {f f' : Nat → Int32} {b : Nat} {s : List Nat} : ∀ {x : Nat} {r : List Nat}, lnk f (x :: r) → lnk f' (b :: s) → (∀ y, y ∈ x :: r → y < 2 ^ 31) → f' (lst x r) = nI b → (∀ y, y ≠ lst x r → f' y = f y) → lnk f' (x :: (r ++ b :: s))
  | x, [], q, w, _, e, _ => ⟨e, w⟩
  | x, y :: r, q, w, hm, e, hn => by
    have hx : x ≠ lst y r := by
      intro z
      have h1 := lnk_last (x := y) (r := r) q.2
      rw [← z, q.1] at h1
      have := xem_f (hm y (List.mem_cons_of_mem _ List.mem_cons_self))
      exact (this ▸ h1 : False)
    exact ⟨(hn x hx).trans q.1, lnk_app (x := y) (r := r) q.2 w (fun z hz => hm z (List.mem_cons_of_mem _ hz)) e hn⟩
def kK (n : Nat) (K : RC) (h : MH) : Prop := h.1 48 0 = nI n ∧ ∀ c, c < n → h.1 50 c = nI (K.1 c) ∧ h.1 51 c = nI (K.2.1 c) ∧ h.1 52 c = nI (K.2.2.1 c) ∧ h.1 55 c = eI (K.2.2.2.2.2 c) ∧ (K.2.2.2.2.1 c = 0 → ∃ r, K.2.2.2.1 c = c :: r ∧ lnk (h.1 53) (c :: r) ∧ h.1 54 c = nI (lst c r))
def kT (T : RT) (h : MH) : Prop := h.1 48 9 = nI T.1.length ∧ (∀ k, k < T.1.length → h.1 56 k = nI (T.1.getD k 0)) ∧ (∀ i, i < 64 → (h.2.1 48 10).toBitVec.getLsbD i = T.2.1 i) ∧ h.1 48 11 = T.2.2.1 ∧ h.1 48 12 = nI T.2.2.2.1 ∧ h.1 48 13 = nI T.2.2.2.2
/-- numbers small enough -/
def kB (n : Nat) (K : RC) : Prop := n ≤ 8 ∧ ∀ c, c < n → K.1 c ≤ 400000000 ∧ K.2.1 c ≤ 2 ∧ K.2.2.1 c ≤ 400000000
theorem rV.b {n : Nat} {R : RS} (h : rV n R) : kB n R.1 := ⟨h.1.1, fun c hc => ⟨h.re c hc, (h.1.2.2.1 c hc).1, (h.1.2.2.1 c hc).2.2⟩⟩
/-- what a run leaves as it is -/
def kF (h h' : MH) : Prop := zF (fun a => a < 48 ∨ 56 < a ∨ a = 49) h h' ∧ h'.2.2.1 48 14 = h.2.2.1 48 14 ∧ h'.1 48 15 = h.1 48 15
theorem kF.rfl {h : MH} : kF h h := ⟨zF.rfl, Eq.refl _, Eq.refl _⟩
theorem kF.trans {h h1 h2 : MH} (a : kF h h1) (b : kF h1 h2) : kF h h2 := ⟨a.1.trans b.1, b.2.1.trans a.2.1, b.2.2.trans a.2.2⟩
theorem kF_I {h : MH} {a k : Nat} {v : Int32} (ha : 48 ≤ a ∧ a ≤ 56 ∧ a ≠ 49) (hk : a = 48 → k ≠ 15) : kF h (zsI h a k v) := by
  refine ⟨zF_I _ _ _ (by omega), Eq.refl _, ?_⟩
  by_cases e : a = 48
  · subst e
    exact zI_k _ _ _ (fun z => hk (Eq.refl _) z.symm)
  · rw [zI_o _ _ _ (fun z => e z.symm)]
theorem kF_L {h : MH} {k : Nat} {v : Int64} : kF h (zsL h 48 k v) := ⟨zF_L _ _ _ (by omega), Eq.refl _, Eq.refl _⟩
theorem c_nx {n : Nat} {K : RC} {h : MH} {d : Nat} {Q : Option MV → MH → Prop} (hr : zRf h) (hK : kK n K h) (hB : kB n K) (hd : 1 ≤ d) (kk : Q (some (.inl (oI (rNx K n 0 none)))) h) : Con mX8_untilNextEnd d 0 0 [.inr (.inr 48)] h Q := by
  obtain ⟨h8, hB⟩ := hB
  refine u_X8_untilNextEnd ?_
  have L : ∀ m c, c + m = n → ∀ o : Option Nat, (∀ v, o = some v → v ≤ 400000000) → rNx K m c o = rNx K n 0 none → ∀ u, J mX8_untilNextEnd d 0 0 Q 0 0 4 [some (.inr (.inr 48)), some (.inl (oI o)), some (.inl (nI c)), u] [] h := by
    intro m
    induction m with
    | zero =>
      intro c hc o ho e u
      have e2 : o = rNx K n 0 none := e
      refine u_X8_untilNextEnd_4 hr hd ?_
      simp (disch := omega) only [xle_t, xle_f, xlt_t, xlt_f, xeq_t, xeq_f, xle0_t, xle0_f, xlt0_f, x0lt_t, x0lt_f, x0le_t, xeq0_t, xeq0_f, xin, xem_f, xme_f, xlem_f, xlm_f, xml_t, xmle_t, nI_clamp, nI_add, pk_mul, pk_sub, zI_s, zI_k, zI_o, zL_s, zL_k, zL_o, zR_s, zR_k, zR_o, zIL, zIR, zIN, zLI, zLR, zLN, zRI, zRL, zRN, true_and, and_true, not_true_eq_false, not_false_eq_true, true_implies, false_implies, implies_true, forall_const, if_true, if_false, eq_self, false_and, and_false, implies_true, hK.1]
      rw [e2]
      exact kk
    | succ m ih =>
      intro c hc o ho e u
      obtain ⟨a0, a1, _⟩ := hK.2 c (by omega)
      obtain ⟨b0, b1, _⟩ := hB c (by omega)
      refine u_X8_untilNextEnd_4 hr hd ?_
      have e2 : rNx K m (c + 1) (if 0 < K.2.1 c then some (oMin o (K.1 c / K.2.1 c)) else o) = rNx K n 0 none := e
      have hq : K.1 c / K.2.1 c ≤ K.1 c := Nat.div_le_self _ _
      by_cases f0 : 0 < K.2.1 c
      · rw [if_pos f0] at e2
        cases o with
        | none =>
          simp (disch := omega) only [xle_t, xle_f, xlt_t, xlt_f, xeq_t, xeq_f, xle0_t, xle0_f, xlt0_f, x0lt_t, x0lt_f, x0le_t, xeq0_t, xeq0_f, xin, xem_f, xme_f, xlem_f, xlm_f, xml_t, xmle_t, nI_clamp, nI_add, pk_mul, pk_sub, zI_s, zI_k, zI_o, zL_s, zL_k, zL_o, zR_s, zR_k, zR_o, zIL, zIR, zIN, zLI, zLR, zLN, zRI, zRL, zRN, true_and, and_true, not_true_eq_false, not_false_eq_true, true_implies, false_implies, implies_true, forall_const, if_true, if_false, eq_self, false_and, and_false, implies_true, hK.1, a0, a1, oI, pk_div]
          exact ih (c + 1) (by omega) (some (K.1 c / K.2.1 c)) (fun v hv => by cases hv; omega) e2 _
        | some v =>
          have := ho v rfl
          simp (disch := omega) only [xle_t, xle_f, xlt_t, xlt_f, xeq_t, xeq_f, xle0_t, xle0_f, xlt0_f, x0lt_t, x0lt_f, x0le_t, xeq0_t, xeq0_f, xin, xem_f, xme_f, xlem_f, xlm_f, xml_t, xmle_t, nI_clamp, nI_add, pk_mul, pk_sub, zI_s, zI_k, zI_o, zL_s, zL_k, zL_o, zR_s, zR_k, zR_o, zIL, zIR, zIN, zLI, zLR, zLN, zRI, zRL, zRN, true_and, and_true, not_true_eq_false, not_false_eq_true, true_implies, false_implies, implies_true, forall_const, if_true, if_false, eq_self, false_and, and_false, implies_true, hK.1, a0, a1, oI, pk_div, xmin]
          exact ih (c + 1) (by omega) (some (min (K.1 c / K.2.1 c) v)) (fun v hv => by cases hv; omega) e2 _
      · rw [if_neg f0] at e2
        simp (disch := omega) only [xle_t, xle_f, xlt_t, xlt_f, xeq_t, xeq_f, xle0_t, xle0_f, xlt0_f, x0lt_t, x0lt_f, x0le_t, xeq0_t, xeq0_f, xin, xem_f, xme_f, xlem_f, xlm_f, xml_t, xmle_t, nI_clamp, nI_add, pk_mul, pk_sub, zI_s, zI_k, zI_o, zL_s, zL_k, zL_o, zR_s, zR_k, zR_o, zIL, zIR, zIN, zLI, zLR, zLN, zRI, zRL, zRN, true_and, and_true, not_true_eq_false, not_false_eq_true, true_implies, false_implies, implies_true, forall_const, if_true, if_false, eq_self, false_and, and_false, implies_true, hK.1, a0, a1]
        exact ih (c + 1) (by omega) o ho e2 _
  exact L n 0 (by omega) none (fun v hv => by cases hv) rfl none
theorem c_own {n : Nat} {w : Nat → Nat} {h : MH} {d : Nat} {Q : Option MV → MH → Prop} {x : Nat} {r : List Nat} {a : Nat} (hn : n ≤ 8) (hr : zRf h) (hl : lnk (h.1 53) (x :: r)) (hm : ∀ y, y ∈ x :: r → y < n) (hlen : (x :: r).length ≤ 8) (hw : ∀ c, c < n → h.1 52 c = nI (w c) ∧ w c ≤ 400000000) (ha : a ≤ 400000000) (hd : 1 ≤ d) (kk : ∀ h', zRf h' → zF (fun a => a ≠ 52) h h' → (∀ c, c < n → h'.1 52 c = nI (rOwn (x :: r) a w c)) → Q none h') : Con mX8_burnOwn d 0 0 [.inr (.inr 48), .inl (nI x), .inl (nI a)] h Q := by
  refine u_X8_burnOwn ?_
  have L : ∀ (l : List Nat) (i b : Nat) (v : Nat → Nat) (g : MH) (u : Option MV), lnk (h.1 53) l → (∀ y, y ∈ l → y < n) → i + l.length ≤ 8 → b ≤ 400000000 → zRf g → zF (fun a => a ≠ 52) h g → (∀ c, c < n → g.1 52 c = nI (v c) ∧ v c ≤ 400000000) → rOwn l b v = rOwn (x :: r) a w → J mX8_burnOwn d 0 0 Q 0 0 8 [some (.inr (.inr 48)), some (.inl (nI x)), some (.inl (nI a)), some (.inl (nI b)), some (.inl (cu l)), some (.inl (nI i)), u] [] g := by
    intro l
    induction l with
    | nil =>
      intro i b v g u q1 q2 q3 q4 q5 q6 q7 e
      have fin := kk g q5 q6 (fun c hc => by rw [← e]; exact (q7 c hc).1)
      refine u_X8_burnOwn_8 q5 hd ?_
      simp (disch := omega) only [xle_t, xle_f, xlt_t, xlt_f, xeq_t, xeq_f, xle0_t, xle0_f, xlt0_f, x0lt_t, x0lt_f, x0le_t, xeq0_t, xeq0_f, xin, xem_f, xme_f, xlem_f, xlm_f, xml_t, xmle_t, nI_clamp, nI_add, pk_mul, pk_sub, zI_s, zI_k, zI_o, zL_s, zL_k, zL_o, zR_s, zR_k, zR_o, zIL, zIR, zIN, zLI, zLR, zLN, zRI, zRL, zRN, true_and, and_true, not_true_eq_false, not_false_eq_true, true_implies, false_implies, implies_true, forall_const, if_true, if_false, eq_self, false_and, and_false, implies_true, cu]
      exact ⟨fun _ => fin, fun _ => fin⟩
    | cons y l ih =>
      intro i b v g u q1 q2 q3 q4 q5 q6 q7 e
      have hy := q2 y List.mem_cons_self
      have q3' : i + (l.length + 1) ≤ 8 := q3
      obtain ⟨w1, w2⟩ := q7 y hy
      have e53 : g.1 53 = h.1 53 := q6.i (by decide)
      refine u_X8_burnOwn_8 q5 hd ?_
      by_cases b0 : b = 0
      · subst b0
        rw [rOwn_0] at e
        simp (disch := omega) only [xle_t, xle_f, xlt_t, xlt_f, xeq_t, xeq_f, xle0_t, xle0_f, xlt0_f, x0lt_t, x0lt_f, x0le_t, xeq0_t, xeq0_f, xin, xem_f, xme_f, xlem_f, xlm_f, xml_t, xmle_t, nI_clamp, nI_add, pk_mul, pk_sub, zI_s, zI_k, zI_o, zL_s, zL_k, zL_o, zR_s, zR_k, zR_o, zIL, zIR, zIN, zLI, zLR, zLN, zRI, zRL, zRN, true_and, and_true, not_true_eq_false, not_false_eq_true, true_implies, false_implies, implies_true, forall_const, if_true, if_false, eq_self, false_and, and_false, implies_true, cu]
        exact kk g q5 q6 (fun c hc => by rw [← e]; exact (q7 c hc).1)
      · have hmn : (if nI b < nI (v y) then nI b else nI (v y)) = nI (min (v y) b) := by
          rw [xmin (by omega) (by omega), Nat.min_comm]
        simp (disch := omega) only [xle_t, xle_f, xlt_t, xlt_f, xeq_t, xeq_f, xle0_t, xle0_f, xlt0_f, x0lt_t, x0lt_f, x0le_t, xeq0_t, xeq0_f, xin, xem_f, xme_f, xlem_f, xlm_f, xml_t, xmle_t, nI_clamp, nI_add, pk_mul, pk_sub, zI_s, zI_k, zI_o, zL_s, zL_k, zL_o, zR_s, zR_k, zR_o, zIL, zIR, zIN, zLI, zLR, zLN, zRI, zRL, zRN, true_and, and_true, not_true_eq_false, not_false_eq_true, true_implies, false_implies, implies_true, forall_const, if_true, if_false, eq_self, false_and, and_false, implies_true, cu, w1, hmn, e53, q1.1]
        refine ih (i + 1) (b - min (v y) b) (kU v y (v y - min (v y) b)) _ _ q1.2 (fun z hz => q2 z (List.mem_cons_of_mem _ hz)) (by omega) (by omega) q5 (q6.trans (zF_I _ _ _ (by omega))) (fun c hc => ?_) e
        by_cases z : c = y
        · rw [z, zI_s, kU_s]; exact ⟨rfl, by omega⟩
        · rw [zI_k _ _ _ z, kU_o _ _ z]; exact q7 c hc
  exact L (x :: r) 0 a w h none hl hm (by omega) ha hr zF.rfl hw rfl
