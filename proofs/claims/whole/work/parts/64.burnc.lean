/-! ===== burn, putAwayEnded (class) ===== -/
theorem kT.keep {T : RT} {h h' : MH} (q : kT T h) (e1 : h'.1 48 = h.1 48) (e2 : h'.1 56 = h.1 56) (e3 : h'.2.1 48 = h.2.1 48) : kT T h' := by
  unfold kT
  rw [e1, e2, e3]
  exact q
theorem kK.keep {n : Nat} {K : RC} {h h' : MH} (q : kK n K h) (e0 : h'.1 48 0 = h.1 48 0) (e : ∀ a, 50 ≤ a → a ≤ 55 → h'.1 a = h.1 a) : kK n K h' := by
  unfold kK
  rw [e0, e 50 (by omega) (by omega), e 51 (by omega) (by omega), e 52 (by omega) (by omega), e 53 (by omega) (by omega), e 54 (by omega) (by omega), e 55 (by omega) (by omega)]
  exact q
theorem rV.ch {n : Nat} {R : RS} (h : rV n R) {c : Nat} (hc : c < n) (hs : R.1.2.2.2.2.1 c = 0) : ∃ r, R.1.2.2.2.1 c = c :: r ∧ (∀ y, y ∈ c :: r → y < n) ∧ (c :: r).length ≤ 8 := by
  obtain ⟨⟨i0, i1, i2, ⟨g, i3⟩, i4⟩, p, sm⟩ := h
  obtain ⟨⟨r, er⟩, hx⟩ := i3 c hc hs
  refine ⟨r, er, fun y hy => (hx y (by rw [er]; exact hy)).1, ?_⟩
  have h1 := fb_one (rLn R.1) hc
  have h2 : rLn R.1 c = (c :: r).length := by unfold rLn; rw [if_pos hs, er]
  omega
theorem rV.fl {n : Nat} {R : RS} (h : rV n R) {c : Nat} (hc : c < n) (hf : 0 < R.1.2.1 c) : R.1.2.2.2.2.1 c = 0 := by
  by_cases z : R.1.2.2.2.2.1 c = 0
  · exact z
  · have := ((h.1.2.2.1 c hc).2.1 z).1
    omega
theorem c_burn {n s : Nat} {R : RS} {h : MH} {d : Nat} {Q : Option MV → MH → Prop} (hr : zRf h) (hK : kK n R.1 h) (hT : kT R.2 h) (hV : rV n R) (hs : ∀ x, x < n → 0 < R.1.2.1 x → s ≤ R.1.1 x / R.1.2.1 x) (hs4 : s ≤ 400000000) (hd : 2 ≤ d) (kk : ∀ h', zRf h' → kF h h' → kK n (rBurn s n 0 R.1) h' → kT (rTick s R.2) h' → Q none h') : Con mX8_burn d 0 0 [.inr (.inr 48), .inl (nI s)] h Q := by
  have h8 := hV.1.1
  have hn4 : R.2.2.2.2.2 ≤ 400000000 := by have := hV.2.2; omega
  have hfr : ∀ x, x < n → s * R.1.2.1 x ≤ R.1.1 x := by
    intro x hx
    by_cases f : 0 < R.1.2.1 x
    · have := hs x hx f
      have h2 : R.1.1 x / R.1.2.1 x * R.1.2.1 x ≤ R.1.1 x := Nat.div_mul_le_self _ _
      exact Nat.le_trans (Nat.mul_le_mul_right _ this) h2
    · rw [show R.1.2.1 x = 0 by omega]; omega
  refine u_X8_burn hr ?_
  rw [hT.2.2.2.2.2, nI_add]
  have L : ∀ m c, c + m = n → ∀ (K : RC) (g : MH), zRf g → kF h g → kK n K g → kT (rTick s R.2) g → K.2.1 = R.1.2.1 → K.2.2.2 = R.1.2.2.2 → (∀ x, c ≤ x → K.1 x = R.1.1 x) → (∀ x, x < n → K.1 x ≤ 400000000 ∧ K.2.2.1 x ≤ 400000000) → rBurn s m c K = rBurn s n 0 R.1 → J mX8_burn d 0 0 Q 0 0 12 [some (.inr (.inr 48)), some (.inl (nI s)), some (.inl (nI c))] [] g := by
    intro m
    induction m with
    | zero =>
      intro c hc K g rg fg kg tg e1 e2 e3 e4 e
      refine u_X8_burn_12 (d1' := 0) rg (by omega) ?_
      simp (disch := omega) only [xle_t, xle_f, xlt_t, xlt_f, xeq_t, xeq_f, xle0_t, xle0_f, xlt0_f, x0lt_t, x0lt_f, x0le_t, xeq0_t, xeq0_f, xin, xem_f, xme_f, xlem_f, xlm_f, xml_t, xmle_t, nI_clamp, nI_add, pk_mul, pk_sub, zI_s, zI_k, zI_o, zL_s, zL_k, zL_o, zR_s, zR_k, zR_o, zIL, zIR, zIN, zLI, zLR, zLN, zRI, zRL, zRN, true_and, and_true, not_true_eq_false, not_false_eq_true, true_implies, false_implies, implies_true, forall_const, if_true, if_false, eq_self, false_and, and_false, implies_true, kg.1]
      have e' : K = rBurn s n 0 R.1 := e
      rw [e'] at kg
      exact kk g rg fg kg tg
    | succ m ih =>
      intro c hc K g rg fg kg tg e1 e2 e3 e4 e
      obtain ⟨a0, a1, a2, a3, a4⟩ := kg.2 c (by omega)
      have b1 := (hV.1.2.2.1 c (by omega)).1
      have e' : rBurn s m (c + 1) (rBurn1 s c K) = rBurn s n 0 R.1 := e
      refine u_X8_burn_12 (d1' := 1) rg (by omega) ?_
      rw [e1] at a1
      rw [e3 c (by omega)] at a0
      by_cases f : 0 < R.1.2.1 c
      · have hst := hV.fl (c := c) (by omega) f
        have hf := hfr c (by omega)
        have hre := hV.re c (by omega)
        obtain ⟨r, er, hm, hlen⟩ := hV.ch (c := c) (by omega) hst
        have hch : K.2.2.2.1 = R.1.2.2.2.1 := congrArg (fun z => z.1) e2
        have hst2 : K.2.2.2.2.1 = R.1.2.2.2.2.1 := congrArg (fun z => z.2.1) e2
        obtain ⟨r', er', hl, hlast⟩ := a4 (by rw [hst2]; exact hst)
        rw [hch, er] at er'
        obtain rfl : r = r' := (List.cons.inj er').2
        simp (disch := omega) only [xle_t, xle_f, xlt_t, xlt_f, xeq_t, xeq_f, xle0_t, xle0_f, xlt0_f, x0lt_t, x0lt_f, x0le_t, xeq0_t, xeq0_f, xin, xem_f, xme_f, xlem_f, xlm_f, xml_t, xmle_t, nI_clamp, nI_add, pk_mul, pk_sub, zI_s, zI_k, zI_o, zL_s, zL_k, zL_o, zR_s, zR_k, zR_o, zIL, zIR, zIN, zLI, zLR, zLN, zRI, zRL, zRN, true_and, and_true, not_true_eq_false, not_false_eq_true, true_implies, false_implies, implies_true, forall_const, if_true, if_false, eq_self, false_and, and_false, implies_true, kg.1, a1, a0]
        refine c_own (n := n) (w := K.2.2.1) (by omega) rg ?_ hm hlen (fun x hx => ⟨?_, (e4 x hx).2⟩) (by omega) (by omega) (fun g2 r2 f2 w2 => ?_)
        · rw [zI_o _ _ _ (by omega)]; exact hl
        · rw [zI_o _ _ _ (by omega)]; exact (kg.2 x hx).2.2.1
        refine u_X8_burn_59 ?_
        rw [nI_add]
        have eb : rBurn1 s c K = (kU K.1 c (K.1 c - s * K.2.1 c), K.2.1, rOwn (c :: r) (s * K.2.1 c) K.2.2.1, K.2.2.2) := by
          unfold rBurn1
          rw [if_pos (by rw [e1]; exact f), hch, er]
        rw [e1, e3 c (by omega)] at eb
        have fI : kF g (zsI g 50 c (nI (R.1.1 c - s * R.1.2.1 c))) := kF_I (by omega) (by omega)
        have f2' : kF (zsI g 50 c (nI (R.1.1 c - s * R.1.2.1 c))) g2 := ⟨f2.weak (fun a z => by omega), congrFun (f2.r (a := 48) (by omega)) 14, by rw [f2.i (by omega)]⟩
        refine ih (c + 1) (by omega) (rBurn1 s c K) g2 r2 (fg.trans (fI.trans f2')) ?_ ?_ ?_ ?_ ?_ ?_ e'
        · rw [eb]
          refine ⟨?_, fun x hx => ⟨?_, ?_, w2 x hx, ?_, fun q => ?_⟩⟩
          · rw [f2.i (by omega), zI_o _ _ _ (by omega)]; exact kg.1
          · show _ = nI (kU K.1 c (R.1.1 c - s * R.1.2.1 c) x)
            rw [f2.i (by omega)]
            by_cases z : x = c
            · rw [z, zI_s, kU_s]
            · rw [zI_k _ _ _ z, kU_o _ _ z]; exact (kg.2 x hx).1
          · rw [f2.i (by omega), zI_o _ _ _ (by omega), (kg.2 x hx).2.1, e1]
          · rw [f2.i (by omega), zI_o _ _ _ (by omega)]; exact (kg.2 x hx).2.2.2.1
          · rw [f2.i (by omega), zI_o _ _ _ (by omega), f2.i (by omega), zI_o _ _ _ (by omega)]
            exact (kg.2 x hx).2.2.2.2 q
        · refine tg.keep ?_ ?_ ?_
          · rw [f2.i (by omega), zI_o _ _ _ (by omega)]
          · rw [f2.i (by omega), zI_o _ _ _ (by omega)]
          · rw [f2.l (by omega)]; rfl
        · rw [eb]
        · rw [eb]; exact e2
        · intro x hx
          rw [eb]
          show kU K.1 c _ x = _
          rw [kU_o _ _ (by omega)]; exact e3 x (by omega)
        · intro x hx
          rw [eb]
          refine ⟨?_, Nat.le_trans (rOwn_le _ _ _ _) (e4 x hx).2⟩
          show kU K.1 c _ x ≤ _
          by_cases z : x = c
          · rw [z, kU_s]; omega
          · rw [kU_o _ _ z]; exact (e4 x hx).1
      · have eb : rBurn1 s c K = K := by
          unfold rBurn1
          rw [if_neg (by rw [e1]; exact f)]
        rw [eb] at e'
        simp (disch := omega) only [xle_t, xle_f, xlt_t, xlt_f, xeq_t, xeq_f, xle0_t, xle0_f, xlt0_f, x0lt_t, x0lt_f, x0le_t, xeq0_t, xeq0_f, xin, xem_f, xme_f, xlem_f, xlm_f, xml_t, xmle_t, nI_clamp, nI_add, pk_mul, pk_sub, zI_s, zI_k, zI_o, zL_s, zL_k, zL_o, zR_s, zR_k, zR_o, zIL, zIR, zIN, zLI, zLR, zLN, zRI, zRL, zRN, true_and, and_true, not_true_eq_false, not_false_eq_true, true_implies, false_implies, implies_true, forall_const, if_true, if_false, eq_self, false_and, and_false, implies_true, kg.1, a1]
        exact ih (c + 1) (by omega) K g rg fg kg tg e1 e2 (fun x hx => e3 x (by omega)) e4 e'
  refine L n 0 (by omega) R.1 _ hr (kF_I (by omega) (by omega)) (hK.keep (zI_k _ _ _ (by omega)) (fun a h1 h2 => zI_o _ _ _ (by omega))) ?_ rfl rfl (fun _ _ => rfl) (fun x hx => ⟨hV.re x hx, (hV.1.2.2.1 x hx).2.2⟩) rfl
  obtain ⟨t1, t2, t3, t4, t5, t6⟩ := hT
  refine ⟨?_, fun k hk => ?_, t3, ?_, ?_, ?_⟩
  · rw [zI_k _ _ _ (by omega)]; exact t1
  · rw [zI_o _ _ _ (by omega)]; exact t2 k hk
  · rw [zI_k _ _ _ (by omega)]; exact t4
  · rw [zI_k _ _ _ (by omega)]; exact t5
  · rw [zI_s]; rfl
/-- candles as bits -/
def rBits (E : Nat → Bool) : Nat → Int32
  | 0 => nI 0
  | n + 1 => if E n = true then rBits E n ||| rBit n else rBits E n
theorem c_away {n : Nat} {K : RC} {T : RT} {h : MH} {d : Nat} {Q : Option MV → MH → Prop} (hr : zRf h) (hK : kK n K h) (hT : kT T h) (hB : kB n K) (hno : T.2.2.2.2 ≤ 400000000) (kk : ∀ h', zRf h' → kF h h' → kK n (rAway K T.2.2.2.2 n) h' → kT T h' → Q (some (.inl (rBits (rE K) n))) h') : Con mX8_putAwayEnded d 0 0 [.inr (.inr 48)] h Q := by
  obtain ⟨h8, hB⟩ := hB
  refine u_X8_putAwayEnded ?_
  have L : ∀ m c, c + m = n → ∀ g : MH, zRf g → kF h g → kK n (rAway K T.2.2.2.2 c) g → kT T g → J mX8_putAwayEnded d 0 0 Q 0 0 4 [some (.inr (.inr 48)), some (.inl (rBits (rE K) c)), some (.inl (nI c))] [] g := by
    intro m
    induction m with
    | zero =>
      intro c hc g rg fg kg tg
      obtain rfl : c = n := by omega
      refine u_X8_putAwayEnded_4 rg ?_
      simp (disch := omega) only [xle_t, xle_f, xlt_t, xlt_f, xeq_t, xeq_f, xle0_t, xle0_f, xlt0_f, x0lt_t, x0lt_f, x0le_t, xeq0_t, xeq0_f, xin, xem_f, xme_f, xlem_f, xlm_f, xml_t, xmle_t, nI_clamp, nI_add, pk_mul, pk_sub, zI_s, zI_k, zI_o, zL_s, zL_k, zL_o, zR_s, zR_k, zR_o, zIL, zIR, zIN, zLI, zLR, zLN, zRI, zRL, zRN, true_and, and_true, not_true_eq_false, not_false_eq_true, true_implies, false_implies, implies_true, forall_const, if_true, if_false, eq_self, false_and, and_false, implies_true, kg.1]
      exact kk g rg fg kg tg
    | succ m ih =>
      intro c hc g rg fg kg tg
      obtain ⟨a0, a1, a2, a3, a4⟩ := kg.2 c (by omega)
      obtain ⟨b0, b1, _⟩ := hB c (by omega)
      have a0' : g.1 50 c = nI (K.1 c) := a0
      have a1' : g.1 51 c = nI (K.2.1 c) := by
        have : (rAway K T.2.2.2.2 c).2.1 c = K.2.1 c := if_neg (by omega)
        rw [a1, this]
      refine u_X8_putAwayEnded_4 rg ?_
      have hbit : rBits (rE K) (c + 1) = if rE K c = true then rBits (rE K) c ||| rBit c else rBits (rE K) c := rfl
      have same : ¬ rE K c = true → kK n (rAway K T.2.2.2.2 (c + 1)) g := by
        intro z
        have e : rAway K T.2.2.2.2 (c + 1) = rAway K T.2.2.2.2 c := by
          have hc' : ∀ x, (x < c + 1 ∧ rE K x = true) ↔ (x < c ∧ rE K x = true) := by
            intro x
            constructor
            · rintro ⟨w1, w2⟩
              refine ⟨?_, w2⟩
              by_cases y : x = c
              · rw [y] at w2; exact absurd w2 z
              · omega
            · rintro ⟨w1, w2⟩; exact ⟨by omega, w2⟩
          unfold rAway
          simp only [hc']
        rw [e]; exact kg
      by_cases f : 0 < K.2.1 c
      · by_cases w : K.1 c = 0
        · have z : rE K c = true := rE_t.mpr ⟨f, w⟩
          rw [if_pos z] at hbit
          have e13 : g.1 48 13 = nI T.2.2.2.2 := tg.2.2.2.2.2
          simp (disch := omega) only [xle_t, xle_f, xlt_t, xlt_f, xeq_t, xeq_f, xle0_t, xle0_f, xlt0_f, x0lt_t, x0lt_f, x0le_t, xeq0_t, xeq0_f, xin, xem_f, xme_f, xlem_f, xlm_f, xml_t, xmle_t, nI_clamp, nI_add, pk_mul, pk_sub, zI_s, zI_k, zI_o, zL_s, zL_k, zL_o, zR_s, zR_k, zR_o, zIL, zIR, zIN, zLI, zLR, zLN, zRI, zRL, zRN, true_and, and_true, not_true_eq_false, not_false_eq_true, true_implies, false_implies, implies_true, forall_const, if_true, if_false, eq_self, false_and, and_false, implies_true, kg.1, a0', a1', e13]
          have := ih (c + 1) (by omega) (zsI (zsI g 51 c 0) 55 c (nI T.2.2.2.2)) rg (fg.trans ((kF_I (by omega) (by omega)).trans (kF_I (by omega) (by omega)))) ?_ (tg.keep (by rw [zI_o _ _ _ (by omega), zI_o _ _ _ (by omega)]) (by rw [zI_o _ _ _ (by omega), zI_o _ _ _ (by omega)]) rfl)
          · rw [hbit] at this
            exact this
          · refine ⟨?_, fun x hx => ?_⟩
            · rw [zI_o _ _ _ (by omega), zI_o _ _ _ (by omega)]; exact kg.1
            · obtain ⟨c0, c1, c2, c3, c4⟩ := kg.2 x hx
              by_cases y : x = c
              · subst y
                have q : x < x + 1 ∧ rE K x = true := ⟨by omega, z⟩
                refine ⟨?_, ?_, ?_, ?_, ?_⟩
                · rw [zI_o _ _ _ (by omega), zI_o _ _ _ (by omega)]; exact c0
                · have : (rAway K T.2.2.2.2 (x + 1)).2.1 x = 0 := if_pos q
                  rw [zI_o _ _ _ (by omega), zI_s, this]; rfl
                · rw [zI_o _ _ _ (by omega), zI_o _ _ _ (by omega)]; exact c2
                · have : (rAway K T.2.2.2.2 (x + 1)).2.2.2.2.2 x = T.2.2.2.2 + 1 := if_pos q
                  rw [zI_s, this]; rfl
                · have : (rAway K T.2.2.2.2 (x + 1)).2.2.2.2.1 x = 1 := if_pos q
                  intro v
                  rw [this] at v
                  omega
              · have q : (x < c + 1 ∧ rE K x = true) ↔ (x < c ∧ rE K x = true) := by
                  constructor
                  · rintro ⟨w1, w2⟩; exact ⟨by omega, w2⟩
                  · rintro ⟨w1, w2⟩; exact ⟨by omega, w2⟩
                have e1 : (rAway K T.2.2.2.2 (c + 1)).2.1 x = (rAway K T.2.2.2.2 c).2.1 x := by
                  show (if _ then _ else _) = if _ then _ else _
                  simp only [q]
                have e2 : (rAway K T.2.2.2.2 (c + 1)).2.2.2.2.1 x = (rAway K T.2.2.2.2 c).2.2.2.2.1 x := by
                  show (if _ then _ else _) = if _ then _ else _
                  simp only [q]
                have e3 : (rAway K T.2.2.2.2 (c + 1)).2.2.2.2.2 x = (rAway K T.2.2.2.2 c).2.2.2.2.2 x := by
                  show (if _ then _ else _) = if _ then _ else _
                  simp only [q]
                rw [e1, e2, e3]
                refine ⟨?_, ?_, ?_, ?_, ?_⟩
                · rw [zI_o _ _ _ (by omega), zI_o _ _ _ (by omega)]; exact c0
                · rw [zI_o _ _ _ (by omega), zI_k _ _ _ y]; exact c1
                · rw [zI_o _ _ _ (by omega), zI_o _ _ _ (by omega)]; exact c2
                · rw [zI_k _ _ _ y, zI_o _ _ _ (by omega)]; exact c3
                · rw [zI_o _ _ _ (by omega), zI_o _ _ _ (by omega), zI_o _ _ _ (by omega), zI_o _ _ _ (by omega)]; exact c4
        · have z : ¬ rE K c = true := by rw [rE_t]; omega
          rw [if_neg z] at hbit
          simp (disch := omega) only [xle_t, xle_f, xlt_t, xlt_f, xeq_t, xeq_f, xle0_t, xle0_f, xlt0_f, x0lt_t, x0lt_f, x0le_t, xeq0_t, xeq0_f, xin, xem_f, xme_f, xlem_f, xlm_f, xml_t, xmle_t, nI_clamp, nI_add, pk_mul, pk_sub, zI_s, zI_k, zI_o, zL_s, zL_k, zL_o, zR_s, zR_k, zR_o, zIL, zIR, zIN, zLI, zLR, zLN, zRI, zRL, zRN, true_and, and_true, not_true_eq_false, not_false_eq_true, true_implies, false_implies, implies_true, forall_const, if_true, if_false, eq_self, false_and, and_false, implies_true, kg.1, a0', a1']
          rw [← hbit]
          exact ih (c + 1) (by omega) g rg fg (same z) tg
      · have z : ¬ rE K c = true := by rw [rE_t]; omega
        rw [if_neg z] at hbit
        simp (disch := omega) only [xle_t, xle_f, xlt_t, xlt_f, xeq_t, xeq_f, xle0_t, xle0_f, xlt0_f, x0lt_t, x0lt_f, x0le_t, xeq0_t, xeq0_f, xin, xem_f, xme_f, xlem_f, xlm_f, xml_t, xmle_t, nI_clamp, nI_add, pk_mul, pk_sub, zI_s, zI_k, zI_o, zL_s, zL_k, zL_o, zR_s, zR_k, zR_o, zIL, zIR, zIN, zLI, zLR, zLN, zRI, zRL, zRN, true_and, and_true, not_true_eq_false, not_false_eq_true, true_implies, false_implies, implies_true, forall_const, if_true, if_false, eq_self, false_and, and_false, implies_true, kg.1, a0', a1']
        rw [← hbit]
        exact ih (c + 1) (by omega) g rg fg (same z) tg
  refine L n 0 (by omega) h hr kF.rfl ?_ hT
  have e : rAway K T.2.2.2.2 0 = K := by
    have hc' : ∀ x, (x < 0 ∧ rE K x = true) ↔ False := fun x => ⟨fun w => absurd w.1 (Nat.not_lt_zero _), fun w => w.elim⟩
    unfold rAway
    simp only [hc', if_false]
  rw [e]; exact hK
