/-! ===== readPieces ===== -/
def cOld (C : CE) (h : MH) (a : Nat) : Prop := ∀ c, c < C.1 → h.1 (a + 1) c = nI (C.2.1 c) ∧ (∀ k, k < C.2.1 c → h.1 (a + 2) (6 * c + k) = nI (C.2.2.1 c k)) ∧ h.1 (a + 3) c = nI (C.2.2.2.1 c) ∧ h.1 (a + 4) c = nI (C.2.2.2.2 c)
def cNew (C : CE) (k : Nat) (ms : Nat → Nat) (w d : Nat) (h : MH) (a : Nat) : Prop := h.1 a 0 = nI (C.1 + 1) ∧ cOld C h a ∧ h.1 (a + 1) C.1 = nI k ∧ (∀ j, j < k → h.1 (a + 2) (6 * C.1 + j) = nI (ms j)) ∧ h.1 (a + 3) C.1 = nI w ∧ h.1 (a + 4) C.1 = nI d
theorem cNew_at {C : CE} {k : Nat} {ms : Nat → Nat} {w d : Nat} {h : MH} {a : Nat} (q : cNew C k ms w d h a) : cAt (cAdd C k ms w d) h a := by
  obtain ⟨q0, qo, q1, q2, q3, q4⟩ := q
  refine ⟨q0, fun c hc => ?_⟩
  have hc' : c < C.1 + 1 := hc
  by_cases e : c = C.1
  · subst e
    show h.1 (a + 1) C.1 = nI (if C.1 = C.1 then k else _) ∧ (∀ j, j < (if C.1 = C.1 then k else _) → h.1 (a + 2) (6 * C.1 + j) = nI ((if C.1 = C.1 then ms else _) j)) ∧ h.1 (a + 3) C.1 = nI (if C.1 = C.1 then w else _) ∧ h.1 (a + 4) C.1 = nI (if C.1 = C.1 then d else _)
    rw [if_pos rfl, if_pos rfl, if_pos rfl, if_pos rfl]
    exact ⟨q1, q2, q3, q4⟩
  · have := qo c (by omega)
    show h.1 (a + 1) c = nI (if c = C.1 then k else _) ∧ (∀ j, j < (if c = C.1 then k else _) → h.1 (a + 2) (6 * c + j) = nI ((if c = C.1 then ms else _) j)) ∧ h.1 (a + 3) c = nI (if c = C.1 then w else _) ∧ h.1 (a + 4) c = nI (if c = C.1 then d else _)
    rw [if_neg e, if_neg e, if_neg e, if_neg e]
    exact this
theorem cNew.keep {C : CE} {k : Nat} {ms : Nat → Nat} {w d : Nat} {h h' : MH} {a : Nat} (q : cNew C k ms w d h a) (e : ∀ k, k ≤ 4 → h'.1 (a + k) = h.1 (a + k)) : cNew C k ms w d h' a := by
  have e0 := e 0 (by omega)
  have e1 := e 1 (by omega)
  have e2 := e 2 (by omega)
  have e3 := e 3 (by omega)
  have e4 := e 4 (by omega)
  rw [Nat.add_zero] at e0
  unfold cNew cOld
  rw [e0, e1, e2, e3, e4]
  exact q
/-- what reading a cellar may change -/
def zG (h h' : MH) : Prop := zF (fun a => a ≠ 2 ∧ (a < 4 ∨ 8 < a)) h h'
theorem rS.g {h h' : MH} (s : rS h h') : zG h h' := s.1.weak (fun a q => by omega)
theorem rS.d {h h' : MH} (s : rS h h') {a : Nat} (ha : a ≠ 2) : h'.1 a = h.1 a := s.1.i ha
theorem cNew.rS {C : CE} {k : Nat} {ms : Nat → Nat} {w d : Nat} {h h' : MH} (q : cNew C k ms w d h 4) (s : rS h h') : cNew C k ms w d h' 4 := q.keep (fun k _ => s.1.i (by show 4 + k ≠ 2; omega))
theorem RI.keep {f : Nat → Nat} {n : Nat} {t : TK} {h h' : MH} (R : RI f n t h) (hr : zRf h') (e2 : h'.1 2 = h.1 2) (e3 : h'.1 3 = h.1 3) : RI f n t h' := by
  refine ⟨hr, R.2.1.keep e3, ?_, R.2.2.2⟩
  unfold rC
  rw [e2]
  exact R.2.2.1
theorem c_addP {C : CE} {i : Nat} {ms : Nat → Nat} {w dr v : Nat} {h : MH} {d : Nat} {Q : Option MV → MH → Prop} (hr : zRf h) (hC : cOK C) (q : cNew C i ms w dr h 4) (h8 : C.1 < 8) (hi : i ≤ 6) (hd : 1 ≤ d) (k0 : i = 6 → Q (some (.inl (nI 0))) h) (k1 : i < 6 → ∀ h', zRf h' → zF (fun a => a < 4 ∨ 8 < a) h h' → cNew C (i + 1) (kU ms i v) w dr h' 4 → Q (some (.inl (nI 1))) h') : Con mX2_addPiece d 0 0 [.inr (.inr 4), .inl (nI C.1), .inl (nI v)] h Q := by
  obtain ⟨q0, qo, q1, q2, q3, q4⟩ := q
  have hnl : ¬ h.1 4 0 ≤ nI C.1 := by rw [q0, nI_leI (by omega) (by omega)]; omega
  have ec : (nI C.1).toNatClampNeg = C.1 := nI_clamp (by omega)
  have e1 : h.1 (4 + 1) (nI C.1).toNatClampNeg = nI i := by rw [ec]; exact q1
  refine t_X2_addPiece hr hd (zo hr (by decide) rfl) (fun _ _ => vp_in_nI h8 (by omega)) (fun _ _ p => ?_) (fun p => absurd p (nI_pos (by omega))) (fun _ p => absurd p hnl) (fun _ _ p => ?_) (fun _ _ p => ?_)
  · rw [e1, nI_ltI (by omega) (by omega)] at p
    rw [e1, pk_mul, nI_add]
    exact vp_in_nI (by omega) (by omega)
  · rw [e1, nI_ltI (by omega) (by omega)] at p
    rw [e1, pk_mul, nI_add, nI_clamp (by omega), ec]
    rw [zI_o _ _ _ (show 4 + 1 ≠ 4 + 2 by decide), q1, nI_add]
    refine k1 p _ hr ((zF_I _ _ _ (by omega)).trans (zF_I _ _ _ (by omega))) ⟨?_, fun c hc => ?_, ?_, fun j hj => ?_, ?_, ?_⟩
    · rw [zI_o _ _ _ (by decide), zI_o _ _ _ (by decide)]; exact q0
    · have := qo c hc
      refine ⟨?_, fun k hk => ?_, ?_, ?_⟩
      · rw [zI_k _ _ _ (by omega), zI_o _ _ _ (by decide)]; exact this.1
      · rw [zI_o _ _ _ (by decide)]
        by_cases e : 6 * c + k = C.1 * 6 + i
        · exfalso
          have := (hC.2 c hc).1
          omega
        · rw [zI_k _ _ _ e]; exact this.2.1 k hk
      · rw [zI_o _ _ _ (by decide), zI_o _ _ _ (by decide)]; exact this.2.2.1
      · rw [zI_o _ _ _ (by decide), zI_o _ _ _ (by decide)]; exact this.2.2.2
    · rw [zI_s]
    · rw [zI_o _ _ _ (by decide)]
      show _ = nI (if j = i then v else ms j)
      by_cases e : j = i
      · rw [if_pos e, e, show 6 * C.1 + i = C.1 * 6 + i by omega, zI_s]
      · rw [if_neg e, zI_k _ _ _ (by omega)]
        exact q2 j (by omega)
    · rw [zI_o _ _ _ (by decide), zI_o _ _ _ (by decide)]; exact q3
    · rw [zI_o _ _ _ (by decide), zI_o _ _ _ (by decide)]; exact q4
  · rw [e1, nI_ltI (by omega) (by omega)] at p
    exact k0 (by omega)
theorem rfH_g {h0 h : MH} (e : Nat × Nat) (g : zG h0 h) : zG h0 (rfH h e) := g.trans ((zF_I _ _ _ (by omega)).trans (zF_I _ _ _ (by omega)))
theorem rfH_6 (h : MH) (e : Nat × Nat) : (rfH h e).1 2 6 = nI e.1 := by unfold rfH; rw [zI_k _ _ _ (by decide), zI_s]
theorem rfH_7 (h : MH) (e : Nat × Nat) : (rfH h e).1 2 7 = nI e.2 := by unfold rfH; rw [zI_s]
theorem rfH_r {h : MH} (e : Nat × Nat) (hr : zRf h) : zRf (rfH h e) := hr
theorem c_pcs {f : Nat → Nat} {n : Nat} {C : CE} {d : Nat} {Q : Option MV → MH → Prop} (hC : cOK C) (h8 : C.1 < 8) (h0 : MH) (hd : 3 ≤ d) : ∀ m i, i + m = 6 → ∀ (ms : Nat → Nat) (t : TK) (h : MH), RI f n t h → zG h0 h → h.1 2 6 = h0.1 2 6 → h.1 2 7 = h0.1 2 7 → cNew C i ms 60 0 h 4 → (∀ j, j < i → 1 ≤ ms j ∧ ms j ≤ 60) → (∀ e h', pPcs f n (m + 2) i ms (kNx f n t) = .inl e → zRf h' → zG h0 h' → h'.1 2 6 = nI e.1 → h'.1 2 7 = nI e.2 → Q (some (.inl (nI 0))) h') → (∀ k ms' t1 h', pPcs f n (m + 2) i ms (kNx f n t) = .inr (k, ms', t1) → RI f n t1 h' → zG h0 h' → h'.1 2 6 = h0.1 2 6 → h'.1 2 7 = h0.1 2 7 → cNew C k ms' 60 0 h' 4 → (1 ≤ k ∧ k ≤ 6) → (∀ j, j < k → 1 ≤ ms' j ∧ ms' j ≤ 60) → Q (some (.inl (nI 1))) h') → J mX6_readPieces d 0 0 Q 0 0 2 [some (.inr (.inr 2)), some (.inr (.inr 4)), some (.inl (nI C.1)), some (.inl (nI i))] [] h := by
  intro m
  induction m with
  | zero =>
    intro i hi ms t h R g e6 e7 q hms k0 k1
    obtain rfl : i = 6 := by omega
    refine t_X6_readPieces_2 (d1' := 2) R.1 (by omega) (by omega) (fun z => absurd z (by decide)) (fun z => absurd z (by decide)) (fun _ => ?_)
    refine c_nxt R (by omega) (fun h1 R1 s1 => ?_)
    have g1 : zG h0 h1 := g.trans s1.g
    have q1 := q.rS s1
    generalize kNx f n t = t1 at R1 k0 k1
    by_cases c12 : t1.1 = 12
    · have c2 : h1.1 2 3 = nI 2 := R1.cl.2.1.mpr c12
      have cN := c_num (A0 := fun x => Q (some (.inl (nI 0))) x) (A1 := Con mX2_addPiece 1 0 0 [.inr (.inr 4), .inl (nI C.1), .inl (h1.1 2 5)] h1 (zri fun (x : Int32) h' => J mX6_readPieces d 0 0 Q 0 0 47 [some (.inr (.inr 2)), some (.inr (.inr 4)), some (.inl (nI C.1)), some (.inl (nI 6))] [.inl x] h')) R1 (show 1 ≤ 999 by decide) (show 60 ≤ 999 by decide) (fun e he => ?_) (fun v hv hv5 => ?_)
      · have n0 : ¬ nI 6 ≤ 0 := by decide
        exact t_X6_readPieces_12 (d1' := 1) (d2' := 1) R1.1 (by omega) (by omega) (by omega) (fun _ _ _ _ => zo R1.1 (by decide) rfl) (fun _ _ _ _ => zo R1.1 (by decide) rfl) (fun z => absurd z n0) (fun z => absurd z n0) (fun z => absurd z n0) (fun z => absurd z n0) (fun z => absurd z n0) (fun z => absurd z n0) (fun z => absurd z n0) (fun _ => cN.1) (fun _ => cN.2.1) (fun _ => cN.2.2.1) (fun _ => cN.2.2.2.1) (fun _ => cN.2.2.2.2.1) (fun _ z => absurd c2 z)
      · refine k0 e _ ?_ (rfH_r e R1.1) (rfH_g e g1) (rfH_6 _ _) (rfH_7 _ _)
        unfold pNum at he
        rw [if_pos c12] at he
        show (if t1.1 = 12 then _ else _) = _
        rw [if_pos c12]
        split at he
        · cases he
        · rename_i w
          rw [if_neg w]; exact congrArg Sum.inl (Sum.inl.inj he)
      · unfold pNum at hv
        rw [if_pos c12] at hv
        split at hv
        · rename_i w
          have hv' : t1.2.2.2 = v := Sum.inr.inj hv
          rw [hv5]
          refine c_addP R1.1 hC q1 h8 (by omega) (by omega) (fun _ => ?_) (fun z => absurd z (by decide))
          refine t_X6_readPieces_47 R1.1 (by omega) (fun z => absurd rfl z) (fun _ z => ?_) (fun _ z => ?_)
          · rw [(rf_at R1 4).1 z]
            refine k0 _ _ ?_ (rfH_r _ R1.1) (rfH_g _ g1) (rfH_6 _ _) (rfH_7 _ _)
            show (if t1.1 = 12 then _ else _) = _
            rw [if_pos c12, if_pos w]
            rfl
          · rw [(rf_at R1 4).2 z]
            refine k0 _ _ ?_ (rfH_r _ R1.1) (rfH_g _ g1) (rfH_6 _ _) (rfH_7 _ _)
            show (if t1.1 = 12 then _ else _) = _
            rw [if_pos c12, if_pos w]
            rfl
        · cases hv
    · have c2 : ¬ h1.1 2 3 = nI 2 := fun z => c12 (R1.cl.2.1.mp z)
      have n0 : ¬ nI 6 ≤ 0 := by decide
      refine t_X6_readPieces_12 (d1' := 1) (d2' := 1) R1.1 (by omega) (by omega) (by omega) (fun _ _ _ _ => zo R1.1 (by decide) rfl) (fun _ _ _ _ => zo R1.1 (by decide) rfl) (fun z => absurd z n0) (fun z => absurd z n0) (fun z => absurd z n0) (fun z => absurd z n0) (fun z => absurd z n0) (fun z => absurd z n0) (fun z => absurd z n0) (fun _ z => absurd z c2) (fun _ z => absurd z c2) (fun _ z => absurd z c2) (fun _ z => absurd z c2) (fun _ z => absurd z c2) (fun _ _ => ?_)
      refine k1 6 ms t1 h1 ?_ R1 g1 (s1.2.1.trans e6) (s1.2.2.trans e7) q1 (by decide) hms
      show (if t1.1 = 12 then _ else _) = _
      rw [if_neg c12]
      rfl
  | succ m ih =>
    intro i hi ms t h R g e6 e7 q hms k0 k1
    have l6 : ¬ nI 6 < nI i := by rw [nI_ltI (by omega) (by omega)]; omega
    refine t_X6_readPieces_2 (d1' := 2) R.1 (by omega) (by omega) (fun z => absurd z l6) (fun z => absurd z l6) (fun _ => ?_)
    refine c_nxt R (by omega) (fun h1 R1 s1 => ?_)
    have g1 : zG h0 h1 := g.trans s1.g
    have q1 := q.rS s1
    generalize kNx f n t = t1 at R1 k0 k1
    have hi6 : i < 6 := by omega
    have hz : nI i ≤ 0 ↔ i = 0 := by
      have := nI_leI (a := i) (b := 0) (by omega) (by omega)
      rw [nI_0] at this
      rw [this]; omega
    by_cases c12 : t1.1 = 12
    · have c2 : h1.1 2 3 = nI 2 := R1.cl.2.1.mpr c12
      have cN := c_num (A0 := fun x => Q (some (.inl (nI 0))) x) (A1 := Con mX2_addPiece 1 0 0 [.inr (.inr 4), .inl (nI C.1), .inl (h1.1 2 5)] h1 (zri fun (x : Int32) h' => J mX6_readPieces d 0 0 Q 0 0 47 [some (.inr (.inr 2)), some (.inr (.inr 4)), some (.inl (nI C.1)), some (.inl (nI i))] [.inl x] h')) R1 (show 1 ≤ 999 by decide) (show 60 ≤ 999 by decide) (fun e he => ?_) (fun v hv hv5 => ?_)
      · exact t_X6_readPieces_12 (d1' := 1) (d2' := 1) R1.1 (by omega) (by omega) (by omega) (fun _ _ _ _ => zo R1.1 (by decide) rfl) (fun _ _ _ _ => zo R1.1 (by decide) rfl) (fun _ => cN.1) (fun _ => cN.2.1) (fun _ => cN.2.2.1) (fun _ => cN.2.2.2.1) (fun _ => cN.2.2.2.2.1) (fun _ z => absurd c2 z) (fun _ z => absurd c2 z) (fun _ => cN.1) (fun _ => cN.2.1) (fun _ => cN.2.2.1) (fun _ => cN.2.2.2.1) (fun _ => cN.2.2.2.2.1) (fun _ z => absurd c2 z)
      · refine k0 e _ ?_ (rfH_r e R1.1) (rfH_g e g1) (rfH_6 _ _) (rfH_7 _ _)
        unfold pNum at he
        rw [if_pos c12] at he
        show (if t1.1 = 12 then _ else _) = _
        rw [if_pos c12]
        split at he
        · cases he
        · rename_i w
          rw [if_neg w]; exact congrArg Sum.inl (Sum.inl.inj he)
      · unfold pNum at hv
        rw [if_pos c12] at hv
        split at hv
        · rename_i w
          have hv' : t1.2.2.2 = v := Sum.inr.inj hv
          rw [hv5]
          refine c_addP R1.1 hC q1 h8 (by omega) (by omega) (fun z => absurd z (by omega)) (fun _ h2 r2 f2 q2 => ?_)
          refine t_X6_readPieces_47 r2 (by omega) (fun _ => ?_) (fun z => absurd z (by decide)) (fun z => absurd z (by decide))
          rw [nI_add]
          have R2 : RI f n t1 h2 := R1.keep r2 (f2.i (by decide)) (f2.i (by decide))
          have ee : pPcs f n (m + 1 + 2) i ms t1 = pPcs f n (m + 2) (i + 1) (kU ms i v) (kNx f n t1) := by
            show (if t1.1 = 12 then (if _ then (if _ then _ else _) else _) else _) = _
            rw [if_pos c12, if_pos w, if_pos hi6, hv']
          rw [ee] at k0 k1
          refine ih (i + 1) (by omega) (kU ms i v) t1 h2 R2 (g1.trans (f2.weak (fun a z => by omega))) (by rw [f2.i (by decide)]; exact s1.2.1.trans e6) (by rw [f2.i (by decide)]; exact s1.2.2.trans e7) q2 (fun j hj => ?_) k0 k1
          show 1 ≤ (if j = i then v else ms j) ∧ (if j = i then v else ms j) ≤ 60
          split
          · omega
          · exact hms j (by omega)
        · cases hv
    · have c2 : ¬ h1.1 2 3 = nI 2 := fun z => c12 (R1.cl.2.1.mp z)
      refine t_X6_readPieces_12 (d1' := 1) (d2' := 1) R1.1 (by omega) (by omega) (by omega) (fun _ _ _ _ => zo R1.1 (by decide) rfl) (fun _ _ _ _ => zo R1.1 (by decide) rfl) (fun _ z => absurd z c2) (fun _ z => absurd z c2) (fun _ z => absurd z c2) (fun _ z => absurd z c2) (fun _ z => absurd z c2) (fun p _ z => ?_) (fun p _ z => ?_) (fun _ z => absurd z c2) (fun _ z => absurd z c2) (fun _ z => absurd z c2) (fun _ z => absurd z c2) (fun _ z => absurd z c2) (fun p _ => ?_)
      · rw [(rf_at R1 2).1 z]
        refine k0 _ _ ?_ (rfH_r _ R1.1) (rfH_g _ g1) (rfH_6 _ _) (rfH_7 _ _)
        show (if t1.1 = 12 then _ else if i = 0 then _ else _) = _
        rw [if_neg c12, if_pos (hz.mp p)]
      · rw [(rf_at R1 2).2 z]
        refine k0 _ _ ?_ (rfH_r _ R1.1) (rfH_g _ g1) (rfH_6 _ _) (rfH_7 _ _)
        show (if t1.1 = 12 then _ else if i = 0 then _ else _) = _
        rw [if_neg c12, if_pos (hz.mp p)]
      · rw [hz] at p
        refine k1 i ms t1 h1 ?_ R1 g1 (s1.2.1.trans e6) (s1.2.2.trans e7) q1 (by omega) hms
        show (if t1.1 = 12 then _ else if i = 0 then _ else _) = _
        rw [if_neg c12, if_neg p]
