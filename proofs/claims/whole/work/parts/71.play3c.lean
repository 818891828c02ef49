/-! ===== play, whole (class) ===== -/
def fOK (n : Nat) (f : Nat → Nat) : Prop := n ≤ 8 ∧ (∀ c, c < n → 256 ∣ f c ∧ 0 < f c) ∧ (∀ c, n ≤ c → f c = 0) ∧ fb_sm f n ≤ 400000000
theorem fOK.le {n : Nat} {f : Nat → Nat} (h : fOK n f) {c : Nat} (hc : c < n) : f c ≤ 400000000 := Nat.le_trans (fb_one f hc) h.2.2.2
theorem rV_start {n : Nat} {f : Nat → Nat} (h : fOK n f) : rV n (rStart f) := by
  refine ⟨⟨h.1, fun c hc => ⟨rfl, h.2.2.1 c hc⟩, fun c hc => ⟨Nat.zero_le _, fun q => absurd rfl q, h.le hc⟩, ⟨fun x => x, fun c hc _ => ⟨⟨[], rfl⟩, fun x hx => ?_⟩⟩, ?_⟩, fun c hc _ => (h.2.1 c hc).2, h.2.2.2⟩
  · have : x = c := List.mem_singleton.mp hx
    rw [this]; exact ⟨hc, rfl⟩
  · have e : fb_sm (rLn (rStart f).1) n = fb_sm (fun _ => 1) n := fb_sm_cong (fun k _ => rfl)
    rw [e, fb_sm_const]
    have := h.1
    omega
theorem rD_start {n : Nat} {f : Nat → Nat} (h : fOK n f) : rD n 8 (rStart f) := ⟨fun c hc => (h.2.1 c hc).1, Nat.dvd_zero _, fun b hb => absurd hb List.not_mem_nil⟩
theorem rB_start {P : PL} {f : Nat → Nat} : rB P (fun _ => false) (rStart f) := ⟨Nat.zero_le _, Nat.zero_le _, fun _ _ => rfl, fun _ _ _ _ _ _ _ _ => rfl⟩
theorem rB_first {P : PL} {n lo : Nat} {f : Nat → Nat} (hP : pOK P) : rB P (rDm n (rRules P n lo 8 P.1 0 (rStart f))) (rRules P n lo 8 P.1 0 (rStart f)) := by
  refine (rB_rules (n := n) (lo := lo) (c := 8) hP (rB_start (f := f)) rfl).mono (fun c hc => ?_)
  rw [rDm_t]
  by_cases e : c = 8
  · exact Or.inl e
  · rw [kU_o _ _ e] at hc; cases hc
/-- at the head of a turn -/
def rH (P : PL) (n t : Nat) (R : RS) : Prop := rV n R ∧ rB P (rDm n R) R ∧ rD n (8 - t) R ∧ t ≤ rCt n R
theorem rH_start {P : PL} {n lo : Nat} {f : Nat → Nat} (hP : pOK P) (h : fOK n f) : rH P n 0 (rRules P n lo 8 P.1 0 (rStart f)) := ⟨rV_rules _ _ (rV_start h), rB_first hP, rD_rules _ _ (rD_start h), Nat.zero_le _⟩
theorem rH_turn {P : PL} {n lo t s : Nat} {R : RS} (hP : pOK P) (h : rH P n t R) (ht : t < 8) (hs : rNx R.1 n 0 none = some s) : rH P n (t + 1) (rTurn P n lo s R) := by
  obtain ⟨h1, h2, h3, h4⟩ := h
  rw [show 8 - t = (8 - (t + 1)) + 1 by omega] at h3
  refine ⟨rV_turn h1 hs, (rB_turn hP h1 h2).2, rD_turn h3 h1 hs, ?_⟩
  have := rCt_turn (P := P) (lo := lo) h3 h1 hs
  omega
theorem rNx_4 {n s : Nat} {R : RS} (hV : rV n R) (hs : rNx R.1 n 0 none = some s) : R.2.2.2.2.2 + s ≤ 400000000 ∧ ∀ x, x < n → 0 < R.1.2.1 x → s ≤ R.1.1 x / R.1.2.1 x := by
  obtain ⟨a1, _, a3⟩ := rNx_some hs
  refine ⟨?_, fun x hx => a3 x (by omega) (by omega)⟩
  rcases a1 with z | ⟨x, _, x2, x3, x4⟩
  · cases z
  · have h1 := fb_one R.1.1 (show x < n by omega)
    have h2 : R.1.1 x / R.1.2.1 x ≤ R.1.1 x := Nat.div_le_self _ _
    have h3 := hV.2.2
    omega
theorem c_play {P : PL} {n lo pa u : Nat} {f : Nat → Nat} {h : MH} {d : Nat} {Q : Option MV → MH → Prop} (hr : zRf h) (hF : fOK n f) (h48 : h.1 48 0 = nI n) (hf : ∀ c, c < n → h.1 49 c = nI (f c)) (hpo : zokO h pa 5) (hpa : pa + 5 < 48) (hP : pAt P h pa) (hO : pOK P) (hu : u ≤ 1024000000) (hd : 4 ≤ d) (kk : ∀ h', zRf h' → zF (fun a => a < 48 ∨ 56 < a ∨ a = 49) h h' → kS n (rPlay P n lo u f) h' → Q none h') : Con mX8_play d 0 0 [.inr (.inr 48), .inr (.inr pa), .inl (loI lo), .inl (nI u)] h Q := by
  have hn := hF.1
  refine u_X8_play (d1' := 0) hr (by omega) ?_
  refine c_begr hr hn h48 hf hpo hpa hP (fun h1 r1 f1 s1 p1 => ?_)
  refine u_X8_play_6 (d1' := 3) r1 (by omega) ?_
  have hst := rV_start hF
  have w40 : ∀ (D : Nat → Bool) (R : RS) (c : Nat), rB P D R → D c = false → R.2.1.length + wg P c P.1 0 ≤ 40 ∧ R.2.2.2.2.1 + 2 * wg P c P.1 0 ≤ 1000 := by
    intro D R c hB hc
    have e := wD_add P hc P.1 0
    have e2 := wD_40 hO (kU D c true)
    have b1 := hB.1
    have b2 := hB.2.1
    exact ⟨by omega, by omega⟩
  have w0 := w40 _ _ 8 (rB_start (P := P) (f := f)) rfl
  refine c_rules (c := 8) r1 s1 hst p1 hO (by omega) w0.1 w0.2 (by omega) (fun h2 r2 f2 s2 => ?_)
  refine u_X8_play_11 ?_
  have F2 : zF (fun a => a < 48 ∨ 56 < a ∨ a = 49) h h2 := f1.trans f2.1
  have p2 := p1.keep f2
  have hH := rH_start (lo := lo) hO hF
  have e0 : rLoop P n lo u 8 (rRules P n lo 8 P.1 0 (rStart f)) = rPlay P n lo u f := rfl
  have hno0 : (rRules P n lo 8 P.1 0 (rStart f)).2.2.2.2.2 ≤ u := by
    rw [(rRules_b P n lo 8 P.1 0 (rStart f)).2.2.2]
    exact Nat.zero_le _
  generalize rRules P n lo 8 P.1 0 (rStart f) = R0 at s2 hH e0 hno0
  -- rules of those that ended
  have E : ∀ (v4 v5 : Int32) (K1 : RC) (T1 : RT), (∀ (R' : RS) (g : MH), R' = rEnds P n lo (rE K1) n 0 (rAway K1 T1.2.2.2.2 n, T1) → zRf g → zF (fun a => a < 48 ∨ 56 < a ∨ a = 49) h g → kP P pa lo g → kS n R' g → J mX8_play d 0 0 Q 0 0 14 [some (.inr (.inr 48)), some (.inr (.inr pa)), some (.inl (loI lo)), some (.inl (nI u)), some (.inl (v4 + nI 1)), some (.inl v5), some (.inl (rBits (rE K1) n)), some (.inl (nI n))] [] g) → ∀ m c, c + m = n → ∀ (D : Nat → Bool) (R' : RS) (g : MH), zRf g → zF (fun a => a < 48 ∨ 56 < a ∨ a = 49) h g → kP P pa lo g → kS n R' g → rV n R' → rB P D R' → (∀ x, c ≤ x → rE K1 x = true → D x = false) → rEnds P n lo (rE K1) m c R' = rEnds P n lo (rE K1) n 0 (rAway K1 T1.2.2.2.2 n, T1) → J mX8_play d 0 0 Q 0 0 71 [some (.inr (.inr 48)), some (.inr (.inr pa)), some (.inl (loI lo)), some (.inl (nI u)), some (.inl v4), some (.inl v5), some (.inl (rBits (rE K1) n)), some (.inl (nI c))] [] g := by
    intro v4 v5 K1 T1 fin m
    induction m with
    | zero =>
      intro c hc D R' g rg fg pg sg vg bg hD e
      obtain rfl : c = n := by omega
      refine u_X8_play_71 (d1' := 0) rg (by omega) ?_
      simp (disch := omega) only [xle_t, xle_f, xlt_t, xlt_f, xeq_t, xeq_f, xle0_t, xle0_f, xlt0_f, x0lt_t, x0lt_f, x0le_t, xeq0_t, xeq0_f, xin, xem_f, xme_f, xlem_f, xlm_f, xml_t, xmle_t, nI_clamp, nI_add, pk_mul, pk_sub, zI_s, zI_k, zI_o, zL_s, zL_k, zL_o, zR_s, zR_k, zR_o, zIL, zIR, zIN, zLI, zLR, zLN, zRI, zRL, zRN, true_and, and_true, not_true_eq_false, not_false_eq_true, true_implies, false_implies, implies_true, forall_const, if_true, if_false, eq_self, false_and, and_false, implies_true, sg.1.1]
      exact fin R' g e rg fg pg sg
    | succ m ih =>
      intro c hc D R' g rg fg pg sg vg bg hD e
      have e' : rEnds P n lo (rE K1) m (c + 1) (if rE K1 c = true then rRules P n lo c P.1 0 R' else R') = rEnds P n lo (rE K1) n 0 (rAway K1 T1.2.2.2.2 n, T1) := e
      refine u_X8_play_71 (d1' := 3) rg (by omega) ?_
      have eb := xbit (rBits (rE K1) n) (c := c) (by omega)
      rw [rBits_b (rE K1) n hn c (by omega), decide_eq_true (show c < n by omega), Bool.true_and] at eb
      by_cases q : rE K1 c = true
      · rw [if_pos q] at e'
        have eb2 : (((rBits (rE K1) n >>> (nI c &&& 31)) &&& (nI 1)) = 0) = False := by rw [eb, q]; exact eq_false (by decide)
        simp (disch := omega) only [xle_t, xle_f, xlt_t, xlt_f, xeq_t, xeq_f, xle0_t, xle0_f, xlt0_f, x0lt_t, x0lt_f, x0le_t, xeq0_t, xeq0_f, xin, xem_f, xme_f, xlem_f, xlm_f, xml_t, xmle_t, nI_clamp, nI_add, pk_mul, pk_sub, zI_s, zI_k, zI_o, zL_s, zL_k, zL_o, zR_s, zR_k, zR_o, zIL, zIR, zIN, zLI, zLR, zLN, zRI, zRL, zRN, true_and, and_true, not_true_eq_false, not_false_eq_true, true_implies, false_implies, implies_true, forall_const, if_true, if_false, eq_self, false_and, and_false, implies_true, sg.1.1, eb2]
        have w := w40 D R' c bg (hD c (Nat.le_refl _) q)
        have ec : nI c = pBy c := (if_pos (by omega)).symm
        have := c_rules (Q := (zrv fun h' => J mX8_play d 0 0 Q 0 0 96 [some (.inr (.inr 48)), some (.inr (.inr pa)), some (.inl (loI lo)), some (.inl (nI u)), some (.inl v4), some (.inl v5), some (.inl (rBits (rE K1) n)), some (.inl (nI c))] [] h')) (d := 3) (c := c) rg sg vg pg hO (by omega) w.1 w.2 (by omega) (fun g2 r2 f2 s2 => ?_)
        · rw [← ec] at this
          exact this
        · refine u_X8_play_96 ?_
          rw [nI_add]
          exact ih (c + 1) (by omega) (kU D c true) _ g2 r2 (fg.trans f2.1) (pg.keep f2) s2 (rV_rules _ _ vg) (rB_rules hO bg (hD c (Nat.le_refl _) q)) (fun x hx hx2 => by rw [kU_o _ _ (by omega)]; exact hD x (by omega) hx2) e'
      · rw [if_neg q] at e'
        have q' : rE K1 c = false := by cases z : rE K1 c with
          | false => rfl
          | true => exact absurd z q
        have eb2 : (((rBits (rE K1) n >>> (nI c &&& 31)) &&& (nI 1)) = 0) = True := by rw [eb, q']; exact eq_true rfl
        simp (disch := omega) only [xle_t, xle_f, xlt_t, xlt_f, xeq_t, xeq_f, xle0_t, xle0_f, xlt0_f, x0lt_t, x0lt_f, x0le_t, xeq0_t, xeq0_f, xin, xem_f, xme_f, xlem_f, xlm_f, xml_t, xmle_t, nI_clamp, nI_add, pk_mul, pk_sub, zI_s, zI_k, zI_o, zL_s, zL_k, zL_o, zR_s, zR_k, zR_o, zIL, zIR, zIN, zLI, zLR, zLN, zRI, zRL, zRN, true_and, and_true, not_true_eq_false, not_false_eq_true, true_implies, false_implies, implies_true, forall_const, if_true, if_false, eq_self, false_and, and_false, implies_true, sg.1.1, eb2]
        exact ih (c + 1) (by omega) D R' g rg fg pg sg vg bg (fun x hx => hD x (by omega)) e'
  have L : ∀ m t, t + m = 8 → ∀ (R : RS) (g : MH) (u5 u6 u7 : Option MV), zRf g → zF (fun a => a < 48 ∨ 56 < a ∨ a = 49) h g → kP P pa lo g → kS n R g → rH P n t R → (R.2.2.2.2.2 ≤ u) → rLoop P n lo u m R = rPlay P n lo u f → J mX8_play d 0 0 Q 0 0 14 [some (.inr (.inr 48)), some (.inr (.inr pa)), some (.inl (loI lo)), some (.inl (nI u)), some (.inl (nI t)), u5, u6, u7] [] g := by
    intro m
    induction m with
    | zero =>
      intro t ht R g u5 u6 u7 rg fg pg sg hg hno e
      refine u_X8_play_14 (d1' := 0) rg (by omega) ?_
      simp (disch := omega) only [xle_t, xle_f, xlt_t, xlt_f, xeq_t, xeq_f, xle0_t, xle0_f, xlt0_f, x0lt_t, x0lt_f, x0le_t, xeq0_t, xeq0_f, xin, xem_f, xme_f, xlem_f, xlm_f, xml_t, xmle_t, nI_clamp, nI_add, pk_mul, pk_sub, zI_s, zI_k, zI_o, zL_s, zL_k, zL_o, zR_s, zR_k, zR_o, zIL, zIR, zIN, zLI, zLR, zLN, zRI, zRL, zRN, true_and, and_true, not_true_eq_false, not_false_eq_true, true_implies, false_implies, implies_true, forall_const, if_true, if_false, eq_self, false_and, and_false, implies_true]
      have e' : R = rPlay P n lo u f := e
      rw [e'] at sg
      exact kk g rg fg sg
    | succ m ih =>
      intro t ht R g u5 u6 u7 rg fg pg sg hg hno e
      refine u_X8_play_14 (d1' := 1) rg (by omega) ?_
      simp (disch := omega) only [xle_t, xle_f, xlt_t, xlt_f, xeq_t, xeq_f, xle0_t, xle0_f, xlt0_f, x0lt_t, x0lt_f, x0le_t, xeq0_t, xeq0_f, xin, xem_f, xme_f, xlem_f, xlm_f, xml_t, xmle_t, nI_clamp, nI_add, pk_mul, pk_sub, zI_s, zI_k, zI_o, zL_s, zL_k, zL_o, zR_s, zR_k, zR_o, zIL, zIR, zIN, zLI, zLR, zLN, zRI, zRL, zRN, true_and, and_true, not_true_eq_false, not_false_eq_true, true_implies, false_implies, implies_true, forall_const, if_true, if_false, eq_self, false_and, and_false, implies_true]
      refine c_nx rg sg.1 hg.1.b (by omega) ?_
      cases hx : rNx R.1 n 0 none with
      | none =>
        have e' : R = rPlay P n lo u f := by
          rw [← e]
          show R = (match rNx R.1 n 0 none with
            | none => R
            | some s => if R.2.2.2.2.2 + s ≤ u then rLoop P n lo u m (rTurn P n lo s R) else (rBurn (u - R.2.2.2.2.2) n 0 R.1, rTick (u - R.2.2.2.2.2) R.2))
          rw [hx]
        refine u_X8_play_25 (d1' := 0) (d2' := 0) rg (by omega) (by omega) ?_
        simp (disch := omega) only [xle_t, xle_f, xlt_t, xlt_f, xeq_t, xeq_f, xle0_t, xle0_f, xlt0_f, x0lt_t, x0lt_f, x0le_t, xeq0_t, xeq0_f, xin, xem_f, xme_f, xlem_f, xlm_f, xml_t, xmle_t, nI_clamp, nI_add, pk_mul, pk_sub, zI_s, zI_k, zI_o, zL_s, zL_k, zL_o, zR_s, zR_k, zR_o, zIL, zIR, zIN, zLI, zLR, zLN, zRI, zRL, zRN, true_and, and_true, not_true_eq_false, not_false_eq_true, true_implies, false_implies, implies_true, forall_const, if_true, if_false, eq_self, false_and, and_false, implies_true, oI]
        rw [e'] at sg
        exact kk g rg fg sg
      | some s =>
        obtain ⟨b1, b2⟩ := rNx_4 hg.1 hx
        have e13 := sg.2.2.2.2.2.2
        have e' : (if R.2.2.2.2.2 + s ≤ u then rLoop P n lo u m (rTurn P n lo s R) else (rBurn (u - R.2.2.2.2.2) n 0 R.1, rTick (u - R.2.2.2.2.2) R.2)) = rPlay P n lo u f := by
          rw [← e]
          show _ = (match rNx R.1 n 0 none with
            | none => R
            | some s => if R.2.2.2.2.2 + s ≤ u then rLoop P n lo u m (rTurn P n lo s R) else (rBurn (u - R.2.2.2.2.2) n 0 R.1, rTick (u - R.2.2.2.2.2) R.2))
          rw [hx]
        refine u_X8_play_25 (d1' := 2) (d2' := 2) rg (by omega) (by omega) ?_
        by_cases hle : R.2.2.2.2.2 + s ≤ u
        · rw [if_pos hle] at e'
          simp (disch := omega) only [xle_t, xle_f, xlt_t, xlt_f, xeq_t, xeq_f, xle0_t, xle0_f, xlt0_f, x0lt_t, x0lt_f, x0le_t, xeq0_t, xeq0_f, xin, xem_f, xme_f, xlem_f, xlm_f, xml_t, xmle_t, nI_clamp, nI_add, pk_mul, pk_sub, zI_s, zI_k, zI_o, zL_s, zL_k, zL_o, zR_s, zR_k, zR_o, zIL, zIR, zIN, zLI, zLR, zLN, zRI, zRL, zRN, true_and, and_true, not_true_eq_false, not_false_eq_true, true_implies, false_implies, implies_true, forall_const, if_true, if_false, eq_self, false_and, and_false, implies_true, oI, e13]
          refine c_burn rg sg.1 sg.2 hg.1 b2 (by omega) (by omega) (fun g1 r1 f1 k1 t1 => ?_)
          have hV1 := rV_burn hg.1 b2 (by
            obtain ⟨a1, _, a3⟩ := rNx_some hx
            rcases a1 with z | ⟨x, x1, x2, x3, x4⟩
            · cases z
            · exact Or.inr ⟨x, by omega, x3⟩)
          obtain ⟨hD, hB⟩ := rB_turn (lo := lo) (s := s) hO hg.1 hg.2.1
          refine u_X8_play_62 (d1' := 0) r1 (by omega) ?_
          have kb : kB n (rBurn s n 0 R.1) := by
            obtain ⟨a1, a2, a3, a4⟩ := rBurn_rest s n 0 R.1
            refine ⟨hn, fun x hx2 => ⟨?_, ?_, Nat.le_trans (a4 x) (hg.1.1.2.2.1 x hx2).2.2⟩⟩
            · rw [a3 x]
              have := hg.1.re x hx2
              split <;> omega
            · rw [a1]; exact (hg.1.1.2.2.1 x hx2).1
          refine c_away r1 k1 t1 kb b1 (fun g2 r2 f2 k2 t2 => ?_)
          refine u_X8_play_66 ?_
          have Fg : zF (fun a => a < 48 ∨ 56 < a ∨ a = 49) h g2 := (fg.trans f1.1).trans f2.1
          refine E (nI t) (nI s) (rBurn s n 0 R.1) (rTick s R.2) (fun R' g3 e3 r3 F3 p3 s3 => ?_) n 0 (by omega) (rDm n R) _ g2 r2 Fg ((pg.keep f1).keep f2) ⟨k2, t2⟩ hV1 hg.2.1 hD rfl
          rw [nI_add]
          have e4 : R' = rTurn P n lo s R := e3
          subst e4
          refine ih (t + 1) (by omega) _ g3 _ _ _ r3 F3 p3 s3 (rH_turn hO hg (by omega) hx) ?_ e'
          have := (rEnds_st P n lo (rE (rBurn s n 0 R.1)) 0 n 0 (rAway (rBurn s n 0 R.1) (R.2.2.2.2.2 + s) n, rTick s R.2)).2.2
          show (rEnds P n lo _ n 0 _).2.2.2.2.2 ≤ u
          rw [this]
          exact hle
        · rw [if_neg hle] at e'
          simp (disch := omega) only [xle_t, xle_f, xlt_t, xlt_f, xeq_t, xeq_f, xle0_t, xle0_f, xlt0_f, x0lt_t, x0lt_f, x0le_t, xeq0_t, xeq0_f, xin, xem_f, xme_f, xlem_f, xlm_f, xml_t, xmle_t, nI_clamp, nI_add, pk_mul, pk_sub, zI_s, zI_k, zI_o, zL_s, zL_k, zL_o, zR_s, zR_k, zR_o, zIL, zIR, zIN, zLI, zLR, zLN, zRI, zRL, zRN, true_and, and_true, not_true_eq_false, not_false_eq_true, true_implies, false_implies, implies_true, forall_const, if_true, if_false, eq_self, false_and, and_false, implies_true, oI, e13]
          refine c_burn rg sg.1 sg.2 hg.1 (fun x hx2 hx3 => Nat.le_trans (by omega) (b2 x hx2 hx3)) (by omega) (by omega) (fun g1 r1 f1 k1 t1 => ?_)
          refine u_X8_play_55 ?_
          refine kk g1 r1 (fg.trans f1.1) ?_
          rw [← e']
          exact ⟨k1, t1⟩
  exact L 8 0 (by omega) R0 h2 none none none r2 F2 p2 s2 hH hno0 e0
