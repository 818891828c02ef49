/-! ===== actAtHand, readAct ===== -/
theorem c_hand {f : Nat → Nat} {n : Nat} {t : TK} {h : MH} {d : Nat} {Q : Option MV → MH → Prop} (hZ : kStr) (R : RI f n t h) (hd : 12 ≤ d) (kk : Q (some (.inl (if 6 ≤ t.1 ∧ t.1 ≤ 10 then nI (t.1 - 6) else -(nI 1)))) h) : Con mX6_actAtHand d 0 0 [.inr (.inr 2)] h Q := by
  refine t_X6_actAtHand (d1' := 11) R.1 (by omega) ?_
  refine R.w hZ (j := 6) (by decide) (by omega) ?_
  by_cases c6 : t.1 = 6
  · rw [if_pos c6]
    rw [c6] at kk
    exact t_X6_actAtHand_6 (d1' := 0) R.1 (by omega) (fun z => absurd z (by decide)) (fun _ => kk)
  rw [if_neg c6]
  refine t_X6_actAtHand_6 (d1' := 11) R.1 (by omega) (fun _ => ?_) (fun z => absurd rfl z)
  refine R.w hZ (j := 7) (by decide) (by omega) ?_
  by_cases c7 : t.1 = 7
  · rw [if_pos c7]
    rw [c7] at kk
    exact t_X6_actAtHand_17 (d1' := 0) R.1 (by omega) (fun z => absurd z (by decide)) (fun _ => kk)
  rw [if_neg c7]
  refine t_X6_actAtHand_17 (d1' := 11) R.1 (by omega) (fun _ => ?_) (fun z => absurd rfl z)
  refine R.w hZ (j := 8) (by decide) (by omega) ?_
  by_cases c8 : t.1 = 8
  · rw [if_pos c8]
    rw [c8] at kk
    exact t_X6_actAtHand_28 (d1' := 0) R.1 (by omega) (fun z => absurd z (by decide)) (fun _ => kk)
  rw [if_neg c8]
  refine t_X6_actAtHand_28 (d1' := 11) R.1 (by omega) (fun _ => ?_) (fun z => absurd rfl z)
  refine R.w hZ (j := 9) (by decide) (by omega) ?_
  by_cases c9 : t.1 = 9
  · rw [if_pos c9]
    rw [c9] at kk
    exact t_X6_actAtHand_39 (d1' := 0) R.1 (by omega) (fun z => absurd z (by decide)) (fun _ => kk)
  rw [if_neg c9]
  refine t_X6_actAtHand_39 (d1' := 11) R.1 (by omega) (fun _ => ?_) (fun z => absurd rfl z)
  refine R.w hZ (j := 10) (by decide) (by omega) ?_
  by_cases c10 : t.1 = 10
  · rw [if_pos c10]
    rw [c10] at kk
    exact t_X6_actAtHand_50 (fun z => absurd z (by decide)) (fun _ => kk)
  rw [if_neg c10]
  rw [if_neg (by omega)] at kk
  exact t_X6_actAtHand_50 (fun _ => kk) (fun z => absurd rfl z)
theorem rS.h {h h' : MH} (s : rS h h') : zH h h' := s.1.weak (fun a q => by omega)
theorem rfH_h {h0 h : MH} (e : Nat × Nat) (g : zH h0 h) : zH h0 (rfH h e) := g.trans ((zF_I _ _ _ (by omega)).trans (zF_I _ _ _ (by omega)))
theorem pAt.rS {P : PL} {h h' : MH} (q : pAt P h 9) (s : rS h h') : pAt P h' 9 := q.keep (fun k _ => s.1.i (by show 9 + k ≠ 2; omega))
theorem c_act {f : Nat → Nat} {n : Nat} {t : TK} {P : PL} {h : MH} {d : Nat} {Q : Option MV → MH → Prop} (hZ : kStr) (hP : pOK P) (R : RI f n t h) (q : pAt P h 9) (h1 : 0 < P.1) (hd : 13 ≤ d) (k0 : ∀ e h', pAct f n t P.2.1 = .inl e → zRf h' → zH h h' → h'.1 2 6 = nI e.1 → h'.1 2 7 = nI e.2 → Q (some (.inl (nI 0))) h') (k1 : ∀ a t' h', pAct f n t P.2.1 = .inr (a, t') → RI f n t' h' → zH h h' → h'.1 2 6 = h.1 2 6 → h'.1 2 7 = h.1 2 7 → pAt (pAddA P a) h' 9 → pOK (pAddA P a) → Q (some (.inl (nI 1))) h') : Con mX6_readAct d 0 0 [.inr (.inr 2), .inr (.inr 9)] h Q := by
  have h40 := hP.2.1
  have hna : h.1 9 1 < nI 40 ↔ P.2.1 < 40 := by rw [q.2.1, nI_ltI (by omega) (by omega)]
  refine t_X6_readAct (d1' := 12) R.1 (by omega) ?_
  refine c_hand hZ R (by omega) ?_
  have A : ∀ (a : Nat × Nat × Nat) (t1 : TK) (g : MH), pAct f n t P.2.1 = .inr (a, kNx f n t1) → P.2.1 < 40 → (a.1 ≤ 4 ∧ a.2.1 ≤ 7 ∧ a.2.2 ≤ 7) → RI f n t1 g → zH h g → g.1 2 6 = h.1 2 6 → g.1 2 7 = h.1 2 7 → pAt P g 9 → Con mX5_addAct 0 0 0 [.inr (.inr 9), .inl (nI a.1), .inl (nI a.2.1), .inl (nI a.2.2)] g (zrv fun h' => J mX6_readAct d 0 0 Q 0 0 89 [some (.inr (.inr 2)), some (.inr (.inr 9)), some (.inl (nI a.1)), some (.inl (nI a.2.1)), some (.inl (nI a.2.2))] [] h') := by
    intro a t1 g E l40 ha Rg zg g6 g7 qg
    refine c_addA Rg.1 hP qg h1 l40 (fun h2 r2 f2 q2 => ?_)
    have R2 : RI f n t1 h2 := Rg.keep r2 (f2.i (by decide)) (f2.i (by decide))
    refine t_X6_readAct_89 (d1' := 2) r2 (by omega) ?_
    refine c_nxt R2 (by omega) (fun h3 R3 s3 => ?_)
    refine t_X6_readAct_93 ?_
    exact k1 a _ h3 E R3 ((zg.trans (f2.weak (fun a z => by omega))).trans s3.h) (s3.2.1.trans (by rw [f2.i (by decide)]; exact g6)) (s3.2.2.trans (by rw [f2.i (by decide)]; exact g7)) (q2.rS s3) (pAddA_ok hP h1 l40 ha)
  by_cases c : 6 ≤ t.1 ∧ t.1 ≤ 10
  · rw [if_pos c]
    have nm : ¬ nI (t.1 - 6) = -(nI 1) := by
      have hall : ∀ k, k < 8 → ¬ nI k = -(nI 1) := by decide +kernel
      exact hall _ (by omega)
    have v4 : nI (t.1 - 6) = nI 4 ↔ t.1 = 10 := by rw [nI_eq (by omega) (by omega)]; omega
    have v3 : nI (t.1 - 6) = nI 3 ↔ t.1 = 9 := by rw [nI_eq (by omega) (by omega)]; omega
    refine t_X6_readAct_4 (d1' := 0) (d2' := 3) (d3' := 3) R.1 (by omega) (by omega) (by omega) (by omega) (fun _ => zo R.1 (by decide) rfl) (fun _ l z4 _ => ?_) (fun _ l z4 z3 => ?_) (fun _ l z4 => ?_) (fun _ l z => ?_) (fun _ l z => ?_) (fun z => absurd z nm) (fun z => absurd z nm)
    · have c10 := v4.mp z4
      rw [z4]
      refine A (4, 0, 0) t h ?_ (hna.mp l) (by decide) R zF.rfl rfl rfl q
      unfold pAct
      rw [if_pos c, if_pos (hna.mp l), if_pos c10]
    · exact absurd (v4.mp z4) (by rw [v3.mp z3]; decide)
    · have n10 : ¬ t.1 = 10 := fun z => z4 (v4.mpr z)
      have E : pAct f n t P.2.1 = (match pNum (kNx f n t) 0 7 with
        | .inl e => .inl e
        | .inr a => if t.1 = 9 then (match pNum (kNx f n (kNx f n t)) 0 7 with
            | .inl e => .inl e
            | .inr b => .inr ((3, a, b), kNx f n (kNx f n (kNx f n t)))) else .inr ((t.1 - 6, a, 0), kNx f n (kNx f n t))) := by
        unfold pAct
        rw [if_pos c, if_pos (hna.mp l), if_neg n10]
        rfl
      refine c_ato (lo := 0) (hi := 7) R (by omega) (by omega) (by omega) (fun h2 e R2 s2 he => ?_) (fun h2 v R2 s2 hv hv5 => ?_)
      · rw [he] at E
        exact t_X6_readAct_48 (d1' := 0) (d2' := 0) (rfH_r _ R2.1) (by omega) (by omega) (fun z => absurd rfl z) (fun z => absurd rfl z) (fun z => absurd rfl z) (fun _ => k0 e _ E (rfH_r _ R2.1) (rfH_h _ s2.h) (rfH_6 _ _) (rfH_7 _ _))
      · rw [hv] at E
        replace E : pAct f n t P.2.1 = (if t.1 = 9 then (match pNum (kNx f n (kNx f n t)) 0 7 with
            | .inl e => .inl e
            | .inr b => .inr ((3, v, b), kNx f n (kNx f n (kNx f n t)))) else .inr ((t.1 - 6, v, 0), kNx f n (kNx f n t))) := E
        have bv := pNum_b hv
        refine t_X6_readAct_48 (d1' := 0) (d2' := 3) R2.1 (by omega) (by omega) (fun _ _ => zo R2.1 (by decide) rfl) (fun _ z3 => ?_) (fun _ z3 => ?_) (fun z => absurd z (by decide))
        · rw [if_neg (fun z => z3 (v3.mpr z))] at E
          rw [hv5]
          exact A (t.1 - 6, v, 0) (kNx f n t) h2 E (hna.mp l) ⟨by show t.1 - 6 ≤ 4; omega, bv.2, by show (0 : Nat) ≤ 7; omega⟩ R2 s2.h s2.2.1 s2.2.2 (q.rS s2)
        · rw [if_pos (v3.mp z3)] at E
          rw [hv5, z3]
          refine c_ato (lo := 0) (hi := 7) R2 (by omega) (by omega) (by omega) (fun h3 e R3 s3 he => ?_) (fun h3 u R3 s3 hu hu5 => ?_)
          · rw [he] at E
            exact t_X6_readAct_70 (d1' := 0) (rfH_r _ R3.1) (by omega) (fun z => absurd rfl z) (fun z => absurd rfl z) (fun _ => k0 e _ E (rfH_r _ R3.1) (rfH_h _ (s2.h.trans s3.h)) (rfH_6 _ _) (rfH_7 _ _))
          · rw [hu] at E
            have bu := pNum_b hu
            refine t_X6_readAct_70 (d1' := 0) R3.1 (by omega) (fun _ => zo R3.1 (by decide) rfl) (fun _ => ?_) (fun z => absurd z (by decide))
            rw [hu5]
            exact A (3, v, u) (kNx f n (kNx f n t)) h3 E (hna.mp l) ⟨by show (3 : Nat) ≤ 4; omega, bv.2, bu.2⟩ R3 (s2.h.trans s3.h) (s3.2.1.trans s2.2.1) (s3.2.2.trans s2.2.2) ((q.rS s2).rS s3)
    · rw [(rf_at R 4).1 z]
      refine k0 _ _ ?_ (rfH_r _ R.1) (rfH_h _ zF.rfl) (rfH_6 _ _) (rfH_7 _ _)
      unfold pAct
      rw [if_pos c, if_neg (fun z => l (hna.mpr z))]
    · rw [(rf_at R 4).2 z]
      refine k0 _ _ ?_ (rfH_r _ R.1) (rfH_h _ zF.rfl) (rfH_6 _ _) (rfH_7 _ _)
      unfold pAct
      rw [if_pos c, if_neg (fun z => l (hna.mpr z))]
  · rw [if_neg c]
    refine t_X6_readAct_4 (d1' := 0) (d2' := 0) (d3' := 0) R.1 (by omega) (by omega) (by omega) (by omega) (fun z => absurd rfl z) (fun z => absurd rfl z) (fun z => absurd rfl z) (fun z => absurd rfl z) (fun z => absurd rfl z) (fun z => absurd rfl z) (fun _ z => ?_) (fun _ z => ?_)
    · rw [(rf_at R 2).1 z]
      refine k0 _ _ ?_ (rfH_r _ R.1) (rfH_h _ zF.rfl) (rfH_6 _ _) (rfH_7 _ _)
      unfold pAct
      rw [if_neg c]
    · rw [(rf_at R 2).2 z]
      refine k0 _ _ ?_ (rfH_r _ R.1) (rfH_h _ zF.rfl) (rfH_6 _ _) (rfH_7 _ _)
      unfold pAct
      rw [if_neg c]
