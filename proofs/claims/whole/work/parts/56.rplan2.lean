/-! ===== readRule, readPlan (class) ===== -/
theorem c_rule {f : Nat → Nat} {n : Nat} {t : TK} {P : PL} {h : MH} {d : Nat} {Q : Option MV → MH → Prop} (hZ : kStr) (hn : n ≤ 400) (hP : pOK P) (R : RI f n t h) (q : pAt P h 9) (hd : 15 ≤ d) (k0 : ∀ e h', pRu f n t P = .inl e → zRf h' → zH h h' → h'.1 2 6 = nI e.1 → h'.1 2 7 = nI e.2 → Q (some (.inl (nI 0))) h') (k1 : ∀ P' t' h', pRu f n t P = .inr (P', t') → RI f n t' h' → zH h h' → h'.1 2 6 = h.1 2 6 → h'.1 2 7 = h.1 2 7 → pAt P' h' 9 → pOK P' → P'.1 = P.1 + 1 → Q (some (.inl (nI 1))) h') : Con mX6_readRule d 0 0 [.inr (.inr 2), .inr (.inr 9)] h Q := by
  have h20 := hP.1
  have hlt : h.1 9 0 < nI 20 ↔ P.1 < 20 := by rw [q.1, nI_ltI (by omega) (by omega)]
  -- behind addRule
  have A : ∀ (b : Nat) (v2 : Int32) (t1 : TK) (g : MH), b ≤ 8 → P.1 < 20 → RI f n t1 g → zH h g → g.1 2 6 = h.1 2 6 → g.1 2 7 = h.1 2 7 → pAt P g 9 → pRu f n t P = pActs f n 41 (kNx f n t1) (pAddR P b) → Con mX5_addRule 0 0 0 [.inr (.inr 9), .inl (pBy b)] g (zrv fun h' => J mX6_readRule d 0 0 Q 0 0 73 [some (.inr (.inr 2)), some (.inr (.inr 9)), some (.inl v2), none] [] h') := by
    intro b v2 t1 g hb l20 Rg zg g6 g7 qg E
    refine c_addR Rg.1 hP qg l20 (fun h2 r2 f2 q2 => ?_)
    have R2 : RI f n t1 h2 := Rg.keep r2 (f2.i (by decide)) (f2.i (by decide))
    refine t_X6_readRule_73 ?_
    rw [E] at k0 k1
    refine c_acts hZ h (by omega) v2 41 0 (by omega) (pAddR P b) t1.2.2.1 h2 R2.2.2.2.2.2.1 hn r2 R2.2.1 R2.2.2.1.1 R2.2.2.1.2.1 (zg.trans (f2.weak (fun a z => by omega))) (by rw [f2.i (by decide)]; exact g6) (by rw [f2.i (by decide)]; exact g7) (pAddR_ok hP l20 hb) (Nat.succ_pos _) (Nat.zero_le _) q2 k0 (fun P' t' h' e R' z' y6 y7 q' o' n' => k1 P' t' h' e R' z' y6 y7 q' o' n')
  refine t_X6_readRule (d1' := 12) R.1 (by omega) ?_
  refine R.w hZ (j := 4) (by decide) (by omega) ?_
  by_cases c4 : t.1 = 4
  · rw [if_pos c4]
    refine t_X6_readRule_6 (d1' := 3) (d2' := 0) R.1 (by omega) (by omega) (by omega) (fun _ => zo R.1 (by decide) rfl) (fun _ l => ?_) (fun _ l z => ?_) (fun _ l z => ?_) (fun z => absurd z (by decide))
    · have E : pRu f n t P = (match pNum (kNx f n t) 0 7 with
        | .inl e => .inl e
        | .inr b => pActs f n 41 (kNx f n (kNx f n t)) (pAddR P b)) := by
        unfold pRu
        rw [if_pos c4, if_pos (hlt.mp l)]
        rfl
      refine c_ato (lo := 0) (hi := 7) R (by omega) (by omega) (by omega) (fun h2 e R2 s2 he => ?_) (fun h2 v R2 s2 hv hv5 => ?_)
      · rw [he] at E
        exact t_X6_readRule_52 (d1' := 0) (d2' := 0) (rfH_r _ R2.1) (by omega) (by omega) (fun z => absurd rfl z) (fun z => absurd rfl z) (fun z => absurd rfl z) (fun z => absurd rfl z) (fun _ => k0 e _ E (rfH_r _ R2.1) (rfH_h _ s2.h) (rfH_6 _ _) (rfH_7 _ _))
      · rw [hv] at E
        have bv := pNum_b hv
        refine t_X6_readRule_52 (d1' := 0) (d2' := 0) R2.1 (by omega) (by omega) (fun _ z => absurd z (by decide)) (fun _ _ => zo R2.1 (by decide) rfl) (fun _ z => absurd z (by decide)) (fun _ _ => ?_) (fun z => absurd z (by decide))
        have e8 : nI v = pBy v := (if_pos (by omega)).symm
        rw [hv5, e8]
        exact A v _ (kNx f n t) h2 (by omega) (hlt.mp l) R2 s2.h s2.2.1 s2.2.2 (q.rS s2) E
    · rw [(rf_at R 4).1 z]
      refine k0 _ _ ?_ (rfH_r _ R.1) (rfH_h _ zF.rfl) (rfH_6 _ _) (rfH_7 _ _)
      unfold pRu
      rw [if_pos c4, if_neg (fun w => l (hlt.mpr w))]
    · rw [(rf_at R 4).2 z]
      refine k0 _ _ ?_ (rfH_r _ R.1) (rfH_h _ zF.rfl) (rfH_6 _ _) (rfH_7 _ _)
      unfold pRu
      rw [if_pos c4, if_neg (fun w => l (hlt.mpr w))]
  rw [if_neg c4]
  refine t_X6_readRule_6 (d1' := 0) (d2' := 12) R.1 (by omega) (by omega) (by omega) (fun z => absurd rfl z) (fun z => absurd rfl z) (fun z => absurd rfl z) (fun z => absurd rfl z) (fun _ => ?_)
  refine R.w hZ (j := 3) (by decide) (by omega) ?_
  by_cases c3 : t.1 = 3
  · rw [if_pos c3]
    refine t_X6_readRule_17 (d1' := 0) (d2' := 0) R.1 (by omega) (by omega) (by omega) (fun _ => zo R.1 (by decide) rfl) (fun _ l _ => ?_) (fun _ _ z => absurd rfl z) (fun _ l z => ?_) (fun _ l z => ?_) (fun z => absurd z (by decide)) (fun z => absurd z (by decide))
    · refine A 8 _ t h (by omega) (hlt.mp l) R zF.rfl rfl rfl q ?_
      unfold pRu
      rw [if_neg c4, if_pos c3, if_pos (hlt.mp l)]
    · rw [(rf_at R 4).1 z]
      refine k0 _ _ ?_ (rfH_r _ R.1) (rfH_h _ zF.rfl) (rfH_6 _ _) (rfH_7 _ _)
      unfold pRu
      rw [if_neg c4, if_pos c3, if_neg (fun w => l (hlt.mpr w))]
    · rw [(rf_at R 4).2 z]
      refine k0 _ _ ?_ (rfH_r _ R.1) (rfH_h _ zF.rfl) (rfH_6 _ _) (rfH_7 _ _)
      unfold pRu
      rw [if_neg c4, if_pos c3, if_neg (fun w => l (hlt.mpr w))]
  · rw [if_neg c3]
    have E : pRu f n t P = .inl (pFl t 2) := by unfold pRu; rw [if_neg c4, if_neg c3]
    refine t_X6_readRule_17 (d1' := 0) (d2' := 0) R.1 (by omega) (by omega) (by omega) (fun z => absurd rfl z) (fun z => absurd rfl z) (fun z => absurd rfl z) (fun z => absurd rfl z) (fun z => absurd rfl z) (fun _ z => ?_) (fun _ z => ?_)
    · rw [(rf_at R 2).1 z]
      exact k0 _ _ E (rfH_r _ R.1) (rfH_h _ zF.rfl) (rfH_6 _ _) (rfH_7 _ _)
    · rw [(rf_at R 2).2 z]
      exact k0 _ _ E (rfH_r _ R.1) (rfH_h _ zF.rfl) (rfH_6 _ _) (rfH_7 _ _)
def pNil : PL := (0, 0, fun _ => 0, fun _ => 0, fun _ => (0, 0, 0))
theorem pNil_ok : pOK pNil := ⟨by decide, by decide, fun r hr => absurd hr (Nat.not_lt_zero _), rfl, fun k hk => absurd hk (Nat.not_lt_zero _)⟩
theorem c_rpl {f : Nat → Nat} {n : Nat} {h : MH} {d : Nat} {Q : Option MV → MH → Prop} (hZ : kStr) (hr : zRf h) (hk : kC f n h) (hd : 16 ≤ d) (k0 : ∀ e h', pPl f n 21 (kTk f n 0) pNil = .inl e → zRf h' → zH h h' → h'.1 2 6 = nI e.1 → h'.1 2 7 = nI e.2 → Q (some (.inl (nI 0))) h') (k1 : ∀ P h', pPl f n 21 (kTk f n 0) pNil = .inr P → zRf h' → zH h h' → h'.1 2 6 = nI 0 → h'.1 2 7 = -(nI 1) → pAt P h' 9 → pOK P → Q (some (.inl (nI 1))) h') : Con mX6_readPlan d 0 0 [.inr (.inr 2), .inr (.inr 9), .inl (nI n)] h Q := by
  have h4 := hk.1
  refine t_X6_readPlan (d1' := 1) hr (by omega) ?_
  refine c_begin hr hk (by omega) (fun h1 _ r1 kc1 a1 a2 f1 b6 b7 => ?_)
  refine t_X6_readPlan_5 (d1' := 0) (by omega) (zo r1 (by decide) rfl) ?_
  refine t_X5_clear (zo r1 (by decide) rfl) ?_
  refine t_X6_readPlan_9 ?_
  have L : ∀ m i, i + m = 21 → ∀ (P : PL) (p : Nat) (g : MH), p ≤ n → zRf g → kC f n g → g.1 2 1 = nI n → g.1 2 2 = nI p → zH h g → g.1 2 6 = nI 0 → g.1 2 7 = -(nI 1) → pOK P → P.1 = i → pAt P g 9 → pPl f n m (kTk f n p) P = pPl f n 21 (kTk f n 0) pNil → J mX6_readPlan d 0 0 Q 0 0 11 [some (.inr (.inr 2)), some (.inr (.inr 9)), some (.inl (nI n)), some (.inl (nI i))] [] g := by
    intro m
    induction m with
    | zero =>
      intro i hi P p g hp rg kg g1 g2 gG g6 g7 hP hPi qP E
      have := hP.1
      omega
    | succ m ih =>
      intro i hi P p g hp rg kg g1 g2 gG g6 g7 hP hPi qP E
      have h20 := hP.1
      have l20 : ¬ nI 20 < nI i := by rw [nI_ltI (by omega) (by omega)]; omega
      refine t_X6_readPlan_11 (d1' := 2) rg (by omega) (by omega) (fun z => absurd z l20) (fun z => absurd z l20) (fun _ => ?_)
      refine c_adv rg kg hp g1 g2 (by omega) (fun h2 r2 f2 x6 x7 R2' => ?_)
      have R2 : RI f n (kTk f n p) h2 := ⟨r2, kg.keep (f2.i (by decide)), R2', kGd_k f hp h4⟩
      have gG2 : zH h h2 := gG.trans (f2.weak (fun a z => by omega))
      have qP2 : pAt P h2 9 := qP.keep (fun k _ => f2.i (by show 9 + k ≠ 2; omega))
      generalize kTk f n p = t at R2 E
      have E2 : pPl f n (m + 1) t P = if t.1 = 14 then .inr P else match pRu f n t P with
        | .inl e => .inl e
        | .inr (P', t3) => pPl f n m (kNx f n t3) P' := rfl
      by_cases c14 : t.1 = 14
      · rw [if_pos c14, E] at E2
        refine t_X6_readPlan_21 (d1' := 0) r2 (by omega) (fun z => absurd (R2.cl.2.2.2.mpr c14) z) (fun _ => ?_)
        exact k1 P h2 E2 r2 gG2 (x6.trans g6) (x7.trans g7) qP2 hP
      · rw [if_neg c14, E] at E2
        refine t_X6_readPlan_21 (d1' := 15) r2 (by omega) (fun _ => ?_) (fun z => absurd (R2.cl.2.2.2.mp z) c14)
        refine c_rule hZ h4 hP R2 qP2 (by omega) (fun e h3 he r3 g3 y6 y7 => ?_) (fun P' t' h3 he R3 g3 y6 y7 q3 hP' hn' => ?_)
        · rw [he] at E2
          exact t_X6_readPlan_35 (fun z => absurd rfl z) (fun _ => k0 e h3 E2 r3 (gG2.trans g3) y6 y7)
        · rw [he] at E2
          refine t_X6_readPlan_35 (fun _ => ?_) (fun z => absurd z (by decide))
          rw [nI_add]
          exact ih (i + 1) (by omega) P' t'.2.2.1 h3 R3.2.2.2.2.2.1 R3.1 R3.2.1 R3.2.2.1.1 R3.2.2.1.2.1 (gG2.trans g3) (y6.trans (x6.trans g6)) (y7.trans (x7.trans g7)) hP' (by rw [hn', hPi]) q3 E2.symm
  refine L 21 0 (by omega) pNil 0 _ (by omega) r1 (kc1.keep ?_) ?_ ?_ ((f1.weak (fun a z => by omega)).trans ((zF_I _ _ _ (by omega)).trans (zF_I _ _ _ (by omega)))) ?_ ?_ pNil_ok rfl ⟨?_, ?_, fun r hr => absurd hr (Nat.not_lt_zero _), fun k hk => absurd hk (Nat.not_lt_zero _)⟩ rfl
  · rw [zI_o _ _ _ (by decide), zI_o _ _ _ (by decide)]
  · rw [zI_o _ _ _ (by decide), zI_o _ _ _ (by decide)]; exact a1
  · rw [zI_o _ _ _ (by decide), zI_o _ _ _ (by decide)]; exact a2
  · rw [zI_o _ _ _ (by decide), zI_o _ _ _ (by decide)]; exact b6
  · rw [zI_o _ _ _ (by decide), zI_o _ _ _ (by decide)]; exact b7
  · rw [zI_k _ _ _ (by decide), zI_s]; rfl
  · rw [zI_s]; rfl
