/-! ===== readRule, readPlan (class) ===== -/
theorem c_acts {f : Nat → Nat} {n : Nat} {d : Nat} {Q : Option MV → MH → Prop} (hZ : kStr) (h0 : MH) (hd : 14 ≤ d) (v2 : Int32) : ∀ m i, i + m = 41 → ∀ (P : PL) (p : Nat) (h : MH), p ≤ n → n ≤ 400 → zRf h → kC f n h → h.1 2 1 = nI n → h.1 2 2 = nI p → zH h0 h → h.1 2 6 = h0.1 2 6 → h.1 2 7 = h0.1 2 7 → pOK P → 0 < P.1 → i ≤ P.2.1 → pAt P h 9 → (∀ e h', pActs f n m (kTk f n p) P = .inl e → zRf h' → zH h0 h' → h'.1 2 6 = nI e.1 → h'.1 2 7 = nI e.2 → Q (some (.inl (nI 0))) h') → (∀ P' t' h', pActs f n m (kTk f n p) P = .inr (P', t') → RI f n t' h' → zH h0 h' → h'.1 2 6 = h0.1 2 6 → h'.1 2 7 = h0.1 2 7 → pAt P' h' 9 → pOK P' → P'.1 = P.1 → Q (some (.inl (nI 1))) h') → J mX6_readRule d 0 0 Q 0 0 75 [some (.inr (.inr 2)), some (.inr (.inr 9)), some (.inl v2), some (.inl (nI i))] [] h := by
  intro m
  induction m with
  | zero =>
    intro i hi P p h hp hn hr hk g1 g2 gG g6 g7 hP h1 hiP q k0 k1
    have := hP.2.1
    omega
  | succ m ih =>
    intro i hi P p h hp hn hr hk g1 g2 gG g6 g7 hP h1 hiP q k0 k1
    have l40 : ¬ nI 40 < nI i := by rw [nI_ltI (by omega) (by omega)]; omega
    refine t_X6_readRule_75 (d1' := 2) hr (by omega) (by omega) (fun z => absurd z l40) (fun z => absurd z l40) (fun _ => ?_)
    refine c_adv hr hk hp g1 g2 (by omega) (fun h2 r2 f2 x6 x7 R2' => ?_)
    have R2 : RI f n (kTk f n p) h2 := ⟨r2, hk.keep (f2.i (by decide)), R2', kGd_k f hp hn⟩
    have s2 : rS h h2 := ⟨f2, x6, x7⟩
    have gG2 := gG.trans s2.h
    generalize kTk f n p = t at R2 k0 k1
    have E : pActs f n (m + 1) t P = (match pAct f n t P.2.1 with
      | .inl e => .inl e
      | .inr (a, t1) => if t1.1 = 5 then pActs f n m (kNx f n t1) (pAddA P a) else if t1.1 = 13 then .inr (pAddA P a, t1) else .inl (pFl t1 2)) := rfl
    refine t_X6_readRule_85 (d1' := 13) r2 (by omega) ?_
    refine c_act hZ hP R2 (q.rS s2) h1 (by omega) (fun e h3 he r3 z3 y6 y7 => ?_) (fun a t1 h3 he R3 z3 y6 y7 q3 hP3 => ?_)
    · rw [he] at E
      exact t_X6_readRule_90 (d1' := 0) r3 (by omega) (fun z => absurd rfl z) (fun _ => k0 e h3 E r3 (gG2.trans z3) y6 y7)
    · rw [he] at E
      replace E : pActs f n (m + 1) t P = (if t1.1 = 5 then pActs f n m (kNx f n t1) (pAddA P a) else if t1.1 = 13 then .inr (pAddA P a, t1) else .inl (pFl t1 2)) := E
      have w6 : h3.1 2 6 = h0.1 2 6 := y6.trans (x6.trans g6)
      have w7 : h3.1 2 7 = h0.1 2 7 := y7.trans (x7.trans g7)
      refine t_X6_readRule_90 (d1' := 12) R3.1 (by omega) (fun _ => ?_) (fun z => absurd z (by decide))
      refine R3.w hZ (j := 5) (by decide) (by omega) ?_
      by_cases c5 : t1.1 = 5
      · rw [if_pos c5]
        rw [if_pos c5] at E
        rw [E] at k0 k1
        refine t_X6_readRule_101 R3.1 (by omega) (fun _ => ?_) (fun z => absurd z (by decide)) (fun z => absurd z (by decide)) (fun z => absurd z (by decide))
        rw [nI_add]
        exact ih (i + 1) (by omega) (pAddA P a) t1.2.2.1 h3 R3.2.2.2.2.2.1 hn R3.1 R3.2.1 R3.2.2.1.1 R3.2.2.1.2.1 (gG2.trans z3) w6 w7 hP3 h1 (by show i + 1 ≤ P.2.1 + 1; omega) q3 k0 k1
      · rw [if_neg c5]
        rw [if_neg c5] at E
        refine t_X6_readRule_101 R3.1 (by omega) (fun z => absurd rfl z) (fun _ z => ?_) (fun _ z z2 => ?_) (fun _ z z2 => ?_)
        · rw [if_pos (R3.cl.2.2.1.mp z)] at E
          exact k1 _ _ h3 E R3 (gG2.trans z3) w6 w7 q3 hP3 rfl
        · rw [if_neg (fun w => z (R3.cl.2.2.1.mpr w))] at E
          rw [(rf_at R3 2).1 z2]
          exact k0 _ _ E (rfH_r _ R3.1) (rfH_h _ (gG2.trans z3)) (rfH_6 _ _) (rfH_7 _ _)
        · rw [if_neg (fun w => z (R3.cl.2.2.1.mpr w))] at E
          rw [(rf_at R3 2).2 z2]
          exact k0 _ _ E (rfH_r _ R3.1) (rfH_h _ (gG2.trans z3)) (rfH_6 _ _) (rfH_7 _ _)
