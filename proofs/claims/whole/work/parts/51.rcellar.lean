/-! ===== readCellar (class) ===== -/
theorem c_begin {f : Nat → Nat} {n : Nat} {h : MH} {d : Nat} {Q : Option MV → MH → Prop} (hr : zRf h) (hk : kC f n h) (hd : 1 ≤ d) (kk : ∀ h', RI f n (14, 0, 0, 0) h' ∨ True → zRf h' → kC f n h' → h'.1 2 1 = nI n → h'.1 2 2 = nI 0 → zF (fun a => a ≠ 2) h h' → h'.1 2 6 = nI 0 → h'.1 2 7 = -(nI 1) → Q none h') : Con mX6_begin d 0 0 [.inr (.inr 2), .inl (nI n)] h Q := by
  have h4 := hk.1
  have e : (if nI 0 < (if nI 400 < nI n then nI 400 else nI n) then (if nI 400 < nI n then nI 400 else nI n) else nI 0) = nI n := by
    have l : ¬ nI 400 < nI n := by rw [nI_ltI (by omega) (by omega)]; omega
    rw [if_neg l]
    by_cases z : 0 < n
    · rw [if_pos (nI_lt z (by omega))]
    · have : n = 0 := by omega
      subst this
      rw [if_neg (by decide)]
  refine t_X6_begin hr hd ?_
  rw [e]
  refine kk _ (Or.inr trivial) hr (hk.keep rfl) ?_ ?_ ((((zF_I _ _ _ (by omega)).trans (zF_I _ _ _ (by omega))).trans (zF_I _ _ _ (by omega))).trans (zF_I _ _ _ (by omega))) ?_ ?_
  · rw [zI_k _ _ _ (by decide), zI_k _ _ _ (by decide), zI_k _ _ _ (by decide), zI_s]
  · rw [zI_k _ _ _ (by decide), zI_k _ _ _ (by decide), zI_s]
  · rw [zI_k _ _ _ (by decide), zI_s]
  · rw [zI_s]
theorem pLn_n {f : Nat → Nat} {n : Nat} {t : TK} {C C' : CE} {t' : TK} (q : pLn f n t C = .inr (C', t')) : C'.1 = C.1 + 1 := by
  unfold pLn at q
  split at q
  · split at q
    · split at q
      · cases q
      · split at q
        · cases q
        · split at q
          · cases q
          · split at q
            · cases q; rfl
            · cases q
    · cases q
  · cases q
theorem c_rcel {f : Nat → Nat} {n : Nat} {h : MH} {d : Nat} {Q : Option MV → MH → Prop} (hZ : kStr) (hr : zRf h) (hk : kC f n h) (hd : 14 ≤ d) (k0 : ∀ e h', pCel f n 9 (kTk f n 0) (0, fun _ => 0, fun _ _ => 0, fun _ => 0, fun _ => 0) = .inl e → zRf h' → zG h h' → h'.1 2 6 = nI e.1 → h'.1 2 7 = nI e.2 → Q (some (.inl (nI 0))) h') (k1 : ∀ C h', pCel f n 9 (kTk f n 0) (0, fun _ => 0, fun _ _ => 0, fun _ => 0, fun _ => 0) = .inr C → zRf h' → zG h h' → h'.1 2 6 = nI 0 → h'.1 2 7 = -(nI 1) → cAt C h' 4 → cOK C → Q (some (.inl (nI 1))) h') : Con mX6_readCellar d 0 0 [.inr (.inr 2), .inr (.inr 4), .inl (nI n)] h Q := by
  have h4 := hk.1
  refine t_X6_readCellar (d1' := 1) hr (by omega) ?_
  refine c_begin hr hk (by omega) (fun h1 _ r1 kc1 a1 a2 f1 b6 b7 => ?_)
  refine t_X6_readCellar_5 (zo r1 (by decide) rfl) ?_
  have L : ∀ m i, i + m = 9 → ∀ (C : CE) (p : Nat) (g : MH), p ≤ n → zRf g → kC f n g → g.1 2 1 = nI n → g.1 2 2 = nI p → zG h g → g.1 2 6 = nI 0 → g.1 2 7 = -(nI 1) → cOK C → C.1 = i → cAt C g 4 → pCel f n m (kTk f n p) C = pCel f n 9 (kTk f n 0) (0, fun _ => 0, fun _ _ => 0, fun _ => 0, fun _ => 0) → J mX6_readCellar d 0 0 Q 0 0 12 [some (.inr (.inr 2)), some (.inr (.inr 4)), some (.inl (nI n)), some (.inl (nI i))] [] g := by
    intro m
    induction m with
    | zero =>
      intro i hi C p g hp rg kg g1 g2 gG g6 g7 hC hCi qC E
      have := hC.1
      omega
    | succ m ih =>
      intro i hi C p g hp rg kg g1 g2 gG g6 g7 hC hCi qC E
      have h8 := hC.1
      have l8 : ¬ nI 8 < nI i := by rw [nI_ltI (by omega) (by omega)]; omega
      refine t_X6_readCellar_12 (d1' := 2) rg (by omega) (by omega) (fun z => absurd z l8) (fun z => absurd z l8) (fun _ => ?_)
      refine c_adv rg kg hp g1 g2 (by omega) (fun h2 r2 f2 x6 x7 R2' => ?_)
      have R2 : RI f n (kTk f n p) h2 := ⟨r2, kg.keep (f2.i (by decide)), R2', kGd_k f hp h4⟩
      have gG2 : zG h h2 := gG.trans (f2.weak (fun a z => by omega))
      have qC2 : cAt C h2 4 := qC.keep (fun k _ => f2.i (by show 4 + k ≠ 2; omega))
      generalize kTk f n p = t at R2 E
      have E2 : pCel f n (m + 1) t C = if t.1 = 14 then .inr C else match pLn f n t C with
        | .inl e => .inl e
        | .inr (C', t3) => pCel f n m (kNx f n t3) C' := rfl
      by_cases c14 : t.1 = 14
      · rw [if_pos c14, E] at E2
        refine t_X6_readCellar_22 (d1' := 0) r2 (by omega) (fun z => absurd (R2.cl.2.2.2.mpr c14) z) (fun _ => ?_)
        exact k1 C h2 E2 r2 gG2 (x6.trans g6) (x7.trans g7) qC2 hC
      · rw [if_neg c14, E] at E2
        refine t_X6_readCellar_22 (d1' := 13) r2 (by omega) (fun _ => ?_) (fun z => absurd (R2.cl.2.2.2.mp z) c14)
        refine c_line hZ hC R2 qC2 (by omega) (fun e h3 he r3 g3 y6 y7 => ?_) (fun C' t' h3 he R3 g3 y6 y7 q3 hC' => ?_)
        · rw [he] at E2
          exact t_X6_readCellar_36 (fun z => absurd rfl z) (fun _ => k0 e h3 E2 r3 (gG2.trans g3) y6 y7)
        · rw [he] at E2
          refine t_X6_readCellar_36 (fun _ => ?_) (fun z => absurd z (by decide))
          rw [nI_add]
          exact ih (i + 1) (by omega) C' t'.2.2.1 h3 R3.2.2.2.2.2.1 R3.1 R3.2.1 R3.2.2.1.1 R3.2.2.1.2.1 (gG2.trans g3) (y6.trans (x6.trans g6)) (y7.trans (x7.trans g7)) hC' (by rw [pLn_n he, hCi]) q3 E2.symm
  refine L 9 0 (by omega) (0, fun _ => 0, fun _ _ => 0, fun _ => 0, fun _ => 0) 0 _ (by omega) r1 (kc1.keep (zI_o _ _ _ (by decide))) ?_ ?_ ((f1.weak (fun a z => by omega)).trans (zF_I _ _ _ (by omega))) ?_ ?_ ⟨by decide, fun c hc => absurd hc (Nat.not_lt_zero _)⟩ rfl ⟨zI_s _ _ _ _, fun c hc => absurd hc (Nat.not_lt_zero _)⟩ rfl
  · rw [zI_o _ _ _ (by decide)]; exact a1
  · rw [zI_o _ _ _ (by decide)]; exact a2
  · rw [zI_o _ _ _ (by decide)]; exact b6
  · rw [zI_o _ _ _ (by decide)]; exact b7
