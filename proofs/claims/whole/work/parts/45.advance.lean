/-! ===== Reader.advance ===== -/
theorem kCl_key (f : Nat → Nat) (s e : Nat) : kCl (kKey f s e) = 1 := if_pos (kKey_le f s e)
theorem c_adv {f : Nat → Nat} {n p : Nat} {h : MH} {d : Nat} {Q : Option MV → MH → Prop} (hr : zRf h) (hk : kC f n h) (hp : p ≤ n) (h1 : h.1 2 1 = nI n) (h2 : h.1 2 2 = nI p) (hd : 2 ≤ d) (kk : ∀ h', zRf h' → zF (fun a => a ≠ 2) h h' → h'.1 2 6 = h.1 2 6 → h'.1 2 7 = h.1 2 7 → rC n (kTk f n p) h' → Q none h') : Con mX6_advance d 0 0 [.inr (.inr 2)] h Q := by
  have h40 := hk.1
  -- behind the spaces
  have S : ∀ s, s < n → kE kSpc f n p = s → ∀ g : MH, zRf g → zF (fun a => a ≠ 2) h g → g.1 2 6 = h.1 2 6 → g.1 2 7 = h.1 2 7 → g.1 2 1 = nI n → g.1 2 2 = nI s → g.1 2 4 = nI s → J mX6_advance d 0 0 Q 0 0 91 [some (.inr (.inr 2))] [.inl (if kLet (f s) = true then nI 1 else nI 0)] g := by
    intro s hs hse g rg fg g6 g7 g1 g2 g4
    have hv : vp_in (g.1 2 2) 400 := by rw [g2]; exact vp_in_nI (by omega) (by omega)
    have hb : g.1 3 (g.1 2 2).toNatClampNeg = nI (f s) ∧ f s < 256 := by
      rw [g2, nI_clamp (by omega), fg.i (by decide)]
      exact hk.2 s (by omega)
    have hb2 := hb.2
    have et : kTk f n p = kT1 f n s := by unfold kTk; rw [hse]
    rw [et] at kk
    unfold kT1 at kk
    rw [if_neg (by omega)] at kk
    by_cases hl : kLet (f s) = true
    · rw [if_pos hl]
      rw [if_pos hl] at kk
      refine q_X6_advance_91 (d1' := 0) rg (by omega) (fun q => absurd q (by decide)) (fun q => absurd q (by decide)) (fun _ => ?_)
      have L : ∀ m q, q + m = n → s ≤ q → kE kLet f n q = kE kLet f n s → ∀ g : MH, zRf g → zF (fun a => a ≠ 2) h g → g.1 2 6 = h.1 2 6 → g.1 2 7 = h.1 2 7 → g.1 2 1 = nI n → g.1 2 2 = nI q → g.1 2 3 = nI 1 → g.1 2 4 = nI s → J mX6_advance d 0 0 Q 0 0 99 [some (.inr (.inr 2))] [] g := by
        intro m
        induction m with
        | zero =>
          intro q hq hsq he g rg fg g6 g7 g1 g2 g3 g4
          have hle : g.1 2 1 ≤ g.1 2 2 := by rw [g1, g2]; exact nI_le (by omega) (by omega)
          have hend : kE kLet f n s = q := by rw [← he]; exact kE_stop (by omega)
          refine q_X6_advance_99 (d1' := 0) rg (by omega) (fun p => absurd hle p) (fun _ => ?_) (fun p => absurd hle p)
          refine kk g rg fg g6 g7 ⟨g1, by rw [hend]; exact g2, by rw [kCl_key]; exact g3, g4, fun z => ?_⟩
          have := kKey_le f s (kE kLet f n s)
          have z2 : kKey f s (kE kLet f n s) = 12 := z
          omega
        | succ m ih =>
          intro q hq hsq he g rg fg g6 g7 g1 g2 g3 g4
          have hnle : ¬ g.1 2 1 ≤ g.1 2 2 := by rw [g1, g2, nI_leI (by omega) (by omega)]; omega
          have hb : g.1 3 (g.1 2 2).toNatClampNeg = nI (f q) ∧ f q < 256 := by
            rw [g2, nI_clamp (by omega), fg.i (by decide)]
            exact hk.2 q (by omega)
          refine q_X6_advance_99 (d1' := 0) rg (by omega) (fun _ => by rw [g2]; exact vp_in_nI (by omega) (by omega)) (fun p => absurd p hnle) (fun _ => ?_)
          rw [hb.1]
          refine c_let hb.2 ?_
          by_cases hg : kLet (f q) = true
          · rw [if_pos hg]
            have hstep := kE_go (g := kLet) (show q < n by omega) hg
            refine q_X6_advance_122 rg (fun p => absurd p (by decide)) (fun _ => ?_)
            rw [g2, nI_add]
            refine ih (q + 1) (by omega) (by omega) (by rw [← hstep]; exact he) _ rg (fg.trans (zF_I _ _ _ (by omega))) ?_ ?_ ?_ ?_ ?_ ?_
            · rw [zI_k _ _ _ (by decide)]; exact g6
            · rw [zI_k _ _ _ (by decide)]; exact g7
            · rw [zI_k _ _ _ (by decide)]; exact g1
            · rw [zI_s]
            · rw [zI_k _ _ _ (by decide)]; exact g3
            · rw [zI_k _ _ _ (by decide)]; exact g4
          · rw [if_neg hg]
            have hend : kE kLet f n s = q := by rw [← he]; exact kE_stop (fun z => hg z.2)
            refine q_X6_advance_122 rg (fun _ => ?_) (fun p => absurd (show nI 0 = 0 from rfl) p)
            refine kk g rg fg g6 g7 ⟨g1, by rw [hend]; exact g2, by rw [kCl_key]; exact g3, g4, fun z => ?_⟩
            have := kKey_le f s (kE kLet f n s)
            have z2 : kKey f s (kE kLet f n s) = 12 := z
            omega
      refine L (n - s) s (by omega) (Nat.le_refl _) rfl _ rg (fg.trans (zF_I _ _ _ (by omega))) ?_ ?_ ?_ ?_ ?_ ?_
      · rw [zI_k _ _ _ (by decide)]; exact g6
      · rw [zI_k _ _ _ (by decide)]; exact g7
      · rw [zI_k _ _ _ (by decide)]; exact g1
      · rw [zI_k _ _ _ (by decide)]; exact g2
      · rw [zI_s]
      · rw [zI_k _ _ _ (by decide)]; exact g4
    · rw [if_neg hl]
      rw [if_neg hl] at kk
      refine q_X6_advance_91 (d1' := 0) rg (by omega) (fun _ => hv) (fun _ => ?_) (fun q => absurd (show nI 0 = 0 from rfl) q)
      rw [hb.1]
      refine c_dig hb2 ?_
      by_cases hg : kDig (f s) = true
      · rw [if_pos hg]
        rw [if_pos hg] at kk
        refine q_X6_advance_150 (d1' := 1) rg (by omega) (fun q => absurd q (by decide)) (fun q => absurd q (by decide)) (fun q => absurd q (by decide)) (fun _ => ?_)
        refine c_digs rg (hk.keep (fg.i (by decide))) hs g1 g2 g4 (by omega) (fun h' r' f' e6 e7 e1 e2 e3 e4 e5 => ?_)
        refine q_X6_advance_157 ?_
        refine kk h' r' (fg.trans f') (e6.trans g6) (e7.trans g7) ⟨e1, e2, ?_, e4, fun _ => e5⟩
        rw [e3]
        show _ = nI (kCl (if _ then _ else _))
        split <;> rfl
      · rw [if_neg hg]
        rw [if_neg hg] at kk
        have fin : ∀ x : Nat, x = kCl (if f s = 59 then 13 else 15) → Q none (zsI (zsI g 2 3 (nI x)) 2 2 (((zsI g 2 3 (nI x)).1 2 2) + (nI 1))) := by
          intro x hx
          refine kk _ rg (fg.trans ((zF_I _ _ _ (by omega)).trans (zF_I _ _ _ (by omega)))) ?_ ?_ ⟨?_, ?_, ?_, ?_, fun z => ?_⟩
          · rw [zI_k _ _ _ (by decide), zI_k _ _ _ (by decide)]; exact g6
          · rw [zI_k _ _ _ (by decide), zI_k _ _ _ (by decide)]; exact g7
          · rw [zI_k _ _ _ (by decide), zI_k _ _ _ (by decide)]; exact g1
          · rw [zI_s, zI_k _ _ _ (by decide), g2, nI_add]
          · rw [zI_k _ _ _ (by decide), zI_s, hx]
          · rw [zI_k _ _ _ (by decide), zI_k _ _ _ (by decide)]; exact g4
          · exfalso
            have z2 : (if f s = 59 then 13 else 15) = 12 := z
            split at z2 <;> omega
        refine q_X6_advance_150 (d1' := 1) rg (by omega) (fun _ => hv) (fun _ q => ?_) (fun _ q => ?_) (fun q => absurd (show nI 0 = 0 from rfl) q)
        · rw [hb.1, nI_eq (by omega) (by omega)] at q
          exact fin 4 (by rw [if_neg q]; rfl)
        · rw [hb.1, nI_eq (by omega) (by omega)] at q
          exact fin 3 (by rw [if_pos q]; rfl)
  have L : ∀ m q, q + m = n → kE kSpc f n q = kE kSpc f n p → ∀ g : MH, zRf g → zF (fun a => a ≠ 2) h g → g.1 2 6 = h.1 2 6 → g.1 2 7 = h.1 2 7 → g.1 2 1 = nI n → g.1 2 2 = nI q → J mX6_advance d 0 0 Q 0 0 0 [some (.inr (.inr 2))] [] g := by
    intro m
    induction m with
    | zero =>
      intro q hq he g rg fg g6 g7 g1 g2
      have hle : g.1 2 1 ≤ g.1 2 2 := by rw [g1, g2]; exact nI_le (by omega) (by omega)
      have hend : kE kSpc f n p = q := by rw [← he]; exact kE_stop (by omega)
      have hnl : ¬ ((zsI g 2 4 (g.1 2 2)).1 2 2) < ((zsI g 2 4 (g.1 2 2)).1 2 1) := by
        rw [zI_k _ _ _ (by decide), zI_k _ _ _ (by decide), g1, g2, nI_ltI (by omega) (by omega)]
        omega
      refine q_X6_advance_0 (d1' := 0) (d2' := 0) rg (by omega) (by omega) (fun _ q => absurd q hnl) (fun p => absurd hle p) (fun p => absurd hle p) (fun _ q => absurd q hnl) (fun _ _ => ?_) (fun p => absurd hle p) (fun p => absurd hle p) (fun p => absurd hle p) (fun p => absurd hle p)
      have et : kTk f n p = (14, q, q, 0) := by unfold kTk kT1; rw [hend, if_pos (by omega)]
      rw [et] at kk
      refine kk _ rg (fg.trans ((zF_I _ _ _ (by omega)).trans (zF_I _ _ _ (by omega)))) ?_ ?_ ⟨?_, ?_, ?_, ?_, fun z => ?_⟩
      · rw [zI_k _ _ _ (by decide), zI_k _ _ _ (by decide)]; exact g6
      · rw [zI_k _ _ _ (by decide), zI_k _ _ _ (by decide)]; exact g7
      · rw [zI_k _ _ _ (by decide), zI_k _ _ _ (by decide)]; exact g1
      · rw [zI_k _ _ _ (by decide), zI_k _ _ _ (by decide)]; exact g2
      · rw [zI_s]; rfl
      · rw [zI_k _ _ _ (by decide), zI_s]; exact g2
      · exact absurd (show (14 : Nat) = 12 from z) (by decide)
    | succ m ih =>
      intro q hq he g rg fg g6 g7 g1 g2
      have hnle : ¬ g.1 2 1 ≤ g.1 2 2 := by rw [g1, g2, nI_leI (by omega) (by omega)]; omega
      have hb : g.1 3 (g.1 2 2).toNatClampNeg = nI (f q) ∧ f q < 256 := by
        rw [g2, nI_clamp (by omega), fg.i (by decide)]
        exact hk.2 q (by omega)
      have hb2 := hb.2
      have hv : vp_in (g.1 2 2) 400 := by rw [g2]; exact vp_in_nI (by omega) (by omega)
      have e2 : (zsI g 2 4 (g.1 2 2)).1 2 2 = nI q := by rw [zI_k _ _ _ (by decide), g2]
      have e1 : (zsI g 2 4 (g.1 2 2)).1 2 1 = nI n := by rw [zI_k _ _ _ (by decide), g1]
      have hlt : ((zsI g 2 4 (g.1 2 2)).1 2 2) < ((zsI g 2 4 (g.1 2 2)).1 2 1) := by rw [e1, e2, nI_ltI (by omega) (by omega)]; omega
      have spc : kSpc (f q) = true → J mX6_advance d 0 0 Q 0 0 0 [some (.inr (.inr 2))] [] (zsI g 2 2 ((g.1 2 2) + nI 1)) := by
        intro hsp
        have hstep := kE_go (g := kSpc) (show q < n by omega) hsp
        rw [g2, nI_add]
        refine ih (q + 1) (by omega) (by rw [← hstep]; exact he) _ rg (fg.trans (zF_I _ _ _ (by omega))) ?_ ?_ ?_ ?_
        · rw [zI_k _ _ _ (by decide)]; exact g6
        · rw [zI_k _ _ _ (by decide)]; exact g7
        · rw [zI_k _ _ _ (by decide)]; exact g1
        · rw [zI_s]
      refine q_X6_advance_0 (d1' := 0) (d2' := 0) rg (by omega) (by omega) (fun q => absurd q hnle) (fun _ => hv) (fun _ _ _ _ => by rw [e2]; exact vp_in_nI (by omega) (by omega)) (fun q => absurd q hnle) (fun q => absurd q hnle) (fun _ z => ?_) (fun _ z1 z2 _ => ?_) (fun _ _ _ z => absurd hlt z) (fun _ _ z => ?_)
      · rw [hb.1, nI_eq (by omega) (by omega)] at z
        exact spc (kSpc_t.mpr (Or.inl z))
      · rw [hb.1, nI_eq (by omega) (by omega)] at z1 z2
        have hns : ¬ kSpc (f q) = true := by rw [kSpc_t]; omega
        have hend : kE kSpc f n p = q := by rw [← he]; exact kE_stop (fun z => hns z.2)
        have e3 : (zsI g 2 4 (g.1 2 2)).1 3 ((zsI g 2 4 (g.1 2 2)).1 2 2).toNatClampNeg = nI (f q) := by
          rw [e2, zI_o _ _ _ (by decide), ← g2]
          exact hb.1
        rw [e3]
        refine c_let hb2 ?_
        refine S q (by omega) hend _ rg (fg.trans (zF_I _ _ _ (by omega))) ?_ ?_ e1 e2 ?_
        · rw [zI_k _ _ _ (by decide)]; exact g6
        · rw [zI_k _ _ _ (by decide)]; exact g7
        · rw [zI_s]; exact g2
      · rw [hb.1, nI_eq (by omega) (by omega)] at z
        exact spc (kSpc_t.mpr (Or.inr z))
  refine Con.intro rfl (Nat.le_of_ble_eq_true rfl) ?_
  show J mX6_advance d 0 0 Q 0 0 0 [some (.inr (.inr 2))] [] h
  exact L (n - p) p (by omega) rfl h hr zF.rfl rfl rfl h1 h2
