/-! ===== actAtHand, readAct ===== -/
theorem c_hand {f : Nat → Nat} {n : Nat} {t : TK} {h : MH} {d : Nat} {Q : Option MV → MH → Prop} (hZ : kStr) (R : RI f n t h) (hd : 12 ≤ d) (kk : Q (some (.inl (if 6 ≤ t.1 ∧ t.1 ≤ 10 then nI (t.1 - 6) else -(nI 1)))) h) : Con mX6_actAtHand d 0 0 [.inr (.inr 3)] h Q := by
  refine t_X6_actAtHand (d1' := 11) R.1 (by omega) ?_
  refine R.w hZ (j := 6) (by decide) (by omega) ?_
  by_cases c6 : t.1 = 6
  · rw [if_pos c6]
    rw [c6] at kk
    exact t_X6_actAtHand_6 (d1' := 0) R.1 (by omega) (fun z => absurd z (by decide)) (fun _ => kk)
  rw [if_neg c6]
  refine t_X6_actAtHand_6 (d1' := 11) R.1 (by omega) (fun _ => ?_) (fun z => absurd rfl z)
  refine R.w hZ (j := 7) (by decide) (by omega) ?_
  by_cases c7 : t.1 = 7
  · rw [if_pos c7]
    rw [c7] at kk
    exact t_X6_actAtHand_17 (d1' := 0) R.1 (by omega) (fun z => absurd z (by decide)) (fun _ => kk)
  rw [if_neg c7]
  refine t_X6_actAtHand_17 (d1' := 11) R.1 (by omega) (fun _ => ?_) (fun z => absurd rfl z)
  refine R.w hZ (j := 8) (by decide) (by omega) ?_
  by_cases c8 : t.1 = 8
  · rw [if_pos c8]
    rw [c8] at kk
    exact t_X6_actAtHand_28 (d1' := 0) R.1 (by omega) (fun z => absurd z (by decide)) (fun _ => kk)
  rw [if_neg c8]
  refine t_X6_actAtHand_28 (d1' := 11) R.1 (by omega) (fun _ => ?_) (fun z => absurd rfl z)
  refine R.w hZ (j := 9) (by decide) (by omega) ?_
  by_cases c9 : t.1 = 9
  · rw [if_pos c9]
    rw [c9] at kk
    exact t_X6_actAtHand_39 (d1' := 0) R.1 (by omega) (fun z => absurd z (by decide)) (fun _ => kk)
  rw [if_neg c9]
  refine t_X6_actAtHand_39 (d1' := 11) R.1 (by omega) (fun _ => ?_) (fun z => absurd rfl z)
  refine R.w hZ (j := 10) (by decide) (by omega) ?_
  by_cases c10 : t.1 = 10
  · rw [if_pos c10]
    rw [c10] at kk
    exact t_X6_actAtHand_50 (fun z => absurd z (by decide)) (fun _ => kk)
  rw [if_neg c10]
  rw [if_neg (by omega)] at kk
  exact t_X6_actAtHand_50 (fun _ => kk) (fun z => absurd rfl z)
