theorem t_X11_within {d : Nat} {Q : Option MV → MH → Prop} {h : MH} {v0 v2 v4 : Int64} (K0 : ¬ v2 ≤ v0 → Q (some (.inl (nI 0))) h) (K1 : v2 ≤ v0 → ¬ v0 ≤ v4 → Q (some (.inl (nI 0))) h) (K2 : v2 ≤ v0 → v0 ≤ v4 → Q (some (.inl (nI 1))) h) : Con mX11_within d 0 0 [.inr (.inl v0), .inr (.inl v2), .inr (.inl v4)] h Q := by
  refine Con.intro rfl (Nat.le_of_ble_eq_true rfl) ?_
  show J mX11_within d 0 0 Q 0 0 0 [some (.inr (.inl v0)), none, some (.inr (.inl v2)), none, some (.inr (.inl v4)), none] [] h
  refine bX11_within_0  (fun p1 => ?_) (fun p1 => ?_)
  · refine bX11_within_17  ?_
    exact bX11_within_18 (by decide) (K0 (fun q => Int32.not_lt.mpr ((lg_cmp_ge v0 v2).mpr q) p1))
  · have q1 : v2 ≤ v0 := (lg_cmp_ge v0 v2).mp (Int32.not_lt.mp p1)
    refine bX11_within_6  (fun p2 => ?_) (fun p2 => ?_)
    · refine bX11_within_17  ?_
      exact bX11_within_18 (by decide) (K1 q1 (fun q => by
        unfold lg_cmp at p2
        split at p2
        · rename_i z
          exact absurd z (Int64.not_lt.mpr q)
        · split at p2
          · exact absurd p2 (by decide)
          · exact absurd p2 (by decide)))
    · refine bX11_within_13  ?_
      exact bX11_within_18 (by decide) (K2 q1 (by
        unfold lg_cmp at p2
        split at p2
        · exact absurd (by decide) p2
        · rename_i z
          exact Int64.not_lt.mp z))

set_option maxRecDepth 20000 in
theorem t_X10_isPlan {d  : Nat} {Q : Option MV → MH → Prop} {h : MH} {v0 : Int32} (K0 : v0 < 0 → Q (some (.inl (nI 0))) h) (K1 : ¬ v0 < 0 → (nI 4) ≤ v0 → Q (some (.inl (nI 0))) h) (K2 : ¬ v0 < 0 → ¬ (nI 4) ≤ v0 → Q (some (.inl (nI 1))) h) : Con mX10_isPlan d 0 0 [.inl v0] h Q := by
  refine Con.intro rfl (Nat.le_of_ble_eq_true rfl) ?_
  show J mX10_isPlan d 0 0 Q 0 0 0 [some (.inl v0)] [] h
  refine bX10_isPlan_0  (fun p1 => ?_) (fun p1 => ?_)
  · refine bX10_isPlan_13  ?_
    exact bX10_isPlan_14 (by decide) (K0 p1)
  · refine bX10_isPlan_4  (fun p2 => ?_) (fun p2 => ?_)
    · refine bX10_isPlan_13  ?_
      exact bX10_isPlan_14 (by decide) (K1 p1 p2)
    · refine bX10_isPlan_9  ?_
      exact bX10_isPlan_14 (by decide) (K2 p1 p2)

set_option maxRecDepth 20000 in
theorem t_X10_isRow {d  : Nat} {Q : Option MV → MH → Prop} {h : MH} {v0 : Int32} (K0 : v0 < 0 → Q (some (.inl (nI 0))) h) (K1 : ¬ v0 < 0 → (nI 4) ≤ v0 → Q (some (.inl (nI 0))) h) (K2 : ¬ v0 < 0 → ¬ (nI 4) ≤ v0 → Q (some (.inl (nI 1))) h) : Con mX10_isRow d 0 0 [.inl v0] h Q := by
  refine Con.intro rfl (Nat.le_of_ble_eq_true rfl) ?_
  show J mX10_isRow d 0 0 Q 0 0 0 [some (.inl v0)] [] h
  refine bX10_isRow_0  (fun p1 => ?_) (fun p1 => ?_)
  · refine bX10_isRow_13  ?_
    exact bX10_isRow_14 (by decide) (K0 p1)
  · refine bX10_isRow_4  (fun p2 => ?_) (fun p2 => ?_)
    · refine bX10_isRow_13  ?_
      exact bX10_isRow_14 (by decide) (K1 p1 p2)
    · refine bX10_isRow_9  ?_
      exact bX10_isRow_14 (by decide) (K2 p1 p2)

set_option maxRecDepth 20000 in
theorem t_X11_planAt {d  : Nat} {Q : Option MV → MH → Prop} {h : MH} {v0 : Int32} (K0 : Q (some (.inl ((nI 162) * v0))) h) : Con mX11_planAt d 0 0 [.inl v0] h Q := by
  refine Con.intro rfl (Nat.le_of_ble_eq_true rfl) ?_
  show J mX11_planAt d 0 0 Q 0 0 0 [some (.inl v0)] [] h
  exact bX11_planAt_0  (K0)

set_option maxRecDepth 20000 in
theorem t_X11_see {d  : Nat} {Q : Option MV → MH → Prop} {h : MH} {v1 : Int32} (hr : zRf h) (G0 : ¬ (h.1 111 8) ≤ v1 → vp_in v1 400) (K0 : (h.1 111 8) ≤ v1 → Q (some (.inl (-(nI 1)))) h) (K1 : ¬ (h.1 111 8) ≤ v1 → Q (some (.inl (h.1 114 v1.toNatClampNeg))) h) : Con mX11_see d 0 0 [.inr (.inr 111), .inl v1] h Q := by
  refine Con.intro rfl (Nat.le_of_ble_eq_true rfl) ?_
  show J mX11_see d 0 0 Q 0 0 0 [some (.inr (.inr 111)), some (.inl v1)] [] h
  refine bX11_see_0 hr (fun p1 => ?_) (fun p1 => ?_)
  · refine bX11_see_17  ?_
    exact bX11_see_18  (K0 p1)
  · refine bX11_see_8 hr (G0 p1) ?_
    exact bX11_see_18  (K1 p1)

set_option maxRecDepth 20000 in
theorem t_X11_isSmall {d  : Nat} {Q : Option MV → MH → Prop} {h : MH} {v0 : Int32} (K0 : v0 < (nI 97) → Q (some (.inl (nI 0))) h) (K1 : ¬ v0 < (nI 97) → (nI 122) < v0 → Q (some (.inl (nI 0))) h) (K2 : ¬ v0 < (nI 97) → ¬ (nI 122) < v0 → Q (some (.inl (nI 1))) h) : Con mX11_isSmall d 0 0 [.inl v0] h Q := by
  refine Con.intro rfl (Nat.le_of_ble_eq_true rfl) ?_
  show J mX11_isSmall d 0 0 Q 0 0 0 [some (.inl v0)] [] h
  refine bX11_isSmall_0  (fun p1 => ?_) (fun p1 => ?_)
  · refine bX11_isSmall_16  ?_
    exact bX11_isSmall_17 (by decide) (K0 p1)
  · refine bX11_isSmall_6  (fun p2 => ?_) (fun p2 => ?_)
    · refine bX11_isSmall_16  ?_
      exact bX11_isSmall_17 (by decide) (K1 p1 p2)
    · refine bX11_isSmall_12  ?_
      exact bX11_isSmall_17 (by decide) (K2 p1 p2)

set_option maxRecDepth 20000 in
theorem t_X11_isDigit {d  : Nat} {Q : Option MV → MH → Prop} {h : MH} {v0 : Int32} (K0 : v0 < (nI 48) → Q (some (.inl (nI 0))) h) (K1 : ¬ v0 < (nI 48) → (nI 57) < v0 → Q (some (.inl (nI 0))) h) (K2 : ¬ v0 < (nI 48) → ¬ (nI 57) < v0 → Q (some (.inl (nI 1))) h) : Con mX11_isDigit d 0 0 [.inl v0] h Q := by
  refine Con.intro rfl (Nat.le_of_ble_eq_true rfl) ?_
  show J mX11_isDigit d 0 0 Q 0 0 0 [some (.inl v0)] [] h
  refine bX11_isDigit_0  (fun p1 => ?_) (fun p1 => ?_)
  · refine bX11_isDigit_16  ?_
    exact bX11_isDigit_17 (by decide) (K0 p1)
  · refine bX11_isDigit_6  (fun p2 => ?_) (fun p2 => ?_)
    · refine bX11_isDigit_16  ?_
      exact bX11_isDigit_17 (by decide) (K1 p1 p2)
    · refine bX11_isDigit_12  ?_
      exact bX11_isDigit_17 (by decide) (K2 p1 p2)

set_option maxRecDepth 20000 in
theorem t_X6_isLetter {d  : Nat} {Q : Option MV → MH → Prop} {h : MH} {v0 : Int32} (K0 : v0 < (nI 97) → Q (some (.inl (nI 0))) h) (K1 : ¬ v0 < (nI 97) → (nI 122) < v0 → Q (some (.inl (nI 0))) h) (K2 : ¬ v0 < (nI 97) → ¬ (nI 122) < v0 → Q (some (.inl (nI 1))) h) : Con mX6_isLetter d 0 0 [.inl v0] h Q := by
  refine Con.intro rfl (Nat.le_of_ble_eq_true rfl) ?_
  show J mX6_isLetter d 0 0 Q 0 0 0 [some (.inl v0)] [] h
  refine bX6_isLetter_0  (fun p1 => ?_) (fun p1 => ?_)
  · refine bX6_isLetter_16  ?_
    exact bX6_isLetter_17 (by decide) (K0 p1)
  · refine bX6_isLetter_6  (fun p2 => ?_) (fun p2 => ?_)
    · refine bX6_isLetter_16  ?_
      exact bX6_isLetter_17 (by decide) (K1 p1 p2)
    · refine bX6_isLetter_12  ?_
      exact bX6_isLetter_17 (by decide) (K2 p1 p2)

set_option maxRecDepth 20000 in
theorem t_X6_isDigit {d  : Nat} {Q : Option MV → MH → Prop} {h : MH} {v0 : Int32} (K0 : v0 < (nI 48) → Q (some (.inl (nI 0))) h) (K1 : ¬ v0 < (nI 48) → (nI 57) < v0 → Q (some (.inl (nI 0))) h) (K2 : ¬ v0 < (nI 48) → ¬ (nI 57) < v0 → Q (some (.inl (nI 1))) h) : Con mX6_isDigit d 0 0 [.inl v0] h Q := by
  refine Con.intro rfl (Nat.le_of_ble_eq_true rfl) ?_
  show J mX6_isDigit d 0 0 Q 0 0 0 [some (.inl v0)] [] h
  refine bX6_isDigit_0  (fun p1 => ?_) (fun p1 => ?_)
  · refine bX6_isDigit_16  ?_
    exact bX6_isDigit_17 (by decide) (K0 p1)
  · refine bX6_isDigit_6  (fun p2 => ?_) (fun p2 => ?_)
    · refine bX6_isDigit_16  ?_
      exact bX6_isDigit_17 (by decide) (K1 p1 p2)
    · refine bX6_isDigit_12  ?_
      exact bX6_isDigit_17 (by decide) (K2 p1 p2)

set_option maxRecDepth 20000 in
theorem t_X2_has {d  : Nat} {Q : Option MV → MH → Prop} {h : MH} {v1 : Int32} {v0 : Nat} (G0 : ¬ v1 < 0 → zokO h v0 2) (K0 : v1 < 0 → Q (some (.inl (nI 0))) h) (K1 : ¬ v1 < 0 → (h.1 v0 0) ≤ v1 → Q (some (.inl (nI 0))) h) (K2 : ¬ v1 < 0 → ¬ (h.1 v0 0) ≤ v1 → Q (some (.inl (nI 1))) h) : Con mX2_has d 0 0 [.inr (.inr v0), .inl v1] h Q := by
  refine Con.intro rfl (Nat.le_of_ble_eq_true rfl) ?_
  show J mX2_has d 0 0 Q 0 0 0 [some (.inr (.inr v0)), some (.inl v1)] [] h
  refine bX2_has_0  (fun p1 => ?_) (fun p1 => ?_)
  · refine bX2_has_16  ?_
    exact bX2_has_17 (by decide) (K0 p1)
  · refine bX2_has_4 (G0 p1) (fun p2 => ?_) (fun p2 => ?_)
    · refine bX2_has_16  ?_
      exact bX2_has_17 (by decide) (K1 p1 p2)
    · refine bX2_has_12  ?_
      exact bX2_has_17 (by decide) (K2 p1 p2)

set_option maxRecDepth 20000 in
theorem t_X8_stands {d  : Nat} {Q : Option MV → MH → Prop} {h : MH} {v1 : Int32} (hr : zRf h) (G0 : ¬ v1 < 0 → ¬ (h.1 48 0) ≤ v1 → vp_in v1 8) (K0 : v1 < 0 → Q (some (.inl (nI 0))) h) (K1 : ¬ v1 < 0 → (h.1 48 0) ≤ v1 → Q (some (.inl (nI 0))) h) (K2 : ¬ v1 < 0 → ¬ (h.1 48 0) ≤ v1 → (h.1 50 v1.toNatClampNeg) ≤ 0 → Q (some (.inl (nI 0))) h) (K3 : ¬ v1 < 0 → ¬ (h.1 48 0) ≤ v1 → ¬ (h.1 50 v1.toNatClampNeg) ≤ 0 → Q (some (.inl (nI 1))) h) : Con mX8_stands d 0 0 [.inr (.inr 48), .inl v1] h Q := by
  refine Con.intro rfl (Nat.le_of_ble_eq_true rfl) ?_
  show J mX8_stands d 0 0 Q 0 0 0 [some (.inr (.inr 48)), some (.inl v1)] [] h
  refine bX8_stands_0  (fun p1 => ?_) (fun p1 => ?_)
  · refine bX8_stands_25  ?_
    exact bX8_stands_26 (by decide) (K0 p1)
  · refine bX8_stands_4 hr (fun p2 => ?_) (fun p2 => ?_)
    · refine bX8_stands_25  ?_
      exact bX8_stands_26 (by decide) (K1 p1 p2)
    · refine bX8_stands_12 hr (G0 p1 p2) (fun p3 => ?_) (fun p3 => ?_)
      · refine bX8_stands_25  ?_
        exact bX8_stands_26 (by decide) (K2 p1 p2 p3)
      · refine bX8_stands_21  ?_
        exact bX8_stands_26 (by decide) (K3 p1 p2 p3)

set_option maxRecDepth 20000 in
theorem t_X5_actsFrom {d  : Nat} {Q : Option MV → MH → Prop} {h : MH} {v1 : Int32} {v0 : Nat} (hr : zRf h) (G0 : ¬ v1 ≤ 0 → zokO h v0 5) (G1 : ¬ v1 ≤ 0 → ¬ (h.1 v0 0) ≤ v1 → vp_in (v1 - (nI 1)) 20) (K0 : v1 ≤ 0 → Q (some (.inl (nI 0))) h) (K1 : ¬ v1 ≤ 0 → (h.1 v0 0) ≤ v1 → Q (some (.inl (nI 0))) h) (K2 : ¬ v1 ≤ 0 → ¬ (h.1 v0 0) ≤ v1 → Q (some (.inl (h.1 (v0 + 2) (v1 - (nI 1)).toNatClampNeg))) h) : Con mX5_actsFrom d 0 0 [.inr (.inr v0), .inl v1] h Q := by
  refine Con.intro rfl (Nat.le_of_ble_eq_true rfl) ?_
  show J mX5_actsFrom d 0 0 Q 0 0 0 [some (.inr (.inr v0)), some (.inl v1)] [] h
  refine bX5_actsFrom_0  (fun p1 => ?_) (fun p1 => ?_)
  · refine bX5_actsFrom_23  ?_
    exact bX5_actsFrom_24  (K0 p1)
  · refine bX5_actsFrom_4 (G0 p1) (fun p2 => ?_) (fun p2 => ?_)
    · refine bX5_actsFrom_23  ?_
      exact bX5_actsFrom_24  (K1 p1 p2)
    · refine bX5_actsFrom_12 hr (G0 p1) (G1 p1 p2) ?_
      exact bX5_actsFrom_24  (K2 p1 p2)

set_option maxRecDepth 20000 in
theorem t_X8_bellAt {d  : Nat} {Q : Option MV → MH → Prop} {h : MH} {v1 : Int32} (hr : zRf h) (G0 : ¬ v1 < 0 → ¬ (h.1 48 9) ≤ v1 → vp_in v1 40) (K0 : v1 < 0 → Q (some (.inl (-(nI 1)))) h) (K1 : ¬ v1 < 0 → (h.1 48 9) ≤ v1 → Q (some (.inl (-(nI 1)))) h) (K2 : ¬ v1 < 0 → ¬ (h.1 48 9) ≤ v1 → Q (some (.inl ((h.1 56 v1.toNatClampNeg) / (nI 256)))) h) : Con mX8_bellAt d 0 0 [.inr (.inr 48), .inl v1] h Q := by
  refine Con.intro rfl (Nat.le_of_ble_eq_true rfl) ?_
  show J mX8_bellAt d 0 0 Q 0 0 0 [some (.inr (.inr 48)), some (.inl v1)] [] h
  refine bX8_bellAt_0  (fun p1 => ?_) (fun p1 => ?_)
  · refine bX8_bellAt_25  ?_
    exact bX8_bellAt_26  (K0 p1)
  · refine bX8_bellAt_4 hr (fun p2 => ?_) (fun p2 => ?_)
    · refine bX8_bellAt_25  ?_
      exact bX8_bellAt_26  (K1 p1 p2)
    · refine bX8_bellAt_12 hr (G0 p1 p2) ?_
      exact bX8_bellAt_26  (K2 p1 p2)

set_option maxRecDepth 20000 in
theorem t_X11_is {d  : Nat} {Q : Option MV → MH → Prop} {h : MH} {v1 : Int32} (hr : zRf h) (K0 : ¬ (h.1 111 11) = 0 → Q (some (.inl (nI 0))) h) (K1 : (h.1 111 11) = 0 → ¬ (h.1 111 9) = v1 → Q (some (.inl (nI 0))) h) (K2 : (h.1 111 11) = 0 → (h.1 111 9) = v1 → Q (some (.inl (nI 1))) h) : Con mX11_is d 0 0 [.inr (.inr 111), .inl v1] h Q := by
  refine Con.intro rfl (Nat.le_of_ble_eq_true rfl) ?_
  show J mX11_is d 0 0 Q 0 0 0 [some (.inr (.inr 111)), some (.inl v1)] [] h
  refine bX11_is_0 hr (fun p1 => ?_) (fun p1 => ?_)
  · refine bX11_is_19  ?_
    exact bX11_is_20 (by decide) (K0 p1)
  · refine bX11_is_7 hr (fun p2 => ?_) (fun p2 => ?_)
    · refine bX11_is_19  ?_
      exact bX11_is_20 (by decide) (K1 p1 p2)
    · refine bX11_is_15  ?_
      exact bX11_is_20 (by decide) (K2 p1 p2)

set_option maxRecDepth 20000 in
theorem t_X11_fails {d  : Nat} {Q : Option MV → MH → Prop} {h : MH} {v1 : Int32} (hr : zRf h) (K0 : (h.1 111 11) = 0 → ¬ (h.1 111 9) = (nI 15) → Q none (zsI (zsI h 111 11 v1) 111 12 ((zsI h 111 11 v1).1 111 6))) (K1 : (h.1 111 11) = 0 → (h.1 111 9) = (nI 15) → Q none (zsI (zsI h 111 11 (nI 1)) 111 12 ((zsI h 111 11 (nI 1)).1 111 6))) (K2 : ¬ (h.1 111 11) = 0 → Q none h) : Con mX11_fails d 0 0 [.inr (.inr 111), .inl v1] h Q := by
  refine Con.intro rfl (Nat.le_of_ble_eq_true rfl) ?_
  show J mX11_fails d 0 0 Q 0 0 0 [some (.inr (.inr 111)), some (.inl v1)] [] h
  refine bX11_fails_0 hr (fun p1 => ?_) (fun p1 => ?_)
  · refine bX11_fails_8 hr (fun p2 => ?_) (fun p2 => ?_)
    · refine bX11_fails_22  ?_
      exact bX11_fails_23 hr (K0 p1 p2)
    · refine bX11_fails_18  ?_
      exact bX11_fails_23 hr (K1 p1 p2)
  · exact bX11_fails_7  (K2 p1)

set_option maxRecDepth 20000 in
theorem t_X6_refuse {d  : Nat} {Q : Option MV → MH → Prop} {h : MH} {v1 : Int32} (hr : zRf h) (K0 : ¬ (h.1 2 3) = (nI 4) → Q (some (.inl (nI 0))) (zsI (zsI h 2 6 v1) 2 7 ((zsI h 2 6 v1).1 2 4))) (K1 : (h.1 2 3) = (nI 4) → Q (some (.inl (nI 0))) (zsI (zsI h 2 6 (nI 1)) 2 7 ((zsI h 2 6 (nI 1)).1 2 4))) : Con mX6_refuse d 0 0 [.inr (.inr 2), .inl v1] h Q := by
  refine Con.intro rfl (Nat.le_of_ble_eq_true rfl) ?_
  show J mX6_refuse d 0 0 Q 0 0 0 [some (.inr (.inr 2)), some (.inl v1)] [] h
  refine bX6_refuse_0 hr (fun p1 => ?_) (fun p1 => ?_)
  · refine bX6_refuse_13  ?_
    exact bX6_refuse_14 hr (K0 p1)
  · refine bX6_refuse_9  ?_
    exact bX6_refuse_14 hr (K1 p1)

set_option maxRecDepth 20000 in
theorem t_X11_minuteOf {d  : Nat} {Q : Option MV → MH → Prop} {h : MH} {v1 v2 : Int32} (hr : zRf h) (G0 : vp_in (((nI 9) + ((nI 6) * v1)) + v2) 2166) (K0 : Q (some (.inl (h.1 112 (((nI 9) + ((nI 6) * v1)) + v2).toNatClampNeg))) h) : Con mX11_minuteOf d 0 0 [.inr (.inr 111), .inl v1, .inl v2] h Q := by
  refine Con.intro rfl (Nat.le_of_ble_eq_true rfl) ?_
  show J mX11_minuteOf d 0 0 Q 0 0 0 [some (.inr (.inr 111)), some (.inl v1), some (.inl v2)] [] h
  exact bX11_minuteOf_0 hr (G0) (K0)

set_option maxRecDepth 20000 in
theorem t_X11_isPlan {d  : Nat} {Q : Option MV → MH → Prop} {h : MH} {v0 : Int32} (hd : 1 ≤ d) (K0 : ¬ (lN 0) ≤ v0.toInt64 → Q (some (.inl (nI 0))) h) (K1 : (lN 0) ≤ v0.toInt64 → ¬ v0.toInt64 ≤ (3 : Int64) → Q (some (.inl (nI 0))) h) (K2 : (lN 0) ≤ v0.toInt64 → v0.toInt64 ≤ (3 : Int64) → Q (some (.inl (nI 1))) h) : Con mX11_isPlan d 0 0 [.inl v0] h Q := by
  refine Con.intro rfl (Nat.le_of_ble_eq_true rfl) ?_
  show J mX11_isPlan d 0 0 Q 0 0 0 [some (.inl v0)] [] h
  refine bX11_isPlan_0 (d' := 0)  (by omega) ?_
  refine t_X11_within  ?_ ?_ ?_
  · intro p1
    exact bX11_isPlan_9 (by decide) (K0 p1)
  · intro p2 p3
    exact bX11_isPlan_9 (by decide) (K1 p2 p3)
  · intro p4 p5
    exact bX11_isPlan_9 (by decide) (K2 p4 p5)

set_option maxRecDepth 20000 in
theorem t_X11_isCandle {d  : Nat} {Q : Option MV → MH → Prop} {h : MH} {v1 : Int32} (hr : zRf h) (hd : 1 ≤ d) (K0 : ¬ (lN 0) ≤ v1.toInt64 → Q (some (.inl (nI 0))) h) (K1 : (lN 0) ≤ v1.toInt64 → ¬ v1.toInt64 ≤ (((h.1 112 0) - (nI 1)).toInt64) → Q (some (.inl (nI 0))) h) (K2 : (lN 0) ≤ v1.toInt64 → v1.toInt64 ≤ (((h.1 112 0) - (nI 1)).toInt64) → Q (some (.inl (nI 1))) h) : Con mX11_isCandle d 0 0 [.inr (.inr 111), .inl v1] h Q := by
  refine Con.intro rfl (Nat.le_of_ble_eq_true rfl) ?_
  show J mX11_isCandle d 0 0 Q 0 0 0 [some (.inr (.inr 111)), some (.inl v1)] [] h
  refine bX11_isCandle_0 (d' := 0) hr (vp_in_nI (by decide) (by decide)) (by omega) ?_
  refine t_X11_within  ?_ ?_ ?_
  · intro p1
    exact bX11_isCandle_15 (by decide) (K0 p1)
  · intro p2 p3
    exact bX11_isCandle_15 (by decide) (K1 p2 p3)
  · intro p4 p5
    exact bX11_isCandle_15 (by decide) (K2 p4 p5)

set_option maxRecDepth 20000 in
theorem t_X11_isNear {d  : Nat} {Q : Option MV → MH → Prop} {h : MH} {v2 v3 : Int32} {v0 : Int64} (hd : 1 ≤ d) (K0 : ¬ (v2.toInt64 - v3.toInt64) ≤ v0 → Q (some (.inl (nI 0))) h) (K1 : (v2.toInt64 - v3.toInt64) ≤ v0 → ¬ v0 ≤ (v2.toInt64 + v3.toInt64) → Q (some (.inl (nI 0))) h) (K2 : (v2.toInt64 - v3.toInt64) ≤ v0 → v0 ≤ (v2.toInt64 + v3.toInt64) → Q (some (.inl (nI 1))) h) : Con mX11_isNear d 0 0 [.inr (.inl v0), .inl v2, .inl v3] h Q := by
  refine Con.intro rfl (Nat.le_of_ble_eq_true rfl) ?_
  show J mX11_isNear d 0 0 Q 0 0 0 [some (.inr (.inl v0)), none, some (.inl v2), some (.inl v3)] [] h
  refine bX11_isNear_0 (d' := 0)  (by omega) ?_
  refine t_X11_within  ?_ ?_ ?_
  · intro p1
    exact bX11_isNear_14 (by decide) (K0 p1)
  · intro p2 p3
    exact bX11_isNear_14 (by decide) (K1 p2 p3)
  · intro p4 p5
    exact bX11_isNear_14 (by decide) (K2 p4 p5)

set_option maxRecDepth 20000 in
theorem t_X6_isNumber {d  : Nat} {Q : Option MV → MH → Prop} {h : MH} {v1 v2 : Int32} (hr : zRf h) (hd : 1 ≤ d) (K0 : (h.1 2 3) = (nI 2) → (h.1 2 5) < v1 → ¬ (h.1 2 3) = (nI 4) → Q (some (.inl (nI 0))) (zsI (zsI h 2 6 (nI 3)) 2 7 ((zsI h 2 6 (nI 3)).1 2 4))) (K1 : (h.1 2 3) = (nI 2) → (h.1 2 5) < v1 → (h.1 2 3) = (nI 4) → Q (some (.inl (nI 0))) (zsI (zsI h 2 6 (nI 1)) 2 7 ((zsI h 2 6 (nI 1)).1 2 4))) (K2 : (h.1 2 3) = (nI 2) → ¬ (h.1 2 5) < v1 → (h.1 2 5) ≤ v2 → Q (some (.inl (nI 1))) h) (K3 : (h.1 2 3) = (nI 2) → ¬ (h.1 2 5) < v1 → ¬ (h.1 2 5) ≤ v2 → ¬ (h.1 2 3) = (nI 4) → Q (some (.inl (nI 0))) (zsI (zsI h 2 6 (nI 3)) 2 7 ((zsI h 2 6 (nI 3)).1 2 4))) (K4 : (h.1 2 3) = (nI 2) → ¬ (h.1 2 5) < v1 → ¬ (h.1 2 5) ≤ v2 → (h.1 2 3) = (nI 4) → Q (some (.inl (nI 0))) (zsI (zsI h 2 6 (nI 1)) 2 7 ((zsI h 2 6 (nI 1)).1 2 4))) (K5 : ¬ (h.1 2 3) = (nI 2) → ¬ (h.1 2 3) = (nI 4) → Q (some (.inl (nI 0))) (zsI (zsI h 2 6 (nI 2)) 2 7 ((zsI h 2 6 (nI 2)).1 2 4))) (K6 : ¬ (h.1 2 3) = (nI 2) → (h.1 2 3) = (nI 4) → Q (some (.inl (nI 0))) (zsI (zsI h 2 6 (nI 1)) 2 7 ((zsI h 2 6 (nI 1)).1 2 4))) : Con mX6_isNumber d 0 0 [.inr (.inr 2), .inl v1, .inl v2] h Q := by
  refine Con.intro rfl (Nat.le_of_ble_eq_true rfl) ?_
  show J mX6_isNumber d 0 0 Q 0 0 0 [some (.inr (.inr 2)), some (.inl v1), some (.inl v2)] [] h
  refine bX6_isNumber_0 hr (fun p1 => ?_) (fun p1 => ?_)
  · refine bX6_isNumber_14 hr (fun p2 => ?_) (fun p2 => ?_)
    · refine bX6_isNumber_30 (d' := 0) hr (by omega) ?_
      refine t_X6_refuse hr ?_ ?_
      · intro p3
        refine bX6_isNumber_35  (fun _ => ?_) (fun c => absurd c (by decide))
        refine bX6_isNumber_42  ?_
        exact bX6_isNumber_43 (by decide) (K0 p1 p2 p3)
      · intro p4
        refine bX6_isNumber_35  (fun _ => ?_) (fun c => absurd c (by decide))
        refine bX6_isNumber_42  ?_
        exact bX6_isNumber_43 (by decide) (K1 p1 p2 p4)
    · refine bX6_isNumber_22 hr (fun p5 => ?_) (fun p5 => ?_)
      · refine bX6_isNumber_38  ?_
        exact bX6_isNumber_43 (by decide) (K2 p1 p2 p5)
      · refine bX6_isNumber_30 (d' := 0) hr (by omega) ?_
        refine t_X6_refuse hr ?_ ?_
        · intro p6
          refine bX6_isNumber_35  (fun _ => ?_) (fun c => absurd c (by decide))
          refine bX6_isNumber_42  ?_
          exact bX6_isNumber_43 (by decide) (K3 p1 p2 p5 p6)
        · intro p7
          refine bX6_isNumber_35  (fun _ => ?_) (fun c => absurd c (by decide))
          refine bX6_isNumber_42  ?_
          exact bX6_isNumber_43 (by decide) (K4 p1 p2 p5 p7)
  · refine bX6_isNumber_8 (d' := 0) hr (by omega) ?_
    refine t_X6_refuse hr ?_ ?_
    · intro p8
      exact bX6_isNumber_13 (by decide) (K5 p1 p8)
    · intro p9
      exact bX6_isNumber_13 (by decide) (K6 p1 p9)

set_option maxRecDepth 20000 in
theorem t_X11_isTime {d  : Nat} {Q : Option MV → MH → Prop} {h : MH} {v1 : Int32} (hr : zRf h) (G0 : ¬ (nI 11600) ≤ (v1 / (nI 32)) → vp_in (v1 / (nI 32)) 11600) (K0 : (nI 11600) ≤ (v1 / (nI 32)) → Q (some (.inl (nI 0))) h) (K1 : ¬ (nI 11600) ≤ (v1 / (nI 32)) → ¬ (((h.1 132 (v1 / (nI 32)).toNatClampNeg) >>> ((v1 - v1 / (nI 32) * (nI 32)) &&& 31)) &&& (nI 1)) = (nI 1) → Q (some (.inl (nI 0))) h) (K2 : ¬ (nI 11600) ≤ (v1 / (nI 32)) → (((h.1 132 (v1 / (nI 32)).toNatClampNeg) >>> ((v1 - v1 / (nI 32) * (nI 32)) &&& 31)) &&& (nI 1)) = (nI 1) → Q (some (.inl (nI 1))) h) : Con mX11_isTime d 0 0 [.inr (.inr 111), .inl v1] h Q := by
  refine Con.intro rfl (Nat.le_of_ble_eq_true rfl) ?_
  show J mX11_isTime d 0 0 Q 0 0 0 [some (.inr (.inr 111)), some (.inl v1)] [] h
  refine bX11_isTime_0 hr (fun p1 => ?_) (fun p1 => ?_)
  · refine bX11_isTime_36  ?_
    exact bX11_isTime_37 (by decide) (K0 p1)
  · refine bX11_isTime_12 hr (G0 p1) (fun p2 => ?_) (fun p2 => ?_)
    · refine bX11_isTime_36  ?_
      exact bX11_isTime_37 (by decide) (K1 p1 p2)
    · refine bX11_isTime_32  ?_
      exact bX11_isTime_37 (by decide) (K2 p1 p2)

set_option maxRecDepth 20000 in
theorem t_X11_adds {d  : Nat} {Q : Option MV → MH → Prop} {h : MH} {v1 : Int32} (hr : zRf h) (G0 : vp_in (v1 / (nI 32)) 11600) (K0 : Q none (zsI h 132 (v1 / (nI 32)).toNatClampNeg ((h.1 132 (v1 / (nI 32)).toNatClampNeg) ||| ((nI 1) <<< ((v1 - v1 / (nI 32) * (nI 32)) &&& 31))))) : Con mX11_adds d 0 0 [.inr (.inr 111), .inl v1] h Q := by
  refine Con.intro rfl (Nat.le_of_ble_eq_true rfl) ?_
  show J mX11_adds d 0 0 Q 0 0 0 [some (.inr (.inr 111)), some (.inl v1)] [] h
  exact bX11_adds_0 hr (G0) (K0)

set_option maxRecDepth 20000 in
theorem t_X3_hasMark {d  : Nat} {Q : Option MV → MH → Prop} {h : MH} {v1 : Int32} {v0 : Nat} (hr : zRf h) (G0 : ¬ v1 < 0 → ¬ (nI 23104) ≤ v1 → zokO h v0 3) (G1 : ¬ v1 < 0 → ¬ (nI 23104) ≤ v1 → vp_in (v1 >>> ((nI 6) &&& 31)) 361) (K0 : v1 < 0 → Q (some (.inl (nI 0))) h) (K1 : ¬ v1 < 0 → (nI 23104) ≤ v1 → Q (some (.inl (nI 0))) h) (K2 : ¬ v1 < 0 → ¬ (nI 23104) ≤ v1 → (lg_cmp ((((h.2.1 (v0 + 1) (v1 >>> ((nI 6) &&& 31)).toNatClampNeg).toUInt64 >>> ((v1 &&& (nI 63)).toInt64.toUInt64 &&& Int64.toUInt64 63)).toInt64) &&& (lN 1)) (lN 0)) = 0 → Q (some (.inl (nI 0))) h) (K3 : ¬ v1 < 0 → ¬ (nI 23104) ≤ v1 → ¬ (lg_cmp ((((h.2.1 (v0 + 1) (v1 >>> ((nI 6) &&& 31)).toNatClampNeg).toUInt64 >>> ((v1 &&& (nI 63)).toInt64.toUInt64 &&& Int64.toUInt64 63)).toInt64) &&& (lN 1)) (lN 0)) = 0 → Q (some (.inl (nI 1))) h) : Con mX3_hasMark d 0 0 [.inr (.inr v0), .inl v1] h Q := by
  refine Con.intro rfl (Nat.le_of_ble_eq_true rfl) ?_
  show J mX3_hasMark d 0 0 Q 0 0 0 [some (.inr (.inr v0)), some (.inl v1)] [] h
  refine bX3_hasMark_0  (fun p1 => ?_) (fun p1 => ?_)
  · refine bX3_hasMark_36  ?_
    exact bX3_hasMark_37 (by decide) (K0 p1)
  · refine bX3_hasMark_4  (fun p2 => ?_) (fun p2 => ?_)
    · refine bX3_hasMark_36  ?_
      exact bX3_hasMark_37 (by decide) (K1 p1 p2)
    · refine bX3_hasMark_11 hr (G0 p1 p2) (G1 p1 p2) (fun p3 => ?_) (fun p3 => ?_)
      · refine bX3_hasMark_36  ?_
        exact bX3_hasMark_37 (by decide) (K2 p1 p2 p3)
      · refine bX3_hasMark_32  ?_
        exact bX3_hasMark_37 (by decide) (K3 p1 p2 p3)

set_option maxRecDepth 20000 in
theorem t_X3_has {d  : Nat} {Q : Option MV → MH → Prop} {h : MH} {v1 : Int32} {v0 : Nat} (hr : zRf h) (hd : 1 ≤ d) (G0 : ¬ v1 < 0 → (v1 - v1 / (nI 16) * (nI 16)) = 0 → zokO h v0 3) (G1 : ¬ v1 < 0 → (v1 - v1 / (nI 16) * (nI 16)) = 0 → ¬ (v1 / (nI 16)) < 0 → ¬ (nI 23104) ≤ (v1 / (nI 16)) → vp_in ((v1 / (nI 16)) >>> ((nI 6) &&& 31)) 361) (K0 : v1 < 0 → Q (some (.inl (nI 0))) h) (K1 : ¬ v1 < 0 → ¬ (v1 - v1 / (nI 16) * (nI 16)) = 0 → Q (some (.inl (nI 0))) h) (K2 : ¬ v1 < 0 → (v1 - v1 / (nI 16) * (nI 16)) = 0 → (v1 / (nI 16)) < 0 → Q (some (.inl (nI 0))) h) (K3 : ¬ v1 < 0 → (v1 - v1 / (nI 16) * (nI 16)) = 0 → ¬ (v1 / (nI 16)) < 0 → (nI 23104) ≤ (v1 / (nI 16)) → Q (some (.inl (nI 0))) h) (K4 : ¬ v1 < 0 → (v1 - v1 / (nI 16) * (nI 16)) = 0 → ¬ (v1 / (nI 16)) < 0 → ¬ (nI 23104) ≤ (v1 / (nI 16)) → (lg_cmp ((((h.2.1 (v0 + 1) ((v1 / (nI 16)) >>> ((nI 6) &&& 31)).toNatClampNeg).toUInt64 >>> (((v1 / (nI 16)) &&& (nI 63)).toInt64.toUInt64 &&& Int64.toUInt64 63)).toInt64) &&& (lN 1)) (lN 0)) = 0 → Q (some (.inl (nI 0))) h) (K5 : ¬ v1 < 0 → (v1 - v1 / (nI 16) * (nI 16)) = 0 → ¬ (v1 / (nI 16)) < 0 → ¬ (nI 23104) ≤ (v1 / (nI 16)) → ¬ (lg_cmp ((((h.2.1 (v0 + 1) ((v1 / (nI 16)) >>> ((nI 6) &&& 31)).toNatClampNeg).toUInt64 >>> (((v1 / (nI 16)) &&& (nI 63)).toInt64.toUInt64 &&& Int64.toUInt64 63)).toInt64) &&& (lN 1)) (lN 0)) = 0 → Q (some (.inl (nI 1))) h) : Con mX3_has d 0 0 [.inr (.inr v0), .inl v1] h Q := by
  refine Con.intro rfl (Nat.le_of_ble_eq_true rfl) ?_
  show J mX3_has d 0 0 Q 0 0 0 [some (.inr (.inr v0)), some (.inl v1)] [] h
  refine bX3_has_0  (fun p1 => ?_) (fun p1 => ?_)
  · refine bX3_has_26  ?_
    exact bX3_has_27 (by decide) (K0 p1)
  · refine bX3_has_4  (fun p2 => ?_) (fun p2 => ?_)
    · refine bX3_has_26  ?_
      exact bX3_has_27 (by decide) (K1 p1 p2)
    · refine bX3_has_11 (d' := 0) (G0 p1 p2) (by omega) ?_
      refine t_X3_hasMark hr ?_ ?_ ?_ ?_ ?_ ?_
      · intro p3 p4; exact (G0 p1 p2)
      · intro p5 p6; exact (G1 p1 p2 p5 p6)
      · intro p7
        refine bX3_has_19  (fun _ => ?_) (fun c => absurd c (by decide))
        refine bX3_has_26  ?_
        exact bX3_has_27 (by decide) (K2 p1 p2 p7)
      · intro p8 p9
        refine bX3_has_19  (fun _ => ?_) (fun c => absurd c (by decide))
        refine bX3_has_26  ?_
        exact bX3_has_27 (by decide) (K3 p1 p2 p8 p9)
      · intro p10 p11 p12
        refine bX3_has_19  (fun _ => ?_) (fun c => absurd c (by decide))
        refine bX3_has_26  ?_
        exact bX3_has_27 (by decide) (K4 p1 p2 p10 p11 p12)
      · intro p13 p14 p15
        refine bX3_has_19  (fun c => absurd c (by decide)) (fun _ => ?_)
        refine bX3_has_22  ?_
        exact bX3_has_27 (by decide) (K5 p1 p2 p13 p14 p15)

set_option maxRecDepth 20000 in
theorem t_X3_add {d  : Nat} {Q : Option MV → MH → Prop} {h : MH} {v1 : Int32} {v0 : Nat} (hr : zRf h) (G0 : ¬ (v1 / (nI 16)) < 0 → ¬ (nI 23104) ≤ (v1 / (nI 16)) → zokO h v0 3) (G1 : ¬ (v1 / (nI 16)) < 0 → ¬ (nI 23104) ≤ (v1 / (nI 16)) → vp_in ((v1 / (nI 16)) >>> ((nI 6) &&& 31)) 361) (K0 : (v1 / (nI 16)) < 0 → Q none h) (K1 : ¬ (v1 / (nI 16)) < 0 → (nI 23104) ≤ (v1 / (nI 16)) → Q none h) (K2 : ¬ (v1 / (nI 16)) < 0 → ¬ (nI 23104) ≤ (v1 / (nI 16)) → Q none (zsL h (v0 + 1) ((v1 / (nI 16)) >>> ((nI 6) &&& 31)).toNatClampNeg ((h.2.1 (v0 + 1) ((v1 / (nI 16)) >>> ((nI 6) &&& 31)).toNatClampNeg) ||| ((lN 1) <<< (((v1 / (nI 16)) &&& (nI 63)).toInt64 &&& 63))))) : Con mX3_add d 0 0 [.inr (.inr v0), .inl v1] h Q := by
  refine Con.intro rfl (Nat.le_of_ble_eq_true rfl) ?_
  show J mX3_add d 0 0 Q 0 0 0 [some (.inr (.inr v0)), some (.inl v1), none] [] h
  refine bX3_add_0  (fun p1 => ?_) (fun p1 => ?_)
  · exact bX3_add_34  (K0 p1)
  · refine bX3_add_9  (fun p2 => ?_) (fun p2 => ?_)
    · exact bX3_add_34  (K1 p1 p2)
    · refine bX3_add_16 hr (G0 p1 p2) (G1 p1 p2) ?_
      exact bX3_add_34  (K2 p1 p2)

set_option maxRecDepth 20000 in
theorem t_X9_fewestFor {d  : Nat} {Q : Option MV → MH → Prop} {h : MH} {v1 v2 : Int32} (hr : zRf h) (G0 : (h.1 62 1) = 0 → vp_in v1 5) (G1 : (h.1 62 1) = 0 → zokA h (66 + v1.toNatClampNeg) 20 v2) (G2 : (h.1 62 1) = 0 → ¬ (h.1 (66 + v1.toNatClampNeg) v2.toNatClampNeg) = 0 → zokA h (72 + v1.toNatClampNeg) 20 v2) (K0 : ¬ (h.1 62 1) = 0 → Q (some (.inl (nI 0))) h) (K1 : (h.1 62 1) = 0 → ¬ (h.1 (66 + v1.toNatClampNeg) v2.toNatClampNeg) = 0 → Q (some (.inl (h.1 (72 + v1.toNatClampNeg) v2.toNatClampNeg))) h) (K2 : (h.1 62 1) = 0 → (h.1 (66 + v1.toNatClampNeg) v2.toNatClampNeg) = 0 → Q (some (.inl (nI 0))) h) : Con mX9_fewestFor d 0 0 [.inr (.inr 62), .inl v1, .inl v2] h Q := by
  refine Con.intro rfl (Nat.le_of_ble_eq_true rfl) ?_
  show J mX9_fewestFor d 0 0 Q 0 0 0 [some (.inr (.inr 62)), some (.inl v1), some (.inl v2)] [] h
  refine bX9_fewestFor_0 hr (fun p1 => ?_) (fun p1 => ?_)
  · refine bX9_fewestFor_18  ?_
    exact bX9_fewestFor_30  (K0 p1)
  · refine bX9_fewestFor_7 hr (G0 p1) (G1 p1) (fun p2 => ?_) (fun p2 => ?_)
    · refine bX9_fewestFor_22 hr (G0 p1) (G2 p1 p2) ?_
      exact bX9_fewestFor_30  (K1 p1 p2)
    · refine bX9_fewestFor_18  ?_
      exact bX9_fewestFor_30  (K2 p1 p2)

set_option maxRecDepth 20000 in
theorem t_X8_ring {d  : Nat} {Q : Option MV → MH → Prop} {h : MH} (hr : zRf h) (G0 : ¬ (nI 40) ≤ (h.1 48 9) → vp_in (h.1 48 9) 40) (K0 : (nI 40) ≤ (h.1 48 9) → Q none h) (K1 : ¬ (nI 40) ≤ (h.1 48 9) → Q none (zsI (zsI h 56 (h.1 48 9).toNatClampNeg (h.1 48 13)) 48 9 (((zsI h 56 (h.1 48 9).toNatClampNeg (h.1 48 13)).1 48 9) + (nI 1)))) : Con mX8_ring d 0 0 [.inr (.inr 48)] h Q := by
  refine Con.intro rfl (Nat.le_of_ble_eq_true rfl) ?_
  show J mX8_ring d 0 0 Q 0 0 0 [some (.inr (.inr 48))] [] h
  refine bX8_ring_0 hr (fun p1 => ?_) (fun p1 => ?_)
  · exact bX8_ring_32  (K0 p1)
  · refine bX8_ring_9 hr (G0 p1) ?_
    exact bX8_ring_32  (K1 p1)

set_option maxRecDepth 20000 in
theorem t_X11_cut {d  : Nat} {Q : Option MV → MH → Prop} {h : MH} {v2 : Int32} {v0 : Int64} (K0 : ¬ v2 = 0 → ¬ v2 = (nI 1) → ¬ v2 = (nI 2) → Q (some (.inr (.inl v0))) h) (K1 : ¬ v2 = 0 → ¬ v2 = (nI 1) → v2 = (nI 2) → Q (some (.inr (.inl v0.toInt32.toInt64))) h) (K2 : ¬ v2 = 0 → v2 = (nI 1) → Q (some (.inr (.inl v0.toInt32.toInt16.toInt32.toInt64))) h) (K3 : v2 = 0 → Q (some (.inr (.inl v0.toInt32.toInt8.toInt32.toInt64))) h) : Con mX11_cut d 0 0 [.inr (.inl v0), .inl v2] h Q := by
  refine Con.intro rfl (Nat.le_of_ble_eq_true rfl) ?_
  show J mX11_cut d 0 0 Q 0 0 0 [some (.inr (.inl v0)), none, some (.inl v2)] [] h
  refine bX11_cut_0  (fun p1 => ?_) (fun p1 => ?_)
  · refine bX11_cut_11  (fun p2 => ?_) (fun p2 => ?_)
    · refine bX11_cut_23  (fun p3 => ?_) (fun p3 => ?_)
      · refine bX11_cut_34  ?_
        exact bX11_cut_35  (K0 p1 p2 p3)
      · refine bX11_cut_28  ?_
        exact bX11_cut_35  (K1 p1 p2 p3)
    · refine bX11_cut_16  ?_
      exact bX11_cut_35  (K2 p1 p2)
  · refine bX11_cut_4  ?_
    exact bX11_cut_35  (K3 p1)
