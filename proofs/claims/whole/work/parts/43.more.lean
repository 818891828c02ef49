/-! ===== trees with fewer methods put in ===== -/
set_option maxRecDepth 20000 in
theorem q_X6_advance_0 {d d1' d2' : Nat} {Q : Option MV → MH → Prop} {h : MH} (hr : zRf h) (hd1' : d1' + 1 ≤ d) (hd2' : d2' + 1 ≤ d) (G0 : (h.1 2 1) ≤ (h.1 2 2) → ((zsI h 2 4 (h.1 2 2)).1 2 2) < ((zsI h 2 4 (h.1 2 2)).1 2 1) → vp_in ((zsI h 2 4 (h.1 2 2)).1 2 2) 400) (G1 : ¬ (h.1 2 1) ≤ (h.1 2 2) → vp_in (h.1 2 2) 400) (G2 : ¬ (h.1 2 1) ≤ (h.1 2 2) → ¬ (h.1 3 (h.1 2 2).toNatClampNeg) = (nI 32) → ¬ (h.1 3 (h.1 2 2).toNatClampNeg) = (nI 10) → ((zsI h 2 4 (h.1 2 2)).1 2 2) < ((zsI h 2 4 (h.1 2 2)).1 2 1) → vp_in ((zsI h 2 4 (h.1 2 2)).1 2 2) 400) (K0 : (h.1 2 1) ≤ (h.1 2 2) → ((zsI h 2 4 (h.1 2 2)).1 2 2) < ((zsI h 2 4 (h.1 2 2)).1 2 1) → Con mX6_isLetter d1' 0 0 [.inl ((zsI h 2 4 (h.1 2 2)).1 3 ((zsI h 2 4 (h.1 2 2)).1 2 2).toNatClampNeg)] (zsI h 2 4 (h.1 2 2)) (zri fun (x : Int32) h' => J mX6_advance d 0 0 Q 0 0 91 [some (.inr (.inr 2))] [.inl x] h')) (K1 : (h.1 2 1) ≤ (h.1 2 2) → ¬ ((zsI h 2 4 (h.1 2 2)).1 2 2) < ((zsI h 2 4 (h.1 2 2)).1 2 1) → Q none (zsI (zsI h 2 4 (h.1 2 2)) 2 3 (nI 0))) (K2 : ¬ (h.1 2 1) ≤ (h.1 2 2) → (h.1 3 (h.1 2 2).toNatClampNeg) = (nI 32) → J mX6_advance d 0 0 Q 0 0 0 [some (.inr (.inr 2))] [] (zsI h 2 2 ((h.1 2 2) + (nI 1)))) (K3 : ¬ (h.1 2 1) ≤ (h.1 2 2) → ¬ (h.1 3 (h.1 2 2).toNatClampNeg) = (nI 32) → ¬ (h.1 3 (h.1 2 2).toNatClampNeg) = (nI 10) → ((zsI h 2 4 (h.1 2 2)).1 2 2) < ((zsI h 2 4 (h.1 2 2)).1 2 1) → Con mX6_isLetter d2' 0 0 [.inl ((zsI h 2 4 (h.1 2 2)).1 3 ((zsI h 2 4 (h.1 2 2)).1 2 2).toNatClampNeg)] (zsI h 2 4 (h.1 2 2)) (zri fun (x : Int32) h' => J mX6_advance d 0 0 Q 0 0 91 [some (.inr (.inr 2))] [.inl x] h')) (K4 : ¬ (h.1 2 1) ≤ (h.1 2 2) → ¬ (h.1 3 (h.1 2 2).toNatClampNeg) = (nI 32) → ¬ (h.1 3 (h.1 2 2).toNatClampNeg) = (nI 10) → ¬ ((zsI h 2 4 (h.1 2 2)).1 2 2) < ((zsI h 2 4 (h.1 2 2)).1 2 1) → Q none (zsI (zsI h 2 4 (h.1 2 2)) 2 3 (nI 0))) (K5 : ¬ (h.1 2 1) ≤ (h.1 2 2) → ¬ (h.1 3 (h.1 2 2).toNatClampNeg) = (nI 32) → (h.1 3 (h.1 2 2).toNatClampNeg) = (nI 10) → J mX6_advance d 0 0 Q 0 0 0 [some (.inr (.inr 2))] [] (zsI h 2 2 ((h.1 2 2) + (nI 1)))) : J mX6_advance d 0 0 Q 0 0 0 [some (.inr (.inr 2))] [] h := by
  refine bX6_advance_0 hr (fun p1 => ?_) (fun p1 => ?_)
  · refine bX6_advance_52 hr (fun p2 => ?_) (fun p2 => ?_)
    · exact bX6_advance_79 hr (G0 p1 p2) hd1' (K0 p1 p2)
    · refine bX6_advance_71 hr ?_
      exact bX6_advance_193  (K1 p1 p2)
  · refine bX6_advance_11 hr (G1 p1) (fun p3 => ?_) (fun p3 => ?_)
    · refine bX6_advance_39 hr ?_
      exact K2 p1 p3
    · refine bX6_advance_25 hr (G1 p1) (fun p4 => ?_) (fun p4 => ?_)
      · refine bX6_advance_52 hr (fun p5 => ?_) (fun p5 => ?_)
        · exact bX6_advance_79 hr (G2 p1 p3 p4 p5) hd2' (K3 p1 p3 p4 p5)
        · refine bX6_advance_71 hr ?_
          exact bX6_advance_193  (K4 p1 p3 p4 p5)
      · refine bX6_advance_39 hr ?_
        exact K5 p1 p3 p4

set_option maxRecDepth 20000 in
theorem q_X6_advance {d d1' d2' : Nat} {Q : Option MV → MH → Prop} {h : MH} (hr : zRf h) (hd1' : d1' + 1 ≤ d) (hd2' : d2' + 1 ≤ d) (G0 : (h.1 2 1) ≤ (h.1 2 2) → ((zsI h 2 4 (h.1 2 2)).1 2 2) < ((zsI h 2 4 (h.1 2 2)).1 2 1) → vp_in ((zsI h 2 4 (h.1 2 2)).1 2 2) 400) (G1 : ¬ (h.1 2 1) ≤ (h.1 2 2) → vp_in (h.1 2 2) 400) (G2 : ¬ (h.1 2 1) ≤ (h.1 2 2) → ¬ (h.1 3 (h.1 2 2).toNatClampNeg) = (nI 32) → ¬ (h.1 3 (h.1 2 2).toNatClampNeg) = (nI 10) → ((zsI h 2 4 (h.1 2 2)).1 2 2) < ((zsI h 2 4 (h.1 2 2)).1 2 1) → vp_in ((zsI h 2 4 (h.1 2 2)).1 2 2) 400) (K0 : (h.1 2 1) ≤ (h.1 2 2) → ((zsI h 2 4 (h.1 2 2)).1 2 2) < ((zsI h 2 4 (h.1 2 2)).1 2 1) → Con mX6_isLetter d1' 0 0 [.inl ((zsI h 2 4 (h.1 2 2)).1 3 ((zsI h 2 4 (h.1 2 2)).1 2 2).toNatClampNeg)] (zsI h 2 4 (h.1 2 2)) (zri fun (x : Int32) h' => J mX6_advance d 0 0 Q 0 0 91 [some (.inr (.inr 2))] [.inl x] h')) (K1 : (h.1 2 1) ≤ (h.1 2 2) → ¬ ((zsI h 2 4 (h.1 2 2)).1 2 2) < ((zsI h 2 4 (h.1 2 2)).1 2 1) → Q none (zsI (zsI h 2 4 (h.1 2 2)) 2 3 (nI 0))) (K2 : ¬ (h.1 2 1) ≤ (h.1 2 2) → (h.1 3 (h.1 2 2).toNatClampNeg) = (nI 32) → J mX6_advance d 0 0 Q 0 0 0 [some (.inr (.inr 2))] [] (zsI h 2 2 ((h.1 2 2) + (nI 1)))) (K3 : ¬ (h.1 2 1) ≤ (h.1 2 2) → ¬ (h.1 3 (h.1 2 2).toNatClampNeg) = (nI 32) → ¬ (h.1 3 (h.1 2 2).toNatClampNeg) = (nI 10) → ((zsI h 2 4 (h.1 2 2)).1 2 2) < ((zsI h 2 4 (h.1 2 2)).1 2 1) → Con mX6_isLetter d2' 0 0 [.inl ((zsI h 2 4 (h.1 2 2)).1 3 ((zsI h 2 4 (h.1 2 2)).1 2 2).toNatClampNeg)] (zsI h 2 4 (h.1 2 2)) (zri fun (x : Int32) h' => J mX6_advance d 0 0 Q 0 0 91 [some (.inr (.inr 2))] [.inl x] h')) (K4 : ¬ (h.1 2 1) ≤ (h.1 2 2) → ¬ (h.1 3 (h.1 2 2).toNatClampNeg) = (nI 32) → ¬ (h.1 3 (h.1 2 2).toNatClampNeg) = (nI 10) → ¬ ((zsI h 2 4 (h.1 2 2)).1 2 2) < ((zsI h 2 4 (h.1 2 2)).1 2 1) → Q none (zsI (zsI h 2 4 (h.1 2 2)) 2 3 (nI 0))) (K5 : ¬ (h.1 2 1) ≤ (h.1 2 2) → ¬ (h.1 3 (h.1 2 2).toNatClampNeg) = (nI 32) → (h.1 3 (h.1 2 2).toNatClampNeg) = (nI 10) → J mX6_advance d 0 0 Q 0 0 0 [some (.inr (.inr 2))] [] (zsI h 2 2 ((h.1 2 2) + (nI 1)))) : Con mX6_advance d 0 0 [.inr (.inr 2)] h Q := by
  refine Con.intro rfl (Nat.le_of_ble_eq_true rfl) ?_
  show J mX6_advance d 0 0 Q 0 0 0 [some (.inr (.inr 2))] [] h
  refine bX6_advance_0 hr (fun p1 => ?_) (fun p1 => ?_)
  · refine bX6_advance_52 hr (fun p2 => ?_) (fun p2 => ?_)
    · exact bX6_advance_79 hr (G0 p1 p2) hd1' (K0 p1 p2)
    · refine bX6_advance_71 hr ?_
      exact bX6_advance_193  (K1 p1 p2)
  · refine bX6_advance_11 hr (G1 p1) (fun p3 => ?_) (fun p3 => ?_)
    · refine bX6_advance_39 hr ?_
      exact K2 p1 p3
    · refine bX6_advance_25 hr (G1 p1) (fun p4 => ?_) (fun p4 => ?_)
      · refine bX6_advance_52 hr (fun p5 => ?_) (fun p5 => ?_)
        · exact bX6_advance_79 hr (G2 p1 p3 p4 p5) hd2' (K3 p1 p3 p4 p5)
        · refine bX6_advance_71 hr ?_
          exact bX6_advance_193  (K4 p1 p3 p4 p5)
      · refine bX6_advance_39 hr ?_
        exact K5 p1 p3 p4

set_option maxRecDepth 20000 in
theorem q_X6_advance_91 {d d1' : Nat} {Q : Option MV → MH → Prop} {h : MH} {vs0 : Int32} (hr : zRf h) (hd1' : d1' + 1 ≤ d) (G0 : vs0 = 0 → vp_in (h.1 2 2) 400) (K0 : vs0 = 0 → Con mX6_isDigit d1' 0 0 [.inl (h.1 3 (h.1 2 2).toNatClampNeg)] h (zri fun (x : Int32) h' => J mX6_advance d 0 0 Q 0 0 150 [some (.inr (.inr 2))] [.inl x] h')) (K1 : ¬ vs0 = 0 → J mX6_advance d 0 0 Q 0 0 99 [some (.inr (.inr 2))] [] (zsI h 2 3 (nI 1))) : J mX6_advance d 0 0 Q 0 0 91 [some (.inr (.inr 2))] [.inl vs0] h := by
  refine bX6_advance_91  (fun p1 => ?_) (fun p1 => ?_)
  · exact bX6_advance_138 hr (G0 p1) hd1' (K0 p1)
  · refine bX6_advance_94 hr ?_
    exact K1 p1

set_option maxRecDepth 20000 in
theorem q_X6_advance_99 {d d1' : Nat} {Q : Option MV → MH → Prop} {h : MH} (hr : zRf h) (hd1' : d1' + 1 ≤ d) (G0 : ¬ (h.1 2 1) ≤ (h.1 2 2) → vp_in (h.1 2 2) 400) (K0 : (h.1 2 1) ≤ (h.1 2 2) → Q none h) (K1 : ¬ (h.1 2 1) ≤ (h.1 2 2) → Con mX6_isLetter d1' 0 0 [.inl (h.1 3 (h.1 2 2).toNatClampNeg)] h (zri fun (x : Int32) h' => J mX6_advance d 0 0 Q 0 0 122 [some (.inr (.inr 2))] [.inl x] h')) : J mX6_advance d 0 0 Q 0 0 99 [some (.inr (.inr 2))] [] h := by
  refine bX6_advance_99 hr (fun p1 => ?_) (fun p1 => ?_)
  · exact bX6_advance_193  (K0 p1)
  · exact bX6_advance_110 hr (G0 p1) hd1' (K1 p1)

set_option maxRecDepth 20000 in
theorem q_X6_advance_122 {d  : Nat} {Q : Option MV → MH → Prop} {h : MH} {vs0 : Int32} (hr : zRf h) (K0 : vs0 = 0 → Q none h) (K1 : ¬ vs0 = 0 → J mX6_advance d 0 0 Q 0 0 99 [some (.inr (.inr 2))] [] (zsI h 2 2 ((h.1 2 2) + (nI 1)))) : J mX6_advance d 0 0 Q 0 0 122 [some (.inr (.inr 2))] [.inl vs0] h := by
  refine bX6_advance_122  (fun p1 => ?_) (fun p1 => ?_)
  · exact bX6_advance_193  (K0 p1)
  · refine bX6_advance_125 hr ?_
    exact K1 p1

set_option maxRecDepth 20000 in
theorem q_X6_advance_150 {d d1' : Nat} {Q : Option MV → MH → Prop} {h : MH} {vs0 : Int32} (hr : zRf h) (hd1' : d1' + 1 ≤ d) (G0 : vs0 = 0 → vp_in (h.1 2 2) 400) (K0 : vs0 = 0 → ¬ (h.1 3 (h.1 2 2).toNatClampNeg) = (nI 59) → Q none (zsI (zsI h 2 3 (nI 4)) 2 2 (((zsI h 2 3 (nI 4)).1 2 2) + (nI 1)))) (K1 : vs0 = 0 → (h.1 3 (h.1 2 2).toNatClampNeg) = (nI 59) → Q none (zsI (zsI h 2 3 (nI 3)) 2 2 (((zsI h 2 3 (nI 3)).1 2 2) + (nI 1)))) (K2 : ¬ vs0 = 0 → Con mX6_advanceDigits d1' 0 0 [.inr (.inr 2)] h (zrv fun h' => J mX6_advance d 0 0 Q 0 0 157 [some (.inr (.inr 2))] [] h')) : J mX6_advance d 0 0 Q 0 0 150 [some (.inr (.inr 2))] [.inl vs0] h := by
  refine bX6_advance_150  (fun p1 => ?_) (fun p1 => ?_)
  · refine bX6_advance_160 hr (G0 p1) (fun p2 => ?_) (fun p2 => ?_)
    · refine bX6_advance_179  ?_
      refine bX6_advance_180 hr ?_
      exact bX6_advance_193  (K0 p1 p2)
    · refine bX6_advance_175  ?_
      refine bX6_advance_180 hr ?_
      exact bX6_advance_193  (K1 p1 p2)
  · exact bX6_advance_153 hr hd1' (K2 p1)

set_option maxRecDepth 20000 in
theorem q_X6_advance_157 {d  : Nat} {Q : Option MV → MH → Prop} {h : MH} (K0 : Q none h) : J mX6_advance d 0 0 Q 0 0 157 [some (.inr (.inr 2))] [] h := by
  refine bX6_advance_157  ?_
  exact bX6_advance_193  (K0)

set_option maxRecDepth 20000 in
theorem q_X6_advanceDigits {d  : Nat} {Q : Option MV → MH → Prop} {h : MH} (hr : zRf h) (K0 : J mX6_advanceDigits d 0 0 Q 0 0 5 [some (.inr (.inr 2))] [] (zsI h 2 5 (nI 0))) : Con mX6_advanceDigits d 0 0 [.inr (.inr 2)] h Q := by
  refine Con.intro rfl (Nat.le_of_ble_eq_true rfl) ?_
  show J mX6_advanceDigits d 0 0 Q 0 0 0 [some (.inr (.inr 2))] [] h
  refine bX6_advanceDigits_0 hr ?_
  exact K0

set_option maxRecDepth 20000 in
theorem q_X6_advanceDigits_5 {d d1' : Nat} {Q : Option MV → MH → Prop} {h : MH} (hr : zRf h) (hd1' : d1' + 1 ≤ d) (G0 : ¬ (h.1 2 1) ≤ (h.1 2 2) → vp_in (h.1 2 2) 400) (K0 : (h.1 2 1) ≤ (h.1 2 2) → ((h.1 2 2) - (h.1 2 4)) ≤ (nI 3) → Q none (zsI h 2 3 (nI 2))) (K1 : (h.1 2 1) ≤ (h.1 2 2) → ¬ ((h.1 2 2) - (h.1 2 4)) ≤ (nI 3) → Q none (zsI h 2 3 (nI 4))) (K2 : ¬ (h.1 2 1) ≤ (h.1 2 2) → Con mX6_isDigit d1' 0 0 [.inl (h.1 3 (h.1 2 2).toNatClampNeg)] h (zri fun (x : Int32) h' => J mX6_advanceDigits d 0 0 Q 0 0 28 [some (.inr (.inr 2))] [.inl x] h')) : J mX6_advanceDigits d 0 0 Q 0 0 5 [some (.inr (.inr 2))] [] h := by
  refine bX6_advanceDigits_5 hr (fun p1 => ?_) (fun p1 => ?_)
  · refine bX6_advanceDigits_81 hr (fun p2 => ?_) (fun p2 => ?_)
    · refine bX6_advanceDigits_99  ?_
      exact bX6_advanceDigits_100 hr (K0 p1 p2)
    · refine bX6_advanceDigits_95  ?_
      exact bX6_advanceDigits_100 hr (K1 p1 p2)
  · exact bX6_advanceDigits_16 hr (G0 p1) hd1' (K2 p1)

set_option maxRecDepth 20000 in
theorem q_X6_advanceDigits_28 {d  : Nat} {Q : Option MV → MH → Prop} {h : MH} {vs0 : Int32} (hr : zRf h) (G0 : ¬ vs0 = 0 → ¬ (nI 3) ≤ ((h.1 2 2) - (h.1 2 4)) → vp_in (h.1 2 2) 400) (K0 : vs0 = 0 → ((h.1 2 2) - (h.1 2 4)) ≤ (nI 3) → Q none (zsI h 2 3 (nI 2))) (K1 : vs0 = 0 → ¬ ((h.1 2 2) - (h.1 2 4)) ≤ (nI 3) → Q none (zsI h 2 3 (nI 4))) (K2 : ¬ vs0 = 0 → (nI 3) ≤ ((h.1 2 2) - (h.1 2 4)) → J mX6_advanceDigits d 0 0 Q 0 0 5 [some (.inr (.inr 2))] [] (zsI h 2 2 ((h.1 2 2) + (nI 1)))) (K3 : ¬ vs0 = 0 → ¬ (nI 3) ≤ ((h.1 2 2) - (h.1 2 4)) → J mX6_advanceDigits d 0 0 Q 0 0 5 [some (.inr (.inr 2))] [] (zsI (zsI h 2 5 ((((h.1 2 5) * (nI 10)) + (h.1 3 (h.1 2 2).toNatClampNeg)) - (nI 48))) 2 2 (((zsI h 2 5 ((((h.1 2 5) * (nI 10)) + (h.1 3 (h.1 2 2).toNatClampNeg)) - (nI 48))).1 2 2) + (nI 1)))) : J mX6_advanceDigits d 0 0 Q 0 0 28 [some (.inr (.inr 2))] [.inl vs0] h := by
  refine bX6_advanceDigits_28  (fun p1 => ?_) (fun p1 => ?_)
  · refine bX6_advanceDigits_81 hr (fun p2 => ?_) (fun p2 => ?_)
    · refine bX6_advanceDigits_99  ?_
      exact bX6_advanceDigits_100 hr (K0 p1 p2)
    · refine bX6_advanceDigits_95  ?_
      exact bX6_advanceDigits_100 hr (K1 p1 p2)
  · refine bX6_advanceDigits_31 hr (fun p3 => ?_) (fun p3 => ?_)
    · refine bX6_advanceDigits_68 hr ?_
      exact K2 p1 p3
    · refine bX6_advanceDigits_44 hr (G0 p1 p3) ?_
      refine bX6_advanceDigits_68 hr ?_
      exact K3 p1 p3

set_option maxRecDepth 20000 in
theorem q_X11_next {d  : Nat} {Q : Option MV → MH → Prop} {h : MH} (hr : zRf h) (K0 : J mX11_next d 0 0 Q 0 0 8 [some (.inr (.inr 111))] [] (zsI h 111 6 (h.1 111 7))) : Con mX11_next d 0 0 [.inr (.inr 111)] h Q := by
  refine Con.intro rfl (Nat.le_of_ble_eq_true rfl) ?_
  show J mX11_next d 0 0 Q 0 0 0 [some (.inr (.inr 111))] [] h
  refine bX11_next_0 hr ?_
  exact K0

set_option maxRecDepth 20000 in
theorem q_X11_next_8 {d d1' : Nat} {Q : Option MV → MH → Prop} {h : MH} (hr : zRf h) (hd1' : d1' + 1 ≤ d) (K0 : Con mX11_see d1' 0 0 [.inr (.inr 111), .inl (h.1 111 6)] h (zri fun (x : Int32) h' => J mX11_next d 0 0 Q 0 0 16 [some (.inr (.inr 111))] [.inl x] h')) : J mX11_next d 0 0 Q 0 0 8 [some (.inr (.inr 111))] [] h := by
  exact bX11_next_8 hr hd1' (K0)

set_option maxRecDepth 20000 in
theorem q_X11_next_16 {d d1' : Nat} {Q : Option MV → MH → Prop} {h : MH} {vs0 : Int32} (hr : zRf h) (hd1' : d1' + 1 ≤ d) (K0 : vs0 = (nI 10) → J mX11_next d 0 0 Q 0 0 8 [some (.inr (.inr 111))] [] (zsI h 111 6 ((h.1 111 6) + (nI 1)))) (K1 : ¬ vs0 = (nI 10) → Con mX11_see d1' 0 0 [.inr (.inr 111), .inl (h.1 111 6)] h (zri fun (x : Int32) h' => J mX11_next d 0 0 Q 0 0 29 [some (.inr (.inr 111))] [.inl x] h')) : J mX11_next d 0 0 Q 0 0 16 [some (.inr (.inr 111))] [.inl vs0] h := by
  refine bX11_next_16  (fun p1 => ?_) (fun p1 => ?_)
  · refine bX11_next_34 hr ?_
    exact K0 p1
  · exact bX11_next_21 hr hd1' (K1 p1)

set_option maxRecDepth 20000 in
theorem q_X11_next_29 {d d1' : Nat} {Q : Option MV → MH → Prop} {h : MH} {vs0 : Int32} (hr : zRf h) (hd1' : d1' + 1 ≤ d) (K0 : ¬ vs0 = (nI 32) → ((zsI h 111 7 (h.1 111 6)).1 111 6) < ((zsI h 111 7 (h.1 111 6)).1 111 8) → Con mX11_see d1' 0 0 [.inr (.inr 111), .inl ((zsI h 111 7 (h.1 111 6)).1 111 6)] (zsI h 111 7 (h.1 111 6)) (zri fun (x : Int32) h' => J mX11_next d 0 0 Q 0 0 83 [some (.inr (.inr 111))] [.inl x] h')) (K1 : ¬ vs0 = (nI 32) → ¬ ((zsI h 111 7 (h.1 111 6)).1 111 6) < ((zsI h 111 7 (h.1 111 6)).1 111 8) → Q none (zsI (zsI h 111 7 (h.1 111 6)) 111 9 (nI 14))) (K2 : vs0 = (nI 32) → J mX11_next d 0 0 Q 0 0 8 [some (.inr (.inr 111))] [] (zsI h 111 6 ((h.1 111 6) + (nI 1)))) : J mX11_next d 0 0 Q 0 0 29 [some (.inr (.inr 111))] [.inl vs0] h := by
  refine bX11_next_29  (fun p1 => ?_) (fun p1 => ?_)
  · refine bX11_next_47 hr (fun p2 => ?_) (fun p2 => ?_)
    · exact bX11_next_75 hr hd1' (K0 p1 p2)
    · refine bX11_next_66 hr ?_
      exact bX11_next_270  (K1 p1 p2)
  · refine bX11_next_34 hr ?_
    exact K2 p1

set_option maxRecDepth 20000 in
theorem q_X11_next_83 {d d1' : Nat} {Q : Option MV → MH → Prop} {h : MH} {vs0 : Int32} (hd1' : d1' + 1 ≤ d) (K0 : Con mX11_isSmall d1' 0 0 [.inl vs0] h (zri fun (x : Int32) h' => J mX11_next d 0 0 Q 0 0 86 [some (.inr (.inr 111))] [.inl x] h')) : J mX11_next d 0 0 Q 0 0 83 [some (.inr (.inr 111))] [.inl vs0] h := by
  exact bX11_next_83  hd1' (K0)

set_option maxRecDepth 20000 in
theorem q_X11_next_86 {d d1' : Nat} {Q : Option MV → MH → Prop} {h : MH} {vs0 : Int32} (hr : zRf h) (hd1' : d1' + 1 ≤ d) (K0 : vs0 = 0 → Con mX11_see d1' 0 0 [.inr (.inr 111), .inl (h.1 111 6)] h (zri fun (x : Int32) h' => J mX11_next d 0 0 Q 0 0 135 [some (.inr (.inr 111))] [.inl x] h')) (K1 : ¬ vs0 = 0 → J mX11_next d 0 0 Q 0 0 89 [some (.inr (.inr 111))] [] h) : J mX11_next d 0 0 Q 0 0 86 [some (.inr (.inr 111))] [.inl vs0] h := by
  refine bX11_next_86  (fun p1 => ?_) (fun p1 => ?_)
  · exact bX11_next_127 hr hd1' (K0 p1)
  · exact K1 p1

set_option maxRecDepth 20000 in
theorem q_X11_next_89 {d d1' : Nat} {Q : Option MV → MH → Prop} {h : MH} (hr : zRf h) (hd1' : d1' + 1 ≤ d) (K0 : Con mX11_see d1' 0 0 [.inr (.inr 111), .inl (h.1 111 7)] h (zri fun (x : Int32) h' => J mX11_next d 0 0 Q 0 0 97 [some (.inr (.inr 111))] [.inl x] h')) : J mX11_next d 0 0 Q 0 0 89 [some (.inr (.inr 111))] [] h := by
  exact bX11_next_89 hr hd1' (K0)

set_option maxRecDepth 20000 in
theorem q_X11_next_97 {d d1' : Nat} {Q : Option MV → MH → Prop} {h : MH} {vs0 : Int32} (hd1' : d1' + 1 ≤ d) (K0 : Con mX11_isSmall d1' 0 0 [.inl vs0] h (zri fun (x : Int32) h' => J mX11_next d 0 0 Q 0 0 100 [some (.inr (.inr 111))] [.inl x] h')) : J mX11_next d 0 0 Q 0 0 97 [some (.inr (.inr 111))] [.inl vs0] h := by
  exact bX11_next_97  hd1' (K0)

set_option maxRecDepth 20000 in
theorem q_X11_next_100 {d d1' : Nat} {Q : Option MV → MH → Prop} {h : MH} {vs0 : Int32} (hr : zRf h) (hd1' : d1' + 1 ≤ d) (K0 : vs0 = 0 → Con mX11_keyAt d1' 0 0 [.inr (.inr 111)] h (zri fun (x : Int32) h' => J mX11_next d 0 0 Q 0 0 121 [some (.inr (.inr 111))] [.inl x, .inr (.inr 111)] h')) (K1 : ¬ vs0 = 0 → J mX11_next d 0 0 Q 0 0 89 [some (.inr (.inr 111))] [] (zsI h 111 7 ((h.1 111 7) + (nI 1)))) : J mX11_next d 0 0 Q 0 0 100 [some (.inr (.inr 111))] [.inl vs0] h := by
  refine bX11_next_100  (fun p1 => ?_) (fun p1 => ?_)
  · exact bX11_next_116 hr hd1' (K0 p1)
  · refine bX11_next_103 hr ?_
    exact K1 p1

set_option maxRecDepth 20000 in
theorem q_X11_next_121 {d  : Nat} {Q : Option MV → MH → Prop} {h : MH} {vs1 : Int32} (hr : zRf h) (K0 : Q none (zsI h 111 9 vs1)) : J mX11_next d 0 0 Q 0 0 121 [some (.inr (.inr 111))] [.inl vs1, .inr (.inr 111)] h := by
  refine bX11_next_121 hr ?_
  exact bX11_next_270  (K0)

set_option maxRecDepth 20000 in
theorem q_X11_next_135 {d d1' : Nat} {Q : Option MV → MH → Prop} {h : MH} {vs0 : Int32} (hd1' : d1' + 1 ≤ d) (K0 : Con mX11_isDigit d1' 0 0 [.inl vs0] h (zri fun (x : Int32) h' => J mX11_next d 0 0 Q 0 0 138 [some (.inr (.inr 111))] [.inl x] h')) : J mX11_next d 0 0 Q 0 0 135 [some (.inr (.inr 111))] [.inl vs0] h := by
  exact bX11_next_135  hd1' (K0)

set_option maxRecDepth 20000 in
theorem q_X11_next_138 {d d1' : Nat} {Q : Option MV → MH → Prop} {h : MH} {vs0 : Int32} (hr : zRf h) (hd1' : d1' + 1 ≤ d) (K0 : vs0 = 0 → Con mX11_see d1' 0 0 [.inr (.inr 111), .inl ((zsI h 111 7 ((h.1 111 7) + (nI 1))).1 111 6)] (zsI h 111 7 ((h.1 111 7) + (nI 1))) (zri fun (x : Int32) h' => J mX11_next d 0 0 Q 0 0 255 [some (.inr (.inr 111))] [.inl x, .inr (.inr 111)] h')) (K1 : ¬ vs0 = 0 → J mX11_next d 0 0 Q 0 0 146 [some (.inr (.inr 111))] [] (zsI h 111 10 (nI 0))) : J mX11_next d 0 0 Q 0 0 138 [some (.inr (.inr 111))] [.inl vs0] h := by
  refine bX11_next_138  (fun p1 => ?_) (fun p1 => ?_)
  · exact bX11_next_236 hr hd1' (K0 p1)
  · refine bX11_next_141 hr ?_
    exact K1 p1

set_option maxRecDepth 20000 in
theorem q_X11_next_146 {d d1' : Nat} {Q : Option MV → MH → Prop} {h : MH} (hr : zRf h) (hd1' : d1' + 1 ≤ d) (K0 : Con mX11_see d1' 0 0 [.inr (.inr 111), .inl (h.1 111 7)] h (zri fun (x : Int32) h' => J mX11_next d 0 0 Q 0 0 154 [some (.inr (.inr 111))] [.inl x] h')) : J mX11_next d 0 0 Q 0 0 146 [some (.inr (.inr 111))] [] h := by
  exact bX11_next_146 hr hd1' (K0)

set_option maxRecDepth 20000 in
theorem q_X11_next_154 {d d1' : Nat} {Q : Option MV → MH → Prop} {h : MH} {vs0 : Int32} (hd1' : d1' + 1 ≤ d) (K0 : Con mX11_isDigit d1' 0 0 [.inl vs0] h (zri fun (x : Int32) h' => J mX11_next d 0 0 Q 0 0 157 [some (.inr (.inr 111))] [.inl x] h')) : J mX11_next d 0 0 Q 0 0 154 [some (.inr (.inr 111))] [.inl vs0] h := by
  exact bX11_next_154  hd1' (K0)

set_option maxRecDepth 20000 in
theorem q_X11_next_157 {d d1' : Nat} {Q : Option MV → MH → Prop} {h : MH} {vs0 : Int32} (hr : zRf h) (hd1' : d1' + 1 ≤ d) (K0 : vs0 = 0 → ((h.1 111 7) - (h.1 111 6)) ≤ (nI 3) → Q none (zsI h 111 9 (nI 12))) (K1 : vs0 = 0 → ¬ ((h.1 111 7) - (h.1 111 6)) ≤ (nI 3) → Q none (zsI h 111 9 (nI 15))) (K2 : ¬ vs0 = 0 → (nI 3) ≤ ((h.1 111 7) - (h.1 111 6)) → J mX11_next d 0 0 Q 0 0 146 [some (.inr (.inr 111))] [] (zsI h 111 7 ((h.1 111 7) + (nI 1)))) (K3 : ¬ vs0 = 0 → ¬ (nI 3) ≤ ((h.1 111 7) - (h.1 111 6)) → Con mX11_see d1' 0 0 [.inr (.inr 111), .inl (h.1 111 7)] h (zri fun (x : Int32) h' => J mX11_next d 0 0 Q 0 0 189 [some (.inr (.inr 111))] [.inl x, .inl ((nI 10) * (h.1 111 10)), .inr (.inr 111)] h')) : J mX11_next d 0 0 Q 0 0 157 [some (.inr (.inr 111))] [.inl vs0] h := by
  refine bX11_next_157  (fun p1 => ?_) (fun p1 => ?_)
  · refine bX11_next_209 hr (fun p2 => ?_) (fun p2 => ?_)
    · refine bX11_next_228  ?_
      refine bX11_next_230 hr ?_
      exact bX11_next_270  (K0 p1 p2)
    · refine bX11_next_223  ?_
      refine bX11_next_230 hr ?_
      exact bX11_next_270  (K1 p1 p2)
  · refine bX11_next_160 hr (fun p3 => ?_) (fun p3 => ?_)
    · refine bX11_next_196 hr ?_
      exact K2 p1 p3
    · exact bX11_next_173 hr hd1' (K3 p1 p3)

set_option maxRecDepth 20000 in
theorem q_X11_next_189 {d  : Nat} {Q : Option MV → MH → Prop} {h : MH} {vs1 vs2 : Int32} (hr : zRf h) (K0 : J mX11_next d 0 0 Q 0 0 146 [some (.inr (.inr 111))] [] (zsI (zsI h 111 10 ((vs1 + vs2) - (nI 48))) 111 7 (((zsI h 111 10 ((vs1 + vs2) - (nI 48))).1 111 7) + (nI 1)))) : J mX11_next d 0 0 Q 0 0 189 [some (.inr (.inr 111))] [.inl vs2, .inl vs1, .inr (.inr 111)] h := by
  refine bX11_next_189 hr ?_
  refine bX11_next_196 hr ?_
  exact K0

set_option maxRecDepth 20000 in
theorem q_X11_next_255 {d  : Nat} {Q : Option MV → MH → Prop} {h : MH} {vs1 : Int32} (hr : zRf h) (K0 : ¬ vs1 = (nI 59) → Q none (zsI h 111 9 (nI 15))) (K1 : vs1 = (nI 59) → Q none (zsI h 111 9 (nI 13))) : J mX11_next d 0 0 Q 0 0 255 [some (.inr (.inr 111))] [.inl vs1, .inr (.inr 111)] h := by
  refine bX11_next_255  (fun p1 => ?_) (fun p1 => ?_)
  · refine bX11_next_265  ?_
    refine bX11_next_267 hr ?_
    exact bX11_next_270  (K0 p1)
  · refine bX11_next_260  ?_
    refine bX11_next_267 hr ?_
    exact bX11_next_270  (K1 p1)

set_option maxRecDepth 20000 in
theorem q_X11_takes {d d1' d2' d3' d4' d5' : Nat} {Q : Option MV → MH → Prop} {h : MH} {v1 v2 : Int32} (hr : zRf h) (hd : 1 ≤ d) (hd1' : d1' + 1 ≤ d) (hd2' : d2' + 1 ≤ d) (hd3' : d3' + 1 ≤ d) (hd4' : d4' + 1 ≤ d) (hd5' : d5' + 1 ≤ d) (K0 : ¬ (h.1 111 11) = 0 → Con mX11_fails d1' 0 0 [.inr (.inr 111), .inl (nI 2)] h (zrv fun h' => J mX11_takes d 0 0 Q 0 0 14 [some (.inr (.inr 111)), some (.inl v1), some (.inl v2), none] [] h')) (K1 : (h.1 111 11) = 0 → ¬ (h.1 111 9) = (nI 12) → Con mX11_fails d2' 0 0 [.inr (.inr 111), .inl (nI 2)] h (zrv fun h' => J mX11_takes d 0 0 Q 0 0 14 [some (.inr (.inr 111)), some (.inl v1), some (.inl v2), none] [] h')) (K2 : (h.1 111 11) = 0 → (h.1 111 9) = (nI 12) → ¬ v1.toInt64 ≤ ((h.1 111 10).toInt64) → Con mX11_fails d3' 0 0 [.inr (.inr 111), .inl (nI 3)] h (zrv fun h' => J mX11_takes d 0 0 Q 0 0 37 [some (.inr (.inr 111)), some (.inl v1), some (.inl v2), none] [] h')) (K3 : (h.1 111 11) = 0 → (h.1 111 9) = (nI 12) → v1.toInt64 ≤ ((h.1 111 10).toInt64) → ¬ ((h.1 111 10).toInt64) ≤ v2.toInt64 → Con mX11_fails d4' 0 0 [.inr (.inr 111), .inl (nI 3)] h (zrv fun h' => J mX11_takes d 0 0 Q 0 0 37 [some (.inr (.inr 111)), some (.inl v1), some (.inl v2), none] [] h')) (K4 : (h.1 111 11) = 0 → (h.1 111 9) = (nI 12) → v1.toInt64 ≤ ((h.1 111 10).toInt64) → ((h.1 111 10).toInt64) ≤ v2.toInt64 → Con mX11_next d5' 0 0 [.inr (.inr 111)] h (zrv fun h' => J mX11_takes d 0 0 Q 0 0 53 [some (.inr (.inr 111)), some (.inl v1), some (.inl v2), some (.inl (h.1 111 10))] [] h')) : Con mX11_takes d 0 0 [.inr (.inr 111), .inl v1, .inl v2] h Q := by
  refine Con.intro rfl (Nat.le_of_ble_eq_true rfl) ?_
  show J mX11_takes d 0 0 Q 0 0 0 [some (.inr (.inr 111)), some (.inl v1), some (.inl v2), none] [] h
  refine bX11_takes_0 (d' := 0) hr (by omega) ?_
  refine t_X11_is hr ?_ ?_ ?_
  · intro p1
    refine bX11_takes_6  (fun c => absurd c (by decide)) (fun _ => ?_)
    exact bX11_takes_9 hr hd1' (K0 p1)
  · intro p2 p3
    refine bX11_takes_6  (fun c => absurd c (by decide)) (fun _ => ?_)
    exact bX11_takes_9 hr hd2' (K1 p2 p3)
  · intro p4 p5
    refine bX11_takes_6  (fun _ => ?_) (fun c => absurd c (by decide))
    refine bX11_takes_17 (d' := 0) hr (by omega) ?_
    refine t_X11_within  ?_ ?_ ?_
    · intro p6
      refine bX11_takes_29  (fun c => absurd c (by decide)) (fun _ => ?_)
      exact bX11_takes_32 hr hd3' (K2 p4 p5 p6)
    · intro p7 p8
      refine bX11_takes_29  (fun c => absurd c (by decide)) (fun _ => ?_)
      exact bX11_takes_32 hr hd4' (K3 p4 p5 p7 p8)
    · intro p9 p10
      refine bX11_takes_29  (fun _ => ?_) (fun c => absurd c (by decide))
      refine bX11_takes_37 hr (fun c => absurd p4 c) (fun _ => ?_)
      exact bX11_takes_49 hr hd5' (K4 p4 p5 p9 p10)

set_option maxRecDepth 20000 in
theorem q_X11_takes_14 {d d1' : Nat} {Q : Option MV → MH → Prop} {h : MH} {v1 v2 : Int32} (hr : zRf h) (hd1' : d1' + 1 ≤ d) (K0 : ¬ (h.1 111 11) = 0 → Q (some (.inl (h.1 111 10))) h) (K1 : (h.1 111 11) = 0 → Con mX11_next d1' 0 0 [.inr (.inr 111)] h (zrv fun h' => J mX11_takes d 0 0 Q 0 0 53 [some (.inr (.inr 111)), some (.inl v1), some (.inl v2), some (.inl (h.1 111 10))] [] h')) : J mX11_takes d 0 0 Q 0 0 14 [some (.inr (.inr 111)), some (.inl v1), some (.inl v2), none] [] h := by
  refine bX11_takes_14  ?_
  refine bX11_takes_37 hr (fun p1 => ?_) (fun p1 => ?_)
  · exact bX11_takes_53  (K0 p1)
  · exact bX11_takes_49 hr hd1' (K1 p1)

set_option maxRecDepth 20000 in
theorem q_X11_takes_37 {d d1' : Nat} {Q : Option MV → MH → Prop} {h : MH} {v1 v2 : Int32} (hr : zRf h) (hd1' : d1' + 1 ≤ d) (K0 : ¬ (h.1 111 11) = 0 → Q (some (.inl (h.1 111 10))) h) (K1 : (h.1 111 11) = 0 → Con mX11_next d1' 0 0 [.inr (.inr 111)] h (zrv fun h' => J mX11_takes d 0 0 Q 0 0 53 [some (.inr (.inr 111)), some (.inl v1), some (.inl v2), some (.inl (h.1 111 10))] [] h')) : J mX11_takes d 0 0 Q 0 0 37 [some (.inr (.inr 111)), some (.inl v1), some (.inl v2), none] [] h := by
  refine bX11_takes_37 hr (fun p1 => ?_) (fun p1 => ?_)
  · exact bX11_takes_53  (K0 p1)
  · exact bX11_takes_49 hr hd1' (K1 p1)

set_option maxRecDepth 20000 in
theorem q_X11_takes_53 {d  : Nat} {Q : Option MV → MH → Prop} {h : MH} {v1 v2 v3 : Int32} (K0 : Q (some (.inl v3)) h) : J mX11_takes d 0 0 Q 0 0 53 [some (.inr (.inr 111)), some (.inl v1), some (.inl v2), some (.inl v3)] [] h := by
  exact bX11_takes_53  (K0)

set_option maxRecDepth 20000 in
theorem q_X11_told {d  : Nat} {Q : Option MV → MH → Prop} {h : MH} (hr : zRf h) (K0 : ¬ ((zsI h 111 13 (h.1 111 11)).1 111 11) = 0 → ¬ ((zsI (zsI h 111 13 (h.1 111 11)) 111 14 ((zsI h 111 13 (h.1 111 11)).1 111 12)).1 111 11) = 0 → Q (some (.inl ((-(nI 30)) - ((zsI (zsI h 111 13 (h.1 111 11)) 111 14 ((zsI h 111 13 (h.1 111 11)).1 111 12)).1 111 11)))) (zsI (zsI h 111 13 (h.1 111 11)) 111 14 ((zsI h 111 13 (h.1 111 11)).1 111 12))) (K1 : ¬ ((zsI h 111 13 (h.1 111 11)).1 111 11) = 0 → ((zsI (zsI h 111 13 (h.1 111 11)) 111 14 ((zsI h 111 13 (h.1 111 11)).1 111 12)).1 111 11) = 0 → Q (some (.inl (nI 0))) (zsI (zsI h 111 13 (h.1 111 11)) 111 14 ((zsI h 111 13 (h.1 111 11)).1 111 12))) (K2 : ((zsI h 111 13 (h.1 111 11)).1 111 11) = 0 → ¬ ((zsI (zsI h 111 13 (h.1 111 11)) 111 14 (-(nI 1))).1 111 11) = 0 → Q (some (.inl ((-(nI 30)) - ((zsI (zsI h 111 13 (h.1 111 11)) 111 14 (-(nI 1))).1 111 11)))) (zsI (zsI h 111 13 (h.1 111 11)) 111 14 (-(nI 1)))) (K3 : ((zsI h 111 13 (h.1 111 11)).1 111 11) = 0 → ((zsI (zsI h 111 13 (h.1 111 11)) 111 14 (-(nI 1))).1 111 11) = 0 → Q (some (.inl (nI 0))) (zsI (zsI h 111 13 (h.1 111 11)) 111 14 (-(nI 1)))) : Con mX11_told d 0 0 [.inr (.inr 111)] h Q := by
  refine Con.intro rfl (Nat.le_of_ble_eq_true rfl) ?_
  show J mX11_told d 0 0 Q 0 0 0 [some (.inr (.inr 111))] [] h
  refine bX11_told_0 hr (fun p1 => ?_) (fun p1 => ?_)
  · refine bX11_told_20 hr ?_
    refine bX11_told_24 hr (fun p2 => ?_) (fun p2 => ?_)
    · refine bX11_told_38 hr ?_
      exact bX11_told_45  (K0 p1 p2)
    · refine bX11_told_34  ?_
      exact bX11_told_45  (K1 p1 p2)
  · refine bX11_told_16  ?_
    refine bX11_told_24 hr (fun p3 => ?_) (fun p3 => ?_)
    · refine bX11_told_38 hr ?_
      exact bX11_told_45  (K2 p1 p3)
    · refine bX11_told_34  ?_
      exact bX11_told_45  (K3 p1 p3)
