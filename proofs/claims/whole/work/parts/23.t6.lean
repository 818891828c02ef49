set_option maxRecDepth 20000 in
theorem t_X6_readCellar {d d1' : Nat} {Q : Option MV → MH → Prop} {h : MH} {v2 : Int32} {v1 : Nat} (hr : zRf h) (hd1' : d1' + 1 ≤ d) (K0 : Con mX6_begin d1' 0 0 [.inr (.inr 2), .inl v2] h (zrv fun h' => J mX6_readCellar d 0 0 Q 0 0 5 [some (.inr (.inr 2)), some (.inr (.inr v1)), some (.inl v2), none] [] h')) : Con mX6_readCellar d 0 0 [.inr (.inr 2), .inr (.inr v1), .inl v2] h Q := by
  refine Con.intro rfl (Nat.le_of_ble_eq_true rfl) ?_
  show J mX6_readCellar d 0 0 Q 0 0 0 [some (.inr (.inr 2)), some (.inr (.inr v1)), some (.inl v2), none] [] h
  exact bX6_readCellar_0 hr hd1' (K0)

set_option maxRecDepth 20000 in
theorem t_X6_readCellar_5 {d  : Nat} {Q : Option MV → MH → Prop} {h : MH} {v2 : Int32} {v1 : Nat} (G0 : zokO h v1 2) (K0 : J mX6_readCellar d 0 0 Q 0 0 12 [some (.inr (.inr 2)), some (.inr (.inr v1)), some (.inl v2), some (.inl (nI 0))] [] (zsI h v1 0 (nI 0))) : J mX6_readCellar d 0 0 Q 0 0 5 [some (.inr (.inr 2)), some (.inr (.inr v1)), some (.inl v2), none] [] h := by
  refine bX6_readCellar_5 (G0) ?_
  exact K0

set_option maxRecDepth 20000 in
theorem t_X6_readCellar_12 {d d1' : Nat} {Q : Option MV → MH → Prop} {h : MH} {v2 v3 : Int32} {v1 : Nat} (hr : zRf h) (hd : 1 ≤ d) (hd1' : d1' + 1 ≤ d) (K0 : (nI 8) < v3 → ¬ (h.1 2 3) = (nI 4) → Q (some (.inl (nI 0))) (zsI (zsI h 2 6 (nI 4)) 2 7 ((zsI h 2 6 (nI 4)).1 2 4))) (K1 : (nI 8) < v3 → (h.1 2 3) = (nI 4) → Q (some (.inl (nI 0))) (zsI (zsI h 2 6 (nI 1)) 2 7 ((zsI h 2 6 (nI 1)).1 2 4))) (K2 : ¬ (nI 8) < v3 → Con mX6_advance d1' 0 0 [.inr (.inr 2)] h (zrv fun h' => J mX6_readCellar d 0 0 Q 0 0 22 [some (.inr (.inr 2)), some (.inr (.inr v1)), some (.inl v2), some (.inl v3)] [] h')) : J mX6_readCellar d 0 0 Q 0 0 12 [some (.inr (.inr 2)), some (.inr (.inr v1)), some (.inl v2), some (.inl v3)] [] h := by
  refine bX6_readCellar_12  (fun p1 => ?_) (fun p1 => ?_)
  · refine bX6_readCellar_47 (d' := 0) hr (by omega) ?_
    refine t_X6_refuse hr ?_ ?_
    · intro p2
      exact bX6_readCellar_52 (by decide) (K0 p1 p2)
    · intro p3
      exact bX6_readCellar_52 (by decide) (K1 p1 p3)
  · exact bX6_readCellar_18 hr hd1' (K2 p1)

set_option maxRecDepth 20000 in
theorem t_X6_readCellar_22 {d d1' : Nat} {Q : Option MV → MH → Prop} {h : MH} {v2 v3 : Int32} {v1 : Nat} (hr : zRf h) (hd1' : d1' + 1 ≤ d) (K0 : ¬ (h.1 2 3) = 0 → Con mX6_readLine d1' 0 0 [.inr (.inr 2), .inr (.inr v1)] h (zri fun (x : Int32) h' => J mX6_readCellar d 0 0 Q 0 0 36 [some (.inr (.inr 2)), some (.inr (.inr v1)), some (.inl v2), some (.inl v3)] [.inl x] h')) (K1 : (h.1 2 3) = 0 → Q (some (.inl (nI 1))) h) : J mX6_readCellar d 0 0 Q 0 0 22 [some (.inr (.inr 2)), some (.inr (.inr v1)), some (.inl v2), some (.inl v3)] [] h := by
  refine bX6_readCellar_22 hr (fun p1 => ?_) (fun p1 => ?_)
  · exact bX6_readCellar_31 hr hd1' (K0 p1)
  · exact bX6_readCellar_29  (K1 p1)

set_option maxRecDepth 20000 in
theorem t_X6_readCellar_36 {d  : Nat} {Q : Option MV → MH → Prop} {h : MH} {v2 v3 vs0 : Int32} {v1 : Nat} (K0 : ¬ vs0 = 0 → J mX6_readCellar d 0 0 Q 0 0 12 [some (.inr (.inr 2)), some (.inr (.inr v1)), some (.inl v2), some (.inl (v3 + nI 1))] [] h) (K1 : vs0 = 0 → Q (some (.inl (nI 0))) h) : J mX6_readCellar d 0 0 Q 0 0 36 [some (.inr (.inr 2)), some (.inr (.inr v1)), some (.inl v2), some (.inl v3)] [.inl vs0] h := by
  refine bX6_readCellar_36  (fun p1 => ?_) (fun p1 => ?_)
  · refine bX6_readCellar_41  ?_
    exact K0 p1
  · exact bX6_readCellar_39  (K1 p1)

set_option maxRecDepth 20000 in
theorem t_X6_readLine {d d1' : Nat} {Q : Option MV → MH → Prop} {h : MH} {v1 : Nat} (hr : zRf h) (hd1' : d1' + 1 ≤ d) (K0 : Con mX6_isWord d1' 0 0 [.inr (.inr 2), .inr (.inr 1000)] h (zri fun (x : Int32) h' => J mX6_readLine d 0 0 Q 0 0 6 [some (.inr (.inr 2)), some (.inr (.inr v1)), none] [.inl x] h')) : Con mX6_readLine d 0 0 [.inr (.inr 2), .inr (.inr v1)] h Q := by
  refine Con.intro rfl (Nat.le_of_ble_eq_true rfl) ?_
  show J mX6_readLine d 0 0 Q 0 0 0 [some (.inr (.inr 2)), some (.inr (.inr v1)), none] [] h
  refine bX6_readLine_0  ?_
  refine bX6_readLine_1  ?_
  exact bX6_readLine_3 hr hd1' (K0)

set_option maxRecDepth 20000 in
theorem t_X6_readLine_6 {d d1' : Nat} {Q : Option MV → MH → Prop} {h : MH} {vs0 : Int32} {v1 : Nat} (hr : zRf h) (hd : 1 ≤ d) (hd1' : d1' + 1 ≤ d) (G0 : ¬ vs0 = 0 → zokO h v1 2) (K0 : ¬ vs0 = 0 → Con mX2_open d1' 0 0 [.inr (.inr v1)] h (zri fun (x : Int32) h' => J mX6_readLine d 0 0 Q 0 0 19 [some (.inr (.inr 2)), some (.inr (.inr v1)), none] [.inl x] h')) (K1 : vs0 = 0 → ¬ (h.1 2 3) = (nI 4) → Q (some (.inl (nI 0))) (zsI (zsI h 2 6 (nI 2)) 2 7 ((zsI h 2 6 (nI 2)).1 2 4))) (K2 : vs0 = 0 → (h.1 2 3) = (nI 4) → Q (some (.inl (nI 0))) (zsI (zsI h 2 6 (nI 1)) 2 7 ((zsI h 2 6 (nI 1)).1 2 4))) : J mX6_readLine d 0 0 Q 0 0 6 [some (.inr (.inr 2)), some (.inr (.inr v1)), none] [.inl vs0] h := by
  refine bX6_readLine_6  (fun p1 => ?_) (fun p1 => ?_)
  · exact bX6_readLine_15 (G0 p1) hd1' (K0 p1)
  · refine bX6_readLine_9 (d' := 0) hr (by omega) ?_
    refine t_X6_refuse hr ?_ ?_
    · intro p2
      exact bX6_readLine_14 (by decide) (K1 p1 p2)
    · intro p3
      exact bX6_readLine_14 (by decide) (K2 p1 p3)

set_option maxRecDepth 20000 in
theorem t_X6_readLine_19 {d d1' : Nat} {Q : Option MV → MH → Prop} {h : MH} {vs0 : Int32} {v1 : Nat} (hr : zRf h) (hd : 1 ≤ d) (hd1' : d1' + 1 ≤ d) (K0 : ¬ vs0 = (-(nI 1)) → Con mX6_readPieces d1' 0 0 [.inr (.inr 2), .inr (.inr v1), .inl vs0] h (zri fun (x : Int32) h' => J mX6_readLine d 0 0 Q 0 0 37 [some (.inr (.inr 2)), some (.inr (.inr v1)), some (.inl vs0)] [.inl x] h')) (K1 : vs0 = (-(nI 1)) → ¬ (h.1 2 3) = (nI 4) → Q (some (.inl (nI 0))) (zsI (zsI h 2 6 (nI 4)) 2 7 ((zsI h 2 6 (nI 4)).1 2 4))) (K2 : vs0 = (-(nI 1)) → (h.1 2 3) = (nI 4) → Q (some (.inl (nI 0))) (zsI (zsI h 2 6 (nI 1)) 2 7 ((zsI h 2 6 (nI 1)).1 2 4))) : J mX6_readLine d 0 0 Q 0 0 19 [some (.inr (.inr 2)), some (.inr (.inr v1)), none] [.inl vs0] h := by
  refine bX6_readLine_19  (fun p1 => ?_) (fun p1 => ?_)
  · exact bX6_readLine_31 hr hd1' (K0 p1)
  · refine bX6_readLine_25 (d' := 0) hr (by omega) ?_
    refine t_X6_refuse hr ?_ ?_
    · intro p2
      exact bX6_readLine_30 (by decide) (K1 p1 p2)
    · intro p3
      exact bX6_readLine_30 (by decide) (K2 p1 p3)

set_option maxRecDepth 20000 in
theorem t_X6_readLine_37 {d d1' : Nat} {Q : Option MV → MH → Prop} {h : MH} {v2 vs0 : Int32} {v1 : Nat} (hr : zRf h) (hd1' : d1' + 1 ≤ d) (K0 : ¬ vs0 = 0 → Con mX6_isWord d1' 0 0 [.inr (.inr 2), .inr (.inr 1001)] h (zri fun (x : Int32) h' => J mX6_readLine d 0 0 Q 0 0 48 [some (.inr (.inr 2)), some (.inr (.inr v1)), some (.inl v2)] [.inl x] h')) (K1 : vs0 = 0 → Q (some (.inl (nI 0))) h) : J mX6_readLine d 0 0 Q 0 0 37 [some (.inr (.inr 2)), some (.inr (.inr v1)), some (.inl v2)] [.inl vs0] h := by
  refine bX6_readLine_37  (fun p1 => ?_) (fun p1 => ?_)
  · refine bX6_readLine_42  ?_
    refine bX6_readLine_43  ?_
    exact bX6_readLine_45 hr hd1' (K0 p1)
  · exact bX6_readLine_40  (K1 p1)

set_option maxRecDepth 20000 in
theorem t_X6_readLine_48 {d d1' d2' : Nat} {Q : Option MV → MH → Prop} {h : MH} {v2 vs0 : Int32} {v1 : Nat} (hr : zRf h) (hd1' : d1' + 1 ≤ d) (hd2' : d2' + 1 ≤ d) (K0 : vs0 = 0 → Con mX6_isWord d1' 0 0 [.inr (.inr 2), .inr (.inr 1002)] h (zri fun (x : Int32) h' => J mX6_readLine d 0 0 Q 0 0 84 [some (.inr (.inr 2)), some (.inr (.inr v1)), some (.inl v2)] [.inl x] h')) (K1 : ¬ vs0 = 0 → Con mX6_advanceTo d2' 0 0 [.inr (.inr 2), .inl (nI 1), .inl (nI 999)] h (zri fun (x : Int32) h' => J mX6_readLine d 0 0 Q 0 0 59 [some (.inr (.inr 2)), some (.inr (.inr v1)), some (.inl v2)] [.inl x] h')) : J mX6_readLine d 0 0 Q 0 0 48 [some (.inr (.inr 2)), some (.inr (.inr v1)), some (.inl v2)] [.inl vs0] h := by
  refine bX6_readLine_48  (fun p1 => ?_) (fun p1 => ?_)
  · refine bX6_readLine_78  ?_
    refine bX6_readLine_79  ?_
    exact bX6_readLine_81 hr hd1' (K0 p1)
  · exact bX6_readLine_51 hr hd2' (K1 p1)

set_option maxRecDepth 20000 in
theorem t_X6_readLine_59 {d d1' : Nat} {Q : Option MV → MH → Prop} {h : MH} {v2 vs0 : Int32} {v1 : Nat} (hr : zRf h) (hd1' : d1' + 1 ≤ d) (G0 : ¬ vs0 = 0 → zokO h v1 2) (G1 : ¬ vs0 = 0 → vp_in v2 8) (K0 : ¬ vs0 = 0 → Con mX6_advance d1' 0 0 [.inr (.inr 2)] (zsI h (v1 + 3) v2.toNatClampNeg (h.1 2 5)) (zrv fun h' => J mX6_readLine d 0 0 Q 0 0 78 [some (.inr (.inr 2)), some (.inr (.inr v1)), some (.inl v2)] [] h')) (K1 : vs0 = 0 → Q (some (.inl (nI 0))) h) : J mX6_readLine d 0 0 Q 0 0 59 [some (.inr (.inr 2)), some (.inr (.inr v1)), some (.inl v2)] [.inl vs0] h := by
  refine bX6_readLine_59  (fun p1 => ?_) (fun p1 => ?_)
  · exact bX6_readLine_64 hr (G0 p1) (G1 p1) hd1' (K0 p1)
  · exact bX6_readLine_62  (K1 p1)

set_option maxRecDepth 20000 in
theorem t_X6_readLine_78 {d d1' : Nat} {Q : Option MV → MH → Prop} {h : MH} {v2 : Int32} {v1 : Nat} (hr : zRf h) (hd1' : d1' + 1 ≤ d) (K0 : Con mX6_isWord d1' 0 0 [.inr (.inr 2), .inr (.inr 1002)] h (zri fun (x : Int32) h' => J mX6_readLine d 0 0 Q 0 0 84 [some (.inr (.inr 2)), some (.inr (.inr v1)), some (.inl v2)] [.inl x] h')) : J mX6_readLine d 0 0 Q 0 0 78 [some (.inr (.inr 2)), some (.inr (.inr v1)), some (.inl v2)] [] h := by
  refine bX6_readLine_78  ?_
  refine bX6_readLine_79  ?_
  exact bX6_readLine_81 hr hd1' (K0)

set_option maxRecDepth 20000 in
theorem t_X6_readLine_84 {d d1' : Nat} {Q : Option MV → MH → Prop} {h : MH} {v2 vs0 : Int32} {v1 : Nat} (hr : zRf h) (hd : 1 ≤ d) (hd1' : d1' + 1 ≤ d) (K0 : vs0 = 0 → (h.1 2 3) = (nI 3) → Q (some (.inl (nI 1))) h) (K1 : vs0 = 0 → ¬ (h.1 2 3) = (nI 3) → ¬ (h.1 2 3) = (nI 4) → Q (some (.inl (nI 0))) (zsI (zsI h 2 6 (nI 2)) 2 7 ((zsI h 2 6 (nI 2)).1 2 4))) (K2 : vs0 = 0 → ¬ (h.1 2 3) = (nI 3) → (h.1 2 3) = (nI 4) → Q (some (.inl (nI 0))) (zsI (zsI h 2 6 (nI 1)) 2 7 ((zsI h 2 6 (nI 1)).1 2 4))) (K3 : ¬ vs0 = 0 → Con mX6_advanceTo d1' 0 0 [.inr (.inr 2), .inl (nI 0), .inl (nI 50)] h (zri fun (x : Int32) h' => J mX6_readLine d 0 0 Q 0 0 94 [some (.inr (.inr 2)), some (.inr (.inr v1)), some (.inl v2)] [.inl x] h')) : J mX6_readLine d 0 0 Q 0 0 84 [some (.inr (.inr 2)), some (.inr (.inr v1)), some (.inl v2)] [.inl vs0] h := by
  refine bX6_readLine_84  (fun p1 => ?_) (fun p1 => ?_)
  · refine bX6_readLine_113 hr (fun p2 => ?_) (fun p2 => ?_)
    · refine bX6_readLine_129  ?_
      exact bX6_readLine_134 (by decide) (K0 p1 p2)
    · refine bX6_readLine_121 (d' := 0) hr (by omega) ?_
      refine t_X6_refuse hr ?_ ?_
      · intro p3
        refine bX6_readLine_126  (fun _ => ?_) (fun c => absurd c (by decide))
        refine bX6_readLine_133  ?_
        exact bX6_readLine_134 (by decide) (K1 p1 p2 p3)
      · intro p4
        refine bX6_readLine_126  (fun _ => ?_) (fun c => absurd c (by decide))
        refine bX6_readLine_133  ?_
        exact bX6_readLine_134 (by decide) (K2 p1 p2 p4)
  · exact bX6_readLine_87 hr hd1' (K3 p1)

set_option maxRecDepth 20000 in
theorem t_X6_readLine_94 {d d1' : Nat} {Q : Option MV → MH → Prop} {h : MH} {v2 vs0 : Int32} {v1 : Nat} (hr : zRf h) (hd1' : d1' + 1 ≤ d) (G0 : ¬ vs0 = 0 → zokO h v1 2) (G1 : ¬ vs0 = 0 → vp_in v2 8) (K0 : ¬ vs0 = 0 → Con mX6_advance d1' 0 0 [.inr (.inr 2)] (zsI h (v1 + 4) v2.toNatClampNeg (h.1 2 5)) (zrv fun h' => J mX6_readLine d 0 0 Q 0 0 113 [some (.inr (.inr 2)), some (.inr (.inr v1)), some (.inl v2)] [] h')) (K1 : vs0 = 0 → Q (some (.inl (nI 0))) h) : J mX6_readLine d 0 0 Q 0 0 94 [some (.inr (.inr 2)), some (.inr (.inr v1)), some (.inl v2)] [.inl vs0] h := by
  refine bX6_readLine_94  (fun p1 => ?_) (fun p1 => ?_)
  · exact bX6_readLine_99 hr (G0 p1) (G1 p1) hd1' (K0 p1)
  · exact bX6_readLine_97  (K1 p1)

set_option maxRecDepth 20000 in
theorem t_X6_readLine_113 {d  : Nat} {Q : Option MV → MH → Prop} {h : MH} {v2 : Int32} {v1 : Nat} (hr : zRf h) (hd : 1 ≤ d) (K0 : (h.1 2 3) = (nI 3) → Q (some (.inl (nI 1))) h) (K1 : ¬ (h.1 2 3) = (nI 3) → ¬ (h.1 2 3) = (nI 4) → Q (some (.inl (nI 0))) (zsI (zsI h 2 6 (nI 2)) 2 7 ((zsI h 2 6 (nI 2)).1 2 4))) (K2 : ¬ (h.1 2 3) = (nI 3) → (h.1 2 3) = (nI 4) → Q (some (.inl (nI 0))) (zsI (zsI h 2 6 (nI 1)) 2 7 ((zsI h 2 6 (nI 1)).1 2 4))) : J mX6_readLine d 0 0 Q 0 0 113 [some (.inr (.inr 2)), some (.inr (.inr v1)), some (.inl v2)] [] h := by
  refine bX6_readLine_113 hr (fun p1 => ?_) (fun p1 => ?_)
  · refine bX6_readLine_129  ?_
    exact bX6_readLine_134 (by decide) (K0 p1)
  · refine bX6_readLine_121 (d' := 0) hr (by omega) ?_
    refine t_X6_refuse hr ?_ ?_
    · intro p2
      refine bX6_readLine_126  (fun _ => ?_) (fun c => absurd c (by decide))
      refine bX6_readLine_133  ?_
      exact bX6_readLine_134 (by decide) (K1 p1 p2)
    · intro p3
      refine bX6_readLine_126  (fun _ => ?_) (fun c => absurd c (by decide))
      refine bX6_readLine_133  ?_
      exact bX6_readLine_134 (by decide) (K2 p1 p3)

set_option maxRecDepth 20000 in
theorem t_X6_readPieces {d  : Nat} {Q : Option MV → MH → Prop} {h : MH} {v2 : Int32} {v1 : Nat} (K0 : J mX6_readPieces d 0 0 Q 0 0 2 [some (.inr (.inr 2)), some (.inr (.inr v1)), some (.inl v2), some (.inl (nI 0))] [] h) : Con mX6_readPieces d 0 0 [.inr (.inr 2), .inr (.inr v1), .inl v2] h Q := by
  refine Con.intro rfl (Nat.le_of_ble_eq_true rfl) ?_
  show J mX6_readPieces d 0 0 Q 0 0 0 [some (.inr (.inr 2)), some (.inr (.inr v1)), some (.inl v2), none] [] h
  refine bX6_readPieces_0  ?_
  exact K0

set_option maxRecDepth 20000 in
theorem t_X6_readPieces_2 {d d1' : Nat} {Q : Option MV → MH → Prop} {h : MH} {v2 v3 : Int32} {v1 : Nat} (hr : zRf h) (hd : 1 ≤ d) (hd1' : d1' + 1 ≤ d) (K0 : (nI 6) < v3 → ¬ (h.1 2 3) = (nI 4) → Q (some (.inl (nI 0))) (zsI (zsI h 2 6 (nI 4)) 2 7 ((zsI h 2 6 (nI 4)).1 2 4))) (K1 : (nI 6) < v3 → (h.1 2 3) = (nI 4) → Q (some (.inl (nI 0))) (zsI (zsI h 2 6 (nI 1)) 2 7 ((zsI h 2 6 (nI 1)).1 2 4))) (K2 : ¬ (nI 6) < v3 → Con mX6_advance d1' 0 0 [.inr (.inr 2)] h (zrv fun h' => J mX6_readPieces d 0 0 Q 0 0 12 [some (.inr (.inr 2)), some (.inr (.inr v1)), some (.inl v2), some (.inl v3)] [] h')) : J mX6_readPieces d 0 0 Q 0 0 2 [some (.inr (.inr 2)), some (.inr (.inr v1)), some (.inl v2), some (.inl v3)] [] h := by
  refine bX6_readPieces_2  (fun p1 => ?_) (fun p1 => ?_)
  · refine bX6_readPieces_62 (d' := 0) hr (by omega) ?_
    refine t_X6_refuse hr ?_ ?_
    · intro p2
      exact bX6_readPieces_67 (by decide) (K0 p1 p2)
    · intro p3
      exact bX6_readPieces_67 (by decide) (K1 p1 p3)
  · exact bX6_readPieces_8 hr hd1' (K2 p1)

set_option maxRecDepth 20000 in
theorem t_X6_readPieces_12 {d d1' d2' : Nat} {Q : Option MV → MH → Prop} {h : MH} {v2 v3 : Int32} {v1 : Nat} (hr : zRf h) (hd : 2 ≤ d) (hd1' : d1' + 1 ≤ d) (hd2' : d2' + 1 ≤ d) (G0 : v3 ≤ 0 → (h.1 2 3) = (nI 2) → ¬ (h.1 2 5) < (nI 1) → (h.1 2 5) ≤ (nI 60) → zokO h v1 2) (G1 : ¬ v3 ≤ 0 → (h.1 2 3) = (nI 2) → ¬ (h.1 2 5) < (nI 1) → (h.1 2 5) ≤ (nI 60) → zokO h v1 2) (K0 : v3 ≤ 0 → (h.1 2 3) = (nI 2) → (h.1 2 5) < (nI 1) → ¬ (h.1 2 3) = (nI 4) → Q (some (.inl (nI 0))) (zsI (zsI h 2 6 (nI 3)) 2 7 ((zsI h 2 6 (nI 3)).1 2 4))) (K1 : v3 ≤ 0 → (h.1 2 3) = (nI 2) → (h.1 2 5) < (nI 1) → (h.1 2 3) = (nI 4) → Q (some (.inl (nI 0))) (zsI (zsI h 2 6 (nI 1)) 2 7 ((zsI h 2 6 (nI 1)).1 2 4))) (K2 : v3 ≤ 0 → (h.1 2 3) = (nI 2) → ¬ (h.1 2 5) < (nI 1) → (h.1 2 5) ≤ (nI 60) → Con mX2_addPiece d1' 0 0 [.inr (.inr v1), .inl v2, .inl (h.1 2 5)] h (zri fun (x : Int32) h' => J mX6_readPieces d 0 0 Q 0 0 47 [some (.inr (.inr 2)), some (.inr (.inr v1)), some (.inl v2), some (.inl v3)] [.inl x] h')) (K3 : v3 ≤ 0 → (h.1 2 3) = (nI 2) → ¬ (h.1 2 5) < (nI 1) → ¬ (h.1 2 5) ≤ (nI 60) → ¬ (h.1 2 3) = (nI 4) → Q (some (.inl (nI 0))) (zsI (zsI h 2 6 (nI 3)) 2 7 ((zsI h 2 6 (nI 3)).1 2 4))) (K4 : v3 ≤ 0 → (h.1 2 3) = (nI 2) → ¬ (h.1 2 5) < (nI 1) → ¬ (h.1 2 5) ≤ (nI 60) → (h.1 2 3) = (nI 4) → Q (some (.inl (nI 0))) (zsI (zsI h 2 6 (nI 1)) 2 7 ((zsI h 2 6 (nI 1)).1 2 4))) (K5 : v3 ≤ 0 → ¬ (h.1 2 3) = (nI 2) → ¬ (h.1 2 3) = (nI 4) → Q (some (.inl (nI 0))) (zsI (zsI h 2 6 (nI 2)) 2 7 ((zsI h 2 6 (nI 2)).1 2 4))) (K6 : v3 ≤ 0 → ¬ (h.1 2 3) = (nI 2) → (h.1 2 3) = (nI 4) → Q (some (.inl (nI 0))) (zsI (zsI h 2 6 (nI 1)) 2 7 ((zsI h 2 6 (nI 1)).1 2 4))) (K7 : ¬ v3 ≤ 0 → (h.1 2 3) = (nI 2) → (h.1 2 5) < (nI 1) → ¬ (h.1 2 3) = (nI 4) → Q (some (.inl (nI 0))) (zsI (zsI h 2 6 (nI 3)) 2 7 ((zsI h 2 6 (nI 3)).1 2 4))) (K8 : ¬ v3 ≤ 0 → (h.1 2 3) = (nI 2) → (h.1 2 5) < (nI 1) → (h.1 2 3) = (nI 4) → Q (some (.inl (nI 0))) (zsI (zsI h 2 6 (nI 1)) 2 7 ((zsI h 2 6 (nI 1)).1 2 4))) (K9 : ¬ v3 ≤ 0 → (h.1 2 3) = (nI 2) → ¬ (h.1 2 5) < (nI 1) → (h.1 2 5) ≤ (nI 60) → Con mX2_addPiece d2' 0 0 [.inr (.inr v1), .inl v2, .inl (h.1 2 5)] h (zri fun (x : Int32) h' => J mX6_readPieces d 0 0 Q 0 0 47 [some (.inr (.inr 2)), some (.inr (.inr v1)), some (.inl v2), some (.inl v3)] [.inl x] h')) (K10 : ¬ v3 ≤ 0 → (h.1 2 3) = (nI 2) → ¬ (h.1 2 5) < (nI 1) → ¬ (h.1 2 5) ≤ (nI 60) → ¬ (h.1 2 3) = (nI 4) → Q (some (.inl (nI 0))) (zsI (zsI h 2 6 (nI 3)) 2 7 ((zsI h 2 6 (nI 3)).1 2 4))) (K11 : ¬ v3 ≤ 0 → (h.1 2 3) = (nI 2) → ¬ (h.1 2 5) < (nI 1) → ¬ (h.1 2 5) ≤ (nI 60) → (h.1 2 3) = (nI 4) → Q (some (.inl (nI 0))) (zsI (zsI h 2 6 (nI 1)) 2 7 ((zsI h 2 6 (nI 1)).1 2 4))) (K12 : ¬ v3 ≤ 0 → ¬ (h.1 2 3) = (nI 2) → Q (some (.inl (nI 1))) h) : J mX6_readPieces d 0 0 Q 0 0 12 [some (.inr (.inr 2)), some (.inr (.inr v1)), some (.inl v2), some (.inl v3)] [] h := by
  refine bX6_readPieces_12  (fun p1 => ?_) (fun p1 => ?_)
  · refine bX6_readPieces_26 (d' := 1) hr (by omega) ?_
    refine t_X6_isNumber hr (Nat.le_refl _) ?_ ?_ ?_ ?_ ?_ ?_ ?_
    · intro p2 p3 p4
      refine bX6_readPieces_33  (fun c => absurd c (by decide)) (fun _ => ?_)
      exact bX6_readPieces_36  (K0 p1 p2 p3 p4)
    · intro p5 p6 p7
      refine bX6_readPieces_33  (fun c => absurd c (by decide)) (fun _ => ?_)
      exact bX6_readPieces_36  (K1 p1 p5 p6 p7)
    · intro p8 p9 p10
      refine bX6_readPieces_33  (fun _ => ?_) (fun c => absurd c (by decide))
      exact bX6_readPieces_38 hr (G0 p1 p8 p9 p10) hd1' (K2 p1 p8 p9 p10)
    · intro p11 p12 p13 p14
      refine bX6_readPieces_33  (fun c => absurd c (by decide)) (fun _ => ?_)
      exact bX6_readPieces_36  (K3 p1 p11 p12 p13 p14)
    · intro p15 p16 p17 p18
      refine bX6_readPieces_33  (fun c => absurd c (by decide)) (fun _ => ?_)
      exact bX6_readPieces_36  (K4 p1 p15 p16 p17 p18)
    · intro p19 p20
      refine bX6_readPieces_33  (fun c => absurd c (by decide)) (fun _ => ?_)
      exact bX6_readPieces_36  (K5 p1 p19 p20)
    · intro p21 p22
      refine bX6_readPieces_33  (fun c => absurd c (by decide)) (fun _ => ?_)
      exact bX6_readPieces_36  (K6 p1 p21 p22)
  · refine bX6_readPieces_16 hr (fun p23 => ?_) (fun p23 => ?_)
    · refine bX6_readPieces_26 (d' := 1) hr (by omega) ?_
      refine t_X6_isNumber hr (Nat.le_refl _) ?_ ?_ ?_ ?_ ?_ ?_ ?_
      · intro p24 p25 p26
        refine bX6_readPieces_33  (fun c => absurd c (by decide)) (fun _ => ?_)
        exact bX6_readPieces_36  (K7 p1 p23 p25 p26)
      · intro p27 p28 p29
        refine bX6_readPieces_33  (fun c => absurd c (by decide)) (fun _ => ?_)
        exact bX6_readPieces_36  (K8 p1 p23 p28 p29)
      · intro p30 p31 p32
        refine bX6_readPieces_33  (fun _ => ?_) (fun c => absurd c (by decide))
        exact bX6_readPieces_38 hr (G1 p1 p23 p31 p32) hd2' (K9 p1 p23 p31 p32)
      · intro p33 p34 p35 p36
        refine bX6_readPieces_33  (fun c => absurd c (by decide)) (fun _ => ?_)
        exact bX6_readPieces_36  (K10 p1 p23 p34 p35 p36)
      · intro p37 p38 p39 p40
        refine bX6_readPieces_33  (fun c => absurd c (by decide)) (fun _ => ?_)
        exact bX6_readPieces_36  (K11 p1 p23 p38 p39 p40)
      · intro p41 p42; exact absurd p23 p41
      · intro p43 p44; exact absurd p23 p43
    · exact bX6_readPieces_24  (K12 p1 p23)

set_option maxRecDepth 20000 in
theorem t_X6_readPieces_47 {d  : Nat} {Q : Option MV → MH → Prop} {h : MH} {v2 v3 vs0 : Int32} {v1 : Nat} (hr : zRf h) (hd : 1 ≤ d) (K0 : ¬ vs0 = 0 → J mX6_readPieces d 0 0 Q 0 0 2 [some (.inr (.inr 2)), some (.inr (.inr v1)), some (.inl v2), some (.inl (v3 + nI 1))] [] h) (K1 : vs0 = 0 → ¬ (h.1 2 3) = (nI 4) → Q (some (.inl (nI 0))) (zsI (zsI h 2 6 (nI 4)) 2 7 ((zsI h 2 6 (nI 4)).1 2 4))) (K2 : vs0 = 0 → (h.1 2 3) = (nI 4) → Q (some (.inl (nI 0))) (zsI (zsI h 2 6 (nI 1)) 2 7 ((zsI h 2 6 (nI 1)).1 2 4))) : J mX6_readPieces d 0 0 Q 0 0 47 [some (.inr (.inr 2)), some (.inr (.inr v1)), some (.inl v2), some (.inl v3)] [.inl vs0] h := by
  refine bX6_readPieces_47  (fun p1 => ?_) (fun p1 => ?_)
  · refine bX6_readPieces_56  ?_
    exact K0 p1
  · refine bX6_readPieces_50 (d' := 0) hr (by omega) ?_
    refine t_X6_refuse hr ?_ ?_
    · intro p2
      exact bX6_readPieces_55 (by decide) (K1 p1 p2)
    · intro p3
      exact bX6_readPieces_55 (by decide) (K2 p1 p3)

set_option maxRecDepth 20000 in
theorem t_X6_readPlan {d d1' : Nat} {Q : Option MV → MH → Prop} {h : MH} {v2 : Int32} {v1 : Nat} (hr : zRf h) (hd1' : d1' + 1 ≤ d) (K0 : Con mX6_begin d1' 0 0 [.inr (.inr 2), .inl v2] h (zrv fun h' => J mX6_readPlan d 0 0 Q 0 0 5 [some (.inr (.inr 2)), some (.inr (.inr v1)), some (.inl v2), none] [] h')) : Con mX6_readPlan d 0 0 [.inr (.inr 2), .inr (.inr v1), .inl v2] h Q := by
  refine Con.intro rfl (Nat.le_of_ble_eq_true rfl) ?_
  show J mX6_readPlan d 0 0 Q 0 0 0 [some (.inr (.inr 2)), some (.inr (.inr v1)), some (.inl v2), none] [] h
  exact bX6_readPlan_0 hr hd1' (K0)

set_option maxRecDepth 20000 in
theorem t_X6_readPlan_5 {d d1' : Nat} {Q : Option MV → MH → Prop} {h : MH} {v2 : Int32} {v1 : Nat} (hd1' : d1' + 1 ≤ d) (G0 : zokO h v1 5) (K0 : Con mX5_clear d1' 0 0 [.inr (.inr v1)] h (zrv fun h' => J mX6_readPlan d 0 0 Q 0 0 9 [some (.inr (.inr 2)), some (.inr (.inr v1)), some (.inl v2), none] [] h')) : J mX6_readPlan d 0 0 Q 0 0 5 [some (.inr (.inr 2)), some (.inr (.inr v1)), some (.inl v2), none] [] h := by
  exact bX6_readPlan_5 (G0) hd1' (K0)

set_option maxRecDepth 20000 in
theorem t_X6_readPlan_9 {d  : Nat} {Q : Option MV → MH → Prop} {h : MH} {v2 : Int32} {v1 : Nat} (K0 : J mX6_readPlan d 0 0 Q 0 0 11 [some (.inr (.inr 2)), some (.inr (.inr v1)), some (.inl v2), some (.inl (nI 0))] [] h) : J mX6_readPlan d 0 0 Q 0 0 9 [some (.inr (.inr 2)), some (.inr (.inr v1)), some (.inl v2), none] [] h := by
  refine bX6_readPlan_9  ?_
  exact K0

set_option maxRecDepth 20000 in
theorem t_X6_readPlan_11 {d d1' : Nat} {Q : Option MV → MH → Prop} {h : MH} {v2 v3 : Int32} {v1 : Nat} (hr : zRf h) (hd : 1 ≤ d) (hd1' : d1' + 1 ≤ d) (K0 : (nI 20) < v3 → ¬ (h.1 2 3) = (nI 4) → Q (some (.inl (nI 0))) (zsI (zsI h 2 6 (nI 4)) 2 7 ((zsI h 2 6 (nI 4)).1 2 4))) (K1 : (nI 20) < v3 → (h.1 2 3) = (nI 4) → Q (some (.inl (nI 0))) (zsI (zsI h 2 6 (nI 1)) 2 7 ((zsI h 2 6 (nI 1)).1 2 4))) (K2 : ¬ (nI 20) < v3 → Con mX6_advance d1' 0 0 [.inr (.inr 2)] h (zrv fun h' => J mX6_readPlan d 0 0 Q 0 0 21 [some (.inr (.inr 2)), some (.inr (.inr v1)), some (.inl v2), some (.inl v3)] [] h')) : J mX6_readPlan d 0 0 Q 0 0 11 [some (.inr (.inr 2)), some (.inr (.inr v1)), some (.inl v2), some (.inl v3)] [] h := by
  refine bX6_readPlan_11  (fun p1 => ?_) (fun p1 => ?_)
  · refine bX6_readPlan_46 (d' := 0) hr (by omega) ?_
    refine t_X6_refuse hr ?_ ?_
    · intro p2
      exact bX6_readPlan_51 (by decide) (K0 p1 p2)
    · intro p3
      exact bX6_readPlan_51 (by decide) (K1 p1 p3)
  · exact bX6_readPlan_17 hr hd1' (K2 p1)

set_option maxRecDepth 20000 in
theorem t_X6_readPlan_21 {d d1' : Nat} {Q : Option MV → MH → Prop} {h : MH} {v2 v3 : Int32} {v1 : Nat} (hr : zRf h) (hd1' : d1' + 1 ≤ d) (K0 : ¬ (h.1 2 3) = 0 → Con mX6_readRule d1' 0 0 [.inr (.inr 2), .inr (.inr v1)] h (zri fun (x : Int32) h' => J mX6_readPlan d 0 0 Q 0 0 35 [some (.inr (.inr 2)), some (.inr (.inr v1)), some (.inl v2), some (.inl v3)] [.inl x] h')) (K1 : (h.1 2 3) = 0 → Q (some (.inl (nI 1))) h) : J mX6_readPlan d 0 0 Q 0 0 21 [some (.inr (.inr 2)), some (.inr (.inr v1)), some (.inl v2), some (.inl v3)] [] h := by
  refine bX6_readPlan_21 hr (fun p1 => ?_) (fun p1 => ?_)
  · exact bX6_readPlan_30 hr hd1' (K0 p1)
  · exact bX6_readPlan_28  (K1 p1)

set_option maxRecDepth 20000 in
theorem t_X6_readPlan_35 {d  : Nat} {Q : Option MV → MH → Prop} {h : MH} {v2 v3 vs0 : Int32} {v1 : Nat} (K0 : ¬ vs0 = 0 → J mX6_readPlan d 0 0 Q 0 0 11 [some (.inr (.inr 2)), some (.inr (.inr v1)), some (.inl v2), some (.inl (v3 + nI 1))] [] h) (K1 : vs0 = 0 → Q (some (.inl (nI 0))) h) : J mX6_readPlan d 0 0 Q 0 0 35 [some (.inr (.inr 2)), some (.inr (.inr v1)), some (.inl v2), some (.inl v3)] [.inl vs0] h := by
  refine bX6_readPlan_35  (fun p1 => ?_) (fun p1 => ?_)
  · refine bX6_readPlan_40  ?_
    exact K0 p1
  · exact bX6_readPlan_38  (K1 p1)

set_option maxRecDepth 20000 in
theorem t_X6_readRule {d d1' : Nat} {Q : Option MV → MH → Prop} {h : MH} {v1 : Nat} (hr : zRf h) (hd1' : d1' + 1 ≤ d) (K0 : Con mX6_isWord d1' 0 0 [.inr (.inr 2), .inr (.inr 1004)] h (zri fun (x : Int32) h' => J mX6_readRule d 0 0 Q 0 0 6 [some (.inr (.inr 2)), some (.inr (.inr v1)), none, none] [.inl x] h')) : Con mX6_readRule d 0 0 [.inr (.inr 2), .inr (.inr v1)] h Q := by
  refine Con.intro rfl (Nat.le_of_ble_eq_true rfl) ?_
  show J mX6_readRule d 0 0 Q 0 0 0 [some (.inr (.inr 2)), some (.inr (.inr v1)), none, none] [] h
  refine bX6_readRule_0  ?_
  refine bX6_readRule_1  ?_
  exact bX6_readRule_3 hr hd1' (K0)

set_option maxRecDepth 20000 in
theorem t_X6_readRule_6 {d d1' d2' : Nat} {Q : Option MV → MH → Prop} {h : MH} {vs0 : Int32} {v1 : Nat} (hr : zRf h) (hd : 1 ≤ d) (hd1' : d1' + 1 ≤ d) (hd2' : d2' + 1 ≤ d) (G0 : ¬ vs0 = 0 → zokO h v1 5) (K0 : ¬ vs0 = 0 → (h.1 v1 0) < (nI 20) → Con mX6_advanceTo d1' 0 0 [.inr (.inr 2), .inl (nI 0), .inl (nI 7)] h (zri fun (x : Int32) h' => J mX6_readRule d 0 0 Q 0 0 52 [some (.inr (.inr 2)), some (.inr (.inr v1)), some (.inl vs0), none] [.inl x] h')) (K1 : ¬ vs0 = 0 → ¬ (h.1 v1 0) < (nI 20) → ¬ (h.1 2 3) = (nI 4) → Q (some (.inl (nI 0))) (zsI (zsI h 2 6 (nI 4)) 2 7 ((zsI h 2 6 (nI 4)).1 2 4))) (K2 : ¬ vs0 = 0 → ¬ (h.1 v1 0) < (nI 20) → (h.1 2 3) = (nI 4) → Q (some (.inl (nI 0))) (zsI (zsI h 2 6 (nI 1)) 2 7 ((zsI h 2 6 (nI 1)).1 2 4))) (K3 : vs0 = 0 → Con mX6_isWord d2' 0 0 [.inr (.inr 2), .inr (.inr 1003)] h (zri fun (x : Int32) h' => J mX6_readRule d 0 0 Q 0 0 17 [some (.inr (.inr 2)), some (.inr (.inr v1)), some (.inl vs0), none] [.inl x] h')) : J mX6_readRule d 0 0 Q 0 0 6 [some (.inr (.inr 2)), some (.inr (.inr v1)), none, none] [.inl vs0] h := by
  refine bX6_readRule_6  (fun p1 => ?_) (fun p1 => ?_)
  · refine bX6_readRule_26 (G0 p1) (fun p2 => ?_) (fun p2 => ?_)
    · refine bX6_readRule_41  (fun c => absurd c p1) (fun _ => ?_)
      exact bX6_readRule_45 hr hd1' (K0 p1 p2)
    · refine bX6_readRule_35 (d' := 0) hr (by omega) ?_
      refine t_X6_refuse hr ?_ ?_
      · intro p3
        exact bX6_readRule_40 (by decide) (K1 p1 p2 p3)
      · intro p4
        exact bX6_readRule_40 (by decide) (K2 p1 p2 p4)
  · refine bX6_readRule_11  ?_
    refine bX6_readRule_12  ?_
    exact bX6_readRule_14 hr hd2' (K3 p1)

set_option maxRecDepth 20000 in
theorem t_X6_readRule_17 {d d1' d2' : Nat} {Q : Option MV → MH → Prop} {h : MH} {v2 vs0 : Int32} {v1 : Nat} (hr : zRf h) (hd : 1 ≤ d) (hd1' : d1' + 1 ≤ d) (hd2' : d2' + 1 ≤ d) (G0 : ¬ vs0 = 0 → zokO h v1 5) (K0 : ¬ vs0 = 0 → (h.1 v1 0) < (nI 20) → v2 = 0 → Con mX5_addRule d1' 0 0 [.inr (.inr v1), .inl (-(nI 1))] h (zrv fun h' => J mX6_readRule d 0 0 Q 0 0 73 [some (.inr (.inr 2)), some (.inr (.inr v1)), some (.inl v2), none] [] h')) (K1 : ¬ vs0 = 0 → (h.1 v1 0) < (nI 20) → ¬ v2 = 0 → Con mX6_advanceTo d2' 0 0 [.inr (.inr 2), .inl (nI 0), .inl (nI 7)] h (zri fun (x : Int32) h' => J mX6_readRule d 0 0 Q 0 0 52 [some (.inr (.inr 2)), some (.inr (.inr v1)), some (.inl v2), none] [.inl x] h')) (K2 : ¬ vs0 = 0 → ¬ (h.1 v1 0) < (nI 20) → ¬ (h.1 2 3) = (nI 4) → Q (some (.inl (nI 0))) (zsI (zsI h 2 6 (nI 4)) 2 7 ((zsI h 2 6 (nI 4)).1 2 4))) (K3 : ¬ vs0 = 0 → ¬ (h.1 v1 0) < (nI 20) → (h.1 2 3) = (nI 4) → Q (some (.inl (nI 0))) (zsI (zsI h 2 6 (nI 1)) 2 7 ((zsI h 2 6 (nI 1)).1 2 4))) (K4 : vs0 = 0 → ¬ (h.1 2 3) = (nI 4) → Q (some (.inl (nI 0))) (zsI (zsI h 2 6 (nI 2)) 2 7 ((zsI h 2 6 (nI 2)).1 2 4))) (K5 : vs0 = 0 → (h.1 2 3) = (nI 4) → Q (some (.inl (nI 0))) (zsI (zsI h 2 6 (nI 1)) 2 7 ((zsI h 2 6 (nI 1)).1 2 4))) : J mX6_readRule d 0 0 Q 0 0 17 [some (.inr (.inr 2)), some (.inr (.inr v1)), some (.inl v2), none] [.inl vs0] h := by
  refine bX6_readRule_17  (fun p1 => ?_) (fun p1 => ?_)
  · refine bX6_readRule_26 (G0 p1) (fun p2 => ?_) (fun p2 => ?_)
    · refine bX6_readRule_41  (fun p3 => ?_) (fun p3 => ?_)
      · refine bX6_readRule_57  (fun _ => ?_) (fun c => absurd p3 c)
        refine bX6_readRule_69  ?_
        exact bX6_readRule_70 (G0 p1) hd1' (K0 p1 p2 p3)
      · exact bX6_readRule_45 hr hd2' (K1 p1 p2 p3)
    · refine bX6_readRule_35 (d' := 0) hr (by omega) ?_
      refine t_X6_refuse hr ?_ ?_
      · intro p4
        exact bX6_readRule_40 (by decide) (K2 p1 p2 p4)
      · intro p5
        exact bX6_readRule_40 (by decide) (K3 p1 p2 p5)
  · refine bX6_readRule_20 (d' := 0) hr (by omega) ?_
    refine t_X6_refuse hr ?_ ?_
    · intro p6
      exact bX6_readRule_25 (by decide) (K4 p1 p6)
    · intro p7
      exact bX6_readRule_25 (by decide) (K5 p1 p7)

set_option maxRecDepth 20000 in
theorem t_X6_readRule_52 {d d1' d2' : Nat} {Q : Option MV → MH → Prop} {h : MH} {v2 vs0 : Int32} {v1 : Nat} (hr : zRf h) (hd1' : d1' + 1 ≤ d) (hd2' : d2' + 1 ≤ d) (G0 : ¬ vs0 = 0 → v2 = 0 → zokO h v1 5) (G1 : ¬ vs0 = 0 → ¬ v2 = 0 → zokO h v1 5) (K0 : ¬ vs0 = 0 → v2 = 0 → Con mX5_addRule d1' 0 0 [.inr (.inr v1), .inl (-(nI 1))] h (zrv fun h' => J mX6_readRule d 0 0 Q 0 0 73 [some (.inr (.inr 2)), some (.inr (.inr v1)), some (.inl v2), none] [] h')) (K1 : ¬ vs0 = 0 → ¬ v2 = 0 → Con mX5_addRule d2' 0 0 [.inr (.inr v1), .inl (h.1 2 5)] h (zrv fun h' => J mX6_readRule d 0 0 Q 0 0 73 [some (.inr (.inr 2)), some (.inr (.inr v1)), some (.inl v2), none] [] h')) (K2 : vs0 = 0 → Q (some (.inl (nI 0))) h) : J mX6_readRule d 0 0 Q 0 0 52 [some (.inr (.inr 2)), some (.inr (.inr v1)), some (.inl v2), none] [.inl vs0] h := by
  refine bX6_readRule_52  (fun p1 => ?_) (fun p1 => ?_)
  · refine bX6_readRule_57  (fun p2 => ?_) (fun p2 => ?_)
    · refine bX6_readRule_69  ?_
      exact bX6_readRule_70 (G0 p1 p2) hd1' (K0 p1 p2)
    · refine bX6_readRule_62 hr ?_
      exact bX6_readRule_70 (G1 p1 p2) hd2' (K1 p1 p2)
  · exact bX6_readRule_55  (K2 p1)

set_option maxRecDepth 20000 in
theorem t_X6_readRule_73 {d  : Nat} {Q : Option MV → MH → Prop} {h : MH} {v2 : Int32} {v1 : Nat} (K0 : J mX6_readRule d 0 0 Q 0 0 75 [some (.inr (.inr 2)), some (.inr (.inr v1)), some (.inl v2), some (.inl (nI 0))] [] h) : J mX6_readRule d 0 0 Q 0 0 73 [some (.inr (.inr 2)), some (.inr (.inr v1)), some (.inl v2), none] [] h := by
  refine bX6_readRule_73  ?_
  exact K0

set_option maxRecDepth 20000 in
theorem t_X6_readRule_75 {d d1' : Nat} {Q : Option MV → MH → Prop} {h : MH} {v2 v3 : Int32} {v1 : Nat} (hr : zRf h) (hd : 1 ≤ d) (hd1' : d1' + 1 ≤ d) (K0 : (nI 40) < v3 → ¬ (h.1 2 3) = (nI 4) → Q (some (.inl (nI 0))) (zsI (zsI h 2 6 (nI 4)) 2 7 ((zsI h 2 6 (nI 4)).1 2 4))) (K1 : (nI 40) < v3 → (h.1 2 3) = (nI 4) → Q (some (.inl (nI 0))) (zsI (zsI h 2 6 (nI 1)) 2 7 ((zsI h 2 6 (nI 1)).1 2 4))) (K2 : ¬ (nI 40) < v3 → Con mX6_advance d1' 0 0 [.inr (.inr 2)] h (zrv fun h' => J mX6_readRule d 0 0 Q 0 0 85 [some (.inr (.inr 2)), some (.inr (.inr v1)), some (.inl v2), some (.inl v3)] [] h')) : J mX6_readRule d 0 0 Q 0 0 75 [some (.inr (.inr 2)), some (.inr (.inr v1)), some (.inl v2), some (.inl v3)] [] h := by
  refine bX6_readRule_75  (fun p1 => ?_) (fun p1 => ?_)
  · refine bX6_readRule_132 (d' := 0) hr (by omega) ?_
    refine t_X6_refuse hr ?_ ?_
    · intro p2
      exact bX6_readRule_137 (by decide) (K0 p1 p2)
    · intro p3
      exact bX6_readRule_137 (by decide) (K1 p1 p3)
  · exact bX6_readRule_81 hr hd1' (K2 p1)

set_option maxRecDepth 20000 in
theorem t_X6_readRule_85 {d d1' : Nat} {Q : Option MV → MH → Prop} {h : MH} {v2 v3 : Int32} {v1 : Nat} (hr : zRf h) (hd1' : d1' + 1 ≤ d) (K0 : Con mX6_readAct d1' 0 0 [.inr (.inr 2), .inr (.inr v1)] h (zri fun (x : Int32) h' => J mX6_readRule d 0 0 Q 0 0 90 [some (.inr (.inr 2)), some (.inr (.inr v1)), some (.inl v2), some (.inl v3)] [.inl x] h')) : J mX6_readRule d 0 0 Q 0 0 85 [some (.inr (.inr 2)), some (.inr (.inr v1)), some (.inl v2), some (.inl v3)] [] h := by
  exact bX6_readRule_85 hr hd1' (K0)

set_option maxRecDepth 20000 in
theorem t_X6_readRule_90 {d d1' : Nat} {Q : Option MV → MH → Prop} {h : MH} {v2 v3 vs0 : Int32} {v1 : Nat} (hr : zRf h) (hd1' : d1' + 1 ≤ d) (K0 : ¬ vs0 = 0 → Con mX6_isWord d1' 0 0 [.inr (.inr 2), .inr (.inr 1005)] h (zri fun (x : Int32) h' => J mX6_readRule d 0 0 Q 0 0 101 [some (.inr (.inr 2)), some (.inr (.inr v1)), some (.inl v2), some (.inl v3)] [.inl x] h')) (K1 : vs0 = 0 → Q (some (.inl (nI 0))) h) : J mX6_readRule d 0 0 Q 0 0 90 [some (.inr (.inr 2)), some (.inr (.inr v1)), some (.inl v2), some (.inl v3)] [.inl vs0] h := by
  refine bX6_readRule_90  (fun p1 => ?_) (fun p1 => ?_)
  · refine bX6_readRule_95  ?_
    refine bX6_readRule_96  ?_
    exact bX6_readRule_98 hr hd1' (K0 p1)
  · exact bX6_readRule_93  (K1 p1)

set_option maxRecDepth 20000 in
theorem t_X6_readRule_101 {d  : Nat} {Q : Option MV → MH → Prop} {h : MH} {v2 v3 vs0 : Int32} {v1 : Nat} (hr : zRf h) (hd : 1 ≤ d) (K0 : ¬ vs0 = 0 → J mX6_readRule d 0 0 Q 0 0 75 [some (.inr (.inr 2)), some (.inr (.inr v1)), some (.inl v2), some (.inl (v3 + nI 1))] [] h) (K1 : vs0 = 0 → (h.1 2 3) = (nI 3) → Q (some (.inl (nI 1))) h) (K2 : vs0 = 0 → ¬ (h.1 2 3) = (nI 3) → ¬ (h.1 2 3) = (nI 4) → Q (some (.inl (nI 0))) (zsI (zsI h 2 6 (nI 2)) 2 7 ((zsI h 2 6 (nI 2)).1 2 4))) (K3 : vs0 = 0 → ¬ (h.1 2 3) = (nI 3) → (h.1 2 3) = (nI 4) → Q (some (.inl (nI 0))) (zsI (zsI h 2 6 (nI 1)) 2 7 ((zsI h 2 6 (nI 1)).1 2 4))) : J mX6_readRule d 0 0 Q 0 0 101 [some (.inr (.inr 2)), some (.inr (.inr v1)), some (.inl v2), some (.inl v3)] [.inl vs0] h := by
  refine bX6_readRule_101  (fun p1 => ?_) (fun p1 => ?_)
  · refine bX6_readRule_126  ?_
    exact K0 p1
  · refine bX6_readRule_104 hr (fun p2 => ?_) (fun p2 => ?_)
    · refine bX6_readRule_120  ?_
      exact bX6_readRule_125 (by decide) (K1 p1 p2)
    · refine bX6_readRule_112 (d' := 0) hr (by omega) ?_
      refine t_X6_refuse hr ?_ ?_
      · intro p3
        refine bX6_readRule_117  (fun _ => ?_) (fun c => absurd c (by decide))
        refine bX6_readRule_124  ?_
        exact bX6_readRule_125 (by decide) (K2 p1 p2 p3)
      · intro p4
        refine bX6_readRule_117  (fun _ => ?_) (fun c => absurd c (by decide))
        refine bX6_readRule_124  ?_
        exact bX6_readRule_125 (by decide) (K3 p1 p2 p4)

set_option maxRecDepth 20000 in
theorem t_X6_readAct {d d1' : Nat} {Q : Option MV → MH → Prop} {h : MH} {v1 : Nat} (hr : zRf h) (hd1' : d1' + 1 ≤ d) (K0 : Con mX6_actAtHand d1' 0 0 [.inr (.inr 2)] h (zri fun (x : Int32) h' => J mX6_readAct d 0 0 Q 0 0 4 [some (.inr (.inr 2)), some (.inr (.inr v1)), none, none, none] [.inl x] h')) : Con mX6_readAct d 0 0 [.inr (.inr 2), .inr (.inr v1)] h Q := by
  refine Con.intro rfl (Nat.le_of_ble_eq_true rfl) ?_
  show J mX6_readAct d 0 0 Q 0 0 0 [some (.inr (.inr 2)), some (.inr (.inr v1)), none, none, none] [] h
  exact bX6_readAct_0 hr hd1' (K0)

set_option maxRecDepth 20000 in
theorem t_X6_readAct_4 {d d1' d2' d3' : Nat} {Q : Option MV → MH → Prop} {h : MH} {vs0 : Int32} {v1 : Nat} (hr : zRf h) (hd : 1 ≤ d) (hd1' : d1' + 1 ≤ d) (hd2' : d2' + 1 ≤ d) (hd3' : d3' + 1 ≤ d) (G0 : ¬ vs0 = (-(nI 1)) → zokO h v1 5) (K0 : ¬ vs0 = (-(nI 1)) → (h.1 v1 1) < (nI 40) → vs0 = (nI 4) → ¬ vs0 = (nI 3) → Con mX5_addAct d1' 0 0 [.inr (.inr v1), .inl vs0, .inl (nI 0), .inl (nI 0)] h (zrv fun h' => J mX6_readAct d 0 0 Q 0 0 89 [some (.inr (.inr 2)), some (.inr (.inr v1)), some (.inl vs0), some (.inl (nI 0)), some (.inl (nI 0))] [] h')) (K1 : ¬ vs0 = (-(nI 1)) → (h.1 v1 1) < (nI 40) → vs0 = (nI 4) → vs0 = (nI 3) → Con mX6_advanceTo d2' 0 0 [.inr (.inr 2), .inl (nI 0), .inl (nI 7)] h (zri fun (x : Int32) h' => J mX6_readAct d 0 0 Q 0 0 70 [some (.inr (.inr 2)), some (.inr (.inr v1)), some (.inl vs0), some (.inl (nI 0)), some (.inl (nI 0))] [.inl x] h')) (K2 : ¬ vs0 = (-(nI 1)) → (h.1 v1 1) < (nI 40) → ¬ vs0 = (nI 4) → Con mX6_advanceTo d3' 0 0 [.inr (.inr 2), .inl (nI 0), .inl (nI 7)] h (zri fun (x : Int32) h' => J mX6_readAct d 0 0 Q 0 0 48 [some (.inr (.inr 2)), some (.inr (.inr v1)), some (.inl vs0), some (.inl (nI 0)), some (.inl (nI 0))] [.inl x] h')) (K3 : ¬ vs0 = (-(nI 1)) → ¬ (h.1 v1 1) < (nI 40) → ¬ (h.1 2 3) = (nI 4) → Q (some (.inl (nI 0))) (zsI (zsI h 2 6 (nI 4)) 2 7 ((zsI h 2 6 (nI 4)).1 2 4))) (K4 : ¬ vs0 = (-(nI 1)) → ¬ (h.1 v1 1) < (nI 40) → (h.1 2 3) = (nI 4) → Q (some (.inl (nI 0))) (zsI (zsI h 2 6 (nI 1)) 2 7 ((zsI h 2 6 (nI 1)).1 2 4))) (K5 : vs0 = (-(nI 1)) → ¬ (h.1 2 3) = (nI 4) → Q (some (.inl (nI 0))) (zsI (zsI h 2 6 (nI 2)) 2 7 ((zsI h 2 6 (nI 2)).1 2 4))) (K6 : vs0 = (-(nI 1)) → (h.1 2 3) = (nI 4) → Q (some (.inl (nI 0))) (zsI (zsI h 2 6 (nI 1)) 2 7 ((zsI h 2 6 (nI 1)).1 2 4))) : J mX6_readAct d 0 0 Q 0 0 4 [some (.inr (.inr 2)), some (.inr (.inr v1)), none, none, none] [.inl vs0] h := by
  refine bX6_readAct_4  (fun p1 => ?_) (fun p1 => ?_)
  · refine bX6_readAct_16 (G0 p1) (fun p2 => ?_) (fun p2 => ?_)
    · refine bX6_readAct_31  (fun p3 => ?_) (fun p3 => ?_)
      · refine bX6_readAct_58  (fun p4 => ?_) (fun p4 => ?_)
        · exact bX6_readAct_81 (G0 p1) hd1' (K0 p1 p2 p3 p4)
        · exact bX6_readAct_63 hr hd2' (K1 p1 p2 p3 p4)
      · exact bX6_readAct_41 hr hd3' (K2 p1 p2 p3)
    · refine bX6_readAct_25 (d' := 0) hr (by omega) ?_
      refine t_X6_refuse hr ?_ ?_
      · intro p5
        exact bX6_readAct_30 (by decide) (K3 p1 p2 p5)
      · intro p6
        exact bX6_readAct_30 (by decide) (K4 p1 p2 p6)
  · refine bX6_readAct_10 (d' := 0) hr (by omega) ?_
    refine t_X6_refuse hr ?_ ?_
    · intro p7
      exact bX6_readAct_15 (by decide) (K5 p1 p7)
    · intro p8
      exact bX6_readAct_15 (by decide) (K6 p1 p8)

set_option maxRecDepth 20000 in
theorem t_X6_readAct_48 {d d1' d2' : Nat} {Q : Option MV → MH → Prop} {h : MH} {v2 v3 v4 vs0 : Int32} {v1 : Nat} (hr : zRf h) (hd1' : d1' + 1 ≤ d) (hd2' : d2' + 1 ≤ d) (G0 : ¬ vs0 = 0 → ¬ v2 = (nI 3) → zokO h v1 5) (K0 : ¬ vs0 = 0 → ¬ v2 = (nI 3) → Con mX5_addAct d1' 0 0 [.inr (.inr v1), .inl v2, .inl (h.1 2 5), .inl v4] h (zrv fun h' => J mX6_readAct d 0 0 Q 0 0 89 [some (.inr (.inr 2)), some (.inr (.inr v1)), some (.inl v2), some (.inl (h.1 2 5)), some (.inl v4)] [] h')) (K1 : ¬ vs0 = 0 → v2 = (nI 3) → Con mX6_advanceTo d2' 0 0 [.inr (.inr 2), .inl (nI 0), .inl (nI 7)] h (zri fun (x : Int32) h' => J mX6_readAct d 0 0 Q 0 0 70 [some (.inr (.inr 2)), some (.inr (.inr v1)), some (.inl v2), some (.inl (h.1 2 5)), some (.inl v4)] [.inl x] h')) (K2 : vs0 = 0 → Q (some (.inl (nI 0))) h) : J mX6_readAct d 0 0 Q 0 0 48 [some (.inr (.inr 2)), some (.inr (.inr v1)), some (.inl v2), some (.inl v3), some (.inl v4)] [.inl vs0] h := by
  refine bX6_readAct_48  (fun p1 => ?_) (fun p1 => ?_)
  · refine bX6_readAct_53 hr ?_
    refine bX6_readAct_58  (fun p2 => ?_) (fun p2 => ?_)
    · exact bX6_readAct_81 (G0 p1 p2) hd1' (K0 p1 p2)
    · exact bX6_readAct_63 hr hd2' (K1 p1 p2)
  · exact bX6_readAct_51  (K2 p1)

set_option maxRecDepth 20000 in
theorem t_X6_readAct_70 {d d1' : Nat} {Q : Option MV → MH → Prop} {h : MH} {v2 v3 v4 vs0 : Int32} {v1 : Nat} (hr : zRf h) (hd1' : d1' + 1 ≤ d) (G0 : ¬ vs0 = 0 → zokO h v1 5) (K0 : ¬ vs0 = 0 → Con mX5_addAct d1' 0 0 [.inr (.inr v1), .inl v2, .inl v3, .inl (h.1 2 5)] h (zrv fun h' => J mX6_readAct d 0 0 Q 0 0 89 [some (.inr (.inr 2)), some (.inr (.inr v1)), some (.inl v2), some (.inl v3), some (.inl (h.1 2 5))] [] h')) (K1 : vs0 = 0 → Q (some (.inl (nI 0))) h) : J mX6_readAct d 0 0 Q 0 0 70 [some (.inr (.inr 2)), some (.inr (.inr v1)), some (.inl v2), some (.inl v3), some (.inl v4)] [.inl vs0] h := by
  refine bX6_readAct_70  (fun p1 => ?_) (fun p1 => ?_)
  · refine bX6_readAct_75 hr ?_
    exact bX6_readAct_81 (G0 p1) hd1' (K0 p1)
  · exact bX6_readAct_73  (K1 p1)

set_option maxRecDepth 20000 in
theorem t_X6_readAct_89 {d d1' : Nat} {Q : Option MV → MH → Prop} {h : MH} {v2 v3 v4 : Int32} {v1 : Nat} (hr : zRf h) (hd1' : d1' + 1 ≤ d) (K0 : Con mX6_advance d1' 0 0 [.inr (.inr 2)] h (zrv fun h' => J mX6_readAct d 0 0 Q 0 0 93 [some (.inr (.inr 2)), some (.inr (.inr v1)), some (.inl v2), some (.inl v3), some (.inl v4)] [] h')) : J mX6_readAct d 0 0 Q 0 0 89 [some (.inr (.inr 2)), some (.inr (.inr v1)), some (.inl v2), some (.inl v3), some (.inl v4)] [] h := by
  exact bX6_readAct_89 hr hd1' (K0)

set_option maxRecDepth 20000 in
theorem t_X6_readAct_93 {d  : Nat} {Q : Option MV → MH → Prop} {h : MH} {v2 v3 v4 : Int32} {v1 : Nat} (K0 : Q (some (.inl (nI 1))) h) : J mX6_readAct d 0 0 Q 0 0 93 [some (.inr (.inr 2)), some (.inr (.inr v1)), some (.inl v2), some (.inl v3), some (.inl v4)] [] h := by
  exact bX6_readAct_93  (K0)

set_option maxRecDepth 20000 in
theorem t_X6_actAtHand {d d1' : Nat} {Q : Option MV → MH → Prop} {h : MH} (hr : zRf h) (hd1' : d1' + 1 ≤ d) (K0 : Con mX6_isWord d1' 0 0 [.inr (.inr 2), .inr (.inr 1006)] h (zri fun (x : Int32) h' => J mX6_actAtHand d 0 0 Q 0 0 6 [some (.inr (.inr 2))] [.inl x] h')) : Con mX6_actAtHand d 0 0 [.inr (.inr 2)] h Q := by
  refine Con.intro rfl (Nat.le_of_ble_eq_true rfl) ?_
  show J mX6_actAtHand d 0 0 Q 0 0 0 [some (.inr (.inr 2))] [] h
  refine bX6_actAtHand_0  ?_
  refine bX6_actAtHand_1  ?_
  exact bX6_actAtHand_3 hr hd1' (K0)

set_option maxRecDepth 20000 in
theorem t_X6_actAtHand_6 {d d1' : Nat} {Q : Option MV → MH → Prop} {h : MH} {vs0 : Int32} (hr : zRf h) (hd1' : d1' + 1 ≤ d) (K0 : vs0 = 0 → Con mX6_isWord d1' 0 0 [.inr (.inr 2), .inr (.inr 1007)] h (zri fun (x : Int32) h' => J mX6_actAtHand d 0 0 Q 0 0 17 [some (.inr (.inr 2))] [.inl x] h')) (K1 : ¬ vs0 = 0 → Q (some (.inl (nI 0))) h) : J mX6_actAtHand d 0 0 Q 0 0 6 [some (.inr (.inr 2))] [.inl vs0] h := by
  refine bX6_actAtHand_6  (fun p1 => ?_) (fun p1 => ?_)
  · refine bX6_actAtHand_11  ?_
    refine bX6_actAtHand_12  ?_
    exact bX6_actAtHand_14 hr hd1' (K0 p1)
  · exact bX6_actAtHand_9  (K1 p1)

set_option maxRecDepth 20000 in
theorem t_X6_actAtHand_17 {d d1' : Nat} {Q : Option MV → MH → Prop} {h : MH} {vs0 : Int32} (hr : zRf h) (hd1' : d1' + 1 ≤ d) (K0 : vs0 = 0 → Con mX6_isWord d1' 0 0 [.inr (.inr 2), .inr (.inr 1008)] h (zri fun (x : Int32) h' => J mX6_actAtHand d 0 0 Q 0 0 28 [some (.inr (.inr 2))] [.inl x] h')) (K1 : ¬ vs0 = 0 → Q (some (.inl (nI 1))) h) : J mX6_actAtHand d 0 0 Q 0 0 17 [some (.inr (.inr 2))] [.inl vs0] h := by
  refine bX6_actAtHand_17  (fun p1 => ?_) (fun p1 => ?_)
  · refine bX6_actAtHand_22  ?_
    refine bX6_actAtHand_23  ?_
    exact bX6_actAtHand_25 hr hd1' (K0 p1)
  · exact bX6_actAtHand_20  (K1 p1)

set_option maxRecDepth 20000 in
theorem t_X6_actAtHand_28 {d d1' : Nat} {Q : Option MV → MH → Prop} {h : MH} {vs0 : Int32} (hr : zRf h) (hd1' : d1' + 1 ≤ d) (K0 : vs0 = 0 → Con mX6_isWord d1' 0 0 [.inr (.inr 2), .inr (.inr 1009)] h (zri fun (x : Int32) h' => J mX6_actAtHand d 0 0 Q 0 0 39 [some (.inr (.inr 2))] [.inl x] h')) (K1 : ¬ vs0 = 0 → Q (some (.inl (nI 2))) h) : J mX6_actAtHand d 0 0 Q 0 0 28 [some (.inr (.inr 2))] [.inl vs0] h := by
  refine bX6_actAtHand_28  (fun p1 => ?_) (fun p1 => ?_)
  · refine bX6_actAtHand_33  ?_
    refine bX6_actAtHand_34  ?_
    exact bX6_actAtHand_36 hr hd1' (K0 p1)
  · exact bX6_actAtHand_31  (K1 p1)

set_option maxRecDepth 20000 in
theorem t_X6_actAtHand_39 {d d1' : Nat} {Q : Option MV → MH → Prop} {h : MH} {vs0 : Int32} (hr : zRf h) (hd1' : d1' + 1 ≤ d) (K0 : vs0 = 0 → Con mX6_isWord d1' 0 0 [.inr (.inr 2), .inr (.inr 1010)] h (zri fun (x : Int32) h' => J mX6_actAtHand d 0 0 Q 0 0 50 [some (.inr (.inr 2))] [.inl x] h')) (K1 : ¬ vs0 = 0 → Q (some (.inl (nI 3))) h) : J mX6_actAtHand d 0 0 Q 0 0 39 [some (.inr (.inr 2))] [.inl vs0] h := by
  refine bX6_actAtHand_39  (fun p1 => ?_) (fun p1 => ?_)
  · refine bX6_actAtHand_44  ?_
    refine bX6_actAtHand_45  ?_
    exact bX6_actAtHand_47 hr hd1' (K0 p1)
  · exact bX6_actAtHand_42  (K1 p1)

set_option maxRecDepth 20000 in
theorem t_X6_actAtHand_50 {d  : Nat} {Q : Option MV → MH → Prop} {h : MH} {vs0 : Int32} (K0 : vs0 = 0 → Q (some (.inl (-(nI 1)))) h) (K1 : ¬ vs0 = 0 → Q (some (.inl (nI 4))) h) : J mX6_actAtHand d 0 0 Q 0 0 50 [some (.inr (.inr 2))] [.inl vs0] h := by
  refine bX6_actAtHand_50  (fun p1 => ?_) (fun p1 => ?_)
  · refine bX6_actAtHand_57  ?_
    exact bX6_actAtHand_58  (K0 p1)
  · refine bX6_actAtHand_53  ?_
    exact bX6_actAtHand_58  (K1 p1)

set_option maxRecDepth 20000 in
theorem t_X6_begin {d  : Nat} {Q : Option MV → MH → Prop} {h : MH} {v1 : Int32} (hr : zRf h) (hd : 1 ≤ d) (K0 : Q none (zsI (zsI (zsI (zsI h 2 1 (if (nI 0) < (if (nI 400) < v1 then (nI 400) else v1) then (if (nI 400) < v1 then (nI 400) else v1) else (nI 0))) 2 2 (nI 0)) 2 6 (nI 0)) 2 7 (-(nI 1)))) : Con mX6_begin d 0 0 [.inr (.inr 2), .inl v1] h Q := by
  refine Con.intro rfl (Nat.le_of_ble_eq_true rfl) ?_
  show J mX6_begin d 0 0 Q 0 0 0 [some (.inr (.inr 2)), some (.inl v1)] [] h
  refine bX6_begin_0  (by omega) ?_
  refine bX6_begin_9  (by omega) ?_
  exact bX6_begin_12 hr (K0)

set_option maxRecDepth 20000 in
theorem t_X6_advanceTo {d d1' : Nat} {Q : Option MV → MH → Prop} {h : MH} {v1 v2 : Int32} (hr : zRf h) (hd1' : d1' + 1 ≤ d) (K0 : Con mX6_advance d1' 0 0 [.inr (.inr 2)] h (zrv fun h' => J mX6_advanceTo d 0 0 Q 0 0 4 [some (.inr (.inr 2)), some (.inl v1), some (.inl v2)] [] h')) : Con mX6_advanceTo d 0 0 [.inr (.inr 2), .inl v1, .inl v2] h Q := by
  refine Con.intro rfl (Nat.le_of_ble_eq_true rfl) ?_
  show J mX6_advanceTo d 0 0 Q 0 0 0 [some (.inr (.inr 2)), some (.inl v1), some (.inl v2)] [] h
  exact bX6_advanceTo_0 hr hd1' (K0)

set_option maxRecDepth 20000 in
theorem t_X6_advanceTo_4 {d  : Nat} {Q : Option MV → MH → Prop} {h : MH} {v1 v2 : Int32} (hr : zRf h) (hd : 2 ≤ d) (K0 : (h.1 2 3) = (nI 2) → (h.1 2 5) < v1 → ¬ (h.1 2 3) = (nI 4) → Q (some (.inl (nI 0))) (zsI (zsI h 2 6 (nI 3)) 2 7 ((zsI h 2 6 (nI 3)).1 2 4))) (K1 : (h.1 2 3) = (nI 2) → (h.1 2 5) < v1 → (h.1 2 3) = (nI 4) → Q (some (.inl (nI 0))) (zsI (zsI h 2 6 (nI 1)) 2 7 ((zsI h 2 6 (nI 1)).1 2 4))) (K2 : (h.1 2 3) = (nI 2) → ¬ (h.1 2 5) < v1 → (h.1 2 5) ≤ v2 → Q (some (.inl (nI 1))) h) (K3 : (h.1 2 3) = (nI 2) → ¬ (h.1 2 5) < v1 → ¬ (h.1 2 5) ≤ v2 → ¬ (h.1 2 3) = (nI 4) → Q (some (.inl (nI 0))) (zsI (zsI h 2 6 (nI 3)) 2 7 ((zsI h 2 6 (nI 3)).1 2 4))) (K4 : (h.1 2 3) = (nI 2) → ¬ (h.1 2 5) < v1 → ¬ (h.1 2 5) ≤ v2 → (h.1 2 3) = (nI 4) → Q (some (.inl (nI 0))) (zsI (zsI h 2 6 (nI 1)) 2 7 ((zsI h 2 6 (nI 1)).1 2 4))) (K5 : ¬ (h.1 2 3) = (nI 2) → ¬ (h.1 2 3) = (nI 4) → Q (some (.inl (nI 0))) (zsI (zsI h 2 6 (nI 2)) 2 7 ((zsI h 2 6 (nI 2)).1 2 4))) (K6 : ¬ (h.1 2 3) = (nI 2) → (h.1 2 3) = (nI 4) → Q (some (.inl (nI 0))) (zsI (zsI h 2 6 (nI 1)) 2 7 ((zsI h 2 6 (nI 1)).1 2 4))) : J mX6_advanceTo d 0 0 Q 0 0 4 [some (.inr (.inr 2)), some (.inl v1), some (.inl v2)] [] h := by
  refine bX6_advanceTo_4 (d' := 1) hr (by omega) ?_
  refine t_X6_isNumber hr (Nat.le_refl _) ?_ ?_ ?_ ?_ ?_ ?_ ?_
  · intro p1 p2 p3
    exact bX6_advanceTo_10 (by decide) (K0 p1 p2 p3)
  · intro p4 p5 p6
    exact bX6_advanceTo_10 (by decide) (K1 p4 p5 p6)
  · intro p7 p8 p9
    exact bX6_advanceTo_10 (by decide) (K2 p7 p8 p9)
  · intro p10 p11 p12 p13
    exact bX6_advanceTo_10 (by decide) (K3 p10 p11 p12 p13)
  · intro p14 p15 p16 p17
    exact bX6_advanceTo_10 (by decide) (K4 p14 p15 p16 p17)
  · intro p18 p19
    exact bX6_advanceTo_10 (by decide) (K5 p18 p19)
  · intro p20 p21
    exact bX6_advanceTo_10 (by decide) (K6 p20 p21)

set_option maxRecDepth 20000 in
theorem t_X6_isWord {d d1' : Nat} {Q : Option MV → MH → Prop} {h : MH} {v1 : Nat} (hr : zRf h) (hd1' : d1' + 1 ≤ d) (G0 : (h.1 2 3) = (nI 1) → ∃ j, v1 = 1000 + j ∧ j < 12) (K0 : ¬ (h.1 2 3) = (nI 1) → Q (some (.inl (nI 0))) h) (K1 : (h.1 2 3) = (nI 1) → Con mJ0_length_8abf5 d1' 0 0 [.inr (.inr v1)] h (zri fun (x : Int32) h' => J mX6_isWord d 0 0 Q 0 0 21 [some (.inr (.inr 2)), some (.inr (.inr v1)), none] [.inl x, .inl ((h.1 2 2) - (h.1 2 4))] h')) : Con mX6_isWord d 0 0 [.inr (.inr 2), .inr (.inr v1)] h Q := by
  refine Con.intro rfl (Nat.le_of_ble_eq_true rfl) ?_
  show J mX6_isWord d 0 0 Q 0 0 0 [some (.inr (.inr 2)), some (.inr (.inr v1)), none] [] h
  refine bX6_isWord_0 hr (fun p1 => ?_) (fun p1 => ?_)
  · exact bX6_isWord_24  (K0 p1)
  · exact bX6_isWord_8 hr (G0 p1) hd1' (K1 p1)

set_option maxRecDepth 20000 in
theorem t_X6_isWord_21 {d  : Nat} {Q : Option MV → MH → Prop} {h : MH} {vs0 vs1 : Int32} {v1 : Nat} (K0 : vs0 = vs1 → J mX6_isWord d 0 0 Q 0 0 28 [some (.inr (.inr 2)), some (.inr (.inr v1)), some (.inl (nI 0))] [] h) (K1 : ¬ vs0 = vs1 → Q (some (.inl (nI 0))) h) : J mX6_isWord d 0 0 Q 0 0 21 [some (.inr (.inr 2)), some (.inr (.inr v1)), none] [.inl vs1, .inl vs0] h := by
  refine bX6_isWord_21  (fun p1 => ?_) (fun p1 => ?_)
  · refine bX6_isWord_26  ?_
    exact K0 p1
  · exact bX6_isWord_24  (K1 p1)

set_option maxRecDepth 20000 in
theorem t_X6_isWord_28 {d d1' : Nat} {Q : Option MV → MH → Prop} {h : MH} {v2 : Int32} {v1 : Nat} (hd1' : d1' + 1 ≤ d) (G0 : ∃ j, v1 = 1000 + j ∧ j < 12) (K0 : Con mJ0_length_8abf5 d1' 0 0 [.inr (.inr v1)] h (zri fun (x : Int32) h' => J mX6_isWord d 0 0 Q 0 0 33 [some (.inr (.inr 2)), some (.inr (.inr v1)), some (.inl v2)] [.inl x, .inl v2] h')) : J mX6_isWord d 0 0 Q 0 0 28 [some (.inr (.inr 2)), some (.inr (.inr v1)), some (.inl v2)] [] h := by
  exact bX6_isWord_28 (G0) hd1' (K0)

set_option maxRecDepth 20000 in
theorem t_X6_isWord_33 {d d1' : Nat} {Q : Option MV → MH → Prop} {h : MH} {v2 vs0 vs1 : Int32} {v1 : Nat} (hr : zRf h) (hd1' : d1' + 1 ≤ d) (G0 : ¬ vs1 ≤ vs0 → vp_in ((h.1 2 4) + v2) 400) (G1 : ¬ vs1 ≤ vs0 → ∃ j, v1 = 1000 + j ∧ j < 12) (K0 : vs1 ≤ vs0 → Q (some (.inl (nI 1))) h) (K1 : ¬ vs1 ≤ vs0 → Con mJ0_charAt_5068e d1' 0 0 [.inr (.inr v1), .inl v2] h (zri fun (x : Int32) h' => J mX6_isWord d 0 0 Q 0 0 52 [some (.inr (.inr 2)), some (.inr (.inr v1)), some (.inl v2)] [.inl x, .inl (h.1 3 ((h.1 2 4) + v2).toNatClampNeg)] h')) : J mX6_isWord d 0 0 Q 0 0 33 [some (.inr (.inr 2)), some (.inr (.inr v1)), some (.inl v2)] [.inl vs1, .inl vs0] h := by
  refine bX6_isWord_33  (fun p1 => ?_) (fun p1 => ?_)
  · exact bX6_isWord_63  (K0 p1)
  · exact bX6_isWord_36 hr (G0 p1) (G1 p1) hd1' (K1 p1)

set_option maxRecDepth 20000 in
theorem t_X6_isWord_52 {d  : Nat} {Q : Option MV → MH → Prop} {h : MH} {v2 vs0 vs1 : Int32} {v1 : Nat} (K0 : vs0 = vs1 → J mX6_isWord d 0 0 Q 0 0 28 [some (.inr (.inr 2)), some (.inr (.inr v1)), some (.inl (v2 + nI 1))] [] h) (K1 : ¬ vs0 = vs1 → Q (some (.inl (nI 0))) h) : J mX6_isWord d 0 0 Q 0 0 52 [some (.inr (.inr 2)), some (.inr (.inr v1)), some (.inl v2)] [.inl vs1, .inl vs0] h := by
  refine bX6_isWord_52  (fun p1 => ?_) (fun p1 => ?_)
  · refine bX6_isWord_57  ?_
    exact K0 p1
  · exact bX6_isWord_55  (K1 p1)

set_option maxRecDepth 20000 in
theorem t_X6_advance {d  : Nat} {Q : Option MV → MH → Prop} {h : MH} (hr : zRf h) (G0 : ¬ (h.1 2 1) ≤ (h.1 2 2) → vp_in (h.1 2 2) 400) (K0 : (h.1 2 1) ≤ (h.1 2 2) → J mX6_advance d 0 0 Q 0 0 52 [some (.inr (.inr 2))] [] h) (K1 : ¬ (h.1 2 1) ≤ (h.1 2 2) → (h.1 3 (h.1 2 2).toNatClampNeg) = (nI 32) → J mX6_advance d 0 0 Q 0 0 39 [some (.inr (.inr 2))] [] h) (K2 : ¬ (h.1 2 1) ≤ (h.1 2 2) → ¬ (h.1 3 (h.1 2 2).toNatClampNeg) = (nI 32) → ¬ (h.1 3 (h.1 2 2).toNatClampNeg) = (nI 10) → J mX6_advance d 0 0 Q 0 0 52 [some (.inr (.inr 2))] [] h) (K3 : ¬ (h.1 2 1) ≤ (h.1 2 2) → ¬ (h.1 3 (h.1 2 2).toNatClampNeg) = (nI 32) → (h.1 3 (h.1 2 2).toNatClampNeg) = (nI 10) → J mX6_advance d 0 0 Q 0 0 39 [some (.inr (.inr 2))] [] h) : Con mX6_advance d 0 0 [.inr (.inr 2)] h Q := by
  refine Con.intro rfl (Nat.le_of_ble_eq_true rfl) ?_
  show J mX6_advance d 0 0 Q 0 0 0 [some (.inr (.inr 2))] [] h
  refine bX6_advance_0 hr (fun p1 => ?_) (fun p1 => ?_)
  · exact K0 p1
  · refine bX6_advance_11 hr (G0 p1) (fun p2 => ?_) (fun p2 => ?_)
    · exact K1 p1 p2
    · refine bX6_advance_25 hr (G0 p1) (fun p3 => ?_) (fun p3 => ?_)
      · exact K2 p1 p2 p3
      · exact K3 p1 p2 p3

set_option maxRecDepth 20000 in
theorem t_X6_advance_39 {d  : Nat} {Q : Option MV → MH → Prop} {h : MH} (hr : zRf h) (K0 : J mX6_advance d 0 0 Q 0 0 0 [some (.inr (.inr 2))] [] (zsI h 2 2 ((h.1 2 2) + (nI 1)))) : J mX6_advance d 0 0 Q 0 0 39 [some (.inr (.inr 2))] [] h := by
  refine bX6_advance_39 hr ?_
  exact K0

set_option maxRecDepth 20000 in
theorem t_X6_advance_52 {d d1' d2' : Nat} {Q : Option MV → MH → Prop} {h : MH} (hr : zRf h) (hd : 1 ≤ d) (hd1' : d1' + 1 ≤ d) (hd2' : d2' + 1 ≤ d) (G0 : ((zsI h 2 4 (h.1 2 2)).1 2 2) < ((zsI h 2 4 (h.1 2 2)).1 2 1) → vp_in ((zsI h 2 4 (h.1 2 2)).1 2 2) 400) (K0 : ((zsI h 2 4 (h.1 2 2)).1 2 2) < ((zsI h 2 4 (h.1 2 2)).1 2 1) → ((zsI h 2 4 (h.1 2 2)).1 3 ((zsI h 2 4 (h.1 2 2)).1 2 2).toNatClampNeg) < (nI 97) → ((zsI h 2 4 (h.1 2 2)).1 3 ((zsI h 2 4 (h.1 2 2)).1 2 2).toNatClampNeg) < (nI 48) → ¬ ((zsI h 2 4 (h.1 2 2)).1 3 ((zsI h 2 4 (h.1 2 2)).1 2 2).toNatClampNeg) = (nI 59) → J mX6_advance d 0 0 Q 0 0 193 [some (.inr (.inr 2))] [] (zsI (zsI (zsI h 2 4 (h.1 2 2)) 2 3 (nI 4)) 2 2 (((zsI (zsI h 2 4 (h.1 2 2)) 2 3 (nI 4)).1 2 2) + (nI 1)))) (K1 : ((zsI h 2 4 (h.1 2 2)).1 2 2) < ((zsI h 2 4 (h.1 2 2)).1 2 1) → ((zsI h 2 4 (h.1 2 2)).1 3 ((zsI h 2 4 (h.1 2 2)).1 2 2).toNatClampNeg) < (nI 97) → ((zsI h 2 4 (h.1 2 2)).1 3 ((zsI h 2 4 (h.1 2 2)).1 2 2).toNatClampNeg) < (nI 48) → ((zsI h 2 4 (h.1 2 2)).1 3 ((zsI h 2 4 (h.1 2 2)).1 2 2).toNatClampNeg) = (nI 59) → J mX6_advance d 0 0 Q 0 0 193 [some (.inr (.inr 2))] [] (zsI (zsI (zsI h 2 4 (h.1 2 2)) 2 3 (nI 3)) 2 2 (((zsI (zsI h 2 4 (h.1 2 2)) 2 3 (nI 3)).1 2 2) + (nI 1)))) (K2 : ((zsI h 2 4 (h.1 2 2)).1 2 2) < ((zsI h 2 4 (h.1 2 2)).1 2 1) → ((zsI h 2 4 (h.1 2 2)).1 3 ((zsI h 2 4 (h.1 2 2)).1 2 2).toNatClampNeg) < (nI 97) → ¬ ((zsI h 2 4 (h.1 2 2)).1 3 ((zsI h 2 4 (h.1 2 2)).1 2 2).toNatClampNeg) < (nI 48) → (nI 57) < ((zsI h 2 4 (h.1 2 2)).1 3 ((zsI h 2 4 (h.1 2 2)).1 2 2).toNatClampNeg) → ¬ ((zsI h 2 4 (h.1 2 2)).1 3 ((zsI h 2 4 (h.1 2 2)).1 2 2).toNatClampNeg) = (nI 59) → J mX6_advance d 0 0 Q 0 0 193 [some (.inr (.inr 2))] [] (zsI (zsI (zsI h 2 4 (h.1 2 2)) 2 3 (nI 4)) 2 2 (((zsI (zsI h 2 4 (h.1 2 2)) 2 3 (nI 4)).1 2 2) + (nI 1)))) (K3 : ((zsI h 2 4 (h.1 2 2)).1 2 2) < ((zsI h 2 4 (h.1 2 2)).1 2 1) → ((zsI h 2 4 (h.1 2 2)).1 3 ((zsI h 2 4 (h.1 2 2)).1 2 2).toNatClampNeg) < (nI 97) → ¬ ((zsI h 2 4 (h.1 2 2)).1 3 ((zsI h 2 4 (h.1 2 2)).1 2 2).toNatClampNeg) < (nI 48) → (nI 57) < ((zsI h 2 4 (h.1 2 2)).1 3 ((zsI h 2 4 (h.1 2 2)).1 2 2).toNatClampNeg) → ((zsI h 2 4 (h.1 2 2)).1 3 ((zsI h 2 4 (h.1 2 2)).1 2 2).toNatClampNeg) = (nI 59) → J mX6_advance d 0 0 Q 0 0 193 [some (.inr (.inr 2))] [] (zsI (zsI (zsI h 2 4 (h.1 2 2)) 2 3 (nI 3)) 2 2 (((zsI (zsI h 2 4 (h.1 2 2)) 2 3 (nI 3)).1 2 2) + (nI 1)))) (K4 : ((zsI h 2 4 (h.1 2 2)).1 2 2) < ((zsI h 2 4 (h.1 2 2)).1 2 1) → ((zsI h 2 4 (h.1 2 2)).1 3 ((zsI h 2 4 (h.1 2 2)).1 2 2).toNatClampNeg) < (nI 97) → ¬ ((zsI h 2 4 (h.1 2 2)).1 3 ((zsI h 2 4 (h.1 2 2)).1 2 2).toNatClampNeg) < (nI 48) → ¬ (nI 57) < ((zsI h 2 4 (h.1 2 2)).1 3 ((zsI h 2 4 (h.1 2 2)).1 2 2).toNatClampNeg) → Con mX6_advanceDigits d1' 0 0 [.inr (.inr 2)] (zsI h 2 4 (h.1 2 2)) (zrv fun h' => J mX6_advance d 0 0 Q 0 0 157 [some (.inr (.inr 2))] [] h')) (K5 : ((zsI h 2 4 (h.1 2 2)).1 2 2) < ((zsI h 2 4 (h.1 2 2)).1 2 1) → ¬ ((zsI h 2 4 (h.1 2 2)).1 3 ((zsI h 2 4 (h.1 2 2)).1 2 2).toNatClampNeg) < (nI 97) → (nI 122) < ((zsI h 2 4 (h.1 2 2)).1 3 ((zsI h 2 4 (h.1 2 2)).1 2 2).toNatClampNeg) → ((zsI h 2 4 (h.1 2 2)).1 3 ((zsI h 2 4 (h.1 2 2)).1 2 2).toNatClampNeg) < (nI 48) → ¬ ((zsI h 2 4 (h.1 2 2)).1 3 ((zsI h 2 4 (h.1 2 2)).1 2 2).toNatClampNeg) = (nI 59) → J mX6_advance d 0 0 Q 0 0 193 [some (.inr (.inr 2))] [] (zsI (zsI (zsI h 2 4 (h.1 2 2)) 2 3 (nI 4)) 2 2 (((zsI (zsI h 2 4 (h.1 2 2)) 2 3 (nI 4)).1 2 2) + (nI 1)))) (K6 : ((zsI h 2 4 (h.1 2 2)).1 2 2) < ((zsI h 2 4 (h.1 2 2)).1 2 1) → ¬ ((zsI h 2 4 (h.1 2 2)).1 3 ((zsI h 2 4 (h.1 2 2)).1 2 2).toNatClampNeg) < (nI 97) → (nI 122) < ((zsI h 2 4 (h.1 2 2)).1 3 ((zsI h 2 4 (h.1 2 2)).1 2 2).toNatClampNeg) → ((zsI h 2 4 (h.1 2 2)).1 3 ((zsI h 2 4 (h.1 2 2)).1 2 2).toNatClampNeg) < (nI 48) → ((zsI h 2 4 (h.1 2 2)).1 3 ((zsI h 2 4 (h.1 2 2)).1 2 2).toNatClampNeg) = (nI 59) → J mX6_advance d 0 0 Q 0 0 193 [some (.inr (.inr 2))] [] (zsI (zsI (zsI h 2 4 (h.1 2 2)) 2 3 (nI 3)) 2 2 (((zsI (zsI h 2 4 (h.1 2 2)) 2 3 (nI 3)).1 2 2) + (nI 1)))) (K7 : ((zsI h 2 4 (h.1 2 2)).1 2 2) < ((zsI h 2 4 (h.1 2 2)).1 2 1) → ¬ ((zsI h 2 4 (h.1 2 2)).1 3 ((zsI h 2 4 (h.1 2 2)).1 2 2).toNatClampNeg) < (nI 97) → (nI 122) < ((zsI h 2 4 (h.1 2 2)).1 3 ((zsI h 2 4 (h.1 2 2)).1 2 2).toNatClampNeg) → ¬ ((zsI h 2 4 (h.1 2 2)).1 3 ((zsI h 2 4 (h.1 2 2)).1 2 2).toNatClampNeg) < (nI 48) → (nI 57) < ((zsI h 2 4 (h.1 2 2)).1 3 ((zsI h 2 4 (h.1 2 2)).1 2 2).toNatClampNeg) → ¬ ((zsI h 2 4 (h.1 2 2)).1 3 ((zsI h 2 4 (h.1 2 2)).1 2 2).toNatClampNeg) = (nI 59) → J mX6_advance d 0 0 Q 0 0 193 [some (.inr (.inr 2))] [] (zsI (zsI (zsI h 2 4 (h.1 2 2)) 2 3 (nI 4)) 2 2 (((zsI (zsI h 2 4 (h.1 2 2)) 2 3 (nI 4)).1 2 2) + (nI 1)))) (K8 : ((zsI h 2 4 (h.1 2 2)).1 2 2) < ((zsI h 2 4 (h.1 2 2)).1 2 1) → ¬ ((zsI h 2 4 (h.1 2 2)).1 3 ((zsI h 2 4 (h.1 2 2)).1 2 2).toNatClampNeg) < (nI 97) → (nI 122) < ((zsI h 2 4 (h.1 2 2)).1 3 ((zsI h 2 4 (h.1 2 2)).1 2 2).toNatClampNeg) → ¬ ((zsI h 2 4 (h.1 2 2)).1 3 ((zsI h 2 4 (h.1 2 2)).1 2 2).toNatClampNeg) < (nI 48) → (nI 57) < ((zsI h 2 4 (h.1 2 2)).1 3 ((zsI h 2 4 (h.1 2 2)).1 2 2).toNatClampNeg) → ((zsI h 2 4 (h.1 2 2)).1 3 ((zsI h 2 4 (h.1 2 2)).1 2 2).toNatClampNeg) = (nI 59) → J mX6_advance d 0 0 Q 0 0 193 [some (.inr (.inr 2))] [] (zsI (zsI (zsI h 2 4 (h.1 2 2)) 2 3 (nI 3)) 2 2 (((zsI (zsI h 2 4 (h.1 2 2)) 2 3 (nI 3)).1 2 2) + (nI 1)))) (K9 : ((zsI h 2 4 (h.1 2 2)).1 2 2) < ((zsI h 2 4 (h.1 2 2)).1 2 1) → ¬ ((zsI h 2 4 (h.1 2 2)).1 3 ((zsI h 2 4 (h.1 2 2)).1 2 2).toNatClampNeg) < (nI 97) → (nI 122) < ((zsI h 2 4 (h.1 2 2)).1 3 ((zsI h 2 4 (h.1 2 2)).1 2 2).toNatClampNeg) → ¬ ((zsI h 2 4 (h.1 2 2)).1 3 ((zsI h 2 4 (h.1 2 2)).1 2 2).toNatClampNeg) < (nI 48) → ¬ (nI 57) < ((zsI h 2 4 (h.1 2 2)).1 3 ((zsI h 2 4 (h.1 2 2)).1 2 2).toNatClampNeg) → Con mX6_advanceDigits d2' 0 0 [.inr (.inr 2)] (zsI h 2 4 (h.1 2 2)) (zrv fun h' => J mX6_advance d 0 0 Q 0 0 157 [some (.inr (.inr 2))] [] h')) (K10 : ((zsI h 2 4 (h.1 2 2)).1 2 2) < ((zsI h 2 4 (h.1 2 2)).1 2 1) → ¬ ((zsI h 2 4 (h.1 2 2)).1 3 ((zsI h 2 4 (h.1 2 2)).1 2 2).toNatClampNeg) < (nI 97) → ¬ (nI 122) < ((zsI h 2 4 (h.1 2 2)).1 3 ((zsI h 2 4 (h.1 2 2)).1 2 2).toNatClampNeg) → J mX6_advance d 0 0 Q 0 0 99 [some (.inr (.inr 2))] [] (zsI (zsI h 2 4 (h.1 2 2)) 2 3 (nI 1))) (K11 : ¬ ((zsI h 2 4 (h.1 2 2)).1 2 2) < ((zsI h 2 4 (h.1 2 2)).1 2 1) → J mX6_advance d 0 0 Q 0 0 193 [some (.inr (.inr 2))] [] (zsI (zsI h 2 4 (h.1 2 2)) 2 3 (nI 0))) : J mX6_advance d 0 0 Q 0 0 52 [some (.inr (.inr 2))] [] h := by
  refine bX6_advance_52 hr (fun p1 => ?_) (fun p1 => ?_)
  · refine bX6_advance_79 (d' := 0) hr (G0 p1) (by omega) ?_
    refine t_X6_isLetter  ?_ ?_ ?_
    · intro p2
      refine bX6_advance_91  (fun _ => ?_) (fun c => absurd c (by decide))
      refine bX6_advance_138 (d' := 0) hr (G0 p1) (by omega) ?_
      refine t_X6_isDigit  ?_ ?_ ?_
      · intro p7
        refine bX6_advance_150  (fun _ => ?_) (fun c => absurd c (by decide))
        refine bX6_advance_160 hr (G0 p1) (fun p12 => ?_) (fun p12 => ?_)
        · refine bX6_advance_179  ?_
          refine bX6_advance_180 hr ?_
          exact K0 p1 p2 p7 p12
        · refine bX6_advance_175  ?_
          refine bX6_advance_180 hr ?_
          exact K1 p1 p2 p7 p12
      · intro p8 p9
        refine bX6_advance_150  (fun _ => ?_) (fun c => absurd c (by decide))
        refine bX6_advance_160 hr (G0 p1) (fun p13 => ?_) (fun p13 => ?_)
        · refine bX6_advance_179  ?_
          refine bX6_advance_180 hr ?_
          exact K2 p1 p2 p8 p9 p13
        · refine bX6_advance_175  ?_
          refine bX6_advance_180 hr ?_
          exact K3 p1 p2 p8 p9 p13
      · intro p10 p11
        refine bX6_advance_150  (fun c => absurd c (by decide)) (fun _ => ?_)
        exact bX6_advance_153 hr hd1' (K4 p1 p2 p10 p11)
    · intro p3 p4
      refine bX6_advance_91  (fun _ => ?_) (fun c => absurd c (by decide))
      refine bX6_advance_138 (d' := 0) hr (G0 p1) (by omega) ?_
      refine t_X6_isDigit  ?_ ?_ ?_
      · intro p14
        refine bX6_advance_150  (fun _ => ?_) (fun c => absurd c (by decide))
        refine bX6_advance_160 hr (G0 p1) (fun p19 => ?_) (fun p19 => ?_)
        · refine bX6_advance_179  ?_
          refine bX6_advance_180 hr ?_
          exact K5 p1 p3 p4 p14 p19
        · refine bX6_advance_175  ?_
          refine bX6_advance_180 hr ?_
          exact K6 p1 p3 p4 p14 p19
      · intro p15 p16
        refine bX6_advance_150  (fun _ => ?_) (fun c => absurd c (by decide))
        refine bX6_advance_160 hr (G0 p1) (fun p20 => ?_) (fun p20 => ?_)
        · refine bX6_advance_179  ?_
          refine bX6_advance_180 hr ?_
          exact K7 p1 p3 p4 p15 p16 p20
        · refine bX6_advance_175  ?_
          refine bX6_advance_180 hr ?_
          exact K8 p1 p3 p4 p15 p16 p20
      · intro p17 p18
        refine bX6_advance_150  (fun c => absurd c (by decide)) (fun _ => ?_)
        exact bX6_advance_153 hr hd2' (K9 p1 p3 p4 p17 p18)
    · intro p5 p6
      refine bX6_advance_91  (fun c => absurd c (by decide)) (fun _ => ?_)
      refine bX6_advance_94 hr ?_
      exact K10 p1 p5 p6
  · refine bX6_advance_71 hr ?_
    exact K11 p1

set_option maxRecDepth 20000 in
theorem t_X6_advance_99 {d  : Nat} {Q : Option MV → MH → Prop} {h : MH} (hr : zRf h) (hd : 1 ≤ d) (G0 : ¬ (h.1 2 1) ≤ (h.1 2 2) → vp_in (h.1 2 2) 400) (K0 : (h.1 2 1) ≤ (h.1 2 2) → J mX6_advance d 0 0 Q 0 0 193 [some (.inr (.inr 2))] [] h) (K1 : ¬ (h.1 2 1) ≤ (h.1 2 2) → (h.1 3 (h.1 2 2).toNatClampNeg) < (nI 97) → J mX6_advance d 0 0 Q 0 0 193 [some (.inr (.inr 2))] [] h) (K2 : ¬ (h.1 2 1) ≤ (h.1 2 2) → ¬ (h.1 3 (h.1 2 2).toNatClampNeg) < (nI 97) → (nI 122) < (h.1 3 (h.1 2 2).toNatClampNeg) → J mX6_advance d 0 0 Q 0 0 193 [some (.inr (.inr 2))] [] h) (K3 : ¬ (h.1 2 1) ≤ (h.1 2 2) → ¬ (h.1 3 (h.1 2 2).toNatClampNeg) < (nI 97) → ¬ (nI 122) < (h.1 3 (h.1 2 2).toNatClampNeg) → J mX6_advance d 0 0 Q 0 0 99 [some (.inr (.inr 2))] [] (zsI h 2 2 ((h.1 2 2) + (nI 1)))) : J mX6_advance d 0 0 Q 0 0 99 [some (.inr (.inr 2))] [] h := by
  refine bX6_advance_99 hr (fun p1 => ?_) (fun p1 => ?_)
  · exact K0 p1
  · refine bX6_advance_110 (d' := 0) hr (G0 p1) (by omega) ?_
    refine t_X6_isLetter  ?_ ?_ ?_
    · intro p2
      refine bX6_advance_122  (fun _ => ?_) (fun c => absurd c (by decide))
      exact K1 p1 p2
    · intro p3 p4
      refine bX6_advance_122  (fun _ => ?_) (fun c => absurd c (by decide))
      exact K2 p1 p3 p4
    · intro p5 p6
      refine bX6_advance_122  (fun c => absurd c (by decide)) (fun _ => ?_)
      refine bX6_advance_125 hr ?_
      exact K3 p1 p5 p6

set_option maxRecDepth 20000 in
theorem t_X6_advance_157 {d  : Nat} {Q : Option MV → MH → Prop} {h : MH} (K0 : J mX6_advance d 0 0 Q 0 0 193 [some (.inr (.inr 2))] [] h) : J mX6_advance d 0 0 Q 0 0 157 [some (.inr (.inr 2))] [] h := by
  refine bX6_advance_157  ?_
  exact K0

set_option maxRecDepth 20000 in
theorem t_X6_advance_193 {d  : Nat} {Q : Option MV → MH → Prop} {h : MH} (K0 : Q none h) : J mX6_advance d 0 0 Q 0 0 193 [some (.inr (.inr 2))] [] h := by
  exact bX6_advance_193  (K0)

set_option maxRecDepth 20000 in
theorem t_X6_advanceDigits {d  : Nat} {Q : Option MV → MH → Prop} {h : MH} (hr : zRf h) (K0 : J mX6_advanceDigits d 0 0 Q 0 0 5 [some (.inr (.inr 2))] [] (zsI h 2 5 (nI 0))) : Con mX6_advanceDigits d 0 0 [.inr (.inr 2)] h Q := by
  refine Con.intro rfl (Nat.le_of_ble_eq_true rfl) ?_
  show J mX6_advanceDigits d 0 0 Q 0 0 0 [some (.inr (.inr 2))] [] h
  refine bX6_advanceDigits_0 hr ?_
  exact K0

set_option maxRecDepth 20000 in
theorem t_X6_advanceDigits_5 {d  : Nat} {Q : Option MV → MH → Prop} {h : MH} (hr : zRf h) (hd : 1 ≤ d) (G0 : ¬ (h.1 2 1) ≤ (h.1 2 2) → vp_in (h.1 2 2) 400) (K0 : (h.1 2 1) ≤ (h.1 2 2) → ((h.1 2 2) - (h.1 2 4)) ≤ (nI 3) → Q none (zsI h 2 3 (nI 2))) (K1 : (h.1 2 1) ≤ (h.1 2 2) → ¬ ((h.1 2 2) - (h.1 2 4)) ≤ (nI 3) → Q none (zsI h 2 3 (nI 4))) (K2 : ¬ (h.1 2 1) ≤ (h.1 2 2) → (h.1 3 (h.1 2 2).toNatClampNeg) < (nI 48) → ((h.1 2 2) - (h.1 2 4)) ≤ (nI 3) → Q none (zsI h 2 3 (nI 2))) (K3 : ¬ (h.1 2 1) ≤ (h.1 2 2) → (h.1 3 (h.1 2 2).toNatClampNeg) < (nI 48) → ¬ ((h.1 2 2) - (h.1 2 4)) ≤ (nI 3) → Q none (zsI h 2 3 (nI 4))) (K4 : ¬ (h.1 2 1) ≤ (h.1 2 2) → ¬ (h.1 3 (h.1 2 2).toNatClampNeg) < (nI 48) → (nI 57) < (h.1 3 (h.1 2 2).toNatClampNeg) → ((h.1 2 2) - (h.1 2 4)) ≤ (nI 3) → Q none (zsI h 2 3 (nI 2))) (K5 : ¬ (h.1 2 1) ≤ (h.1 2 2) → ¬ (h.1 3 (h.1 2 2).toNatClampNeg) < (nI 48) → (nI 57) < (h.1 3 (h.1 2 2).toNatClampNeg) → ¬ ((h.1 2 2) - (h.1 2 4)) ≤ (nI 3) → Q none (zsI h 2 3 (nI 4))) (K6 : ¬ (h.1 2 1) ≤ (h.1 2 2) → ¬ (h.1 3 (h.1 2 2).toNatClampNeg) < (nI 48) → ¬ (nI 57) < (h.1 3 (h.1 2 2).toNatClampNeg) → (nI 3) ≤ ((h.1 2 2) - (h.1 2 4)) → J mX6_advanceDigits d 0 0 Q 0 0 5 [some (.inr (.inr 2))] [] (zsI h 2 2 ((h.1 2 2) + (nI 1)))) (K7 : ¬ (h.1 2 1) ≤ (h.1 2 2) → ¬ (h.1 3 (h.1 2 2).toNatClampNeg) < (nI 48) → ¬ (nI 57) < (h.1 3 (h.1 2 2).toNatClampNeg) → ¬ (nI 3) ≤ ((h.1 2 2) - (h.1 2 4)) → J mX6_advanceDigits d 0 0 Q 0 0 5 [some (.inr (.inr 2))] [] (zsI (zsI h 2 5 ((((h.1 2 5) * (nI 10)) + (h.1 3 (h.1 2 2).toNatClampNeg)) - (nI 48))) 2 2 (((zsI h 2 5 ((((h.1 2 5) * (nI 10)) + (h.1 3 (h.1 2 2).toNatClampNeg)) - (nI 48))).1 2 2) + (nI 1)))) : J mX6_advanceDigits d 0 0 Q 0 0 5 [some (.inr (.inr 2))] [] h := by
  refine bX6_advanceDigits_5 hr (fun p1 => ?_) (fun p1 => ?_)
  · refine bX6_advanceDigits_81 hr (fun p2 => ?_) (fun p2 => ?_)
    · refine bX6_advanceDigits_99  ?_
      exact bX6_advanceDigits_100 hr (K0 p1 p2)
    · refine bX6_advanceDigits_95  ?_
      exact bX6_advanceDigits_100 hr (K1 p1 p2)
  · refine bX6_advanceDigits_16 (d' := 0) hr (G0 p1) (by omega) ?_
    refine t_X6_isDigit  ?_ ?_ ?_
    · intro p3
      refine bX6_advanceDigits_28  (fun _ => ?_) (fun c => absurd c (by decide))
      refine bX6_advanceDigits_81 hr (fun p8 => ?_) (fun p8 => ?_)
      · refine bX6_advanceDigits_99  ?_
        exact bX6_advanceDigits_100 hr (K2 p1 p3 p8)
      · refine bX6_advanceDigits_95  ?_
        exact bX6_advanceDigits_100 hr (K3 p1 p3 p8)
    · intro p4 p5
      refine bX6_advanceDigits_28  (fun _ => ?_) (fun c => absurd c (by decide))
      refine bX6_advanceDigits_81 hr (fun p9 => ?_) (fun p9 => ?_)
      · refine bX6_advanceDigits_99  ?_
        exact bX6_advanceDigits_100 hr (K4 p1 p4 p5 p9)
      · refine bX6_advanceDigits_95  ?_
        exact bX6_advanceDigits_100 hr (K5 p1 p4 p5 p9)
    · intro p6 p7
      refine bX6_advanceDigits_28  (fun c => absurd c (by decide)) (fun _ => ?_)
      refine bX6_advanceDigits_31 hr (fun p10 => ?_) (fun p10 => ?_)
      · refine bX6_advanceDigits_68 hr ?_
        exact K6 p1 p6 p7 p10
      · refine bX6_advanceDigits_44 hr (G0 p1) ?_
        refine bX6_advanceDigits_68 hr ?_
        exact K7 p1 p6 p7 p10
