set_option maxRecDepth 20000 in
theorem t_X10_feed {d d1' : Nat} {Q : Option MV → MH → Prop} {h : MH} {v1 v2 v3 v4 v5 : Int32} (hr : zRf h) (hd1' : d1' + 1 ≤ d) (K0 : ((h.1 1 0) + (nI 20)) ≤ (nI 400) → Con mX10_putBytes d1' 0 0 [.inr (.inr 1), .inl v1] h (zrv fun h' => J mX10_feed d 0 0 Q 0 0 21 [some (.inr (.inr 1)), some (.inl v1), some (.inl v2), some (.inl v3), some (.inl v4), some (.inl v5)] [] h')) (K1 : ¬ ((h.1 1 0) + (nI 20)) ≤ (nI 400) → Q (some (.inl (-(nI 5)))) h) : Con mX10_feed d 0 0 [.inr (.inr 1), .inl v1, .inl v2, .inl v3, .inl v4, .inl v5] h Q := by
  refine Con.intro rfl (Nat.le_of_ble_eq_true rfl) ?_
  show J mX10_feed d 0 0 Q 0 0 0 [some (.inr (.inr 1)), some (.inl v1), some (.inl v2), some (.inl v3), some (.inl v4), some (.inl v5)] [] h
  refine bX10_feed_0 hr (fun p1 => ?_) (fun p1 => ?_)
  · exact bX10_feed_16 hr hd1' (K0 p1)
  · exact bX10_feed_13  (K1 p1)

set_option maxRecDepth 20000 in
theorem t_X10_feed_21 {d d1' : Nat} {Q : Option MV → MH → Prop} {h : MH} {v1 v2 v3 v4 v5 : Int32} (hr : zRf h) (hd1' : d1' + 1 ≤ d) (K0 : Con mX10_putBytes d1' 0 0 [.inr (.inr 1), .inl v2] h (zrv fun h' => J mX10_feed d 0 0 Q 0 0 26 [some (.inr (.inr 1)), some (.inl v1), some (.inl v2), some (.inl v3), some (.inl v4), some (.inl v5)] [] h')) : J mX10_feed d 0 0 Q 0 0 21 [some (.inr (.inr 1)), some (.inl v1), some (.inl v2), some (.inl v3), some (.inl v4), some (.inl v5)] [] h := by
  exact bX10_feed_21 hr hd1' (K0)

set_option maxRecDepth 20000 in
theorem t_X10_feed_26 {d d1' : Nat} {Q : Option MV → MH → Prop} {h : MH} {v1 v2 v3 v4 v5 : Int32} (hr : zRf h) (hd1' : d1' + 1 ≤ d) (K0 : Con mX10_putBytes d1' 0 0 [.inr (.inr 1), .inl v3] h (zrv fun h' => J mX10_feed d 0 0 Q 0 0 31 [some (.inr (.inr 1)), some (.inl v1), some (.inl v2), some (.inl v3), some (.inl v4), some (.inl v5)] [] h')) : J mX10_feed d 0 0 Q 0 0 26 [some (.inr (.inr 1)), some (.inl v1), some (.inl v2), some (.inl v3), some (.inl v4), some (.inl v5)] [] h := by
  exact bX10_feed_26 hr hd1' (K0)

set_option maxRecDepth 20000 in
theorem t_X10_feed_31 {d d1' : Nat} {Q : Option MV → MH → Prop} {h : MH} {v1 v2 v3 v4 v5 : Int32} (hr : zRf h) (hd1' : d1' + 1 ≤ d) (K0 : Con mX10_putBytes d1' 0 0 [.inr (.inr 1), .inl v4] h (zrv fun h' => J mX10_feed d 0 0 Q 0 0 37 [some (.inr (.inr 1)), some (.inl v1), some (.inl v2), some (.inl v3), some (.inl v4), some (.inl v5)] [] h')) : J mX10_feed d 0 0 Q 0 0 31 [some (.inr (.inr 1)), some (.inl v1), some (.inl v2), some (.inl v3), some (.inl v4), some (.inl v5)] [] h := by
  exact bX10_feed_31 hr hd1' (K0)

set_option maxRecDepth 20000 in
theorem t_X10_feed_37 {d d1' : Nat} {Q : Option MV → MH → Prop} {h : MH} {v1 v2 v3 v4 v5 : Int32} (hr : zRf h) (hd1' : d1' + 1 ≤ d) (K0 : Con mX10_putBytes d1' 0 0 [.inr (.inr 1), .inl v5] h (zrv fun h' => J mX10_feed d 0 0 Q 0 0 43 [some (.inr (.inr 1)), some (.inl v1), some (.inl v2), some (.inl v3), some (.inl v4), some (.inl v5)] [] h')) : J mX10_feed d 0 0 Q 0 0 37 [some (.inr (.inr 1)), some (.inl v1), some (.inl v2), some (.inl v3), some (.inl v4), some (.inl v5)] [] h := by
  exact bX10_feed_37 hr hd1' (K0)

set_option maxRecDepth 20000 in
theorem t_X10_feed_43 {d  : Nat} {Q : Option MV → MH → Prop} {h : MH} {v1 v2 v3 v4 v5 : Int32} (hr : zRf h) (K0 : Q (some (.inl (h.1 1 0))) h) : J mX10_feed d 0 0 Q 0 0 43 [some (.inr (.inr 1)), some (.inl v1), some (.inl v2), some (.inl v3), some (.inl v4), some (.inl v5)] [] h := by
  exact bX10_feed_43 hr (K0)

set_option maxRecDepth 20000 in
theorem t_X10_putBytes {d  : Nat} {Q : Option MV → MH → Prop} {h : MH} {v1 : Int32} (K0 : J mX10_putBytes d 0 0 Q 0 0 3 [some (.inr (.inr 1)), some (.inl v1), some (.inl (nI 24))] [] h) : Con mX10_putBytes d 0 0 [.inr (.inr 1), .inl v1] h Q := by
  refine Con.intro rfl (Nat.le_of_ble_eq_true rfl) ?_
  show J mX10_putBytes d 0 0 Q 0 0 0 [some (.inr (.inr 1)), some (.inl v1), none] [] h
  refine bX10_putBytes_0  ?_
  exact K0

set_option maxRecDepth 20000 in
theorem t_X10_putBytes_3 {d  : Nat} {Q : Option MV → MH → Prop} {h : MH} {v1 v2 : Int32} (hr : zRf h) (G0 : ¬ v2 < 0 → ¬ (nI 400) ≤ (h.1 1 0) → vp_in (h.1 1 0) 400) (K0 : v2 < 0 → Q none h) (K1 : ¬ v2 < 0 → (nI 400) ≤ (h.1 1 0) → J mX10_putBytes d 0 0 Q 0 0 3 [some (.inr (.inr 1)), some (.inl v1), some (.inl (v2 + -(nI 8)))] [] h) (K2 : ¬ v2 < 0 → ¬ (nI 400) ≤ (h.1 1 0) → J mX10_putBytes d 0 0 Q 0 0 3 [some (.inr (.inr 1)), some (.inl v1), some (.inl (v2 + -(nI 8)))] [] (zsI (zsI h 3 (h.1 1 0).toNatClampNeg (((v1.toUInt32 >>> (v2.toUInt32 &&& Int32.toUInt32 31)).toInt32) &&& (nI 255))) 1 0 (((zsI h 3 (h.1 1 0).toNatClampNeg (((v1.toUInt32 >>> (v2.toUInt32 &&& Int32.toUInt32 31)).toInt32) &&& (nI 255))).1 1 0) + (nI 1)))) : J mX10_putBytes d 0 0 Q 0 0 3 [some (.inr (.inr 1)), some (.inl v1), some (.inl v2)] [] h := by
  refine bX10_putBytes_3  (fun p1 => ?_) (fun p1 => ?_)
  · exact bX10_putBytes_52  (K0 p1)
  · refine bX10_putBytes_7 hr (fun p2 => ?_) (fun p2 => ?_)
    · refine bX10_putBytes_46  ?_
      exact K1 p1 p2
    · refine bX10_putBytes_17 hr (G0 p1 p2) ?_
      refine bX10_putBytes_46  ?_
      exact K2 p1 p2

set_option maxRecDepth 20000 in
theorem t_X10_cellar {d d1' : Nat} {Q : Option MV → MH → Prop} {h : MH} {v1 : Int32} (hr : zRf h) (hd1' : d1' + 1 ≤ d) (K0 : v1 < 0 → Q (some (.inl (-(nI 3)))) h) (K1 : ¬ v1 < 0 → v1 ≤ (h.1 1 0) → Con mX6_readCellar d1' 0 0 [.inr (.inr 2), .inr (.inr 4), .inl v1] (zsI h 1 0 (nI 0)) (zri fun (x : Int32) h' => J mX10_cellar d 0 0 Q 0 0 32 [some (.inr (.inr 1)), some (.inl v1)] [.inl x] h')) (K2 : ¬ v1 < 0 → ¬ v1 ≤ (h.1 1 0) → Q (some (.inl (-(nI 3)))) h) : Con mX10_cellar d 0 0 [.inr (.inr 1), .inl v1] h Q := by
  refine Con.intro rfl (Nat.le_of_ble_eq_true rfl) ?_
  show J mX10_cellar d 0 0 Q 0 0 0 [some (.inr (.inr 1)), some (.inl v1)] [] h
  refine bX10_cellar_0  (fun p1 => ?_) (fun p1 => ?_)
  · exact bX10_cellar_12  (K0 p1)
  · refine bX10_cellar_4 hr (fun p2 => ?_) (fun p2 => ?_)
    · exact bX10_cellar_15 hr hd1' (K1 p1 p2)
    · exact bX10_cellar_12  (K2 p1 p2)

set_option maxRecDepth 20000 in
theorem t_X10_cellar_32 {d d1' : Nat} {Q : Option MV → MH → Prop} {h : MH} {v1 vs0 : Int32} (hr : zRf h) (hd1' : d1' + 1 ≤ d) (K0 : ¬ vs0 = 0 → Con mX2_takeFrom d1' 0 0 [.inr (.inr 16), .inr (.inr 4)] h (zrv fun h' => J mX10_cellar d 0 0 Q 0 0 60 [some (.inr (.inr 1)), some (.inl v1)] [] h')) (K1 : vs0 = 0 → Q (some (.inl ((-(nI 30)) - (h.1 2 6)))) h) : J mX10_cellar d 0 0 Q 0 0 32 [some (.inr (.inr 1)), some (.inl v1)] [.inl vs0] h := by
  refine bX10_cellar_32  (fun p1 => ?_) (fun p1 => ?_)
  · exact bX10_cellar_46 hr hd1' (K0 p1)
  · exact bX10_cellar_35 hr (K1 p1)

set_option maxRecDepth 20000 in
theorem t_X10_cellar_60 {d d1' : Nat} {Q : Option MV → MH → Prop} {h : MH} {v1 : Int32} (hr : zRf h) (hd1' : d1' + 1 ≤ d) (K0 : Con mX10_forgetCellar d1' 0 0 [.inr (.inr 1)] h (zrv fun h' => J mX10_cellar d 0 0 Q 0 0 64 [some (.inr (.inr 1)), some (.inl v1)] [] h')) : J mX10_cellar d 0 0 Q 0 0 60 [some (.inr (.inr 1)), some (.inl v1)] [] h := by
  exact bX10_cellar_60 hr hd1' (K0)

set_option maxRecDepth 20000 in
theorem t_X10_cellar_64 {d  : Nat} {Q : Option MV → MH → Prop} {h : MH} {v1 : Int32} (hr : zRf h) (K0 : Q (some (.inl (h.1 16 0))) h) : J mX10_cellar d 0 0 Q 0 0 64 [some (.inr (.inr 1)), some (.inl v1)] [] h := by
  exact bX10_cellar_64 hr (K0)

set_option maxRecDepth 20000 in
theorem t_X10_plan {d d1' : Nat} {Q : Option MV → MH → Prop} {h : MH} {v1 v2 : Int32} (hr : zRf h) (hd : 1 ≤ d) (hd1' : d1' + 1 ≤ d) (K0 : v1 < 0 → Q (some (.inl (-(nI 2)))) h) (K1 : ¬ v1 < 0 → (nI 4) ≤ v1 → Q (some (.inl (-(nI 2)))) h) (K2 : ¬ v1 < 0 → ¬ (nI 4) ≤ v1 → v2 < 0 → Q (some (.inl (-(nI 3)))) h) (K3 : ¬ v1 < 0 → ¬ (nI 4) ≤ v1 → ¬ v2 < 0 → v2 ≤ (h.1 1 0) → Con mX6_readPlan d1' 0 0 [.inr (.inr 2), .inr (.inr 9), .inl v2] (zsI h 1 0 (nI 0)) (zri fun (x : Int32) h' => J mX10_plan d 0 0 Q 0 0 42 [some (.inr (.inr 1)), some (.inl v1), some (.inl v2)] [.inl x] h')) (K4 : ¬ v1 < 0 → ¬ (nI 4) ≤ v1 → ¬ v2 < 0 → ¬ v2 ≤ (h.1 1 0) → Q (some (.inl (-(nI 3)))) h) : Con mX10_plan d 0 0 [.inr (.inr 1), .inl v1, .inl v2] h Q := by
  refine Con.intro rfl (Nat.le_of_ble_eq_true rfl) ?_
  show J mX10_plan d 0 0 Q 0 0 0 [some (.inr (.inr 1)), some (.inl v1), some (.inl v2)] [] h
  refine bX10_plan_0 (d' := 0)  (by omega) ?_
  refine t_X10_isPlan  ?_ ?_ ?_
  · intro p1
    refine bX10_plan_4  (fun c => absurd c (by decide)) (fun _ => ?_)
    exact bX10_plan_7  (K0 p1)
  · intro p2 p3
    refine bX10_plan_4  (fun c => absurd c (by decide)) (fun _ => ?_)
    exact bX10_plan_7  (K1 p2 p3)
  · intro p4 p5
    refine bX10_plan_4  (fun _ => ?_) (fun c => absurd c (by decide))
    refine bX10_plan_10  (fun p6 => ?_) (fun p6 => ?_)
    · exact bX10_plan_22  (K2 p4 p5 p6)
    · refine bX10_plan_14 hr (fun p7 => ?_) (fun p7 => ?_)
      · exact bX10_plan_25 hr hd1' (K3 p4 p5 p6 p7)
      · exact bX10_plan_22  (K4 p4 p5 p6 p7)

set_option maxRecDepth 20000 in
theorem t_X10_plan_42 {d d1' : Nat} {Q : Option MV → MH → Prop} {h : MH} {v1 v2 vs0 : Int32} (hr : zRf h) (hd1' : d1' + 1 ≤ d) (G0 : ¬ vs0 = 0 → vp_in v1 4) (K0 : ¬ vs0 = 0 → Con mX5_takeFrom d1' 0 0 [.inr (.inr (22 + 6 * v1.toNatClampNeg)), .inr (.inr 9)] h (zrv fun h' => J mX10_plan d 0 0 Q 0 0 72 [some (.inr (.inr 1)), some (.inl v1), some (.inl v2)] [] h')) (K1 : vs0 = 0 → Q (some (.inl ((-(nI 30)) - (h.1 2 6)))) h) : J mX10_plan d 0 0 Q 0 0 42 [some (.inr (.inr 1)), some (.inl v1), some (.inl v2)] [.inl vs0] h := by
  refine bX10_plan_42  (fun p1 => ?_) (fun p1 => ?_)
  · exact bX10_plan_56 hr (G0 p1) hd1' (K0 p1)
  · exact bX10_plan_45 hr (K1 p1)

set_option maxRecDepth 20000 in
theorem t_X10_plan_72 {d  : Nat} {Q : Option MV → MH → Prop} {h : MH} {v1 v2 : Int32} (hr : zRf h) (G0 : vp_in v1 4) (K0 : Q (some (.inl ((zsI h 58 0 (-(nI 1))).1 (22 + 6 * v1.toNatClampNeg) 0))) (zsI h 58 0 (-(nI 1)))) : J mX10_plan d 0 0 Q 0 0 72 [some (.inr (.inr 1)), some (.inl v1), some (.inl v2)] [] h := by
  exact bX10_plan_72 hr (G0) (K0)

set_option maxRecDepth 20000 in
theorem t_X10_fault {d  : Nat} {Q : Option MV → MH → Prop} {h : MH} {v1 : Int32} (hr : zRf h) (K0 : ¬ v1 = 0 → ¬ v1 = (nI 1) → Q (some (.inl (-(nI 1)))) h) (K1 : ¬ v1 = 0 → v1 = (nI 1) → Q (some (.inl (h.1 2 7))) h) (K2 : v1 = 0 → Q (some (.inl (h.1 2 6))) h) : Con mX10_fault d 0 0 [.inr (.inr 1), .inl v1] h Q := by
  refine Con.intro rfl (Nat.le_of_ble_eq_true rfl) ?_
  show J mX10_fault d 0 0 Q 0 0 0 [some (.inr (.inr 1)), some (.inl v1)] [] h
  refine bX10_fault_0  (fun p1 => ?_) (fun p1 => ?_)
  · refine bX10_fault_12  (fun p2 => ?_) (fun p2 => ?_)
    · refine bX10_fault_27  ?_
      exact bX10_fault_28  (K0 p1 p2)
    · refine bX10_fault_17 hr ?_
      exact bX10_fault_28  (K1 p1 p2)
  · exact bX10_fault_4 hr (K2 p1)

set_option maxRecDepth 20000 in
theorem t_X10_candle {d d1' d2' : Nat} {Q : Option MV → MH → Prop} {h : MH} {v1 v2 : Int32} (hr : zRf h) (hd : 1 ≤ d) (hd1' : d1' + 1 ≤ d) (hd2' : d2' + 1 ≤ d) (G0 : ¬ v1 < 0 → ¬ (h.1 16 0) ≤ v1 → ¬ v2 = 0 → ¬ v2 = (nI 1) → ¬ v2 = (nI 2) → ¬ v2 = (nI 3) → ¬ v2 < (nI 10) → vp_in v1 8) (G1 : ¬ v1 < 0 → ¬ (h.1 16 0) ≤ v1 → ¬ v2 = 0 → ¬ v2 = (nI 1) → ¬ v2 = (nI 2) → v2 = (nI 3) → vp_in v1 8) (G2 : ¬ v1 < 0 → ¬ (h.1 16 0) ≤ v1 → ¬ v2 = 0 → ¬ v2 = (nI 1) → v2 = (nI 2) → vp_in v1 8) (G3 : ¬ v1 < 0 → ¬ (h.1 16 0) ≤ v1 → v2 = 0 → vp_in v1 8) (K0 : v1 < 0 → Q (some (.inl (-(nI 2)))) h) (K1 : ¬ v1 < 0 → (h.1 16 0) ≤ v1 → Q (some (.inl (-(nI 2)))) h) (K2 : ¬ v1 < 0 → ¬ (h.1 16 0) ≤ v1 → ¬ v2 = 0 → ¬ v2 = (nI 1) → ¬ v2 = (nI 2) → ¬ v2 = (nI 3) → v2 < (nI 10) → Q (some (.inl (-(nI 2)))) h) (K3 : ¬ v1 < 0 → ¬ (h.1 16 0) ≤ v1 → ¬ v2 = 0 → ¬ v2 = (nI 1) → ¬ v2 = (nI 2) → ¬ v2 = (nI 3) → ¬ v2 < (nI 10) → (v2 - (nI 10)) < (h.1 17 v1.toNatClampNeg) → Con mX2_sparksOfPiece d1' 0 0 [.inr (.inr 16), .inl v1, .inl (v2 - (nI 10))] h (zri fun (x : Int32) h' => J mX10_candle d 0 0 Q 0 0 100 [some (.inr (.inr 1)), some (.inl v1), some (.inl v2), some (.inr (.inr 16))] [.inl x] h')) (K4 : ¬ v1 < 0 → ¬ (h.1 16 0) ≤ v1 → ¬ v2 = 0 → ¬ v2 = (nI 1) → ¬ v2 = (nI 2) → ¬ v2 = (nI 3) → ¬ v2 < (nI 10) → ¬ (v2 - (nI 10)) < (h.1 17 v1.toNatClampNeg) → Q (some (.inl (-(nI 2)))) h) (K5 : ¬ v1 < 0 → ¬ (h.1 16 0) ≤ v1 → ¬ v2 = 0 → ¬ v2 = (nI 1) → ¬ v2 = (nI 2) → v2 = (nI 3) → Q (some (.inl (h.1 20 v1.toNatClampNeg))) h) (K6 : ¬ v1 < 0 → ¬ (h.1 16 0) ≤ v1 → ¬ v2 = 0 → ¬ v2 = (nI 1) → v2 = (nI 2) → Q (some (.inl (h.1 19 v1.toNatClampNeg))) h) (K7 : ¬ v1 < 0 → ¬ (h.1 16 0) ≤ v1 → ¬ v2 = 0 → v2 = (nI 1) → Con mX2_sparksOf d2' 0 0 [.inr (.inr 16), .inl v1] h (zri fun (x : Int32) h' => J mX10_candle d 0 0 Q 0 0 40 [some (.inr (.inr 1)), some (.inl v1), some (.inl v2), some (.inr (.inr 16))] [.inl x] h')) (K8 : ¬ v1 < 0 → ¬ (h.1 16 0) ≤ v1 → v2 = 0 → Q (some (.inl (h.1 17 v1.toNatClampNeg))) h) : Con mX10_candle d 0 0 [.inr (.inr 1), .inl v1, .inl v2] h Q := by
  refine Con.intro rfl (Nat.le_of_ble_eq_true rfl) ?_
  show J mX10_candle d 0 0 Q 0 0 0 [some (.inr (.inr 1)), some (.inl v1), some (.inl v2), none] [] h
  refine bX10_candle_0 (d' := 0) hr (by omega) ?_
  refine t_X2_has ?_ ?_ ?_ ?_
  · intro p1; exact (zo hr (by decide) rfl)
  · intro p2
    refine bX10_candle_13  (fun c => absurd c (by decide)) (fun _ => ?_)
    exact bX10_candle_16  (K0 p2)
  · intro p3 p4
    refine bX10_candle_13  (fun c => absurd c (by decide)) (fun _ => ?_)
    exact bX10_candle_16  (K1 p3 p4)
  · intro p5 p6
    refine bX10_candle_13  (fun _ => ?_) (fun c => absurd c (by decide))
    refine bX10_candle_19  (fun p7 => ?_) (fun p7 => ?_)
    · refine bX10_candle_30  (fun p8 => ?_) (fun p8 => ?_)
      · refine bX10_candle_45  (fun p9 => ?_) (fun p9 => ?_)
        · refine bX10_candle_57  (fun p10 => ?_) (fun p10 => ?_)
          · refine bX10_candle_69  (fun p11 => ?_) (fun p11 => ?_)
            · exact bX10_candle_88  (K2 p5 p6 p7 p8 p9 p10 p11)
            · refine bX10_candle_75 hr (zo hr (by decide) rfl) (G0 p5 p6 p7 p8 p9 p10 p11) (fun p12 => ?_) (fun p12 => ?_)
              · exact bX10_candle_91 (zo hr (by decide) rfl) hd1' (K3 p5 p6 p7 p8 p9 p10 p11 p12)
              · exact bX10_candle_88  (K4 p5 p6 p7 p8 p9 p10 p11 p12)
          · exact bX10_candle_62 hr (zo hr (by decide) rfl) (G1 p5 p6 p7 p8 p9 p10) (K5 p5 p6 p7 p8 p9 p10)
        · exact bX10_candle_50 hr (zo hr (by decide) rfl) (G2 p5 p6 p7 p8 p9) (K6 p5 p6 p7 p8 p9)
      · exact bX10_candle_35 (zo hr (by decide) rfl) hd2' (K7 p5 p6 p7 p8)
    · exact bX10_candle_23 hr (zo hr (by decide) rfl) (G3 p5 p6 p7) (K8 p5 p6 p7)

set_option maxRecDepth 20000 in
theorem t_X10_candle_40 {d  : Nat} {Q : Option MV → MH → Prop} {h : MH} {v1 v2 vs0 : Int32} {v3 : Nat} (K0 : Q (some (.inl (vs0 / (nI 256)))) h) : J mX10_candle d 0 0 Q 0 0 40 [some (.inr (.inr 1)), some (.inl v1), some (.inl v2), some (.inr (.inr v3))] [.inl vs0] h := by
  exact bX10_candle_40  (K0)

set_option maxRecDepth 20000 in
theorem t_X10_candle_100 {d  : Nat} {Q : Option MV → MH → Prop} {h : MH} {v1 v2 vs0 : Int32} {v3 : Nat} (K0 : Q (some (.inl (vs0 / (nI 256)))) h) : J mX10_candle d 0 0 Q 0 0 100 [some (.inr (.inr 1)), some (.inl v1), some (.inl v2), some (.inr (.inr v3))] [.inl vs0] h := by
  exact bX10_candle_100  (K0)

set_option maxRecDepth 20000 in
theorem t_X10_forgetCellar {d  : Nat} {Q : Option MV → MH → Prop} {h : MH} (hr : zRf h) (K0 : Q none (zsI (zsI (zsI (zsI h 58 0 (-(nI 1))) 97 0 (nI 0)) 99 0 (nI 0)) 101 0 (nI 0))) : Con mX10_forgetCellar d 0 0 [.inr (.inr 1)] h Q := by
  refine Con.intro rfl (Nat.le_of_ble_eq_true rfl) ?_
  show J mX10_forgetCellar d 0 0 Q 0 0 0 [some (.inr (.inr 1))] [] h
  exact bX10_forgetCellar_0 hr (K0)

set_option maxRecDepth 20000 in
theorem t_X10_length {d d1' : Nat} {Q : Option MV → MH → Prop} {h : MH} {v1 v2 : Int32} (hr : zRf h) (hd : 1 ≤ d) (hd1' : d1' + 1 ≤ d) (K0 : v1 < 0 → Q (some (.inl (-(nI 2)))) h) (K1 : ¬ v1 < 0 → (h.1 16 0) ≤ v1 → Q (some (.inl (-(nI 2)))) h) (K2 : ¬ v1 < 0 → ¬ (h.1 16 0) ≤ v1 → v2 < 0 → Q (some (.inl (-(nI 3)))) h) (K3 : ¬ v1 < 0 → ¬ (h.1 16 0) ≤ v1 → ¬ v2 < 0 → Con mX2_sparksOf d1' 0 0 [.inr (.inr 16), .inl v1] h (zri fun (x : Int32) h' => J mX10_length d 0 0 Q 0 0 29 [some (.inr (.inr 1)), some (.inl v1), some (.inl v2), some (.inr (.inr 16))] [.inl x, .inl v2] h')) : Con mX10_length d 0 0 [.inr (.inr 1), .inl v1, .inl v2] h Q := by
  refine Con.intro rfl (Nat.le_of_ble_eq_true rfl) ?_
  show J mX10_length d 0 0 Q 0 0 0 [some (.inr (.inr 1)), some (.inl v1), some (.inl v2), none] [] h
  refine bX10_length_0 (d' := 0) hr (by omega) ?_
  refine t_X2_has ?_ ?_ ?_ ?_
  · intro p1; exact (zo hr (by decide) rfl)
  · intro p2
    refine bX10_length_13  (fun c => absurd c (by decide)) (fun _ => ?_)
    exact bX10_length_16  (K0 p2)
  · intro p3 p4
    refine bX10_length_13  (fun c => absurd c (by decide)) (fun _ => ?_)
    exact bX10_length_16  (K1 p3 p4)
  · intro p5 p6
    refine bX10_length_13  (fun _ => ?_) (fun c => absurd c (by decide))
    refine bX10_length_19  (fun p7 => ?_) (fun p7 => ?_)
    · exact bX10_length_32  (K2 p5 p6 p7)
    · exact bX10_length_23 (zo hr (by decide) rfl) hd1' (K3 p5 p6 p7)

set_option maxRecDepth 20000 in
theorem t_X10_length_29 {d d1' : Nat} {Q : Option MV → MH → Prop} {h : MH} {v1 v2 vs0 vs1 : Int32} {v3 : Nat} (hd1' : d1' + 1 ≤ d) (G0 : vs0 ≤ vs1 → zokO h v3 2) (K0 : vs0 ≤ vs1 → Con mX2_thousandths d1' 0 0 [.inr (.inr v3), .inl v1, .inl v2, .inl (nI 1)] h (zri fun (x : Int32) h' => J mX10_length d 0 0 Q 0 0 42 [some (.inr (.inr 1)), some (.inl v1), some (.inl v2), some (.inr (.inr v3))] [.inl x] h')) (K1 : ¬ vs0 ≤ vs1 → Q (some (.inl (-(nI 3)))) h) : J mX10_length d 0 0 Q 0 0 29 [some (.inr (.inr 1)), some (.inl v1), some (.inl v2), some (.inr (.inr v3))] [.inl vs1, .inl vs0] h := by
  refine bX10_length_29  (fun p1 => ?_) (fun p1 => ?_)
  · exact bX10_length_35 (G0 p1) hd1' (K0 p1)
  · exact bX10_length_32  (K1 p1)

set_option maxRecDepth 20000 in
theorem t_X10_length_42 {d  : Nat} {Q : Option MV → MH → Prop} {h : MH} {v1 v2 vs0 : Int32} {v3 : Nat} (K0 : Q (some (.inl vs0)) h) : J mX10_length d 0 0 Q 0 0 42 [some (.inr (.inr 1)), some (.inl v1), some (.inl v2), some (.inr (.inr v3))] [.inl vs0] h := by
  exact bX10_length_42  (K0)

set_option maxRecDepth 20000 in
theorem t_X10_meet {d d1' : Nat} {Q : Option MV → MH → Prop} {h : MH} {v1 : Int32} (hr : zRf h) (hd : 1 ≤ d) (hd1' : d1' + 1 ≤ d) (K0 : v1 < 0 → Q (some (.inl (-(nI 2)))) h) (K1 : ¬ v1 < 0 → (h.1 16 0) ≤ v1 → Q (some (.inl (-(nI 2)))) h) (K2 : ¬ v1 < 0 → ¬ (h.1 16 0) ≤ v1 → Con mX2_sparksOf d1' 0 0 [.inr (.inr 16), .inl v1] h (zri fun (x : Int32) h' => J mX10_meet d 0 0 Q 0 0 26 [some (.inr (.inr 1)), some (.inl v1), some (.inr (.inr 16))] [.inl x, .inl v1, .inr (.inr 16)] h')) : Con mX10_meet d 0 0 [.inr (.inr 1), .inl v1] h Q := by
  refine Con.intro rfl (Nat.le_of_ble_eq_true rfl) ?_
  show J mX10_meet d 0 0 Q 0 0 0 [some (.inr (.inr 1)), some (.inl v1), none] [] h
  refine bX10_meet_0 (d' := 0) hr (by omega) ?_
  refine t_X2_has ?_ ?_ ?_ ?_
  · intro p1; exact (zo hr (by decide) rfl)
  · intro p2
    refine bX10_meet_13  (fun c => absurd c (by decide)) (fun _ => ?_)
    exact bX10_meet_16  (K0 p2)
  · intro p3 p4
    refine bX10_meet_13  (fun c => absurd c (by decide)) (fun _ => ?_)
    exact bX10_meet_16  (K1 p3 p4)
  · intro p5 p6
    refine bX10_meet_13  (fun _ => ?_) (fun c => absurd c (by decide))
    exact bX10_meet_19 (zo hr (by decide) rfl) hd1' (K2 p5 p6)

set_option maxRecDepth 20000 in
theorem t_X10_meet_26 {d d1' : Nat} {Q : Option MV → MH → Prop} {h : MH} {v1 vs1 vs2 : Int32} {v2 vs0 : Nat} (hd1' : d1' + 1 ≤ d) (G0 : zokO h vs0 2) (K0 : Con mX2_thousandths d1' 0 0 [.inr (.inr vs0), .inl vs1, .inl (vs2 / (nI 2)), .inl (nI 0)] h (zri fun (x : Int32) h' => J mX10_meet d 0 0 Q 0 0 32 [some (.inr (.inr 1)), some (.inl v1), some (.inr (.inr v2))] [.inl x] h')) : J mX10_meet d 0 0 Q 0 0 26 [some (.inr (.inr 1)), some (.inl v1), some (.inr (.inr v2))] [.inl vs2, .inl vs1, .inr (.inr vs0)] h := by
  exact bX10_meet_26 (G0) hd1' (K0)

set_option maxRecDepth 20000 in
theorem t_X10_meet_32 {d  : Nat} {Q : Option MV → MH → Prop} {h : MH} {v1 vs0 : Int32} {v2 : Nat} (K0 : Q (some (.inl vs0)) h) : J mX10_meet d 0 0 Q 0 0 32 [some (.inr (.inr 1)), some (.inl v1), some (.inr (.inr v2))] [.inl vs0] h := by
  exact bX10_meet_32  (K0)

set_option maxRecDepth 20000 in
theorem t_X10_halves {d  : Nat} {Q : Option MV → MH → Prop} {h : MH} {v1 : Int32} (hr : zRf h) (hd : 1 ≤ d) (K0 : v1 < 0 → Q (some (.inl (-(nI 2)))) h) (K1 : ¬ v1 < 0 → (h.1 16 0) ≤ v1 → Q (some (.inl (-(nI 2)))) h) (K2 : ¬ v1 < 0 → ¬ (h.1 16 0) ≤ v1 → J mX10_halves d 0 0 Q 0 0 24 [some (.inr (.inr 1)), some (.inl v1), some (.inr (.inr 16)), some (.inl (nI 0)), some (.inl (nI 0)), none] [] h) : Con mX10_halves d 0 0 [.inr (.inr 1), .inl v1] h Q := by
  refine Con.intro rfl (Nat.le_of_ble_eq_true rfl) ?_
  show J mX10_halves d 0 0 Q 0 0 0 [some (.inr (.inr 1)), some (.inl v1), none, none, none, none] [] h
  refine bX10_halves_0 (d' := 0) hr (by omega) ?_
  refine t_X2_has ?_ ?_ ?_ ?_
  · intro p1; exact (zo hr (by decide) rfl)
  · intro p2
    refine bX10_halves_13  (fun c => absurd c (by decide)) (fun _ => ?_)
    exact bX10_halves_16  (K0 p2)
  · intro p3 p4
    refine bX10_halves_13  (fun c => absurd c (by decide)) (fun _ => ?_)
    exact bX10_halves_16  (K1 p3 p4)
  · intro p5 p6
    refine bX10_halves_13  (fun _ => ?_) (fun c => absurd c (by decide))
    refine bX10_halves_19  ?_
    exact K2 p5 p6

set_option maxRecDepth 20000 in
theorem t_X10_halves_24 {d d1' : Nat} {Q : Option MV → MH → Prop} {h : MH} {u5 : Option MV} {v1 v3 v4 : Int32} {v2 : Nat} (hr : zRf h) (hd : 1 ≤ d) (hd1' : d1' + 1 ≤ d) (G0 : zokO h v2 2) (G1 : vp_in v1 8) (K0 : (h.1 (v2 + 1) v1.toNatClampNeg) ≤ v4 → Q (some (.inl v3)) h) (K1 : ¬ (h.1 (v2 + 1) v1.toNatClampNeg) ≤ v4 → Con mX2_sparksOfPiece d1' 0 0 [.inr (.inr v2), .inl v1, .inl v4] h (zri fun (x : Int32) h' => J mX10_halves d 0 0 Q 0 0 64 [some (.inr (.inr 1)), some (.inl v1), some (.inr (.inr v2)), some (.inl v3), some (.inl v4), some (.inl (if (nI 0) < (if ((h.1 (v2 + 1) v1.toNatClampNeg) - ((nI 2) * v4)) < (nI 2) then ((h.1 (v2 + 1) v1.toNatClampNeg) - ((nI 2) * v4)) else (nI 2)) then (if ((h.1 (v2 + 1) v1.toNatClampNeg) - ((nI 2) * v4)) < (nI 2) then ((h.1 (v2 + 1) v1.toNatClampNeg) - ((nI 2) * v4)) else (nI 2)) else (nI 0)))] [.inl x, .inl v3] h')) : J mX10_halves d 0 0 Q 0 0 24 [some (.inr (.inr 1)), some (.inl v1), some (.inr (.inr v2)), some (.inl v3), some (.inl v4), u5] [] h := by
  refine bX10_halves_24 hr (G0) (G1) (fun p1 => ?_) (fun p1 => ?_)
  · exact bX10_halves_77  (K0 p1)
  · refine bX10_halves_35 hr (G0) (G1) (by omega) ?_
    refine bX10_halves_51  (by omega) ?_
    exact bX10_halves_54 (G0) hd1' (K1 p1)

set_option maxRecDepth 20000 in
theorem t_X10_halves_64 {d  : Nat} {Q : Option MV → MH → Prop} {h : MH} {v1 v3 v4 v5 vs0 vs1 : Int32} {v2 : Nat} (K0 : J mX10_halves d 0 0 Q 0 0 24 [some (.inr (.inr 1)), some (.inl v1), some (.inr (.inr v2)), some (.inl (vs0 + ((vs1 / (nI 2)) * v5))), some (.inl (v4 + nI 1)), some (.inl v5)] [] h) : J mX10_halves d 0 0 Q 0 0 64 [some (.inr (.inr 1)), some (.inl v1), some (.inr (.inr v2)), some (.inl v3), some (.inl v4), some (.inl v5)] [.inl vs1, .inl vs0] h := by
  refine bX10_halves_64  ?_
  exact K0

set_option maxRecDepth 20000 in
theorem t_X10_piece {d d1' : Nat} {Q : Option MV → MH → Prop} {h : MH} {v1 v2 v3 : Int32} (hr : zRf h) (hd : 1 ≤ d) (hd1' : d1' + 1 ≤ d) (K0 : v1 < 0 → Q (some (.inl (-(nI 2)))) h) (K1 : ¬ v1 < 0 → (h.1 16 0) ≤ v1 → Q (some (.inl (-(nI 2)))) h) (K2 : ¬ v1 < 0 → ¬ (h.1 16 0) ≤ v1 → v2 < 0 → Q (some (.inl (-(nI 3)))) h) (K3 : ¬ v1 < 0 → ¬ (h.1 16 0) ≤ v1 → ¬ v2 < 0 → Con mX2_sparksOf d1' 0 0 [.inr (.inr 16), .inl v1] h (zri fun (x : Int32) h' => J mX10_piece d 0 0 Q 0 0 32 [some (.inr (.inr 1)), some (.inl v1), some (.inl v2), some (.inl v3), some (.inr (.inr 16))] [.inl x, .inl v2] h')) : Con mX10_piece d 0 0 [.inr (.inr 1), .inl v1, .inl v2, .inl v3] h Q := by
  refine Con.intro rfl (Nat.le_of_ble_eq_true rfl) ?_
  show J mX10_piece d 0 0 Q 0 0 0 [some (.inr (.inr 1)), some (.inl v1), some (.inl v2), some (.inl v3), none] [] h
  refine bX10_piece_0 (d' := 0) hr (by omega) ?_
  refine t_X2_has ?_ ?_ ?_ ?_
  · intro p1; exact (zo hr (by decide) rfl)
  · intro p2
    refine bX10_piece_15  (fun c => absurd c (by decide)) (fun _ => ?_)
    exact bX10_piece_18  (K0 p2)
  · intro p3 p4
    refine bX10_piece_15  (fun c => absurd c (by decide)) (fun _ => ?_)
    exact bX10_piece_18  (K1 p3 p4)
  · intro p5 p6
    refine bX10_piece_15  (fun _ => ?_) (fun c => absurd c (by decide))
    refine bX10_piece_21  (fun p7 => ?_) (fun p7 => ?_)
    · exact bX10_piece_35  (K2 p5 p6 p7)
    · exact bX10_piece_25 (zo hr (by decide) rfl) hd1' (K3 p5 p6 p7)

set_option maxRecDepth 20000 in
theorem t_X10_piece_32 {d d1' : Nat} {Q : Option MV → MH → Prop} {h : MH} {v1 v2 v3 vs0 vs1 : Int32} {v4 : Nat} (hd1' : d1' + 1 ≤ d) (G0 : vs0 ≤ vs1 → zokO h v4 2) (K0 : vs0 ≤ vs1 → Con mX2_nextPiece d1' 0 0 [.inr (.inr v4), .inl v1, .inl v2, .inl v3] h (zri fun (x : Int32) h' => J mX10_piece d 0 0 Q 0 0 46 [some (.inr (.inr 1)), some (.inl v1), some (.inl v2), some (.inl v3), some (.inr (.inr v4))] [.inl x] h')) (K1 : ¬ vs0 ≤ vs1 → Q (some (.inl (-(nI 3)))) h) : J mX10_piece d 0 0 Q 0 0 32 [some (.inr (.inr 1)), some (.inl v1), some (.inl v2), some (.inl v3), some (.inr (.inr v4))] [.inl vs1, .inl vs0] h := by
  refine bX10_piece_32  (fun p1 => ?_) (fun p1 => ?_)
  · exact bX10_piece_38 (G0 p1) hd1' (K0 p1)
  · exact bX10_piece_35  (K1 p1)

set_option maxRecDepth 20000 in
theorem t_X10_piece_46 {d  : Nat} {Q : Option MV → MH → Prop} {h : MH} {v1 v2 v3 vs0 : Int32} {v4 : Nat} (K0 : Q (some (.inl vs0)) h) : J mX10_piece d 0 0 Q 0 0 46 [some (.inr (.inr 1)), some (.inl v1), some (.inl v2), some (.inl v3), some (.inr (.inr v4))] [.inl vs0] h := by
  exact bX10_piece_46  (K0)

set_option maxRecDepth 20000 in
theorem t_X10_run {d d1' : Nat} {Q : Option MV → MH → Prop} {h : MH} {v1 v2 : Int32} (hr : zRf h) (hd : 1 ≤ d) (hd1' : d1' + 1 ≤ d) (K0 : v1 < 0 → Q (some (.inl (-(nI 2)))) h) (K1 : ¬ v1 < 0 → (nI 4) ≤ v1 → Q (some (.inl (-(nI 2)))) h) (K2 : ¬ v1 < 0 → ¬ (nI 4) ≤ v1 → v2 < 0 → Q (some (.inl (-(nI 2)))) h) (K3 : ¬ v1 < 0 → ¬ (nI 4) ≤ v1 → ¬ v2 < 0 → v2 ≤ (nI 4) → Con mX10_playAsTold d1' 0 0 [.inr (.inr 1), .inl v1] h (zrv fun h' => J mX10_run d 0 0 Q 0 0 24 [some (.inr (.inr 1)), some (.inl v1), some (.inl v2)] [] h')) (K4 : ¬ v1 < 0 → ¬ (nI 4) ≤ v1 → ¬ v2 < 0 → ¬ v2 ≤ (nI 4) → Q (some (.inl (-(nI 2)))) h) : Con mX10_run d 0 0 [.inr (.inr 1), .inl v1, .inl v2] h Q := by
  refine Con.intro rfl (Nat.le_of_ble_eq_true rfl) ?_
  show J mX10_run d 0 0 Q 0 0 0 [some (.inr (.inr 1)), some (.inl v1), some (.inl v2)] [] h
  refine bX10_run_0 (d' := 0)  (by omega) ?_
  refine t_X10_isPlan  ?_ ?_ ?_
  · intro p1
    refine bX10_run_4  (fun _ => ?_) (fun c => absurd c (by decide))
    exact bX10_run_16  (K0 p1)
  · intro p2 p3
    refine bX10_run_4  (fun _ => ?_) (fun c => absurd c (by decide))
    exact bX10_run_16  (K1 p2 p3)
  · intro p4 p5
    refine bX10_run_4  (fun c => absurd c (by decide)) (fun _ => ?_)
    refine bX10_run_7  (fun p6 => ?_) (fun p6 => ?_)
    · exact bX10_run_16  (K2 p4 p5 p6)
    · refine bX10_run_11  (fun p7 => ?_) (fun p7 => ?_)
      · exact bX10_run_19 hr hd1' (K3 p4 p5 p6 p7)
      · exact bX10_run_16  (K4 p4 p5 p6 p7)

set_option maxRecDepth 20000 in
theorem t_X10_run_24 {d  : Nat} {Q : Option MV → MH → Prop} {h : MH} {v1 v2 : Int32} (K0 : J mX10_run d 0 0 Q 0 0 25 [some (.inr (.inr 1)), some (.inl v1), some (.inl v2)] [.inl v2] h) : J mX10_run d 0 0 Q 0 0 24 [some (.inr (.inr 1)), some (.inl v1), some (.inl v2)] [] h := by
  refine bX10_run_24  ?_
  exact K0

set_option maxRecDepth 20000 in
theorem t_X10_run_56 {d  : Nat} {Q : Option MV → MH → Prop} {h : MH} {v1 v2 : Int32} (hr : zRf h) (K0 : Q (some (.inl (h.1 48 9))) h) : J mX10_run d 0 0 Q 0 0 56 [some (.inr (.inr 1)), some (.inl v1), some (.inl v2)] [] h := by
  exact bX10_run_56 hr (K0)

set_option maxRecDepth 20000 in
theorem t_X10_run_64 {d  : Nat} {Q : Option MV → MH → Prop} {h : MH} {v1 v2 : Int32} (hr : zRf h) (K0 : Q (some (.inl ((h.1 48 13) / (nI 256)))) h) : J mX10_run d 0 0 Q 0 0 64 [some (.inr (.inr 1)), some (.inl v1), some (.inl v2)] [] h := by
  exact bX10_run_64 hr (K0)

set_option maxRecDepth 20000 in
theorem t_X10_run_76 {d d1' : Nat} {Q : Option MV → MH → Prop} {h : MH} {v1 v2 : Int32} (hr : zRf h) (hd1' : d1' + 1 ≤ d) (K0 : Con mJ13_bitCount_95d88 d1' 0 0 [.inr (.inl (h.2.1 48 10))] h (zri fun (x : Int32) h' => J mX10_run d 0 0 Q 0 0 86 [some (.inr (.inr 1)), some (.inl v1), some (.inl v2)] [.inl x] h')) : J mX10_run d 0 0 Q 0 0 76 [some (.inr (.inr 1)), some (.inl v1), some (.inl v2)] [] h := by
  exact bX10_run_76 hr hd1' (K0)

set_option maxRecDepth 20000 in
theorem t_X10_run_86 {d  : Nat} {Q : Option MV → MH → Prop} {h : MH} {v1 v2 vs0 : Int32} (K0 : Q (some (.inl vs0)) h) : J mX10_run d 0 0 Q 0 0 86 [some (.inr (.inr 1)), some (.inl v1), some (.inl v2)] [.inl vs0] h := by
  exact bX10_run_86  (K0)

set_option maxRecDepth 20000 in
theorem t_X10_run_87 {d  : Nat} {Q : Option MV → MH → Prop} {h : MH} {v1 v2 : Int32} (hr : zRf h) (K0 : Q (some (.inl (h.1 48 12))) h) : J mX10_run d 0 0 Q 0 0 87 [some (.inr (.inr 1)), some (.inl v1), some (.inl v2)] [] h := by
  exact bX10_run_87 hr (K0)

set_option maxRecDepth 20000 in
theorem t_X10_run_95 {d d1' : Nat} {Q : Option MV → MH → Prop} {h : MH} {v1 v2 : Int32} (hr : zRf h) (hd1' : d1' + 1 ≤ d) (K0 : Con mX10_waxOfRun d1' 0 0 [.inr (.inr 1)] h (zri fun (x : Int32) h' => J mX10_run d 0 0 Q 0 0 99 [some (.inr (.inr 1)), some (.inl v1), some (.inl v2)] [.inl x] h')) : J mX10_run d 0 0 Q 0 0 95 [some (.inr (.inr 1)), some (.inl v1), some (.inl v2)] [] h := by
  exact bX10_run_95 hr hd1' (K0)

set_option maxRecDepth 20000 in
theorem t_X10_run_99 {d  : Nat} {Q : Option MV → MH → Prop} {h : MH} {v1 v2 vs0 : Int32} (K0 : Q (some (.inl vs0)) h) : J mX10_run d 0 0 Q 0 0 99 [some (.inr (.inr 1)), some (.inl v1), some (.inl v2)] [.inl vs0] h := by
  exact bX10_run_99  (K0)

set_option maxRecDepth 20000 in
theorem t_X10_playAsTold {d d1' : Nat} {Q : Option MV → MH → Prop} {h : MH} {v1 : Int32} (hr : zRf h) (hd1' : d1' + 1 ≤ d) (K0 : Con mX8_lay d1' 0 0 [.inr (.inr 48), .inr (.inr 16)] h (zrv fun h' => J mX10_playAsTold d 0 0 Q 0 0 14 [some (.inr (.inr 1)), some (.inl v1)] [] h')) : Con mX10_playAsTold d 0 0 [.inr (.inr 1), .inl v1] h Q := by
  refine Con.intro rfl (Nat.le_of_ble_eq_true rfl) ?_
  show J mX10_playAsTold d 0 0 Q 0 0 0 [some (.inr (.inr 1)), some (.inl v1)] [] h
  exact bX10_playAsTold_0 hr hd1' (K0)

set_option maxRecDepth 20000 in
theorem t_X10_playAsTold_14 {d d1' : Nat} {Q : Option MV → MH → Prop} {h : MH} {v1 : Int32} (hr : zRf h) (hd1' : d1' + 1 ≤ d) (G0 : vp_in v1 4) (K0 : Con mX8_play d1' 0 0 [.inr (.inr 48), .inr (.inr (22 + 6 * v1.toNatClampNeg)), .inl (-(nI 1)), .inl (1024000000 : Int32)] h (zrv fun h' => J mX10_playAsTold d 0 0 Q 0 0 33 [some (.inr (.inr 1)), some (.inl v1)] [] h')) : J mX10_playAsTold d 0 0 Q 0 0 14 [some (.inr (.inr 1)), some (.inl v1)] [] h := by
  exact bX10_playAsTold_14 hr (G0) hd1' (K0)

set_option maxRecDepth 20000 in
theorem t_X10_playAsTold_33 {d  : Nat} {Q : Option MV → MH → Prop} {h : MH} {v1 : Int32} (K0 : Q none h) : J mX10_playAsTold d 0 0 Q 0 0 33 [some (.inr (.inr 1)), some (.inl v1)] [] h := by
  exact bX10_playAsTold_33  (K0)

set_option maxRecDepth 20000 in
theorem t_X10_waxOfRun {d  : Nat} {Q : Option MV → MH → Prop} {h : MH} (K0 : J mX10_waxOfRun d 0 0 Q 0 0 4 [some (.inr (.inr 1)), some (.inl (nI 0)), some (.inl (nI 0)), none, none] [] h) : Con mX10_waxOfRun d 0 0 [.inr (.inr 1)] h Q := by
  refine Con.intro rfl (Nat.le_of_ble_eq_true rfl) ?_
  show J mX10_waxOfRun d 0 0 Q 0 0 0 [some (.inr (.inr 1)), none, none, none, none] [] h
  refine bX10_waxOfRun_0  ?_
  exact K0

set_option maxRecDepth 20000 in
theorem t_X10_waxOfRun_4 {d  : Nat} {Q : Option MV → MH → Prop} {h : MH} {u3 : Option MV} {v1 v2 : Int32} (hr : zRf h) (G0 : ¬ (h.1 16 0) ≤ v2 → vp_in v2 8) (G1 : ¬ (h.1 16 0) ≤ v2 → ¬ (lg_cmp ((h.1 49 v2.toNatClampNeg).toInt64) (lN 0)) ≤ 0 → ¬ ((h.1 49 v2.toNatClampNeg).toInt64) = 0) (K0 : (h.1 16 0) ≤ v2 → Q (some (.inl v1)) h) (K1 : ¬ (h.1 16 0) ≤ v2 → (lg_cmp ((h.1 49 v2.toNatClampNeg).toInt64) (lN 0)) ≤ 0 → J mX10_waxOfRun d 0 0 Q 0 0 4 [some (.inr (.inr 1)), some (.inl v1), some (.inl (v2 + nI 1)), some (.inr (.inl ((h.1 49 v2.toNatClampNeg).toInt64))), none] [] h) (K2 : ¬ (h.1 16 0) ≤ v2 → ¬ (lg_cmp ((h.1 49 v2.toNatClampNeg).toInt64) (lN 0)) ≤ 0 → J mX10_waxOfRun d 0 0 Q 0 0 4 [some (.inr (.inr 1)), some (.inl (v1 + (((((h.1 19 v2.toNatClampNeg).toInt64) * (((h.1 49 v2.toNatClampNeg).toInt64) - ((h.1 52 v2.toNatClampNeg).toInt64))) / ((h.1 49 v2.toNatClampNeg).toInt64)).toInt32))), some (.inl (v2 + nI 1)), some (.inr (.inl ((h.1 49 v2.toNatClampNeg).toInt64))), none] [] h) : J mX10_waxOfRun d 0 0 Q 0 0 4 [some (.inr (.inr 1)), some (.inl v1), some (.inl v2), u3, none] [] h := by
  refine bX10_waxOfRun_4 hr (fun p1 => ?_) (fun p1 => ?_)
  · exact bX10_waxOfRun_73  (K0 p1)
  · refine bX10_waxOfRun_18 hr (G0 p1) (fun p2 => ?_) (fun p2 => ?_)
    · refine bX10_waxOfRun_67  ?_
      exact K1 p1 p2
    · refine bX10_waxOfRun_35 hr (G0 p1) (G1 p1 p2) ?_
      refine bX10_waxOfRun_67  ?_
      exact K2 p1 p2

set_option maxRecDepth 20000 in
theorem t_X10_bell {d d1' : Nat} {Q : Option MV → MH → Prop} {h : MH} {v1 v2 : Int32} (hr : zRf h) (hd : 1 ≤ d) (hd1' : d1' + 1 ≤ d) (K0 : v1 < 0 → Q (some (.inl (-(nI 2)))) h) (K1 : ¬ v1 < 0 → (nI 4) ≤ v1 → Q (some (.inl (-(nI 2)))) h) (K2 : ¬ v1 < 0 → ¬ (nI 4) ≤ v1 → Con mX10_playAsTold d1' 0 0 [.inr (.inr 1), .inl v1] h (zrv fun h' => J mX10_bell d 0 0 Q 0 0 15 [some (.inr (.inr 1)), some (.inl v1), some (.inl v2)] [] h')) : Con mX10_bell d 0 0 [.inr (.inr 1), .inl v1, .inl v2] h Q := by
  refine Con.intro rfl (Nat.le_of_ble_eq_true rfl) ?_
  show J mX10_bell d 0 0 Q 0 0 0 [some (.inr (.inr 1)), some (.inl v1), some (.inl v2)] [] h
  refine bX10_bell_0 (d' := 0)  (by omega) ?_
  refine t_X10_isPlan  ?_ ?_ ?_
  · intro p1
    refine bX10_bell_4  (fun c => absurd c (by decide)) (fun _ => ?_)
    exact bX10_bell_7  (K0 p1)
  · intro p2 p3
    refine bX10_bell_4  (fun c => absurd c (by decide)) (fun _ => ?_)
    exact bX10_bell_7  (K1 p2 p3)
  · intro p4 p5
    refine bX10_bell_4  (fun _ => ?_) (fun c => absurd c (by decide))
    exact bX10_bell_10 hr hd1' (K2 p4 p5)

set_option maxRecDepth 20000 in
theorem t_X10_bell_15 {d  : Nat} {Q : Option MV → MH → Prop} {h : MH} {v1 v2 : Int32} (hr : zRf h) (hd : 1 ≤ d) (G0 : ¬ v2 < 0 → ¬ (h.1 48 9) ≤ v2 → vp_in v2 40) (K0 : v2 < 0 → Q (some (.inl (-(nI 1)))) h) (K1 : ¬ v2 < 0 → (h.1 48 9) ≤ v2 → Q (some (.inl (-(nI 1)))) h) (K2 : ¬ v2 < 0 → ¬ (h.1 48 9) ≤ v2 → Q (some (.inl ((h.1 56 v2.toNatClampNeg) / (nI 256)))) h) : J mX10_bell d 0 0 Q 0 0 15 [some (.inr (.inr 1)), some (.inl v1), some (.inl v2)] [] h := by
  refine bX10_bell_15 (d' := 0) hr (by omega) ?_
  refine t_X8_bellAt hr ?_ ?_ ?_ ?_
  · intro p1 p2; exact (G0 p1 p2)
  · intro p3
    exact bX10_bell_23  (K0 p3)
  · intro p4 p5
    exact bX10_bell_23  (K1 p4 p5)
  · intro p6 p7
    exact bX10_bell_23  (K2 p6 p7)

set_option maxRecDepth 20000 in
theorem t_X10_ends {d d1' : Nat} {Q : Option MV → MH → Prop} {h : MH} {v1 v2 : Int32} (hr : zRf h) (hd : 1 ≤ d) (hd1' : d1' + 1 ≤ d) (K0 : v1 < 0 → Q (some (.inl (-(nI 2)))) h) (K1 : ¬ v1 < 0 → (nI 4) ≤ v1 → Q (some (.inl (-(nI 2)))) h) (K2 : ¬ v1 < 0 → ¬ (nI 4) ≤ v1 → v2 < 0 → Q (some (.inl (-(nI 2)))) h) (K3 : ¬ v1 < 0 → ¬ (nI 4) ≤ v1 → ¬ v2 < 0 → (h.1 16 0) ≤ v2 → Q (some (.inl (-(nI 2)))) h) (K4 : ¬ v1 < 0 → ¬ (nI 4) ≤ v1 → ¬ v2 < 0 → ¬ (h.1 16 0) ≤ v2 → Con mX10_playAsTold d1' 0 0 [.inr (.inr 1), .inl v1] h (zrv fun h' => J mX10_ends d 0 0 Q 0 0 29 [some (.inr (.inr 1)), some (.inl v1), some (.inl v2)] [] h')) : Con mX10_ends d 0 0 [.inr (.inr 1), .inl v1, .inl v2] h Q := by
  refine Con.intro rfl (Nat.le_of_ble_eq_true rfl) ?_
  show J mX10_ends d 0 0 Q 0 0 0 [some (.inr (.inr 1)), some (.inl v1), some (.inl v2)] [] h
  refine bX10_ends_0 (d' := 0)  (by omega) ?_
  refine t_X10_isPlan  ?_ ?_ ?_
  · intro p1
    refine bX10_ends_4  (fun _ => ?_) (fun c => absurd c (by decide))
    exact bX10_ends_21  (K0 p1)
  · intro p2 p3
    refine bX10_ends_4  (fun _ => ?_) (fun c => absurd c (by decide))
    exact bX10_ends_21  (K1 p2 p3)
  · intro p4 p5
    refine bX10_ends_4  (fun c => absurd c (by decide)) (fun _ => ?_)
    refine bX10_ends_7 (d' := 0) hr (by omega) ?_
    refine t_X2_has ?_ ?_ ?_ ?_
    · intro p6; exact (zo hr (by decide) rfl)
    · intro p7
      refine bX10_ends_18  (fun c => absurd c (by decide)) (fun _ => ?_)
      exact bX10_ends_21  (K2 p4 p5 p7)
    · intro p8 p9
      refine bX10_ends_18  (fun c => absurd c (by decide)) (fun _ => ?_)
      exact bX10_ends_21  (K3 p4 p5 p8 p9)
    · intro p10 p11
      refine bX10_ends_18  (fun _ => ?_) (fun c => absurd c (by decide))
      exact bX10_ends_24 hr hd1' (K4 p4 p5 p10 p11)

set_option maxRecDepth 20000 in
theorem t_X10_ends_29 {d  : Nat} {Q : Option MV → MH → Prop} {h : MH} {v1 v2 : Int32} (hr : zRf h) (G0 : vp_in v2 8) (K0 : ¬ (h.1 55 v2.toNatClampNeg) = (-(nI 1)) → Q (some (.inl ((h.1 55 v2.toNatClampNeg) / (nI 256)))) h) (K1 : (h.1 55 v2.toNatClampNeg) = (-(nI 1)) → Q (some (.inl (-(nI 1)))) h) : J mX10_ends d 0 0 Q 0 0 29 [some (.inr (.inr 1)), some (.inl v1), some (.inl v2)] [] h := by
  refine bX10_ends_29 hr (G0) (fun p1 => ?_) (fun p1 => ?_)
  · refine bX10_ends_46 hr (G0) ?_
    exact bX10_ends_59  (K0 p1)
  · refine bX10_ends_42  ?_
    exact bX10_ends_59  (K1 p1)

set_option maxRecDepth 20000 in
theorem t_X10_rest {d d1' : Nat} {Q : Option MV → MH → Prop} {h : MH} {v1 v2 v3 : Int32} (hr : zRf h) (hd : 1 ≤ d) (hd1' : d1' + 1 ≤ d) (K0 : v1 < 0 → Q (some (.inl (-(nI 2)))) h) (K1 : ¬ v1 < 0 → (nI 4) ≤ v1 → Q (some (.inl (-(nI 2)))) h) (K2 : ¬ v1 < 0 → ¬ (nI 4) ≤ v1 → v2 < 0 → Q (some (.inl (-(nI 2)))) h) (K3 : ¬ v1 < 0 → ¬ (nI 4) ≤ v1 → ¬ v2 < 0 → (h.1 16 0) ≤ v2 → Q (some (.inl (-(nI 2)))) h) (K4 : ¬ v1 < 0 → ¬ (nI 4) ≤ v1 → ¬ v2 < 0 → ¬ (h.1 16 0) ≤ v2 → 0 ≤ v3 → Con mX10_playUntil d1' 0 0 [.inr (.inr 1), .inl v1, .inl v3] h (zrv fun h' => J mX10_rest d 0 0 Q 0 0 37 [some (.inr (.inr 1)), some (.inl v1), some (.inl v2), some (.inl v3)] [] h')) (K5 : ¬ v1 < 0 → ¬ (nI 4) ≤ v1 → ¬ v2 < 0 → ¬ (h.1 16 0) ≤ v2 → ¬ 0 ≤ v3 → Q (some (.inl (-(nI 3)))) h) : Con mX10_rest d 0 0 [.inr (.inr 1), .inl v1, .inl v2, .inl v3] h Q := by
  refine Con.intro rfl (Nat.le_of_ble_eq_true rfl) ?_
  show J mX10_rest d 0 0 Q 0 0 0 [some (.inr (.inr 1)), some (.inl v1), some (.inl v2), some (.inl v3)] [] h
  refine bX10_rest_0 (d' := 0)  (by omega) ?_
  refine t_X10_isPlan  ?_ ?_ ?_
  · intro p1
    refine bX10_rest_4  (fun _ => ?_) (fun c => absurd c (by decide))
    exact bX10_rest_21  (K0 p1)
  · intro p2 p3
    refine bX10_rest_4  (fun _ => ?_) (fun c => absurd c (by decide))
    exact bX10_rest_21  (K1 p2 p3)
  · intro p4 p5
    refine bX10_rest_4  (fun c => absurd c (by decide)) (fun _ => ?_)
    refine bX10_rest_7 (d' := 0) hr (by omega) ?_
    refine t_X2_has ?_ ?_ ?_ ?_
    · intro p6; exact (zo hr (by decide) rfl)
    · intro p7
      refine bX10_rest_18  (fun c => absurd c (by decide)) (fun _ => ?_)
      exact bX10_rest_21  (K2 p4 p5 p7)
    · intro p8 p9
      refine bX10_rest_18  (fun c => absurd c (by decide)) (fun _ => ?_)
      exact bX10_rest_21  (K3 p4 p5 p8 p9)
    · intro p10 p11
      refine bX10_rest_18  (fun _ => ?_) (fun c => absurd c (by decide))
      refine bX10_rest_24  (fun p12 => ?_) (fun p12 => ?_)
      · exact bX10_rest_31 hr hd1' (K4 p4 p5 p10 p11 p12)
      · exact bX10_rest_28  (K5 p4 p5 p10 p11 p12)

set_option maxRecDepth 20000 in
theorem t_X10_rest_37 {d  : Nat} {Q : Option MV → MH → Prop} {h : MH} {v1 v2 v3 : Int32} (hr : zRf h) (G0 : vp_in v2 8) (K0 : Q (some (.inl ((h.1 50 v2.toNatClampNeg) / (nI 256)))) h) : J mX10_rest d 0 0 Q 0 0 37 [some (.inr (.inr 1)), some (.inl v1), some (.inl v2), some (.inl v3)] [] h := by
  exact bX10_rest_37 hr (G0) (K0)

set_option maxRecDepth 20000 in
theorem t_X10_flames {d d1' : Nat} {Q : Option MV → MH → Prop} {h : MH} {v1 v2 v3 : Int32} (hr : zRf h) (hd : 1 ≤ d) (hd1' : d1' + 1 ≤ d) (K0 : v1 < 0 → Q (some (.inl (-(nI 2)))) h) (K1 : ¬ v1 < 0 → (nI 4) ≤ v1 → Q (some (.inl (-(nI 2)))) h) (K2 : ¬ v1 < 0 → ¬ (nI 4) ≤ v1 → v2 < 0 → Q (some (.inl (-(nI 2)))) h) (K3 : ¬ v1 < 0 → ¬ (nI 4) ≤ v1 → ¬ v2 < 0 → (h.1 16 0) ≤ v2 → Q (some (.inl (-(nI 2)))) h) (K4 : ¬ v1 < 0 → ¬ (nI 4) ≤ v1 → ¬ v2 < 0 → ¬ (h.1 16 0) ≤ v2 → 0 ≤ v3 → Con mX10_playUntil d1' 0 0 [.inr (.inr 1), .inl v1, .inl v3] h (zrv fun h' => J mX10_flames d 0 0 Q 0 0 37 [some (.inr (.inr 1)), some (.inl v1), some (.inl v2), some (.inl v3)] [] h')) (K5 : ¬ v1 < 0 → ¬ (nI 4) ≤ v1 → ¬ v2 < 0 → ¬ (h.1 16 0) ≤ v2 → ¬ 0 ≤ v3 → Q (some (.inl (-(nI 3)))) h) : Con mX10_flames d 0 0 [.inr (.inr 1), .inl v1, .inl v2, .inl v3] h Q := by
  refine Con.intro rfl (Nat.le_of_ble_eq_true rfl) ?_
  show J mX10_flames d 0 0 Q 0 0 0 [some (.inr (.inr 1)), some (.inl v1), some (.inl v2), some (.inl v3)] [] h
  refine bX10_flames_0 (d' := 0)  (by omega) ?_
  refine t_X10_isPlan  ?_ ?_ ?_
  · intro p1
    refine bX10_flames_4  (fun _ => ?_) (fun c => absurd c (by decide))
    exact bX10_flames_21  (K0 p1)
  · intro p2 p3
    refine bX10_flames_4  (fun _ => ?_) (fun c => absurd c (by decide))
    exact bX10_flames_21  (K1 p2 p3)
  · intro p4 p5
    refine bX10_flames_4  (fun c => absurd c (by decide)) (fun _ => ?_)
    refine bX10_flames_7 (d' := 0) hr (by omega) ?_
    refine t_X2_has ?_ ?_ ?_ ?_
    · intro p6; exact (zo hr (by decide) rfl)
    · intro p7
      refine bX10_flames_18  (fun c => absurd c (by decide)) (fun _ => ?_)
      exact bX10_flames_21  (K2 p4 p5 p7)
    · intro p8 p9
      refine bX10_flames_18  (fun c => absurd c (by decide)) (fun _ => ?_)
      exact bX10_flames_21  (K3 p4 p5 p8 p9)
    · intro p10 p11
      refine bX10_flames_18  (fun _ => ?_) (fun c => absurd c (by decide))
      refine bX10_flames_24  (fun p12 => ?_) (fun p12 => ?_)
      · exact bX10_flames_31 hr hd1' (K4 p4 p5 p10 p11 p12)
      · exact bX10_flames_28  (K5 p4 p5 p10 p11 p12)

set_option maxRecDepth 20000 in
theorem t_X10_flames_37 {d  : Nat} {Q : Option MV → MH → Prop} {h : MH} {v1 v2 v3 : Int32} (hr : zRf h) (G0 : vp_in v2 8) (K0 : Q (some (.inl (h.1 51 v2.toNatClampNeg))) h) : J mX10_flames d 0 0 Q 0 0 37 [some (.inr (.inr 1)), some (.inl v1), some (.inl v2), some (.inl v3)] [] h := by
  exact bX10_flames_37 hr (G0) (K0)

set_option maxRecDepth 20000 in
theorem t_X10_playUntil {d d1' : Nat} {Q : Option MV → MH → Prop} {h : MH} {v1 v2 : Int32} (hr : zRf h) (hd1' : d1' + 1 ≤ d) (K0 : Con mX8_lay d1' 0 0 [.inr (.inr 48), .inr (.inr 16)] h (zrv fun h' => J mX10_playUntil d 0 0 Q 0 0 14 [some (.inr (.inr 1)), some (.inl v1), some (.inl v2)] [] h')) : Con mX10_playUntil d 0 0 [.inr (.inr 1), .inl v1, .inl v2] h Q := by
  refine Con.intro rfl (Nat.le_of_ble_eq_true rfl) ?_
  show J mX10_playUntil d 0 0 Q 0 0 0 [some (.inr (.inr 1)), some (.inl v1), some (.inl v2)] [] h
  exact bX10_playUntil_0 hr hd1' (K0)

set_option maxRecDepth 20000 in
theorem t_X10_playUntil_14 {d d1' : Nat} {Q : Option MV → MH → Prop} {h : MH} {v1 v2 : Int32} (hr : zRf h) (hd : 1 ≤ d) (hd1' : d1' + 1 ≤ d) (G0 : vp_in v1 4) (K0 : Con mX8_play d1' 0 0 [.inr (.inr 48), .inr (.inr (22 + 6 * v1.toNatClampNeg)), .inl (-(nI 1)), .inl ((if (4000000 : Int32) < v2 then (4000000 : Int32) else v2) * (nI 256))] h (zrv fun h' => J mX10_playUntil d 0 0 Q 0 0 41 [some (.inr (.inr 1)), some (.inl v1), some (.inl v2)] [] h')) : J mX10_playUntil d 0 0 Q 0 0 14 [some (.inr (.inr 1)), some (.inl v1), some (.inl v2)] [] h := by
  refine bX10_playUntil_14 hr (G0) (by omega) ?_
  exact bX10_playUntil_34 hr hd1' (K0)

set_option maxRecDepth 20000 in
theorem t_X10_playUntil_41 {d  : Nat} {Q : Option MV → MH → Prop} {h : MH} {v1 v2 : Int32} (K0 : Q none h) : J mX10_playUntil d 0 0 Q 0 0 41 [some (.inr (.inr 1)), some (.inl v1), some (.inl v2)] [] h := by
  exact bX10_playUntil_41  (K0)

set_option maxRecDepth 20000 in
theorem t_X10_idle {d d1' : Nat} {Q : Option MV → MH → Prop} {h : MH} {v1 : Int32} (hr : zRf h) (hd : 1 ≤ d) (hd1' : d1' + 1 ≤ d) (K0 : v1 < 0 → Q (some (.inl (-(nI 2)))) h) (K1 : ¬ v1 < 0 → (nI 4) ≤ v1 → Q (some (.inl (-(nI 2)))) h) (K2 : ¬ v1 < 0 → ¬ (nI 4) ≤ v1 → Con mX10_playAsTold d1' 0 0 [.inr (.inr 1), .inl v1] h (zrv fun h' => J mX10_idle d 0 0 Q 0 0 15 [some (.inr (.inr 1)), some (.inl v1)] [] h')) : Con mX10_idle d 0 0 [.inr (.inr 1), .inl v1] h Q := by
  refine Con.intro rfl (Nat.le_of_ble_eq_true rfl) ?_
  show J mX10_idle d 0 0 Q 0 0 0 [some (.inr (.inr 1)), some (.inl v1)] [] h
  refine bX10_idle_0 (d' := 0)  (by omega) ?_
  refine t_X10_isPlan  ?_ ?_ ?_
  · intro p1
    refine bX10_idle_4  (fun c => absurd c (by decide)) (fun _ => ?_)
    exact bX10_idle_7  (K0 p1)
  · intro p2 p3
    refine bX10_idle_4  (fun c => absurd c (by decide)) (fun _ => ?_)
    exact bX10_idle_7  (K1 p2 p3)
  · intro p4 p5
    refine bX10_idle_4  (fun _ => ?_) (fun c => absurd c (by decide))
    exact bX10_idle_10 hr hd1' (K2 p4 p5)

set_option maxRecDepth 20000 in
theorem t_X10_idle_15 {d  : Nat} {Q : Option MV → MH → Prop} {h : MH} {v1 : Int32} (hr : zRf h) (G0 : vp_in v1 4) (K0 : Q (some (.inl ((((nI 1) <<< ((h.1 (22 + 6 * v1.toNatClampNeg) 0) &&& 31)) - (nI 1)) &&& ((h.1 48 11) ^^^ (-(nI 1)))))) h) : J mX10_idle d 0 0 Q 0 0 15 [some (.inr (.inr 1)), some (.inl v1)] [] h := by
  exact bX10_idle_15 hr (G0) (K0)

set_option maxRecDepth 20000 in
theorem t_X10_vain {d d1' : Nat} {Q : Option MV → MH → Prop} {h : MH} {v1 v2 : Int32} (hr : zRf h) (hd : 1 ≤ d) (hd1' : d1' + 1 ≤ d) (K0 : v1 < 0 → Q (some (.inl (-(nI 2)))) h) (K1 : ¬ v1 < 0 → (nI 4) ≤ v1 → Q (some (.inl (-(nI 2)))) h) (K2 : ¬ v1 < 0 → ¬ (nI 4) ≤ v1 → Con mX10_playAsTold d1' 0 0 [.inr (.inr 1), .inl v1] h (zrv fun h' => J mX10_vain d 0 0 Q 0 0 15 [some (.inr (.inr 1)), some (.inl v1), some (.inl v2), none, none] [] h')) : Con mX10_vain d 0 0 [.inr (.inr 1), .inl v1, .inl v2] h Q := by
  refine Con.intro rfl (Nat.le_of_ble_eq_true rfl) ?_
  show J mX10_vain d 0 0 Q 0 0 0 [some (.inr (.inr 1)), some (.inl v1), some (.inl v2), none, none] [] h
  refine bX10_vain_0 (d' := 0)  (by omega) ?_
  refine t_X10_isPlan  ?_ ?_ ?_
  · intro p1
    refine bX10_vain_4  (fun c => absurd c (by decide)) (fun _ => ?_)
    exact bX10_vain_7  (K0 p1)
  · intro p2 p3
    refine bX10_vain_4  (fun c => absurd c (by decide)) (fun _ => ?_)
    exact bX10_vain_7  (K1 p2 p3)
  · intro p4 p5
    refine bX10_vain_4  (fun _ => ?_) (fun c => absurd c (by decide))
    exact bX10_vain_10 hr hd1' (K2 p4 p5)

set_option maxRecDepth 20000 in
theorem t_X10_vain_15 {d  : Nat} {Q : Option MV → MH → Prop} {h : MH} {v1 v2 : Int32} (K0 : J mX10_vain d 0 0 Q 0 0 20 [some (.inr (.inr 1)), some (.inl v1), some (.inl v2), some (.inl (nI 0)), some (.inl (nI 0))] [] h) : J mX10_vain d 0 0 Q 0 0 15 [some (.inr (.inr 1)), some (.inl v1), some (.inl v2), none, none] [] h := by
  refine bX10_vain_15  ?_
  exact K0

set_option maxRecDepth 20000 in
theorem t_X10_vain_20 {d  : Nat} {Q : Option MV → MH → Prop} {h : MH} {v1 v2 v3 v4 : Int32} (hr : zRf h) (K0 : (nI 40) ≤ v4 → Q (some (.inl (-(nI 1)))) h) (K1 : ¬ (nI 40) ≤ v4 → (lg_cmp ((((h.2.1 48 10).toUInt64 >>> (v4.toInt64.toUInt64 &&& Int64.toUInt64 63)).toInt64) &&& (lN 1)) (lN 0)) = 0 → J mX10_vain d 0 0 Q 0 0 20 [some (.inr (.inr 1)), some (.inl v1), some (.inl v2), some (.inl v3), some (.inl (v4 + nI 1))] [] h) (K2 : ¬ (nI 40) ≤ v4 → ¬ (lg_cmp ((((h.2.1 48 10).toUInt64 >>> (v4.toInt64.toUInt64 &&& Int64.toUInt64 63)).toInt64) &&& (lN 1)) (lN 0)) = 0 → ¬ v3 = v2 → J mX10_vain d 0 0 Q 0 0 20 [some (.inr (.inr 1)), some (.inl v1), some (.inl v2), some (.inl (v3 + nI 1)), some (.inl (v4 + nI 1))] [] h) (K3 : ¬ (nI 40) ≤ v4 → ¬ (lg_cmp ((((h.2.1 48 10).toUInt64 >>> (v4.toInt64.toUInt64 &&& Int64.toUInt64 63)).toInt64) &&& (lN 1)) (lN 0)) = 0 → v3 = v2 → Q (some (.inl v4)) h) : J mX10_vain d 0 0 Q 0 0 20 [some (.inr (.inr 1)), some (.inl v1), some (.inl v2), some (.inl v3), some (.inl v4)] [] h := by
  refine bX10_vain_20  (fun p1 => ?_) (fun p1 => ?_)
  · exact bX10_vain_61  (K0 p1)
  · refine bX10_vain_27 hr (fun p2 => ?_) (fun p2 => ?_)
    · refine bX10_vain_55  ?_
      exact K1 p1 p2
    · refine bX10_vain_44  (fun p3 => ?_) (fun p3 => ?_)
      · refine bX10_vain_52  ?_
        refine bX10_vain_55  ?_
        exact K2 p1 p2 p3
      · exact bX10_vain_49  (K3 p1 p2 p3)

set_option maxRecDepth 20000 in
theorem t_X10_spare {d d1' : Nat} {Q : Option MV → MH → Prop} {h : MH} {v1 v2 : Int32} (hr : zRf h) (hd : 1 ≤ d) (hd1' : d1' + 1 ≤ d) (K0 : v1 < 0 → Q (some (.inl (-(nI 2)))) h) (K1 : ¬ v1 < 0 → (nI 4) ≤ v1 → Q (some (.inl (-(nI 2)))) h) (K2 : ¬ v1 < 0 → ¬ (nI 4) ≤ v1 → Con mX10_playAsTold d1' 0 0 [.inr (.inr 1), .inl v1] h (zrv fun h' => J mX10_spare d 0 0 Q 0 0 15 [some (.inr (.inr 1)), some (.inl v1), some (.inl v2), none, none, none] [] h')) : Con mX10_spare d 0 0 [.inr (.inr 1), .inl v1, .inl v2] h Q := by
  refine Con.intro rfl (Nat.le_of_ble_eq_true rfl) ?_
  show J mX10_spare d 0 0 Q 0 0 0 [some (.inr (.inr 1)), some (.inl v1), some (.inl v2), none, none, none] [] h
  refine bX10_spare_0 (d' := 0)  (by omega) ?_
  refine t_X10_isPlan  ?_ ?_ ?_
  · intro p1
    refine bX10_spare_4  (fun c => absurd c (by decide)) (fun _ => ?_)
    exact bX10_spare_7  (K0 p1)
  · intro p2 p3
    refine bX10_spare_4  (fun c => absurd c (by decide)) (fun _ => ?_)
    exact bX10_spare_7  (K1 p2 p3)
  · intro p4 p5
    refine bX10_spare_4  (fun _ => ?_) (fun c => absurd c (by decide))
    exact bX10_spare_10 hr hd1' (K2 p4 p5)

set_option maxRecDepth 20000 in
theorem t_X10_spare_15 {d d1' : Nat} {Q : Option MV → MH → Prop} {h : MH} {v1 v2 : Int32} (hr : zRf h) (hd1' : d1' + 1 ≤ d) (K0 : Con mX10_keepBells d1' 0 0 [.inr (.inr 1)] h (zri fun (x : Int32) h' => J mX10_spare d 0 0 Q 0 0 19 [some (.inr (.inr 1)), some (.inl v1), some (.inl v2), none, none, none] [.inl x] h')) : J mX10_spare d 0 0 Q 0 0 15 [some (.inr (.inr 1)), some (.inl v1), some (.inl v2), none, none, none] [] h := by
  exact bX10_spare_15 hr hd1' (K0)

set_option maxRecDepth 20000 in
theorem t_X10_spare_19 {d  : Nat} {Q : Option MV → MH → Prop} {h : MH} {v1 v2 vs0 : Int32} (K0 : J mX10_spare d 0 0 Q 0 0 26 [some (.inr (.inr 1)), some (.inl v1), some (.inl v2), some (.inl vs0), some (.inl (nI 0)), some (.inl (nI 0))] [] h) : J mX10_spare d 0 0 Q 0 0 19 [some (.inr (.inr 1)), some (.inl v1), some (.inl v2), none, none, none] [.inl vs0] h := by
  refine bX10_spare_19  ?_
  exact K0

set_option maxRecDepth 20000 in
theorem t_X10_spare_26 {d d1' : Nat} {Q : Option MV → MH → Prop} {h : MH} {v1 v2 v3 v4 v5 : Int32} (hr : zRf h) (hd1' : d1' + 1 ≤ d) (G0 : vp_in v1 4) (K0 : (h.1 (22 + 6 * v1.toNatClampNeg) 1) ≤ v5 → Q (some (.inl (-(nI 1)))) h) (K1 : ¬ (h.1 (22 + 6 * v1.toNatClampNeg) 1) ≤ v5 → Con mX8_play d1' 0 0 [.inr (.inr 48), .inr (.inr (22 + 6 * v1.toNatClampNeg)), .inl v5, .inl (1024000000 : Int32)] h (zrv fun h' => J mX10_spare d 0 0 Q 0 0 63 [some (.inr (.inr 1)), some (.inl v1), some (.inl v2), some (.inl v3), some (.inl v4), some (.inl v5)] [] h')) : J mX10_spare d 0 0 Q 0 0 26 [some (.inr (.inr 1)), some (.inl v1), some (.inl v2), some (.inl v3), some (.inl v4), some (.inl v5)] [] h := by
  refine bX10_spare_26 hr (G0) (fun p1 => ?_) (fun p1 => ?_)
  · exact bX10_spare_89  (K0 p1)
  · exact bX10_spare_43 hr (G0) hd1' (K1 p1)

set_option maxRecDepth 20000 in
theorem t_X10_spare_63 {d d1' : Nat} {Q : Option MV → MH → Prop} {h : MH} {v1 v2 v3 v4 v5 : Int32} (hr : zRf h) (hd1' : d1' + 1 ≤ d) (K0 : Con mX10_ringsAsKept d1' 0 0 [.inr (.inr 1), .inl v3] h (zri fun (x : Int32) h' => J mX10_spare d 0 0 Q 0 0 68 [some (.inr (.inr 1)), some (.inl v1), some (.inl v2), some (.inl v3), some (.inl v4), some (.inl v5)] [.inl x] h')) : J mX10_spare d 0 0 Q 0 0 63 [some (.inr (.inr 1)), some (.inl v1), some (.inl v2), some (.inl v3), some (.inl v4), some (.inl v5)] [] h := by
  exact bX10_spare_63 hr hd1' (K0)

set_option maxRecDepth 20000 in
theorem t_X10_spare_68 {d  : Nat} {Q : Option MV → MH → Prop} {h : MH} {v1 v2 v3 v4 v5 vs0 : Int32} (K0 : vs0 = 0 → J mX10_spare d 0 0 Q 0 0 26 [some (.inr (.inr 1)), some (.inl v1), some (.inl v2), some (.inl v3), some (.inl v4), some (.inl (v5 + nI 1))] [] h) (K1 : ¬ vs0 = 0 → ¬ v4 = v2 → J mX10_spare d 0 0 Q 0 0 26 [some (.inr (.inr 1)), some (.inl v1), some (.inl v2), some (.inl v3), some (.inl (v4 + nI 1)), some (.inl (v5 + nI 1))] [] h) (K2 : ¬ vs0 = 0 → v4 = v2 → Q (some (.inl v5)) h) : J mX10_spare d 0 0 Q 0 0 68 [some (.inr (.inr 1)), some (.inl v1), some (.inl v2), some (.inl v3), some (.inl v4), some (.inl v5)] [.inl vs0] h := by
  refine bX10_spare_68  (fun p1 => ?_) (fun p1 => ?_)
  · refine bX10_spare_83  ?_
    exact K0 p1
  · refine bX10_spare_71  (fun p2 => ?_) (fun p2 => ?_)
    · refine bX10_spare_80  ?_
      refine bX10_spare_83  ?_
      exact K1 p1 p2
    · exact bX10_spare_77  (K2 p1 p2)

set_option maxRecDepth 20000 in
theorem t_X10_keepBells {d  : Nat} {Q : Option MV → MH → Prop} {h : MH} (hr : zRf h) (hd : 1 ≤ d) (K0 : Q (some (.inl ((zcI h 56 57 0 0 40).1 48 9))) (zcI h 56 57 0 0 40)) : Con mX10_keepBells d 0 0 [.inr (.inr 1)] h Q := by
  refine Con.intro rfl (Nat.le_of_ble_eq_true rfl) ?_
  show J mX10_keepBells d 0 0 Q 0 0 0 [some (.inr (.inr 1))] [] h
  refine bX10_keepBells_0 hr (by omega) ?_
  exact bX10_keepBells_18 hr (K0)

set_option maxRecDepth 20000 in
theorem t_X10_ringsAsKept {d  : Nat} {Q : Option MV → MH → Prop} {h : MH} {v1 : Int32} (hr : zRf h) (K0 : (h.1 48 9) = v1 → J mX10_ringsAsKept d 0 0 Q 0 0 15 [some (.inr (.inr 1)), some (.inl v1), some (.inl (nI 0))] [] h) (K1 : ¬ (h.1 48 9) = v1 → Q (some (.inl (nI 0))) h) : Con mX10_ringsAsKept d 0 0 [.inr (.inr 1), .inl v1] h Q := by
  refine Con.intro rfl (Nat.le_of_ble_eq_true rfl) ?_
  show J mX10_ringsAsKept d 0 0 Q 0 0 0 [some (.inr (.inr 1)), some (.inl v1), none] [] h
  refine bX10_ringsAsKept_0 hr (fun p1 => ?_) (fun p1 => ?_)
  · refine bX10_ringsAsKept_13  ?_
    exact K0 p1
  · exact bX10_ringsAsKept_11  (K1 p1)

set_option maxRecDepth 20000 in
theorem t_X10_ringsAsKept_15 {d  : Nat} {Q : Option MV → MH → Prop} {h : MH} {v1 v2 : Int32} (hr : zRf h) (G0 : ¬ (h.1 48 9) ≤ v2 → vp_in v2 40) (K0 : (h.1 48 9) ≤ v2 → Q (some (.inl (nI 1))) h) (K1 : ¬ (h.1 48 9) ≤ v2 → (h.1 56 v2.toNatClampNeg) = (h.1 57 v2.toNatClampNeg) → J mX10_ringsAsKept d 0 0 Q 0 0 15 [some (.inr (.inr 1)), some (.inl v1), some (.inl (v2 + nI 1))] [] h) (K2 : ¬ (h.1 48 9) ≤ v2 → ¬ (h.1 56 v2.toNatClampNeg) = (h.1 57 v2.toNatClampNeg) → Q (some (.inl (nI 0))) h) : J mX10_ringsAsKept d 0 0 Q 0 0 15 [some (.inr (.inr 1)), some (.inl v1), some (.inl v2)] [] h := by
  refine bX10_ringsAsKept_15 hr (fun p1 => ?_) (fun p1 => ?_)
  · exact bX10_ringsAsKept_52  (K0 p1)
  · refine bX10_ringsAsKept_26 hr (G0 p1) (fun p2 => ?_) (fun p2 => ?_)
    · refine bX10_ringsAsKept_46  ?_
      exact K1 p1 p2
    · exact bX10_ringsAsKept_44  (K2 p1 p2)

set_option maxRecDepth 20000 in
theorem t_X10_would {d d1' : Nat} {Q : Option MV → MH → Prop} {h : MH} {v1 v2 v3 v4 : Int32} (hr : zRf h) (hd : 1 ≤ d) (hd1' : d1' + 1 ≤ d) (K0 : v1 < 0 → Q (some (.inl (-(nI 2)))) h) (K1 : ¬ v1 < 0 → (nI 4) ≤ v1 → Q (some (.inl (-(nI 2)))) h) (K2 : ¬ v1 < 0 → ¬ (nI 4) ≤ v1 → v3 < 0 → Q (some (.inl (-(nI 2)))) h) (K3 : ¬ v1 < 0 → ¬ (nI 4) ≤ v1 → ¬ v3 < 0 → (h.1 16 0) ≤ v3 → Q (some (.inl (-(nI 2)))) h) (K4 : ¬ v1 < 0 → ¬ (nI 4) ≤ v1 → ¬ v3 < 0 → ¬ (h.1 16 0) ≤ v3 → Con mX2_sparksOf d1' 0 0 [.inr (.inr 16), .inl v3] h (zri fun (x : Int32) h' => J mX10_would d 0 0 Q 0 0 35 [some (.inr (.inr 1)), some (.inl v1), some (.inl v2), some (.inl v3), some (.inl v4), none, none] [.inl x] h')) : Con mX10_would d 0 0 [.inr (.inr 1), .inl v1, .inl v2, .inl v3, .inl v4] h Q := by
  refine Con.intro rfl (Nat.le_of_ble_eq_true rfl) ?_
  show J mX10_would d 0 0 Q 0 0 0 [some (.inr (.inr 1)), some (.inl v1), some (.inl v2), some (.inl v3), some (.inl v4), none, none] [] h
  refine bX10_would_0 (d' := 0)  (by omega) ?_
  refine t_X10_isPlan  ?_ ?_ ?_
  · intro p1
    refine bX10_would_4  (fun _ => ?_) (fun c => absurd c (by decide))
    exact bX10_would_21  (K0 p1)
  · intro p2 p3
    refine bX10_would_4  (fun _ => ?_) (fun c => absurd c (by decide))
    exact bX10_would_21  (K1 p2 p3)
  · intro p4 p5
    refine bX10_would_4  (fun c => absurd c (by decide)) (fun _ => ?_)
    refine bX10_would_7 (d' := 0) hr (by omega) ?_
    refine t_X2_has ?_ ?_ ?_ ?_
    · intro p6; exact (zo hr (by decide) rfl)
    · intro p7
      refine bX10_would_18  (fun c => absurd c (by decide)) (fun _ => ?_)
      exact bX10_would_21  (K2 p4 p5 p7)
    · intro p8 p9
      refine bX10_would_18  (fun c => absurd c (by decide)) (fun _ => ?_)
      exact bX10_would_21  (K3 p4 p5 p8 p9)
    · intro p10 p11
      refine bX10_would_18  (fun _ => ?_) (fun c => absurd c (by decide))
      exact bX10_would_24 hr hd1' (K4 p4 p5 p10 p11)

set_option maxRecDepth 20000 in
theorem t_X10_would_35 {d d1' : Nat} {Q : Option MV → MH → Prop} {h : MH} {v1 v2 v3 v4 vs0 : Int32} (hr : zRf h) (hd1' : d1' + 1 ≤ d) (K0 : (lg_cmp (vs0.toInt64 + v4.toInt64) (lN 1)) < 0 → Q (some (.inl (-(nI 3)))) h) (K1 : ¬ (lg_cmp (vs0.toInt64 + v4.toInt64) (lN 1)) < 0 → (lg_cmp (vs0.toInt64 + v4.toInt64) (200000 : Int64)) ≤ 0 → Con mX8_lay d1' 0 0 [.inr (.inr 48), .inr (.inr 16)] h (zrv fun h' => J mX10_would d 0 0 Q 0 0 75 [some (.inr (.inr 1)), some (.inl v1), some (.inl v2), some (.inl v3), some (.inl v4), some (.inr (.inl (vs0.toInt64 + v4.toInt64))), none] [] h')) (K2 : ¬ (lg_cmp (vs0.toInt64 + v4.toInt64) (lN 1)) < 0 → ¬ (lg_cmp (vs0.toInt64 + v4.toInt64) (200000 : Int64)) ≤ 0 → Q (some (.inl (-(nI 3)))) h) : J mX10_would d 0 0 Q 0 0 35 [some (.inr (.inr 1)), some (.inl v1), some (.inl v2), some (.inl v3), some (.inl v4), none, none] [.inl vs0] h := by
  refine bX10_would_35  (fun p1 => ?_) (fun p1 => ?_)
  · exact bX10_would_58  (K0 p1)
  · refine bX10_would_49  (fun p2 => ?_) (fun p2 => ?_)
    · exact bX10_would_61 hr hd1' (K1 p1 p2)
    · exact bX10_would_58  (K2 p1 p2)

set_option maxRecDepth 20000 in
theorem t_X10_would_75 {d d1' : Nat} {Q : Option MV → MH → Prop} {h : MH} {v1 v2 v3 v4 : Int32} {v5 : Int64} (hr : zRf h) (hd1' : d1' + 1 ≤ d) (G0 : vp_in v3 8) (G1 : vp_in v1 4) (K0 : Con mX8_play d1' 0 0 [.inr (.inr 48), .inr (.inr (22 + 6 * v1.toNatClampNeg)), .inl (-(nI 1)), .inl (1024000000 : Int32)] (zsI h 49 v3.toNatClampNeg (v5.toInt32 * (nI 256))) (zrv fun h' => J mX10_would d 0 0 Q 0 0 110 [some (.inr (.inr 1)), some (.inl v1), some (.inl v2), some (.inl v3), some (.inl v4), some (.inr (.inl v5)), none] [] h')) : J mX10_would d 0 0 Q 0 0 75 [some (.inr (.inr 1)), some (.inl v1), some (.inl v2), some (.inl v3), some (.inl v4), some (.inr (.inl v5)), none] [] h := by
  exact bX10_would_75 hr (G0) (G1) hd1' (K0)

set_option maxRecDepth 20000 in
theorem t_X10_would_110 {d  : Nat} {Q : Option MV → MH → Prop} {h : MH} {v1 v2 v3 v4 : Int32} {v5 : Int64} (hr : zRf h) (hd : 1 ≤ d) (G0 : ¬ v2 < 0 → ¬ (h.1 48 9) ≤ v2 → vp_in v2 40) (K0 : v2 < 0 → Q (some (.inl (-(nI 1)))) h) (K1 : ¬ v2 < 0 → (h.1 48 9) ≤ v2 → Q (some (.inl (-(nI 1)))) h) (K2 : ¬ v2 < 0 → ¬ (h.1 48 9) ≤ v2 → Q (some (.inl ((h.1 56 v2.toNatClampNeg) / (nI 256)))) h) : J mX10_would d 0 0 Q 0 0 110 [some (.inr (.inr 1)), some (.inl v1), some (.inl v2), some (.inl v3), some (.inl v4), some (.inr (.inl v5)), none] [] h := by
  refine bX10_would_110 (d' := 0) hr (by omega) ?_
  refine t_X8_bellAt hr ?_ ?_ ?_ ?_
  · intro p1 p2; exact (G0 p1 p2)
  · intro p3
    exact bX10_would_118  (K0 p3)
  · intro p4 p5
    exact bX10_would_118  (K1 p4 p5)
  · intro p6 p7
    exact bX10_would_118  (K2 p6 p7)

set_option maxRecDepth 20000 in
theorem t_X10_off {d d1' : Nat} {Q : Option MV → MH → Prop} {h : MH} {v1 v2 v3 : Int32} (hr : zRf h) (hd : 1 ≤ d) (hd1' : d1' + 1 ≤ d) (G0 : ¬ v1 < 0 → ¬ (nI 4) ≤ v1 → ¬ v3 < 0 → v3 ≤ (nI 1) → 0 ≤ v2 → (h.1 58 0) = v1 → v2 < (h.1 58 1) → ¬ v3 = 0 → vp_in v2 40) (G1 : ¬ v1 < 0 → ¬ (nI 4) ≤ v1 → ¬ v3 < 0 → v3 ≤ (nI 1) → 0 ≤ v2 → (h.1 58 0) = v1 → v2 < (h.1 58 1) → v3 = 0 → vp_in v2 40) (G2 : ¬ v1 < 0 → ¬ (nI 4) ≤ v1 → ¬ v3 < 0 → v3 ≤ (nI 1) → 0 ≤ v2 → ¬ (h.1 58 0) = v1 → vp_in v1 4) (K0 : v1 < 0 → Q (some (.inl (-(nI 2)))) h) (K1 : ¬ v1 < 0 → (nI 4) ≤ v1 → Q (some (.inl (-(nI 2)))) h) (K2 : ¬ v1 < 0 → ¬ (nI 4) ≤ v1 → v3 < 0 → Q (some (.inl (-(nI 2)))) h) (K3 : ¬ v1 < 0 → ¬ (nI 4) ≤ v1 → ¬ v3 < 0 → v3 ≤ (nI 1) → 0 ≤ v2 → (h.1 58 0) = v1 → v2 < (h.1 58 1) → ¬ v3 = 0 → Q (some (.inl ((h.1 60 v2.toNatClampNeg) / (nI 256)))) h) (K4 : ¬ v1 < 0 → ¬ (nI 4) ≤ v1 → ¬ v3 < 0 → v3 ≤ (nI 1) → 0 ≤ v2 → (h.1 58 0) = v1 → v2 < (h.1 58 1) → v3 = 0 → Q (some (.inl ((h.1 59 v2.toNatClampNeg) / (nI 256)))) h) (K5 : ¬ v1 < 0 → ¬ (nI 4) ≤ v1 → ¬ v3 < 0 → v3 ≤ (nI 1) → 0 ≤ v2 → (h.1 58 0) = v1 → ¬ v2 < (h.1 58 1) → Q (some (.inl (-(nI 1)))) h) (K6 : ¬ v1 < 0 → ¬ (nI 4) ≤ v1 → ¬ v3 < 0 → v3 ≤ (nI 1) → 0 ≤ v2 → ¬ (h.1 58 0) = v1 → Con mX4_tryAll d1' 0 0 [.inr (.inr 58), .inr (.inr 48), .inr (.inr 16), .inr (.inr (22 + 6 * v1.toNatClampNeg))] h (zrv fun h' => J mX10_off d 0 0 Q 0 0 64 [some (.inr (.inr 1)), some (.inl v1), some (.inl v2), some (.inl v3)] [] h')) (K7 : ¬ v1 < 0 → ¬ (nI 4) ≤ v1 → ¬ v3 < 0 → v3 ≤ (nI 1) → ¬ 0 ≤ v2 → Q (some (.inl (-(nI 3)))) h) (K8 : ¬ v1 < 0 → ¬ (nI 4) ≤ v1 → ¬ v3 < 0 → ¬ v3 ≤ (nI 1) → Q (some (.inl (-(nI 2)))) h) : Con mX10_off d 0 0 [.inr (.inr 1), .inl v1, .inl v2, .inl v3] h Q := by
  refine Con.intro rfl (Nat.le_of_ble_eq_true rfl) ?_
  show J mX10_off d 0 0 Q 0 0 0 [some (.inr (.inr 1)), some (.inl v1), some (.inl v2), some (.inl v3)] [] h
  refine bX10_off_0 (d' := 0)  (by omega) ?_
  refine t_X10_isPlan  ?_ ?_ ?_
  · intro p1
    refine bX10_off_4  (fun _ => ?_) (fun c => absurd c (by decide))
    exact bX10_off_16  (K0 p1)
  · intro p2 p3
    refine bX10_off_4  (fun _ => ?_) (fun c => absurd c (by decide))
    exact bX10_off_16  (K1 p2 p3)
  · intro p4 p5
    refine bX10_off_4  (fun c => absurd c (by decide)) (fun _ => ?_)
    refine bX10_off_7  (fun p6 => ?_) (fun p6 => ?_)
    · exact bX10_off_16  (K2 p4 p5 p6)
    · refine bX10_off_11  (fun p7 => ?_) (fun p7 => ?_)
      · refine bX10_off_19  (fun p8 => ?_) (fun p8 => ?_)
        · refine bX10_off_26 hr (fun p9 => ?_) (fun p9 => ?_)
          · refine bX10_off_72 hr (fun p10 => ?_) (fun p10 => ?_)
            · refine bX10_off_85  (fun p11 => ?_) (fun p11 => ?_)
              · refine bX10_off_101 hr (G0 p4 p5 p6 p7 p8 p9 p10 p11) ?_
                exact bX10_off_110  (K3 p4 p5 p6 p7 p8 p9 p10 p11)
              · refine bX10_off_89 hr (G1 p4 p5 p6 p7 p8 p9 p10 p11) ?_
                exact bX10_off_110  (K4 p4 p5 p6 p7 p8 p9 p10 p11)
            · exact bX10_off_83  (K5 p4 p5 p6 p7 p8 p9 p10)
          · exact bX10_off_37 hr (G2 p4 p5 p6 p7 p8 p9) hd1' (K6 p4 p5 p6 p7 p8 p9)
        · exact bX10_off_23  (K7 p4 p5 p6 p7 p8)
      · exact bX10_off_16  (K8 p4 p5 p6 p7)

set_option maxRecDepth 20000 in
theorem t_X10_off_64 {d  : Nat} {Q : Option MV → MH → Prop} {h : MH} {v1 v2 v3 : Int32} (hr : zRf h) (G0 : v2 < ((zsI h 58 0 v1).1 58 1) → ¬ v3 = 0 → vp_in v2 40) (G1 : v2 < ((zsI h 58 0 v1).1 58 1) → v3 = 0 → vp_in v2 40) (K0 : v2 < ((zsI h 58 0 v1).1 58 1) → ¬ v3 = 0 → Q (some (.inl (((zsI h 58 0 v1).1 60 v2.toNatClampNeg) / (nI 256)))) (zsI h 58 0 v1)) (K1 : v2 < ((zsI h 58 0 v1).1 58 1) → v3 = 0 → Q (some (.inl (((zsI h 58 0 v1).1 59 v2.toNatClampNeg) / (nI 256)))) (zsI h 58 0 v1)) (K2 : ¬ v2 < ((zsI h 58 0 v1).1 58 1) → Q (some (.inl (-(nI 1)))) (zsI h 58 0 v1)) : J mX10_off d 0 0 Q 0 0 64 [some (.inr (.inr 1)), some (.inl v1), some (.inl v2), some (.inl v3)] [] h := by
  refine bX10_off_64 hr ?_
  refine bX10_off_72 hr (fun p1 => ?_) (fun p1 => ?_)
  · refine bX10_off_85  (fun p2 => ?_) (fun p2 => ?_)
    · refine bX10_off_101 hr (G0 p1 p2) ?_
      exact bX10_off_110  (K0 p1 p2)
    · refine bX10_off_89 hr (G1 p1 p2) ?_
      exact bX10_off_110  (K1 p1 p2)
  · exact bX10_off_83  (K2 p1)

set_option maxRecDepth 20000 in
theorem t_X10_night {d d1' : Nat} {Q : Option MV → MH → Prop} {h : MH} {v1 v2 v3 : Int32} (hr : zRf h) (hd : 1 ≤ d) (hd1' : d1' + 1 ≤ d) (K0 : v1 < 0 → Q (some (.inl (-(nI 2)))) h) (K1 : ¬ v1 < 0 → (nI 4) ≤ v1 → Q (some (.inl (-(nI 2)))) h) (K2 : ¬ v1 < 0 → ¬ (nI 4) ≤ v1 → Con mX8_lay d1' 0 0 [.inr (.inr 48), .inr (.inr 16)] h (zrv fun h' => J mX10_night d 0 0 Q 0 0 24 [some (.inr (.inr 1)), some (.inl v1), some (.inl v2), some (.inl v3), none, none, none, none] [] h')) : Con mX10_night d 0 0 [.inr (.inr 1), .inl v1, .inl v2, .inl v3] h Q := by
  refine Con.intro rfl (Nat.le_of_ble_eq_true rfl) ?_
  show J mX10_night d 0 0 Q 0 0 0 [some (.inr (.inr 1)), some (.inl v1), some (.inl v2), some (.inl v3), none, none, none, none] [] h
  refine bX10_night_0 (d' := 0)  (by omega) ?_
  refine t_X10_isPlan  ?_ ?_ ?_
  · intro p1
    refine bX10_night_4  (fun c => absurd c (by decide)) (fun _ => ?_)
    exact bX10_night_7  (K0 p1)
  · intro p2 p3
    refine bX10_night_4  (fun c => absurd c (by decide)) (fun _ => ?_)
    exact bX10_night_7  (K1 p2 p3)
  · intro p4 p5
    refine bX10_night_4  (fun _ => ?_) (fun c => absurd c (by decide))
    exact bX10_night_10 hr hd1' (K2 p4 p5)

set_option maxRecDepth 20000 in
theorem t_X10_night_24 {d  : Nat} {Q : Option MV → MH → Prop} {h : MH} {v1 v2 v3 : Int32} (K0 : J mX10_night d 0 0 Q 0 0 30 [some (.inr (.inr 1)), some (.inl v1), some (.inl v2), some (.inl v3), some (.inl v2), some (.inl (nI 0)), none, none] [] h) : J mX10_night d 0 0 Q 0 0 24 [some (.inr (.inr 1)), some (.inl v1), some (.inl v2), some (.inl v3), none, none, none, none] [] h := by
  refine bX10_night_24  ?_
  exact K0

set_option maxRecDepth 20000 in
theorem t_X10_night_30 {d d1' d2' : Nat} {Q : Option MV → MH → Prop} {h : MH} {u6 u7 : Option MV} {v1 v2 v3 v4 v5 : Int32} (hr : zRf h) (hd1' : d1' + 1 ≤ d) (hd2' : d2' + 1 ≤ d) (G0 : (h.1 16 0) ≤ v5 → vp_in v1 4) (G1 : ¬ (h.1 16 0) ≤ v5 → vp_in v5 8) (G2 : ¬ (h.1 16 0) ≤ v5 → ¬ (((nI 2) * (h.1 20 v5.toNatClampNeg)) + (nI 1)) = 0) (K0 : (h.1 16 0) ≤ v5 → Con mX8_play d1' 0 0 [.inr (.inr 48), .inr (.inr (22 + 6 * v1.toNatClampNeg)), .inl (-(nI 1)), .inl (1024000000 : Int32)] h (zrv fun h' => J mX10_night d 0 0 Q 0 0 149 [some (.inr (.inr 1)), some (.inl v1), some (.inl v2), some (.inl v3), some (.inl v4), some (.inl v5), u6, u7] [] h')) (K1 : ¬ (h.1 16 0) ≤ v5 → Con mX2_sparksOf d2' 0 0 [.inr (.inr 16), .inl v5] h (zri fun (x : Int32) h' => J mX10_night d 0 0 Q 0 0 113 [some (.inr (.inr 1)), some (.inl v1), some (.inl v2), some (.inl v3), some (.inl (((1103515245 : Int32) * v4) + (nI 12345))), some (.inl v5), some (.inl (h.1 20 v5.toNatClampNeg)), some (.inl (((nI 100) + ((((((1103515245 : Int32) * v4) + (nI 12345)).toUInt32 >>> ((nI 16).toUInt32 &&& Int32.toUInt32 31)).toInt32) - (((((1103515245 : Int32) * v4) + (nI 12345)).toUInt32 >>> ((nI 16).toUInt32 &&& Int32.toUInt32 31)).toInt32) / (((nI 2) * (h.1 20 v5.toNatClampNeg)) + (nI 1)) * (((nI 2) * (h.1 20 v5.toNatClampNeg)) + (nI 1)))) - (h.1 20 v5.toNatClampNeg)))] [.inl x, .inl v5, .inr (.inr 49)] h')) : J mX10_night d 0 0 Q 0 0 30 [some (.inr (.inr 1)), some (.inl v1), some (.inl v2), some (.inl v3), some (.inl v4), some (.inl v5), u6, u7] [] h := by
  refine bX10_night_30 hr (fun p1 => ?_) (fun p1 => ?_)
  · exact bX10_night_130 hr (G0 p1) hd1' (K0 p1)
  · exact bX10_night_45 hr (G1 p1) (G2 p1) hd2' (K1 p1)

set_option maxRecDepth 20000 in
theorem t_X10_night_113 {d  : Nat} {Q : Option MV → MH → Prop} {h : MH} {v1 v2 v3 v4 v5 v6 v7 vs1 vs2 : Int32} {vs0 : Nat} (G0 : zokA h vs0 20 vs1) (K0 : J mX10_night d 0 0 Q 0 0 30 [some (.inr (.inr 1)), some (.inl v1), some (.inl v2), some (.inl v3), some (.inl v4), some (.inl (v5 + nI 1)), some (.inl v6), some (.inl v7)] [] (zsI h vs0 vs1.toNatClampNeg (((vs2 * v7) / (nI 100)) * (nI 256)))) : J mX10_night d 0 0 Q 0 0 113 [some (.inr (.inr 1)), some (.inl v1), some (.inl v2), some (.inl v3), some (.inl v4), some (.inl v5), some (.inl v6), some (.inl v7)] [.inl vs2, .inl vs1, .inr (.inr vs0)] h := by
  refine bX10_night_113 (G0) ?_
  exact K0

set_option maxRecDepth 20000 in
theorem t_X10_night_149 {d  : Nat} {Q : Option MV → MH → Prop} {h : MH} {u6 u7 : Option MV} {v1 v2 v3 v4 v5 : Int32} (hr : zRf h) (hd : 1 ≤ d) (G0 : ¬ v3 < 0 → ¬ (h.1 48 9) ≤ v3 → vp_in v3 40) (K0 : v3 < 0 → Q (some (.inl (-(nI 1)))) h) (K1 : ¬ v3 < 0 → (h.1 48 9) ≤ v3 → Q (some (.inl (-(nI 1)))) h) (K2 : ¬ v3 < 0 → ¬ (h.1 48 9) ≤ v3 → Q (some (.inl ((h.1 56 v3.toNatClampNeg) / (nI 256)))) h) : J mX10_night d 0 0 Q 0 0 149 [some (.inr (.inr 1)), some (.inl v1), some (.inl v2), some (.inl v3), some (.inl v4), some (.inl v5), u6, u7] [] h := by
  refine bX10_night_149 (d' := 0) hr (by omega) ?_
  refine t_X8_bellAt hr ?_ ?_ ?_ ?_
  · intro p1 p2; exact (G0 p1 p2)
  · intro p3
    exact bX10_night_157  (K0 p3)
  · intro p4 p5
    exact bX10_night_157  (K1 p4 p5)
  · intro p6 p7
    exact bX10_night_157  (K2 p6 p7)

set_option maxRecDepth 20000 in
theorem t_X10_chime {d d1' : Nat} {Q : Option MV → MH → Prop} {h : MH} {v1 v2 : Int32} (hr : zRf h) (hd : 1 ≤ d) (hd1' : d1' + 1 ≤ d) (K0 : v1 < 0 → Q (some (.inl (-(nI 2)))) h) (K1 : ¬ v1 < 0 → (nI 4) ≤ v1 → Q (some (.inl (-(nI 2)))) h) (K2 : ¬ v1 < 0 → ¬ (nI 4) ≤ v1 → v2 < 0 → Q (some (.inl (-(nI 2)))) h) (K3 : ¬ v1 < 0 → ¬ (nI 4) ≤ v1 → ¬ v2 < 0 → (nI 4) ≤ v2 → Q (some (.inl (-(nI 2)))) h) (K4 : ¬ v1 < 0 → ¬ (nI 4) ≤ v1 → ¬ v2 < 0 → ¬ (nI 4) ≤ v2 → Con mX10_playAsTold d1' 0 0 [.inr (.inr 1), .inl v1] h (zrv fun h' => J mX10_chime d 0 0 Q 0 0 22 [some (.inr (.inr 1)), some (.inl v1), some (.inl v2), none, none, none, none] [] h')) : Con mX10_chime d 0 0 [.inr (.inr 1), .inl v1, .inl v2] h Q := by
  refine Con.intro rfl (Nat.le_of_ble_eq_true rfl) ?_
  show J mX10_chime d 0 0 Q 0 0 0 [some (.inr (.inr 1)), some (.inl v1), some (.inl v2), none, none, none, none] [] h
  refine bX10_chime_0 (d' := 0)  (by omega) ?_
  refine t_X10_isPlan  ?_ ?_ ?_
  · intro p1
    refine bX10_chime_4  (fun _ => ?_) (fun c => absurd c (by decide))
    exact bX10_chime_14  (K0 p1)
  · intro p2 p3
    refine bX10_chime_4  (fun _ => ?_) (fun c => absurd c (by decide))
    exact bX10_chime_14  (K1 p2 p3)
  · intro p4 p5
    refine bX10_chime_4  (fun c => absurd c (by decide)) (fun _ => ?_)
    refine bX10_chime_7 (d' := 0)  (by omega) ?_
    refine t_X10_isPlan  ?_ ?_ ?_
    · intro p6
      refine bX10_chime_11  (fun c => absurd c (by decide)) (fun _ => ?_)
      exact bX10_chime_14  (K2 p4 p5 p6)
    · intro p7 p8
      refine bX10_chime_11  (fun c => absurd c (by decide)) (fun _ => ?_)
      exact bX10_chime_14  (K3 p4 p5 p7 p8)
    · intro p9 p10
      refine bX10_chime_11  (fun _ => ?_) (fun c => absurd c (by decide))
      exact bX10_chime_17 hr hd1' (K4 p4 p5 p9 p10)

set_option maxRecDepth 20000 in
theorem t_X10_chime_22 {d d1' : Nat} {Q : Option MV → MH → Prop} {h : MH} {v1 v2 : Int32} (hr : zRf h) (hd1' : d1' + 1 ≤ d) (K0 : Con mX10_keepBells d1' 0 0 [.inr (.inr 1)] h (zri fun (x : Int32) h' => J mX10_chime d 0 0 Q 0 0 26 [some (.inr (.inr 1)), some (.inl v1), some (.inl v2), none, none, none, none] [.inl x] h')) : J mX10_chime d 0 0 Q 0 0 22 [some (.inr (.inr 1)), some (.inl v1), some (.inl v2), none, none, none, none] [] h := by
  exact bX10_chime_22 hr hd1' (K0)

set_option maxRecDepth 20000 in
theorem t_X10_chime_26 {d d1' : Nat} {Q : Option MV → MH → Prop} {h : MH} {v1 v2 vs0 : Int32} (hr : zRf h) (hd1' : d1' + 1 ≤ d) (K0 : Con mX10_playAsTold d1' 0 0 [.inr (.inr 1), .inl v2] h (zrv fun h' => J mX10_chime d 0 0 Q 0 0 32 [some (.inr (.inr 1)), some (.inl v1), some (.inl v2), some (.inl vs0), none, none, none] [] h')) : J mX10_chime d 0 0 Q 0 0 26 [some (.inr (.inr 1)), some (.inl v1), some (.inl v2), none, none, none, none] [.inl vs0] h := by
  exact bX10_chime_26 hr hd1' (K0)

set_option maxRecDepth 20000 in
theorem t_X10_chime_32 {d  : Nat} {Q : Option MV → MH → Prop} {h : MH} {v1 v2 v3 : Int32} (K0 : J mX10_chime d 0 0 Q 0 0 38 [some (.inr (.inr 1)), some (.inl v1), some (.inl v2), some (.inl v3), some (.inl (nI 0)), some (.inl (nI 0)), none] [] h) : J mX10_chime d 0 0 Q 0 0 32 [some (.inr (.inr 1)), some (.inl v1), some (.inl v2), some (.inl v3), none, none, none] [] h := by
  refine bX10_chime_32  ?_
  exact K0

set_option maxRecDepth 20000 in
theorem t_X10_chime_38 {d  : Nat} {Q : Option MV → MH → Prop} {h : MH} {u6 : Option MV} {v1 v2 v3 v4 v5 : Int32} (K0 : v3 ≤ v5 → Q (some (.inl v4)) h) (K1 : ¬ v3 ≤ v5 → J mX10_chime d 0 0 Q 0 0 47 [some (.inr (.inr 1)), some (.inl v1), some (.inl v2), some (.inl v3), some (.inl v4), some (.inl v5), some (.inl (nI 0))] [] h) : J mX10_chime d 0 0 Q 0 0 38 [some (.inr (.inr 1)), some (.inl v1), some (.inl v2), some (.inl v3), some (.inl v4), some (.inl v5), u6] [] h := by
  refine bX10_chime_38  (fun p1 => ?_) (fun p1 => ?_)
  · exact bX10_chime_94  (K0 p1)
  · refine bX10_chime_44  ?_
    exact K1 p1

set_option maxRecDepth 20000 in
theorem t_X10_chime_47 {d  : Nat} {Q : Option MV → MH → Prop} {h : MH} {v1 v2 v3 v4 v5 v6 : Int32} (hr : zRf h) (G0 : ¬ (h.1 48 9) ≤ v6 → vp_in v5 40) (G1 : ¬ (h.1 48 9) ≤ v6 → vp_in v6 40) (K0 : (h.1 48 9) ≤ v6 → J mX10_chime d 0 0 Q 0 0 38 [some (.inr (.inr 1)), some (.inl v1), some (.inl v2), some (.inl v3), some (.inl v4), some (.inl (v5 + nI 1)), some (.inl v6)] [] h) (K1 : ¬ (h.1 48 9) ≤ v6 → ¬ (h.1 57 v5.toNatClampNeg) = (h.1 56 v6.toNatClampNeg) → J mX10_chime d 0 0 Q 0 0 47 [some (.inr (.inr 1)), some (.inl v1), some (.inl v2), some (.inl v3), some (.inl v4), some (.inl v5), some (.inl (v6 + nI 1))] [] h) (K2 : ¬ (h.1 48 9) ≤ v6 → (h.1 57 v5.toNatClampNeg) = (h.1 56 v6.toNatClampNeg) → J mX10_chime d 0 0 Q 0 0 47 [some (.inr (.inr 1)), some (.inl v1), some (.inl v2), some (.inl v3), some (.inl (v4 + nI 1)), some (.inl v5), some (.inl (v6 + nI 1))] [] h) : J mX10_chime d 0 0 Q 0 0 47 [some (.inr (.inr 1)), some (.inl v1), some (.inl v2), some (.inl v3), some (.inl v4), some (.inl v5), some (.inl v6)] [] h := by
  refine bX10_chime_47 hr (fun p1 => ?_) (fun p1 => ?_)
  · refine bX10_chime_88  ?_
    exact K0 p1
  · refine bX10_chime_59 hr (G0 p1) (G1 p1) (fun p2 => ?_) (fun p2 => ?_)
    · refine bX10_chime_82  ?_
      exact K1 p1 p2
    · refine bX10_chime_79  ?_
      refine bX10_chime_82  ?_
      exact K2 p1 p2

set_option maxRecDepth 20000 in
theorem t_X10_days {d d1' d2' : Nat} {Q : Option MV → MH → Prop} {h : MH} {v1 v2 v3 : Int32} (hr : zRf h) (hd : 1 ≤ d) (hd1' : d1' + 1 ≤ d) (hd2' : d2' + 1 ≤ d) (K0 : v1 < 0 → Q (some (.inl (-(nI 2)))) h) (K1 : ¬ v1 < 0 → (nI 4) ≤ v1 → Q (some (.inl (-(nI 2)))) h) (K2 : ¬ v1 < 0 → ¬ (nI 4) ≤ v1 → v3 = (-(nI 1)) → v2 < (nI 1) → Q (some (.inl (-(nI 3)))) h) (K3 : ¬ v1 < 0 → ¬ (nI 4) ≤ v1 → v3 = (-(nI 1)) → ¬ v2 < (nI 1) → v2 ≤ (nI 400) → Con mX10_playAsTold d1' 0 0 [.inr (.inr 1), .inl v1] h (zrv fun h' => J mX10_days d 0 0 Q 0 0 49 [some (.inr (.inr 1)), some (.inl v1), some (.inl v2), some (.inl v3)] [] h')) (K4 : ¬ v1 < 0 → ¬ (nI 4) ≤ v1 → v3 = (-(nI 1)) → ¬ v2 < (nI 1) → ¬ v2 ≤ (nI 400) → Q (some (.inl (-(nI 3)))) h) (K5 : ¬ v1 < 0 → ¬ (nI 4) ≤ v1 → ¬ v3 = (-(nI 1)) → v3 < 0 → Q (some (.inl (-(nI 2)))) h) (K6 : ¬ v1 < 0 → ¬ (nI 4) ≤ v1 → ¬ v3 = (-(nI 1)) → ¬ v3 < 0 → (h.1 16 0) ≤ v3 → Q (some (.inl (-(nI 2)))) h) (K7 : ¬ v1 < 0 → ¬ (nI 4) ≤ v1 → ¬ v3 = (-(nI 1)) → ¬ v3 < 0 → ¬ (h.1 16 0) ≤ v3 → v2 < (nI 1) → Q (some (.inl (-(nI 3)))) h) (K8 : ¬ v1 < 0 → ¬ (nI 4) ≤ v1 → ¬ v3 = (-(nI 1)) → ¬ v3 < 0 → ¬ (h.1 16 0) ≤ v3 → ¬ v2 < (nI 1) → v2 ≤ (nI 400) → Con mX10_playAsTold d2' 0 0 [.inr (.inr 1), .inl v1] h (zrv fun h' => J mX10_days d 0 0 Q 0 0 49 [some (.inr (.inr 1)), some (.inl v1), some (.inl v2), some (.inl v3)] [] h')) (K9 : ¬ v1 < 0 → ¬ (nI 4) ≤ v1 → ¬ v3 = (-(nI 1)) → ¬ v3 < 0 → ¬ (h.1 16 0) ≤ v3 → ¬ v2 < (nI 1) → ¬ v2 ≤ (nI 400) → Q (some (.inl (-(nI 3)))) h) : Con mX10_days d 0 0 [.inr (.inr 1), .inl v1, .inl v2, .inl v3] h Q := by
  refine Con.intro rfl (Nat.le_of_ble_eq_true rfl) ?_
  show J mX10_days d 0 0 Q 0 0 0 [some (.inr (.inr 1)), some (.inl v1), some (.inl v2), some (.inl v3)] [] h
  refine bX10_days_0 (d' := 0)  (by omega) ?_
  refine t_X10_isPlan  ?_ ?_ ?_
  · intro p1
    refine bX10_days_4  (fun _ => ?_) (fun c => absurd c (by decide))
    exact bX10_days_26  (K0 p1)
  · intro p2 p3
    refine bX10_days_4  (fun _ => ?_) (fun c => absurd c (by decide))
    exact bX10_days_26  (K1 p2 p3)
  · intro p4 p5
    refine bX10_days_4  (fun c => absurd c (by decide)) (fun _ => ?_)
    refine bX10_days_7  (fun p6 => ?_) (fun p6 => ?_)
    · refine bX10_days_29  (fun p7 => ?_) (fun p7 => ?_)
      · exact bX10_days_41  (K2 p4 p5 p6 p7)
      · refine bX10_days_34  (fun p8 => ?_) (fun p8 => ?_)
        · exact bX10_days_44 hr hd1' (K3 p4 p5 p6 p7 p8)
        · exact bX10_days_41  (K4 p4 p5 p6 p7 p8)
    · refine bX10_days_12 (d' := 0) hr (by omega) ?_
      refine t_X2_has ?_ ?_ ?_ ?_
      · intro p9; exact (zo hr (by decide) rfl)
      · intro p10
        refine bX10_days_23  (fun c => absurd c (by decide)) (fun _ => ?_)
        exact bX10_days_26  (K5 p4 p5 p6 p10)
      · intro p11 p12
        refine bX10_days_23  (fun c => absurd c (by decide)) (fun _ => ?_)
        exact bX10_days_26  (K6 p4 p5 p6 p11 p12)
      · intro p13 p14
        refine bX10_days_23  (fun _ => ?_) (fun c => absurd c (by decide))
        refine bX10_days_29  (fun p15 => ?_) (fun p15 => ?_)
        · exact bX10_days_41  (K7 p4 p5 p6 p13 p14 p15)
        · refine bX10_days_34  (fun p16 => ?_) (fun p16 => ?_)
          · exact bX10_days_44 hr hd2' (K8 p4 p5 p6 p13 p14 p15 p16)
          · exact bX10_days_41  (K9 p4 p5 p6 p13 p14 p15 p16)

set_option maxRecDepth 20000 in
theorem t_X10_days_49 {d d1' : Nat} {Q : Option MV → MH → Prop} {h : MH} {v1 v2 v3 : Int32} (hr : zRf h) (hd1' : d1' + 1 ≤ d) (G0 : ¬ v3 = (-(nI 1)) → vp_in v3 8) (K0 : ¬ v3 = (-(nI 1)) → (h.1 49 v3.toNatClampNeg) ≤ (h.1 52 v3.toNatClampNeg) → Q (some (.inl (nI 0))) h) (K1 : ¬ v3 = (-(nI 1)) → ¬ (h.1 49 v3.toNatClampNeg) ≤ (h.1 52 v3.toNatClampNeg) → Q (some (.inl v2)) h) (K2 : v3 = (-(nI 1)) → Con mX10_waxOfRun d1' 0 0 [.inr (.inr 1)] h (zri fun (x : Int32) h' => J mX10_days d 0 0 Q 0 0 58 [some (.inr (.inr 1)), some (.inl v1), some (.inl v2), some (.inl v3)] [.inl x] h')) : J mX10_days d 0 0 Q 0 0 49 [some (.inr (.inr 1)), some (.inl v1), some (.inl v2), some (.inl v3)] [] h := by
  refine bX10_days_49  (fun p1 => ?_) (fun p1 => ?_)
  · refine bX10_days_61 hr (G0 p1) (fun p2 => ?_) (fun p2 => ?_)
    · refine bX10_days_86  ?_
      exact bX10_days_87  (K0 p1 p2)
    · refine bX10_days_82  ?_
      exact bX10_days_87  (K1 p1 p2)
  · exact bX10_days_54 hr hd1' (K2 p1)

set_option maxRecDepth 20000 in
theorem t_X10_days_58 {d  : Nat} {Q : Option MV → MH → Prop} {h : MH} {v1 v2 v3 vs0 : Int32} (K0 : Q (some (.inl (vs0 * v2))) h) : J mX10_days d 0 0 Q 0 0 58 [some (.inr (.inr 1)), some (.inl v1), some (.inl v2), some (.inl v3)] [.inl vs0] h := by
  exact bX10_days_58  (K0)

set_option maxRecDepth 20000 in
theorem t_X10_can {d d1' : Nat} {Q : Option MV → MH → Prop} {h : MH} {v1 v2 v3 : Int32} (hr : zRf h) (hd1' : d1' + 1 ≤ d) (K0 : Con mX10_isSet d1' 0 0 [.inr (.inr 1), .inl v1, .inl (nI 4)] h (zri fun (x : Int32) h' => J mX10_can d 0 0 Q 0 0 6 [some (.inr (.inr 1)), some (.inl v1), some (.inl v2), some (.inl v3)] [.inl x] h')) : Con mX10_can d 0 0 [.inr (.inr 1), .inl v1, .inl v2, .inl v3] h Q := by
  refine Con.intro rfl (Nat.le_of_ble_eq_true rfl) ?_
  show J mX10_can d 0 0 Q 0 0 0 [some (.inr (.inr 1)), some (.inl v1), some (.inl v2), some (.inl v3)] [] h
  exact bX10_can_0 hr hd1' (K0)

set_option maxRecDepth 20000 in
theorem t_X10_can_6 {d d1' : Nat} {Q : Option MV → MH → Prop} {h : MH} {v1 v2 v3 vs0 : Int32} (hr : zRf h) (hd1' : d1' + 1 ≤ d) (K0 : vs0 = 0 → Q (some (.inl (-(nI 3)))) h) (K1 : ¬ vs0 = 0 → (nI 1) ≤ v3 → Con mX10_isTold d1' 0 0 [.inr (.inr 1), .inl v1, .inl v2, .inl v3] h (zri fun (x : Int32) h' => J mX10_can d 0 0 Q 0 0 24 [some (.inr (.inr 1)), some (.inl v1), some (.inl v2), some (.inl v3)] [.inl x] h')) (K2 : ¬ vs0 = 0 → ¬ (nI 1) ≤ v3 → Q (some (.inl (-(nI 3)))) h) : J mX10_can d 0 0 Q 0 0 6 [some (.inr (.inr 1)), some (.inl v1), some (.inl v2), some (.inl v3)] [.inl vs0] h := by
  refine bX10_can_6  (fun p1 => ?_) (fun p1 => ?_)
  · exact bX10_can_14  (K0 p1)
  · refine bX10_can_9  (fun p2 => ?_) (fun p2 => ?_)
    · exact bX10_can_17 hr hd1' (K1 p1 p2)
    · exact bX10_can_14  (K2 p1 p2)

set_option maxRecDepth 20000 in
theorem t_X10_can_24 {d  : Nat} {Q : Option MV → MH → Prop} {h : MH} {v1 v2 v3 vs0 : Int32} (K0 : vs0 = 0 → Q (some (.inl (nI 0))) h) (K1 : ¬ vs0 = 0 → Q (some (.inl (nI 1))) h) : J mX10_can d 0 0 Q 0 0 24 [some (.inr (.inr 1)), some (.inl v1), some (.inl v2), some (.inl v3)] [.inl vs0] h := by
  refine bX10_can_24  (fun p1 => ?_) (fun p1 => ?_)
  · refine bX10_can_31  ?_
    exact bX10_can_32  (K0 p1)
  · refine bX10_can_27  ?_
    exact bX10_can_32  (K1 p1)

set_option maxRecDepth 20000 in
theorem t_X10_isSet {d d1' : Nat} {Q : Option MV → MH → Prop} {h : MH} {v1 v2 : Int32} (hr : zRf h) (hd1' : d1' + 1 ≤ d) (K0 : v1 ≤ 0 → Q (some (.inl (nI 0))) h) (K1 : ¬ v1 ≤ 0 → ((nI 1) <<< ((h.1 16 0) &&& 31)) ≤ v1 → Q (some (.inl (nI 0))) h) (K2 : ¬ v1 ≤ 0 → ¬ ((nI 1) <<< ((h.1 16 0) &&& 31)) ≤ v1 → Con mJ6_bitCount_0f7a4 d1' 0 0 [.inl v1] h (zri fun (x : Int32) h' => J mX10_isSet d 0 0 Q 0 0 24 [some (.inr (.inr 1)), some (.inl v1), some (.inl v2)] [.inl x] h')) : Con mX10_isSet d 0 0 [.inr (.inr 1), .inl v1, .inl v2] h Q := by
  refine Con.intro rfl (Nat.le_of_ble_eq_true rfl) ?_
  show J mX10_isSet d 0 0 Q 0 0 0 [some (.inr (.inr 1)), some (.inl v1), some (.inl v2)] [] h
  refine bX10_isSet_0  (fun p1 => ?_) (fun p1 => ?_)
  · refine bX10_isSet_32  ?_
    exact bX10_isSet_33 (by decide) (K0 p1)
  · refine bX10_isSet_4 hr (fun p2 => ?_) (fun p2 => ?_)
    · refine bX10_isSet_32  ?_
      exact bX10_isSet_33 (by decide) (K1 p1 p2)
    · exact bX10_isSet_20  hd1' (K2 p1 p2)

set_option maxRecDepth 20000 in
theorem t_X10_isSet_24 {d  : Nat} {Q : Option MV → MH → Prop} {h : MH} {v1 v2 vs0 : Int32} (K0 : v2 < vs0 → Q (some (.inl (nI 0))) h) (K1 : ¬ v2 < vs0 → Q (some (.inl (nI 1))) h) : J mX10_isSet d 0 0 Q 0 0 24 [some (.inr (.inr 1)), some (.inl v1), some (.inl v2)] [.inl vs0] h := by
  refine bX10_isSet_24  (fun p1 => ?_) (fun p1 => ?_)
  · refine bX10_isSet_32  ?_
    exact bX10_isSet_33 (by decide) (K0 p1)
  · refine bX10_isSet_28  ?_
    exact bX10_isSet_33 (by decide) (K1 p1)

set_option maxRecDepth 20000 in
theorem t_X10_isTold {d d1' d2' : Nat} {Q : Option MV → MH → Prop} {h : MH} {v1 v2 v3 : Int32} (hr : zRf h) (hd : 2 ≤ d) (hd1' : d1' + 1 ≤ d) (hd2' : d2' + 1 ≤ d) (G0 : v2 = 0 → (h.1 97 0) = v1 → ¬ v3 < 0 → (v3 - v3 / (nI 16) * (nI 16)) = 0 → ¬ (v3 / (nI 16)) < 0 → ¬ (nI 23104) ≤ (v3 / (nI 16)) → vp_in ((v3 / (nI 16)) >>> ((nI 6) &&& 31)) 361) (G1 : ¬ v2 = 0 → (h.1 99 0) = v1 → ¬ v3 < 0 → (v3 - v3 / (nI 16) * (nI 16)) = 0 → ¬ (v3 / (nI 16)) < 0 → ¬ (nI 23104) ≤ (v3 / (nI 16)) → vp_in ((v3 / (nI 16)) >>> ((nI 6) &&& 31)) 361) (K0 : v2 = 0 → ¬ (h.1 97 0) = v1 → Con mX9_lay d1' 0 0 [.inr (.inr 62), .inr (.inr 16), .inl v1, .inl v2] h (zrv fun h' => J mX10_isTold d 0 0 Q 0 0 49 [some (.inr (.inr 1)), some (.inl v1), some (.inl v2), some (.inl v3), some (.inr (.inr 97))] [] h')) (K1 : v2 = 0 → (h.1 97 0) = v1 → v3 < 0 → Q (some (.inl (nI 0))) h) (K2 : v2 = 0 → (h.1 97 0) = v1 → ¬ v3 < 0 → ¬ (v3 - v3 / (nI 16) * (nI 16)) = 0 → Q (some (.inl (nI 0))) h) (K3 : v2 = 0 → (h.1 97 0) = v1 → ¬ v3 < 0 → (v3 - v3 / (nI 16) * (nI 16)) = 0 → (v3 / (nI 16)) < 0 → Q (some (.inl (nI 0))) h) (K4 : v2 = 0 → (h.1 97 0) = v1 → ¬ v3 < 0 → (v3 - v3 / (nI 16) * (nI 16)) = 0 → ¬ (v3 / (nI 16)) < 0 → (nI 23104) ≤ (v3 / (nI 16)) → Q (some (.inl (nI 0))) h) (K5 : v2 = 0 → (h.1 97 0) = v1 → ¬ v3 < 0 → (v3 - v3 / (nI 16) * (nI 16)) = 0 → ¬ (v3 / (nI 16)) < 0 → ¬ (nI 23104) ≤ (v3 / (nI 16)) → (lg_cmp ((((h.2.1 98 ((v3 / (nI 16)) >>> ((nI 6) &&& 31)).toNatClampNeg).toUInt64 >>> (((v3 / (nI 16)) &&& (nI 63)).toInt64.toUInt64 &&& Int64.toUInt64 63)).toInt64) &&& (lN 1)) (lN 0)) = 0 → Q (some (.inl (nI 0))) h) (K6 : v2 = 0 → (h.1 97 0) = v1 → ¬ v3 < 0 → (v3 - v3 / (nI 16) * (nI 16)) = 0 → ¬ (v3 / (nI 16)) < 0 → ¬ (nI 23104) ≤ (v3 / (nI 16)) → ¬ (lg_cmp ((((h.2.1 98 ((v3 / (nI 16)) >>> ((nI 6) &&& 31)).toNatClampNeg).toUInt64 >>> (((v3 / (nI 16)) &&& (nI 63)).toInt64.toUInt64 &&& Int64.toUInt64 63)).toInt64) &&& (lN 1)) (lN 0)) = 0 → Q (some (.inl (nI 1))) h) (K7 : ¬ v2 = 0 → ¬ (h.1 99 0) = v1 → Con mX9_lay d2' 0 0 [.inr (.inr 62), .inr (.inr 16), .inl v1, .inl v2] h (zrv fun h' => J mX10_isTold d 0 0 Q 0 0 49 [some (.inr (.inr 1)), some (.inl v1), some (.inl v2), some (.inl v3), some (.inr (.inr 99))] [] h')) (K8 : ¬ v2 = 0 → (h.1 99 0) = v1 → v3 < 0 → Q (some (.inl (nI 0))) h) (K9 : ¬ v2 = 0 → (h.1 99 0) = v1 → ¬ v3 < 0 → ¬ (v3 - v3 / (nI 16) * (nI 16)) = 0 → Q (some (.inl (nI 0))) h) (K10 : ¬ v2 = 0 → (h.1 99 0) = v1 → ¬ v3 < 0 → (v3 - v3 / (nI 16) * (nI 16)) = 0 → (v3 / (nI 16)) < 0 → Q (some (.inl (nI 0))) h) (K11 : ¬ v2 = 0 → (h.1 99 0) = v1 → ¬ v3 < 0 → (v3 - v3 / (nI 16) * (nI 16)) = 0 → ¬ (v3 / (nI 16)) < 0 → (nI 23104) ≤ (v3 / (nI 16)) → Q (some (.inl (nI 0))) h) (K12 : ¬ v2 = 0 → (h.1 99 0) = v1 → ¬ v3 < 0 → (v3 - v3 / (nI 16) * (nI 16)) = 0 → ¬ (v3 / (nI 16)) < 0 → ¬ (nI 23104) ≤ (v3 / (nI 16)) → (lg_cmp ((((h.2.1 100 ((v3 / (nI 16)) >>> ((nI 6) &&& 31)).toNatClampNeg).toUInt64 >>> (((v3 / (nI 16)) &&& (nI 63)).toInt64.toUInt64 &&& Int64.toUInt64 63)).toInt64) &&& (lN 1)) (lN 0)) = 0 → Q (some (.inl (nI 0))) h) (K13 : ¬ v2 = 0 → (h.1 99 0) = v1 → ¬ v3 < 0 → (v3 - v3 / (nI 16) * (nI 16)) = 0 → ¬ (v3 / (nI 16)) < 0 → ¬ (nI 23104) ≤ (v3 / (nI 16)) → ¬ (lg_cmp ((((h.2.1 100 ((v3 / (nI 16)) >>> ((nI 6) &&& 31)).toNatClampNeg).toUInt64 >>> (((v3 / (nI 16)) &&& (nI 63)).toInt64.toUInt64 &&& Int64.toUInt64 63)).toInt64) &&& (lN 1)) (lN 0)) = 0 → Q (some (.inl (nI 1))) h) : Con mX10_isTold d 0 0 [.inr (.inr 1), .inl v1, .inl v2, .inl v3] h Q := by
  refine Con.intro rfl (Nat.le_of_ble_eq_true rfl) ?_
  show J mX10_isTold d 0 0 Q 0 0 0 [some (.inr (.inr 1)), some (.inl v1), some (.inl v2), some (.inl v3), none] [] h
  refine bX10_isTold_0  (fun p1 => ?_) (fun p1 => ?_)
  · refine bX10_isTold_11 hr ?_
    refine bX10_isTold_15 (zo hr (by decide) rfl) (fun p2 => ?_) (fun p2 => ?_)
    · exact bX10_isTold_33 hr hd1' (K0 p1 p2)
    · refine bX10_isTold_26 (d' := 1) (zo hr (by decide) rfl) (by omega) ?_
      refine t_X3_has hr (Nat.le_refl _) ?_ ?_ ?_ ?_ ?_ ?_ ?_ ?_
      · intro p3 p4; exact (zo hr (by decide) rfl)
      · intro p5 p6 p7 p8; exact (G0 p1 p2 p5 p6 p7 p8)
      · intro p9
        exact bX10_isTold_32 (by decide) (K1 p1 p2 p9)
      · intro p10 p11
        exact bX10_isTold_32 (by decide) (K2 p1 p2 p10 p11)
      · intro p12 p13 p14
        exact bX10_isTold_32 (by decide) (K3 p1 p2 p12 p13 p14)
      · intro p15 p16 p17 p18
        exact bX10_isTold_32 (by decide) (K4 p1 p2 p15 p16 p17 p18)
      · intro p19 p20 p21 p22 p23
        exact bX10_isTold_32 (by decide) (K5 p1 p2 p19 p20 p21 p22 p23)
      · intro p24 p25 p26 p27 p28
        exact bX10_isTold_32 (by decide) (K6 p1 p2 p24 p25 p26 p27 p28)
  · refine bX10_isTold_4 hr ?_
    refine bX10_isTold_15 (zo hr (by decide) rfl) (fun p29 => ?_) (fun p29 => ?_)
    · exact bX10_isTold_33 hr hd2' (K7 p1 p29)
    · refine bX10_isTold_26 (d' := 1) (zo hr (by decide) rfl) (by omega) ?_
      refine t_X3_has hr (Nat.le_refl _) ?_ ?_ ?_ ?_ ?_ ?_ ?_ ?_
      · intro p30 p31; exact (zo hr (by decide) rfl)
      · intro p32 p33 p34 p35; exact (G1 p1 p29 p32 p33 p34 p35)
      · intro p36
        exact bX10_isTold_32 (by decide) (K8 p1 p29 p36)
      · intro p37 p38
        exact bX10_isTold_32 (by decide) (K9 p1 p29 p37 p38)
      · intro p39 p40 p41
        exact bX10_isTold_32 (by decide) (K10 p1 p29 p39 p40 p41)
      · intro p42 p43 p44 p45
        exact bX10_isTold_32 (by decide) (K11 p1 p29 p42 p43 p44 p45)
      · intro p46 p47 p48 p49 p50
        exact bX10_isTold_32 (by decide) (K12 p1 p29 p46 p47 p48 p49 p50)
      · intro p51 p52 p53 p54 p55
        exact bX10_isTold_32 (by decide) (K13 p1 p29 p51 p52 p53 p54 p55)

set_option maxRecDepth 20000 in
theorem t_X10_isTold_49 {d d1' : Nat} {Q : Option MV → MH → Prop} {h : MH} {v1 v2 v3 : Int32} {v4 : Nat} (hr : zRf h) (hd1' : d1' + 1 ≤ d) (K0 : Con mX9_seek d1' 0 0 [.inr (.inr 62), .inl (nI 1), .inl v3] h (zri fun (x : Int32) h' => J mX10_isTold d 0 0 Q 0 0 58 [some (.inr (.inr 1)), some (.inl v1), some (.inl v2), some (.inl v3), some (.inr (.inr v4))] [.inl x] h')) : J mX10_isTold d 0 0 Q 0 0 49 [some (.inr (.inr 1)), some (.inl v1), some (.inl v2), some (.inl v3), some (.inr (.inr v4))] [] h := by
  exact bX10_isTold_49 hr hd1' (K0)

set_option maxRecDepth 20000 in
theorem t_X10_isTold_58 {d  : Nat} {Q : Option MV → MH → Prop} {h : MH} {v1 v2 v3 vs0 : Int32} {v4 : Nat} (G0 : vs0 = 0 ∨ vs0 = 1) (K0 : Q (some (.inl vs0)) h) : J mX10_isTold d 0 0 Q 0 0 58 [some (.inr (.inr 1)), some (.inl v1), some (.inl v2), some (.inl v3), some (.inr (.inr v4))] [.inl vs0] h := by
  exact bX10_isTold_58 (G0) (K0)

set_option maxRecDepth 20000 in
theorem t_X10_allTold {d d1' d2' : Nat} {Q : Option MV → MH → Prop} {h : MH} {v1 v2 : Int32} (hr : zRf h) (hd1' : d1' + 1 ≤ d) (hd2' : d2' + 1 ≤ d) (K0 : v2 = 0 → (h.1 97 0) = v1 → Q (some (.inr (.inr 97))) h) (K1 : v2 = 0 → ¬ (h.1 97 0) = v1 → Con mX3_clear d1' 0 0 [.inr (.inr 97)] h (zrv fun h' => J mX10_allTold d 0 0 Q 0 0 28 [some (.inr (.inr 1)), some (.inl v1), some (.inl v2), some (.inr (.inr 97))] [] h')) (K2 : ¬ v2 = 0 → (h.1 99 0) = v1 → Q (some (.inr (.inr 99))) h) (K3 : ¬ v2 = 0 → ¬ (h.1 99 0) = v1 → Con mX3_clear d2' 0 0 [.inr (.inr 99)] h (zrv fun h' => J mX10_allTold d 0 0 Q 0 0 28 [some (.inr (.inr 1)), some (.inl v1), some (.inl v2), some (.inr (.inr 99))] [] h')) : Con mX10_allTold d 0 0 [.inr (.inr 1), .inl v1, .inl v2] h Q := by
  refine Con.intro rfl (Nat.le_of_ble_eq_true rfl) ?_
  show J mX10_allTold d 0 0 Q 0 0 0 [some (.inr (.inr 1)), some (.inl v1), some (.inl v2), none] [] h
  refine bX10_allTold_0  (fun p1 => ?_) (fun p1 => ?_)
  · refine bX10_allTold_11 hr ?_
    refine bX10_allTold_15 (zo hr (by decide) rfl) (fun p2 => ?_) (fun p2 => ?_)
    · exact bX10_allTold_57  (K0 p1 p2)
    · exact bX10_allTold_24 (zo hr (by decide) rfl) hd1' (K1 p1 p2)
  · refine bX10_allTold_4 hr ?_
    refine bX10_allTold_15 (zo hr (by decide) rfl) (fun p3 => ?_) (fun p3 => ?_)
    · exact bX10_allTold_57  (K2 p1 p3)
    · exact bX10_allTold_24 (zo hr (by decide) rfl) hd2' (K3 p1 p3)

set_option maxRecDepth 20000 in
theorem t_X10_allTold_28 {d d1' : Nat} {Q : Option MV → MH → Prop} {h : MH} {v1 v2 : Int32} {v3 : Nat} (hr : zRf h) (hd1' : d1' + 1 ≤ d) (K0 : Con mX9_lay d1' 0 0 [.inr (.inr 62), .inr (.inr 16), .inl v1, .inl v2] h (zrv fun h' => J mX10_allTold d 0 0 Q 0 0 44 [some (.inr (.inr 1)), some (.inl v1), some (.inl v2), some (.inr (.inr v3))] [] h')) : J mX10_allTold d 0 0 Q 0 0 28 [some (.inr (.inr 1)), some (.inl v1), some (.inl v2), some (.inr (.inr v3))] [] h := by
  exact bX10_allTold_28 hr hd1' (K0)

set_option maxRecDepth 20000 in
theorem t_X10_allTold_44 {d d1' : Nat} {Q : Option MV → MH → Prop} {h : MH} {v1 v2 : Int32} {v3 : Nat} (hr : zRf h) (hd1' : d1' + 1 ≤ d) (K0 : Con mX9_markAll d1' 0 0 [.inr (.inr 62), .inr (.inr v3)] h (zrv fun h' => J mX10_allTold d 0 0 Q 0 0 52 [some (.inr (.inr 1)), some (.inl v1), some (.inl v2), some (.inr (.inr v3))] [] h')) : J mX10_allTold d 0 0 Q 0 0 44 [some (.inr (.inr 1)), some (.inl v1), some (.inl v2), some (.inr (.inr v3))] [] h := by
  exact bX10_allTold_44 hr hd1' (K0)

set_option maxRecDepth 20000 in
theorem t_X10_allTold_52 {d  : Nat} {Q : Option MV → MH → Prop} {h : MH} {v1 v2 : Int32} {v3 : Nat} (G0 : zokO h v3 3) (K0 : Q (some (.inr (.inr v3))) (zsI h v3 0 v1)) : J mX10_allTold d 0 0 Q 0 0 52 [some (.inr (.inr 1)), some (.inl v1), some (.inl v2), some (.inr (.inr v3))] [] h := by
  refine bX10_allTold_52 (G0) ?_
  exact bX10_allTold_57  (K0)

set_option maxRecDepth 20000 in
theorem t_X10_time {d d1' : Nat} {Q : Option MV → MH → Prop} {h : MH} {v1 v2 v3 : Int32} (hr : zRf h) (hd1' : d1' + 1 ≤ d) (K0 : Con mX10_isSet d1' 0 0 [.inr (.inr 1), .inl v1, .inl (nI 4)] h (zri fun (x : Int32) h' => J mX10_time d 0 0 Q 0 0 6 [some (.inr (.inr 1)), some (.inl v1), some (.inl v2), some (.inl v3)] [.inl x] h')) : Con mX10_time d 0 0 [.inr (.inr 1), .inl v1, .inl v2, .inl v3] h Q := by
  refine Con.intro rfl (Nat.le_of_ble_eq_true rfl) ?_
  show J mX10_time d 0 0 Q 0 0 0 [some (.inr (.inr 1)), some (.inl v1), some (.inl v2), some (.inl v3)] [] h
  exact bX10_time_0 hr hd1' (K0)

set_option maxRecDepth 20000 in
theorem t_X10_time_6 {d d1' : Nat} {Q : Option MV → MH → Prop} {h : MH} {v1 v2 v3 vs0 : Int32} (hr : zRf h) (hd1' : d1' + 1 ≤ d) (K0 : ¬ vs0 = 0 → Con mX10_allTold d1' 0 0 [.inr (.inr 1), .inl v1, .inl v2] h (zrr fun (x : Nat) h' => J mX10_time d 0 0 Q 0 0 18 [some (.inr (.inr 1)), some (.inl v1), some (.inl v2), some (.inl v3)] [.inr (.inr x)] h')) (K1 : vs0 = 0 → Q (some (.inl (-(nI 3)))) h) : J mX10_time d 0 0 Q 0 0 6 [some (.inr (.inr 1)), some (.inl v1), some (.inl v2), some (.inl v3)] [.inl vs0] h := by
  refine bX10_time_6  (fun p1 => ?_) (fun p1 => ?_)
  · exact bX10_time_12 hr hd1' (K0 p1)
  · exact bX10_time_9  (K1 p1)

set_option maxRecDepth 20000 in
theorem t_X10_time_18 {d d1' : Nat} {Q : Option MV → MH → Prop} {h : MH} {v1 v2 v3 : Int32} {vs0 : Nat} (hd1' : d1' + 1 ≤ d) (K0 : Con mX10_pick d1' 0 0 [.inr (.inr vs0), .inl v3] h (zri fun (x : Int32) h' => J mX10_time d 0 0 Q 0 0 22 [some (.inr (.inr 1)), some (.inl v1), some (.inl v2), some (.inl v3)] [.inl x] h')) : J mX10_time d 0 0 Q 0 0 18 [some (.inr (.inr 1)), some (.inl v1), some (.inl v2), some (.inl v3)] [.inr (.inr vs0)] h := by
  exact bX10_time_18  hd1' (K0)

set_option maxRecDepth 20000 in
theorem t_X10_time_22 {d  : Nat} {Q : Option MV → MH → Prop} {h : MH} {v1 v2 v3 vs0 : Int32} (K0 : Q (some (.inl vs0)) h) : J mX10_time d 0 0 Q 0 0 22 [some (.inr (.inr 1)), some (.inl v1), some (.inl v2), some (.inl v3)] [.inl vs0] h := by
  exact bX10_time_22  (K0)

set_option maxRecDepth 20000 in
theorem t_X10_pick {d d1' d2' : Nat} {Q : Option MV → MH → Prop} {h : MH} {v1 : Int32} {v0 : Nat} (hd1' : d1' + 1 ≤ d) (hd2' : d2' + 1 ≤ d) (G0 : ¬ v1 = (-(nI 1)) → zokO h v0 3) (G1 : v1 = (-(nI 1)) → zokO h v0 3) (K0 : ¬ v1 = (-(nI 1)) → Con mX3_nth d1' 0 0 [.inr (.inr v0), .inl v1] h (zri fun (x : Int32) h' => J mX10_pick d 0 0 Q 0 0 17 [some (.inr (.inr v0)), some (.inl v1)] [.inl x] h')) (K1 : v1 = (-(nI 1)) → Con mX3_size d2' 0 0 [.inr (.inr v0)] h (zri fun (x : Int32) h' => J mX10_pick d 0 0 Q 0 0 9 [some (.inr (.inr v0)), some (.inl v1)] [.inl x] h')) : Con mX10_pick d 0 0 [.inr (.inr v0), .inl v1] h Q := by
  refine Con.intro rfl (Nat.le_of_ble_eq_true rfl) ?_
  show J mX10_pick d 0 0 Q 0 0 0 [some (.inr (.inr v0)), some (.inl v1)] [] h
  refine bX10_pick_0  (fun p1 => ?_) (fun p1 => ?_)
  · exact bX10_pick_12 (G0 p1) hd1' (K0 p1)
  · exact bX10_pick_5 (G1 p1) hd2' (K1 p1)

set_option maxRecDepth 20000 in
theorem t_X10_pick_9 {d  : Nat} {Q : Option MV → MH → Prop} {h : MH} {v1 vs0 : Int32} {v0 : Nat} (K0 : Q (some (.inl vs0)) h) : J mX10_pick d 0 0 Q 0 0 9 [some (.inr (.inr v0)), some (.inl v1)] [.inl vs0] h := by
  refine bX10_pick_9  ?_
  exact bX10_pick_17  (K0)

set_option maxRecDepth 20000 in
theorem t_X10_pick_17 {d  : Nat} {Q : Option MV → MH → Prop} {h : MH} {v1 vs0 : Int32} {v0 : Nat} (K0 : Q (some (.inl vs0)) h) : J mX10_pick d 0 0 Q 0 0 17 [some (.inr (.inr v0)), some (.inl v1)] [.inl vs0] h := by
  exact bX10_pick_17  (K0)

set_option maxRecDepth 20000 in
theorem t_X10_between {d d1' : Nat} {Q : Option MV → MH → Prop} {h : MH} {v1 v2 v3 : Int32} (hr : zRf h) (hd1' : d1' + 1 ≤ d) (K0 : Con mX10_isSet d1' 0 0 [.inr (.inr 1), .inl v1, .inl (nI 4)] h (zri fun (x : Int32) h' => J mX10_between d 0 0 Q 0 0 6 [some (.inr (.inr 1)), some (.inl v1), some (.inl v2), some (.inl v3)] [.inl x] h')) : Con mX10_between d 0 0 [.inr (.inr 1), .inl v1, .inl v2, .inl v3] h Q := by
  refine Con.intro rfl (Nat.le_of_ble_eq_true rfl) ?_
  show J mX10_between d 0 0 Q 0 0 0 [some (.inr (.inr 1)), some (.inl v1), some (.inl v2), some (.inl v3)] [] h
  exact bX10_between_0 hr hd1' (K0)

set_option maxRecDepth 20000 in
theorem t_X10_between_6 {d d1' : Nat} {Q : Option MV → MH → Prop} {h : MH} {v1 v2 v3 vs0 : Int32} (hr : zRf h) (hd1' : d1' + 1 ≤ d) (K0 : vs0 = 0 → Q (some (.inl (-(nI 3)))) h) (K1 : ¬ vs0 = 0 → (nI 1) ≤ v3 → Con mX9_lay d1' 0 0 [.inr (.inr 62), .inr (.inr 16), .inl v1, .inl v2] h (zrv fun h' => J mX10_between d 0 0 Q 0 0 33 [some (.inr (.inr 1)), some (.inl v1), some (.inl v2), some (.inl v3)] [] h')) (K2 : ¬ vs0 = 0 → ¬ (nI 1) ≤ v3 → Q (some (.inl (-(nI 3)))) h) : J mX10_between d 0 0 Q 0 0 6 [some (.inr (.inr 1)), some (.inl v1), some (.inl v2), some (.inl v3)] [.inl vs0] h := by
  refine bX10_between_6  (fun p1 => ?_) (fun p1 => ?_)
  · exact bX10_between_14  (K0 p1)
  · refine bX10_between_9  (fun p2 => ?_) (fun p2 => ?_)
    · exact bX10_between_17 hr hd1' (K1 p1 p2)
    · exact bX10_between_14  (K2 p1 p2)

set_option maxRecDepth 20000 in
theorem t_X10_between_33 {d d1' : Nat} {Q : Option MV → MH → Prop} {h : MH} {v1 v2 v3 : Int32} (hr : zRf h) (hd1' : d1' + 1 ≤ d) (K0 : Con mX9_seek d1' 0 0 [.inr (.inr 62), .inl (nI 4), .inl v3] h (zri fun (x : Int32) h' => J mX10_between d 0 0 Q 0 0 42 [some (.inr (.inr 1)), some (.inl v1), some (.inl v2), some (.inl v3)] [.inl x] h')) : J mX10_between d 0 0 Q 0 0 33 [some (.inr (.inr 1)), some (.inl v1), some (.inl v2), some (.inl v3)] [] h := by
  exact bX10_between_33 hr hd1' (K0)

set_option maxRecDepth 20000 in
theorem t_X10_between_42 {d  : Nat} {Q : Option MV → MH → Prop} {h : MH} {v1 v2 v3 vs0 : Int32} (K0 : vs0 = 0 → Q (some (.inl (nI 0))) h) (K1 : ¬ vs0 = 0 → Q (some (.inl (nI 1))) h) : J mX10_between d 0 0 Q 0 0 42 [some (.inr (.inr 1)), some (.inl v1), some (.inl v2), some (.inl v3)] [.inl vs0] h := by
  refine bX10_between_42  (fun p1 => ?_) (fun p1 => ?_)
  · refine bX10_between_49  ?_
    exact bX10_between_50  (K0 p1)
  · refine bX10_between_45  ?_
    exact bX10_between_50  (K1 p1)

set_option maxRecDepth 20000 in
theorem t_X10_least {d  : Nat} {Q : Option MV → MH → Prop} {h : MH} {v1 v2 v3 : Int32} (K0 : v3 < 0 → Q (some (.inl (-(nI 2)))) h) (K1 : ¬ v3 < 0 → v3 ≤ (nI 1) → (nI 1) ≤ v1 → J mX10_least d 0 0 Q 0 0 23 [some (.inr (.inr 1)), some (.inl v1), some (.inl v2), some (.inl v3), some (.inl (nI 1)), none] [] h) (K2 : ¬ v3 < 0 → v3 ≤ (nI 1) → ¬ (nI 1) ≤ v1 → Q (some (.inl (-(nI 3)))) h) (K3 : ¬ v3 < 0 → ¬ v3 ≤ (nI 1) → Q (some (.inl (-(nI 2)))) h) : Con mX10_least d 0 0 [.inr (.inr 1), .inl v1, .inl v2, .inl v3] h Q := by
  refine Con.intro rfl (Nat.le_of_ble_eq_true rfl) ?_
  show J mX10_least d 0 0 Q 0 0 0 [some (.inr (.inr 1)), some (.inl v1), some (.inl v2), some (.inl v3), none, none] [] h
  refine bX10_least_0  (fun p1 => ?_) (fun p1 => ?_)
  · exact bX10_least_9  (K0 p1)
  · refine bX10_least_4  (fun p2 => ?_) (fun p2 => ?_)
    · refine bX10_least_12  (fun p3 => ?_) (fun p3 => ?_)
      · refine bX10_least_20  ?_
        exact K1 p1 p2 p3
      · exact bX10_least_17  (K2 p1 p2 p3)
    · exact bX10_least_9  (K3 p1 p2)

set_option maxRecDepth 20000 in
theorem t_X10_least_23 {d  : Nat} {Q : Option MV → MH → Prop} {h : MH} {u5 : Option MV} {v1 v2 v3 v4 : Int32} (K0 : (nI 4) < v4 → Q (some (.inl (-(nI 1)))) h) (K1 : ¬ (nI 4) < v4 → J mX10_least d 0 0 Q 0 0 32 [some (.inr (.inr 1)), some (.inl v1), some (.inl v2), some (.inl v3), some (.inl v4), some (.inl (nI 1))] [] h) : J mX10_least d 0 0 Q 0 0 23 [some (.inr (.inr 1)), some (.inl v1), some (.inl v2), some (.inl v3), some (.inl v4), u5] [] h := by
  refine bX10_least_23  (fun p1 => ?_) (fun p1 => ?_)
  · exact bX10_least_94  (K0 p1)
  · refine bX10_least_29  ?_
    exact K1 p1

set_option maxRecDepth 20000 in
theorem t_X10_least_32 {d d1' : Nat} {Q : Option MV → MH → Prop} {h : MH} {v1 v2 v3 v4 v5 : Int32} (hr : zRf h) (hd1' : d1' + 1 ≤ d) (K0 : ((nI 1) <<< ((h.1 16 0) &&& 31)) ≤ v5 → J mX10_least d 0 0 Q 0 0 23 [some (.inr (.inr 1)), some (.inl v1), some (.inl v2), some (.inl v3), some (.inl (v4 + nI 1)), some (.inl v5)] [] h) (K1 : ¬ ((nI 1) <<< ((h.1 16 0) &&& 31)) ≤ v5 → Con mJ6_bitCount_0f7a4 d1' 0 0 [.inl v5] h (zri fun (x : Int32) h' => J mX10_least d 0 0 Q 0 0 54 [some (.inr (.inr 1)), some (.inl v1), some (.inl v2), some (.inl v3), some (.inl v4), some (.inl v5)] [.inl x] h')) : J mX10_least d 0 0 Q 0 0 32 [some (.inr (.inr 1)), some (.inl v1), some (.inl v2), some (.inl v3), some (.inl v4), some (.inl v5)] [] h := by
  refine bX10_least_32 hr (fun p1 => ?_) (fun p1 => ?_)
  · refine bX10_least_88  ?_
    exact K0 p1
  · exact bX10_least_49  hd1' (K1 p1)

set_option maxRecDepth 20000 in
theorem t_X10_least_54 {d d1' : Nat} {Q : Option MV → MH → Prop} {h : MH} {v1 v2 v3 v4 v5 vs0 : Int32} (hr : zRf h) (hd1' : d1' + 1 ≤ d) (K0 : ¬ vs0 = v4 → J mX10_least d 0 0 Q 0 0 32 [some (.inr (.inr 1)), some (.inl v1), some (.inl v2), some (.inl v3), some (.inl v4), some (.inl (v5 + nI 1))] [] h) (K1 : vs0 = v4 → Con mX10_isTold d1' 0 0 [.inr (.inr 1), .inl v5, .inl v2, .inl v1] h (zri fun (x : Int32) h' => J mX10_least d 0 0 Q 0 0 67 [some (.inr (.inr 1)), some (.inl v1), some (.inl v2), some (.inl v3), some (.inl v4), some (.inl v5)] [.inl x] h')) : J mX10_least d 0 0 Q 0 0 54 [some (.inr (.inr 1)), some (.inl v1), some (.inl v2), some (.inl v3), some (.inl v4), some (.inl v5)] [.inl vs0] h := by
  refine bX10_least_54  (fun p1 => ?_) (fun p1 => ?_)
  · refine bX10_least_82  ?_
    exact K0 p1
  · exact bX10_least_59 hr hd1' (K1 p1)

set_option maxRecDepth 20000 in
theorem t_X10_least_67 {d  : Nat} {Q : Option MV → MH → Prop} {h : MH} {v1 v2 v3 v4 v5 vs0 : Int32} (K0 : vs0 = 0 → J mX10_least d 0 0 Q 0 0 32 [some (.inr (.inr 1)), some (.inl v1), some (.inl v2), some (.inl v3), some (.inl v4), some (.inl (v5 + nI 1))] [] h) (K1 : ¬ vs0 = 0 → ¬ v3 = 0 → Q (some (.inl v5)) h) (K2 : ¬ vs0 = 0 → v3 = 0 → Q (some (.inl v4)) h) : J mX10_least d 0 0 Q 0 0 67 [some (.inr (.inr 1)), some (.inl v1), some (.inl v2), some (.inl v3), some (.inl v4), some (.inl v5)] [.inl vs0] h := by
  refine bX10_least_67  (fun p1 => ?_) (fun p1 => ?_)
  · refine bX10_least_82  ?_
    exact K0 p1
  · refine bX10_least_70  (fun p2 => ?_) (fun p2 => ?_)
    · refine bX10_least_79  ?_
      exact bX10_least_81  (K1 p1 p2)
    · refine bX10_least_74  ?_
      exact bX10_least_81  (K2 p1 p2)

set_option maxRecDepth 20000 in
theorem t_X10_fewest {d d1' : Nat} {Q : Option MV → MH → Prop} {h : MH} {v1 v2 v3 : Int32} (hr : zRf h) (hd1' : d1' + 1 ≤ d) (K0 : Con mX10_isSet d1' 0 0 [.inr (.inr 1), .inl v1, .inl (nI 4)] h (zri fun (x : Int32) h' => J mX10_fewest d 0 0 Q 0 0 6 [some (.inr (.inr 1)), some (.inl v1), some (.inl v2), some (.inl v3)] [.inl x] h')) : Con mX10_fewest d 0 0 [.inr (.inr 1), .inl v1, .inl v2, .inl v3] h Q := by
  refine Con.intro rfl (Nat.le_of_ble_eq_true rfl) ?_
  show J mX10_fewest d 0 0 Q 0 0 0 [some (.inr (.inr 1)), some (.inl v1), some (.inl v2), some (.inl v3)] [] h
  exact bX10_fewest_0 hr hd1' (K0)

set_option maxRecDepth 20000 in
theorem t_X10_fewest_6 {d d1' : Nat} {Q : Option MV → MH → Prop} {h : MH} {v1 v2 v3 vs0 : Int32} (hr : zRf h) (hd1' : d1' + 1 ≤ d) (K0 : vs0 = 0 → Q (some (.inl (-(nI 3)))) h) (K1 : ¬ vs0 = 0 → (nI 1) ≤ v3 → Con mX9_lay d1' 0 0 [.inr (.inr 62), .inr (.inr 16), .inl v1, .inl v2] h (zrv fun h' => J mX10_fewest d 0 0 Q 0 0 33 [some (.inr (.inr 1)), some (.inl v1), some (.inl v2), some (.inl v3)] [] h')) (K2 : ¬ vs0 = 0 → ¬ (nI 1) ≤ v3 → Q (some (.inl (-(nI 3)))) h) : J mX10_fewest d 0 0 Q 0 0 6 [some (.inr (.inr 1)), some (.inl v1), some (.inl v2), some (.inl v3)] [.inl vs0] h := by
  refine bX10_fewest_6  (fun p1 => ?_) (fun p1 => ?_)
  · exact bX10_fewest_14  (K0 p1)
  · refine bX10_fewest_9  (fun p2 => ?_) (fun p2 => ?_)
    · exact bX10_fewest_17 hr hd1' (K1 p1 p2)
    · exact bX10_fewest_14  (K2 p1 p2)

set_option maxRecDepth 20000 in
theorem t_X10_fewest_33 {d d1' : Nat} {Q : Option MV → MH → Prop} {h : MH} {v1 v2 v3 : Int32} (hr : zRf h) (hd1' : d1' + 1 ≤ d) (K0 : Con mX9_seek d1' 0 0 [.inr (.inr 62), .inl (nI 2), .inl v3] h (zri fun (x : Int32) h' => J mX10_fewest d 0 0 Q 0 0 42 [some (.inr (.inr 1)), some (.inl v1), some (.inl v2), some (.inl v3)] [.inl x] h')) : J mX10_fewest d 0 0 Q 0 0 33 [some (.inr (.inr 1)), some (.inl v1), some (.inl v2), some (.inl v3)] [] h := by
  exact bX10_fewest_33 hr hd1' (K0)

set_option maxRecDepth 20000 in
theorem t_X10_fewest_42 {d  : Nat} {Q : Option MV → MH → Prop} {h : MH} {v1 v2 v3 vs0 : Int32} (hr : zRf h) (K0 : vs0 = 0 → Q (some (.inl (-(nI 1)))) h) (K1 : ¬ vs0 = 0 → Q (some (.inl (h.1 62 8))) h) : J mX10_fewest d 0 0 Q 0 0 42 [some (.inr (.inr 1)), some (.inl v1), some (.inl v2), some (.inl v3)] [.inl vs0] h := by
  refine bX10_fewest_42  (fun p1 => ?_) (fun p1 => ?_)
  · refine bX10_fewest_55  ?_
    exact bX10_fewest_56  (K0 p1)
  · refine bX10_fewest_45 hr ?_
    exact bX10_fewest_56  (K1 p1)

set_option maxRecDepth 20000 in
theorem t_X10_burnt {d d1' : Nat} {Q : Option MV → MH → Prop} {h : MH} {v1 v2 v3 : Int32} (hr : zRf h) (hd1' : d1' + 1 ≤ d) (K0 : Con mX10_isSet d1' 0 0 [.inr (.inr 1), .inl v1, .inl (nI 4)] h (zri fun (x : Int32) h' => J mX10_burnt d 0 0 Q 0 0 6 [some (.inr (.inr 1)), some (.inl v1), some (.inl v2), some (.inl v3)] [.inl x] h')) : Con mX10_burnt d 0 0 [.inr (.inr 1), .inl v1, .inl v2, .inl v3] h Q := by
  refine Con.intro rfl (Nat.le_of_ble_eq_true rfl) ?_
  show J mX10_burnt d 0 0 Q 0 0 0 [some (.inr (.inr 1)), some (.inl v1), some (.inl v2), some (.inl v3)] [] h
  exact bX10_burnt_0 hr hd1' (K0)

set_option maxRecDepth 20000 in
theorem t_X10_burnt_6 {d d1' : Nat} {Q : Option MV → MH → Prop} {h : MH} {v1 v2 v3 vs0 : Int32} (hr : zRf h) (hd1' : d1' + 1 ≤ d) (K0 : vs0 = 0 → Q (some (.inl (-(nI 3)))) h) (K1 : ¬ vs0 = 0 → (nI 1) ≤ v3 → Con mX9_lay d1' 0 0 [.inr (.inr 62), .inr (.inr 16), .inl v1, .inl v2] h (zrv fun h' => J mX10_burnt d 0 0 Q 0 0 33 [some (.inr (.inr 1)), some (.inl v1), some (.inl v2), some (.inl v3)] [] h')) (K2 : ¬ vs0 = 0 → ¬ (nI 1) ≤ v3 → Q (some (.inl (-(nI 3)))) h) : J mX10_burnt d 0 0 Q 0 0 6 [some (.inr (.inr 1)), some (.inl v1), some (.inl v2), some (.inl v3)] [.inl vs0] h := by
  refine bX10_burnt_6  (fun p1 => ?_) (fun p1 => ?_)
  · exact bX10_burnt_14  (K0 p1)
  · refine bX10_burnt_9  (fun p2 => ?_) (fun p2 => ?_)
    · exact bX10_burnt_17 hr hd1' (K1 p1 p2)
    · exact bX10_burnt_14  (K2 p1 p2)

set_option maxRecDepth 20000 in
theorem t_X10_burnt_33 {d d1' : Nat} {Q : Option MV → MH → Prop} {h : MH} {v1 v2 v3 : Int32} (hr : zRf h) (hd1' : d1' + 1 ≤ d) (K0 : Con mX9_seek d1' 0 0 [.inr (.inr 62), .inl (nI 3), .inl v3] h (zri fun (x : Int32) h' => J mX10_burnt d 0 0 Q 0 0 42 [some (.inr (.inr 1)), some (.inl v1), some (.inl v2), some (.inl v3)] [.inl x] h')) : J mX10_burnt d 0 0 Q 0 0 33 [some (.inr (.inr 1)), some (.inl v1), some (.inl v2), some (.inl v3)] [] h := by
  exact bX10_burnt_33 hr hd1' (K0)

set_option maxRecDepth 20000 in
theorem t_X10_burnt_42 {d  : Nat} {Q : Option MV → MH → Prop} {h : MH} {v1 v2 v3 vs0 : Int32} (hr : zRf h) (K0 : vs0 = 0 → Q (some (.inl (-(nI 1)))) h) (K1 : ¬ vs0 = 0 → Q (some (.inl (h.1 62 8))) h) : J mX10_burnt d 0 0 Q 0 0 42 [some (.inr (.inr 1)), some (.inl v1), some (.inl v2), some (.inl v3)] [.inl vs0] h := by
  refine bX10_burnt_42  (fun p1 => ?_) (fun p1 => ?_)
  · refine bX10_burnt_55  ?_
    exact bX10_burnt_56  (K0 p1)
  · refine bX10_burnt_45 hr ?_
    exact bX10_burnt_56  (K1 p1)

set_option maxRecDepth 20000 in
theorem t_X10_given {d d1' : Nat} {Q : Option MV → MH → Prop} {h : MH} {v1 v2 v3 v4 : Int32} (hr : zRf h) (hd1' : d1' + 1 ≤ d) (K0 : Con mX10_isSet d1' 0 0 [.inr (.inr 1), .inl v1, .inl (nI 4)] h (zri fun (x : Int32) h' => J mX10_given d 0 0 Q 0 0 6 [some (.inr (.inr 1)), some (.inl v1), some (.inl v2), some (.inl v3), some (.inl v4)] [.inl x] h')) : Con mX10_given d 0 0 [.inr (.inr 1), .inl v1, .inl v2, .inl v3, .inl v4] h Q := by
  refine Con.intro rfl (Nat.le_of_ble_eq_true rfl) ?_
  show J mX10_given d 0 0 Q 0 0 0 [some (.inr (.inr 1)), some (.inl v1), some (.inl v2), some (.inl v3), some (.inl v4)] [] h
  exact bX10_given_0 hr hd1' (K0)

set_option maxRecDepth 20000 in
theorem t_X10_given_6 {d d1' : Nat} {Q : Option MV → MH → Prop} {h : MH} {v1 v2 v3 v4 vs0 : Int32} (hr : zRf h) (hd1' : d1' + 1 ≤ d) (K0 : vs0 = 0 → Q (some (.inl (-(nI 3)))) h) (K1 : ¬ vs0 = 0 → (nI 1) ≤ v3 → Con mX9_lay d1' 0 0 [.inr (.inr 62), .inr (.inr 16), .inl v1, .inl v2] h (zrv fun h' => J mX10_given d 0 0 Q 0 0 33 [some (.inr (.inr 1)), some (.inl v1), some (.inl v2), some (.inl v3), some (.inl v4)] [] h')) (K2 : ¬ vs0 = 0 → ¬ (nI 1) ≤ v3 → Q (some (.inl (-(nI 3)))) h) : J mX10_given d 0 0 Q 0 0 6 [some (.inr (.inr 1)), some (.inl v1), some (.inl v2), some (.inl v3), some (.inl v4)] [.inl vs0] h := by
  refine bX10_given_6  (fun p1 => ?_) (fun p1 => ?_)
  · exact bX10_given_14  (K0 p1)
  · refine bX10_given_9  (fun p2 => ?_) (fun p2 => ?_)
    · exact bX10_given_17 hr hd1' (K1 p1 p2)
    · exact bX10_given_14  (K2 p1 p2)

set_option maxRecDepth 20000 in
theorem t_X10_given_33 {d d1' : Nat} {Q : Option MV → MH → Prop} {h : MH} {v1 v2 v3 v4 : Int32} (hr : zRf h) (hd1' : d1' + 1 ≤ d) (K0 : Con mX9_seek d1' 0 0 [.inr (.inr 62), .inl (nI 1), .inl v3] h (zri fun (x : Int32) h' => J mX10_given d 0 0 Q 0 0 42 [some (.inr (.inr 1)), some (.inl v1), some (.inl v2), some (.inl v3), some (.inl v4)] [.inl x] h')) : J mX10_given d 0 0 Q 0 0 33 [some (.inr (.inr 1)), some (.inl v1), some (.inl v2), some (.inl v3), some (.inl v4)] [] h := by
  exact bX10_given_33 hr hd1' (K0)

set_option maxRecDepth 20000 in
theorem t_X10_given_42 {d d1' : Nat} {Q : Option MV → MH → Prop} {h : MH} {v1 v2 v3 v4 vs0 : Int32} (hr : zRf h) (hd1' : d1' + 1 ≤ d) (K0 : ¬ vs0 = 0 → ¬ v4 = (-(nI 1)) → Con mX9_digits d1' 0 0 [.inr (.inr 62), .inl v4] h (zri fun (x : Int32) h' => J mX10_given d 0 0 Q 0 0 72 [some (.inr (.inr 1)), some (.inl v1), some (.inl v2), some (.inl v3), some (.inl v4)] [.inl x] h')) (K1 : ¬ vs0 = 0 → v4 = (-(nI 1)) → Q (some (.inl (h.1 62 9))) h) (K2 : vs0 = 0 → Q (some (.inl (-(nI 1)))) h) : J mX10_given d 0 0 Q 0 0 42 [some (.inr (.inr 1)), some (.inl v1), some (.inl v2), some (.inl v3), some (.inl v4)] [.inl vs0] h := by
  refine bX10_given_42  (fun p1 => ?_) (fun p1 => ?_)
  · refine bX10_given_47  (fun p2 => ?_) (fun p2 => ?_)
    · exact bX10_given_63 hr hd1' (K0 p1 p2)
    · refine bX10_given_53 hr ?_
      exact bX10_given_72  (K1 p1 p2)
  · exact bX10_given_45  (K2 p1)

set_option maxRecDepth 20000 in
theorem t_X10_given_72 {d  : Nat} {Q : Option MV → MH → Prop} {h : MH} {v1 v2 v3 v4 vs0 : Int32} (K0 : Q (some (.inl vs0)) h) : J mX10_given d 0 0 Q 0 0 72 [some (.inr (.inr 1)), some (.inl v1), some (.inl v2), some (.inl v3), some (.inl v4)] [.inl vs0] h := by
  exact bX10_given_72  (K0)

set_option maxRecDepth 20000 in
theorem t_X10_lacks {d d1' : Nat} {Q : Option MV → MH → Prop} {h : MH} {v1 v2 v3 v4 : Int32} (hr : zRf h) (hd1' : d1' + 1 ≤ d) (K0 : Con mX10_isSet d1' 0 0 [.inr (.inr 1), .inl v1, .inl (nI 4)] h (zri fun (x : Int32) h' => J mX10_lacks d 0 0 Q 0 0 6 [some (.inr (.inr 1)), some (.inl v1), some (.inl v2), some (.inl v3), some (.inl v4), none, none, none, none] [.inl x] h')) : Con mX10_lacks d 0 0 [.inr (.inr 1), .inl v1, .inl v2, .inl v3, .inl v4] h Q := by
  refine Con.intro rfl (Nat.le_of_ble_eq_true rfl) ?_
  show J mX10_lacks d 0 0 Q 0 0 0 [some (.inr (.inr 1)), some (.inl v1), some (.inl v2), some (.inl v3), some (.inl v4), none, none, none, none] [] h
  exact bX10_lacks_0 hr hd1' (K0)

set_option maxRecDepth 20000 in
theorem t_X10_lacks_6 {d d1' : Nat} {Q : Option MV → MH → Prop} {h : MH} {v1 v2 v3 v4 vs0 : Int32} (hr : zRf h) (hd1' : d1' + 1 ≤ d) (K0 : vs0 = 0 → Q (some (.inl (-(nI 3)))) h) (K1 : ¬ vs0 = 0 → (nI 64) ≤ v3 → Con mX10_allTold d1' 0 0 [.inr (.inr 1), .inl v1, .inl v2] h (zrr fun (x : Nat) h' => J mX10_lacks d 0 0 Q 0 0 24 [some (.inr (.inr 1)), some (.inl v1), some (.inl v2), some (.inl v3), some (.inl v4), none, none, none, none] [.inr (.inr x)] h')) (K2 : ¬ vs0 = 0 → ¬ (nI 64) ≤ v3 → Q (some (.inl (-(nI 3)))) h) : J mX10_lacks d 0 0 Q 0 0 6 [some (.inr (.inr 1)), some (.inl v1), some (.inl v2), some (.inl v3), some (.inl v4), none, none, none, none] [.inl vs0] h := by
  refine bX10_lacks_6  (fun p1 => ?_) (fun p1 => ?_)
  · exact bX10_lacks_15  (K0 p1)
  · refine bX10_lacks_9  (fun p2 => ?_) (fun p2 => ?_)
    · exact bX10_lacks_18 hr hd1' (K1 p1 p2)
    · exact bX10_lacks_15  (K2 p1 p2)

set_option maxRecDepth 20000 in
theorem t_X10_lacks_24 {d d1' : Nat} {Q : Option MV → MH → Prop} {h : MH} {v1 v2 v3 v4 : Int32} {vs0 : Nat} (hr : zRf h) (hd1' : d1' + 1 ≤ d) (K0 : Con mX2_sparksOfSet d1' 0 0 [.inr (.inr 16), .inl v1] h (zri fun (x : Int32) h' => J mX10_lacks d 0 0 Q 0 0 37 [some (.inr (.inr 1)), some (.inl v1), some (.inl v2), some (.inl v3), some (.inl v4), some (.inr (.inr vs0)), none, none, none] [.inl x] h')) : J mX10_lacks d 0 0 Q 0 0 24 [some (.inr (.inr 1)), some (.inl v1), some (.inl v2), some (.inl v3), some (.inl v4), none, none, none, none] [.inr (.inr vs0)] h := by
  exact bX10_lacks_24 hr hd1' (K0)

set_option maxRecDepth 20000 in
theorem t_X10_lacks_37 {d  : Nat} {Q : Option MV → MH → Prop} {h : MH} {v1 v2 v3 v4 vs0 : Int32} {v5 : Nat} (K0 : J mX10_lacks d 0 0 Q 0 0 45 [some (.inr (.inr 1)), some (.inl v1), some (.inl v2), some (.inl v3), some (.inl v4), some (.inr (.inr v5)), some (.inl vs0), some (.inl (nI 0)), some (.inl (nI 1))] [] h) : J mX10_lacks d 0 0 Q 0 0 37 [some (.inr (.inr 1)), some (.inl v1), some (.inl v2), some (.inl v3), some (.inl v4), some (.inr (.inr v5)), none, none, none] [.inl vs0] h := by
  refine bX10_lacks_37  ?_
  exact K0

set_option maxRecDepth 20000 in
theorem t_X10_lacks_45 {d  : Nat} {Q : Option MV → MH → Prop} {h : MH} {v1 v2 v3 v4 v6 v7 v8 : Int32} {v5 : Nat} (hr : zRf h) (hd : 2 ≤ d) (G0 : ¬ v3 = 0) (G1 : ¬ (v6 / v3) < v8 → zokO h v5 3) (G2 : ¬ (v6 / v3) < v8 → ¬ (v8 * v3) < 0 → ((v8 * v3) - (v8 * v3) / (nI 16) * (nI 16)) = 0 → ¬ ((v8 * v3) / (nI 16)) < 0 → ¬ (nI 23104) ≤ ((v8 * v3) / (nI 16)) → vp_in (((v8 * v3) / (nI 16)) >>> ((nI 6) &&& 31)) 361) (K0 : (v6 / v3) < v8 → ¬ v4 = (-(nI 1)) → Q (some (.inl (-(nI 1)))) h) (K1 : (v6 / v3) < v8 → v4 = (-(nI 1)) → Q (some (.inl v7)) h) (K2 : ¬ (v6 / v3) < v8 → (v8 * v3) < 0 → ¬ v7 = v4 → J mX10_lacks d 0 0 Q 0 0 45 [some (.inr (.inr 1)), some (.inl v1), some (.inl v2), some (.inl v3), some (.inl v4), some (.inr (.inr v5)), some (.inl v6), some (.inl (v7 + nI 1)), some (.inl (v8 + nI 1))] [] h) (K3 : ¬ (v6 / v3) < v8 → (v8 * v3) < 0 → v7 = v4 → Q (some (.inl (v8 * v3))) h) (K4 : ¬ (v6 / v3) < v8 → ¬ (v8 * v3) < 0 → ¬ ((v8 * v3) - (v8 * v3) / (nI 16) * (nI 16)) = 0 → ¬ v7 = v4 → J mX10_lacks d 0 0 Q 0 0 45 [some (.inr (.inr 1)), some (.inl v1), some (.inl v2), some (.inl v3), some (.inl v4), some (.inr (.inr v5)), some (.inl v6), some (.inl (v7 + nI 1)), some (.inl (v8 + nI 1))] [] h) (K5 : ¬ (v6 / v3) < v8 → ¬ (v8 * v3) < 0 → ¬ ((v8 * v3) - (v8 * v3) / (nI 16) * (nI 16)) = 0 → v7 = v4 → Q (some (.inl (v8 * v3))) h) (K6 : ¬ (v6 / v3) < v8 → ¬ (v8 * v3) < 0 → ((v8 * v3) - (v8 * v3) / (nI 16) * (nI 16)) = 0 → ((v8 * v3) / (nI 16)) < 0 → ¬ v7 = v4 → J mX10_lacks d 0 0 Q 0 0 45 [some (.inr (.inr 1)), some (.inl v1), some (.inl v2), some (.inl v3), some (.inl v4), some (.inr (.inr v5)), some (.inl v6), some (.inl (v7 + nI 1)), some (.inl (v8 + nI 1))] [] h) (K7 : ¬ (v6 / v3) < v8 → ¬ (v8 * v3) < 0 → ((v8 * v3) - (v8 * v3) / (nI 16) * (nI 16)) = 0 → ((v8 * v3) / (nI 16)) < 0 → v7 = v4 → Q (some (.inl (v8 * v3))) h) (K8 : ¬ (v6 / v3) < v8 → ¬ (v8 * v3) < 0 → ((v8 * v3) - (v8 * v3) / (nI 16) * (nI 16)) = 0 → ¬ ((v8 * v3) / (nI 16)) < 0 → (nI 23104) ≤ ((v8 * v3) / (nI 16)) → ¬ v7 = v4 → J mX10_lacks d 0 0 Q 0 0 45 [some (.inr (.inr 1)), some (.inl v1), some (.inl v2), some (.inl v3), some (.inl v4), some (.inr (.inr v5)), some (.inl v6), some (.inl (v7 + nI 1)), some (.inl (v8 + nI 1))] [] h) (K9 : ¬ (v6 / v3) < v8 → ¬ (v8 * v3) < 0 → ((v8 * v3) - (v8 * v3) / (nI 16) * (nI 16)) = 0 → ¬ ((v8 * v3) / (nI 16)) < 0 → (nI 23104) ≤ ((v8 * v3) / (nI 16)) → v7 = v4 → Q (some (.inl (v8 * v3))) h) (K10 : ¬ (v6 / v3) < v8 → ¬ (v8 * v3) < 0 → ((v8 * v3) - (v8 * v3) / (nI 16) * (nI 16)) = 0 → ¬ ((v8 * v3) / (nI 16)) < 0 → ¬ (nI 23104) ≤ ((v8 * v3) / (nI 16)) → (lg_cmp ((((h.2.1 (v5 + 1) (((v8 * v3) / (nI 16)) >>> ((nI 6) &&& 31)).toNatClampNeg).toUInt64 >>> ((((v8 * v3) / (nI 16)) &&& (nI 63)).toInt64.toUInt64 &&& Int64.toUInt64 63)).toInt64) &&& (lN 1)) (lN 0)) = 0 → ¬ v7 = v4 → J mX10_lacks d 0 0 Q 0 0 45 [some (.inr (.inr 1)), some (.inl v1), some (.inl v2), some (.inl v3), some (.inl v4), some (.inr (.inr v5)), some (.inl v6), some (.inl (v7 + nI 1)), some (.inl (v8 + nI 1))] [] h) (K11 : ¬ (v6 / v3) < v8 → ¬ (v8 * v3) < 0 → ((v8 * v3) - (v8 * v3) / (nI 16) * (nI 16)) = 0 → ¬ ((v8 * v3) / (nI 16)) < 0 → ¬ (nI 23104) ≤ ((v8 * v3) / (nI 16)) → (lg_cmp ((((h.2.1 (v5 + 1) (((v8 * v3) / (nI 16)) >>> ((nI 6) &&& 31)).toNatClampNeg).toUInt64 >>> ((((v8 * v3) / (nI 16)) &&& (nI 63)).toInt64.toUInt64 &&& Int64.toUInt64 63)).toInt64) &&& (lN 1)) (lN 0)) = 0 → v7 = v4 → Q (some (.inl (v8 * v3))) h) (K12 : ¬ (v6 / v3) < v8 → ¬ (v8 * v3) < 0 → ((v8 * v3) - (v8 * v3) / (nI 16) * (nI 16)) = 0 → ¬ ((v8 * v3) / (nI 16)) < 0 → ¬ (nI 23104) ≤ ((v8 * v3) / (nI 16)) → ¬ (lg_cmp ((((h.2.1 (v5 + 1) (((v8 * v3) / (nI 16)) >>> ((nI 6) &&& 31)).toNatClampNeg).toUInt64 >>> ((((v8 * v3) / (nI 16)) &&& (nI 63)).toInt64.toUInt64 &&& Int64.toUInt64 63)).toInt64) &&& (lN 1)) (lN 0)) = 0 → J mX10_lacks d 0 0 Q 0 0 45 [some (.inr (.inr 1)), some (.inl v1), some (.inl v2), some (.inl v3), some (.inl v4), some (.inr (.inr v5)), some (.inl v6), some (.inl v7), some (.inl (v8 + nI 1))] [] h) : J mX10_lacks d 0 0 Q 0 0 45 [some (.inr (.inr 1)), some (.inl v1), some (.inl v2), some (.inl v3), some (.inl v4), some (.inr (.inr v5)), some (.inl v6), some (.inl v7), some (.inl v8)] [] h := by
  refine bX10_lacks_45 (G0) (fun p1 => ?_) (fun p1 => ?_)
  · refine bX10_lacks_87  (fun p2 => ?_) (fun p2 => ?_)
    · refine bX10_lacks_98  ?_
      exact bX10_lacks_99  (K0 p1 p2)
    · refine bX10_lacks_93  ?_
      exact bX10_lacks_99  (K1 p1 p2)
  · refine bX10_lacks_54 (d' := 1) (G1 p1) (by omega) ?_
    refine t_X3_has hr (Nat.le_refl _) ?_ ?_ ?_ ?_ ?_ ?_ ?_ ?_
    · intro p3 p4; exact (G1 p1)
    · intro p5 p6 p7 p8; exact (G2 p1 p5 p6 p7 p8)
    · intro p9
      refine bX10_lacks_63  (fun c => absurd c (by decide)) (fun _ => ?_)
      refine bX10_lacks_66  (fun p29 => ?_) (fun p29 => ?_)
      · refine bX10_lacks_78  ?_
        refine bX10_lacks_81  ?_
        exact K2 p1 p9 p29
      · exact bX10_lacks_73  (K3 p1 p9 p29)
    · intro p10 p11
      refine bX10_lacks_63  (fun c => absurd c (by decide)) (fun _ => ?_)
      refine bX10_lacks_66  (fun p30 => ?_) (fun p30 => ?_)
      · refine bX10_lacks_78  ?_
        refine bX10_lacks_81  ?_
        exact K4 p1 p10 p11 p30
      · exact bX10_lacks_73  (K5 p1 p10 p11 p30)
    · intro p12 p13 p14
      refine bX10_lacks_63  (fun c => absurd c (by decide)) (fun _ => ?_)
      refine bX10_lacks_66  (fun p31 => ?_) (fun p31 => ?_)
      · refine bX10_lacks_78  ?_
        refine bX10_lacks_81  ?_
        exact K6 p1 p12 p13 p14 p31
      · exact bX10_lacks_73  (K7 p1 p12 p13 p14 p31)
    · intro p15 p16 p17 p18
      refine bX10_lacks_63  (fun c => absurd c (by decide)) (fun _ => ?_)
      refine bX10_lacks_66  (fun p32 => ?_) (fun p32 => ?_)
      · refine bX10_lacks_78  ?_
        refine bX10_lacks_81  ?_
        exact K8 p1 p15 p16 p17 p18 p32
      · exact bX10_lacks_73  (K9 p1 p15 p16 p17 p18 p32)
    · intro p19 p20 p21 p22 p23
      refine bX10_lacks_63  (fun c => absurd c (by decide)) (fun _ => ?_)
      refine bX10_lacks_66  (fun p33 => ?_) (fun p33 => ?_)
      · refine bX10_lacks_78  ?_
        refine bX10_lacks_81  ?_
        exact K10 p1 p19 p20 p21 p22 p23 p33
      · exact bX10_lacks_73  (K11 p1 p19 p20 p21 p22 p23 p33)
    · intro p24 p25 p26 p27 p28
      refine bX10_lacks_63  (fun _ => ?_) (fun c => absurd c (by decide))
      refine bX10_lacks_81  ?_
      exact K12 p1 p24 p25 p26 p27 p28

set_option maxRecDepth 20000 in
theorem t_X10_together {d d1' : Nat} {Q : Option MV → MH → Prop} {h : MH} {v1 v2 v3 : Int32} (hr : zRf h) (hd : 1 ≤ d) (hd1' : d1' + 1 ≤ d) (G0 : ¬ v3 < 0 → ¬ (nI 4) ≤ v3 → vp_in v3 4) (K0 : v3 < 0 → Q (some (.inl (-(nI 2)))) h) (K1 : ¬ v3 < 0 → (nI 4) ≤ v3 → Q (some (.inl (-(nI 2)))) h) (K2 : ¬ v3 < 0 → ¬ (nI 4) ≤ v3 → ¬ (h.1 (103 + 2 * v3.toNatClampNeg) 0) = 0 → Con mX10_isSet d1' 0 0 [.inr (.inr 1), .inl v1, .inl (nI 4)] h (zri fun (x : Int32) h' => J mX10_together d 0 0 Q 0 0 31 [some (.inr (.inr 1)), some (.inl v1), some (.inl v2), some (.inl v3)] [.inl x] h')) (K3 : ¬ v3 < 0 → ¬ (nI 4) ≤ v3 → (h.1 (103 + 2 * v3.toNatClampNeg) 0) = 0 → Q (some (.inl (-(nI 6)))) h) : Con mX10_together d 0 0 [.inr (.inr 1), .inl v1, .inl v2, .inl v3] h Q := by
  refine Con.intro rfl (Nat.le_of_ble_eq_true rfl) ?_
  show J mX10_together d 0 0 Q 0 0 0 [some (.inr (.inr 1)), some (.inl v1), some (.inl v2), some (.inl v3)] [] h
  refine bX10_together_0 (d' := 0)  (by omega) ?_
  refine t_X10_isRow  ?_ ?_ ?_
  · intro p1
    refine bX10_together_4  (fun c => absurd c (by decide)) (fun _ => ?_)
    exact bX10_together_7  (K0 p1)
  · intro p2 p3
    refine bX10_together_4  (fun c => absurd c (by decide)) (fun _ => ?_)
    exact bX10_together_7  (K1 p2 p3)
  · intro p4 p5
    refine bX10_together_4  (fun _ => ?_) (fun c => absurd c (by decide))
    refine bX10_together_10 hr (G0 p4 p5) (fun p6 => ?_) (fun p6 => ?_)
    · exact bX10_together_25 hr hd1' (K2 p4 p5 p6)
    · exact bX10_together_22  (K3 p4 p5 p6)

set_option maxRecDepth 20000 in
theorem t_X10_together_31 {d d1' : Nat} {Q : Option MV → MH → Prop} {h : MH} {v1 v2 v3 vs0 : Int32} (hr : zRf h) (hd1' : d1' + 1 ≤ d) (G0 : ¬ vs0 = 0 → vp_in v3 4) (K0 : ¬ vs0 = 0 → Con mX9_want d1' 0 0 [.inr (.inr 62), .inr (.inr (103 + 2 * v3.toNatClampNeg))] h (zri fun (x : Int32) h' => J mX10_together d 0 0 Q 0 0 50 [some (.inr (.inr 1)), some (.inl v1), some (.inl v2), some (.inl v3)] [.inl x] h')) (K1 : vs0 = 0 → Q (some (.inl (-(nI 3)))) h) : J mX10_together d 0 0 Q 0 0 31 [some (.inr (.inr 1)), some (.inl v1), some (.inl v2), some (.inl v3)] [.inl vs0] h := by
  refine bX10_together_31  (fun p1 => ?_) (fun p1 => ?_)
  · exact bX10_together_37 hr (G0 p1) hd1' (K0 p1)
  · exact bX10_together_34  (K1 p1)

set_option maxRecDepth 20000 in
theorem t_X10_together_50 {d d1' : Nat} {Q : Option MV → MH → Prop} {h : MH} {v1 v2 v3 vs0 : Int32} (hr : zRf h) (hd1' : d1' + 1 ≤ d) (K0 : vs0 = 0 → Q (some (.inl (nI 0))) h) (K1 : ¬ vs0 = 0 → Con mX10_areTogether d1' 0 0 [.inr (.inr 1), .inl v1, .inl v2] h (zri fun (x : Int32) h' => J mX10_together d 0 0 Q 0 0 59 [some (.inr (.inr 1)), some (.inl v1), some (.inl v2), some (.inl v3)] [.inl x] h')) : J mX10_together d 0 0 Q 0 0 50 [some (.inr (.inr 1)), some (.inl v1), some (.inl v2), some (.inl v3)] [.inl vs0] h := by
  refine bX10_together_50  (fun p1 => ?_) (fun p1 => ?_)
  · refine bX10_together_66  ?_
    exact bX10_together_67  (K0 p1)
  · exact bX10_together_53 hr hd1' (K1 p1)

set_option maxRecDepth 20000 in
theorem t_X10_together_59 {d  : Nat} {Q : Option MV → MH → Prop} {h : MH} {v1 v2 v3 vs0 : Int32} (K0 : vs0 = 0 → Q (some (.inl (nI 0))) h) (K1 : ¬ vs0 = 0 → Q (some (.inl (nI 1))) h) : J mX10_together d 0 0 Q 0 0 59 [some (.inr (.inr 1)), some (.inl v1), some (.inl v2), some (.inl v3)] [.inl vs0] h := by
  refine bX10_together_59  (fun p1 => ?_) (fun p1 => ?_)
  · refine bX10_together_66  ?_
    exact bX10_together_67  (K0 p1)
  · refine bX10_together_62  ?_
    exact bX10_together_67  (K1 p1)

set_option maxRecDepth 20000 in
theorem t_X10_areTogether {d d1' : Nat} {Q : Option MV → MH → Prop} {h : MH} {v1 v2 : Int32} (hr : zRf h) (hd1' : d1' + 1 ≤ d) (K0 : Con mX9_lay d1' 0 0 [.inr (.inr 62), .inr (.inr 16), .inl v1, .inl v2] h (zrv fun h' => J mX10_areTogether d 0 0 Q 0 0 16 [some (.inr (.inr 1)), some (.inl v1), some (.inl v2)] [] h')) : Con mX10_areTogether d 0 0 [.inr (.inr 1), .inl v1, .inl v2] h Q := by
  refine Con.intro rfl (Nat.le_of_ble_eq_true rfl) ?_
  show J mX10_areTogether d 0 0 Q 0 0 0 [some (.inr (.inr 1)), some (.inl v1), some (.inl v2)] [] h
  exact bX10_areTogether_0 hr hd1' (K0)

set_option maxRecDepth 20000 in
theorem t_X10_areTogether_16 {d d1' : Nat} {Q : Option MV → MH → Prop} {h : MH} {v1 v2 : Int32} (hr : zRf h) (hd1' : d1' + 1 ≤ d) (K0 : Con mX9_seekWanted d1' 0 0 [.inr (.inr 62)] h (zri fun (x : Int32) h' => J mX10_areTogether d 0 0 Q 0 0 23 [some (.inr (.inr 1)), some (.inl v1), some (.inl v2)] [.inl x] h')) : J mX10_areTogether d 0 0 Q 0 0 16 [some (.inr (.inr 1)), some (.inl v1), some (.inl v2)] [] h := by
  exact bX10_areTogether_16 hr hd1' (K0)

set_option maxRecDepth 20000 in
theorem t_X10_areTogether_23 {d  : Nat} {Q : Option MV → MH → Prop} {h : MH} {v1 v2 vs0 : Int32} (G0 : vs0 = 0 ∨ vs0 = 1) (K0 : Q (some (.inl vs0)) h) : J mX10_areTogether d 0 0 Q 0 0 23 [some (.inr (.inr 1)), some (.inl v1), some (.inl v2)] [.inl vs0] h := by
  exact bX10_areTogether_23 (G0) (K0)

set_option maxRecDepth 20000 in
theorem t_X10_leastFor {d d1' : Nat} {Q : Option MV → MH → Prop} {h : MH} {v1 v2 : Int32} (hr : zRf h) (hd : 1 ≤ d) (hd1' : d1' + 1 ≤ d) (G0 : ¬ v1 < 0 → ¬ (nI 4) ≤ v1 → vp_in v1 4) (K0 : v1 < 0 → Q (some (.inl (-(nI 2)))) h) (K1 : ¬ v1 < 0 → (nI 4) ≤ v1 → Q (some (.inl (-(nI 2)))) h) (K2 : ¬ v1 < 0 → ¬ (nI 4) ≤ v1 → ¬ (h.1 (103 + 2 * v1.toNatClampNeg) 0) = 0 → Con mX9_want d1' 0 0 [.inr (.inr 62), .inr (.inr (103 + 2 * v1.toNatClampNeg))] h (zri fun (x : Int32) h' => J mX10_leastFor d 0 0 Q 0 0 38 [some (.inr (.inr 1)), some (.inl v1), some (.inl v2), none, none] [.inl x] h')) (K3 : ¬ v1 < 0 → ¬ (nI 4) ≤ v1 → (h.1 (103 + 2 * v1.toNatClampNeg) 0) = 0 → Q (some (.inl (-(nI 6)))) h) : Con mX10_leastFor d 0 0 [.inr (.inr 1), .inl v1, .inl v2] h Q := by
  refine Con.intro rfl (Nat.le_of_ble_eq_true rfl) ?_
  show J mX10_leastFor d 0 0 Q 0 0 0 [some (.inr (.inr 1)), some (.inl v1), some (.inl v2), none, none] [] h
  refine bX10_leastFor_0 (d' := 0)  (by omega) ?_
  refine t_X10_isRow  ?_ ?_ ?_
  · intro p1
    refine bX10_leastFor_4  (fun c => absurd c (by decide)) (fun _ => ?_)
    exact bX10_leastFor_7  (K0 p1)
  · intro p2 p3
    refine bX10_leastFor_4  (fun c => absurd c (by decide)) (fun _ => ?_)
    exact bX10_leastFor_7  (K1 p2 p3)
  · intro p4 p5
    refine bX10_leastFor_4  (fun _ => ?_) (fun c => absurd c (by decide))
    refine bX10_leastFor_10 hr (G0 p4 p5) (fun p6 => ?_) (fun p6 => ?_)
    · exact bX10_leastFor_25 hr (G0 p4 p5) hd1' (K2 p4 p5 p6)
    · exact bX10_leastFor_22  (K3 p4 p5 p6)

set_option maxRecDepth 20000 in
theorem t_X10_leastFor_38 {d  : Nat} {Q : Option MV → MH → Prop} {h : MH} {v1 v2 vs0 : Int32} (K0 : ¬ vs0 = 0 → J mX10_leastFor d 0 0 Q 0 0 45 [some (.inr (.inr 1)), some (.inl v1), some (.inl v2), some (.inl (nI 1)), none] [] h) (K1 : vs0 = 0 → Q (some (.inl (-(nI 1)))) h) : J mX10_leastFor d 0 0 Q 0 0 38 [some (.inr (.inr 1)), some (.inl v1), some (.inl v2), none, none] [.inl vs0] h := by
  refine bX10_leastFor_38  (fun p1 => ?_) (fun p1 => ?_)
  · refine bX10_leastFor_43  ?_
    exact K0 p1
  · exact bX10_leastFor_41  (K1 p1)

set_option maxRecDepth 20000 in
theorem t_X10_leastFor_45 {d  : Nat} {Q : Option MV → MH → Prop} {h : MH} {u4 : Option MV} {v1 v2 v3 : Int32} (K0 : (nI 4) < v3 → Q (some (.inl (-(nI 1)))) h) (K1 : ¬ (nI 4) < v3 → J mX10_leastFor d 0 0 Q 0 0 53 [some (.inr (.inr 1)), some (.inl v1), some (.inl v2), some (.inl v3), some (.inl (nI 1))] [] h) : J mX10_leastFor d 0 0 Q 0 0 45 [some (.inr (.inr 1)), some (.inl v1), some (.inl v2), some (.inl v3), u4] [] h := by
  refine bX10_leastFor_45  (fun p1 => ?_) (fun p1 => ?_)
  · exact bX10_leastFor_104  (K0 p1)
  · refine bX10_leastFor_50  ?_
    exact K1 p1

set_option maxRecDepth 20000 in
theorem t_X10_leastFor_53 {d d1' : Nat} {Q : Option MV → MH → Prop} {h : MH} {v1 v2 v3 v4 : Int32} (hr : zRf h) (hd1' : d1' + 1 ≤ d) (K0 : ((nI 1) <<< ((h.1 16 0) &&& 31)) ≤ v4 → J mX10_leastFor d 0 0 Q 0 0 45 [some (.inr (.inr 1)), some (.inl v1), some (.inl v2), some (.inl (v3 + nI 1)), some (.inl v4)] [] h) (K1 : ¬ ((nI 1) <<< ((h.1 16 0) &&& 31)) ≤ v4 → Con mJ6_bitCount_0f7a4 d1' 0 0 [.inl v4] h (zri fun (x : Int32) h' => J mX10_leastFor d 0 0 Q 0 0 75 [some (.inr (.inr 1)), some (.inl v1), some (.inl v2), some (.inl v3), some (.inl v4)] [.inl x] h')) : J mX10_leastFor d 0 0 Q 0 0 53 [some (.inr (.inr 1)), some (.inl v1), some (.inl v2), some (.inl v3), some (.inl v4)] [] h := by
  refine bX10_leastFor_53 hr (fun p1 => ?_) (fun p1 => ?_)
  · refine bX10_leastFor_98  ?_
    exact K0 p1
  · exact bX10_leastFor_70  hd1' (K1 p1)

set_option maxRecDepth 20000 in
theorem t_X10_leastFor_75 {d d1' : Nat} {Q : Option MV → MH → Prop} {h : MH} {v1 v2 v3 v4 vs0 : Int32} (hr : zRf h) (hd1' : d1' + 1 ≤ d) (K0 : ¬ vs0 = v3 → J mX10_leastFor d 0 0 Q 0 0 53 [some (.inr (.inr 1)), some (.inl v1), some (.inl v2), some (.inl v3), some (.inl (v4 + nI 1))] [] h) (K1 : vs0 = v3 → Con mX10_areTogether d1' 0 0 [.inr (.inr 1), .inl v4, .inl v2] h (zri fun (x : Int32) h' => J mX10_leastFor d 0 0 Q 0 0 86 [some (.inr (.inr 1)), some (.inl v1), some (.inl v2), some (.inl v3), some (.inl v4)] [.inl x] h')) : J mX10_leastFor d 0 0 Q 0 0 75 [some (.inr (.inr 1)), some (.inl v1), some (.inl v2), some (.inl v3), some (.inl v4)] [.inl vs0] h := by
  refine bX10_leastFor_75  (fun p1 => ?_) (fun p1 => ?_)
  · refine bX10_leastFor_92  ?_
    exact K0 p1
  · exact bX10_leastFor_79 hr hd1' (K1 p1)

set_option maxRecDepth 20000 in
theorem t_X10_leastFor_86 {d  : Nat} {Q : Option MV → MH → Prop} {h : MH} {v1 v2 v3 v4 vs0 : Int32} (K0 : vs0 = 0 → J mX10_leastFor d 0 0 Q 0 0 53 [some (.inr (.inr 1)), some (.inl v1), some (.inl v2), some (.inl v3), some (.inl (v4 + nI 1))] [] h) (K1 : ¬ vs0 = 0 → Q (some (.inl v4)) h) : J mX10_leastFor d 0 0 Q 0 0 86 [some (.inr (.inr 1)), some (.inl v1), some (.inl v2), some (.inl v3), some (.inl v4)] [.inl vs0] h := by
  refine bX10_leastFor_86  (fun p1 => ?_) (fun p1 => ?_)
  · refine bX10_leastFor_92  ?_
    exact K0 p1
  · exact bX10_leastFor_89  (K1 p1)

set_option maxRecDepth 20000 in
theorem t_X10_nearest {d d1' : Nat} {Q : Option MV → MH → Prop} {h : MH} {v1 v2 v3 : Int32} (hr : zRf h) (hd1' : d1' + 1 ≤ d) (K0 : Con mX10_isSet d1' 0 0 [.inr (.inr 1), .inl v1, .inl (nI 4)] h (zri fun (x : Int32) h' => J mX10_nearest d 0 0 Q 0 0 6 [some (.inr (.inr 1)), some (.inl v1), some (.inl v2), some (.inl v3), none, none, none] [.inl x] h')) : Con mX10_nearest d 0 0 [.inr (.inr 1), .inl v1, .inl v2, .inl v3] h Q := by
  refine Con.intro rfl (Nat.le_of_ble_eq_true rfl) ?_
  show J mX10_nearest d 0 0 Q 0 0 0 [some (.inr (.inr 1)), some (.inl v1), some (.inl v2), some (.inl v3), none, none, none] [] h
  exact bX10_nearest_0 hr hd1' (K0)

set_option maxRecDepth 20000 in
theorem t_X10_nearest_6 {d d1' : Nat} {Q : Option MV → MH → Prop} {h : MH} {v1 v2 v3 vs0 : Int32} (hr : zRf h) (hd1' : d1' + 1 ≤ d) (K0 : vs0 = 0 → Q (some (.inl (-(nI 3)))) h) (K1 : ¬ vs0 = 0 → (nI 1) ≤ v3 → Con mX10_allTold d1' 0 0 [.inr (.inr 1), .inl v1, .inl v2] h (zrr fun (x : Nat) h' => J mX10_nearest d 0 0 Q 0 0 23 [some (.inr (.inr 1)), some (.inl v1), some (.inl v2), some (.inl v3), none, none, none] [.inr (.inr x)] h')) (K2 : ¬ vs0 = 0 → ¬ (nI 1) ≤ v3 → Q (some (.inl (-(nI 3)))) h) : J mX10_nearest d 0 0 Q 0 0 6 [some (.inr (.inr 1)), some (.inl v1), some (.inl v2), some (.inl v3), none, none, none] [.inl vs0] h := by
  refine bX10_nearest_6  (fun p1 => ?_) (fun p1 => ?_)
  · exact bX10_nearest_14  (K0 p1)
  · refine bX10_nearest_9  (fun p2 => ?_) (fun p2 => ?_)
    · exact bX10_nearest_17 hr hd1' (K1 p1 p2)
    · exact bX10_nearest_14  (K2 p1 p2)

set_option maxRecDepth 20000 in
theorem t_X10_nearest_23 {d d1' : Nat} {Q : Option MV → MH → Prop} {h : MH} {v1 v2 v3 : Int32} {vs0 : Nat} (hd1' : d1' + 1 ≤ d) (G0 : zokO h vs0 3) (K0 : Con mX3_lastUpTo d1' 0 0 [.inr (.inr vs0), .inl v3] h (zri fun (x : Int32) h' => J mX10_nearest d 0 0 Q 0 0 31 [some (.inr (.inr 1)), some (.inl v1), some (.inl v2), some (.inl v3), some (.inr (.inr vs0)), none, none] [.inl x] h')) : J mX10_nearest d 0 0 Q 0 0 23 [some (.inr (.inr 1)), some (.inl v1), some (.inl v2), some (.inl v3), none, none, none] [.inr (.inr vs0)] h := by
  exact bX10_nearest_23 (G0) hd1' (K0)

set_option maxRecDepth 20000 in
theorem t_X10_nearest_31 {d d1' : Nat} {Q : Option MV → MH → Prop} {h : MH} {v1 v2 v3 vs0 : Int32} {v4 : Nat} (hd1' : d1' + 1 ≤ d) (G0 : zokO h v4 3) (K0 : Con mX3_firstFrom d1' 0 0 [.inr (.inr v4), .inl v3] h (zri fun (x : Int32) h' => J mX10_nearest d 0 0 Q 0 0 39 [some (.inr (.inr 1)), some (.inl v1), some (.inl v2), some (.inl v3), some (.inr (.inr v4)), some (.inl vs0), none] [.inl x] h')) : J mX10_nearest d 0 0 Q 0 0 31 [some (.inr (.inr 1)), some (.inl v1), some (.inl v2), some (.inl v3), some (.inr (.inr v4)), none, none] [.inl vs0] h := by
  exact bX10_nearest_31 (G0) hd1' (K0)

set_option maxRecDepth 20000 in
theorem t_X10_nearest_39 {d  : Nat} {Q : Option MV → MH → Prop} {h : MH} {v1 v2 v3 v5 vs0 : Int32} {v4 : Nat} (hd : 1 ≤ d) (K0 : v5 = (-(nI 1)) → Q (some (.inl (if v5 < vs0 then vs0 else v5))) h) (K1 : ¬ v5 = (-(nI 1)) → ¬ vs0 = (-(nI 1)) → (vs0 - v3) < (v3 - v5) → Q (some (.inl vs0)) h) (K2 : ¬ v5 = (-(nI 1)) → ¬ vs0 = (-(nI 1)) → ¬ (vs0 - v3) < (v3 - v5) → Q (some (.inl v5)) h) (K3 : ¬ v5 = (-(nI 1)) → vs0 = (-(nI 1)) → Q (some (.inl (if v5 < vs0 then vs0 else v5))) h) : J mX10_nearest d 0 0 Q 0 0 39 [some (.inr (.inr 1)), some (.inl v1), some (.inl v2), some (.inl v3), some (.inr (.inr v4)), some (.inl v5), none] [.inl vs0] h := by
  refine bX10_nearest_39  (fun p1 => ?_) (fun p1 => ?_)
  · refine bX10_nearest_53  (by omega) ?_
    exact bX10_nearest_60  (K0 p1)
  · refine bX10_nearest_47  (fun p2 => ?_) (fun p2 => ?_)
    · refine bX10_nearest_61  (fun p3 => ?_) (fun p3 => ?_)
      · refine bX10_nearest_77  ?_
        exact bX10_nearest_79  (K1 p1 p2 p3)
      · refine bX10_nearest_72  ?_
        exact bX10_nearest_79  (K2 p1 p2 p3)
    · refine bX10_nearest_53  (by omega) ?_
      exact bX10_nearest_60  (K3 p1 p2)

set_option maxRecDepth 20000 in
theorem t_X10_along {d d1' : Nat} {Q : Option MV → MH → Prop} {h : MH} {v1 v2 : Int32} (hr : zRf h) (hd1' : d1' + 1 ≤ d) (K0 : Con mX10_isSet d1' 0 0 [.inr (.inr 1), .inl v1, .inl (nI 2)] h (zri fun (x : Int32) h' => J mX10_along d 0 0 Q 0 0 6 [some (.inr (.inr 1)), some (.inl v1), some (.inl v2)] [.inl x] h')) : Con mX10_along d 0 0 [.inr (.inr 1), .inl v1, .inl v2] h Q := by
  refine Con.intro rfl (Nat.le_of_ble_eq_true rfl) ?_
  show J mX10_along d 0 0 Q 0 0 0 [some (.inr (.inr 1)), some (.inl v1), some (.inl v2)] [] h
  exact bX10_along_0 hr hd1' (K0)

set_option maxRecDepth 20000 in
theorem t_X10_along_6 {d d1' : Nat} {Q : Option MV → MH → Prop} {h : MH} {v1 v2 vs0 : Int32} (hr : zRf h) (hd1' : d1' + 1 ≤ d) (K0 : vs0 = 0 → Q (some (.inl (-(nI 3)))) h) (K1 : ¬ vs0 = 0 → (nI 1) ≤ v2 → Con mX10_allAlong d1' 0 0 [.inr (.inr 1), .inl v1] h (zrr fun (x : Nat) h' => J mX10_along d 0 0 Q 0 0 22 [some (.inr (.inr 1)), some (.inl v1), some (.inl v2)] [.inr (.inr x)] h')) (K2 : ¬ vs0 = 0 → ¬ (nI 1) ≤ v2 → Q (some (.inl (-(nI 3)))) h) : J mX10_along d 0 0 Q 0 0 6 [some (.inr (.inr 1)), some (.inl v1), some (.inl v2)] [.inl vs0] h := by
  refine bX10_along_6  (fun p1 => ?_) (fun p1 => ?_)
  · exact bX10_along_14  (K0 p1)
  · refine bX10_along_9  (fun p2 => ?_) (fun p2 => ?_)
    · exact bX10_along_17 hr hd1' (K1 p1 p2)
    · exact bX10_along_14  (K2 p1 p2)

set_option maxRecDepth 20000 in
theorem t_X10_along_22 {d  : Nat} {Q : Option MV → MH → Prop} {h : MH} {v1 v2 : Int32} {vs0 : Nat} (hr : zRf h) (hd : 2 ≤ d) (G0 : zokO h vs0 3) (G1 : ¬ v2 < 0 → (v2 - v2 / (nI 16) * (nI 16)) = 0 → ¬ (v2 / (nI 16)) < 0 → ¬ (nI 23104) ≤ (v2 / (nI 16)) → vp_in ((v2 / (nI 16)) >>> ((nI 6) &&& 31)) 361) (K0 : v2 < 0 → Q (some (.inl (nI 0))) h) (K1 : ¬ v2 < 0 → ¬ (v2 - v2 / (nI 16) * (nI 16)) = 0 → Q (some (.inl (nI 0))) h) (K2 : ¬ v2 < 0 → (v2 - v2 / (nI 16) * (nI 16)) = 0 → (v2 / (nI 16)) < 0 → Q (some (.inl (nI 0))) h) (K3 : ¬ v2 < 0 → (v2 - v2 / (nI 16) * (nI 16)) = 0 → ¬ (v2 / (nI 16)) < 0 → (nI 23104) ≤ (v2 / (nI 16)) → Q (some (.inl (nI 0))) h) (K4 : ¬ v2 < 0 → (v2 - v2 / (nI 16) * (nI 16)) = 0 → ¬ (v2 / (nI 16)) < 0 → ¬ (nI 23104) ≤ (v2 / (nI 16)) → (lg_cmp ((((h.2.1 (vs0 + 1) ((v2 / (nI 16)) >>> ((nI 6) &&& 31)).toNatClampNeg).toUInt64 >>> (((v2 / (nI 16)) &&& (nI 63)).toInt64.toUInt64 &&& Int64.toUInt64 63)).toInt64) &&& (lN 1)) (lN 0)) = 0 → Q (some (.inl (nI 0))) h) (K5 : ¬ v2 < 0 → (v2 - v2 / (nI 16) * (nI 16)) = 0 → ¬ (v2 / (nI 16)) < 0 → ¬ (nI 23104) ≤ (v2 / (nI 16)) → ¬ (lg_cmp ((((h.2.1 (vs0 + 1) ((v2 / (nI 16)) >>> ((nI 6) &&& 31)).toNatClampNeg).toUInt64 >>> (((v2 / (nI 16)) &&& (nI 63)).toInt64.toUInt64 &&& Int64.toUInt64 63)).toInt64) &&& (lN 1)) (lN 0)) = 0 → Q (some (.inl (nI 1))) h) : J mX10_along d 0 0 Q 0 0 22 [some (.inr (.inr 1)), some (.inl v1), some (.inl v2)] [.inr (.inr vs0)] h := by
  refine bX10_along_22 (d' := 1) (G0) (by omega) ?_
  refine t_X3_has hr (Nat.le_refl _) ?_ ?_ ?_ ?_ ?_ ?_ ?_ ?_
  · intro p1 p2; exact (G0)
  · intro p3 p4 p5 p6; exact (G1 p3 p4 p5 p6)
  · intro p7
    refine bX10_along_26  (fun _ => ?_) (fun c => absurd c (by decide))
    refine bX10_along_33  ?_
    exact bX10_along_34  (K0 p7)
  · intro p8 p9
    refine bX10_along_26  (fun _ => ?_) (fun c => absurd c (by decide))
    refine bX10_along_33  ?_
    exact bX10_along_34  (K1 p8 p9)
  · intro p10 p11 p12
    refine bX10_along_26  (fun _ => ?_) (fun c => absurd c (by decide))
    refine bX10_along_33  ?_
    exact bX10_along_34  (K2 p10 p11 p12)
  · intro p13 p14 p15 p16
    refine bX10_along_26  (fun _ => ?_) (fun c => absurd c (by decide))
    refine bX10_along_33  ?_
    exact bX10_along_34  (K3 p13 p14 p15 p16)
  · intro p17 p18 p19 p20 p21
    refine bX10_along_26  (fun _ => ?_) (fun c => absurd c (by decide))
    refine bX10_along_33  ?_
    exact bX10_along_34  (K4 p17 p18 p19 p20 p21)
  · intro p22 p23 p24 p25 p26
    refine bX10_along_26  (fun c => absurd c (by decide)) (fun _ => ?_)
    refine bX10_along_29  ?_
    exact bX10_along_34  (K5 p22 p23 p24 p25 p26)

set_option maxRecDepth 20000 in
theorem t_X10_alongs {d d1' : Nat} {Q : Option MV → MH → Prop} {h : MH} {v1 v2 : Int32} (hr : zRf h) (hd1' : d1' + 1 ≤ d) (K0 : Con mX10_isSet d1' 0 0 [.inr (.inr 1), .inl v1, .inl (nI 2)] h (zri fun (x : Int32) h' => J mX10_alongs d 0 0 Q 0 0 6 [some (.inr (.inr 1)), some (.inl v1), some (.inl v2)] [.inl x] h')) : Con mX10_alongs d 0 0 [.inr (.inr 1), .inl v1, .inl v2] h Q := by
  refine Con.intro rfl (Nat.le_of_ble_eq_true rfl) ?_
  show J mX10_alongs d 0 0 Q 0 0 0 [some (.inr (.inr 1)), some (.inl v1), some (.inl v2)] [] h
  exact bX10_alongs_0 hr hd1' (K0)

set_option maxRecDepth 20000 in
theorem t_X10_alongs_6 {d d1' : Nat} {Q : Option MV → MH → Prop} {h : MH} {v1 v2 vs0 : Int32} (hr : zRf h) (hd1' : d1' + 1 ≤ d) (K0 : ¬ vs0 = 0 → Con mX10_allAlong d1' 0 0 [.inr (.inr 1), .inl v1] h (zrr fun (x : Nat) h' => J mX10_alongs d 0 0 Q 0 0 17 [some (.inr (.inr 1)), some (.inl v1), some (.inl v2)] [.inr (.inr x)] h')) (K1 : vs0 = 0 → Q (some (.inl (-(nI 3)))) h) : J mX10_alongs d 0 0 Q 0 0 6 [some (.inr (.inr 1)), some (.inl v1), some (.inl v2)] [.inl vs0] h := by
  refine bX10_alongs_6  (fun p1 => ?_) (fun p1 => ?_)
  · exact bX10_alongs_12 hr hd1' (K0 p1)
  · exact bX10_alongs_9  (K1 p1)

set_option maxRecDepth 20000 in
theorem t_X10_alongs_17 {d d1' : Nat} {Q : Option MV → MH → Prop} {h : MH} {v1 v2 : Int32} {vs0 : Nat} (hd1' : d1' + 1 ≤ d) (K0 : Con mX10_pick d1' 0 0 [.inr (.inr vs0), .inl v2] h (zri fun (x : Int32) h' => J mX10_alongs d 0 0 Q 0 0 21 [some (.inr (.inr 1)), some (.inl v1), some (.inl v2)] [.inl x] h')) : J mX10_alongs d 0 0 Q 0 0 17 [some (.inr (.inr 1)), some (.inl v1), some (.inl v2)] [.inr (.inr vs0)] h := by
  exact bX10_alongs_17  hd1' (K0)

set_option maxRecDepth 20000 in
theorem t_X10_alongs_21 {d  : Nat} {Q : Option MV → MH → Prop} {h : MH} {v1 v2 vs0 : Int32} (K0 : Q (some (.inl vs0)) h) : J mX10_alongs d 0 0 Q 0 0 21 [some (.inr (.inr 1)), some (.inl v1), some (.inl v2)] [.inl vs0] h := by
  exact bX10_alongs_21  (K0)

set_option maxRecDepth 20000 in
theorem t_X10_allAlong {d d1' : Nat} {Q : Option MV → MH → Prop} {h : MH} {v1 : Int32} (hr : zRf h) (hd1' : d1' + 1 ≤ d) (K0 : (h.1 101 0) = v1 → Q (some (.inr (.inr 101))) h) (K1 : ¬ (h.1 101 0) = v1 → Con mX3_clear d1' 0 0 [.inr (.inr 101)] h (zrv fun h' => J mX10_allAlong d 0 0 Q 0 0 18 [some (.inr (.inr 1)), some (.inl v1)] [] h')) : Con mX10_allAlong d 0 0 [.inr (.inr 1), .inl v1] h Q := by
  refine Con.intro rfl (Nat.le_of_ble_eq_true rfl) ?_
  show J mX10_allAlong d 0 0 Q 0 0 0 [some (.inr (.inr 1)), some (.inl v1)] [] h
  refine bX10_allAlong_0 hr (fun p1 => ?_) (fun p1 => ?_)
  · exact bX10_allAlong_52 hr (K0 p1)
  · exact bX10_allAlong_11 hr hd1' (K1 p1)

set_option maxRecDepth 20000 in
theorem t_X10_allAlong_18 {d d1' : Nat} {Q : Option MV → MH → Prop} {h : MH} {v1 : Int32} (hr : zRf h) (hd1' : d1' + 1 ≤ d) (K0 : Con mX0_lay d1' 0 0 [.inr (.inr 77), .inr (.inr 16), .inl v1] h (zrv fun h' => J mX10_allAlong d 0 0 Q 0 0 33 [some (.inr (.inr 1)), some (.inl v1)] [] h')) : J mX10_allAlong d 0 0 Q 0 0 18 [some (.inr (.inr 1)), some (.inl v1)] [] h := by
  exact bX10_allAlong_18 hr hd1' (K0)

set_option maxRecDepth 20000 in
theorem t_X10_allAlong_33 {d d1' : Nat} {Q : Option MV → MH → Prop} {h : MH} {v1 : Int32} (hr : zRf h) (hd1' : d1' + 1 ≤ d) (K0 : Con mX0_markAll d1' 0 0 [.inr (.inr 77), .inr (.inr 101)] h (zrv fun h' => J mX10_allAlong d 0 0 Q 0 0 44 [some (.inr (.inr 1)), some (.inl v1)] [] h')) : J mX10_allAlong d 0 0 Q 0 0 33 [some (.inr (.inr 1)), some (.inl v1)] [] h := by
  exact bX10_allAlong_33 hr hd1' (K0)

set_option maxRecDepth 20000 in
theorem t_X10_allAlong_44 {d  : Nat} {Q : Option MV → MH → Prop} {h : MH} {v1 : Int32} (hr : zRf h) (K0 : Q (some (.inr (.inr 101))) (zsI h 101 0 v1)) : J mX10_allAlong d 0 0 Q 0 0 44 [some (.inr (.inr 1)), some (.inl v1)] [] h := by
  refine bX10_allAlong_44 hr ?_
  exact bX10_allAlong_52 hr (K0)

set_option maxRecDepth 20000 in
theorem t_X10_serves {d d1' : Nat} {Q : Option MV → MH → Prop} {h : MH} {v1 v2 v3 : Int32} (hr : zRf h) (hd : 1 ≤ d) (hd1' : d1' + 1 ≤ d) (G0 : ¬ v1 < 0 → ¬ (nI 4) ≤ v1 → ¬ v2 < 0 → ¬ (nI 4) ≤ v2 → vp_in v2 4) (K0 : v1 < 0 → Q (some (.inl (-(nI 2)))) h) (K1 : ¬ v1 < 0 → (nI 4) ≤ v1 → Q (some (.inl (-(nI 2)))) h) (K2 : ¬ v1 < 0 → ¬ (nI 4) ≤ v1 → v2 < 0 → Q (some (.inl (-(nI 2)))) h) (K3 : ¬ v1 < 0 → ¬ (nI 4) ≤ v1 → ¬ v2 < 0 → (nI 4) ≤ v2 → Q (some (.inl (-(nI 2)))) h) (K4 : ¬ v1 < 0 → ¬ (nI 4) ≤ v1 → ¬ v2 < 0 → ¬ (nI 4) ≤ v2 → ¬ (h.1 (103 + 2 * v2.toNatClampNeg) 0) = 0 → 0 ≤ v3 → Con mX10_served d1' 0 0 [.inr (.inr 1), .inl v1, .inr (.inr (103 + 2 * v2.toNatClampNeg)), .inl v3] h (zri fun (x : Int32) h' => J mX10_serves d 0 0 Q 0 0 51 [some (.inr (.inr 1)), some (.inl v1), some (.inl v2), some (.inl v3)] [.inl x] h')) (K5 : ¬ v1 < 0 → ¬ (nI 4) ≤ v1 → ¬ v2 < 0 → ¬ (nI 4) ≤ v2 → ¬ (h.1 (103 + 2 * v2.toNatClampNeg) 0) = 0 → ¬ 0 ≤ v3 → Q (some (.inl (-(nI 3)))) h) (K6 : ¬ v1 < 0 → ¬ (nI 4) ≤ v1 → ¬ v2 < 0 → ¬ (nI 4) ≤ v2 → (h.1 (103 + 2 * v2.toNatClampNeg) 0) = 0 → Q (some (.inl (-(nI 6)))) h) : Con mX10_serves d 0 0 [.inr (.inr 1), .inl v1, .inl v2, .inl v3] h Q := by
  refine Con.intro rfl (Nat.le_of_ble_eq_true rfl) ?_
  show J mX10_serves d 0 0 Q 0 0 0 [some (.inr (.inr 1)), some (.inl v1), some (.inl v2), some (.inl v3)] [] h
  refine bX10_serves_0 (d' := 0)  (by omega) ?_
  refine t_X10_isPlan  ?_ ?_ ?_
  · intro p1
    refine bX10_serves_4  (fun _ => ?_) (fun c => absurd c (by decide))
    exact bX10_serves_14  (K0 p1)
  · intro p2 p3
    refine bX10_serves_4  (fun _ => ?_) (fun c => absurd c (by decide))
    exact bX10_serves_14  (K1 p2 p3)
  · intro p4 p5
    refine bX10_serves_4  (fun c => absurd c (by decide)) (fun _ => ?_)
    refine bX10_serves_7 (d' := 0)  (by omega) ?_
    refine t_X10_isRow  ?_ ?_ ?_
    · intro p6
      refine bX10_serves_11  (fun c => absurd c (by decide)) (fun _ => ?_)
      exact bX10_serves_14  (K2 p4 p5 p6)
    · intro p7 p8
      refine bX10_serves_11  (fun c => absurd c (by decide)) (fun _ => ?_)
      exact bX10_serves_14  (K3 p4 p5 p7 p8)
    · intro p9 p10
      refine bX10_serves_11  (fun _ => ?_) (fun c => absurd c (by decide))
      refine bX10_serves_17 hr (G0 p4 p5 p9 p10) (fun p11 => ?_) (fun p11 => ?_)
      · refine bX10_serves_32  (fun p12 => ?_) (fun p12 => ?_)
        · exact bX10_serves_39 hr (G0 p4 p5 p9 p10) hd1' (K4 p4 p5 p9 p10 p11 p12)
        · exact bX10_serves_36  (K5 p4 p5 p9 p10 p11 p12)
      · exact bX10_serves_29  (K6 p4 p5 p9 p10 p11)

set_option maxRecDepth 20000 in
theorem t_X10_serves_51 {d  : Nat} {Q : Option MV → MH → Prop} {h : MH} {v1 v2 v3 vs0 : Int32} (K0 : Q (some (.inl vs0)) h) : J mX10_serves d 0 0 Q 0 0 51 [some (.inr (.inr 1)), some (.inl v1), some (.inl v2), some (.inl v3)] [.inl vs0] h := by
  exact bX10_serves_51  (K0)

set_option maxRecDepth 20000 in
theorem t_X10_served {d d1' : Nat} {Q : Option MV → MH → Prop} {h : MH} {v1 v3 : Int32} {v2 : Nat} (hr : zRf h) (hd1' : d1' + 1 ≤ d) (K0 : Con mX10_playAsTold d1' 0 0 [.inr (.inr 1), .inl v1] h (zrv fun h' => J mX10_served d 0 0 Q 0 0 5 [some (.inr (.inr 1)), some (.inl v1), some (.inr (.inr v2)), some (.inl v3), none, none] [] h')) : Con mX10_served d 0 0 [.inr (.inr 1), .inl v1, .inr (.inr v2), .inl v3] h Q := by
  refine Con.intro rfl (Nat.le_of_ble_eq_true rfl) ?_
  show J mX10_served d 0 0 Q 0 0 0 [some (.inr (.inr 1)), some (.inl v1), some (.inr (.inr v2)), some (.inl v3), none, none] [] h
  exact bX10_served_0 hr hd1' (K0)

set_option maxRecDepth 20000 in
theorem t_X10_served_5 {d  : Nat} {Q : Option MV → MH → Prop} {h : MH} {v1 v3 : Int32} {v2 : Nat} (K0 : J mX10_served d 0 0 Q 0 0 11 [some (.inr (.inr 1)), some (.inl v1), some (.inr (.inr v2)), some (.inl v3), some (.inl (nI 0)), some (.inl (nI 0))] [] h) : J mX10_served d 0 0 Q 0 0 5 [some (.inr (.inr 1)), some (.inl v1), some (.inr (.inr v2)), some (.inl v3), none, none] [] h := by
  refine bX10_served_5  ?_
  exact K0

set_option maxRecDepth 20000 in
theorem t_X10_served_11 {d d1' : Nat} {Q : Option MV → MH → Prop} {h : MH} {v1 v3 v4 v5 : Int32} {v2 : Nat} (hr : zRf h) (hd1' : d1' + 1 ≤ d) (G0 : zokO h v2 7) (G1 : ¬ (h.1 v2 2) ≤ v5 → vp_in v5 40) (K0 : (h.1 v2 2) ≤ v5 → Q (some (.inl v4)) h) (K1 : ¬ (h.1 v2 2) ≤ v5 → Con mX8_bellNear d1' 0 0 [.inr (.inr 48), .inl (nI 0), .inr (.inl (h.2.1 (v2 + 1) v5.toNatClampNeg)), .inl v3] h (zri fun (x : Int32) h' => J mX10_served d 0 0 Q 0 0 36 [some (.inr (.inr 1)), some (.inl v1), some (.inr (.inr v2)), some (.inl v3), some (.inl v4), some (.inl v5)] [.inl x] h')) : J mX10_served d 0 0 Q 0 0 11 [some (.inr (.inr 1)), some (.inl v1), some (.inr (.inr v2)), some (.inl v3), some (.inl v4), some (.inl v5)] [] h := by
  refine bX10_served_11 (G0) (fun p1 => ?_) (fun p1 => ?_)
  · exact bX10_served_49  (K0 p1)
  · exact bX10_served_20 hr (G0) (G1 p1) hd1' (K1 p1)

set_option maxRecDepth 20000 in
theorem t_X10_served_36 {d  : Nat} {Q : Option MV → MH → Prop} {h : MH} {v1 v3 v4 v5 vs0 : Int32} {v2 : Nat} (K0 : vs0 = (-(nI 1)) → J mX10_served d 0 0 Q 0 0 11 [some (.inr (.inr 1)), some (.inl v1), some (.inr (.inr v2)), some (.inl v3), some (.inl v4), some (.inl (v5 + nI 1))] [] h) (K1 : ¬ vs0 = (-(nI 1)) → J mX10_served d 0 0 Q 0 0 11 [some (.inr (.inr 1)), some (.inl v1), some (.inr (.inr v2)), some (.inl v3), some (.inl (v4 + nI 1)), some (.inl (v5 + nI 1))] [] h) : J mX10_served d 0 0 Q 0 0 36 [some (.inr (.inr 1)), some (.inl v1), some (.inr (.inr v2)), some (.inl v3), some (.inl v4), some (.inl v5)] [.inl vs0] h := by
  refine bX10_served_36  (fun p1 => ?_) (fun p1 => ?_)
  · refine bX10_served_43  ?_
    exact K0 p1
  · refine bX10_served_40  ?_
    refine bX10_served_43  ?_
    exact K1 p1

set_option maxRecDepth 20000 in
theorem t_X10_fittest {d  : Nat} {Q : Option MV → MH → Prop} {h : MH} {v1 v2 : Int32} (hr : zRf h) (hd : 1 ≤ d) (G0 : ¬ v1 < 0 → ¬ (nI 4) ≤ v1 → vp_in v1 4) (K0 : v1 < 0 → Q (some (.inl (-(nI 2)))) h) (K1 : ¬ v1 < 0 → (nI 4) ≤ v1 → Q (some (.inl (-(nI 2)))) h) (K2 : ¬ v1 < 0 → ¬ (nI 4) ≤ v1 → ¬ (h.1 (103 + 2 * v1.toNatClampNeg) 0) = 0 → 0 ≤ v2 → J mX10_fittest d 0 0 Q 0 0 40 [some (.inr (.inr 1)), some (.inl v1), some (.inl v2), some (.inl (-(nI 1))), some (.inl (-(nI 1))), some (.inl (nI 0)), none] [] h) (K3 : ¬ v1 < 0 → ¬ (nI 4) ≤ v1 → ¬ (h.1 (103 + 2 * v1.toNatClampNeg) 0) = 0 → ¬ 0 ≤ v2 → Q (some (.inl (-(nI 3)))) h) (K4 : ¬ v1 < 0 → ¬ (nI 4) ≤ v1 → (h.1 (103 + 2 * v1.toNatClampNeg) 0) = 0 → Q (some (.inl (-(nI 6)))) h) : Con mX10_fittest d 0 0 [.inr (.inr 1), .inl v1, .inl v2] h Q := by
  refine Con.intro rfl (Nat.le_of_ble_eq_true rfl) ?_
  show J mX10_fittest d 0 0 Q 0 0 0 [some (.inr (.inr 1)), some (.inl v1), some (.inl v2), none, none, none, none] [] h
  refine bX10_fittest_0 (d' := 0)  (by omega) ?_
  refine t_X10_isRow  ?_ ?_ ?_
  · intro p1
    refine bX10_fittest_4  (fun c => absurd c (by decide)) (fun _ => ?_)
    exact bX10_fittest_7  (K0 p1)
  · intro p2 p3
    refine bX10_fittest_4  (fun c => absurd c (by decide)) (fun _ => ?_)
    exact bX10_fittest_7  (K1 p2 p3)
  · intro p4 p5
    refine bX10_fittest_4  (fun _ => ?_) (fun c => absurd c (by decide))
    refine bX10_fittest_10 hr (G0 p4 p5) (fun p6 => ?_) (fun p6 => ?_)
    · refine bX10_fittest_25  (fun p7 => ?_) (fun p7 => ?_)
      · refine bX10_fittest_32  ?_
        exact K2 p4 p5 p6 p7
      · exact bX10_fittest_29  (K3 p4 p5 p6 p7)
    · exact bX10_fittest_22  (K4 p4 p5 p6)

set_option maxRecDepth 20000 in
theorem t_X10_fittest_40 {d d1' : Nat} {Q : Option MV → MH → Prop} {h : MH} {u6 : Option MV} {v1 v2 v3 v4 v5 : Int32} (hr : zRf h) (hd1' : d1' + 1 ≤ d) (G0 : ¬ (nI 4) ≤ v5 → vp_in v1 4) (K0 : (nI 4) ≤ v5 → Q (some (.inl v4)) h) (K1 : ¬ (nI 4) ≤ v5 → Con mX10_served d1' 0 0 [.inr (.inr 1), .inl v5, .inr (.inr (103 + 2 * v1.toNatClampNeg)), .inl v2] h (zri fun (x : Int32) h' => J mX10_fittest d 0 0 Q 0 0 59 [some (.inr (.inr 1)), some (.inl v1), some (.inl v2), some (.inl v3), some (.inl v4), some (.inl v5), u6] [.inl x] h')) : J mX10_fittest d 0 0 Q 0 0 40 [some (.inr (.inr 1)), some (.inl v1), some (.inl v2), some (.inl v3), some (.inl v4), some (.inl v5), u6] [] h := by
  refine bX10_fittest_40  (fun p1 => ?_) (fun p1 => ?_)
  · exact bX10_fittest_80  (K0 p1)
  · exact bX10_fittest_46 hr (G0 p1) hd1' (K1 p1)

set_option maxRecDepth 20000 in
theorem t_X10_fittest_59 {d  : Nat} {Q : Option MV → MH → Prop} {h : MH} {u6 : Option MV} {v1 v2 v3 v4 v5 vs0 : Int32} (K0 : vs0 ≤ v3 → J mX10_fittest d 0 0 Q 0 0 40 [some (.inr (.inr 1)), some (.inl v1), some (.inl v2), some (.inl v3), some (.inl v4), some (.inl (v5 + nI 1)), some (.inl vs0)] [] h) (K1 : ¬ vs0 ≤ v3 → J mX10_fittest d 0 0 Q 0 0 40 [some (.inr (.inr 1)), some (.inl v1), some (.inl v2), some (.inl vs0), some (.inl v5), some (.inl (v5 + nI 1)), some (.inl vs0)] [] h) : J mX10_fittest d 0 0 Q 0 0 59 [some (.inr (.inr 1)), some (.inl v1), some (.inl v2), some (.inl v3), some (.inl v4), some (.inl v5), u6] [.inl vs0] h := by
  refine bX10_fittest_59  (fun p1 => ?_) (fun p1 => ?_)
  · refine bX10_fittest_74  ?_
    exact K0 p1
  · refine bX10_fittest_67  ?_
    refine bX10_fittest_74  ?_
    exact K1 p1

set_option maxRecDepth 20000 in
theorem t_X10_log {d d1' : Nat} {Q : Option MV → MH → Prop} {h : MH} {v1 : Int32} (hr : zRf h) (hd : 1 ≤ d) (hd1' : d1' + 1 ≤ d) (G0 : ¬ v1 < 0 → ¬ (nI 4) ≤ v1 → vp_in v1 4) (K0 : v1 < 0 → Q (some (.inl (-(nI 2)))) h) (K1 : ¬ v1 < 0 → (nI 4) ≤ v1 → Q (some (.inl (-(nI 2)))) h) (K2 : ¬ v1 < 0 → ¬ (nI 4) ≤ v1 → (h.1 (103 + 2 * v1.toNatClampNeg) 0) = 0 → Q (some (.inl (-(nI 6)))) h) (K3 : ¬ v1 < 0 → ¬ (nI 4) ≤ v1 → ¬ (h.1 (103 + 2 * v1.toNatClampNeg) 0) = 0 → Con mX10_plansOfLog d1' 0 0 [.inr (.inr 1), .inr (.inr (103 + 2 * v1.toNatClampNeg)), .inl (nI 0)] h (zri fun (x : Int32) h' => J mX10_log d 0 0 Q 0 0 33 [some (.inr (.inr 1)), some (.inl v1)] [.inl x] h')) : Con mX10_log d 0 0 [.inr (.inr 1), .inl v1] h Q := by
  refine Con.intro rfl (Nat.le_of_ble_eq_true rfl) ?_
  show J mX10_log d 0 0 Q 0 0 0 [some (.inr (.inr 1)), some (.inl v1)] [] h
  refine bX10_log_0 (d' := 0)  (by omega) ?_
  refine t_X10_isRow  ?_ ?_ ?_
  · intro p1
    refine bX10_log_4  (fun c => absurd c (by decide)) (fun _ => ?_)
    exact bX10_log_7  (K0 p1)
  · intro p2 p3
    refine bX10_log_4  (fun c => absurd c (by decide)) (fun _ => ?_)
    exact bX10_log_7  (K1 p2 p3)
  · intro p4 p5
    refine bX10_log_4  (fun _ => ?_) (fun c => absurd c (by decide))
    refine bX10_log_10 hr (G0 p4 p5) (fun p6 => ?_) (fun p6 => ?_)
    · refine bX10_log_36  ?_
      exact bX10_log_38  (K2 p4 p5 p6)
    · exact bX10_log_22 hr (G0 p4 p5) hd1' (K3 p4 p5 p6)

set_option maxRecDepth 20000 in
theorem t_X10_log_33 {d  : Nat} {Q : Option MV → MH → Prop} {h : MH} {v1 vs0 : Int32} (K0 : Q (some (.inl vs0)) h) : J mX10_log d 0 0 Q 0 0 33 [some (.inr (.inr 1)), some (.inl v1)] [.inl vs0] h := by
  refine bX10_log_33  ?_
  exact bX10_log_38  (K0)

set_option maxRecDepth 20000 in
theorem t_X10_nearly {d d1' : Nat} {Q : Option MV → MH → Prop} {h : MH} {v1 v2 : Int32} (hr : zRf h) (hd : 1 ≤ d) (hd1' : d1' + 1 ≤ d) (G0 : ¬ v1 < 0 → ¬ (nI 4) ≤ v1 → vp_in v1 4) (K0 : v1 < 0 → Q (some (.inl (-(nI 2)))) h) (K1 : ¬ v1 < 0 → (nI 4) ≤ v1 → Q (some (.inl (-(nI 2)))) h) (K2 : ¬ v1 < 0 → ¬ (nI 4) ≤ v1 → ¬ (h.1 (103 + 2 * v1.toNatClampNeg) 0) = 0 → 0 ≤ v2 → Con mX10_plansOfLog d1' 0 0 [.inr (.inr 1), .inr (.inr (103 + 2 * v1.toNatClampNeg)), .inl v2] h (zri fun (x : Int32) h' => J mX10_nearly d 0 0 Q 0 0 45 [some (.inr (.inr 1)), some (.inl v1), some (.inl v2)] [.inl x] h')) (K3 : ¬ v1 < 0 → ¬ (nI 4) ≤ v1 → ¬ (h.1 (103 + 2 * v1.toNatClampNeg) 0) = 0 → ¬ 0 ≤ v2 → Q (some (.inl (-(nI 3)))) h) (K4 : ¬ v1 < 0 → ¬ (nI 4) ≤ v1 → (h.1 (103 + 2 * v1.toNatClampNeg) 0) = 0 → Q (some (.inl (-(nI 6)))) h) : Con mX10_nearly d 0 0 [.inr (.inr 1), .inl v1, .inl v2] h Q := by
  refine Con.intro rfl (Nat.le_of_ble_eq_true rfl) ?_
  show J mX10_nearly d 0 0 Q 0 0 0 [some (.inr (.inr 1)), some (.inl v1), some (.inl v2)] [] h
  refine bX10_nearly_0 (d' := 0)  (by omega) ?_
  refine t_X10_isRow  ?_ ?_ ?_
  · intro p1
    refine bX10_nearly_4  (fun c => absurd c (by decide)) (fun _ => ?_)
    exact bX10_nearly_7  (K0 p1)
  · intro p2 p3
    refine bX10_nearly_4  (fun c => absurd c (by decide)) (fun _ => ?_)
    exact bX10_nearly_7  (K1 p2 p3)
  · intro p4 p5
    refine bX10_nearly_4  (fun _ => ?_) (fun c => absurd c (by decide))
    refine bX10_nearly_10 hr (G0 p4 p5) (fun p6 => ?_) (fun p6 => ?_)
    · refine bX10_nearly_25  (fun p7 => ?_) (fun p7 => ?_)
      · exact bX10_nearly_34 hr (G0 p4 p5) hd1' (K2 p4 p5 p6 p7)
      · refine bX10_nearly_29  ?_
        exact bX10_nearly_45  (K3 p4 p5 p6 p7)
    · exact bX10_nearly_22  (K4 p4 p5 p6)

set_option maxRecDepth 20000 in
theorem t_X10_nearly_45 {d  : Nat} {Q : Option MV → MH → Prop} {h : MH} {v1 v2 vs0 : Int32} (K0 : Q (some (.inl vs0)) h) : J mX10_nearly d 0 0 Q 0 0 45 [some (.inr (.inr 1)), some (.inl v1), some (.inl v2)] [.inl vs0] h := by
  exact bX10_nearly_45  (K0)

set_option maxRecDepth 20000 in
theorem t_X10_plansOfLog {d  : Nat} {Q : Option MV → MH → Prop} {h : MH} {v2 : Int32} {v1 : Nat} (K0 : J mX10_plansOfLog d 0 0 Q 0 0 5 [some (.inr (.inr 1)), some (.inr (.inr v1)), some (.inl v2), some (.inl (nI 0)), some (.inl (nI 0))] [] h) : Con mX10_plansOfLog d 0 0 [.inr (.inr 1), .inr (.inr v1), .inl v2] h Q := by
  refine Con.intro rfl (Nat.le_of_ble_eq_true rfl) ?_
  show J mX10_plansOfLog d 0 0 Q 0 0 0 [some (.inr (.inr 1)), some (.inr (.inr v1)), some (.inl v2), none, none] [] h
  refine bX10_plansOfLog_0  ?_
  exact K0

set_option maxRecDepth 20000 in
theorem t_X10_plansOfLog_5 {d d1' : Nat} {Q : Option MV → MH → Prop} {h : MH} {v2 v3 v4 : Int32} {v1 : Nat} (hr : zRf h) (hd1' : d1' + 1 ≤ d) (K0 : (nI 4) ≤ v4 → Q (some (.inl v3)) h) (K1 : ¬ (nI 4) ≤ v4 → Con mX10_playAsTold d1' 0 0 [.inr (.inr 1), .inl v4] h (zrv fun h' => J mX10_plansOfLog d 0 0 Q 0 0 17 [some (.inr (.inr 1)), some (.inr (.inr v1)), some (.inl v2), some (.inl v3), some (.inl v4)] [] h')) : J mX10_plansOfLog d 0 0 Q 0 0 5 [some (.inr (.inr 1)), some (.inr (.inr v1)), some (.inl v2), some (.inl v3), some (.inl v4)] [] h := by
  refine bX10_plansOfLog_5  (fun p1 => ?_) (fun p1 => ?_)
  · exact bX10_plansOfLog_43  (K0 p1)
  · exact bX10_plansOfLog_11 hr hd1' (K1 p1)

set_option maxRecDepth 20000 in
theorem t_X10_plansOfLog_17 {d d1' : Nat} {Q : Option MV → MH → Prop} {h : MH} {v2 v3 v4 : Int32} {v1 : Nat} (hr : zRf h) (hd1' : d1' + 1 ≤ d) (K0 : Con mX10_heard d1' 0 0 [.inr (.inr 1), .inr (.inr v1), .inl v2] h (zrl fun (x : Int64) h' => J mX10_plansOfLog d 0 0 Q 0 0 23 [some (.inr (.inr 1)), some (.inr (.inr v1)), some (.inl v2), some (.inl v3), some (.inl v4)] [.inr (.inl x)] h')) : J mX10_plansOfLog d 0 0 Q 0 0 17 [some (.inr (.inr 1)), some (.inr (.inr v1)), some (.inl v2), some (.inl v3), some (.inl v4)] [] h := by
  exact bX10_plansOfLog_17 hr hd1' (K0)

set_option maxRecDepth 20000 in
theorem t_X10_plansOfLog_23 {d  : Nat} {Q : Option MV → MH → Prop} {h : MH} {v2 v3 v4 : Int32} {vs0 : Int64} {v1 : Nat} (K0 : (lg_cmp vs0 (-1 : Int64)) = 0 → J mX10_plansOfLog d 0 0 Q 0 0 5 [some (.inr (.inr 1)), some (.inr (.inr v1)), some (.inl v2), some (.inl v3), some (.inl (v4 + nI 1))] [] h) (K1 : ¬ (lg_cmp vs0 (-1 : Int64)) = 0 → J mX10_plansOfLog d 0 0 Q 0 0 5 [some (.inr (.inr 1)), some (.inr (.inr v1)), some (.inl v2), some (.inl (v3 ||| ((nI 1) <<< (v4 &&& 31)))), some (.inl (v4 + nI 1))] [] h) : J mX10_plansOfLog d 0 0 Q 0 0 23 [some (.inr (.inr 1)), some (.inr (.inr v1)), some (.inl v2), some (.inl v3), some (.inl v4)] [.inr (.inl vs0)] h := by
  refine bX10_plansOfLog_23  (fun p1 => ?_) (fun p1 => ?_)
  · refine bX10_plansOfLog_37  ?_
    exact K0 p1
  · refine bX10_plansOfLog_30  ?_
    refine bX10_plansOfLog_37  ?_
    exact K1 p1

set_option maxRecDepth 20000 in
theorem t_X10_heard {d  : Nat} {Q : Option MV → MH → Prop} {h : MH} {v2 : Int32} {v1 : Nat} (K0 : J mX10_heard d 0 0 Q 0 0 8 [some (.inr (.inr 1)), some (.inr (.inr v1)), some (.inl v2), some (.inr (.inl (lN 0))), none, some (.inl (nI 0)), some (.inl (nI 0)), none] [] h) : Con mX10_heard d 0 0 [.inr (.inr 1), .inr (.inr v1), .inl v2] h Q := by
  refine Con.intro rfl (Nat.le_of_ble_eq_true rfl) ?_
  show J mX10_heard d 0 0 Q 0 0 0 [some (.inr (.inr 1)), some (.inr (.inr v1)), some (.inl v2), none, none, none, none, none] [] h
  refine bX10_heard_0  ?_
  exact K0

set_option maxRecDepth 20000 in
theorem t_X10_heard_8 {d d1' : Nat} {Q : Option MV → MH → Prop} {h : MH} {u7 : Option MV} {v2 v5 v6 : Int32} {v3 : Int64} {v1 : Nat} (hr : zRf h) (hd1' : d1' + 1 ≤ d) (G0 : zokO h v1 7) (G1 : ¬ (h.1 v1 2) ≤ v6 → vp_in v6 40) (K0 : (h.1 v1 2) ≤ v6 → Q (some (.inr (.inl v3))) h) (K1 : ¬ (h.1 v1 2) ≤ v6 → Con mX8_bellNear d1' 0 0 [.inr (.inr 48), .inl v5, .inr (.inl (h.2.1 (v1 + 1) v6.toNatClampNeg)), .inl v2] h (zri fun (x : Int32) h' => J mX10_heard d 0 0 Q 0 0 34 [some (.inr (.inr 1)), some (.inr (.inr v1)), some (.inl v2), some (.inr (.inl v3)), none, some (.inl v5), some (.inl v6), u7] [.inl x] h')) : J mX10_heard d 0 0 Q 0 0 8 [some (.inr (.inr 1)), some (.inr (.inr v1)), some (.inl v2), some (.inr (.inl v3)), none, some (.inl v5), some (.inl v6), u7] [] h := by
  refine bX10_heard_8 (G0) (fun p1 => ?_) (fun p1 => ?_)
  · exact bX10_heard_65  (K0 p1)
  · exact bX10_heard_17 hr (G0) (G1 p1) hd1' (K1 p1)

set_option maxRecDepth 20000 in
theorem t_X10_heard_34 {d  : Nat} {Q : Option MV → MH → Prop} {h : MH} {u7 : Option MV} {v2 v5 v6 vs0 : Int32} {v3 : Int64} {v1 : Nat} (K0 : ¬ vs0 = (-(nI 1)) → J mX10_heard d 0 0 Q 0 0 8 [some (.inr (.inr 1)), some (.inr (.inr v1)), some (.inl v2), some (.inr (.inl (v3 ||| ((lN 1) <<< (vs0.toInt64 &&& 63))))), none, some (.inl (vs0 + (nI 1))), some (.inl (v6 + nI 1)), some (.inl vs0)] [] h) (K1 : vs0 = (-(nI 1)) → Q (some (.inr (.inl (-1 : Int64)))) h) : J mX10_heard d 0 0 Q 0 0 34 [some (.inr (.inr 1)), some (.inr (.inr v1)), some (.inl v2), some (.inr (.inl v3)), none, some (.inl v5), some (.inl v6), u7] [.inl vs0] h := by
  refine bX10_heard_34  (fun p1 => ?_) (fun p1 => ?_)
  · refine bX10_heard_46  ?_
    exact K0 p1
  · exact bX10_heard_42  (K1 p1)

set_option maxRecDepth 20000 in
theorem t_X10_missed {d d1' : Nat} {Q : Option MV → MH → Prop} {h : MH} {v1 v2 v3 : Int32} (hr : zRf h) (hd : 1 ≤ d) (hd1' : d1' + 1 ≤ d) (G0 : ¬ v1 < 0 → ¬ (nI 4) ≤ v1 → ¬ v2 < 0 → ¬ (nI 4) ≤ v2 → vp_in v2 4) (K0 : v1 < 0 → Q (some (.inl (-(nI 2)))) h) (K1 : ¬ v1 < 0 → (nI 4) ≤ v1 → Q (some (.inl (-(nI 2)))) h) (K2 : ¬ v1 < 0 → ¬ (nI 4) ≤ v1 → v2 < 0 → Q (some (.inl (-(nI 2)))) h) (K3 : ¬ v1 < 0 → ¬ (nI 4) ≤ v1 → ¬ v2 < 0 → (nI 4) ≤ v2 → Q (some (.inl (-(nI 2)))) h) (K4 : ¬ v1 < 0 → ¬ (nI 4) ≤ v1 → ¬ v2 < 0 → ¬ (nI 4) ≤ v2 → ¬ (h.1 (103 + 2 * v2.toNatClampNeg) 0) = 0 → Con mX10_playAsTold d1' 0 0 [.inr (.inr 1), .inl v1] h (zrv fun h' => J mX10_missed d 0 0 Q 0 0 37 [some (.inr (.inr 1)), some (.inl v1), some (.inl v2), some (.inl v3), none, none, none, none] [] h')) (K5 : ¬ v1 < 0 → ¬ (nI 4) ≤ v1 → ¬ v2 < 0 → ¬ (nI 4) ≤ v2 → (h.1 (103 + 2 * v2.toNatClampNeg) 0) = 0 → Q (some (.inl (-(nI 6)))) h) : Con mX10_missed d 0 0 [.inr (.inr 1), .inl v1, .inl v2, .inl v3] h Q := by
  refine Con.intro rfl (Nat.le_of_ble_eq_true rfl) ?_
  show J mX10_missed d 0 0 Q 0 0 0 [some (.inr (.inr 1)), some (.inl v1), some (.inl v2), some (.inl v3), none, none, none, none] [] h
  refine bX10_missed_0 (d' := 0)  (by omega) ?_
  refine t_X10_isPlan  ?_ ?_ ?_
  · intro p1
    refine bX10_missed_4  (fun _ => ?_) (fun c => absurd c (by decide))
    exact bX10_missed_14  (K0 p1)
  · intro p2 p3
    refine bX10_missed_4  (fun _ => ?_) (fun c => absurd c (by decide))
    exact bX10_missed_14  (K1 p2 p3)
  · intro p4 p5
    refine bX10_missed_4  (fun c => absurd c (by decide)) (fun _ => ?_)
    refine bX10_missed_7 (d' := 0)  (by omega) ?_
    refine t_X10_isRow  ?_ ?_ ?_
    · intro p6
      refine bX10_missed_11  (fun c => absurd c (by decide)) (fun _ => ?_)
      exact bX10_missed_14  (K2 p4 p5 p6)
    · intro p7 p8
      refine bX10_missed_11  (fun c => absurd c (by decide)) (fun _ => ?_)
      exact bX10_missed_14  (K3 p4 p5 p7 p8)
    · intro p9 p10
      refine bX10_missed_11  (fun _ => ?_) (fun c => absurd c (by decide))
      refine bX10_missed_17 hr (G0 p4 p5 p9 p10) (fun p11 => ?_) (fun p11 => ?_)
      · exact bX10_missed_32 hr hd1' (K4 p4 p5 p9 p10 p11)
      · exact bX10_missed_29  (K5 p4 p5 p9 p10 p11)

set_option maxRecDepth 20000 in
theorem t_X10_missed_37 {d d1' : Nat} {Q : Option MV → MH → Prop} {h : MH} {v1 v2 v3 : Int32} (hr : zRf h) (hd1' : d1' + 1 ≤ d) (G0 : vp_in v2 4) (K0 : Con mX10_heard d1' 0 0 [.inr (.inr 1), .inr (.inr (103 + 2 * v2.toNatClampNeg)), .inl (nI 0)] h (zrl fun (x : Int64) h' => J mX10_missed d 0 0 Q 0 0 48 [some (.inr (.inr 1)), some (.inl v1), some (.inl v2), some (.inl v3), none, none, none, none] [.inr (.inl x)] h')) : J mX10_missed d 0 0 Q 0 0 37 [some (.inr (.inr 1)), some (.inl v1), some (.inl v2), some (.inl v3), none, none, none, none] [] h := by
  exact bX10_missed_37 hr (G0) hd1' (K0)

set_option maxRecDepth 20000 in
theorem t_X10_missed_48 {d  : Nat} {Q : Option MV → MH → Prop} {h : MH} {v1 v2 v3 : Int32} {vs0 : Int64} (K0 : ¬ (lg_cmp vs0 (-1 : Int64)) = 0 → J mX10_missed d 0 0 Q 0 0 67 [some (.inr (.inr 1)), some (.inl v1), some (.inl v2), some (.inl v3), some (.inr (.inl vs0)), none, some (.inl (nI 0)), some (.inl (nI 0))] [] h) (K1 : (lg_cmp vs0 (-1 : Int64)) = 0 → Q (some (.inl (-(nI 1)))) h) : J mX10_missed d 0 0 Q 0 0 48 [some (.inr (.inr 1)), some (.inl v1), some (.inl v2), some (.inl v3), none, none, none, none] [.inr (.inl vs0)] h := by
  refine bX10_missed_48  (fun p1 => ?_) (fun p1 => ?_)
  · refine bX10_missed_61  ?_
    exact K0 p1
  · exact bX10_missed_59  (K1 p1)

set_option maxRecDepth 20000 in
theorem t_X10_missed_67 {d  : Nat} {Q : Option MV → MH → Prop} {h : MH} {v1 v2 v3 v6 v7 : Int32} {v4 : Int64} (hr : zRf h) (K0 : (h.1 48 9) ≤ v7 → ¬ v3 = (-(nI 1)) → Q (some (.inl (-(nI 1)))) h) (K1 : (h.1 48 9) ≤ v7 → v3 = (-(nI 1)) → Q (some (.inl v6)) h) (K2 : ¬ (h.1 48 9) ≤ v7 → ¬ (lg_cmp (((v4.toUInt64 >>> (v7.toInt64.toUInt64 &&& Int64.toUInt64 63)).toInt64) &&& (lN 1)) (lN 0)) = 0 → J mX10_missed d 0 0 Q 0 0 67 [some (.inr (.inr 1)), some (.inl v1), some (.inl v2), some (.inl v3), some (.inr (.inl v4)), none, some (.inl v6), some (.inl (v7 + nI 1))] [] h) (K3 : ¬ (h.1 48 9) ≤ v7 → (lg_cmp (((v4.toUInt64 >>> (v7.toInt64.toUInt64 &&& Int64.toUInt64 63)).toInt64) &&& (lN 1)) (lN 0)) = 0 → ¬ v6 = v3 → J mX10_missed d 0 0 Q 0 0 67 [some (.inr (.inr 1)), some (.inl v1), some (.inl v2), some (.inl v3), some (.inr (.inl v4)), none, some (.inl (v6 + nI 1)), some (.inl (v7 + nI 1))] [] h) (K4 : ¬ (h.1 48 9) ≤ v7 → (lg_cmp (((v4.toUInt64 >>> (v7.toInt64.toUInt64 &&& Int64.toUInt64 63)).toInt64) &&& (lN 1)) (lN 0)) = 0 → v6 = v3 → Q (some (.inl v7)) h) : J mX10_missed d 0 0 Q 0 0 67 [some (.inr (.inr 1)), some (.inl v1), some (.inl v2), some (.inl v3), some (.inr (.inl v4)), none, some (.inl v6), some (.inl v7)] [] h := by
  refine bX10_missed_67 hr (fun p1 => ?_) (fun p1 => ?_)
  · refine bX10_missed_109  (fun p2 => ?_) (fun p2 => ?_)
    · refine bX10_missed_119  ?_
      exact bX10_missed_120  (K0 p1 p2)
    · refine bX10_missed_114  ?_
      exact bX10_missed_120  (K1 p1 p2)
  · refine bX10_missed_79  (fun p3 => ?_) (fun p3 => ?_)
    · refine bX10_missed_103  ?_
      exact K2 p1 p3
    · refine bX10_missed_91  (fun p4 => ?_) (fun p4 => ?_)
      · refine bX10_missed_100  ?_
        refine bX10_missed_103  ?_
        exact K3 p1 p3 p4
      · exact bX10_missed_97  (K4 p1 p3 p4)

set_option maxRecDepth 20000 in
theorem t_X10_stolen {d d1' : Nat} {Q : Option MV → MH → Prop} {h : MH} {v1 v2 : Int32} (hr : zRf h) (hd : 1 ≤ d) (hd1' : d1' + 1 ≤ d) (G0 : ¬ v1 < 0 → ¬ (nI 4) ≤ v1 → ¬ v2 < 0 → ¬ (nI 4) ≤ v2 → vp_in v2 4) (K0 : v1 < 0 → Q (some (.inl (-(nI 2)))) h) (K1 : ¬ v1 < 0 → (nI 4) ≤ v1 → Q (some (.inl (-(nI 2)))) h) (K2 : ¬ v1 < 0 → ¬ (nI 4) ≤ v1 → v2 < 0 → Q (some (.inl (-(nI 2)))) h) (K3 : ¬ v1 < 0 → ¬ (nI 4) ≤ v1 → ¬ v2 < 0 → (nI 4) ≤ v2 → Q (some (.inl (-(nI 2)))) h) (K4 : ¬ v1 < 0 → ¬ (nI 4) ≤ v1 → ¬ v2 < 0 → ¬ (nI 4) ≤ v2 → ¬ (h.1 (103 + 2 * v2.toNatClampNeg) 0) = 0 → Con mX10_playAsTold d1' 0 0 [.inr (.inr 1), .inl v1] h (zrv fun h' => J mX10_stolen d 0 0 Q 0 0 37 [some (.inr (.inr 1)), some (.inl v1), some (.inl v2), none, none, none] [] h')) (K5 : ¬ v1 < 0 → ¬ (nI 4) ≤ v1 → ¬ v2 < 0 → ¬ (nI 4) ≤ v2 → (h.1 (103 + 2 * v2.toNatClampNeg) 0) = 0 → Q (some (.inl (-(nI 6)))) h) : Con mX10_stolen d 0 0 [.inr (.inr 1), .inl v1, .inl v2] h Q := by
  refine Con.intro rfl (Nat.le_of_ble_eq_true rfl) ?_
  show J mX10_stolen d 0 0 Q 0 0 0 [some (.inr (.inr 1)), some (.inl v1), some (.inl v2), none, none, none] [] h
  refine bX10_stolen_0 (d' := 0)  (by omega) ?_
  refine t_X10_isPlan  ?_ ?_ ?_
  · intro p1
    refine bX10_stolen_4  (fun _ => ?_) (fun c => absurd c (by decide))
    exact bX10_stolen_14  (K0 p1)
  · intro p2 p3
    refine bX10_stolen_4  (fun _ => ?_) (fun c => absurd c (by decide))
    exact bX10_stolen_14  (K1 p2 p3)
  · intro p4 p5
    refine bX10_stolen_4  (fun c => absurd c (by decide)) (fun _ => ?_)
    refine bX10_stolen_7 (d' := 0)  (by omega) ?_
    refine t_X10_isRow  ?_ ?_ ?_
    · intro p6
      refine bX10_stolen_11  (fun c => absurd c (by decide)) (fun _ => ?_)
      exact bX10_stolen_14  (K2 p4 p5 p6)
    · intro p7 p8
      refine bX10_stolen_11  (fun c => absurd c (by decide)) (fun _ => ?_)
      exact bX10_stolen_14  (K3 p4 p5 p7 p8)
    · intro p9 p10
      refine bX10_stolen_11  (fun _ => ?_) (fun c => absurd c (by decide))
      refine bX10_stolen_17 hr (G0 p4 p5 p9 p10) (fun p11 => ?_) (fun p11 => ?_)
      · exact bX10_stolen_32 hr hd1' (K4 p4 p5 p9 p10 p11)
      · exact bX10_stolen_29  (K5 p4 p5 p9 p10 p11)

set_option maxRecDepth 20000 in
theorem t_X10_stolen_37 {d  : Nat} {Q : Option MV → MH → Prop} {h : MH} {v1 v2 : Int32} (hr : zRf h) (hd : 1 ≤ d) (G0 : vp_in v2 4) (K0 : J mX10_stolen d 0 0 Q 0 0 66 [some (.inr (.inr 1)), some (.inl v1), some (.inl v2), some (.inl (nI 0)), some (.inl (if (h.1 16 0) < (h.1 (103 + 2 * v2.toNatClampNeg) 2) then (h.1 16 0) else (h.1 (103 + 2 * v2.toNatClampNeg) 2))), some (.inl (nI 0))] [] h) : J mX10_stolen d 0 0 Q 0 0 37 [some (.inr (.inr 1)), some (.inl v1), some (.inl v2), none, none, none] [] h := by
  refine bX10_stolen_37 hr (G0) (by omega) ?_
  refine bX10_stolen_61  ?_
  exact K0

set_option maxRecDepth 20000 in
theorem t_X10_stolen_66 {d  : Nat} {Q : Option MV → MH → Prop} {h : MH} {v1 v2 v3 v4 v5 : Int32} (hr : zRf h) (G0 : ¬ v4 ≤ v5 → vp_in v2 4) (G1 : ¬ v4 ≤ v5 → vp_in v5 40) (G2 : ¬ v4 ≤ v5 → vp_in v5 8) (K0 : v4 ≤ v5 → Q (some (.inl v3)) h) (K1 : ¬ v4 ≤ v5 → 0 ≤ (lg_cmp (h.2.1 ((103 + 2 * v2.toNatClampNeg) + 1) v5.toNatClampNeg) (((h.1 50 v5.toNatClampNeg) / (nI 256)).toInt64)) → J mX10_stolen d 0 0 Q 0 0 66 [some (.inr (.inr 1)), some (.inl v1), some (.inl v2), some (.inl v3), some (.inl v4), some (.inl (v5 + nI 1))] [] h) (K2 : ¬ v4 ≤ v5 → ¬ 0 ≤ (lg_cmp (h.2.1 ((103 + 2 * v2.toNatClampNeg) + 1) v5.toNatClampNeg) (((h.1 50 v5.toNatClampNeg) / (nI 256)).toInt64)) → J mX10_stolen d 0 0 Q 0 0 66 [some (.inr (.inr 1)), some (.inl v1), some (.inl v2), some (.inl (v3 ||| ((nI 1) <<< (v5 &&& 31)))), some (.inl v4), some (.inl (v5 + nI 1))] [] h) : J mX10_stolen d 0 0 Q 0 0 66 [some (.inr (.inr 1)), some (.inl v1), some (.inl v2), some (.inl v3), some (.inl v4), some (.inl v5)] [] h := by
  refine bX10_stolen_66  (fun p1 => ?_) (fun p1 => ?_)
  · exact bX10_stolen_117  (K0 p1)
  · refine bX10_stolen_73 hr (G0 p1) (G1 p1) (G2 p1) (fun p2 => ?_) (fun p2 => ?_)
    · refine bX10_stolen_111  ?_
      exact K1 p1 p2
    · refine bX10_stolen_104  ?_
      refine bX10_stolen_111  ?_
      exact K2 p1 p2

set_option maxRecDepth 20000 in
theorem t_X10_numbers {d d1' : Nat} {Q : Option MV → MH → Prop} {h : MH} {v1 v2 v3 : Int32} (hr : zRf h) (hd : 1 ≤ d) (hd1' : d1' + 1 ≤ d) (G0 : ¬ v1 < 0 → ¬ (nI 4) ≤ v1 → ¬ v2 < 0 → v2 < (nI 4) → ¬ v3 < 0 → v3 ≤ (nI 40) → vp_in v1 4) (K0 : v1 < 0 → Q (some (.inl (-(nI 2)))) h) (K1 : ¬ v1 < 0 → (nI 4) ≤ v1 → Q (some (.inl (-(nI 2)))) h) (K2 : ¬ v1 < 0 → ¬ (nI 4) ≤ v1 → v2 < 0 → Q (some (.inl (-(nI 2)))) h) (K3 : ¬ v1 < 0 → ¬ (nI 4) ≤ v1 → ¬ v2 < 0 → v2 < (nI 4) → v3 < 0 → Q (some (.inl (-(nI 3)))) h) (K4 : ¬ v1 < 0 → ¬ (nI 4) ≤ v1 → ¬ v2 < 0 → v2 < (nI 4) → ¬ v3 < 0 → v3 ≤ (nI 40) → Con mX7_begin d1' 0 0 [.inr (.inr (103 + 2 * v1.toNatClampNeg)), .inl v2, .inl v3] h (zrv fun h' => J mX10_numbers d 0 0 Q 0 0 43 [some (.inr (.inr 1)), some (.inl v1), some (.inl v2), some (.inl v3)] [] h')) (K5 : ¬ v1 < 0 → ¬ (nI 4) ≤ v1 → ¬ v2 < 0 → v2 < (nI 4) → ¬ v3 < 0 → ¬ v3 ≤ (nI 40) → Q (some (.inl (-(nI 3)))) h) (K6 : ¬ v1 < 0 → ¬ (nI 4) ≤ v1 → ¬ v2 < 0 → ¬ v2 < (nI 4) → Q (some (.inl (-(nI 2)))) h) : Con mX10_numbers d 0 0 [.inr (.inr 1), .inl v1, .inl v2, .inl v3] h Q := by
  refine Con.intro rfl (Nat.le_of_ble_eq_true rfl) ?_
  show J mX10_numbers d 0 0 Q 0 0 0 [some (.inr (.inr 1)), some (.inl v1), some (.inl v2), some (.inl v3)] [] h
  refine bX10_numbers_0 (d' := 0)  (by omega) ?_
  refine t_X10_isRow  ?_ ?_ ?_
  · intro p1
    refine bX10_numbers_4  (fun _ => ?_) (fun c => absurd c (by decide))
    exact bX10_numbers_16  (K0 p1)
  · intro p2 p3
    refine bX10_numbers_4  (fun _ => ?_) (fun c => absurd c (by decide))
    exact bX10_numbers_16  (K1 p2 p3)
  · intro p4 p5
    refine bX10_numbers_4  (fun c => absurd c (by decide)) (fun _ => ?_)
    refine bX10_numbers_7  (fun p6 => ?_) (fun p6 => ?_)
    · exact bX10_numbers_16  (K2 p4 p5 p6)
    · refine bX10_numbers_11  (fun p7 => ?_) (fun p7 => ?_)
      · refine bX10_numbers_19  (fun p8 => ?_) (fun p8 => ?_)
        · exact bX10_numbers_29  (K3 p4 p5 p6 p7 p8)
        · refine bX10_numbers_23  (fun p9 => ?_) (fun p9 => ?_)
          · exact bX10_numbers_32 hr (G0 p4 p5 p6 p7 p8 p9) hd1' (K4 p4 p5 p6 p7 p8 p9)
          · exact bX10_numbers_29  (K5 p4 p5 p6 p7 p8 p9)
      · exact bX10_numbers_16  (K6 p4 p5 p6 p7)

set_option maxRecDepth 20000 in
theorem t_X10_numbers_43 {d  : Nat} {Q : Option MV → MH → Prop} {h : MH} {v1 v2 v3 : Int32} (K0 : Q (some (.inl (nI 0))) h) : J mX10_numbers d 0 0 Q 0 0 43 [some (.inr (.inr 1)), some (.inl v1), some (.inl v2), some (.inl v3)] [] h := by
  exact bX10_numbers_43  (K0)

set_option maxRecDepth 20000 in
theorem t_X10_write {d d1' : Nat} {Q : Option MV → MH → Prop} {h : MH} {v1 v2 : Int32} {v3 : Int64} (hr : zRf h) (hd : 1 ≤ d) (hd1' : d1' + 1 ≤ d) (G0 : ¬ v1 < 0 → ¬ (nI 4) ≤ v1 → vp_in v1 4) (K0 : v1 < 0 → Q (some (.inr (.inl (-2 : Int64)))) h) (K1 : ¬ v1 < 0 → (nI 4) ≤ v1 → Q (some (.inr (.inl (-2 : Int64)))) h) (K2 : ¬ v1 < 0 → ¬ (nI 4) ≤ v1 → ¬ (h.1 (103 + 2 * v1.toNatClampNeg) 0) = 0 → v2 < 0 → Q (some (.inr (.inl (-7 : Int64)))) h) (K3 : ¬ v1 < 0 → ¬ (nI 4) ≤ v1 → ¬ (h.1 (103 + 2 * v1.toNatClampNeg) 0) = 0 → ¬ v2 < 0 → v2 < (h.1 (103 + 2 * v1.toNatClampNeg) 2) → Con mX7_put d1' 0 0 [.inr (.inr (103 + 2 * v1.toNatClampNeg)), .inl v2, .inr (.inl v3)] h (zrv fun h' => J mX10_write d 0 0 Q 0 0 59 [some (.inr (.inr 1)), some (.inl v1), some (.inl v2), some (.inr (.inl v3)), none] [] h')) (K4 : ¬ v1 < 0 → ¬ (nI 4) ≤ v1 → ¬ (h.1 (103 + 2 * v1.toNatClampNeg) 0) = 0 → ¬ v2 < 0 → ¬ v2 < (h.1 (103 + 2 * v1.toNatClampNeg) 2) → Q (some (.inr (.inl (-7 : Int64)))) h) (K5 : ¬ v1 < 0 → ¬ (nI 4) ≤ v1 → (h.1 (103 + 2 * v1.toNatClampNeg) 0) = 0 → Q (some (.inr (.inl (-6 : Int64)))) h) : Con mX10_write d 0 0 [.inr (.inr 1), .inl v1, .inl v2, .inr (.inl v3)] h Q := by
  refine Con.intro rfl (Nat.le_of_ble_eq_true rfl) ?_
  show J mX10_write d 0 0 Q 0 0 0 [some (.inr (.inr 1)), some (.inl v1), some (.inl v2), some (.inr (.inl v3)), none] [] h
  refine bX10_write_0 (d' := 0)  (by omega) ?_
  refine t_X10_isRow  ?_ ?_ ?_
  · intro p1
    refine bX10_write_4  (fun c => absurd c (by decide)) (fun _ => ?_)
    exact bX10_write_7  (K0 p1)
  · intro p2 p3
    refine bX10_write_4  (fun c => absurd c (by decide)) (fun _ => ?_)
    exact bX10_write_7  (K1 p2 p3)
  · intro p4 p5
    refine bX10_write_4  (fun _ => ?_) (fun c => absurd c (by decide))
    refine bX10_write_11 hr (G0 p4 p5) (fun p6 => ?_) (fun p6 => ?_)
    · refine bX10_write_27  (fun p7 => ?_) (fun p7 => ?_)
      · exact bX10_write_44  (K2 p4 p5 p6 p7)
      · refine bX10_write_31 hr (G0 p4 p5) (fun p8 => ?_) (fun p8 => ?_)
        · exact bX10_write_48 hr (G0 p4 p5) hd1' (K3 p4 p5 p6 p7 p8)
        · exact bX10_write_44  (K4 p4 p5 p6 p7 p8)
    · exact bX10_write_23  (K5 p4 p5 p6)

set_option maxRecDepth 20000 in
theorem t_X10_write_59 {d  : Nat} {Q : Option MV → MH → Prop} {h : MH} {v1 v2 : Int32} {v3 : Int64} (hr : zRf h) (G0 : vp_in v1 4) (G1 : vp_in v2 40) (K0 : Q (some (.inr (.inl (h.2.1 ((103 + 2 * v1.toNatClampNeg) + 1) v2.toNatClampNeg)))) h) : J mX10_write d 0 0 Q 0 0 59 [some (.inr (.inr 1)), some (.inl v1), some (.inl v2), some (.inr (.inl v3)), none] [] h := by
  exact bX10_write_59 hr (G0) (G1) (K0)

set_option maxRecDepth 20000 in
theorem t_X10_copy {d d1' : Nat} {Q : Option MV → MH → Prop} {h : MH} {v1 v2 : Int32} (hr : zRf h) (hd : 1 ≤ d) (hd1' : d1' + 1 ≤ d) (G0 : ¬ v1 < 0 → ¬ (nI 4) ≤ v1 → ¬ v2 < 0 → ¬ (nI 4) ≤ v2 → vp_in v2 4) (K0 : v1 < 0 → Q (some (.inl (-(nI 2)))) h) (K1 : ¬ v1 < 0 → (nI 4) ≤ v1 → Q (some (.inl (-(nI 2)))) h) (K2 : ¬ v1 < 0 → ¬ (nI 4) ≤ v1 → v2 < 0 → Q (some (.inl (-(nI 2)))) h) (K3 : ¬ v1 < 0 → ¬ (nI 4) ≤ v1 → ¬ v2 < 0 → (nI 4) ≤ v2 → Q (some (.inl (-(nI 2)))) h) (K4 : ¬ v1 < 0 → ¬ (nI 4) ≤ v1 → ¬ v2 < 0 → ¬ (nI 4) ≤ v2 → ¬ (h.1 (103 + 2 * v2.toNatClampNeg) 0) = 0 → Con mX10_playAsTold d1' 0 0 [.inr (.inr 1), .inl v1] h (zrv fun h' => J mX10_copy d 0 0 Q 0 0 37 [some (.inr (.inr 1)), some (.inl v1), some (.inl v2), none] [] h')) (K5 : ¬ v1 < 0 → ¬ (nI 4) ≤ v1 → ¬ v2 < 0 → ¬ (nI 4) ≤ v2 → (h.1 (103 + 2 * v2.toNatClampNeg) 0) = 0 → Q (some (.inl (-(nI 6)))) h) : Con mX10_copy d 0 0 [.inr (.inr 1), .inl v1, .inl v2] h Q := by
  refine Con.intro rfl (Nat.le_of_ble_eq_true rfl) ?_
  show J mX10_copy d 0 0 Q 0 0 0 [some (.inr (.inr 1)), some (.inl v1), some (.inl v2), none] [] h
  refine bX10_copy_0 (d' := 0)  (by omega) ?_
  refine t_X10_isPlan  ?_ ?_ ?_
  · intro p1
    refine bX10_copy_4  (fun _ => ?_) (fun c => absurd c (by decide))
    exact bX10_copy_14  (K0 p1)
  · intro p2 p3
    refine bX10_copy_4  (fun _ => ?_) (fun c => absurd c (by decide))
    exact bX10_copy_14  (K1 p2 p3)
  · intro p4 p5
    refine bX10_copy_4  (fun c => absurd c (by decide)) (fun _ => ?_)
    refine bX10_copy_7 (d' := 0)  (by omega) ?_
    refine t_X10_isRow  ?_ ?_ ?_
    · intro p6
      refine bX10_copy_11  (fun c => absurd c (by decide)) (fun _ => ?_)
      exact bX10_copy_14  (K2 p4 p5 p6)
    · intro p7 p8
      refine bX10_copy_11  (fun c => absurd c (by decide)) (fun _ => ?_)
      exact bX10_copy_14  (K3 p4 p5 p7 p8)
    · intro p9 p10
      refine bX10_copy_11  (fun _ => ?_) (fun c => absurd c (by decide))
      refine bX10_copy_17 hr (G0 p4 p5 p9 p10) (fun p11 => ?_) (fun p11 => ?_)
      · exact bX10_copy_32 hr hd1' (K4 p4 p5 p9 p10 p11)
      · exact bX10_copy_29  (K5 p4 p5 p9 p10 p11)

set_option maxRecDepth 20000 in
theorem t_X10_copy_37 {d  : Nat} {Q : Option MV → MH → Prop} {h : MH} {v1 v2 : Int32} (hr : zRf h) (G0 : vp_in v2 4) (K0 : (h.1 48 9) ≤ (h.1 (103 + 2 * v2.toNatClampNeg) 2) → J mX10_copy d 0 0 Q 0 0 61 [some (.inr (.inr 1)), some (.inl v1), some (.inl v2), some (.inl (nI 0))] [] h) (K1 : ¬ (h.1 48 9) ≤ (h.1 (103 + 2 * v2.toNatClampNeg) 2) → Q (some (.inl (-(nI 7)))) h) : J mX10_copy d 0 0 Q 0 0 37 [some (.inr (.inr 1)), some (.inl v1), some (.inl v2), none] [] h := by
  refine bX10_copy_37 hr (G0) (fun p1 => ?_) (fun p1 => ?_)
  · refine bX10_copy_59  ?_
    exact K0 p1
  · exact bX10_copy_56  (K1 p1)

set_option maxRecDepth 20000 in
theorem t_X10_copy_61 {d d1' d2' : Nat} {Q : Option MV → MH → Prop} {h : MH} {v1 v2 v3 : Int32} (hr : zRf h) (hd : 1 ≤ d) (hd1' : d1' + 1 ≤ d) (hd2' : d2' + 1 ≤ d) (G0 : ¬ (h.1 48 9) ≤ v3 → vp_in v2 4) (G1 : ¬ (h.1 48 9) ≤ v3 → ¬ v3 < 0 → ¬ (h.1 48 9) ≤ v3 → vp_in v3 40) (G2 : ¬ (h.1 48 9) ≤ v3 → v3 < 0 → zokO h (103 + 2 * v2.toNatClampNeg) 7) (G3 : ¬ (h.1 48 9) ≤ v3 → ¬ v3 < 0 → zokO h (103 + 2 * v2.toNatClampNeg) 7) (K0 : (h.1 48 9) ≤ v3 → Q (some (.inl (h.1 48 9))) h) (K1 : ¬ (h.1 48 9) ≤ v3 → v3 < 0 → Con mX7_put d1' 0 0 [.inr (.inr (103 + 2 * v2.toNatClampNeg)), .inl v3, .inr (.inl ((-(nI 1)).toInt64))] h (zrv fun h' => J mX10_copy d 0 0 Q 0 0 91 [some (.inr (.inr 1)), some (.inl v1), some (.inl v2), some (.inl v3)] [] h')) (K2 : ¬ (h.1 48 9) ≤ v3 → ¬ v3 < 0 → Con mX7_put d2' 0 0 [.inr (.inr (103 + 2 * v2.toNatClampNeg)), .inl v3, .inr (.inl (((h.1 56 v3.toNatClampNeg) / (nI 256)).toInt64))] h (zrv fun h' => J mX10_copy d 0 0 Q 0 0 91 [some (.inr (.inr 1)), some (.inl v1), some (.inl v2), some (.inl v3)] [] h')) : J mX10_copy d 0 0 Q 0 0 61 [some (.inr (.inr 1)), some (.inl v1), some (.inl v2), some (.inl v3)] [] h := by
  refine bX10_copy_61 hr (fun p1 => ?_) (fun p1 => ?_)
  · exact bX10_copy_97 hr (K0 p1)
  · refine bX10_copy_72 (d' := 0) hr (G0 p1) (by omega) ?_
    refine t_X8_bellAt hr ?_ ?_ ?_ ?_
    · intro p2 p3; exact (G1 p1 p2 p3)
    · intro p4
      exact bX10_copy_87 (G2 p1 p4) hd1' (K1 p1 p4)
    · intro p5 p6; exact absurd p6 p1
    · intro p7 p8
      exact bX10_copy_87 (G3 p1 p7) hd2' (K2 p1 p7)

set_option maxRecDepth 20000 in
theorem t_X10_copy_91 {d  : Nat} {Q : Option MV → MH → Prop} {h : MH} {v1 v2 v3 : Int32} (K0 : J mX10_copy d 0 0 Q 0 0 61 [some (.inr (.inr 1)), some (.inl v1), some (.inl v2), some (.inl (v3 + nI 1))] [] h) : J mX10_copy d 0 0 Q 0 0 91 [some (.inr (.inr 1)), some (.inl v1), some (.inl v2), some (.inl v3)] [] h := by
  refine bX10_copy_91  ?_
  exact K0

set_option maxRecDepth 20000 in
theorem t_X10_restore {d d1' : Nat} {Q : Option MV → MH → Prop} {h : MH} {v1 : Int32} (hr : zRf h) (hd1' : d1' + 1 ≤ d) (G0 : ¬ v1 < 0 → v1 < (nI 2) → vp_in v1 2) (K0 : v1 < 0 → Q (some (.inl (-(nI 2)))) h) (K1 : ¬ v1 < 0 → v1 < (nI 2) → ¬ (h.2.2.1 46 v1.toNatClampNeg) = 0 → Con mX1_takeFrom d1' 0 0 [.inr (.inr 15), .inr (.inr (h.2.2.1 46 v1.toNatClampNeg))] h (zrv fun h' => J mX10_restore d 0 0 Q 0 0 37 [some (.inr (.inr 1)), some (.inl v1)] [] h')) (K2 : ¬ v1 < 0 → v1 < (nI 2) → (h.2.2.1 46 v1.toNatClampNeg) = 0 → Q (some (.inl (-(nI 5)))) h) (K3 : ¬ v1 < 0 → ¬ v1 < (nI 2) → Q (some (.inl (-(nI 2)))) h) : Con mX10_restore d 0 0 [.inr (.inr 1), .inl v1] h Q := by
  refine Con.intro rfl (Nat.le_of_ble_eq_true rfl) ?_
  show J mX10_restore d 0 0 Q 0 0 0 [some (.inr (.inr 1)), some (.inl v1)] [] h
  refine bX10_restore_0  (fun p1 => ?_) (fun p1 => ?_)
  · exact bX10_restore_9  (K0 p1)
  · refine bX10_restore_4  (fun p2 => ?_) (fun p2 => ?_)
    · refine bX10_restore_12 hr (G0 p1 p2) (fun p3 => ?_) (fun p3 => ?_)
      · exact bX10_restore_24 hr (G0 p1 p2) hd1' (K1 p1 p2 p3)
      · exact bX10_restore_21  (K2 p1 p2 p3)
    · exact bX10_restore_9  (K3 p1 p2)

set_option maxRecDepth 20000 in
theorem t_X10_restore_37 {d d1' : Nat} {Q : Option MV → MH → Prop} {h : MH} {v1 : Int32} (hr : zRf h) (hd1' : d1' + 1 ≤ d) (K0 : Con mX10_forgetCellar d1' 0 0 [.inr (.inr 1)] h (zrv fun h' => J mX10_restore d 0 0 Q 0 0 41 [some (.inr (.inr 1)), some (.inl v1)] [] h')) : J mX10_restore d 0 0 Q 0 0 37 [some (.inr (.inr 1)), some (.inl v1)] [] h := by
  exact bX10_restore_37 hr hd1' (K0)

set_option maxRecDepth 20000 in
theorem t_X10_restore_41 {d  : Nat} {Q : Option MV → MH → Prop} {h : MH} {v1 : Int32} (K0 : Q (some (.inl (nI 0))) h) : J mX10_restore d 0 0 Q 0 0 41 [some (.inr (.inr 1)), some (.inl v1)] [] h := by
  exact bX10_restore_41  (K0)

set_option maxRecDepth 20000 in
theorem t_X10_count {d d1' d2' : Nat} {Q : Option MV → MH → Prop} {h : MH} {v1 : Int32} (hr : zRf h) (hd1' : d1' + 1 ≤ d) (hd2' : d2' + 1 ≤ d) (G0 : ¬ v1 = 0 → ¬ v1 = (nI 6) → ¬ v1 < (nI 1) → ¬ (nI 4) < v1 → vp_in (v1 - (nI 1)) 4) (K0 : v1 = 0 → Q (some (.inl (h.1 16 0))) h) (K1 : ¬ v1 = 0 → ¬ v1 = (nI 6) → v1 < (nI 1) → ¬ v1 = (nI 5) → ¬ v1 = (nI 7) → Q (some (.inl (-(nI 1)))) h) (K2 : ¬ v1 = 0 → ¬ v1 = (nI 6) → v1 < (nI 1) → ¬ v1 = (nI 5) → v1 = (nI 7) → Con mX2_allWax d1' 0 0 [.inr (.inr 16)] h (zri fun (x : Int32) h' => J mX10_count d 0 0 Q 0 0 72 [some (.inr (.inr 1)), some (.inl v1)] [.inl x] h')) (K3 : ¬ v1 = 0 → ¬ v1 = (nI 6) → v1 < (nI 1) → v1 = (nI 5) → Q (some (.inl (h.1 1 0))) h) (K4 : ¬ v1 = 0 → ¬ v1 = (nI 6) → ¬ v1 < (nI 1) → (nI 4) < v1 → ¬ v1 = (nI 5) → ¬ v1 = (nI 7) → Q (some (.inl (-(nI 1)))) h) (K5 : ¬ v1 = 0 → ¬ v1 = (nI 6) → ¬ v1 < (nI 1) → (nI 4) < v1 → ¬ v1 = (nI 5) → v1 = (nI 7) → Con mX2_allWax d2' 0 0 [.inr (.inr 16)] h (zri fun (x : Int32) h' => J mX10_count d 0 0 Q 0 0 72 [some (.inr (.inr 1)), some (.inl v1)] [.inl x] h')) (K6 : ¬ v1 = 0 → ¬ v1 = (nI 6) → ¬ v1 < (nI 1) → (nI 4) < v1 → v1 = (nI 5) → Q (some (.inl (h.1 1 0))) h) (K7 : ¬ v1 = 0 → ¬ v1 = (nI 6) → ¬ v1 < (nI 1) → ¬ (nI 4) < v1 → Q (some (.inl (h.1 (22 + 6 * (v1 - (nI 1)).toNatClampNeg) 0))) h) (K8 : ¬ v1 = 0 → v1 = (nI 6) → Q (some (.inl (h.1 16 0))) h) : Con mX10_count d 0 0 [.inr (.inr 1), .inl v1] h Q := by
  refine Con.intro rfl (Nat.le_of_ble_eq_true rfl) ?_
  show J mX10_count d 0 0 Q 0 0 0 [some (.inr (.inr 1)), some (.inl v1)] [] h
  refine bX10_count_0  (fun p1 => ?_) (fun p1 => ?_)
  · exact bX10_count_10 hr (K0 p1)
  · refine bX10_count_4  (fun p2 => ?_) (fun p2 => ?_)
    · refine bX10_count_21  (fun p3 => ?_) (fun p3 => ?_)
      · refine bX10_count_46  (fun p4 => ?_) (fun p4 => ?_)
        · refine bX10_count_56  (fun p5 => ?_) (fun p5 => ?_)
          · refine bX10_count_75  ?_
            exact bX10_count_76  (K1 p1 p2 p3 p4 p5)
          · exact bX10_count_62 hr hd1' (K2 p1 p2 p3 p4 p5)
        · exact bX10_count_51 hr (K3 p1 p2 p3 p4)
      · refine bX10_count_26  (fun p6 => ?_) (fun p6 => ?_)
        · refine bX10_count_46  (fun p7 => ?_) (fun p7 => ?_)
          · refine bX10_count_56  (fun p8 => ?_) (fun p8 => ?_)
            · refine bX10_count_75  ?_
              exact bX10_count_76  (K4 p1 p2 p3 p6 p7 p8)
            · exact bX10_count_62 hr hd2' (K5 p1 p2 p3 p6 p7 p8)
          · exact bX10_count_51 hr (K6 p1 p2 p3 p6 p7)
        · exact bX10_count_31 hr (G0 p1 p2 p3 p6) (K7 p1 p2 p3 p6)
    · exact bX10_count_10 hr (K8 p1 p2)

set_option maxRecDepth 20000 in
theorem t_X10_count_72 {d  : Nat} {Q : Option MV → MH → Prop} {h : MH} {v1 vs0 : Int32} (K0 : Q (some (.inl vs0)) h) : J mX10_count d 0 0 Q 0 0 72 [some (.inr (.inr 1)), some (.inl v1)] [.inl vs0] h := by
  refine bX10_count_72  ?_
  exact bX10_count_76  (K0)
