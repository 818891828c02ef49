set_option maxRecDepth 20000 in
theorem t_X8_lay {d  : Nat} {Q : Option MV → MH → Prop} {h : MH} {v1 : Nat} (hr : zRf h) (G0 : zokO h v1 2) (K0 : J mX8_lay d 0 0 Q 0 0 10 [some (.inr (.inr 48)), some (.inr (.inr v1)), some (.inl (nI 0))] [] (zsI h 48 0 (h.1 v1 0))) : Con mX8_lay d 0 0 [.inr (.inr 48), .inr (.inr v1)] h Q := by
  refine Con.intro rfl (Nat.le_of_ble_eq_true rfl) ?_
  show J mX8_lay d 0 0 Q 0 0 0 [some (.inr (.inr 48)), some (.inr (.inr v1)), none] [] h
  refine bX8_lay_0 hr (G0) ?_
  exact K0

set_option maxRecDepth 20000 in
theorem t_X8_lay_10 {d d1' : Nat} {Q : Option MV → MH → Prop} {h : MH} {v2 : Int32} {v1 : Nat} (hr : zRf h) (hd1' : d1' + 1 ≤ d) (G0 : ¬ (h.1 48 0) ≤ v2 → zokO h v1 2) (K0 : (h.1 48 0) ≤ v2 → Q none h) (K1 : ¬ (h.1 48 0) ≤ v2 → Con mX2_sparksOf d1' 0 0 [.inr (.inr v1), .inl v2] h (zri fun (x : Int32) h' => J mX8_lay d 0 0 Q 0 0 28 [some (.inr (.inr 48)), some (.inr (.inr v1)), some (.inl v2)] [.inl x, .inl v2, .inr (.inr 49)] h')) : J mX8_lay d 0 0 Q 0 0 10 [some (.inr (.inr 48)), some (.inr (.inr v1)), some (.inl v2)] [] h := by
  refine bX8_lay_10 hr (fun p1 => ?_) (fun p1 => ?_)
  · exact bX8_lay_39  (K0 p1)
  · exact bX8_lay_18 hr (G0 p1) hd1' (K1 p1)

set_option maxRecDepth 20000 in
theorem t_X8_lay_28 {d  : Nat} {Q : Option MV → MH → Prop} {h : MH} {v2 vs1 vs2 : Int32} {v1 vs0 : Nat} (G0 : zokA h vs0 20 vs1) (K0 : J mX8_lay d 0 0 Q 0 0 10 [some (.inr (.inr 48)), some (.inr (.inr v1)), some (.inl (v2 + nI 1))] [] (zsI h vs0 vs1.toNatClampNeg (vs2 * (nI 256)))) : J mX8_lay d 0 0 Q 0 0 28 [some (.inr (.inr 48)), some (.inr (.inr v1)), some (.inl v2)] [.inl vs2, .inl vs1, .inr (.inr vs0)] h := by
  refine bX8_lay_28 (G0) ?_
  exact K0

set_option maxRecDepth 20000 in
theorem t_X8_play {d d1' : Nat} {Q : Option MV → MH → Prop} {h : MH} {v2 v3 : Int32} {v1 : Nat} (hr : zRf h) (hd1' : d1' + 1 ≤ d) (K0 : Con mX8_begin d1' 0 0 [.inr (.inr 48), .inr (.inr v1), .inl v2] h (zrv fun h' => J mX8_play d 0 0 Q 0 0 6 [some (.inr (.inr 48)), some (.inr (.inr v1)), some (.inl v2), some (.inl v3), none, none, none, none] [] h')) : Con mX8_play d 0 0 [.inr (.inr 48), .inr (.inr v1), .inl v2, .inl v3] h Q := by
  refine Con.intro rfl (Nat.le_of_ble_eq_true rfl) ?_
  show J mX8_play d 0 0 Q 0 0 0 [some (.inr (.inr 48)), some (.inr (.inr v1)), some (.inl v2), some (.inl v3), none, none, none, none] [] h
  exact bX8_play_0 hr hd1' (K0)

set_option maxRecDepth 20000 in
theorem t_X8_play_6 {d d1' : Nat} {Q : Option MV → MH → Prop} {h : MH} {v2 v3 : Int32} {v1 : Nat} (hr : zRf h) (hd1' : d1' + 1 ≤ d) (K0 : Con mX8_doRules d1' 0 0 [.inr (.inr 48), .inl (-(nI 1))] h (zrv fun h' => J mX8_play d 0 0 Q 0 0 11 [some (.inr (.inr 48)), some (.inr (.inr v1)), some (.inl v2), some (.inl v3), none, none, none, none] [] h')) : J mX8_play d 0 0 Q 0 0 6 [some (.inr (.inr 48)), some (.inr (.inr v1)), some (.inl v2), some (.inl v3), none, none, none, none] [] h := by
  exact bX8_play_6 hr hd1' (K0)

set_option maxRecDepth 20000 in
theorem t_X8_play_11 {d  : Nat} {Q : Option MV → MH → Prop} {h : MH} {v2 v3 : Int32} {v1 : Nat} (K0 : J mX8_play d 0 0 Q 0 0 14 [some (.inr (.inr 48)), some (.inr (.inr v1)), some (.inl v2), some (.inl v3), some (.inl (nI 0)), none, none, none] [] h) : J mX8_play d 0 0 Q 0 0 11 [some (.inr (.inr 48)), some (.inr (.inr v1)), some (.inl v2), some (.inl v3), none, none, none, none] [] h := by
  refine bX8_play_11  ?_
  exact K0

set_option maxRecDepth 20000 in
theorem t_X8_play_14 {d d1' : Nat} {Q : Option MV → MH → Prop} {h : MH} {u5 u6 u7 : Option MV} {v2 v3 v4 : Int32} {v1 : Nat} (hr : zRf h) (hd1' : d1' + 1 ≤ d) (K0 : (nI 8) ≤ v4 → Q none h) (K1 : ¬ (nI 8) ≤ v4 → Con mX8_untilNextEnd d1' 0 0 [.inr (.inr 48)] h (zri fun (x : Int32) h' => J mX8_play d 0 0 Q 0 0 25 [some (.inr (.inr 48)), some (.inr (.inr v1)), some (.inl v2), some (.inl v3), some (.inl v4), u5, u6, u7] [.inl x] h')) : J mX8_play d 0 0 Q 0 0 14 [some (.inr (.inr 48)), some (.inr (.inr v1)), some (.inl v2), some (.inl v3), some (.inl v4), u5, u6, u7] [] h := by
  refine bX8_play_14  (fun p1 => ?_) (fun p1 => ?_)
  · exact bX8_play_108  (K0 p1)
  · exact bX8_play_21 hr hd1' (K1 p1)

set_option maxRecDepth 20000 in
theorem t_X8_play_25 {d d1' d2' : Nat} {Q : Option MV → MH → Prop} {h : MH} {u5 u6 u7 : Option MV} {v2 v3 v4 vs0 : Int32} {v1 : Nat} (hr : zRf h) (hd1' : d1' + 1 ≤ d) (hd2' : d2' + 1 ≤ d) (K0 : ¬ vs0 = (-(nI 1)) → ((h.1 48 13) + vs0) ≤ v3 → Con mX8_burn d1' 0 0 [.inr (.inr 48), .inl vs0] h (zrv fun h' => J mX8_play d 0 0 Q 0 0 62 [some (.inr (.inr 48)), some (.inr (.inr v1)), some (.inl v2), some (.inl v3), some (.inl v4), some (.inl vs0), u6, u7] [] h')) (K1 : ¬ vs0 = (-(nI 1)) → ¬ ((h.1 48 13) + vs0) ≤ v3 → Con mX8_burn d2' 0 0 [.inr (.inr 48), .inl (v3 - (h.1 48 13))] h (zrv fun h' => J mX8_play d 0 0 Q 0 0 55 [some (.inr (.inr 48)), some (.inr (.inr v1)), some (.inl v2), some (.inl v3), some (.inl v4), some (.inl vs0), u6, u7] [] h')) (K2 : vs0 = (-(nI 1)) → Q none h) : J mX8_play d 0 0 Q 0 0 25 [some (.inr (.inr 48)), some (.inr (.inr v1)), some (.inl v2), some (.inl v3), some (.inl v4), u5, u6, u7] [.inl vs0] h := by
  refine bX8_play_25  (fun p1 => ?_) (fun p1 => ?_)
  · refine bX8_play_34 hr (fun p2 => ?_) (fun p2 => ?_)
    · exact bX8_play_56 hr hd1' (K0 p1 p2)
    · exact bX8_play_45 hr hd2' (K1 p1 p2)
  · exact bX8_play_33  (K2 p1)

set_option maxRecDepth 20000 in
theorem t_X8_play_55 {d  : Nat} {Q : Option MV → MH → Prop} {h : MH} {u6 u7 : Option MV} {v2 v3 v4 v5 : Int32} {v1 : Nat} (K0 : Q none h) : J mX8_play d 0 0 Q 0 0 55 [some (.inr (.inr 48)), some (.inr (.inr v1)), some (.inl v2), some (.inl v3), some (.inl v4), some (.inl v5), u6, u7] [] h := by
  exact bX8_play_55  (K0)

set_option maxRecDepth 20000 in
theorem t_X8_play_62 {d d1' : Nat} {Q : Option MV → MH → Prop} {h : MH} {u6 u7 : Option MV} {v2 v3 v4 v5 : Int32} {v1 : Nat} (hr : zRf h) (hd1' : d1' + 1 ≤ d) (K0 : Con mX8_putAwayEnded d1' 0 0 [.inr (.inr 48)] h (zri fun (x : Int32) h' => J mX8_play d 0 0 Q 0 0 66 [some (.inr (.inr 48)), some (.inr (.inr v1)), some (.inl v2), some (.inl v3), some (.inl v4), some (.inl v5), u6, u7] [.inl x] h')) : J mX8_play d 0 0 Q 0 0 62 [some (.inr (.inr 48)), some (.inr (.inr v1)), some (.inl v2), some (.inl v3), some (.inl v4), some (.inl v5), u6, u7] [] h := by
  exact bX8_play_62 hr hd1' (K0)

set_option maxRecDepth 20000 in
theorem t_X8_play_66 {d  : Nat} {Q : Option MV → MH → Prop} {h : MH} {u6 u7 : Option MV} {v2 v3 v4 v5 vs0 : Int32} {v1 : Nat} (K0 : J mX8_play d 0 0 Q 0 0 71 [some (.inr (.inr 48)), some (.inr (.inr v1)), some (.inl v2), some (.inl v3), some (.inl v4), some (.inl v5), some (.inl vs0), some (.inl (nI 0))] [] h) : J mX8_play d 0 0 Q 0 0 66 [some (.inr (.inr 48)), some (.inr (.inr v1)), some (.inl v2), some (.inl v3), some (.inl v4), some (.inl v5), u6, u7] [.inl vs0] h := by
  refine bX8_play_66  ?_
  exact K0

set_option maxRecDepth 20000 in
theorem t_X8_play_71 {d d1' : Nat} {Q : Option MV → MH → Prop} {h : MH} {v2 v3 v4 v5 v6 v7 : Int32} {v1 : Nat} (hr : zRf h) (hd1' : d1' + 1 ≤ d) (K0 : (h.1 48 0) ≤ v7 → J mX8_play d 0 0 Q 0 0 14 [some (.inr (.inr 48)), some (.inr (.inr v1)), some (.inl v2), some (.inl v3), some (.inl (v4 + nI 1)), some (.inl v5), some (.inl v6), some (.inl v7)] [] h) (K1 : ¬ (h.1 48 0) ≤ v7 → ((v6 >>> (v7 &&& 31)) &&& (nI 1)) = 0 → J mX8_play d 0 0 Q 0 0 71 [some (.inr (.inr 48)), some (.inr (.inr v1)), some (.inl v2), some (.inl v3), some (.inl v4), some (.inl v5), some (.inl v6), some (.inl (v7 + nI 1))] [] h) (K2 : ¬ (h.1 48 0) ≤ v7 → ¬ ((v6 >>> (v7 &&& 31)) &&& (nI 1)) = 0 → Con mX8_doRules d1' 0 0 [.inr (.inr 48), .inl v7] h (zrv fun h' => J mX8_play d 0 0 Q 0 0 96 [some (.inr (.inr 48)), some (.inr (.inr v1)), some (.inl v2), some (.inl v3), some (.inl v4), some (.inl v5), some (.inl v6), some (.inl v7)] [] h')) : J mX8_play d 0 0 Q 0 0 71 [some (.inr (.inr 48)), some (.inr (.inr v1)), some (.inl v2), some (.inl v3), some (.inl v4), some (.inl v5), some (.inl v6), some (.inl v7)] [] h := by
  refine bX8_play_71 hr (fun p1 => ?_) (fun p1 => ?_)
  · refine bX8_play_102  ?_
    exact K0 p1
  · refine bX8_play_80  (fun p2 => ?_) (fun p2 => ?_)
    · refine bX8_play_96  ?_
      exact K1 p1 p2
    · exact bX8_play_90 hr hd1' (K2 p1 p2)

set_option maxRecDepth 20000 in
theorem t_X8_play_96 {d  : Nat} {Q : Option MV → MH → Prop} {h : MH} {v2 v3 v4 v5 v6 v7 : Int32} {v1 : Nat} (K0 : J mX8_play d 0 0 Q 0 0 71 [some (.inr (.inr 48)), some (.inr (.inr v1)), some (.inl v2), some (.inl v3), some (.inl v4), some (.inl v5), some (.inl v6), some (.inl (v7 + nI 1))] [] h) : J mX8_play d 0 0 Q 0 0 96 [some (.inr (.inr 48)), some (.inr (.inr v1)), some (.inl v2), some (.inl v3), some (.inl v4), some (.inl v5), some (.inl v6), some (.inl v7)] [] h := by
  refine bX8_play_96  ?_
  exact K0

set_option maxRecDepth 20000 in
theorem t_X8_bellNear {d  : Nat} {Q : Option MV → MH → Prop} {h : MH} {v1 v4 : Int32} {v2 : Int64} (hd : 1 ≤ d) (K0 : J mX8_bellNear d 0 0 Q 0 0 7 [some (.inr (.inr 48)), some (.inl v1), some (.inr (.inl v2)), none, some (.inl v4), some (.inl (if (nI 0) < v1 then v1 else (nI 0))), none, none] [] h) : Con mX8_bellNear d 0 0 [.inr (.inr 48), .inl v1, .inr (.inl v2), .inl v4] h Q := by
  refine Con.intro rfl (Nat.le_of_ble_eq_true rfl) ?_
  show J mX8_bellNear d 0 0 Q 0 0 0 [some (.inr (.inr 48)), some (.inl v1), some (.inr (.inl v2)), none, some (.inl v4), none, none, none] [] h
  refine bX8_bellNear_0  (by omega) ?_
  refine bX8_bellNear_5  ?_
  exact K0

set_option maxRecDepth 20000 in
theorem t_X8_bellNear_7 {d  : Nat} {Q : Option MV → MH → Prop} {h : MH} {u6 : Option MV} {v1 v4 v5 : Int32} {v2 : Int64} (hr : zRf h) (G0 : ¬ (h.1 48 9) ≤ v5 → vp_in v5 40) (K0 : (h.1 48 9) ≤ v5 → Q (some (.inl (-(nI 1)))) h) (K1 : ¬ (h.1 48 9) ≤ v5 → (lg_cmp v2 ((((h.1 56 v5.toNatClampNeg) / (nI 256)).toInt64) - v4.toInt64)) < 0 → J mX8_bellNear d 0 0 Q 0 0 7 [some (.inr (.inr 48)), some (.inl v1), some (.inr (.inl v2)), none, some (.inl v4), some (.inl (v5 + nI 1)), some (.inr (.inl (((h.1 56 v5.toNatClampNeg) / (nI 256)).toInt64))), none] [] h) (K2 : ¬ (h.1 48 9) ≤ v5 → ¬ (lg_cmp v2 ((((h.1 56 v5.toNatClampNeg) / (nI 256)).toInt64) - v4.toInt64)) < 0 → 0 < (lg_cmp v2 ((((h.1 56 v5.toNatClampNeg) / (nI 256)).toInt64) + v4.toInt64)) → J mX8_bellNear d 0 0 Q 0 0 7 [some (.inr (.inr 48)), some (.inl v1), some (.inr (.inl v2)), none, some (.inl v4), some (.inl (v5 + nI 1)), some (.inr (.inl (((h.1 56 v5.toNatClampNeg) / (nI 256)).toInt64))), none] [] h) (K3 : ¬ (h.1 48 9) ≤ v5 → ¬ (lg_cmp v2 ((((h.1 56 v5.toNatClampNeg) / (nI 256)).toInt64) - v4.toInt64)) < 0 → ¬ 0 < (lg_cmp v2 ((((h.1 56 v5.toNatClampNeg) / (nI 256)).toInt64) + v4.toInt64)) → Q (some (.inl v5)) h) : J mX8_bellNear d 0 0 Q 0 0 7 [some (.inr (.inr 48)), some (.inl v1), some (.inr (.inl v2)), none, some (.inl v4), some (.inl v5), u6, none] [] h := by
  refine bX8_bellNear_7 hr (fun p1 => ?_) (fun p1 => ?_)
  · exact bX8_bellNear_61  (K0 p1)
  · refine bX8_bellNear_16 hr (G0 p1) (fun p2 => ?_) (fun p2 => ?_)
    · refine bX8_bellNear_55  ?_
      exact K1 p1 p2
    · refine bX8_bellNear_41  (fun p3 => ?_) (fun p3 => ?_)
      · refine bX8_bellNear_55  ?_
        exact K2 p1 p2 p3
      · exact bX8_bellNear_52  (K3 p1 p2 p3)

set_option maxRecDepth 20000 in
theorem t_X8_begin {d  : Nat} {Q : Option MV → MH → Prop} {h : MH} {v2 : Int32} {v1 : Nat} (hr : zRf h) (K0 : J mX8_begin d 0 0 Q 0 0 37 [some (.inr (.inr 48)), some (.inr (.inr v1)), some (.inl v2), some (.inl (nI 0))] [] (zsI (zsI (zsI (zsL (zsI (zsI (zsR h 48 14 v1) 48 15 v2) 48 9 (nI 0)) 48 10 (lN 0)) 48 11 (nI 0)) 48 12 (nI 0)) 48 13 (nI 0))) : Con mX8_begin d 0 0 [.inr (.inr 48), .inr (.inr v1), .inl v2] h Q := by
  refine Con.intro rfl (Nat.le_of_ble_eq_true rfl) ?_
  show J mX8_begin d 0 0 Q 0 0 0 [some (.inr (.inr 48)), some (.inr (.inr v1)), some (.inl v2), none] [] h
  refine bX8_begin_0 hr ?_
  exact K0

set_option maxRecDepth 20000 in
theorem t_X8_begin_37 {d  : Nat} {Q : Option MV → MH → Prop} {h : MH} {v2 v3 : Int32} {v1 : Nat} (hr : zRf h) (G0 : ¬ (h.1 48 0) ≤ v3 → vp_in v3 8) (K0 : (h.1 48 0) ≤ v3 → Q none h) (K1 : ¬ (h.1 48 0) ≤ v3 → J mX8_begin d 0 0 Q 0 0 37 [some (.inr (.inr 48)), some (.inr (.inr v1)), some (.inl v2), some (.inl (v3 + nI 1))] [] (zsI (zsI (zsI (zsI (zsI (zsI h 50 v3.toNatClampNeg (h.1 49 v3.toNatClampNeg)) 51 v3.toNatClampNeg (nI 0)) 52 v3.toNatClampNeg ((zsI (zsI h 50 v3.toNatClampNeg (h.1 49 v3.toNatClampNeg)) 51 v3.toNatClampNeg (nI 0)).1 49 v3.toNatClampNeg)) 53 v3.toNatClampNeg (-(nI 1))) 54 v3.toNatClampNeg v3) 55 v3.toNatClampNeg (-(nI 1)))) : J mX8_begin d 0 0 Q 0 0 37 [some (.inr (.inr 48)), some (.inr (.inr v1)), some (.inl v2), some (.inl v3)] [] h := by
  refine bX8_begin_37 hr (fun p1 => ?_) (fun p1 => ?_)
  · exact bX8_begin_103  (K0 p1)
  · refine bX8_begin_45 hr (G0 p1) ?_
    exact K1 p1

set_option maxRecDepth 20000 in
theorem t_X8_untilNextEnd {d  : Nat} {Q : Option MV → MH → Prop} {h : MH} (K0 : J mX8_untilNextEnd d 0 0 Q 0 0 4 [some (.inr (.inr 48)), some (.inl (-(nI 1))), some (.inl (nI 0)), none] [] h) : Con mX8_untilNextEnd d 0 0 [.inr (.inr 48)] h Q := by
  refine Con.intro rfl (Nat.le_of_ble_eq_true rfl) ?_
  show J mX8_untilNextEnd d 0 0 Q 0 0 0 [some (.inr (.inr 48)), none, none, none] [] h
  refine bX8_untilNextEnd_0  ?_
  exact K0

set_option maxRecDepth 20000 in
theorem t_X8_untilNextEnd_4 {d  : Nat} {Q : Option MV → MH → Prop} {h : MH} {u3 : Option MV} {v1 v2 : Int32} (hr : zRf h) (hd : 1 ≤ d) (G0 : ¬ (h.1 48 0) ≤ v2 → vp_in v2 8) (G1 : ¬ (h.1 48 0) ≤ v2 → ¬ (h.1 51 v2.toNatClampNeg) ≤ 0 → ¬ (h.1 51 v2.toNatClampNeg) = 0) (K0 : (h.1 48 0) ≤ v2 → Q (some (.inl v1)) h) (K1 : ¬ (h.1 48 0) ≤ v2 → (h.1 51 v2.toNatClampNeg) ≤ 0 → J mX8_untilNextEnd d 0 0 Q 0 0 4 [some (.inr (.inr 48)), some (.inl v1), some (.inl (v2 + nI 1)), u3] [] h) (K2 : ¬ (h.1 48 0) ≤ v2 → ¬ (h.1 51 v2.toNatClampNeg) ≤ 0 → ¬ v1 = (-(nI 1)) → J mX8_untilNextEnd d 0 0 Q 0 0 4 [some (.inr (.inr 48)), some (.inl (if ((h.1 50 v2.toNatClampNeg) / (h.1 51 v2.toNatClampNeg)) < v1 then ((h.1 50 v2.toNatClampNeg) / (h.1 51 v2.toNatClampNeg)) else v1)), some (.inl (v2 + nI 1)), some (.inl ((h.1 50 v2.toNatClampNeg) / (h.1 51 v2.toNatClampNeg)))] [] h) (K3 : ¬ (h.1 48 0) ≤ v2 → ¬ (h.1 51 v2.toNatClampNeg) ≤ 0 → v1 = (-(nI 1)) → J mX8_untilNextEnd d 0 0 Q 0 0 4 [some (.inr (.inr 48)), some (.inl ((h.1 50 v2.toNatClampNeg) / (h.1 51 v2.toNatClampNeg))), some (.inl (v2 + nI 1)), some (.inl ((h.1 50 v2.toNatClampNeg) / (h.1 51 v2.toNatClampNeg)))] [] h) : J mX8_untilNextEnd d 0 0 Q 0 0 4 [some (.inr (.inr 48)), some (.inl v1), some (.inl v2), u3] [] h := by
  refine bX8_untilNextEnd_4 hr (fun p1 => ?_) (fun p1 => ?_)
  · exact bX8_untilNextEnd_56  (K0 p1)
  · refine bX8_untilNextEnd_12 hr (G0 p1) (fun p2 => ?_) (fun p2 => ?_)
    · refine bX8_untilNextEnd_50  ?_
      exact K1 p1 p2
    · refine bX8_untilNextEnd_21 hr (G0 p1) (G1 p1 p2) (fun p3 => ?_) (fun p3 => ?_)
      · refine bX8_untilNextEnd_44  (by omega) ?_
        refine bX8_untilNextEnd_49  ?_
        refine bX8_untilNextEnd_50  ?_
        exact K2 p1 p2 p3
      · refine bX8_untilNextEnd_40  ?_
        refine bX8_untilNextEnd_49  ?_
        refine bX8_untilNextEnd_50  ?_
        exact K3 p1 p2 p3

set_option maxRecDepth 20000 in
theorem t_X8_burn {d  : Nat} {Q : Option MV → MH → Prop} {h : MH} {v1 : Int32} (hr : zRf h) (K0 : J mX8_burn d 0 0 Q 0 0 12 [some (.inr (.inr 48)), some (.inl v1), some (.inl (nI 0))] [] (zsI h 48 13 ((h.1 48 13) + v1))) : Con mX8_burn d 0 0 [.inr (.inr 48), .inl v1] h Q := by
  refine Con.intro rfl (Nat.le_of_ble_eq_true rfl) ?_
  show J mX8_burn d 0 0 Q 0 0 0 [some (.inr (.inr 48)), some (.inl v1), none] [] h
  refine bX8_burn_0 hr ?_
  exact K0

set_option maxRecDepth 20000 in
theorem t_X8_burn_12 {d d1' : Nat} {Q : Option MV → MH → Prop} {h : MH} {v1 v2 : Int32} (hr : zRf h) (hd1' : d1' + 1 ≤ d) (G0 : ¬ (h.1 48 0) ≤ v2 → vp_in v2 8) (K0 : (h.1 48 0) ≤ v2 → Q none h) (K1 : ¬ (h.1 48 0) ≤ v2 → (h.1 51 v2.toNatClampNeg) ≤ 0 → J mX8_burn d 0 0 Q 0 0 12 [some (.inr (.inr 48)), some (.inl v1), some (.inl (v2 + nI 1))] [] h) (K2 : ¬ (h.1 48 0) ≤ v2 → ¬ (h.1 51 v2.toNatClampNeg) ≤ 0 → Con mX8_burnOwn d1' 0 0 [.inr (.inr 48), .inl v2, .inl (v1 * ((zsI h 50 v2.toNatClampNeg ((h.1 50 v2.toNatClampNeg) - (v1 * (h.1 51 v2.toNatClampNeg)))).1 51 v2.toNatClampNeg))] (zsI h 50 v2.toNatClampNeg ((h.1 50 v2.toNatClampNeg) - (v1 * (h.1 51 v2.toNatClampNeg)))) (zrv fun h' => J mX8_burn d 0 0 Q 0 0 59 [some (.inr (.inr 48)), some (.inl v1), some (.inl v2)] [] h')) : J mX8_burn d 0 0 Q 0 0 12 [some (.inr (.inr 48)), some (.inl v1), some (.inl v2)] [] h := by
  refine bX8_burn_12 hr (fun p1 => ?_) (fun p1 => ?_)
  · exact bX8_burn_65  (K0 p1)
  · refine bX8_burn_20 hr (G0 p1) (fun p2 => ?_) (fun p2 => ?_)
    · refine bX8_burn_59  ?_
      exact K1 p1 p2
    · exact bX8_burn_29 hr (G0 p1) hd1' (K2 p1 p2)

set_option maxRecDepth 20000 in
theorem t_X8_burn_59 {d  : Nat} {Q : Option MV → MH → Prop} {h : MH} {v1 v2 : Int32} (K0 : J mX8_burn d 0 0 Q 0 0 12 [some (.inr (.inr 48)), some (.inl v1), some (.inl (v2 + nI 1))] [] h) : J mX8_burn d 0 0 Q 0 0 59 [some (.inr (.inr 48)), some (.inl v1), some (.inl v2)] [] h := by
  refine bX8_burn_59  ?_
  exact K0

set_option maxRecDepth 20000 in
theorem t_X8_burnOwn {d  : Nat} {Q : Option MV → MH → Prop} {h : MH} {v1 v2 : Int32} (K0 : J mX8_burnOwn d 0 0 Q 0 0 8 [some (.inr (.inr 48)), some (.inl v1), some (.inl v2), some (.inl v2), some (.inl v1), some (.inl (nI 0)), none] [] h) : Con mX8_burnOwn d 0 0 [.inr (.inr 48), .inl v1, .inl v2] h Q := by
  refine Con.intro rfl (Nat.le_of_ble_eq_true rfl) ?_
  show J mX8_burnOwn d 0 0 Q 0 0 0 [some (.inr (.inr 48)), some (.inl v1), some (.inl v2), none, none, none, none] [] h
  refine bX8_burnOwn_0  ?_
  exact K0

set_option maxRecDepth 20000 in
theorem t_X8_burnOwn_8 {d  : Nat} {Q : Option MV → MH → Prop} {h : MH} {u6 : Option MV} {v1 v2 v3 v4 v5 : Int32} (hr : zRf h) (hd : 1 ≤ d) (G0 : ¬ (nI 8) ≤ v5 → ¬ v4 = (-(nI 1)) → ¬ v3 ≤ 0 → vp_in v4 8) (K0 : (nI 8) ≤ v5 → Q none h) (K1 : ¬ (nI 8) ≤ v5 → v4 = (-(nI 1)) → Q none h) (K2 : ¬ (nI 8) ≤ v5 → ¬ v4 = (-(nI 1)) → v3 ≤ 0 → Q none h) (K3 : ¬ (nI 8) ≤ v5 → ¬ v4 = (-(nI 1)) → ¬ v3 ≤ 0 → J mX8_burnOwn d 0 0 Q 0 0 8 [some (.inr (.inr 48)), some (.inl v1), some (.inl v2), some (.inl (v3 - (if v3 < (h.1 52 v4.toNatClampNeg) then v3 else (h.1 52 v4.toNatClampNeg)))), some (.inl ((zsI h 52 v4.toNatClampNeg ((h.1 52 v4.toNatClampNeg) - (if v3 < (h.1 52 v4.toNatClampNeg) then v3 else (h.1 52 v4.toNatClampNeg)))).1 53 v4.toNatClampNeg)), some (.inl (v5 + nI 1)), some (.inl (if v3 < (h.1 52 v4.toNatClampNeg) then v3 else (h.1 52 v4.toNatClampNeg)))] [] (zsI h 52 v4.toNatClampNeg ((h.1 52 v4.toNatClampNeg) - (if v3 < (h.1 52 v4.toNatClampNeg) then v3 else (h.1 52 v4.toNatClampNeg))))) : J mX8_burnOwn d 0 0 Q 0 0 8 [some (.inr (.inr 48)), some (.inl v1), some (.inl v2), some (.inl v3), some (.inl v4), some (.inl v5), u6] [] h := by
  refine bX8_burnOwn_8  (fun p1 => ?_) (fun p1 => ?_)
  · exact bX8_burnOwn_70  (K0 p1)
  · refine bX8_burnOwn_15  (fun p2 => ?_) (fun p2 => ?_)
    · exact bX8_burnOwn_70  (K1 p1 p2)
    · refine bX8_burnOwn_21  (fun p3 => ?_) (fun p3 => ?_)
      · exact bX8_burnOwn_70  (K2 p1 p2 p3)
      · refine bX8_burnOwn_25 hr (G0 p1 p2 p3) (by omega) ?_
        refine bX8_burnOwn_36 hr (G0 p1 p2 p3) ?_
        exact K3 p1 p2 p3

set_option maxRecDepth 20000 in
theorem t_X8_putAwayEnded {d  : Nat} {Q : Option MV → MH → Prop} {h : MH} (K0 : J mX8_putAwayEnded d 0 0 Q 0 0 4 [some (.inr (.inr 48)), some (.inl (nI 0)), some (.inl (nI 0))] [] h) : Con mX8_putAwayEnded d 0 0 [.inr (.inr 48)] h Q := by
  refine Con.intro rfl (Nat.le_of_ble_eq_true rfl) ?_
  show J mX8_putAwayEnded d 0 0 Q 0 0 0 [some (.inr (.inr 48)), none, none] [] h
  refine bX8_putAwayEnded_0  ?_
  exact K0

set_option maxRecDepth 20000 in
theorem t_X8_putAwayEnded_4 {d  : Nat} {Q : Option MV → MH → Prop} {h : MH} {v1 v2 : Int32} (hr : zRf h) (G0 : ¬ (h.1 48 0) ≤ v2 → vp_in v2 8) (K0 : (h.1 48 0) ≤ v2 → Q (some (.inl v1)) h) (K1 : ¬ (h.1 48 0) ≤ v2 → (h.1 51 v2.toNatClampNeg) ≤ 0 → J mX8_putAwayEnded d 0 0 Q 0 0 4 [some (.inr (.inr 48)), some (.inl v1), some (.inl (v2 + nI 1))] [] h) (K2 : ¬ (h.1 48 0) ≤ v2 → ¬ (h.1 51 v2.toNatClampNeg) ≤ 0 → 0 < (h.1 50 v2.toNatClampNeg) → J mX8_putAwayEnded d 0 0 Q 0 0 4 [some (.inr (.inr 48)), some (.inl v1), some (.inl (v2 + nI 1))] [] h) (K3 : ¬ (h.1 48 0) ≤ v2 → ¬ (h.1 51 v2.toNatClampNeg) ≤ 0 → ¬ 0 < (h.1 50 v2.toNatClampNeg) → J mX8_putAwayEnded d 0 0 Q 0 0 4 [some (.inr (.inr 48)), some (.inl (v1 ||| ((nI 1) <<< (v2 &&& 31)))), some (.inl (v2 + nI 1))] [] (zsI (zsI h 51 v2.toNatClampNeg (nI 0)) 55 v2.toNatClampNeg ((zsI h 51 v2.toNatClampNeg (nI 0)).1 48 13))) : J mX8_putAwayEnded d 0 0 Q 0 0 4 [some (.inr (.inr 48)), some (.inl v1), some (.inl v2)] [] h := by
  refine bX8_putAwayEnded_4 hr (fun p1 => ?_) (fun p1 => ?_)
  · exact bX8_putAwayEnded_59  (K0 p1)
  · refine bX8_putAwayEnded_12 hr (G0 p1) (fun p2 => ?_) (fun p2 => ?_)
    · refine bX8_putAwayEnded_53  ?_
      exact K1 p1 p2
    · refine bX8_putAwayEnded_21 hr (G0 p1) (fun p3 => ?_) (fun p3 => ?_)
      · refine bX8_putAwayEnded_53  ?_
        exact K2 p1 p2 p3
      · refine bX8_putAwayEnded_30 hr (G0 p1) ?_
        refine bX8_putAwayEnded_53  ?_
        exact K3 p1 p2 p3

set_option maxRecDepth 20000 in
theorem t_X8_doRules {d  : Nat} {Q : Option MV → MH → Prop} {h : MH} {v1 : Int32} (K0 : J mX8_doRules d 0 0 Q 0 0 2 [some (.inr (.inr 48)), some (.inl v1), some (.inl (nI 0)), none] [] h) : Con mX8_doRules d 0 0 [.inr (.inr 48), .inl v1] h Q := by
  refine Con.intro rfl (Nat.le_of_ble_eq_true rfl) ?_
  show J mX8_doRules d 0 0 Q 0 0 0 [some (.inr (.inr 48)), some (.inl v1), none, none] [] h
  refine bX8_doRules_0  ?_
  exact K0

set_option maxRecDepth 20000 in
theorem t_X8_doRules_2 {d  : Nat} {Q : Option MV → MH → Prop} {h : MH} {u3 : Option MV} {v1 v2 : Int32} (hr : zRf h) (hd : 1 ≤ d) (G0 : zokO h (h.2.2.1 48 14) 5) (G1 : ¬ (h.1 (h.2.2.1 48 14) 0) ≤ v2 → vp_in v2 20) (G2 : ¬ (h.1 (h.2.2.1 48 14) 0) ≤ v2 → (h.1 (h.2.2.1 48 14 + 1) v2.toNatClampNeg) = v1 → ¬ v2 ≤ 0 → ¬ ((zsI h 48 11 ((h.1 48 11) ||| ((nI 1) <<< (v2 &&& 31)))).1 (h.2.2.1 48 14) 0) ≤ v2 → vp_in (v2 - (nI 1)) 20) (K0 : (h.1 (h.2.2.1 48 14) 0) ≤ v2 → Q none h) (K1 : ¬ (h.1 (h.2.2.1 48 14) 0) ≤ v2 → ¬ (h.1 (h.2.2.1 48 14 + 1) v2.toNatClampNeg) = v1 → J mX8_doRules d 0 0 Q 0 0 2 [some (.inr (.inr 48)), some (.inl v1), some (.inl (v2 + nI 1)), u3] [] h) (K2 : ¬ (h.1 (h.2.2.1 48 14) 0) ≤ v2 → (h.1 (h.2.2.1 48 14 + 1) v2.toNatClampNeg) = v1 → v2 ≤ 0 → J mX8_doRules d 0 0 Q 0 0 47 [some (.inr (.inr 48)), some (.inl v1), some (.inl v2), some (.inl (nI 0))] [] (zsI h 48 11 ((h.1 48 11) ||| ((nI 1) <<< (v2 &&& 31))))) (K3 : ¬ (h.1 (h.2.2.1 48 14) 0) ≤ v2 → (h.1 (h.2.2.1 48 14 + 1) v2.toNatClampNeg) = v1 → ¬ v2 ≤ 0 → ((zsI h 48 11 ((h.1 48 11) ||| ((nI 1) <<< (v2 &&& 31)))).1 (h.2.2.1 48 14) 0) ≤ v2 → J mX8_doRules d 0 0 Q 0 0 47 [some (.inr (.inr 48)), some (.inl v1), some (.inl v2), some (.inl (nI 0))] [] (zsI h 48 11 ((h.1 48 11) ||| ((nI 1) <<< (v2 &&& 31))))) (K4 : ¬ (h.1 (h.2.2.1 48 14) 0) ≤ v2 → (h.1 (h.2.2.1 48 14 + 1) v2.toNatClampNeg) = v1 → ¬ v2 ≤ 0 → ¬ ((zsI h 48 11 ((h.1 48 11) ||| ((nI 1) <<< (v2 &&& 31)))).1 (h.2.2.1 48 14) 0) ≤ v2 → J mX8_doRules d 0 0 Q 0 0 47 [some (.inr (.inr 48)), some (.inl v1), some (.inl v2), some (.inl ((zsI h 48 11 ((h.1 48 11) ||| ((nI 1) <<< (v2 &&& 31)))).1 ((h.2.2.1 48 14) + 2) (v2 - (nI 1)).toNatClampNeg))] [] (zsI h 48 11 ((h.1 48 11) ||| ((nI 1) <<< (v2 &&& 31))))) : J mX8_doRules d 0 0 Q 0 0 2 [some (.inr (.inr 48)), some (.inl v1), some (.inl v2), u3] [] h := by
  refine bX8_doRules_2 hr (G0) (fun p1 => ?_) (fun p1 => ?_)
  · exact bX8_doRules_100  (K0 p1)
  · refine bX8_doRules_13 hr (G0) (G1 p1) (fun p2 => ?_) (fun p2 => ?_)
    · refine bX8_doRules_94  ?_
      exact K1 p1 p2
    · refine bX8_doRules_26 (d' := 0) hr (G0) (by omega) ?_
      refine t_X5_actsFrom hr ?_ ?_ ?_ ?_ ?_
      · intro p3; exact (G0)
      · intro p4 p5; exact (G2 p1 p2 p4 p5)
      · intro p6
        refine bX8_doRules_46  ?_
        exact K2 p1 p2 p6
      · intro p7 p8
        refine bX8_doRules_46  ?_
        exact K3 p1 p2 p7 p8
      · intro p9 p10
        refine bX8_doRules_46  ?_
        exact K4 p1 p2 p9 p10

set_option maxRecDepth 20000 in
theorem t_X8_doRules_47 {d d1' : Nat} {Q : Option MV → MH → Prop} {h : MH} {v1 v2 v3 : Int32} (hr : zRf h) (hd1' : d1' + 1 ≤ d) (G0 : zokO h (h.2.2.1 48 14) 5) (G1 : vp_in v2 20) (K0 : (h.1 (h.2.2.1 48 14 + 2) v2.toNatClampNeg) ≤ v3 → J mX8_doRules d 0 0 Q 0 0 2 [some (.inr (.inr 48)), some (.inl v1), some (.inl (v2 + nI 1)), some (.inl v3)] [] h) (K1 : ¬ (h.1 (h.2.2.1 48 14 + 2) v2.toNatClampNeg) ≤ v3 → v3 = (h.1 48 15) → J mX8_doRules d 0 0 Q 0 0 47 [some (.inr (.inr 48)), some (.inl v1), some (.inl v2), some (.inl (v3 + nI 1))] [] h) (K2 : ¬ (h.1 (h.2.2.1 48 14 + 2) v2.toNatClampNeg) ≤ v3 → ¬ v3 = (h.1 48 15) → Con mX8_doAct d1' 0 0 [.inr (.inr 48), .inl v3] h (zri fun (x : Int32) h' => J mX8_doRules d 0 0 Q 0 0 73 [some (.inr (.inr 48)), some (.inl v1), some (.inl v2), some (.inl v3)] [.inl x] h')) : J mX8_doRules d 0 0 Q 0 0 47 [some (.inr (.inr 48)), some (.inl v1), some (.inl v2), some (.inl v3)] [] h := by
  refine bX8_doRules_47 hr (G0) (G1) (fun p1 => ?_) (fun p1 => ?_)
  · refine bX8_doRules_94  ?_
    exact K0 p1
  · refine bX8_doRules_60 hr (fun p2 => ?_) (fun p2 => ?_)
    · refine bX8_doRules_88  ?_
      exact K1 p1 p2
    · exact bX8_doRules_68 hr hd1' (K2 p1 p2)

set_option maxRecDepth 20000 in
theorem t_X8_doRules_73 {d  : Nat} {Q : Option MV → MH → Prop} {h : MH} {v1 v2 v3 vs0 : Int32} (hr : zRf h) (K0 : ¬ vs0 = 0 → J mX8_doRules d 0 0 Q 0 0 47 [some (.inr (.inr 48)), some (.inl v1), some (.inl v2), some (.inl (v3 + nI 1))] [] h) (K1 : vs0 = 0 → J mX8_doRules d 0 0 Q 0 0 47 [some (.inr (.inr 48)), some (.inl v1), some (.inl v2), some (.inl (v3 + nI 1))] [] (zsL h 48 10 ((h.2.1 48 10) ||| ((lN 1) <<< (v3.toInt64 &&& 63))))) : J mX8_doRules d 0 0 Q 0 0 73 [some (.inr (.inr 48)), some (.inl v1), some (.inl v2), some (.inl v3)] [.inl vs0] h := by
  refine bX8_doRules_73  (fun p1 => ?_) (fun p1 => ?_)
  · refine bX8_doRules_88  ?_
    exact K0 p1
  · refine bX8_doRules_76 hr ?_
    refine bX8_doRules_88  ?_
    exact K1 p1

set_option maxRecDepth 20000 in
theorem t_X8_doAct {d  : Nat} {Q : Option MV → MH → Prop} {h : MH} {v1 : Int32} (hr : zRf h) (G0 : zokO h (h.2.2.1 48 14) 5) (G1 : vp_in v1 40) (K0 : J mX8_doAct d 0 0 Q 0 0 19 [some (.inr (.inr 48)), some (.inl v1), some (.inl (h.1 (h.2.2.1 48 14 + 4) v1.toNatClampNeg))] [.inl (h.1 (h.2.2.1 48 14 + 3) v1.toNatClampNeg)] h) : Con mX8_doAct d 0 0 [.inr (.inr 48), .inl v1] h Q := by
  refine Con.intro rfl (Nat.le_of_ble_eq_true rfl) ?_
  show J mX8_doAct d 0 0 Q 0 0 0 [some (.inr (.inr 48)), some (.inl v1), none] [] h
  refine bX8_doAct_0 hr (G0) (G1) ?_
  exact K0

set_option maxRecDepth 20000 in
theorem t_X8_doAct_48 {d d1' : Nat} {Q : Option MV → MH → Prop} {h : MH} {v1 v2 : Int32} (hr : zRf h) (hd : 1 ≤ d) (hd1' : d1' + 1 ≤ d) (G0 : ¬ v2 < 0 → ¬ (h.1 48 0) ≤ v2 → vp_in v2 8) (K0 : v2 < 0 → Q (some (.inl (nI 0))) h) (K1 : ¬ v2 < 0 → (h.1 48 0) ≤ v2 → Q (some (.inl (nI 0))) h) (K2 : ¬ v2 < 0 → ¬ (h.1 48 0) ≤ v2 → (h.1 50 v2.toNatClampNeg) ≤ 0 → Q (some (.inl (nI 0))) h) (K3 : ¬ v2 < 0 → ¬ (h.1 48 0) ≤ v2 → ¬ (h.1 50 v2.toNatClampNeg) ≤ 0 → Con mX8_giveFlames d1' 0 0 [.inr (.inr 48), .inl v2, .inl ((h.1 51 v2.toNatClampNeg) + (nI 1))] h (zri fun (x : Int32) h' => J mX8_doAct d 0 0 Q 0 0 69 [some (.inr (.inr 48)), some (.inl v1), some (.inl v2)] [.inl x] h')) : J mX8_doAct d 0 0 Q 0 0 48 [some (.inr (.inr 48)), some (.inl v1), some (.inl v2)] [] h := by
  refine bX8_doAct_48 (d' := 0) hr (by omega) ?_
  refine t_X8_stands hr ?_ ?_ ?_ ?_ ?_
  · intro p1 p2; exact (G0 p1 p2)
  · intro p3
    refine bX8_doAct_53  (fun _ => ?_) (fun c => absurd c (by decide))
    refine bX8_doAct_76  ?_
    exact bX8_doAct_77 (by decide) (K0 p3)
  · intro p4 p5
    refine bX8_doAct_53  (fun _ => ?_) (fun c => absurd c (by decide))
    refine bX8_doAct_76  ?_
    exact bX8_doAct_77 (by decide) (K1 p4 p5)
  · intro p6 p7 p8
    refine bX8_doAct_53  (fun _ => ?_) (fun c => absurd c (by decide))
    refine bX8_doAct_76  ?_
    exact bX8_doAct_77 (by decide) (K2 p6 p7 p8)
  · intro p9 p10 p11
    refine bX8_doAct_53  (fun c => absurd c (by decide)) (fun _ => ?_)
    exact bX8_doAct_56 hr (G0 p9 p10) hd1' (K3 p9 p10 p11)

set_option maxRecDepth 20000 in
theorem t_X8_doAct_69 {d  : Nat} {Q : Option MV → MH → Prop} {h : MH} {v1 v2 vs0 : Int32} (K0 : vs0 = 0 → Q (some (.inl (nI 0))) h) (K1 : ¬ vs0 = 0 → Q (some (.inl (nI 1))) h) : J mX8_doAct d 0 0 Q 0 0 69 [some (.inr (.inr 48)), some (.inl v1), some (.inl v2)] [.inl vs0] h := by
  refine bX8_doAct_69  (fun p1 => ?_) (fun p1 => ?_)
  · refine bX8_doAct_76  ?_
    exact bX8_doAct_77 (by decide) (K0 p1)
  · refine bX8_doAct_72  ?_
    exact bX8_doAct_77 (by decide) (K1 p1)

set_option maxRecDepth 20000 in
theorem t_X8_doAct_78 {d d1' : Nat} {Q : Option MV → MH → Prop} {h : MH} {v1 v2 : Int32} (hr : zRf h) (hd : 1 ≤ d) (hd1' : d1' + 1 ≤ d) (G0 : ¬ v2 < 0 → ¬ (h.1 48 0) ≤ v2 → vp_in v2 8) (K0 : v2 < 0 → Q (some (.inl (nI 0))) h) (K1 : ¬ v2 < 0 → (h.1 48 0) ≤ v2 → Q (some (.inl (nI 0))) h) (K2 : ¬ v2 < 0 → ¬ (h.1 48 0) ≤ v2 → (h.1 50 v2.toNatClampNeg) ≤ 0 → Q (some (.inl (nI 0))) h) (K3 : ¬ v2 < 0 → ¬ (h.1 48 0) ≤ v2 → ¬ (h.1 50 v2.toNatClampNeg) ≤ 0 → (nI 2) ≤ (h.1 51 v2.toNatClampNeg) → Q (some (.inl (nI 0))) h) (K4 : ¬ v2 < 0 → ¬ (h.1 48 0) ≤ v2 → ¬ (h.1 50 v2.toNatClampNeg) ≤ 0 → ¬ (nI 2) ≤ (h.1 51 v2.toNatClampNeg) → Con mX8_giveFlames d1' 0 0 [.inr (.inr 48), .inl v2, .inl (nI 2)] h (zri fun (x : Int32) h' => J mX8_doAct d 0 0 Q 0 0 102 [some (.inr (.inr 48)), some (.inl v1), some (.inl v2)] [.inl x] h')) : J mX8_doAct d 0 0 Q 0 0 78 [some (.inr (.inr 48)), some (.inl v1), some (.inl v2)] [] h := by
  refine bX8_doAct_78 (d' := 0) hr (by omega) ?_
  refine t_X8_stands hr ?_ ?_ ?_ ?_ ?_
  · intro p1 p2; exact (G0 p1 p2)
  · intro p3
    refine bX8_doAct_83  (fun _ => ?_) (fun c => absurd c (by decide))
    refine bX8_doAct_109  ?_
    exact bX8_doAct_110 (by decide) (K0 p3)
  · intro p4 p5
    refine bX8_doAct_83  (fun _ => ?_) (fun c => absurd c (by decide))
    refine bX8_doAct_109  ?_
    exact bX8_doAct_110 (by decide) (K1 p4 p5)
  · intro p6 p7 p8
    refine bX8_doAct_83  (fun _ => ?_) (fun c => absurd c (by decide))
    refine bX8_doAct_109  ?_
    exact bX8_doAct_110 (by decide) (K2 p6 p7 p8)
  · intro p9 p10 p11
    refine bX8_doAct_83  (fun c => absurd c (by decide)) (fun _ => ?_)
    refine bX8_doAct_86 hr (G0 p9 p10) (fun p12 => ?_) (fun p12 => ?_)
    · refine bX8_doAct_109  ?_
      exact bX8_doAct_110 (by decide) (K3 p9 p10 p11 p12)
    · exact bX8_doAct_96 hr hd1' (K4 p9 p10 p11 p12)

set_option maxRecDepth 20000 in
theorem t_X8_doAct_102 {d  : Nat} {Q : Option MV → MH → Prop} {h : MH} {v1 v2 vs0 : Int32} (K0 : vs0 = 0 → Q (some (.inl (nI 0))) h) (K1 : ¬ vs0 = 0 → Q (some (.inl (nI 1))) h) : J mX8_doAct d 0 0 Q 0 0 102 [some (.inr (.inr 48)), some (.inl v1), some (.inl v2)] [.inl vs0] h := by
  refine bX8_doAct_102  (fun p1 => ?_) (fun p1 => ?_)
  · refine bX8_doAct_109  ?_
    exact bX8_doAct_110 (by decide) (K0 p1)
  · refine bX8_doAct_105  ?_
    exact bX8_doAct_110 (by decide) (K1 p1)

set_option maxRecDepth 20000 in
theorem t_X8_doAct_111 {d d1' : Nat} {Q : Option MV → MH → Prop} {h : MH} {v1 v2 : Int32} (hr : zRf h) (hd : 1 ≤ d) (hd1' : d1' + 1 ≤ d) (G0 : ¬ v2 < 0 → ¬ (h.1 48 0) ≤ v2 → vp_in v2 8) (K0 : v2 < 0 → Q (some (.inl (nI 0))) h) (K1 : ¬ v2 < 0 → (h.1 48 0) ≤ v2 → Q (some (.inl (nI 0))) h) (K2 : ¬ v2 < 0 → ¬ (h.1 48 0) ≤ v2 → (h.1 50 v2.toNatClampNeg) ≤ 0 → Q (some (.inl (nI 0))) h) (K3 : ¬ v2 < 0 → ¬ (h.1 48 0) ≤ v2 → ¬ (h.1 50 v2.toNatClampNeg) ≤ 0 → (h.1 51 v2.toNatClampNeg) ≤ 0 → Q (some (.inl (nI 0))) h) (K4 : ¬ v2 < 0 → ¬ (h.1 48 0) ≤ v2 → ¬ (h.1 50 v2.toNatClampNeg) ≤ 0 → ¬ (h.1 51 v2.toNatClampNeg) ≤ 0 → Con mX8_giveFlames d1' 0 0 [.inr (.inr 48), .inl v2, .inl (nI 0)] h (zri fun (x : Int32) h' => J mX8_doAct d 0 0 Q 0 0 134 [some (.inr (.inr 48)), some (.inl v1), some (.inl v2)] [.inl x] h')) : J mX8_doAct d 0 0 Q 0 0 111 [some (.inr (.inr 48)), some (.inl v1), some (.inl v2)] [] h := by
  refine bX8_doAct_111 (d' := 0) hr (by omega) ?_
  refine t_X8_stands hr ?_ ?_ ?_ ?_ ?_
  · intro p1 p2; exact (G0 p1 p2)
  · intro p3
    refine bX8_doAct_116  (fun _ => ?_) (fun c => absurd c (by decide))
    refine bX8_doAct_141  ?_
    exact bX8_doAct_142 (by decide) (K0 p3)
  · intro p4 p5
    refine bX8_doAct_116  (fun _ => ?_) (fun c => absurd c (by decide))
    refine bX8_doAct_141  ?_
    exact bX8_doAct_142 (by decide) (K1 p4 p5)
  · intro p6 p7 p8
    refine bX8_doAct_116  (fun _ => ?_) (fun c => absurd c (by decide))
    refine bX8_doAct_141  ?_
    exact bX8_doAct_142 (by decide) (K2 p6 p7 p8)
  · intro p9 p10 p11
    refine bX8_doAct_116  (fun c => absurd c (by decide)) (fun _ => ?_)
    refine bX8_doAct_119 hr (G0 p9 p10) (fun p12 => ?_) (fun p12 => ?_)
    · refine bX8_doAct_141  ?_
      exact bX8_doAct_142 (by decide) (K3 p9 p10 p11 p12)
    · exact bX8_doAct_128 hr hd1' (K4 p9 p10 p11 p12)

set_option maxRecDepth 20000 in
theorem t_X8_doAct_134 {d  : Nat} {Q : Option MV → MH → Prop} {h : MH} {v1 v2 vs0 : Int32} (K0 : vs0 = 0 → Q (some (.inl (nI 0))) h) (K1 : ¬ vs0 = 0 → Q (some (.inl (nI 1))) h) : J mX8_doAct d 0 0 Q 0 0 134 [some (.inr (.inr 48)), some (.inl v1), some (.inl v2)] [.inl vs0] h := by
  refine bX8_doAct_134  (fun p1 => ?_) (fun p1 => ?_)
  · refine bX8_doAct_141  ?_
    exact bX8_doAct_142 (by decide) (K0 p1)
  · refine bX8_doAct_137  ?_
    exact bX8_doAct_142 (by decide) (K1 p1)

set_option maxRecDepth 20000 in
theorem t_X8_doAct_143 {d d1' : Nat} {Q : Option MV → MH → Prop} {h : MH} {v1 v2 : Int32} (hr : zRf h) (hd1' : d1' + 1 ≤ d) (G0 : zokO h (h.2.2.1 48 14) 5) (G1 : vp_in v1 40) (K0 : Con mX8_join d1' 0 0 [.inr (.inr 48), .inl v2, .inl (h.1 (h.2.2.1 48 14 + 5) v1.toNatClampNeg)] h (zri fun (x : Int32) h' => J mX8_doAct d 0 0 Q 0 0 157 [some (.inr (.inr 48)), some (.inl v1), some (.inl v2)] [.inl x] h')) : J mX8_doAct d 0 0 Q 0 0 143 [some (.inr (.inr 48)), some (.inl v1), some (.inl v2)] [] h := by
  exact bX8_doAct_143 hr (G0) (G1) hd1' (K0)

set_option maxRecDepth 20000 in
theorem t_X8_doAct_157 {d  : Nat} {Q : Option MV → MH → Prop} {h : MH} {v1 v2 vs0 : Int32} (G0 : vs0 = 0 ∨ vs0 = 1) (K0 : Q (some (.inl vs0)) h) : J mX8_doAct d 0 0 Q 0 0 157 [some (.inr (.inr 48)), some (.inl v1), some (.inl v2)] [.inl vs0] h := by
  exact bX8_doAct_157 (G0) (K0)

set_option maxRecDepth 20000 in
theorem t_X8_doAct_158 {d  : Nat} {Q : Option MV → MH → Prop} {h : MH} {v1 v2 : Int32} (hr : zRf h) (hd : 1 ≤ d) (G0 : ¬ (nI 40) ≤ (h.1 48 9) → vp_in (h.1 48 9) 40) (K0 : (nI 40) ≤ (h.1 48 9) → Q (some (.inl (nI 1))) h) (K1 : ¬ (nI 40) ≤ (h.1 48 9) → Q (some (.inl (nI 1))) (zsI (zsI h 56 (h.1 48 9).toNatClampNeg (h.1 48 13)) 48 9 (((zsI h 56 (h.1 48 9).toNatClampNeg (h.1 48 13)).1 48 9) + (nI 1)))) : J mX8_doAct d 0 0 Q 0 0 158 [some (.inr (.inr 48)), some (.inl v1), some (.inl v2)] [] h := by
  refine bX8_doAct_158 (d' := 0) hr (by omega) ?_
  refine t_X8_ring hr ?_ ?_ ?_
  · intro p1; exact (G0 p1)
  · intro p2
    exact bX8_doAct_162  (K0 p2)
  · intro p3
    exact bX8_doAct_162  (K1 p3)

set_option maxRecDepth 20000 in
theorem t_X8_giveFlames {d  : Nat} {Q : Option MV → MH → Prop} {h : MH} {v1 v2 : Int32} (hr : zRf h) (hd : 1 ≤ d) (G0 : v2 ≤ (nI 2) → vp_in v1 8) (K0 : v2 ≤ (nI 2) → Q (some (.inl (nI 1))) (zsI (zsI h 48 12 ((h.1 48 12) + (if (nI 0) < (v2 - (h.1 51 v1.toNatClampNeg)) then (v2 - (h.1 51 v1.toNatClampNeg)) else (nI 0)))) 51 v1.toNatClampNeg v2)) (K1 : ¬ v2 ≤ (nI 2) → Q (some (.inl (nI 0))) h) : Con mX8_giveFlames d 0 0 [.inr (.inr 48), .inl v1, .inl v2] h Q := by
  refine Con.intro rfl (Nat.le_of_ble_eq_true rfl) ?_
  show J mX8_giveFlames d 0 0 Q 0 0 0 [some (.inr (.inr 48)), some (.inl v1), some (.inl v2)] [] h
  refine bX8_giveFlames_0  (fun p1 => ?_) (fun p1 => ?_)
  · refine bX8_giveFlames_7 hr (G0 p1) (by omega) ?_
    exact bX8_giveFlames_24 hr (G0 p1) (K0 p1)
  · exact bX8_giveFlames_5  (K1 p1)

set_option maxRecDepth 20000 in
theorem t_X8_join {d  : Nat} {Q : Option MV → MH → Prop} {h : MH} {v1 v2 : Int32} (hr : zRf h) (hd : 1 ≤ d) (G0 : ¬ v1 < 0 → ¬ (h.1 48 0) ≤ v1 → vp_in v1 8) (G1 : ¬ v1 < 0 → ¬ (h.1 48 0) ≤ v1 → ¬ (h.1 50 v1.toNatClampNeg) ≤ 0 → ¬ v2 < 0 → ¬ (h.1 48 0) ≤ v2 → vp_in v2 8) (G2 : ¬ v1 < 0 → ¬ (h.1 48 0) ≤ v1 → ¬ (h.1 50 v1.toNatClampNeg) ≤ 0 → ¬ v2 < 0 → ¬ (h.1 48 0) ≤ v2 → ¬ (h.1 50 v2.toNatClampNeg) ≤ 0 → ¬ v1 = v2 → ¬ 0 < (h.1 51 v1.toNatClampNeg) → (h.1 51 v2.toNatClampNeg) ≤ 0 → vp_in ((zsI (zsI h 50 v1.toNatClampNeg ((h.1 50 v1.toNatClampNeg) + (h.1 50 v2.toNatClampNeg))) 50 v2.toNatClampNeg (nI 0)).1 54 v1.toNatClampNeg) 8) (K0 : v1 < 0 → Q (some (.inl (nI 0))) h) (K1 : ¬ v1 < 0 → (h.1 48 0) ≤ v1 → Q (some (.inl (nI 0))) h) (K2 : ¬ v1 < 0 → ¬ (h.1 48 0) ≤ v1 → (h.1 50 v1.toNatClampNeg) ≤ 0 → Q (some (.inl (nI 0))) h) (K3 : ¬ v1 < 0 → ¬ (h.1 48 0) ≤ v1 → ¬ (h.1 50 v1.toNatClampNeg) ≤ 0 → v2 < 0 → Q (some (.inl (nI 0))) h) (K4 : ¬ v1 < 0 → ¬ (h.1 48 0) ≤ v1 → ¬ (h.1 50 v1.toNatClampNeg) ≤ 0 → ¬ v2 < 0 → (h.1 48 0) ≤ v2 → Q (some (.inl (nI 0))) h) (K5 : ¬ v1 < 0 → ¬ (h.1 48 0) ≤ v1 → ¬ (h.1 50 v1.toNatClampNeg) ≤ 0 → ¬ v2 < 0 → ¬ (h.1 48 0) ≤ v2 → (h.1 50 v2.toNatClampNeg) ≤ 0 → Q (some (.inl (nI 0))) h) (K6 : ¬ v1 < 0 → ¬ (h.1 48 0) ≤ v1 → ¬ (h.1 50 v1.toNatClampNeg) ≤ 0 → ¬ v2 < 0 → ¬ (h.1 48 0) ≤ v2 → ¬ (h.1 50 v2.toNatClampNeg) ≤ 0 → v1 = v2 → Q (some (.inl (nI 0))) h) (K7 : ¬ v1 < 0 → ¬ (h.1 48 0) ≤ v1 → ¬ (h.1 50 v1.toNatClampNeg) ≤ 0 → ¬ v2 < 0 → ¬ (h.1 48 0) ≤ v2 → ¬ (h.1 50 v2.toNatClampNeg) ≤ 0 → ¬ v1 = v2 → 0 < (h.1 51 v1.toNatClampNeg) → Q (some (.inl (nI 0))) h) (K8 : ¬ v1 < 0 → ¬ (h.1 48 0) ≤ v1 → ¬ (h.1 50 v1.toNatClampNeg) ≤ 0 → ¬ v2 < 0 → ¬ (h.1 48 0) ≤ v2 → ¬ (h.1 50 v2.toNatClampNeg) ≤ 0 → ¬ v1 = v2 → ¬ 0 < (h.1 51 v1.toNatClampNeg) → (h.1 51 v2.toNatClampNeg) ≤ 0 → Q (some (.inl (nI 1))) (zsI (zsI (zsI (zsI h 50 v1.toNatClampNeg ((h.1 50 v1.toNatClampNeg) + (h.1 50 v2.toNatClampNeg))) 50 v2.toNatClampNeg (nI 0)) 53 ((zsI (zsI h 50 v1.toNatClampNeg ((h.1 50 v1.toNatClampNeg) + (h.1 50 v2.toNatClampNeg))) 50 v2.toNatClampNeg (nI 0)).1 54 v1.toNatClampNeg).toNatClampNeg v2) 54 v1.toNatClampNeg ((zsI (zsI (zsI h 50 v1.toNatClampNeg ((h.1 50 v1.toNatClampNeg) + (h.1 50 v2.toNatClampNeg))) 50 v2.toNatClampNeg (nI 0)) 53 ((zsI (zsI h 50 v1.toNatClampNeg ((h.1 50 v1.toNatClampNeg) + (h.1 50 v2.toNatClampNeg))) 50 v2.toNatClampNeg (nI 0)).1 54 v1.toNatClampNeg).toNatClampNeg v2).1 54 v2.toNatClampNeg))) (K9 : ¬ v1 < 0 → ¬ (h.1 48 0) ≤ v1 → ¬ (h.1 50 v1.toNatClampNeg) ≤ 0 → ¬ v2 < 0 → ¬ (h.1 48 0) ≤ v2 → ¬ (h.1 50 v2.toNatClampNeg) ≤ 0 → ¬ v1 = v2 → ¬ 0 < (h.1 51 v1.toNatClampNeg) → ¬ (h.1 51 v2.toNatClampNeg) ≤ 0 → Q (some (.inl (nI 0))) h) : Con mX8_join d 0 0 [.inr (.inr 48), .inl v1, .inl v2] h Q := by
  refine Con.intro rfl (Nat.le_of_ble_eq_true rfl) ?_
  show J mX8_join d 0 0 Q 0 0 0 [some (.inr (.inr 48)), some (.inl v1), some (.inl v2)] [] h
  refine bX8_join_0 (d' := 0) hr (by omega) ?_
  refine t_X8_stands hr ?_ ?_ ?_ ?_ ?_
  · intro p1 p2; exact (G0 p1 p2)
  · intro p3
    refine bX8_join_5  (fun _ => ?_) (fun c => absurd c (by decide))
    exact bX8_join_39  (K0 p3)
  · intro p4 p5
    refine bX8_join_5  (fun _ => ?_) (fun c => absurd c (by decide))
    exact bX8_join_39  (K1 p4 p5)
  · intro p6 p7 p8
    refine bX8_join_5  (fun _ => ?_) (fun c => absurd c (by decide))
    exact bX8_join_39  (K2 p6 p7 p8)
  · intro p9 p10 p11
    refine bX8_join_5  (fun c => absurd c (by decide)) (fun _ => ?_)
    refine bX8_join_8 (d' := 0) hr (by omega) ?_
    refine t_X8_stands hr ?_ ?_ ?_ ?_ ?_
    · intro p12 p13; exact (G1 p9 p10 p11 p12 p13)
    · intro p14
      refine bX8_join_13  (fun _ => ?_) (fun c => absurd c (by decide))
      exact bX8_join_39  (K3 p9 p10 p11 p14)
    · intro p15 p16
      refine bX8_join_13  (fun _ => ?_) (fun c => absurd c (by decide))
      exact bX8_join_39  (K4 p9 p10 p11 p15 p16)
    · intro p17 p18 p19
      refine bX8_join_13  (fun _ => ?_) (fun c => absurd c (by decide))
      exact bX8_join_39  (K5 p9 p10 p11 p17 p18 p19)
    · intro p20 p21 p22
      refine bX8_join_13  (fun c => absurd c (by decide)) (fun _ => ?_)
      refine bX8_join_16  (fun p23 => ?_) (fun p23 => ?_)
      · exact bX8_join_39  (K6 p9 p10 p11 p20 p21 p22 p23)
      · refine bX8_join_21 hr (G0 p9 p10) (fun p24 => ?_) (fun p24 => ?_)
        · exact bX8_join_39  (K7 p9 p10 p11 p20 p21 p22 p23 p24)
        · refine bX8_join_30 hr (G1 p9 p10 p11 p20 p21) (fun p25 => ?_) (fun p25 => ?_)
          · exact bX8_join_41 hr (G0 p9 p10) (G1 p9 p10 p11 p20 p21) (G2 p9 p10 p11 p20 p21 p22 p23 p24 p25) (K8 p9 p10 p11 p20 p21 p22 p23 p24 p25)
          · exact bX8_join_39  (K9 p9 p10 p11 p20 p21 p22 p23 p24 p25)
