set_option maxRecDepth 20000 in
theorem t_X4_tryAll {d d1' : Nat} {Q : Option MV → MH → Prop} {h : MH} {v2 v3 : Nat} (hr : zRf h) (hd1' : d1' + 1 ≤ d) (K0 : Con mX8_lay d1' 0 0 [.inr (.inr 48), .inr (.inr v2)] (zsI h 58 1 (nI 0)) (zrv fun h' => J mX4_tryAll d 0 0 Q 0 0 10 [some (.inr (.inr 58)), some (.inr (.inr 48)), some (.inr (.inr v2)), some (.inr (.inr v3)), none, none] [] h')) : Con mX4_tryAll d 0 0 [.inr (.inr 58), .inr (.inr 48), .inr (.inr v2), .inr (.inr v3)] h Q := by
  refine Con.intro rfl (Nat.le_of_ble_eq_true rfl) ?_
  show J mX4_tryAll d 0 0 Q 0 0 0 [some (.inr (.inr 58)), some (.inr (.inr 48)), some (.inr (.inr v2)), some (.inr (.inr v3)), none, none] [] h
  exact bX4_tryAll_0 hr hd1' (K0)

set_option maxRecDepth 20000 in
theorem t_X4_tryAll_10 {d  : Nat} {Q : Option MV → MH → Prop} {h : MH} {v2 v3 : Nat} (K0 : J mX4_tryAll d 0 0 Q 0 0 13 [some (.inr (.inr 58)), some (.inr (.inr 48)), some (.inr (.inr v2)), some (.inr (.inr v3)), some (.inl (nI 0)), none] [] h) : J mX4_tryAll d 0 0 Q 0 0 10 [some (.inr (.inr 58)), some (.inr (.inr 48)), some (.inr (.inr v2)), some (.inr (.inr v3)), none, none] [] h := by
  refine bX4_tryAll_10  ?_
  exact K0

set_option maxRecDepth 20000 in
theorem t_X4_tryAll_13 {d d1' : Nat} {Q : Option MV → MH → Prop} {h : MH} {v4 : Int32} {v2 v3 : Nat} (hr : zRf h) (hd1' : d1' + 1 ≤ d) (G0 : (nI 8) ≤ v4 → zokO h v3 5) (G1 : ¬ (nI 8) ≤ v4 → vp_in v4 8) (K0 : (nI 8) ≤ v4 → Con mX5_used d1' 0 0 [.inr (.inr v3)] h (zri fun (x : Int32) h' => J mX4_tryAll d 0 0 Q 0 0 38 [some (.inr (.inr 58)), some (.inr (.inr 48)), some (.inr (.inr v2)), some (.inr (.inr v3)), some (.inl v4), none] [.inl x] h')) (K1 : ¬ (nI 8) ≤ v4 → J mX4_tryAll d 0 0 Q 0 0 13 [some (.inr (.inr 58)), some (.inr (.inr 48)), some (.inr (.inr v2)), some (.inr (.inr v3)), some (.inl (v4 + nI 1)), none] [] (zsI h 61 v4.toNatClampNeg (nI 0))) : J mX4_tryAll d 0 0 Q 0 0 13 [some (.inr (.inr 58)), some (.inr (.inr 48)), some (.inr (.inr v2)), some (.inr (.inr v3)), some (.inl v4), none] [] h := by
  refine bX4_tryAll_13  (fun p1 => ?_) (fun p1 => ?_)
  · exact bX4_tryAll_34 (G0 p1) hd1' (K0 p1)
  · refine bX4_tryAll_20 hr (G1 p1) ?_
    exact K1 p1

set_option maxRecDepth 20000 in
theorem t_X4_tryAll_38 {d  : Nat} {Q : Option MV → MH → Prop} {h : MH} {v4 vs0 : Int32} {v2 v3 : Nat} (K0 : J mX4_tryAll d 0 0 Q 0 0 43 [some (.inr (.inr 58)), some (.inr (.inr 48)), some (.inr (.inr v2)), some (.inr (.inr v3)), some (.inl vs0), some (.inl (nI 0))] [] h) : J mX4_tryAll d 0 0 Q 0 0 38 [some (.inr (.inr 58)), some (.inr (.inr 48)), some (.inr (.inr v2)), some (.inr (.inr v3)), some (.inl v4), none] [.inl vs0] h := by
  refine bX4_tryAll_38  ?_
  exact K0

set_option maxRecDepth 20000 in
theorem t_X4_tryAll_43 {d d1' : Nat} {Q : Option MV → MH → Prop} {h : MH} {v4 v5 : Int32} {v2 v3 : Nat} (hr : zRf h) (hd1' : d1' + 1 ≤ d) (K0 : (nI 6561) ≤ v5 → Q none h) (K1 : ¬ (nI 6561) ≤ v5 → Con mX8_play d1' 0 0 [.inr (.inr 48), .inr (.inr v3), .inl (-(nI 1)), .inl (1024000000 : Int32)] h (zrv fun h' => J mX4_tryAll d 0 0 Q 0 0 59 [some (.inr (.inr 58)), some (.inr (.inr 48)), some (.inr (.inr v2)), some (.inr (.inr v3)), some (.inl v4), some (.inl v5)] [] h')) : J mX4_tryAll d 0 0 Q 0 0 43 [some (.inr (.inr 58)), some (.inr (.inr 48)), some (.inr (.inr v2)), some (.inr (.inr v3)), some (.inl v4), some (.inl v5)] [] h := by
  refine bX4_tryAll_43  (fun p1 => ?_) (fun p1 => ?_)
  · exact bX4_tryAll_82  (K0 p1)
  · exact bX4_tryAll_51 hr hd1' (K1 p1)

set_option maxRecDepth 20000 in
theorem t_X4_tryAll_59 {d d1' : Nat} {Q : Option MV → MH → Prop} {h : MH} {v4 v5 : Int32} {v2 v3 : Nat} (hr : zRf h) (hd1' : d1' + 1 ≤ d) (K0 : Con mX4_note d1' 0 0 [.inr (.inr 58), .inr (.inr 48)] h (zrv fun h' => J mX4_tryAll d 0 0 Q 0 0 64 [some (.inr (.inr 58)), some (.inr (.inr 48)), some (.inr (.inr v2)), some (.inr (.inr v3)), some (.inl v4), some (.inl v5)] [] h')) : J mX4_tryAll d 0 0 Q 0 0 59 [some (.inr (.inr 58)), some (.inr (.inr 48)), some (.inr (.inr v2)), some (.inr (.inr v3)), some (.inl v4), some (.inl v5)] [] h := by
  exact bX4_tryAll_59 hr hd1' (K0)

set_option maxRecDepth 20000 in
theorem t_X4_tryAll_64 {d d1' : Nat} {Q : Option MV → MH → Prop} {h : MH} {v4 v5 : Int32} {v2 v3 : Nat} (hr : zRf h) (hd1' : d1' + 1 ≤ d) (K0 : Con mX4_turnNext d1' 0 0 [.inr (.inr 58), .inr (.inr 48), .inr (.inr v2), .inl v4] h (zri fun (x : Int32) h' => J mX4_tryAll d 0 0 Q 0 0 72 [some (.inr (.inr 58)), some (.inr (.inr 48)), some (.inr (.inr v2)), some (.inr (.inr v3)), some (.inl v4), some (.inl v5)] [.inl x] h')) : J mX4_tryAll d 0 0 Q 0 0 64 [some (.inr (.inr 58)), some (.inr (.inr 48)), some (.inr (.inr v2)), some (.inr (.inr v3)), some (.inl v4), some (.inl v5)] [] h := by
  exact bX4_tryAll_64 hr hd1' (K0)

set_option maxRecDepth 20000 in
theorem t_X4_tryAll_72 {d  : Nat} {Q : Option MV → MH → Prop} {h : MH} {v4 v5 vs0 : Int32} {v2 v3 : Nat} (K0 : ¬ vs0 = 0 → J mX4_tryAll d 0 0 Q 0 0 43 [some (.inr (.inr 58)), some (.inr (.inr 48)), some (.inr (.inr v2)), some (.inr (.inr v3)), some (.inl v4), some (.inl (v5 + nI 1))] [] h) (K1 : vs0 = 0 → Q none h) : J mX4_tryAll d 0 0 Q 0 0 72 [some (.inr (.inr 58)), some (.inr (.inr 48)), some (.inr (.inr v2)), some (.inr (.inr v3)), some (.inl v4), some (.inl v5)] [.inl vs0] h := by
  refine bX4_tryAll_72  (fun p1 => ?_) (fun p1 => ?_)
  · refine bX4_tryAll_76  ?_
    exact K0 p1
  · exact bX4_tryAll_75  (K1 p1)

set_option maxRecDepth 20000 in
theorem t_X4_note {d  : Nat} {Q : Option MV → MH → Prop} {h : MH} (K0 : J mX4_note d 0 0 Q 0 0 2 [some (.inr (.inr 58)), some (.inr (.inr 48)), some (.inl (nI 0))] [] h) : Con mX4_note d 0 0 [.inr (.inr 58), .inr (.inr 48)] h Q := by
  refine Con.intro rfl (Nat.le_of_ble_eq_true rfl) ?_
  show J mX4_note d 0 0 Q 0 0 0 [some (.inr (.inr 58)), some (.inr (.inr 48)), none] [] h
  refine bX4_note_0  ?_
  exact K0

set_option maxRecDepth 20000 in
theorem t_X4_note_2 {d  : Nat} {Q : Option MV → MH → Prop} {h : MH} {v2 : Int32} (hr : zRf h) (hd : 1 ≤ d) (G0 : ¬ (h.1 48 9) ≤ v2 → (h.1 58 1) ≤ v2 → vp_in v2 40) (G1 : ¬ (h.1 48 9) ≤ v2 → (h.1 58 1) ≤ v2 → zokA h 59 20 v2) (G2 : ¬ (h.1 48 9) ≤ v2 → (h.1 58 1) ≤ v2 → ((zsI h 59 v2.toNatClampNeg (h.1 56 v2.toNatClampNeg)).1 58 1) ≤ v2 → zokA (zsI h 59 v2.toNatClampNeg (h.1 56 v2.toNatClampNeg)) 60 20 v2) (G3 : ¬ (h.1 48 9) ≤ v2 → (h.1 58 1) ≤ v2 → ¬ ((zsI h 59 v2.toNatClampNeg (h.1 56 v2.toNatClampNeg)).1 58 1) ≤ v2 → zokA (zsI h 59 v2.toNatClampNeg (h.1 56 v2.toNatClampNeg)) 60 20 v2) (G4 : ¬ (h.1 48 9) ≤ v2 → ¬ (h.1 58 1) ≤ v2 → vp_in v2 40) (G5 : ¬ (h.1 48 9) ≤ v2 → ¬ (h.1 58 1) ≤ v2 → zokA h 59 20 v2) (G6 : ¬ (h.1 48 9) ≤ v2 → ¬ (h.1 58 1) ≤ v2 → ((zsI h 59 v2.toNatClampNeg (if (h.1 56 v2.toNatClampNeg) < (h.1 59 v2.toNatClampNeg) then (h.1 56 v2.toNatClampNeg) else (h.1 59 v2.toNatClampNeg))).1 58 1) ≤ v2 → zokA (zsI h 59 v2.toNatClampNeg (if (h.1 56 v2.toNatClampNeg) < (h.1 59 v2.toNatClampNeg) then (h.1 56 v2.toNatClampNeg) else (h.1 59 v2.toNatClampNeg))) 60 20 v2) (G7 : ¬ (h.1 48 9) ≤ v2 → ¬ (h.1 58 1) ≤ v2 → ¬ ((zsI h 59 v2.toNatClampNeg (if (h.1 56 v2.toNatClampNeg) < (h.1 59 v2.toNatClampNeg) then (h.1 56 v2.toNatClampNeg) else (h.1 59 v2.toNatClampNeg))).1 58 1) ≤ v2 → zokA (zsI h 59 v2.toNatClampNeg (if (h.1 56 v2.toNatClampNeg) < (h.1 59 v2.toNatClampNeg) then (h.1 56 v2.toNatClampNeg) else (h.1 59 v2.toNatClampNeg))) 60 20 v2) (K0 : (h.1 48 9) ≤ v2 → Q none (zsI h 58 1 (if (h.1 58 1) < (h.1 48 9) then (h.1 48 9) else (h.1 58 1)))) (K1 : ¬ (h.1 48 9) ≤ v2 → (h.1 58 1) ≤ v2 → ((zsI h 59 v2.toNatClampNeg (h.1 56 v2.toNatClampNeg)).1 58 1) ≤ v2 → J mX4_note d 0 0 Q 0 0 2 [some (.inr (.inr 58)), some (.inr (.inr 48)), some (.inl (v2 + nI 1))] [] (zsI (zsI h 59 v2.toNatClampNeg (h.1 56 v2.toNatClampNeg)) 60 v2.toNatClampNeg ((zsI h 59 v2.toNatClampNeg (h.1 56 v2.toNatClampNeg)).1 56 v2.toNatClampNeg))) (K2 : ¬ (h.1 48 9) ≤ v2 → (h.1 58 1) ≤ v2 → ¬ ((zsI h 59 v2.toNatClampNeg (h.1 56 v2.toNatClampNeg)).1 58 1) ≤ v2 → J mX4_note d 0 0 Q 0 0 2 [some (.inr (.inr 58)), some (.inr (.inr 48)), some (.inl (v2 + nI 1))] [] (zsI (zsI h 59 v2.toNatClampNeg (h.1 56 v2.toNatClampNeg)) 60 v2.toNatClampNeg (if ((zsI h 59 v2.toNatClampNeg (h.1 56 v2.toNatClampNeg)).1 60 v2.toNatClampNeg) < ((zsI h 59 v2.toNatClampNeg (h.1 56 v2.toNatClampNeg)).1 56 v2.toNatClampNeg) then ((zsI h 59 v2.toNatClampNeg (h.1 56 v2.toNatClampNeg)).1 56 v2.toNatClampNeg) else ((zsI h 59 v2.toNatClampNeg (h.1 56 v2.toNatClampNeg)).1 60 v2.toNatClampNeg)))) (K3 : ¬ (h.1 48 9) ≤ v2 → ¬ (h.1 58 1) ≤ v2 → ((zsI h 59 v2.toNatClampNeg (if (h.1 56 v2.toNatClampNeg) < (h.1 59 v2.toNatClampNeg) then (h.1 56 v2.toNatClampNeg) else (h.1 59 v2.toNatClampNeg))).1 58 1) ≤ v2 → J mX4_note d 0 0 Q 0 0 2 [some (.inr (.inr 58)), some (.inr (.inr 48)), some (.inl (v2 + nI 1))] [] (zsI (zsI h 59 v2.toNatClampNeg (if (h.1 56 v2.toNatClampNeg) < (h.1 59 v2.toNatClampNeg) then (h.1 56 v2.toNatClampNeg) else (h.1 59 v2.toNatClampNeg))) 60 v2.toNatClampNeg ((zsI h 59 v2.toNatClampNeg (if (h.1 56 v2.toNatClampNeg) < (h.1 59 v2.toNatClampNeg) then (h.1 56 v2.toNatClampNeg) else (h.1 59 v2.toNatClampNeg))).1 56 v2.toNatClampNeg))) (K4 : ¬ (h.1 48 9) ≤ v2 → ¬ (h.1 58 1) ≤ v2 → ¬ ((zsI h 59 v2.toNatClampNeg (if (h.1 56 v2.toNatClampNeg) < (h.1 59 v2.toNatClampNeg) then (h.1 56 v2.toNatClampNeg) else (h.1 59 v2.toNatClampNeg))).1 58 1) ≤ v2 → J mX4_note d 0 0 Q 0 0 2 [some (.inr (.inr 58)), some (.inr (.inr 48)), some (.inl (v2 + nI 1))] [] (zsI (zsI h 59 v2.toNatClampNeg (if (h.1 56 v2.toNatClampNeg) < (h.1 59 v2.toNatClampNeg) then (h.1 56 v2.toNatClampNeg) else (h.1 59 v2.toNatClampNeg))) 60 v2.toNatClampNeg (if ((zsI h 59 v2.toNatClampNeg (if (h.1 56 v2.toNatClampNeg) < (h.1 59 v2.toNatClampNeg) then (h.1 56 v2.toNatClampNeg) else (h.1 59 v2.toNatClampNeg))).1 60 v2.toNatClampNeg) < ((zsI h 59 v2.toNatClampNeg (if (h.1 56 v2.toNatClampNeg) < (h.1 59 v2.toNatClampNeg) then (h.1 56 v2.toNatClampNeg) else (h.1 59 v2.toNatClampNeg))).1 56 v2.toNatClampNeg) then ((zsI h 59 v2.toNatClampNeg (if (h.1 56 v2.toNatClampNeg) < (h.1 59 v2.toNatClampNeg) then (h.1 56 v2.toNatClampNeg) else (h.1 59 v2.toNatClampNeg))).1 56 v2.toNatClampNeg) else ((zsI h 59 v2.toNatClampNeg (if (h.1 56 v2.toNatClampNeg) < (h.1 59 v2.toNatClampNeg) then (h.1 56 v2.toNatClampNeg) else (h.1 59 v2.toNatClampNeg))).1 60 v2.toNatClampNeg)))) : J mX4_note d 0 0 Q 0 0 2 [some (.inr (.inr 58)), some (.inr (.inr 48)), some (.inl v2)] [] h := by
  refine bX4_note_2 hr (fun p1 => ?_) (fun p1 => ?_)
  · refine bX4_note_92 hr (by omega) ?_
    exact bX4_note_104 hr (K0 p1)
  · refine bX4_note_10 hr (fun p2 => ?_) (fun p2 => ?_)
    · refine bX4_note_41 hr (G0 p1 p2) ?_
      refine bX4_note_47 hr (G1 p1 p2) (fun p3 => ?_) (fun p3 => ?_)
      · refine bX4_note_79 hr (G0 p1 p2) ?_
        refine bX4_note_85 (G2 p1 p2 p3) ?_
        exact K1 p1 p2 p3
      · refine bX4_note_61 hr (G0 p1 p2) (by omega) ?_
        refine bX4_note_76  ?_
        refine bX4_note_85 (G3 p1 p2 p3) ?_
        exact K2 p1 p2 p3
    · refine bX4_note_23 hr (G4 p1 p2) (by omega) ?_
      refine bX4_note_38  ?_
      refine bX4_note_47 hr (G5 p1 p2) (fun p4 => ?_) (fun p4 => ?_)
      · refine bX4_note_79 hr (G4 p1 p2) ?_
        refine bX4_note_85 (G6 p1 p2 p4) ?_
        exact K3 p1 p2 p4
      · refine bX4_note_61 hr (G4 p1 p2) (by omega) ?_
        refine bX4_note_76  ?_
        refine bX4_note_85 (G7 p1 p2 p4) ?_
        exact K4 p1 p2 p4

set_option maxRecDepth 20000 in
theorem t_X4_turnNext {d  : Nat} {Q : Option MV → MH → Prop} {h : MH} {v3 : Int32} {v2 : Nat} (K0 : J mX4_turnNext d 0 0 Q 0 0 3 [some (.inr (.inr 58)), some (.inr (.inr 48)), some (.inr (.inr v2)), some (.inl v3), some (.inl (nI 0)), none] [] h) : Con mX4_turnNext d 0 0 [.inr (.inr 58), .inr (.inr 48), .inr (.inr v2), .inl v3] h Q := by
  refine Con.intro rfl (Nat.le_of_ble_eq_true rfl) ?_
  show J mX4_turnNext d 0 0 Q 0 0 0 [some (.inr (.inr 58)), some (.inr (.inr 48)), some (.inr (.inr v2)), some (.inl v3), none, none] [] h
  refine bX4_turnNext_0  ?_
  exact K0

set_option maxRecDepth 20000 in
theorem t_X4_turnNext_3 {d d1' d2' : Nat} {Q : Option MV → MH → Prop} {h : MH} {u5 : Option MV} {v3 v4 : Int32} {v2 : Nat} (hr : zRf h) (hd1' : d1' + 1 ≤ d) (hd2' : d2' + 1 ≤ d) (G0 : zokO h v2 2) (G1 : ¬ (h.1 v2 0) ≤ v4 → vp_in v4 8) (K0 : (h.1 v2 0) ≤ v4 → Q (some (.inl (nI 0))) h) (K1 : ¬ (h.1 v2 0) ≤ v4 → (h.1 (v2 + 4) v4.toNatClampNeg) ≤ 0 → J mX4_turnNext d 0 0 Q 0 0 3 [some (.inr (.inr 58)), some (.inr (.inr 48)), some (.inr (.inr v2)), some (.inl v3), some (.inl (v4 + nI 1)), u5] [] h) (K2 : ¬ (h.1 v2 0) ≤ v4 → ¬ (h.1 (v2 + 4) v4.toNatClampNeg) ≤ 0 → ((v3 >>> (v4 &&& 31)) &&& (nI 1)) = 0 → J mX4_turnNext d 0 0 Q 0 0 3 [some (.inr (.inr 58)), some (.inr (.inr 48)), some (.inr (.inr v2)), some (.inl v3), some (.inl (v4 + nI 1)), u5] [] h) (K3 : ¬ (h.1 v2 0) ≤ v4 → ¬ (h.1 (v2 + 4) v4.toNatClampNeg) ≤ 0 → ¬ ((v3 >>> (v4 &&& 31)) &&& (nI 1)) = 0 → ¬ ((zsI h 61 v4.toNatClampNeg (((h.1 61 v4.toNatClampNeg) + (nI 1)) - ((h.1 61 v4.toNatClampNeg) + (nI 1)) / (nI 3) * (nI 3))).1 61 v4.toNatClampNeg) = (nI 2) → Con mX2_sparksOf d1' 0 0 [.inr (.inr v2), .inl v4] (zsI h 61 v4.toNatClampNeg (((h.1 61 v4.toNatClampNeg) + (nI 1)) - ((h.1 61 v4.toNatClampNeg) + (nI 1)) / (nI 3) * (nI 3))) (zri fun (x : Int32) h' => J mX4_turnNext d 0 0 Q 0 0 100 [some (.inr (.inr 58)), some (.inr (.inr 48)), some (.inr (.inr v2)), some (.inl v3), some (.inl v4), some (.inl ((-((zsI h 61 v4.toNatClampNeg (((h.1 61 v4.toNatClampNeg) + (nI 1)) - ((h.1 61 v4.toNatClampNeg) + (nI 1)) / (nI 3) * (nI 3))).1 61 v4.toNatClampNeg)) * ((zsI h 61 v4.toNatClampNeg (((h.1 61 v4.toNatClampNeg) + (nI 1)) - ((h.1 61 v4.toNatClampNeg) + (nI 1)) / (nI 3) * (nI 3))).1 (v2 + 4) v4.toNatClampNeg)))] [.inl x, .inl v4, .inr (.inr 49)] h')) (K4 : ¬ (h.1 v2 0) ≤ v4 → ¬ (h.1 (v2 + 4) v4.toNatClampNeg) ≤ 0 → ¬ ((v3 >>> (v4 &&& 31)) &&& (nI 1)) = 0 → ((zsI h 61 v4.toNatClampNeg (((h.1 61 v4.toNatClampNeg) + (nI 1)) - ((h.1 61 v4.toNatClampNeg) + (nI 1)) / (nI 3) * (nI 3))).1 61 v4.toNatClampNeg) = (nI 2) → Con mX2_sparksOf d2' 0 0 [.inr (.inr v2), .inl v4] (zsI h 61 v4.toNatClampNeg (((h.1 61 v4.toNatClampNeg) + (nI 1)) - ((h.1 61 v4.toNatClampNeg) + (nI 1)) / (nI 3) * (nI 3))) (zri fun (x : Int32) h' => J mX4_turnNext d 0 0 Q 0 0 100 [some (.inr (.inr 58)), some (.inr (.inr 48)), some (.inr (.inr v2)), some (.inl v3), some (.inl v4), some (.inl ((zsI h 61 v4.toNatClampNeg (((h.1 61 v4.toNatClampNeg) + (nI 1)) - ((h.1 61 v4.toNatClampNeg) + (nI 1)) / (nI 3) * (nI 3))).1 (v2 + 4) v4.toNatClampNeg))] [.inl x, .inl v4, .inr (.inr 49)] h')) : J mX4_turnNext d 0 0 Q 0 0 3 [some (.inr (.inr 58)), some (.inr (.inr 48)), some (.inr (.inr v2)), some (.inl v3), some (.inl v4), u5] [] h := by
  refine bX4_turnNext_3 (G0) (fun p1 => ?_) (fun p1 => ?_)
  · exact bX4_turnNext_132  (K0 p1)
  · refine bX4_turnNext_12 hr (G0) (G1 p1) (fun p2 => ?_) (fun p2 => ?_)
    · refine bX4_turnNext_126  ?_
      exact K1 p1 p2
    · refine bX4_turnNext_22  (fun p3 => ?_) (fun p3 => ?_)
      · refine bX4_turnNext_126  ?_
        exact K2 p1 p2 p3
      · refine bX4_turnNext_31 hr (G1 p1) (fun p4 => ?_) (fun p4 => ?_)
        · refine bX4_turnNext_70 hr (G1 p1) (G0) ?_
          exact bX4_turnNext_86 hr (G0) hd1' (K3 p1 p2 p3 p4)
        · refine bX4_turnNext_60 hr (G0) (G1 p1) ?_
          exact bX4_turnNext_86 hr (G0) hd2' (K4 p1 p2 p3 p4)

set_option maxRecDepth 20000 in
theorem t_X4_turnNext_100 {d  : Nat} {Q : Option MV → MH → Prop} {h : MH} {v3 v4 v5 vs1 vs2 : Int32} {v2 vs0 : Nat} (hr : zRf h) (G0 : zokA h vs0 20 vs1) (G1 : vp_in v4 8) (K0 : ((zsI h vs0 vs1.toNatClampNeg (((vs2 * ((nI 100) + v5)) / (nI 100)) * (nI 256))).1 61 v4.toNatClampNeg) ≤ 0 → J mX4_turnNext d 0 0 Q 0 0 3 [some (.inr (.inr 58)), some (.inr (.inr 48)), some (.inr (.inr v2)), some (.inl v3), some (.inl (v4 + nI 1)), some (.inl v5)] [] (zsI h vs0 vs1.toNatClampNeg (((vs2 * ((nI 100) + v5)) / (nI 100)) * (nI 256)))) (K1 : ¬ ((zsI h vs0 vs1.toNatClampNeg (((vs2 * ((nI 100) + v5)) / (nI 100)) * (nI 256))).1 61 v4.toNatClampNeg) ≤ 0 → Q (some (.inl (nI 1))) (zsI h vs0 vs1.toNatClampNeg (((vs2 * ((nI 100) + v5)) / (nI 100)) * (nI 256)))) : J mX4_turnNext d 0 0 Q 0 0 100 [some (.inr (.inr 58)), some (.inr (.inr 48)), some (.inr (.inr v2)), some (.inl v3), some (.inl v4), some (.inl v5)] [.inl vs2, .inl vs1, .inr (.inr vs0)] h := by
  refine bX4_turnNext_100 hr (G0) (G1) (fun p1 => ?_) (fun p1 => ?_)
  · refine bX4_turnNext_126  ?_
    exact K0 p1
  · exact bX4_turnNext_124  (K1 p1)

set_option maxRecDepth 20000 in
theorem t_X0_lay {d  : Nat} {Q : Option MV → MH → Prop} {h : MH} {v2 : Int32} {v1 : Nat} (hr : zRf h) (K0 : J mX0_lay d 0 0 Q 0 0 7 [some (.inr (.inr 77)), some (.inr (.inr v1)), some (.inl v2), some (.inl (nI 0)), none] [] (zsI h 77 0 (nI 0))) : Con mX0_lay d 0 0 [.inr (.inr 77), .inr (.inr v1), .inl v2] h Q := by
  refine Con.intro rfl (Nat.le_of_ble_eq_true rfl) ?_
  show J mX0_lay d 0 0 Q 0 0 0 [some (.inr (.inr 77)), some (.inr (.inr v1)), some (.inl v2), none, none] [] h
  refine bX0_lay_0 hr ?_
  exact K0

set_option maxRecDepth 20000 in
theorem t_X0_lay_7 {d d1' : Nat} {Q : Option MV → MH → Prop} {h : MH} {u4 : Option MV} {v2 v3 : Int32} {v1 : Nat} (hr : zRf h) (hd1' : d1' + 1 ≤ d) (G0 : zokO h v1 2) (G1 : ¬ (h.1 v1 0) ≤ v3 → ¬ (nI 2) ≤ (h.1 77 0) → ¬ ((v2 >>> (v3 &&& 31)) &&& (nI 1)) = 0 → vp_in v3 8) (G2 : ¬ (h.1 v1 0) ≤ v3 → ¬ (nI 2) ≤ (h.1 77 0) → ¬ ((v2 >>> (v3 &&& 31)) &&& (nI 1)) = 0 → vp_in (h.1 77 0) 2) (K0 : (h.1 v1 0) ≤ v3 → Q none h) (K1 : ¬ (h.1 v1 0) ≤ v3 → (nI 2) ≤ (h.1 77 0) → Q none h) (K2 : ¬ (h.1 v1 0) ≤ v3 → ¬ (nI 2) ≤ (h.1 77 0) → ((v2 >>> (v3 &&& 31)) &&& (nI 1)) = 0 → J mX0_lay d 0 0 Q 0 0 7 [some (.inr (.inr 77)), some (.inr (.inr v1)), some (.inl v2), some (.inl (v3 + nI 1)), u4] [] h) (K3 : ¬ (h.1 v1 0) ≤ v3 → ¬ (nI 2) ≤ (h.1 77 0) → ¬ ((v2 >>> (v3 &&& 31)) &&& (nI 1)) = 0 → Con mX2_sparksOf d1' 0 0 [.inr (.inr v1), .inl v3] (zsI h 78 (h.1 77 0).toNatClampNeg (h.1 (v1 + 1) v3.toNatClampNeg)) (zri fun (x : Int32) h' => J mX0_lay d 0 0 Q 0 0 59 [some (.inr (.inr 77)), some (.inr (.inr v1)), some (.inl v2), some (.inl v3), u4] [.inl x, .inl ((zsI h 78 (h.1 77 0).toNatClampNeg (h.1 (v1 + 1) v3.toNatClampNeg)).1 77 0), .inr (.inr 79)] h')) : J mX0_lay d 0 0 Q 0 0 7 [some (.inr (.inr 77)), some (.inr (.inr v1)), some (.inl v2), some (.inl v3), u4] [] h := by
  refine bX0_lay_7 (G0) (fun p1 => ?_) (fun p1 => ?_)
  · exact bX0_lay_111  (K0 p1)
  · refine bX0_lay_15 hr (fun p2 => ?_) (fun p2 => ?_)
    · exact bX0_lay_111  (K1 p1 p2)
    · refine bX0_lay_23  (fun p3 => ?_) (fun p3 => ?_)
      · refine bX0_lay_105  ?_
        exact K2 p1 p2 p3
      · exact bX0_lay_31 hr (G0) (G1 p1 p2 p3) (G2 p1 p2 p3) hd1' (K3 p1 p2 p3)

set_option maxRecDepth 20000 in
theorem t_X0_lay_59 {d  : Nat} {Q : Option MV → MH → Prop} {h : MH} {u4 : Option MV} {v2 v3 vs1 vs2 : Int32} {v1 vs0 : Nat} (G0 : zokA h vs0 20 vs1) (K0 : J mX0_lay d 0 0 Q 0 0 63 [some (.inr (.inr 77)), some (.inr (.inr v1)), some (.inl v2), some (.inl v3), some (.inl (nI 0))] [] (zsI h vs0 vs1.toNatClampNeg vs2)) : J mX0_lay d 0 0 Q 0 0 59 [some (.inr (.inr 77)), some (.inr (.inr v1)), some (.inl v2), some (.inl v3), u4] [.inl vs2, .inl vs1, .inr (.inr vs0)] h := by
  refine bX0_lay_59 (G0) ?_
  exact K0

set_option maxRecDepth 20000 in
theorem t_X0_lay_63 {d d1' : Nat} {Q : Option MV → MH → Prop} {h : MH} {v2 v3 v4 : Int32} {v1 : Nat} (hr : zRf h) (hd1' : d1' + 1 ≤ d) (G0 : ¬ (nI 6) < v4 → vp_in (h.1 77 0) 2) (G1 : ¬ (nI 6) < v4 → zokO h v1 2) (K0 : (nI 6) < v4 → J mX0_lay d 0 0 Q 0 0 7 [some (.inr (.inr 77)), some (.inr (.inr v1)), some (.inl v2), some (.inl (v3 + nI 1)), some (.inl v4)] [] (zsI h 77 0 ((h.1 77 0) + (nI 1)))) (K1 : ¬ (nI 6) < v4 → Con mX2_sparksBefore d1' 0 0 [.inr (.inr v1), .inl v3, .inl v4] h (zri fun (x : Int32) h' => J mX0_lay d 0 0 Q 0 0 88 [some (.inr (.inr 77)), some (.inr (.inr v1)), some (.inl v2), some (.inl v3), some (.inl v4)] [.inl x, .inl v4, .inr (.inr (81 + (h.1 77 0).toNatClampNeg))] h')) : J mX0_lay d 0 0 Q 0 0 63 [some (.inr (.inr 77)), some (.inr (.inr v1)), some (.inl v2), some (.inl v3), some (.inl v4)] [] h := by
  refine bX0_lay_63  (fun p1 => ?_) (fun p1 => ?_)
  · refine bX0_lay_95 hr ?_
    refine bX0_lay_105  ?_
    exact K0 p1
  · exact bX0_lay_70 hr (G0 p1) (G1 p1) hd1' (K1 p1)

set_option maxRecDepth 20000 in
theorem t_X0_lay_88 {d  : Nat} {Q : Option MV → MH → Prop} {h : MH} {v2 v3 v4 vs1 vs2 : Int32} {v1 vs0 : Nat} (G0 : zokA h vs0 20 vs1) (K0 : J mX0_lay d 0 0 Q 0 0 63 [some (.inr (.inr 77)), some (.inr (.inr v1)), some (.inl v2), some (.inl v3), some (.inl (v4 + nI 1))] [] (zsI h vs0 vs1.toNatClampNeg vs2)) : J mX0_lay d 0 0 Q 0 0 88 [some (.inr (.inr 77)), some (.inr (.inr v1)), some (.inl v2), some (.inl v3), some (.inl v4)] [.inl vs2, .inl vs1, .inr (.inr vs0)] h := by
  refine bX0_lay_88 (G0) ?_
  exact K0

set_option maxRecDepth 20000 in
theorem t_X0_markAll {d  : Nat} {Q : Option MV → MH → Prop} {h : MH} {v1 : Nat} (hr : zRf h) (K0 : J mX0_markAll d 0 0 Q 0 0 7 [some (.inr (.inr 77)), some (.inr (.inr v1)), some (.inl (nI 0))] [] (zsR h 77 1 v1)) : Con mX0_markAll d 0 0 [.inr (.inr 77), .inr (.inr v1)] h Q := by
  refine Con.intro rfl (Nat.le_of_ble_eq_true rfl) ?_
  show J mX0_markAll d 0 0 Q 0 0 0 [some (.inr (.inr 77)), some (.inr (.inr v1)), none] [] h
  refine bX0_markAll_0 hr ?_
  exact K0

set_option maxRecDepth 20000 in
theorem t_X0_markAll_7 {d d1' : Nat} {Q : Option MV → MH → Prop} {h : MH} {v2 : Int32} {v1 : Nat} (hr : zRf h) (hd1' : d1' + 1 ≤ d) (G0 : ¬ (nI 4) ≤ v2 → zokA h 84 20 v2) (K0 : (nI 4) ≤ v2 → Con mX0_go d1' 0 0 [.inr (.inr 77), .inl (nI 0), .inl (nI 0), .inl (nI 0)] h (zrv fun h' => J mX0_markAll d 0 0 Q 0 0 34 [some (.inr (.inr 77)), some (.inr (.inr v1)), some (.inl v2)] [] h')) (K1 : ¬ (nI 4) ≤ v2 → J mX0_markAll d 0 0 Q 0 0 7 [some (.inr (.inr 77)), some (.inr (.inr v1)), some (.inl (v2 + nI 1))] [] (zsI h 84 v2.toNatClampNeg (nI 0))) : J mX0_markAll d 0 0 Q 0 0 7 [some (.inr (.inr 77)), some (.inr (.inr v1)), some (.inl v2)] [] h := by
  refine bX0_markAll_7  (fun p1 => ?_) (fun p1 => ?_)
  · exact bX0_markAll_27 hr hd1' (K0 p1)
  · refine bX0_markAll_12 hr (vp_in_nI (by decide) (by decide)) (G0 p1) ?_
    exact K1 p1

set_option maxRecDepth 20000 in
theorem t_X0_markAll_34 {d  : Nat} {Q : Option MV → MH → Prop} {h : MH} {v2 : Int32} {v1 : Nat} (K0 : Q none h) : J mX0_markAll d 0 0 Q 0 0 34 [some (.inr (.inr 77)), some (.inr (.inr v1)), some (.inl v2)] [] h := by
  exact bX0_markAll_34  (K0)

set_option maxRecDepth 20000 in
theorem t_X0_go {d d1' : Nat} {Q : Option MV → MH → Prop} {h : MH} {v1 v2 v3 : Int32} (hr : zRf h) (hd1' : d1' + 1 ≤ d) (K0 : v1 < (nI 12) → Con mX0_places d1' 0 0 [.inr (.inr 77), .inl v1] h (zri fun (x : Int32) h' => J mX0_go d 0 0 Q 0 0 12 [some (.inr (.inr 77)), some (.inl v1), some (.inl v2), some (.inl v3), none, none] [.inl x] h')) (K1 : ¬ v1 < (nI 12) → Q none h) : Con mX0_go d 0 0 [.inr (.inr 77), .inl v1, .inl v2, .inl v3] h Q := by
  refine Con.intro rfl (Nat.le_of_ble_eq_true rfl) ?_
  show J mX0_go d 0 0 Q 0 0 0 [some (.inr (.inr 77)), some (.inl v1), some (.inl v2), some (.inl v3), none, none] [] h
  refine bX0_go_0  (fun p1 => ?_) (fun p1 => ?_)
  · exact bX0_go_7 hr hd1' (K0 p1)
  · exact bX0_go_6  (K1 p1)

set_option maxRecDepth 20000 in
theorem t_X0_go_12 {d  : Nat} {Q : Option MV → MH → Prop} {h : MH} {v1 v2 v3 vs0 : Int32} (K0 : J mX0_go d 0 0 Q 0 0 21 [some (.inr (.inr 77)), some (.inl v1), some (.inl v2), some (.inl v3), some (.inl (vs0 &&& (v3 ^^^ (-(nI 1))))), some (.inl (nI 0))] [] h) : J mX0_go d 0 0 Q 0 0 12 [some (.inr (.inr 77)), some (.inl v1), some (.inl v2), some (.inl v3), none, none] [.inl vs0] h := by
  refine bX0_go_12  ?_
  exact K0

set_option maxRecDepth 20000 in
theorem t_X0_go_21 {d d1' : Nat} {Q : Option MV → MH → Prop} {h : MH} {v1 v2 v3 v4 v5 : Int32} (hr : zRf h) (hd1' : d1' + 1 ≤ d) (K0 : (nI 16) ≤ v5 → Q none h) (K1 : ¬ (nI 16) ≤ v5 → ¬ (v5 &&& (v4 ^^^ (-(nI 1)))) = 0 → J mX0_go d 0 0 Q 0 0 21 [some (.inr (.inr 77)), some (.inl v1), some (.inl v2), some (.inl v3), some (.inl v4), some (.inl (v5 + nI 1))] [] h) (K2 : ¬ (nI 16) ≤ v5 → (v5 &&& (v4 ^^^ (-(nI 1)))) = 0 → Con mX0_follow d1' 0 0 [.inr (.inr 77), .inl v1, .inl v2, .inl (v3 ||| v5)] h (zrv fun h' => J mX0_go d 0 0 Q 0 0 48 [some (.inr (.inr 77)), some (.inl v1), some (.inl v2), some (.inl v3), some (.inl v4), some (.inl v5)] [] h')) : J mX0_go d 0 0 Q 0 0 21 [some (.inr (.inr 77)), some (.inl v1), some (.inl v2), some (.inl v3), some (.inl v4), some (.inl v5)] [] h := by
  refine bX0_go_21  (fun p1 => ?_) (fun p1 => ?_)
  · exact bX0_go_54  (K0 p1)
  · refine bX0_go_28  (fun p2 => ?_) (fun p2 => ?_)
    · refine bX0_go_48  ?_
      exact K1 p1 p2
    · exact bX0_go_38 hr hd1' (K2 p1 p2)

set_option maxRecDepth 20000 in
theorem t_X0_go_48 {d  : Nat} {Q : Option MV → MH → Prop} {h : MH} {v1 v2 v3 v4 v5 : Int32} (K0 : J mX0_go d 0 0 Q 0 0 21 [some (.inr (.inr 77)), some (.inl v1), some (.inl v2), some (.inl v3), some (.inl v4), some (.inl (v5 + nI 1))] [] h) : J mX0_go d 0 0 Q 0 0 48 [some (.inr (.inr 77)), some (.inl v1), some (.inl v2), some (.inl v3), some (.inl v4), some (.inl v5)] [] h := by
  refine bX0_go_48  ?_
  exact K0

set_option maxRecDepth 20000 in
theorem t_X0_places {d  : Nat} {Q : Option MV → MH → Prop} {h : MH} {v1 : Int32} (K0 : J mX0_places d 0 0 Q 0 0 4 [some (.inr (.inr 77)), some (.inl v1), some (.inl (nI 0)), some (.inl (nI 0))] [] h) : Con mX0_places d 0 0 [.inr (.inr 77), .inl v1] h Q := by
  refine Con.intro rfl (Nat.le_of_ble_eq_true rfl) ?_
  show J mX0_places d 0 0 Q 0 0 0 [some (.inr (.inr 77)), some (.inl v1), none, none] [] h
  refine bX0_places_0  ?_
  exact K0

set_option maxRecDepth 20000 in
theorem t_X0_places_4 {d  : Nat} {Q : Option MV → MH → Prop} {h : MH} {v1 v2 v3 : Int32} (hr : zRf h) (G0 : ¬ (h.1 77 0) ≤ v3 → vp_in v1 13) (G1 : ¬ (h.1 77 0) ≤ v3 → zokA h (84 + v1.toNatClampNeg) 20 ((nI 2) * v3)) (G2 : ¬ (h.1 77 0) ≤ v3 → zokA h (84 + v1.toNatClampNeg) 20 (((nI 2) * v3) + (nI 1))) (G3 : ¬ (h.1 77 0) ≤ v3 → vp_in v3 2) (K0 : (h.1 77 0) ≤ v3 → Q (some (.inl v2)) h) (K1 : ¬ (h.1 77 0) ≤ v3 → (h.1 79 v3.toNatClampNeg) ≤ ((h.1 (84 + v1.toNatClampNeg) ((nI 2) * v3).toNatClampNeg) + (h.1 (84 + v1.toNatClampNeg) (((nI 2) * v3) + (nI 1)).toNatClampNeg)) → J mX0_places d 0 0 Q 0 0 4 [some (.inr (.inr 77)), some (.inl v1), some (.inl v2), some (.inl (v3 + nI 1))] [] h) (K2 : ¬ (h.1 77 0) ≤ v3 → ¬ (h.1 79 v3.toNatClampNeg) ≤ ((h.1 (84 + v1.toNatClampNeg) ((nI 2) * v3).toNatClampNeg) + (h.1 (84 + v1.toNatClampNeg) (((nI 2) * v3) + (nI 1)).toNatClampNeg)) → J mX0_places d 0 0 Q 0 0 4 [some (.inr (.inr 77)), some (.inl v1), some (.inl (v2 ||| ((nI 3) <<< (((nI 2) * v3) &&& 31)))), some (.inl (v3 + nI 1))] [] h) : J mX0_places d 0 0 Q 0 0 4 [some (.inr (.inr 77)), some (.inl v1), some (.inl v2), some (.inl v3)] [] h := by
  refine bX0_places_4 hr (fun p1 => ?_) (fun p1 => ?_)
  · exact bX0_places_58  (K0 p1)
  · refine bX0_places_12 hr (G0 p1) (G1 p1) (G2 p1) (G3 p1) (fun p2 => ?_) (fun p2 => ?_)
    · refine bX0_places_52  ?_
      exact K1 p1 p2
    · refine bX0_places_44  ?_
      refine bX0_places_52  ?_
      exact K2 p1 p2

set_option maxRecDepth 20000 in
theorem t_X0_follow {d d1' : Nat} {Q : Option MV → MH → Prop} {h : MH} {v1 v2 v3 : Int32} (hr : zRf h) (hd1' : d1' + 1 ≤ d) (K0 : Con mX0_places d1' 0 0 [.inr (.inr 77), .inl v1] h (zri fun (x : Int32) h' => J mX0_follow d 0 0 Q 0 0 5 [some (.inr (.inr 77)), some (.inl v1), some (.inl v2), some (.inl v3), none, none, none] [.inl x] h')) : Con mX0_follow d 0 0 [.inr (.inr 77), .inl v1, .inl v2, .inl v3] h Q := by
  refine Con.intro rfl (Nat.le_of_ble_eq_true rfl) ?_
  show J mX0_follow d 0 0 Q 0 0 0 [some (.inr (.inr 77)), some (.inl v1), some (.inl v2), some (.inl v3), none, none, none] [] h
  exact bX0_follow_0 hr hd1' (K0)

set_option maxRecDepth 20000 in
theorem t_X0_follow_5 {d d1' : Nat} {Q : Option MV → MH → Prop} {h : MH} {v1 v2 v3 vs0 : Int32} (hr : zRf h) (hd1' : d1' + 1 ≤ d) (K0 : ¬ (vs0 &&& v3) = 0 → Con mX0_untilNext d1' 0 0 [.inr (.inr 77), .inl v1, .inl (vs0 &&& v3)] h (zri fun (x : Int32) h' => J mX0_follow d 0 0 Q 0 0 22 [some (.inr (.inr 77)), some (.inl v1), some (.inl v2), some (.inl v3), some (.inl (vs0 &&& v3)), none, none] [.inl x] h')) (K1 : (vs0 &&& v3) = 0 → Q none h) : J mX0_follow d 0 0 Q 0 0 5 [some (.inr (.inr 77)), some (.inl v1), some (.inl v2), some (.inl v3), none, none, none] [.inl vs0] h := by
  refine bX0_follow_5  (fun p1 => ?_) (fun p1 => ?_)
  · exact bX0_follow_15 hr hd1' (K0 p1)
  · exact bX0_follow_14  (K1 p1)

set_option maxRecDepth 20000 in
theorem t_X0_follow_22 {d  : Nat} {Q : Option MV → MH → Prop} {h : MH} {v1 v2 v3 v4 vs0 : Int32} (K0 : J mX0_follow d 0 0 Q 0 0 27 [some (.inr (.inr 77)), some (.inl v1), some (.inl v2), some (.inl v3), some (.inl v4), some (.inl vs0), some (.inl (nI 0))] [] h) : J mX0_follow d 0 0 Q 0 0 22 [some (.inr (.inr 77)), some (.inl v1), some (.inl v2), some (.inl v3), some (.inl v4), none, none] [.inl vs0] h := by
  refine bX0_follow_22  ?_
  exact K0

set_option maxRecDepth 20000 in
theorem t_X0_follow_27 {d d1' d2' d3' : Nat} {Q : Option MV → MH → Prop} {h : MH} {v1 v2 v3 v4 v5 v6 : Int32} (hr : zRf h) (hd : 1 ≤ d) (hd1' : d1' + 1 ≤ d) (hd2' : d2' + 1 ≤ d) (hd3' : d3' + 1 ≤ d) (G0 : (nI 4) ≤ v6 → zokO h (h.2.2.1 77 1) 3) (G1 : (nI 4) ≤ v6 → ¬ ((v2 + v5) / (nI 16)) < 0 → ¬ (nI 23104) ≤ ((v2 + v5) / (nI 16)) → vp_in (((v2 + v5) / (nI 16)) >>> ((nI 6) &&& 31)) 361) (G2 : ¬ (nI 4) ≤ v6 → vp_in (v1 + (nI 1)) 13) (G3 : ¬ (nI 4) ≤ v6 → vp_in v1 13) (G4 : ¬ (nI 4) ≤ v6 → zokA h (84 + v1.toNatClampNeg) 20 v6) (G5 : ¬ (nI 4) ≤ v6 → ((v4 >>> (v6 &&& 31)) &&& (nI 1)) = 0 → zokA h (84 + (v1 + (nI 1)).toNatClampNeg) 20 v6) (G6 : ¬ (nI 4) ≤ v6 → ¬ ((v4 >>> (v6 &&& 31)) &&& (nI 1)) = 0 → zokA h (84 + (v1 + (nI 1)).toNatClampNeg) 20 v6) (K0 : (nI 4) ≤ v6 → ((v2 + v5) / (nI 16)) < 0 → Con mX0_go d1' 0 0 [.inr (.inr 77), .inl (v1 + (nI 1)), .inl (v2 + v5), .inl v3] h (zrv fun h' => J mX0_follow d 0 0 Q 0 0 99 [some (.inr (.inr 77)), some (.inl v1), some (.inl v2), some (.inl v3), some (.inl v4), some (.inl v5), some (.inl v6)] [] h')) (K1 : (nI 4) ≤ v6 → ¬ ((v2 + v5) / (nI 16)) < 0 → (nI 23104) ≤ ((v2 + v5) / (nI 16)) → Con mX0_go d2' 0 0 [.inr (.inr 77), .inl (v1 + (nI 1)), .inl (v2 + v5), .inl v3] h (zrv fun h' => J mX0_follow d 0 0 Q 0 0 99 [some (.inr (.inr 77)), some (.inl v1), some (.inl v2), some (.inl v3), some (.inl v4), some (.inl v5), some (.inl v6)] [] h')) (K2 : (nI 4) ≤ v6 → ¬ ((v2 + v5) / (nI 16)) < 0 → ¬ (nI 23104) ≤ ((v2 + v5) / (nI 16)) → Con mX0_go d3' 0 0 [.inr (.inr 77), .inl (v1 + (nI 1)), .inl (v2 + v5), .inl v3] (zsL h ((h.2.2.1 77 1) + 1) (((v2 + v5) / (nI 16)) >>> ((nI 6) &&& 31)).toNatClampNeg ((h.2.1 ((h.2.2.1 77 1) + 1) (((v2 + v5) / (nI 16)) >>> ((nI 6) &&& 31)).toNatClampNeg) ||| ((lN 1) <<< ((((v2 + v5) / (nI 16)) &&& (nI 63)).toInt64 &&& 63)))) (zrv fun h' => J mX0_follow d 0 0 Q 0 0 99 [some (.inr (.inr 77)), some (.inl v1), some (.inl v2), some (.inl v3), some (.inl v4), some (.inl v5), some (.inl v6)] [] h')) (K3 : ¬ (nI 4) ≤ v6 → ((v4 >>> (v6 &&& 31)) &&& (nI 1)) = 0 → J mX0_follow d 0 0 Q 0 0 27 [some (.inr (.inr 77)), some (.inl v1), some (.inl v2), some (.inl v3), some (.inl v4), some (.inl v5), some (.inl (v6 + nI 1))] [] (zsI h (84 + (v1 + (nI 1)).toNatClampNeg) v6.toNatClampNeg ((h.1 (84 + v1.toNatClampNeg) v6.toNatClampNeg) + (nI 0)))) (K4 : ¬ (nI 4) ≤ v6 → ¬ ((v4 >>> (v6 &&& 31)) &&& (nI 1)) = 0 → J mX0_follow d 0 0 Q 0 0 27 [some (.inr (.inr 77)), some (.inl v1), some (.inl v2), some (.inl v3), some (.inl v4), some (.inl v5), some (.inl (v6 + nI 1))] [] (zsI h (84 + (v1 + (nI 1)).toNatClampNeg) v6.toNatClampNeg ((h.1 (84 + v1.toNatClampNeg) v6.toNatClampNeg) + v5))) : J mX0_follow d 0 0 Q 0 0 27 [some (.inr (.inr 77)), some (.inl v1), some (.inl v2), some (.inl v3), some (.inl v4), some (.inl v5), some (.inl v6)] [] h := by
  refine bX0_follow_27  (fun p1 => ?_) (fun p1 => ?_)
  · refine bX0_follow_76 (d' := 0) hr (G0 p1) (by omega) ?_
    refine t_X3_add hr ?_ ?_ ?_ ?_ ?_
    · intro p2 p3; exact (G0 p1)
    · intro p4 p5; exact (G1 p1 p4 p5)
    · intro p6
      exact bX0_follow_87 hr hd1' (K0 p1 p6)
    · intro p7 p8
      exact bX0_follow_87 hr hd2' (K1 p1 p7 p8)
    · intro p9 p10
      exact bX0_follow_87 hr hd3' (K2 p1 p9 p10)
  · refine bX0_follow_33 hr (G2 p1) (G3 p1) (G4 p1) (fun p11 => ?_) (fun p11 => ?_)
    · refine bX0_follow_67  ?_
      refine bX0_follow_68 (G5 p1 p11) ?_
      exact K3 p1 p11
    · refine bX0_follow_62  ?_
      refine bX0_follow_68 (G6 p1 p11) ?_
      exact K4 p1 p11

set_option maxRecDepth 20000 in
theorem t_X0_follow_99 {d  : Nat} {Q : Option MV → MH → Prop} {h : MH} {v1 v2 v3 v4 v5 v6 : Int32} (K0 : Q none h) : J mX0_follow d 0 0 Q 0 0 99 [some (.inr (.inr 77)), some (.inl v1), some (.inl v2), some (.inl v3), some (.inl v4), some (.inl v5), some (.inl v6)] [] h := by
  exact bX0_follow_99  (K0)

set_option maxRecDepth 20000 in
theorem t_X0_untilNext {d  : Nat} {Q : Option MV → MH → Prop} {h : MH} {v1 v2 : Int32} (K0 : J mX0_untilNext d 0 0 Q 0 0 6 [some (.inr (.inr 77)), some (.inl v1), some (.inl v2), some (.inl (368656 : Int32)), some (.inl (nI 0)), none, none, none] [] h) : Con mX0_untilNext d 0 0 [.inr (.inr 77), .inl v1, .inl v2] h Q := by
  refine Con.intro rfl (Nat.le_of_ble_eq_true rfl) ?_
  show J mX0_untilNext d 0 0 Q 0 0 0 [some (.inr (.inr 77)), some (.inl v1), some (.inl v2), none, none, none, none, none] [] h
  refine bX0_untilNext_0  ?_
  exact K0

set_option maxRecDepth 20000 in
theorem t_X0_untilNext_6 {d d1' d2' : Nat} {Q : Option MV → MH → Prop} {h : MH} {u5 u6 u7 : Option MV} {v1 v2 v3 v4 : Int32} (hr : zRf h) (hd : 1 ≤ d) (hd1' : d1' + 1 ≤ d) (hd2' : d2' + 1 ≤ d) (G0 : ¬ (h.1 77 0) ≤ v4 → vp_in v1 13) (G1 : ¬ (h.1 77 0) ≤ v4 → zokA h (84 + v1.toNatClampNeg) 20 ((nI 2) * v4)) (G2 : ¬ (h.1 77 0) ≤ v4 → zokA h (84 + v1.toNatClampNeg) 20 (((nI 2) * v4) + (nI 1))) (G3 : ¬ (h.1 77 0) ≤ v4 → (((v2 >>> (((nI 2) * v4) &&& 31)) &&& (nI 3)) &&& (nI 1)) = 0 → (((v2 >>> (((nI 2) * v4) &&& 31)) &&& (nI 3)) &&& (nI 2)) = 0 → ((v2 >>> (((nI 2) * v4) &&& 31)) &&& (nI 3)) = (nI 3) → vp_in v4 2) (K0 : (h.1 77 0) ≤ v4 → Q (some (.inl v3)) h) (K1 : ¬ (h.1 77 0) ≤ v4 → (((v2 >>> (((nI 2) * v4) &&& 31)) &&& (nI 3)) &&& (nI 1)) = 0 → (((v2 >>> (((nI 2) * v4) &&& 31)) &&& (nI 3)) &&& (nI 2)) = 0 → ¬ ((v2 >>> (((nI 2) * v4) &&& 31)) &&& (nI 3)) = (nI 3) → J mX0_untilNext d 0 0 Q 0 0 6 [some (.inr (.inr 77)), some (.inl v1), some (.inl v2), some (.inl v3), some (.inl (v4 + nI 1)), some (.inl (h.1 (84 + v1.toNatClampNeg) ((nI 2) * v4).toNatClampNeg)), some (.inl (h.1 (84 + v1.toNatClampNeg) (((nI 2) * v4) + (nI 1)).toNatClampNeg)), some (.inl ((v2 >>> (((nI 2) * v4) &&& 31)) &&& (nI 3)))] [] h) (K2 : ¬ (h.1 77 0) ≤ v4 → (((v2 >>> (((nI 2) * v4) &&& 31)) &&& (nI 3)) &&& (nI 1)) = 0 → (((v2 >>> (((nI 2) * v4) &&& 31)) &&& (nI 3)) &&& (nI 2)) = 0 → ((v2 >>> (((nI 2) * v4) &&& 31)) &&& (nI 3)) = (nI 3) → J mX0_untilNext d 0 0 Q 0 0 6 [some (.inr (.inr 77)), some (.inl v1), some (.inl v2), some (.inl (if ((((h.1 79 v4.toNatClampNeg) - (h.1 (84 + v1.toNatClampNeg) ((nI 2) * v4).toNatClampNeg)) - (h.1 (84 + v1.toNatClampNeg) (((nI 2) * v4) + (nI 1)).toNatClampNeg)) / (nI 2)) < v3 then ((((h.1 79 v4.toNatClampNeg) - (h.1 (84 + v1.toNatClampNeg) ((nI 2) * v4).toNatClampNeg)) - (h.1 (84 + v1.toNatClampNeg) (((nI 2) * v4) + (nI 1)).toNatClampNeg)) / (nI 2)) else v3)), some (.inl (v4 + nI 1)), some (.inl (h.1 (84 + v1.toNatClampNeg) ((nI 2) * v4).toNatClampNeg)), some (.inl (h.1 (84 + v1.toNatClampNeg) (((nI 2) * v4) + (nI 1)).toNatClampNeg)), some (.inl ((v2 >>> (((nI 2) * v4) &&& 31)) &&& (nI 3)))] [] h) (K3 : ¬ (h.1 77 0) ≤ v4 → (((v2 >>> (((nI 2) * v4) &&& 31)) &&& (nI 3)) &&& (nI 1)) = 0 → ¬ (((v2 >>> (((nI 2) * v4) &&& 31)) &&& (nI 3)) &&& (nI 2)) = 0 → Con mX0_untilEdgeFromEnd d1' 0 0 [.inr (.inr 77), .inl v4, .inl (h.1 (84 + v1.toNatClampNeg) (((nI 2) * v4) + (nI 1)).toNatClampNeg)] h (zri fun (x : Int32) h' => J mX0_untilNext d 0 0 Q 0 0 89 [some (.inr (.inr 77)), some (.inl v1), some (.inl v2), some (.inl v3), some (.inl v4), some (.inl (h.1 (84 + v1.toNatClampNeg) ((nI 2) * v4).toNatClampNeg)), some (.inl (h.1 (84 + v1.toNatClampNeg) (((nI 2) * v4) + (nI 1)).toNatClampNeg)), some (.inl ((v2 >>> (((nI 2) * v4) &&& 31)) &&& (nI 3)))] [.inl x, .inl v3] h')) (K4 : ¬ (h.1 77 0) ≤ v4 → ¬ (((v2 >>> (((nI 2) * v4) &&& 31)) &&& (nI 3)) &&& (nI 1)) = 0 → Con mX0_untilEdge d2' 0 0 [.inr (.inr 77), .inl v4, .inl (h.1 (84 + v1.toNatClampNeg) ((nI 2) * v4).toNatClampNeg)] h (zri fun (x : Int32) h' => J mX0_untilNext d 0 0 Q 0 0 69 [some (.inr (.inr 77)), some (.inl v1), some (.inl v2), some (.inl v3), some (.inl v4), some (.inl (h.1 (84 + v1.toNatClampNeg) ((nI 2) * v4).toNatClampNeg)), some (.inl (h.1 (84 + v1.toNatClampNeg) (((nI 2) * v4) + (nI 1)).toNatClampNeg)), some (.inl ((v2 >>> (((nI 2) * v4) &&& 31)) &&& (nI 3)))] [.inl x, .inl v3] h')) : J mX0_untilNext d 0 0 Q 0 0 6 [some (.inr (.inr 77)), some (.inl v1), some (.inl v2), some (.inl v3), some (.inl v4), u5, u6, u7] [] h := by
  refine bX0_untilNext_6 hr (fun p1 => ?_) (fun p1 => ?_)
  · exact bX0_untilNext_125  (K0 p1)
  · refine bX0_untilNext_15 hr (G0 p1) (G1 p1) (G2 p1) (fun p2 => ?_) (fun p2 => ?_)
    · refine bX0_untilNext_73  (fun p3 => ?_) (fun p3 => ?_)
      · refine bX0_untilNext_93  (fun p4 => ?_) (fun p4 => ?_)
        · refine bX0_untilNext_119  ?_
          exact K1 p1 p2 p3 p4
        · refine bX0_untilNext_99 hr (G3 p1 p2 p3 p4) (by omega) ?_
          refine bX0_untilNext_118  ?_
          refine bX0_untilNext_119  ?_
          exact K2 p1 p2 p3 p4
      · exact bX0_untilNext_80 hr hd1' (K3 p1 p2 p3)
    · exact bX0_untilNext_60 hr hd2' (K4 p1 p2)

set_option maxRecDepth 20000 in
theorem t_X0_untilNext_69 {d d1' : Nat} {Q : Option MV → MH → Prop} {h : MH} {v1 v2 v3 v4 v5 v6 v7 vs0 vs1 : Int32} (hr : zRf h) (hd : 1 ≤ d) (hd1' : d1' + 1 ≤ d) (G0 : (v7 &&& (nI 2)) = 0 → v7 = (nI 3) → vp_in v4 2) (K0 : (v7 &&& (nI 2)) = 0 → ¬ v7 = (nI 3) → J mX0_untilNext d 0 0 Q 0 0 6 [some (.inr (.inr 77)), some (.inl v1), some (.inl v2), some (.inl (if vs1 < vs0 then vs1 else vs0)), some (.inl (v4 + nI 1)), some (.inl v5), some (.inl v6), some (.inl v7)] [] h) (K1 : (v7 &&& (nI 2)) = 0 → v7 = (nI 3) → J mX0_untilNext d 0 0 Q 0 0 6 [some (.inr (.inr 77)), some (.inl v1), some (.inl v2), some (.inl (if ((((h.1 79 v4.toNatClampNeg) - v5) - v6) / (nI 2)) < (if vs1 < vs0 then vs1 else vs0) then ((((h.1 79 v4.toNatClampNeg) - v5) - v6) / (nI 2)) else (if vs1 < vs0 then vs1 else vs0))), some (.inl (v4 + nI 1)), some (.inl v5), some (.inl v6), some (.inl v7)] [] h) (K2 : ¬ (v7 &&& (nI 2)) = 0 → Con mX0_untilEdgeFromEnd d1' 0 0 [.inr (.inr 77), .inl v4, .inl v6] h (zri fun (x : Int32) h' => J mX0_untilNext d 0 0 Q 0 0 89 [some (.inr (.inr 77)), some (.inl v1), some (.inl v2), some (.inl (if vs1 < vs0 then vs1 else vs0)), some (.inl v4), some (.inl v5), some (.inl v6), some (.inl v7)] [.inl x, .inl (if vs1 < vs0 then vs1 else vs0)] h')) : J mX0_untilNext d 0 0 Q 0 0 69 [some (.inr (.inr 77)), some (.inl v1), some (.inl v2), some (.inl v3), some (.inl v4), some (.inl v5), some (.inl v6), some (.inl v7)] [.inl vs1, .inl vs0] h := by
  refine bX0_untilNext_69  (by omega) ?_
  refine bX0_untilNext_72  ?_
  refine bX0_untilNext_73  (fun p1 => ?_) (fun p1 => ?_)
  · refine bX0_untilNext_93  (fun p2 => ?_) (fun p2 => ?_)
    · refine bX0_untilNext_119  ?_
      exact K0 p1 p2
    · refine bX0_untilNext_99 hr (G0 p1 p2) (by omega) ?_
      refine bX0_untilNext_118  ?_
      refine bX0_untilNext_119  ?_
      exact K1 p1 p2
  · exact bX0_untilNext_80 hr hd1' (K2 p1)

set_option maxRecDepth 20000 in
theorem t_X0_untilNext_89 {d  : Nat} {Q : Option MV → MH → Prop} {h : MH} {v1 v2 v3 v4 v5 v6 v7 vs0 vs1 : Int32} (hr : zRf h) (hd : 1 ≤ d) (G0 : v7 = (nI 3) → vp_in v4 2) (K0 : ¬ v7 = (nI 3) → J mX0_untilNext d 0 0 Q 0 0 6 [some (.inr (.inr 77)), some (.inl v1), some (.inl v2), some (.inl (if vs1 < vs0 then vs1 else vs0)), some (.inl (v4 + nI 1)), some (.inl v5), some (.inl v6), some (.inl v7)] [] h) (K1 : v7 = (nI 3) → J mX0_untilNext d 0 0 Q 0 0 6 [some (.inr (.inr 77)), some (.inl v1), some (.inl v2), some (.inl (if ((((h.1 79 v4.toNatClampNeg) - v5) - v6) / (nI 2)) < (if vs1 < vs0 then vs1 else vs0) then ((((h.1 79 v4.toNatClampNeg) - v5) - v6) / (nI 2)) else (if vs1 < vs0 then vs1 else vs0))), some (.inl (v4 + nI 1)), some (.inl v5), some (.inl v6), some (.inl v7)] [] h) : J mX0_untilNext d 0 0 Q 0 0 89 [some (.inr (.inr 77)), some (.inl v1), some (.inl v2), some (.inl v3), some (.inl v4), some (.inl v5), some (.inl v6), some (.inl v7)] [.inl vs1, .inl vs0] h := by
  refine bX0_untilNext_89  (by omega) ?_
  refine bX0_untilNext_92  ?_
  refine bX0_untilNext_93  (fun p1 => ?_) (fun p1 => ?_)
  · refine bX0_untilNext_119  ?_
    exact K0 p1
  · refine bX0_untilNext_99 hr (G0 p1) (by omega) ?_
    refine bX0_untilNext_118  ?_
    refine bX0_untilNext_119  ?_
    exact K1 p1

set_option maxRecDepth 20000 in
theorem t_X0_untilEdge {d  : Nat} {Q : Option MV → MH → Prop} {h : MH} {v1 v2 : Int32} (K0 : J mX0_untilEdge d 0 0 Q 0 0 2 [some (.inr (.inr 77)), some (.inl v1), some (.inl v2), some (.inl (nI 1))] [] h) : Con mX0_untilEdge d 0 0 [.inr (.inr 77), .inl v1, .inl v2] h Q := by
  refine Con.intro rfl (Nat.le_of_ble_eq_true rfl) ?_
  show J mX0_untilEdge d 0 0 Q 0 0 0 [some (.inr (.inr 77)), some (.inl v1), some (.inl v2), none] [] h
  refine bX0_untilEdge_0  ?_
  exact K0

set_option maxRecDepth 20000 in
theorem t_X0_untilEdge_2 {d  : Nat} {Q : Option MV → MH → Prop} {h : MH} {v1 v2 v3 : Int32} (hr : zRf h) (G0 : vp_in v1 2) (G1 : ¬ (h.1 78 v1.toNatClampNeg) < v3 → zokA h (81 + v1.toNatClampNeg) 20 v3) (K0 : (h.1 78 v1.toNatClampNeg) < v3 → Q (some (.inl (nI 0))) h) (K1 : ¬ (h.1 78 v1.toNatClampNeg) < v3 → (h.1 (81 + v1.toNatClampNeg) v3.toNatClampNeg) ≤ v2 → J mX0_untilEdge d 0 0 Q 0 0 2 [some (.inr (.inr 77)), some (.inl v1), some (.inl v2), some (.inl (v3 + nI 1))] [] h) (K2 : ¬ (h.1 78 v1.toNatClampNeg) < v3 → ¬ (h.1 (81 + v1.toNatClampNeg) v3.toNatClampNeg) ≤ v2 → Q (some (.inl ((h.1 (81 + v1.toNatClampNeg) v3.toNatClampNeg) - v2))) h) : J mX0_untilEdge d 0 0 Q 0 0 2 [some (.inr (.inr 77)), some (.inl v1), some (.inl v2), some (.inl v3)] [] h := by
  refine bX0_untilEdge_2 hr (G0) (fun p1 => ?_) (fun p1 => ?_)
  · exact bX0_untilEdge_41  (K0 p1)
  · refine bX0_untilEdge_12 hr (G0) (G1 p1) (fun p2 => ?_) (fun p2 => ?_)
    · refine bX0_untilEdge_35  ?_
      exact K1 p1 p2
    · exact bX0_untilEdge_24 hr (G0) (G1 p1) (K2 p1 p2)

set_option maxRecDepth 20000 in
theorem t_X0_untilEdgeFromEnd {d  : Nat} {Q : Option MV → MH → Prop} {h : MH} {v1 v2 : Int32} (hr : zRf h) (G0 : vp_in v1 2) (K0 : J mX0_untilEdgeFromEnd d 0 0 Q 0 0 9 [some (.inr (.inr 77)), some (.inl v1), some (.inl v2), some (.inl ((h.1 78 v1.toNatClampNeg) - (nI 1)))] [] h) : Con mX0_untilEdgeFromEnd d 0 0 [.inr (.inr 77), .inl v1, .inl v2] h Q := by
  refine Con.intro rfl (Nat.le_of_ble_eq_true rfl) ?_
  show J mX0_untilEdgeFromEnd d 0 0 Q 0 0 0 [some (.inr (.inr 77)), some (.inl v1), some (.inl v2), none] [] h
  refine bX0_untilEdgeFromEnd_0 hr (G0) ?_
  exact K0

set_option maxRecDepth 20000 in
theorem t_X0_untilEdgeFromEnd_9 {d  : Nat} {Q : Option MV → MH → Prop} {h : MH} {v1 v2 v3 : Int32} (hr : zRf h) (G0 : ¬ v3 < 0 → vp_in v1 2) (G1 : ¬ v3 < 0 → zokA h (81 + v1.toNatClampNeg) 20 v3) (K0 : v3 < 0 → Q (some (.inl (nI 0))) h) (K1 : ¬ v3 < 0 → ((h.1 79 v1.toNatClampNeg) - (h.1 (81 + v1.toNatClampNeg) v3.toNatClampNeg)) ≤ v2 → J mX0_untilEdgeFromEnd d 0 0 Q 0 0 9 [some (.inr (.inr 77)), some (.inl v1), some (.inl v2), some (.inl (v3 + -(nI 1)))] [] h) (K2 : ¬ v3 < 0 → ¬ ((h.1 79 v1.toNatClampNeg) - (h.1 (81 + v1.toNatClampNeg) v3.toNatClampNeg)) ≤ v2 → Q (some (.inl (((h.1 79 v1.toNatClampNeg) - (h.1 (81 + v1.toNatClampNeg) v3.toNatClampNeg)) - v2))) h) : J mX0_untilEdgeFromEnd d 0 0 Q 0 0 9 [some (.inr (.inr 77)), some (.inl v1), some (.inl v2), some (.inl v3)] [] h := by
  refine bX0_untilEdgeFromEnd_9  (fun p1 => ?_) (fun p1 => ?_)
  · exact bX0_untilEdgeFromEnd_56  (K0 p1)
  · refine bX0_untilEdgeFromEnd_13 hr (G0 p1) (G1 p1) (fun p2 => ?_) (fun p2 => ?_)
    · refine bX0_untilEdgeFromEnd_50  ?_
      exact K1 p1 p2
    · exact bX0_untilEdgeFromEnd_32 hr (G0 p1) (G1 p1) (K2 p1 p2)
