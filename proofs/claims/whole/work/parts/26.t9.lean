set_option maxRecDepth 20000 in
theorem t_X9_lay {d  : Nat} {Q : Option MV → MH → Prop} {h : MH} {v2 v3 : Int32} {v1 : Nat} (hr : zRf h) (G0 : v3 = 0 ∨ v3 = 1) (K0 : J mX9_lay d 0 0 Q 0 0 23 [some (.inr (.inr 62)), some (.inr (.inr v1)), some (.inl v2), some (.inl v3), some (.inl (nI 0))] [] (zsI (zsI (zsI (zsI h 62 1 v3) 62 0 (nI 0)) 62 2 (nI 0)) 62 3 (nI 0))) : Con mX9_lay d 0 0 [.inr (.inr 62), .inr (.inr v1), .inl v2, .inl v3] h Q := by
  refine Con.intro rfl (Nat.le_of_ble_eq_true rfl) ?_
  show J mX9_lay d 0 0 Q 0 0 0 [some (.inr (.inr 62)), some (.inr (.inr v1)), some (.inl v2), some (.inl v3), none] [] h
  refine bX9_lay_0 hr (G0) ?_
  exact K0

set_option maxRecDepth 20000 in
theorem t_X9_lay_23 {d d1' : Nat} {Q : Option MV → MH → Prop} {h : MH} {v2 v3 v4 : Int32} {v1 : Nat} (hr : zRf h) (hd1' : d1' + 1 ≤ d) (G0 : zokO h v1 2) (K0 : (h.1 v1 0) ≤ v4 → Q none h) (K1 : ¬ (h.1 v1 0) ≤ v4 → (nI 4) ≤ (h.1 62 0) → Q none h) (K2 : ¬ (h.1 v1 0) ≤ v4 → ¬ (nI 4) ≤ (h.1 62 0) → ((v2 >>> (v4 &&& 31)) &&& (nI 1)) = 0 → J mX9_lay d 0 0 Q 0 0 23 [some (.inr (.inr 62)), some (.inr (.inr v1)), some (.inl v2), some (.inl v3), some (.inl (v4 + nI 1))] [] h) (K3 : ¬ (h.1 v1 0) ≤ v4 → ¬ (nI 4) ≤ (h.1 62 0) → ¬ ((v2 >>> (v4 &&& 31)) &&& (nI 1)) = 0 → Con mX2_sparksOf d1' 0 0 [.inr (.inr v1), .inl v4] h (zri fun (x : Int32) h' => J mX9_lay d 0 0 Q 0 0 65 [some (.inr (.inr 62)), some (.inr (.inr v1)), some (.inl v2), some (.inl v3), some (.inl v4)] [.inl x, .inl (h.1 62 0), .inr (.inr 66)] h')) : J mX9_lay d 0 0 Q 0 0 23 [some (.inr (.inr 62)), some (.inr (.inr v1)), some (.inl v2), some (.inl v3), some (.inl v4)] [] h := by
  refine bX9_lay_23 (G0) (fun p1 => ?_) (fun p1 => ?_)
  · exact bX9_lay_136  (K0 p1)
  · refine bX9_lay_32 hr (fun p2 => ?_) (fun p2 => ?_)
    · exact bX9_lay_136  (K1 p1 p2)
    · refine bX9_lay_40  (fun p3 => ?_) (fun p3 => ?_)
      · refine bX9_lay_130  ?_
        exact K2 p1 p2 p3
      · exact bX9_lay_49 hr (vp_in_nI (by decide) (by decide)) (G0) hd1' (K3 p1 p2 p3)

set_option maxRecDepth 20000 in
theorem t_X9_lay_65 {d d1' : Nat} {Q : Option MV → MH → Prop} {h : MH} {v2 v3 v4 vs1 vs2 : Int32} {v1 vs0 : Nat} (hr : zRf h) (hd1' : d1' + 1 ≤ d) (G0 : zokA h vs0 20 vs1) (G1 : zokA h 72 20 ((zsI h vs0 vs1.toNatClampNeg vs2).1 62 0)) (G2 : zokA h 66 20 ((zsI (zsI h vs0 vs1.toNatClampNeg vs2) 72 ((zsI h vs0 vs1.toNatClampNeg vs2).1 62 0).toNatClampNeg (nI 0)).1 62 0)) (G3 : zokA h 66 20 ((zsI (zsI (zsI h vs0 vs1.toNatClampNeg vs2) 72 ((zsI h vs0 vs1.toNatClampNeg vs2).1 62 0).toNatClampNeg (nI 0)) 62 2 (((zsI (zsI h vs0 vs1.toNatClampNeg vs2) 72 ((zsI h vs0 vs1.toNatClampNeg vs2).1 62 0).toNatClampNeg (nI 0)).1 62 2) + ((zsI (zsI h vs0 vs1.toNatClampNeg vs2) 72 ((zsI h vs0 vs1.toNatClampNeg vs2).1 62 0).toNatClampNeg (nI 0)).1 66 ((zsI (zsI h vs0 vs1.toNatClampNeg vs2) 72 ((zsI h vs0 vs1.toNatClampNeg vs2).1 62 0).toNatClampNeg (nI 0)).1 62 0).toNatClampNeg))).1 62 0)) (K0 : Con mX9_commonMeasure d1' 0 0 [.inl ((zsI (zsI (zsI h vs0 vs1.toNatClampNeg vs2) 72 ((zsI h vs0 vs1.toNatClampNeg vs2).1 62 0).toNatClampNeg (nI 0)) 62 2 (((zsI (zsI h vs0 vs1.toNatClampNeg vs2) 72 ((zsI h vs0 vs1.toNatClampNeg vs2).1 62 0).toNatClampNeg (nI 0)).1 62 2) + ((zsI (zsI h vs0 vs1.toNatClampNeg vs2) 72 ((zsI h vs0 vs1.toNatClampNeg vs2).1 62 0).toNatClampNeg (nI 0)).1 66 ((zsI (zsI h vs0 vs1.toNatClampNeg vs2) 72 ((zsI h vs0 vs1.toNatClampNeg vs2).1 62 0).toNatClampNeg (nI 0)).1 62 0).toNatClampNeg))).1 62 3), .inl ((zsI (zsI (zsI h vs0 vs1.toNatClampNeg vs2) 72 ((zsI h vs0 vs1.toNatClampNeg vs2).1 62 0).toNatClampNeg (nI 0)) 62 2 (((zsI (zsI h vs0 vs1.toNatClampNeg vs2) 72 ((zsI h vs0 vs1.toNatClampNeg vs2).1 62 0).toNatClampNeg (nI 0)).1 62 2) + ((zsI (zsI h vs0 vs1.toNatClampNeg vs2) 72 ((zsI h vs0 vs1.toNatClampNeg vs2).1 62 0).toNatClampNeg (nI 0)).1 66 ((zsI (zsI h vs0 vs1.toNatClampNeg vs2) 72 ((zsI h vs0 vs1.toNatClampNeg vs2).1 62 0).toNatClampNeg (nI 0)).1 62 0).toNatClampNeg))).1 66 ((zsI (zsI (zsI h vs0 vs1.toNatClampNeg vs2) 72 ((zsI h vs0 vs1.toNatClampNeg vs2).1 62 0).toNatClampNeg (nI 0)) 62 2 (((zsI (zsI h vs0 vs1.toNatClampNeg vs2) 72 ((zsI h vs0 vs1.toNatClampNeg vs2).1 62 0).toNatClampNeg (nI 0)).1 62 2) + ((zsI (zsI h vs0 vs1.toNatClampNeg vs2) 72 ((zsI h vs0 vs1.toNatClampNeg vs2).1 62 0).toNatClampNeg (nI 0)).1 66 ((zsI (zsI h vs0 vs1.toNatClampNeg vs2) 72 ((zsI h vs0 vs1.toNatClampNeg vs2).1 62 0).toNatClampNeg (nI 0)).1 62 0).toNatClampNeg))).1 62 0).toNatClampNeg)] (zsI (zsI (zsI h vs0 vs1.toNatClampNeg vs2) 72 ((zsI h vs0 vs1.toNatClampNeg vs2).1 62 0).toNatClampNeg (nI 0)) 62 2 (((zsI (zsI h vs0 vs1.toNatClampNeg vs2) 72 ((zsI h vs0 vs1.toNatClampNeg vs2).1 62 0).toNatClampNeg (nI 0)).1 62 2) + ((zsI (zsI h vs0 vs1.toNatClampNeg vs2) 72 ((zsI h vs0 vs1.toNatClampNeg vs2).1 62 0).toNatClampNeg (nI 0)).1 66 ((zsI (zsI h vs0 vs1.toNatClampNeg vs2) 72 ((zsI h vs0 vs1.toNatClampNeg vs2).1 62 0).toNatClampNeg (nI 0)).1 62 0).toNatClampNeg))) (zri fun (x : Int32) h' => J mX9_lay d 0 0 Q 0 0 117 [some (.inr (.inr 62)), some (.inr (.inr v1)), some (.inl v2), some (.inl v3), some (.inl v4)] [.inl x, .inr (.inr 62)] h')) : J mX9_lay d 0 0 Q 0 0 65 [some (.inr (.inr 62)), some (.inr (.inr v1)), some (.inl v2), some (.inl v3), some (.inl v4)] [.inl vs2, .inl vs1, .inr (.inr vs0)] h := by
  exact bX9_lay_65 hr (G0) (vp_in_nI (by decide) (by decide)) (G1) (G2) (G3) hd1' (K0)

set_option maxRecDepth 20000 in
theorem t_X9_lay_117 {d  : Nat} {Q : Option MV → MH → Prop} {h : MH} {v2 v3 v4 vs1 : Int32} {v1 : Nat} (hr : zRf h) (K0 : J mX9_lay d 0 0 Q 0 0 23 [some (.inr (.inr 62)), some (.inr (.inr v1)), some (.inl v2), some (.inl v3), some (.inl (v4 + nI 1))] [] (zsI (zsI h 62 3 vs1) 62 0 (((zsI h 62 3 vs1).1 62 0) + (nI 1)))) : J mX9_lay d 0 0 Q 0 0 117 [some (.inr (.inr 62)), some (.inr (.inr v1)), some (.inl v2), some (.inl v3), some (.inl v4)] [.inl vs1, .inr (.inr 62)] h := by
  refine bX9_lay_117 hr ?_
  refine bX9_lay_130  ?_
  exact K0

set_option maxRecDepth 20000 in
theorem t_X9_commonMeasure {d  : Nat} {Q : Option MV → MH → Prop} {h : MH} {v0 v1 : Int32} (K0 : J mX9_commonMeasure d 0 0 Q 0 0 7 [some (.inl v0), some (.inl v1), some (.inl v0), some (.inl v1), some (.inl (nI 0)), none] [] h) : Con mX9_commonMeasure d 0 0 [.inl v0, .inl v1] h Q := by
  refine Con.intro rfl (Nat.le_of_ble_eq_true rfl) ?_
  show J mX9_commonMeasure d 0 0 Q 0 0 0 [some (.inl v0), some (.inl v1), none, none, none, none] [] h
  refine bX9_commonMeasure_0  ?_
  exact K0

set_option maxRecDepth 20000 in
theorem t_X9_commonMeasure_7 {d  : Nat} {Q : Option MV → MH → Prop} {h : MH} {u5 : Option MV} {v0 v1 v2 v3 v4 : Int32} (K0 : (nI 100) ≤ v4 → Q (some (.inl v2)) h) (K1 : ¬ (nI 100) ≤ v4 → v3 = 0 → Q (some (.inl v2)) h) (K2 : ¬ (nI 100) ≤ v4 → ¬ v3 = 0 → J mX9_commonMeasure d 0 0 Q 0 0 7 [some (.inl v0), some (.inl v1), some (.inl v3), some (.inl (v2 - v2 / v3 * v3)), some (.inl (v4 + nI 1)), some (.inl (v2 - v2 / v3 * v3))] [] h) : J mX9_commonMeasure d 0 0 Q 0 0 7 [some (.inl v0), some (.inl v1), some (.inl v2), some (.inl v3), some (.inl v4), u5] [] h := by
  refine bX9_commonMeasure_7  (fun p1 => ?_) (fun p1 => ?_)
  · exact bX9_commonMeasure_34  (K0 p1)
  · refine bX9_commonMeasure_14  (fun p2 => ?_) (fun p2 => ?_)
    · exact bX9_commonMeasure_34  (K1 p1 p2)
    · refine bX9_commonMeasure_18 p2 ?_
      exact K2 p1 p2

set_option maxRecDepth 20000 in
theorem t_X9_onGrid {d  : Nat} {Q : Option MV → MH → Prop} {h : MH} {v1 : Int32} (hr : zRf h) (G0 : ¬ ((h.1 62 3) >>> ((h.1 62 0) &&& 31)) ≤ 0 → ¬ ((h.1 62 3) >>> ((h.1 62 0) &&& 31)) = 0) (K0 : ((h.1 62 3) >>> ((h.1 62 0) &&& 31)) ≤ 0 → Q (some (.inl (nI 0))) h) (K1 : ¬ ((h.1 62 3) >>> ((h.1 62 0) &&& 31)) ≤ 0 → ¬ (v1 - v1 / ((h.1 62 3) >>> ((h.1 62 0) &&& 31)) * ((h.1 62 3) >>> ((h.1 62 0) &&& 31))) = 0 → Q (some (.inl (nI 0))) h) (K2 : ¬ ((h.1 62 3) >>> ((h.1 62 0) &&& 31)) ≤ 0 → (v1 - v1 / ((h.1 62 3) >>> ((h.1 62 0) &&& 31)) * ((h.1 62 3) >>> ((h.1 62 0) &&& 31))) = 0 → Q (some (.inl (nI 1))) h) : Con mX9_onGrid d 0 0 [.inr (.inr 62), .inl v1] h Q := by
  refine Con.intro rfl (Nat.le_of_ble_eq_true rfl) ?_
  show J mX9_onGrid d 0 0 Q 0 0 0 [some (.inr (.inr 62)), some (.inl v1), none] [] h
  refine bX9_onGrid_0 hr (fun p1 => ?_) (fun p1 => ?_)
  · refine bX9_onGrid_24  ?_
    exact bX9_onGrid_25 (by decide) (K0 p1)
  · refine bX9_onGrid_14 (G0 p1) (fun p2 => ?_) (fun p2 => ?_)
    · refine bX9_onGrid_24  ?_
      exact bX9_onGrid_25 (by decide) (K1 p1 p2)
    · refine bX9_onGrid_20  ?_
      exact bX9_onGrid_25 (by decide) (K2 p1 p2)

set_option maxRecDepth 20000 in
theorem t_X9_markAll {d d1' : Nat} {Q : Option MV → MH → Prop} {h : MH} {v1 : Nat} (hr : zRf h) (hd1' : d1' + 1 ≤ d) (K0 : Con mX9_begin d1' 0 0 [.inr (.inr 62)] (zsI (zsR h 62 11 v1) 62 4 (nI 0)) (zrv fun h' => J mX9_markAll d 0 0 Q 0 0 14 [some (.inr (.inr 62)), some (.inr (.inr v1))] [] h')) : Con mX9_markAll d 0 0 [.inr (.inr 62), .inr (.inr v1)] h Q := by
  refine Con.intro rfl (Nat.le_of_ble_eq_true rfl) ?_
  show J mX9_markAll d 0 0 Q 0 0 0 [some (.inr (.inr 62)), some (.inr (.inr v1))] [] h
  exact bX9_markAll_0 hr hd1' (K0)

set_option maxRecDepth 20000 in
theorem t_X9_markAll_14 {d d1' : Nat} {Q : Option MV → MH → Prop} {h : MH} {v1 : Nat} (hr : zRf h) (hd1' : d1' + 1 ≤ d) (K0 : Con mX9_go d1' 0 0 [.inr (.inr 62), .inl (nI 0), .inl (h.1 62 2), .inl (nI 0)] h (zrv fun h' => J mX9_markAll d 0 0 Q 0 0 24 [some (.inr (.inr 62)), some (.inr (.inr v1))] [] h')) : J mX9_markAll d 0 0 Q 0 0 14 [some (.inr (.inr 62)), some (.inr (.inr v1))] [] h := by
  exact bX9_markAll_14 hr hd1' (K0)

set_option maxRecDepth 20000 in
theorem t_X9_markAll_24 {d  : Nat} {Q : Option MV → MH → Prop} {h : MH} {v1 : Nat} (K0 : Q none h) : J mX9_markAll d 0 0 Q 0 0 24 [some (.inr (.inr 62)), some (.inr (.inr v1))] [] h := by
  exact bX9_markAll_24  (K0)

set_option maxRecDepth 20000 in
theorem t_X9_seek {d d1' : Nat} {Q : Option MV → MH → Prop} {h : MH} {v1 v2 : Int32} (hr : zRf h) (hd1' : d1' + 1 ≤ d) (K0 : (h.1 62 2) < v2 → Q (some (.inl (nI 0))) h) (K1 : ¬ (h.1 62 2) < v2 → Con mX9_onGrid d1' 0 0 [.inr (.inr 62), .inl v2] h (zri fun (x : Int32) h' => J mX9_seek d 0 0 Q 0 0 13 [some (.inr (.inr 62)), some (.inl v1), some (.inl v2)] [.inl x] h')) : Con mX9_seek d 0 0 [.inr (.inr 62), .inl v1, .inl v2] h Q := by
  refine Con.intro rfl (Nat.le_of_ble_eq_true rfl) ?_
  show J mX9_seek d 0 0 Q 0 0 0 [some (.inr (.inr 62)), some (.inl v1), some (.inl v2)] [] h
  refine bX9_seek_0 hr (fun p1 => ?_) (fun p1 => ?_)
  · exact bX9_seek_16  (K0 p1)
  · exact bX9_seek_8 hr hd1' (K1 p1)

set_option maxRecDepth 20000 in
theorem t_X9_seek_13 {d d1' : Nat} {Q : Option MV → MH → Prop} {h : MH} {v1 v2 vs0 : Int32} (hr : zRf h) (hd1' : d1' + 1 ≤ d) (K0 : ¬ vs0 = 0 → Con mX9_begin d1' 0 0 [.inr (.inr 62)] (zsI (zsI h 62 4 v1) 62 5 v2) (zrv fun h' => J mX9_seek d 0 0 Q 0 0 32 [some (.inr (.inr 62)), some (.inl v1), some (.inl v2)] [] h')) (K1 : vs0 = 0 → Q (some (.inl (nI 0))) h) : J mX9_seek d 0 0 Q 0 0 13 [some (.inr (.inr 62)), some (.inl v1), some (.inl v2)] [.inl vs0] h := by
  refine bX9_seek_13  (fun p1 => ?_) (fun p1 => ?_)
  · exact bX9_seek_18 hr hd1' (K0 p1)
  · exact bX9_seek_16  (K1 p1)

set_option maxRecDepth 20000 in
theorem t_X9_seek_32 {d d1' : Nat} {Q : Option MV → MH → Prop} {h : MH} {v1 v2 : Int32} (hr : zRf h) (hd1' : d1' + 1 ≤ d) (K0 : Con mX9_go d1' 0 0 [.inr (.inr 62), .inl (nI 0), .inl (h.1 62 2), .inl (nI 0)] h (zrv fun h' => J mX9_seek d 0 0 Q 0 0 42 [some (.inr (.inr 62)), some (.inl v1), some (.inl v2)] [] h')) : J mX9_seek d 0 0 Q 0 0 32 [some (.inr (.inr 62)), some (.inl v1), some (.inl v2)] [] h := by
  exact bX9_seek_32 hr hd1' (K0)

set_option maxRecDepth 20000 in
theorem t_X9_seek_42 {d  : Nat} {Q : Option MV → MH → Prop} {h : MH} {v1 v2 : Int32} (hr : zRf h) (G0 : (h.1 62 6) = 0 ∨ (h.1 62 6) = 1) (K0 : Q (some (.inl (h.1 62 6))) h) : J mX9_seek d 0 0 Q 0 0 42 [some (.inr (.inr 62)), some (.inl v1), some (.inl v2)] [] h := by
  exact bX9_seek_42 hr (G0) (K0)

set_option maxRecDepth 20000 in
theorem t_X9_want {d  : Nat} {Q : Option MV → MH → Prop} {h : MH} {v1 : Nat} (hr : zRf h) (K0 : J mX9_want d 0 0 Q 0 0 7 [some (.inr (.inr 62)), some (.inr (.inr v1)), some (.inl (nI 0)), none, none] [] (zsI h 62 10 (nI 0))) : Con mX9_want d 0 0 [.inr (.inr 62), .inr (.inr v1)] h Q := by
  refine Con.intro rfl (Nat.le_of_ble_eq_true rfl) ?_
  show J mX9_want d 0 0 Q 0 0 0 [some (.inr (.inr 62)), some (.inr (.inr v1)), none, none, none] [] h
  refine bX9_want_0 hr ?_
  exact K0

set_option maxRecDepth 20000 in
theorem t_X9_want_7 {d d1' : Nat} {Q : Option MV → MH → Prop} {h : MH} {u3 : Option MV} {v2 : Int32} {v1 : Nat} (hr : zRf h) (hd1' : d1' + 1 ≤ d) (G0 : zokO h v1 7) (G1 : ¬ (h.1 v1 2) ≤ v2 → vp_in v2 40) (K0 : (h.1 v1 2) ≤ v2 → Q (some (.inl (nI 1))) h) (K1 : ¬ (h.1 v1 2) ≤ v2 → (lg_cmp (h.2.1 (v1 + 1) v2.toNatClampNeg) (lN 1)) < 0 → Q (some (.inl (nI 0))) h) (K2 : ¬ (h.1 v1 2) ≤ v2 → ¬ (lg_cmp (h.2.1 (v1 + 1) v2.toNatClampNeg) (lN 1)) < 0 → 0 < (lg_cmp (h.2.1 (v1 + 1) v2.toNatClampNeg) (368656 : Int64)) → Q (some (.inl (nI 0))) h) (K3 : ¬ (h.1 v1 2) ≤ v2 → ¬ (lg_cmp (h.2.1 (v1 + 1) v2.toNatClampNeg) (lN 1)) < 0 → ¬ 0 < (lg_cmp (h.2.1 (v1 + 1) v2.toNatClampNeg) (368656 : Int64)) → Con mX9_wantAlso d1' 0 0 [.inr (.inr 62), .inl ((h.2.1 (v1 + 1) v2.toNatClampNeg).toInt32)] h (zri fun (x : Int32) h' => J mX9_want d 0 0 Q 0 0 42 [some (.inr (.inr 62)), some (.inr (.inr v1)), some (.inl v2), some (.inr (.inl (h.2.1 (v1 + 1) v2.toNatClampNeg))), none] [.inl x] h')) : J mX9_want d 0 0 Q 0 0 7 [some (.inr (.inr 62)), some (.inr (.inr v1)), some (.inl v2), u3, none] [] h := by
  refine bX9_want_7 (G0) (fun p1 => ?_) (fun p1 => ?_)
  · exact bX9_want_53  (K0 p1)
  · refine bX9_want_15 hr (G0) (G1 p1) (fun p2 => ?_) (fun p2 => ?_)
    · exact bX9_want_45  (K1 p1 p2)
    · refine bX9_want_28  (fun p3 => ?_) (fun p3 => ?_)
      · exact bX9_want_45  (K2 p1 p2 p3)
      · exact bX9_want_36 hr hd1' (K3 p1 p2 p3)

set_option maxRecDepth 20000 in
theorem t_X9_want_42 {d  : Nat} {Q : Option MV → MH → Prop} {h : MH} {v2 vs0 : Int32} {v3 : Int64} {v1 : Nat} (K0 : ¬ vs0 = 0 → J mX9_want d 0 0 Q 0 0 7 [some (.inr (.inr 62)), some (.inr (.inr v1)), some (.inl (v2 + nI 1)), some (.inr (.inl v3)), none] [] h) (K1 : vs0 = 0 → Q (some (.inl (nI 0))) h) : J mX9_want d 0 0 Q 0 0 42 [some (.inr (.inr 62)), some (.inr (.inr v1)), some (.inl v2), some (.inr (.inl v3)), none] [.inl vs0] h := by
  refine bX9_want_42  (fun p1 => ?_) (fun p1 => ?_)
  · refine bX9_want_47  ?_
    exact K0 p1
  · exact bX9_want_45  (K1 p1)

set_option maxRecDepth 20000 in
theorem t_X9_wantAlso {d  : Nat} {Q : Option MV → MH → Prop} {h : MH} {v1 : Int32} (K0 : J mX9_wantAlso d 0 0 Q 0 0 2 [some (.inr (.inr 62)), some (.inl v1), some (.inl (nI 0)), none] [] h) : Con mX9_wantAlso d 0 0 [.inr (.inr 62), .inl v1] h Q := by
  refine Con.intro rfl (Nat.le_of_ble_eq_true rfl) ?_
  show J mX9_wantAlso d 0 0 Q 0 0 0 [some (.inr (.inr 62)), some (.inl v1), none, none] [] h
  refine bX9_wantAlso_0  ?_
  exact K0

set_option maxRecDepth 20000 in
theorem t_X9_wantAlso_2 {d  : Nat} {Q : Option MV → MH → Prop} {h : MH} {v1 v2 : Int32} (hr : zRf h) (G0 : ¬ (h.1 62 10) ≤ v2 → vp_in v2 4) (K0 : (h.1 62 10) ≤ v2 → (h.1 62 10) < (nI 4) → J mX9_wantAlso d 0 0 Q 0 0 61 [some (.inr (.inr 62)), some (.inl v1), some (.inl v2), some (.inl (h.1 62 10))] [] h) (K1 : (h.1 62 10) ≤ v2 → ¬ (h.1 62 10) < (nI 4) → Q (some (.inl (nI 0))) h) (K2 : ¬ (h.1 62 10) ≤ v2 → v1 ≤ (h.1 63 v2.toNatClampNeg) → ¬ (h.1 63 v2.toNatClampNeg) = v1 → (h.1 62 10) < (nI 4) → J mX9_wantAlso d 0 0 Q 0 0 61 [some (.inr (.inr 62)), some (.inl v1), some (.inl v2), some (.inl (h.1 62 10))] [] h) (K3 : ¬ (h.1 62 10) ≤ v2 → v1 ≤ (h.1 63 v2.toNatClampNeg) → ¬ (h.1 63 v2.toNatClampNeg) = v1 → ¬ (h.1 62 10) < (nI 4) → Q (some (.inl (nI 0))) h) (K4 : ¬ (h.1 62 10) ≤ v2 → v1 ≤ (h.1 63 v2.toNatClampNeg) → (h.1 63 v2.toNatClampNeg) = v1 → Q (some (.inl (nI 1))) h) (K5 : ¬ (h.1 62 10) ≤ v2 → ¬ v1 ≤ (h.1 63 v2.toNatClampNeg) → J mX9_wantAlso d 0 0 Q 0 0 2 [some (.inr (.inr 62)), some (.inl v1), some (.inl (v2 + nI 1)), none] [] h) : J mX9_wantAlso d 0 0 Q 0 0 2 [some (.inr (.inr 62)), some (.inl v1), some (.inl v2), none] [] h := by
  refine bX9_wantAlso_2 hr (fun p1 => ?_) (fun p1 => ?_)
  · refine bX9_wantAlso_26 hr (fun _ => ?_) (fun c => absurd p1 c)
    refine bX9_wantAlso_46 hr (fun p2 => ?_) (fun p2 => ?_)
    · refine bX9_wantAlso_56 hr ?_
      exact K0 p1 p2
    · exact bX9_wantAlso_54  (K1 p1 p2)
  · refine bX9_wantAlso_10 hr (G0 p1) (fun p3 => ?_) (fun p3 => ?_)
    · refine bX9_wantAlso_26 hr (fun c => absurd c p1) (fun _ => ?_)
      refine bX9_wantAlso_34 hr (G0 p1) (fun p4 => ?_) (fun p4 => ?_)
      · refine bX9_wantAlso_46 hr (fun p5 => ?_) (fun p5 => ?_)
        · refine bX9_wantAlso_56 hr ?_
          exact K2 p1 p3 p4 p5
        · exact bX9_wantAlso_54  (K3 p1 p3 p4 p5)
      · exact bX9_wantAlso_44  (K4 p1 p3 p4)
    · refine bX9_wantAlso_20  ?_
      exact K5 p1 p3

set_option maxRecDepth 20000 in
theorem t_X9_wantAlso_61 {d  : Nat} {Q : Option MV → MH → Prop} {h : MH} {v1 v2 v3 : Int32} (hr : zRf h) (G0 : v3 ≤ v2 → vp_in v2 4) (G1 : ¬ v3 ≤ v2 → vp_in (v3 - (nI 1)) 4) (G2 : ¬ v3 ≤ v2 → vp_in v3 4) (K0 : v3 ≤ v2 → Q (some (.inl (nI 1))) (zsI (zsI h 63 v2.toNatClampNeg v1) 62 10 (((zsI h 63 v2.toNatClampNeg v1).1 62 10) + (nI 1)))) (K1 : ¬ v3 ≤ v2 → J mX9_wantAlso d 0 0 Q 0 0 61 [some (.inr (.inr 62)), some (.inl v1), some (.inl v2), some (.inl (v3 + -(nI 1)))] [] (zsI h 63 v3.toNatClampNeg (h.1 63 (v3 - (nI 1)).toNatClampNeg))) : J mX9_wantAlso d 0 0 Q 0 0 61 [some (.inr (.inr 62)), some (.inl v1), some (.inl v2), some (.inl v3)] [] h := by
  refine bX9_wantAlso_61  (fun p1 => ?_) (fun p1 => ?_)
  · exact bX9_wantAlso_86 hr (G0 p1) (K0 p1)
  · refine bX9_wantAlso_66 hr (G1 p1) (G2 p1) ?_
    exact K1 p1

set_option maxRecDepth 20000 in
theorem t_X9_seekWanted {d  : Nat} {Q : Option MV → MH → Prop} {h : MH} (hr : zRf h) (G0 : ¬ (h.1 62 10) = 0 → ¬ (h.1 62 0) < (h.1 62 10) → vp_in ((h.1 62 10) - (nI 1)) 4) (K0 : ¬ (h.1 62 10) = 0 → (h.1 62 0) < (h.1 62 10) → Q (some (.inl (nI 0))) h) (K1 : ¬ (h.1 62 10) = 0 → ¬ (h.1 62 0) < (h.1 62 10) → (h.1 63 ((h.1 62 10) - (nI 1)).toNatClampNeg) ≤ (h.1 62 2) → J mX9_seekWanted d 0 0 Q 0 0 42 [some (.inr (.inr 62)), some (.inl (nI 0))] [] h) (K2 : ¬ (h.1 62 10) = 0 → ¬ (h.1 62 0) < (h.1 62 10) → ¬ (h.1 63 ((h.1 62 10) - (nI 1)).toNatClampNeg) ≤ (h.1 62 2) → Q (some (.inl (nI 0))) h) (K3 : (h.1 62 10) = 0 → Q (some (.inl (nI 1))) h) : Con mX9_seekWanted d 0 0 [.inr (.inr 62)] h Q := by
  refine Con.intro rfl (Nat.le_of_ble_eq_true rfl) ?_
  show J mX9_seekWanted d 0 0 Q 0 0 0 [some (.inr (.inr 62)), none] [] h
  refine bX9_seekWanted_0 hr (fun p1 => ?_) (fun p1 => ?_)
  · refine bX9_seekWanted_9 hr (fun p2 => ?_) (fun p2 => ?_)
    · exact bX9_seekWanted_38  (K0 p1 p2)
    · refine bX9_seekWanted_20 hr (G0 p1 p2) (fun p3 => ?_) (fun p3 => ?_)
      · refine bX9_seekWanted_40  ?_
        exact K1 p1 p2 p3
      · exact bX9_seekWanted_38  (K2 p1 p2 p3)
  · exact bX9_seekWanted_7  (K3 p1)

set_option maxRecDepth 20000 in
theorem t_X9_seekWanted_42 {d d1' d2' : Nat} {Q : Option MV → MH → Prop} {h : MH} {v1 : Int32} (hr : zRf h) (hd1' : d1' + 1 ≤ d) (hd2' : d2' + 1 ≤ d) (G0 : ¬ (h.1 62 10) ≤ v1 → vp_in v1 4) (K0 : (h.1 62 10) ≤ v1 → Con mX9_begin d1' 0 0 [.inr (.inr 62)] (zsI h 62 4 (nI 5)) (zrv fun h' => J mX9_seekWanted d 0 0 Q 0 0 80 [some (.inr (.inr 62)), some (.inl v1)] [] h')) (K1 : ¬ (h.1 62 10) ≤ v1 → Con mX9_onGrid d2' 0 0 [.inr (.inr 62), .inl (h.1 63 v1.toNatClampNeg)] h (zri fun (x : Int32) h' => J mX9_seekWanted d 0 0 Q 0 0 60 [some (.inr (.inr 62)), some (.inl v1)] [.inl x] h')) : J mX9_seekWanted d 0 0 Q 0 0 42 [some (.inr (.inr 62)), some (.inl v1)] [] h := by
  refine bX9_seekWanted_42 hr (fun p1 => ?_) (fun p1 => ?_)
  · exact bX9_seekWanted_71 hr hd1' (K0 p1)
  · exact bX9_seekWanted_50 hr (G0 p1) hd2' (K1 p1)

set_option maxRecDepth 20000 in
theorem t_X9_seekWanted_60 {d  : Nat} {Q : Option MV → MH → Prop} {h : MH} {v1 vs0 : Int32} (K0 : ¬ vs0 = 0 → J mX9_seekWanted d 0 0 Q 0 0 42 [some (.inr (.inr 62)), some (.inl (v1 + nI 1))] [] h) (K1 : vs0 = 0 → Q (some (.inl (nI 0))) h) : J mX9_seekWanted d 0 0 Q 0 0 60 [some (.inr (.inr 62)), some (.inl v1)] [.inl vs0] h := by
  refine bX9_seekWanted_60  (fun p1 => ?_) (fun p1 => ?_)
  · refine bX9_seekWanted_65  ?_
    exact K0 p1
  · exact bX9_seekWanted_63  (K1 p1)

set_option maxRecDepth 20000 in
theorem t_X9_seekWanted_80 {d d1' : Nat} {Q : Option MV → MH → Prop} {h : MH} {v1 : Int32} (hr : zRf h) (hd1' : d1' + 1 ≤ d) (K0 : Con mX9_go d1' 0 0 [.inr (.inr 62), .inl (nI 0), .inl (h.1 62 2), .inl (nI 0)] h (zrv fun h' => J mX9_seekWanted d 0 0 Q 0 0 90 [some (.inr (.inr 62)), some (.inl v1)] [] h')) : J mX9_seekWanted d 0 0 Q 0 0 80 [some (.inr (.inr 62)), some (.inl v1)] [] h := by
  exact bX9_seekWanted_80 hr hd1' (K0)

set_option maxRecDepth 20000 in
theorem t_X9_seekWanted_90 {d  : Nat} {Q : Option MV → MH → Prop} {h : MH} {v1 : Int32} (hr : zRf h) (G0 : (h.1 62 6) = 0 ∨ (h.1 62 6) = 1) (K0 : Q (some (.inl (h.1 62 6))) h) : J mX9_seekWanted d 0 0 Q 0 0 90 [some (.inr (.inr 62)), some (.inl v1)] [] h := by
  exact bX9_seekWanted_90 hr (G0) (K0)

set_option maxRecDepth 20000 in
theorem t_X9_digits {d  : Nat} {Q : Option MV → MH → Prop} {h : MH} {v1 : Int32} (hr : zRf h) (K0 : v1 < 0 → Q (some (.inl (-(nI 1)))) h) (K1 : ¬ v1 < 0 → (h.1 62 9) ≤ v1 → Q (some (.inl (-(nI 1)))) h) (K2 : ¬ v1 < 0 → ¬ (h.1 62 9) ≤ v1 → v1 < (nI 4) → J mX9_digits d 0 0 Q 0 0 23 [some (.inr (.inr 62)), some (.inl v1), some (.inl (nI 0)), some (.inl (nI 0))] [] h) (K3 : ¬ v1 < 0 → ¬ (h.1 62 9) ≤ v1 → ¬ v1 < (nI 4) → Q (some (.inl (-(nI 1)))) h) : Con mX9_digits d 0 0 [.inr (.inr 62), .inl v1] h Q := by
  refine Con.intro rfl (Nat.le_of_ble_eq_true rfl) ?_
  show J mX9_digits d 0 0 Q 0 0 0 [some (.inr (.inr 62)), some (.inl v1), none, none] [] h
  refine bX9_digits_0  (fun p1 => ?_) (fun p1 => ?_)
  · exact bX9_digits_17  (K0 p1)
  · refine bX9_digits_4 hr (fun p2 => ?_) (fun p2 => ?_)
    · exact bX9_digits_17  (K1 p1 p2)
    · refine bX9_digits_12  (fun p3 => ?_) (fun p3 => ?_)
      · refine bX9_digits_19  ?_
        exact K2 p1 p2 p3
      · exact bX9_digits_17  (K3 p1 p2 p3)

set_option maxRecDepth 20000 in
theorem t_X9_digits_23 {d  : Nat} {Q : Option MV → MH → Prop} {h : MH} {v1 v2 v3 : Int32} (hr : zRf h) (G0 : ¬ (h.1 62 0) ≤ v3 → vp_in (v1 + (nI 1)) 5) (G1 : ¬ (h.1 62 0) ≤ v3 → zokA h (72 + (v1 + (nI 1)).toNatClampNeg) 20 v3) (K0 : (h.1 62 0) ≤ v3 → Q (some (.inl v2)) h) (K1 : ¬ (h.1 62 0) ≤ v3 → J mX9_digits d 0 0 Q 0 0 23 [some (.inr (.inr 62)), some (.inl v1), some (.inl ((v2 * (nI 10)) + (h.1 (72 + (v1 + (nI 1)).toNatClampNeg) v3.toNatClampNeg))), some (.inl (v3 + nI 1))] [] h) : J mX9_digits d 0 0 Q 0 0 23 [some (.inr (.inr 62)), some (.inl v1), some (.inl v2), some (.inl v3)] [] h := by
  refine bX9_digits_23 hr (fun p1 => ?_) (fun p1 => ?_)
  · exact bX9_digits_53  (K0 p1)
  · refine bX9_digits_31 hr (G0 p1) (G1 p1) ?_
    exact K1 p1

set_option maxRecDepth 20000 in
theorem t_X9_begin {d  : Nat} {Q : Option MV → MH → Prop} {h : MH} (hr : zRf h) (K0 : Q none (zsI (zsI (zsI h 62 6 (nI 0)) 62 7 (nI 0)) 64 0 (nI 0))) : Con mX9_begin d 0 0 [.inr (.inr 62)] h Q := by
  refine Con.intro rfl (Nat.le_of_ble_eq_true rfl) ?_
  show J mX9_begin d 0 0 Q 0 0 0 [some (.inr (.inr 62))] [] h
  exact bX9_begin_0 hr (vp_in_nI (by decide) (by decide)) (K0)

set_option maxRecDepth 20000 in
theorem t_X9_go {d  : Nat} {Q : Option MV → MH → Prop} {h : MH} {v1 v2 v3 : Int32} (K0 : (nI 4) ≤ v1 → Q none h) (K1 : ¬ (nI 4) ≤ v1 → 0 < v2 → J mX9_go d 0 0 Q 0 0 13 [some (.inr (.inr 62)), some (.inl v1), some (.inl v2), some (.inl v3), some (.inl (nI 0))] [] h) (K2 : ¬ (nI 4) ≤ v1 → ¬ 0 < v2 → Q none h) : Con mX9_go d 0 0 [.inr (.inr 62), .inl v1, .inl v2, .inl v3] h Q := by
  refine Con.intro rfl (Nat.le_of_ble_eq_true rfl) ?_
  show J mX9_go d 0 0 Q 0 0 0 [some (.inr (.inr 62)), some (.inl v1), some (.inl v2), some (.inl v3), none] [] h
  refine bX9_go_0  (fun p1 => ?_) (fun p1 => ?_)
  · exact bX9_go_9  (K0 p1)
  · refine bX9_go_5  (fun p2 => ?_) (fun p2 => ?_)
    · refine bX9_go_10  ?_
      exact K1 p1 p2
    · exact bX9_go_9  (K2 p1 p2)

set_option maxRecDepth 20000 in
theorem t_X9_go_13 {d  : Nat} {Q : Option MV → MH → Prop} {h : MH} {v1 v2 v3 v4 : Int32} (hr : zRf h) (hd : 1 ≤ d) (G0 : ¬ (h.1 62 0) ≤ v4 → vp_in (v1 + (nI 1)) 5) (G1 : ¬ (h.1 62 0) ≤ v4 → (h.1 62 1) = 0 → vp_in v1 5) (G2 : ¬ (h.1 62 0) ≤ v4 → (h.1 62 1) = 0 → zokA h (66 + v1.toNatClampNeg) 20 v4) (G3 : ¬ (h.1 62 0) ≤ v4 → (h.1 62 1) = 0 → ¬ (h.1 (66 + v1.toNatClampNeg) v4.toNatClampNeg) = 0 → zokA h (72 + v1.toNatClampNeg) 20 v4) (G4 : ¬ (h.1 62 0) ≤ v4 → ¬ (h.1 62 1) = 0 → zokA h (72 + (v1 + (nI 1)).toNatClampNeg) 20 v4) (G5 : ¬ (h.1 62 0) ≤ v4 → (h.1 62 1) = 0 → ¬ (h.1 (66 + v1.toNatClampNeg) v4.toNatClampNeg) = 0 → zokA h (72 + (v1 + (nI 1)).toNatClampNeg) 20 v4) (G6 : ¬ (h.1 62 0) ≤ v4 → (h.1 62 1) = 0 → (h.1 (66 + v1.toNatClampNeg) v4.toNatClampNeg) = 0 → zokA h (72 + (v1 + (nI 1)).toNatClampNeg) 20 v4) (K0 : (h.1 62 0) ≤ v4 → J mX9_go d 0 0 Q 0 0 49 [some (.inr (.inr 62)), some (.inl v1), some (.inl v2), some (.inl v3), some (.inl (nI 0))] [] h) (K1 : ¬ (h.1 62 0) ≤ v4 → ¬ (h.1 62 1) = 0 → J mX9_go d 0 0 Q 0 0 13 [some (.inr (.inr 62)), some (.inl v1), some (.inl v2), some (.inl v3), some (.inl (v4 + nI 1))] [] (zsI h (72 + (v1 + (nI 1)).toNatClampNeg) v4.toNatClampNeg (nI 0))) (K2 : ¬ (h.1 62 0) ≤ v4 → (h.1 62 1) = 0 → ¬ (h.1 (66 + v1.toNatClampNeg) v4.toNatClampNeg) = 0 → J mX9_go d 0 0 Q 0 0 13 [some (.inr (.inr 62)), some (.inl v1), some (.inl v2), some (.inl v3), some (.inl (v4 + nI 1))] [] (zsI h (72 + (v1 + (nI 1)).toNatClampNeg) v4.toNatClampNeg (h.1 (72 + v1.toNatClampNeg) v4.toNatClampNeg))) (K3 : ¬ (h.1 62 0) ≤ v4 → (h.1 62 1) = 0 → (h.1 (66 + v1.toNatClampNeg) v4.toNatClampNeg) = 0 → J mX9_go d 0 0 Q 0 0 13 [some (.inr (.inr 62)), some (.inl v1), some (.inl v2), some (.inl v3), some (.inl (v4 + nI 1))] [] (zsI h (72 + (v1 + (nI 1)).toNatClampNeg) v4.toNatClampNeg (nI 0))) : J mX9_go d 0 0 Q 0 0 13 [some (.inr (.inr 62)), some (.inl v1), some (.inl v2), some (.inl v3), some (.inl v4)] [] h := by
  refine bX9_go_13 hr (fun p1 => ?_) (fun p1 => ?_)
  · refine bX9_go_46  ?_
    exact K0 p1
  · refine bX9_go_22 (d' := 0) hr (G0 p1) (by omega) ?_
    refine t_X9_fewestFor hr ?_ ?_ ?_ ?_ ?_ ?_
    · intro p2; exact (G1 p1 p2)
    · intro p3; exact (G2 p1 p3)
    · intro p4 p5; exact (G3 p1 p4 p5)
    · intro p6
      refine bX9_go_39 (G4 p1 p6) ?_
      exact K1 p1 p6
    · intro p7 p8
      refine bX9_go_39 (G5 p1 p7 p8) ?_
      exact K2 p1 p7 p8
    · intro p9 p10
      refine bX9_go_39 (G6 p1 p9 p10) ?_
      exact K3 p1 p9 p10

set_option maxRecDepth 20000 in
theorem t_X9_go_49 {d d1' : Nat} {Q : Option MV → MH → Prop} {h : MH} {v1 v2 v3 v4 : Int32} (hr : zRf h) (hd1' : d1' + 1 ≤ d) (K0 : (nI 81) ≤ v4 → Q none h) (K1 : ¬ (nI 81) ≤ v4 → Con mX9_follow d1' 0 0 [.inr (.inr 62), .inl v1, .inl v2, .inl v3] h (zrv fun h' => J mX9_go d 0 0 Q 0 0 63 [some (.inr (.inr 62)), some (.inl v1), some (.inl v2), some (.inl v3), some (.inl v4)] [] h')) : J mX9_go d 0 0 Q 0 0 49 [some (.inr (.inr 62)), some (.inl v1), some (.inl v2), some (.inl v3), some (.inl v4)] [] h := by
  refine bX9_go_49  (fun p1 => ?_) (fun p1 => ?_)
  · exact bX9_go_85  (K0 p1)
  · exact bX9_go_56 hr hd1' (K1 p1)

set_option maxRecDepth 20000 in
theorem t_X9_go_63 {d d1' : Nat} {Q : Option MV → MH → Prop} {h : MH} {v1 v2 v3 v4 : Int32} (hr : zRf h) (hd1' : d1' + 1 ≤ d) (K0 : ¬ (h.1 62 7) = 0 → Q none h) (K1 : (h.1 62 7) = 0 → Con mX9_giveNext d1' 0 0 [.inr (.inr 62), .inl v1] h (zri fun (x : Int32) h' => J mX9_go d 0 0 Q 0 0 75 [some (.inr (.inr 62)), some (.inl v1), some (.inl v2), some (.inl v3), some (.inl v4)] [.inl x] h')) : J mX9_go d 0 0 Q 0 0 63 [some (.inr (.inr 62)), some (.inl v1), some (.inl v2), some (.inl v3), some (.inl v4)] [] h := by
  refine bX9_go_63 hr (fun p1 => ?_) (fun p1 => ?_)
  · exact bX9_go_78  (K0 p1)
  · exact bX9_go_70 hr hd1' (K1 p1)

set_option maxRecDepth 20000 in
theorem t_X9_go_75 {d  : Nat} {Q : Option MV → MH → Prop} {h : MH} {v1 v2 v3 v4 vs0 : Int32} (K0 : ¬ vs0 = 0 → J mX9_go d 0 0 Q 0 0 49 [some (.inr (.inr 62)), some (.inl v1), some (.inl v2), some (.inl v3), some (.inl (v4 + nI 1))] [] h) (K1 : vs0 = 0 → Q none h) : J mX9_go d 0 0 Q 0 0 75 [some (.inr (.inr 62)), some (.inl v1), some (.inl v2), some (.inl v3), some (.inl v4)] [.inl vs0] h := by
  refine bX9_go_75  (fun p1 => ?_) (fun p1 => ?_)
  · refine bX9_go_79  ?_
    exact K0 p1
  · exact bX9_go_78  (K1 p1)

set_option maxRecDepth 20000 in
theorem t_X9_giveNext {d  : Nat} {Q : Option MV → MH → Prop} {h : MH} {v1 : Int32} (hr : zRf h) (G0 : vp_in (v1 + (nI 1)) 5) (K0 : J mX9_giveNext d 0 0 Q 0 0 16 [some (.inr (.inr 62)), some (.inl v1), some (.inr (.inr (72 + (v1 + (nI 1)).toNatClampNeg))), some (.inl ((h.1 62 0) - (nI 1)))] [] h) : Con mX9_giveNext d 0 0 [.inr (.inr 62), .inl v1] h Q := by
  refine Con.intro rfl (Nat.le_of_ble_eq_true rfl) ?_
  show J mX9_giveNext d 0 0 Q 0 0 0 [some (.inr (.inr 62)), some (.inl v1), none, none] [] h
  refine bX9_giveNext_0 hr (G0) ?_
  exact K0

set_option maxRecDepth 20000 in
theorem t_X9_giveNext_16 {d  : Nat} {Q : Option MV → MH → Prop} {h : MH} {v1 v3 : Int32} {v2 : Nat} (hr : zRf h) (hd : 1 ≤ d) (G0 : ¬ v3 < 0 → vp_in v1 5) (G1 : ¬ v3 < 0 → zokA h (66 + v1.toNatClampNeg) 20 v3) (G2 : ¬ v3 < 0 → (h.1 (66 + v1.toNatClampNeg) v3.toNatClampNeg) ≤ 0 → (h.1 62 1) = 0 → ¬ (h.1 (66 + v1.toNatClampNeg) v3.toNatClampNeg) = 0 → zokA h (72 + v1.toNatClampNeg) 20 v3) (G3 : ¬ v3 < 0 → (h.1 (66 + v1.toNatClampNeg) v3.toNatClampNeg) ≤ 0 → ¬ (h.1 62 1) = 0 → zokA h v2 20 v3) (G4 : ¬ v3 < 0 → (h.1 (66 + v1.toNatClampNeg) v3.toNatClampNeg) ≤ 0 → (h.1 62 1) = 0 → ¬ (h.1 (66 + v1.toNatClampNeg) v3.toNatClampNeg) = 0 → zokA h v2 20 v3) (G5 : ¬ v3 < 0 → (h.1 (66 + v1.toNatClampNeg) v3.toNatClampNeg) ≤ 0 → (h.1 62 1) = 0 → (h.1 (66 + v1.toNatClampNeg) v3.toNatClampNeg) = 0 → zokA h v2 20 v3) (G6 : ¬ v3 < 0 → ¬ (h.1 (66 + v1.toNatClampNeg) v3.toNatClampNeg) ≤ 0 → zokA h v2 20 v3) (G7 : ¬ v3 < 0 → ¬ (h.1 (66 + v1.toNatClampNeg) v3.toNatClampNeg) ≤ 0 → (nI 2) ≤ (h.1 v2 v3.toNatClampNeg) → (h.1 62 1) = 0 → ¬ (h.1 (66 + v1.toNatClampNeg) v3.toNatClampNeg) = 0 → zokA h (72 + v1.toNatClampNeg) 20 v3) (K0 : v3 < 0 → Q (some (.inl (nI 0))) h) (K1 : ¬ v3 < 0 → (h.1 (66 + v1.toNatClampNeg) v3.toNatClampNeg) ≤ 0 → ¬ (h.1 62 1) = 0 → J mX9_giveNext d 0 0 Q 0 0 16 [some (.inr (.inr 62)), some (.inl v1), some (.inr (.inr v2)), some (.inl (v3 + -(nI 1)))] [] (zsI h v2 v3.toNatClampNeg (nI 0))) (K2 : ¬ v3 < 0 → (h.1 (66 + v1.toNatClampNeg) v3.toNatClampNeg) ≤ 0 → (h.1 62 1) = 0 → ¬ (h.1 (66 + v1.toNatClampNeg) v3.toNatClampNeg) = 0 → J mX9_giveNext d 0 0 Q 0 0 16 [some (.inr (.inr 62)), some (.inl v1), some (.inr (.inr v2)), some (.inl (v3 + -(nI 1)))] [] (zsI h v2 v3.toNatClampNeg (h.1 (72 + v1.toNatClampNeg) v3.toNatClampNeg))) (K3 : ¬ v3 < 0 → (h.1 (66 + v1.toNatClampNeg) v3.toNatClampNeg) ≤ 0 → (h.1 62 1) = 0 → (h.1 (66 + v1.toNatClampNeg) v3.toNatClampNeg) = 0 → J mX9_giveNext d 0 0 Q 0 0 16 [some (.inr (.inr 62)), some (.inl v1), some (.inr (.inr v2)), some (.inl (v3 + -(nI 1)))] [] (zsI h v2 v3.toNatClampNeg (nI 0))) (K4 : ¬ v3 < 0 → ¬ (h.1 (66 + v1.toNatClampNeg) v3.toNatClampNeg) ≤ 0 → (nI 2) ≤ (h.1 v2 v3.toNatClampNeg) → ¬ (h.1 62 1) = 0 → J mX9_giveNext d 0 0 Q 0 0 16 [some (.inr (.inr 62)), some (.inl v1), some (.inr (.inr v2)), some (.inl (v3 + -(nI 1)))] [] (zsI h v2 v3.toNatClampNeg (nI 0))) (K5 : ¬ v3 < 0 → ¬ (h.1 (66 + v1.toNatClampNeg) v3.toNatClampNeg) ≤ 0 → (nI 2) ≤ (h.1 v2 v3.toNatClampNeg) → (h.1 62 1) = 0 → ¬ (h.1 (66 + v1.toNatClampNeg) v3.toNatClampNeg) = 0 → J mX9_giveNext d 0 0 Q 0 0 16 [some (.inr (.inr 62)), some (.inl v1), some (.inr (.inr v2)), some (.inl (v3 + -(nI 1)))] [] (zsI h v2 v3.toNatClampNeg (h.1 (72 + v1.toNatClampNeg) v3.toNatClampNeg))) (K6 : ¬ v3 < 0 → ¬ (h.1 (66 + v1.toNatClampNeg) v3.toNatClampNeg) ≤ 0 → (nI 2) ≤ (h.1 v2 v3.toNatClampNeg) → (h.1 62 1) = 0 → (h.1 (66 + v1.toNatClampNeg) v3.toNatClampNeg) = 0 → J mX9_giveNext d 0 0 Q 0 0 16 [some (.inr (.inr 62)), some (.inl v1), some (.inr (.inr v2)), some (.inl (v3 + -(nI 1)))] [] (zsI h v2 v3.toNatClampNeg (nI 0))) (K7 : ¬ v3 < 0 → ¬ (h.1 (66 + v1.toNatClampNeg) v3.toNatClampNeg) ≤ 0 → ¬ (nI 2) ≤ (h.1 v2 v3.toNatClampNeg) → Q (some (.inl (nI 1))) (zsI h v2 v3.toNatClampNeg ((h.1 v2 v3.toNatClampNeg) + (nI 1)))) : J mX9_giveNext d 0 0 Q 0 0 16 [some (.inr (.inr 62)), some (.inl v1), some (.inr (.inr v2)), some (.inl v3)] [] h := by
  refine bX9_giveNext_16  (fun p1 => ?_) (fun p1 => ?_)
  · exact bX9_giveNext_62  (K0 p1)
  · refine bX9_giveNext_20 hr (G0 p1) (G1 p1) (fun p2 => ?_) (fun p2 => ?_)
    · refine bX9_giveNext_47 (d' := 0) hr (by omega) ?_
      refine t_X9_fewestFor hr ?_ ?_ ?_ ?_ ?_ ?_
      · intro p3; exact (G0 p1)
      · intro p4; exact (G1 p1)
      · intro p5 p6; exact (G2 p1 p2 p5 p6)
      · intro p7
        refine bX9_giveNext_55 (G3 p1 p2 p7) ?_
        exact K1 p1 p2 p7
      · intro p8 p9
        refine bX9_giveNext_55 (G4 p1 p2 p8 p9) ?_
        exact K2 p1 p2 p8 p9
      · intro p10 p11
        refine bX9_giveNext_55 (G5 p1 p2 p10 p11) ?_
        exact K3 p1 p2 p10 p11
    · refine bX9_giveNext_31 (G6 p1 p2) (fun p12 => ?_) (fun p12 => ?_)
      · refine bX9_giveNext_47 (d' := 0) hr (by omega) ?_
        refine t_X9_fewestFor hr ?_ ?_ ?_ ?_ ?_ ?_
        · intro p13; exact (G0 p1)
        · intro p14; exact (G1 p1)
        · intro p15 p16; exact (G7 p1 p2 p12 p15 p16)
        · intro p17
          refine bX9_giveNext_55 (G6 p1 p2) ?_
          exact K4 p1 p2 p12 p17
        · intro p18 p19
          refine bX9_giveNext_55 (G6 p1 p2) ?_
          exact K5 p1 p2 p12 p18 p19
        · intro p20 p21
          refine bX9_giveNext_55 (G6 p1 p2) ?_
          exact K6 p1 p2 p12 p20 p21
      · exact bX9_giveNext_38 (G6 p1 p2) (K7 p1 p2 p12)

set_option maxRecDepth 20000 in
theorem t_X9_follow {d  : Nat} {Q : Option MV → MH → Prop} {h : MH} {v1 v2 v3 : Int32} (hr : zRf h) (G0 : vp_in v1 5) (G1 : vp_in (v1 + (nI 1)) 5) (K0 : J mX9_follow d 0 0 Q 0 0 27 [some (.inr (.inr 62)), some (.inl v1), some (.inl v2), some (.inl v3), some (.inr (.inr (66 + v1.toNatClampNeg))), some (.inr (.inr (72 + (v1 + (nI 1)).toNatClampNeg))), some (.inl (nI 0)), some (.inl (nI 0)), some (.inl (nI 0)), none] [] h) : Con mX9_follow d 0 0 [.inr (.inr 62), .inl v1, .inl v2, .inl v3] h Q := by
  refine Con.intro rfl (Nat.le_of_ble_eq_true rfl) ?_
  show J mX9_follow d 0 0 Q 0 0 0 [some (.inr (.inr 62)), some (.inl v1), some (.inl v2), some (.inl v3), none, none, none, none, none, none] [] h
  refine bX9_follow_0 hr (G0) (G1) ?_
  exact K0

set_option maxRecDepth 20000 in
theorem t_X9_follow_27 {d  : Nat} {Q : Option MV → MH → Prop} {h : MH} {u9 : Option MV} {v1 v2 v3 v6 v7 v8 : Int32} {v4 v5 : Nat} (hr : zRf h) (hd : 1 ≤ d) (G0 : (h.1 62 0) ≤ v8 → ¬ v7 = 0 → vp_in (v1 + (nI 1)) 5) (G1 : ¬ (h.1 62 0) ≤ v8 → zokA h v5 20 v8) (G2 : ¬ (h.1 62 0) ≤ v8 → ¬ (h.1 v5 v8.toNatClampNeg) ≤ 0 → ¬ (h.1 v5 v8.toNatClampNeg) = (nI 2) → zokA h v4 20 v8) (G3 : ¬ (h.1 62 0) ≤ v8 → ¬ (h.1 v5 v8.toNatClampNeg) ≤ 0 → (h.1 v5 v8.toNatClampNeg) = (nI 2) → zokA h v4 20 v8) (K0 : (h.1 62 0) ≤ v8 → ¬ v7 = 0 → J mX9_follow d 0 0 Q 0 0 124 [some (.inr (.inr 62)), some (.inl v1), some (.inl v2), some (.inl v3), some (.inr (.inr v4)), some (.inr (.inr v5)), some (.inl v6), some (.inl v7), some (.inr (.inr (66 + (v1 + (nI 1)).toNatClampNeg))), some (.inl (nI 0))] [] h) (K1 : (h.1 62 0) ≤ v8 → v7 = 0 → Q none h) (K2 : ¬ (h.1 62 0) ≤ v8 → (h.1 v5 v8.toNatClampNeg) ≤ 0 → J mX9_follow d 0 0 Q 0 0 27 [some (.inr (.inr 62)), some (.inl v1), some (.inl v2), some (.inl v3), some (.inr (.inr v4)), some (.inr (.inr v5)), some (.inl v6), some (.inl v7), some (.inl (v8 + nI 1)), u9] [] h) (K3 : ¬ (h.1 62 0) ≤ v8 → ¬ (h.1 v5 v8.toNatClampNeg) ≤ 0 → ¬ (h.1 v5 v8.toNatClampNeg) = (nI 2) → ¬ v7 = 0 → J mX9_follow d 0 0 Q 0 0 27 [some (.inr (.inr 62)), some (.inl v1), some (.inl v2), some (.inl v3), some (.inr (.inr v4)), some (.inr (.inr v5)), some (.inl (if (h.1 v4 v8.toNatClampNeg) < v6 then (h.1 v4 v8.toNatClampNeg) else v6)), some (.inl (v7 + (h.1 v5 v8.toNatClampNeg))), some (.inl (v8 + nI 1)), some (.inl (h.1 v4 v8.toNatClampNeg))] [] h) (K4 : ¬ (h.1 62 0) ≤ v8 → ¬ (h.1 v5 v8.toNatClampNeg) ≤ 0 → ¬ (h.1 v5 v8.toNatClampNeg) = (nI 2) → v7 = 0 → J mX9_follow d 0 0 Q 0 0 27 [some (.inr (.inr 62)), some (.inl v1), some (.inl v2), some (.inl v3), some (.inr (.inr v4)), some (.inr (.inr v5)), some (.inl (h.1 v4 v8.toNatClampNeg)), some (.inl (v7 + (h.1 v5 v8.toNatClampNeg))), some (.inl (v8 + nI 1)), some (.inl (h.1 v4 v8.toNatClampNeg))] [] h) (K5 : ¬ (h.1 62 0) ≤ v8 → ¬ (h.1 v5 v8.toNatClampNeg) ≤ 0 → (h.1 v5 v8.toNatClampNeg) = (nI 2) → ¬ v7 = 0 → J mX9_follow d 0 0 Q 0 0 27 [some (.inr (.inr 62)), some (.inl v1), some (.inl v2), some (.inl v3), some (.inr (.inr v4)), some (.inr (.inr v5)), some (.inl (if ((h.1 v4 v8.toNatClampNeg) >>> ((nI 1) &&& 31)) < v6 then ((h.1 v4 v8.toNatClampNeg) >>> ((nI 1) &&& 31)) else v6)), some (.inl (v7 + (h.1 v5 v8.toNatClampNeg))), some (.inl (v8 + nI 1)), some (.inl ((h.1 v4 v8.toNatClampNeg) >>> ((nI 1) &&& 31)))] [] h) (K6 : ¬ (h.1 62 0) ≤ v8 → ¬ (h.1 v5 v8.toNatClampNeg) ≤ 0 → (h.1 v5 v8.toNatClampNeg) = (nI 2) → v7 = 0 → J mX9_follow d 0 0 Q 0 0 27 [some (.inr (.inr 62)), some (.inl v1), some (.inl v2), some (.inl v3), some (.inr (.inr v4)), some (.inr (.inr v5)), some (.inl ((h.1 v4 v8.toNatClampNeg) >>> ((nI 1) &&& 31))), some (.inl (v7 + (h.1 v5 v8.toNatClampNeg))), some (.inl (v8 + nI 1)), some (.inl ((h.1 v4 v8.toNatClampNeg) >>> ((nI 1) &&& 31)))] [] h) : J mX9_follow d 0 0 Q 0 0 27 [some (.inr (.inr 62)), some (.inl v1), some (.inl v2), some (.inl v3), some (.inr (.inr v4)), some (.inr (.inr v5)), some (.inl v6), some (.inl v7), some (.inl v8), u9] [] h := by
  refine bX9_follow_27 hr (fun p1 => ?_) (fun p1 => ?_)
  · refine bX9_follow_105  (fun p2 => ?_) (fun p2 => ?_)
    · refine bX9_follow_111 hr (G0 p1 p2) ?_
      exact K0 p1 p2
    · exact bX9_follow_110  (K1 p1 p2)
  · refine bX9_follow_36 (G1 p1) (fun p3 => ?_) (fun p3 => ?_)
    · refine bX9_follow_99  ?_
      exact K2 p1 p3
    · refine bX9_follow_44 (G1 p1) (fun p4 => ?_) (fun p4 => ?_)
      · refine bX9_follow_63 (G2 p1 p3 p4) ?_
        refine bX9_follow_68  (fun p5 => ?_) (fun p5 => ?_)
        · refine bX9_follow_80  (by omega) ?_
          refine bX9_follow_87 (G1 p1) ?_
          refine bX9_follow_99  ?_
          exact K3 p1 p3 p4 p5
        · refine bX9_follow_75  ?_
          refine bX9_follow_87 (G1 p1) ?_
          refine bX9_follow_99  ?_
          exact K4 p1 p3 p4 p5
      · refine bX9_follow_53 (G3 p1 p3 p4) ?_
        refine bX9_follow_68  (fun p6 => ?_) (fun p6 => ?_)
        · refine bX9_follow_80  (by omega) ?_
          refine bX9_follow_87 (G1 p1) ?_
          refine bX9_follow_99  ?_
          exact K5 p1 p3 p4 p6
        · refine bX9_follow_75  ?_
          refine bX9_follow_87 (G1 p1) ?_
          refine bX9_follow_99  ?_
          exact K6 p1 p3 p4 p6

set_option maxRecDepth 20000 in
theorem t_X9_follow_124 {d d1' : Nat} {Q : Option MV → MH → Prop} {h : MH} {v1 v2 v3 v6 v7 v9 : Int32} {v4 v5 v8 : Nat} (hr : zRf h) (hd1' : d1' + 1 ≤ d) (G0 : (h.1 62 0) ≤ v9 → vp_in v1 5) (G1 : (h.1 62 0) ≤ v9 → vp_in (v1 + (nI 1)) 5) (G2 : ¬ (h.1 62 0) ≤ v9 → zokA h v4 20 v9) (G3 : ¬ (h.1 62 0) ≤ v9 → zokA h v5 20 v9) (G4 : ¬ (h.1 62 0) ≤ v9 → zokA h v8 20 v9) (K0 : (h.1 62 0) ≤ v9 → Con mX9_arrive d1' 0 0 [.inr (.inr 62), .inl (v1 + (nI 1)), .inl (v2 - (v7 * v6)), .inl v3] (zsI h 64 (v1 + (nI 1)).toNatClampNeg ((h.1 64 v1.toNatClampNeg) + v6)) (zrv fun h' => J mX9_follow d 0 0 Q 0 0 190 [some (.inr (.inr 62)), some (.inl v1), some (.inl v2), some (.inl v3), some (.inr (.inr v4)), some (.inr (.inr v5)), some (.inl v6), some (.inl v7), some (.inr (.inr v8)), some (.inl v9)] [] h')) (K1 : ¬ (h.1 62 0) ≤ v9 → J mX9_follow d 0 0 Q 0 0 124 [some (.inr (.inr 62)), some (.inl v1), some (.inl v2), some (.inl v3), some (.inr (.inr v4)), some (.inr (.inr v5)), some (.inl v6), some (.inl v7), some (.inr (.inr v8)), some (.inl (v9 + nI 1))] [] (zsI h v8 v9.toNatClampNeg ((h.1 v4 v9.toNatClampNeg) - ((h.1 v5 v9.toNatClampNeg) * v6)))) : J mX9_follow d 0 0 Q 0 0 124 [some (.inr (.inr 62)), some (.inl v1), some (.inl v2), some (.inl v3), some (.inr (.inr v4)), some (.inr (.inr v5)), some (.inl v6), some (.inl v7), some (.inr (.inr v8)), some (.inl v9)] [] h := by
  refine bX9_follow_124 hr (fun p1 => ?_) (fun p1 => ?_)
  · exact bX9_follow_158 hr (G0 p1) (G1 p1) hd1' (K0 p1)
  · refine bX9_follow_133 (G2 p1) (G3 p1) (G4 p1) ?_
    exact K1 p1

set_option maxRecDepth 20000 in
theorem t_X9_follow_190 {d  : Nat} {Q : Option MV → MH → Prop} {h : MH} {v1 v2 v3 v6 v7 v9 : Int32} {v4 v5 v8 : Nat} (K0 : Q none h) : J mX9_follow d 0 0 Q 0 0 190 [some (.inr (.inr 62)), some (.inl v1), some (.inl v2), some (.inl v3), some (.inr (.inr v4)), some (.inr (.inr v5)), some (.inl v6), some (.inl v7), some (.inr (.inr v8)), some (.inl v9)] [] h := by
  exact bX9_follow_190  (K0)

set_option maxRecDepth 20000 in
theorem t_X9_arrive {d  : Nat} {Q : Option MV → MH → Prop} {h : MH} {v1 v2 v3 : Int32} (hr : zRf h) (K0 : J mX9_arrive d 0 0 Q 0 0 4 [some (.inr (.inr 62)), some (.inl v1), some (.inl v2), some (.inl v3)] [.inl (h.1 62 4)] h) : Con mX9_arrive d 0 0 [.inr (.inr 62), .inl v1, .inl v2, .inl v3] h Q := by
  refine Con.intro rfl (Nat.le_of_ble_eq_true rfl) ?_
  show J mX9_arrive d 0 0 Q 0 0 0 [some (.inr (.inr 62)), some (.inl v1), some (.inl v2), some (.inl v3)] [] h
  refine bX9_arrive_0 hr ?_
  exact K0

set_option maxRecDepth 20000 in
theorem t_X9_arrive_40 {d d1' d2' d3' : Nat} {Q : Option MV → MH → Prop} {h : MH} {v1 v2 v3 : Int32} (hr : zRf h) (hd : 1 ≤ d) (hd1' : d1' + 1 ≤ d) (hd2' : d2' + 1 ≤ d) (hd3' : d3' + 1 ≤ d) (G0 : vp_in v1 5) (G1 : zokO h (h.2.2.1 62 11) 3) (G2 : ¬ ((h.1 64 v1.toNatClampNeg) / (nI 16)) < 0 → ¬ (nI 23104) ≤ ((h.1 64 v1.toNatClampNeg) / (nI 16)) → vp_in (((h.1 64 v1.toNatClampNeg) / (nI 16)) >>> ((nI 6) &&& 31)) 361) (K0 : ((h.1 64 v1.toNatClampNeg) / (nI 16)) < 0 → Con mX9_go d1' 0 0 [.inr (.inr 62), .inl v1, .inl v2, .inl v3] h (zrv fun h' => J mX9_arrive d 0 0 Q 0 0 60 [some (.inr (.inr 62)), some (.inl v1), some (.inl v2), some (.inl v3)] [] h')) (K1 : ¬ ((h.1 64 v1.toNatClampNeg) / (nI 16)) < 0 → (nI 23104) ≤ ((h.1 64 v1.toNatClampNeg) / (nI 16)) → Con mX9_go d2' 0 0 [.inr (.inr 62), .inl v1, .inl v2, .inl v3] h (zrv fun h' => J mX9_arrive d 0 0 Q 0 0 60 [some (.inr (.inr 62)), some (.inl v1), some (.inl v2), some (.inl v3)] [] h')) (K2 : ¬ ((h.1 64 v1.toNatClampNeg) / (nI 16)) < 0 → ¬ (nI 23104) ≤ ((h.1 64 v1.toNatClampNeg) / (nI 16)) → Con mX9_go d3' 0 0 [.inr (.inr 62), .inl v1, .inl v2, .inl v3] (zsL h ((h.2.2.1 62 11) + 1) (((h.1 64 v1.toNatClampNeg) / (nI 16)) >>> ((nI 6) &&& 31)).toNatClampNeg ((h.2.1 ((h.2.2.1 62 11) + 1) (((h.1 64 v1.toNatClampNeg) / (nI 16)) >>> ((nI 6) &&& 31)).toNatClampNeg) ||| ((lN 1) <<< ((((h.1 64 v1.toNatClampNeg) / (nI 16)) &&& (nI 63)).toInt64 &&& 63)))) (zrv fun h' => J mX9_arrive d 0 0 Q 0 0 60 [some (.inr (.inr 62)), some (.inl v1), some (.inl v2), some (.inl v3)] [] h')) : J mX9_arrive d 0 0 Q 0 0 40 [some (.inr (.inr 62)), some (.inl v1), some (.inl v2), some (.inl v3)] [] h := by
  refine bX9_arrive_40 (d' := 0) hr (G0) (G1) (by omega) ?_
  refine t_X3_add hr ?_ ?_ ?_ ?_ ?_
  · intro p1 p2; exact (G1)
  · intro p3 p4; exact (G2 p3 p4)
  · intro p5
    exact bX9_arrive_53 hr hd1' (K0 p5)
  · intro p6 p7
    exact bX9_arrive_53 hr hd2' (K1 p6 p7)
  · intro p8 p9
    exact bX9_arrive_53 hr hd3' (K2 p8 p9)

set_option maxRecDepth 20000 in
theorem t_X9_arrive_60 {d  : Nat} {Q : Option MV → MH → Prop} {h : MH} {v1 v2 v3 : Int32} (K0 : Q none h) : J mX9_arrive d 0 0 Q 0 0 60 [some (.inr (.inr 62)), some (.inl v1), some (.inl v2), some (.inl v3)] [] h := by
  refine bX9_arrive_60  ?_
  exact bX9_arrive_134  (K0)

set_option maxRecDepth 20000 in
theorem t_X9_arrive_63 {d d1' : Nat} {Q : Option MV → MH → Prop} {h : MH} {v1 v2 v3 : Int32} (hr : zRf h) (hd1' : d1' + 1 ≤ d) (K0 : Con mX9_liesBetween d1' 0 0 [.inr (.inr 62), .inl v1] h (zri fun (x : Int32) h' => J mX9_arrive d 0 0 Q 0 0 68 [some (.inr (.inr 62)), some (.inl v1), some (.inl v2), some (.inl v3)] [.inl x] h')) : J mX9_arrive d 0 0 Q 0 0 63 [some (.inr (.inr 62)), some (.inl v1), some (.inl v2), some (.inl v3)] [] h := by
  exact bX9_arrive_63 hr hd1' (K0)

set_option maxRecDepth 20000 in
theorem t_X9_arrive_68 {d d1' : Nat} {Q : Option MV → MH → Prop} {h : MH} {v1 v2 v3 vs0 : Int32} (hr : zRf h) (hd1' : d1' + 1 ≤ d) (K0 : vs0 = 0 → Con mX9_go d1' 0 0 [.inr (.inr 62), .inl v1, .inl v2, .inl v3] h (zrv fun h' => J mX9_arrive d 0 0 Q 0 0 91 [some (.inr (.inr 62)), some (.inl v1), some (.inl v2), some (.inl v3)] [] h')) (K1 : ¬ vs0 = 0 → Q none (zsI (zsI h 62 6 (nI 1)) 62 7 (nI 1))) : J mX9_arrive d 0 0 Q 0 0 68 [some (.inr (.inr 62)), some (.inl v1), some (.inl v2), some (.inl v3)] [.inl vs0] h := by
  refine bX9_arrive_68  (fun p1 => ?_) (fun p1 => ?_)
  · exact bX9_arrive_84 hr hd1' (K0 p1)
  · refine bX9_arrive_71 hr ?_
    exact bX9_arrive_134  (K1 p1)

set_option maxRecDepth 20000 in
theorem t_X9_arrive_91 {d  : Nat} {Q : Option MV → MH → Prop} {h : MH} {v1 v2 v3 : Int32} (K0 : Q none h) : J mX9_arrive d 0 0 Q 0 0 91 [some (.inr (.inr 62)), some (.inl v1), some (.inl v2), some (.inl v3)] [] h := by
  refine bX9_arrive_91  ?_
  exact bX9_arrive_134  (K0)

set_option maxRecDepth 20000 in
theorem t_X9_arrive_94 {d d1' : Nat} {Q : Option MV → MH → Prop} {h : MH} {v1 v2 v3 : Int32} (hr : zRf h) (hd1' : d1' + 1 ≤ d) (K0 : Con mX9_arriveWanting d1' 0 0 [.inr (.inr 62), .inl v1, .inl v2, .inl v3] h (zrv fun h' => J mX9_arrive d 0 0 Q 0 0 101 [some (.inr (.inr 62)), some (.inl v1), some (.inl v2), some (.inl v3)] [] h')) : J mX9_arrive d 0 0 Q 0 0 94 [some (.inr (.inr 62)), some (.inl v1), some (.inl v2), some (.inl v3)] [] h := by
  exact bX9_arrive_94 hr hd1' (K0)

set_option maxRecDepth 20000 in
theorem t_X9_arrive_101 {d  : Nat} {Q : Option MV → MH → Prop} {h : MH} {v1 v2 v3 : Int32} (K0 : Q none h) : J mX9_arrive d 0 0 Q 0 0 101 [some (.inr (.inr 62)), some (.inl v1), some (.inl v2), some (.inl v3)] [] h := by
  refine bX9_arrive_101  ?_
  exact bX9_arrive_134  (K0)

set_option maxRecDepth 20000 in
theorem t_X9_arrive_104 {d d1' d2' : Nat} {Q : Option MV → MH → Prop} {h : MH} {v1 v2 v3 : Int32} (hr : zRf h) (hd1' : d1' + 1 ≤ d) (hd2' : d2' + 1 ≤ d) (K0 : ¬ (h.1 62 4) = (nI 2) → Con mX9_arriveSeeking d1' 0 0 [.inr (.inr 62), .inl v1, .inl v2, .inl ((h.1 62 2) - v2)] h (zrv fun h' => J mX9_arrive d 0 0 Q 0 0 134 [some (.inr (.inr 62)), some (.inl v1), some (.inl v2), some (.inl v3)] [] h')) (K1 : (h.1 62 4) = (nI 2) → Con mX9_newFlames d2' 0 0 [.inr (.inr 62), .inl v1] h (zri fun (x : Int32) h' => J mX9_arrive d 0 0 Q 0 0 121 [some (.inr (.inr 62)), some (.inl v1), some (.inl v2), some (.inl v3)] [.inl x, .inl v3, .inl v2, .inl v1, .inr (.inr 62)] h')) : J mX9_arrive d 0 0 Q 0 0 104 [some (.inr (.inr 62)), some (.inl v1), some (.inl v2), some (.inl v3)] [] h := by
  refine bX9_arrive_104 hr (fun p1 => ?_) (fun p1 => ?_)
  · refine bX9_arrive_125 hr ?_
    exact bX9_arrive_131 hr hd1' (K0 p1)
  · exact bX9_arrive_115 hr hd2' (K1 p1)

set_option maxRecDepth 20000 in
theorem t_X9_arrive_121 {d d1' : Nat} {Q : Option MV → MH → Prop} {h : MH} {v1 v2 v3 vs1 vs2 vs3 vs4 : Int32} (hr : zRf h) (hd1' : d1' + 1 ≤ d) (K0 : Con mX9_arriveSeeking d1' 0 0 [.inr (.inr 62), .inl vs1, .inl vs2, .inl (vs3 + vs4)] h (zrv fun h' => J mX9_arrive d 0 0 Q 0 0 134 [some (.inr (.inr 62)), some (.inl v1), some (.inl v2), some (.inl v3)] [] h')) : J mX9_arrive d 0 0 Q 0 0 121 [some (.inr (.inr 62)), some (.inl v1), some (.inl v2), some (.inl v3)] [.inl vs4, .inl vs3, .inl vs2, .inl vs1, .inr (.inr 62)] h := by
  refine bX9_arrive_121  ?_
  exact bX9_arrive_131 hr hd1' (K0)

set_option maxRecDepth 20000 in
theorem t_X9_arrive_134 {d  : Nat} {Q : Option MV → MH → Prop} {h : MH} {v1 v2 v3 : Int32} (K0 : Q none h) : J mX9_arrive d 0 0 Q 0 0 134 [some (.inr (.inr 62)), some (.inl v1), some (.inl v2), some (.inl v3)] [] h := by
  exact bX9_arrive_134  (K0)

set_option maxRecDepth 20000 in
theorem t_X9_liesBetween {d  : Nat} {Q : Option MV → MH → Prop} {h : MH} {v1 : Int32} (K0 : J mX9_liesBetween d 0 0 Q 0 0 2 [some (.inr (.inr 62)), some (.inl v1), some (.inl (nI 0))] [] h) : Con mX9_liesBetween d 0 0 [.inr (.inr 62), .inl v1] h Q := by
  refine Con.intro rfl (Nat.le_of_ble_eq_true rfl) ?_
  show J mX9_liesBetween d 0 0 Q 0 0 0 [some (.inr (.inr 62)), some (.inl v1), none] [] h
  refine bX9_liesBetween_0  ?_
  exact K0

set_option maxRecDepth 20000 in
theorem t_X9_liesBetween_2 {d  : Nat} {Q : Option MV → MH → Prop} {h : MH} {v1 v2 : Int32} (hr : zRf h) (G0 : ¬ v1 ≤ v2 → vp_in v1 5) (G1 : ¬ v1 ≤ v2 → vp_in v2 5) (K0 : v1 ≤ v2 → Q (some (.inl (nI 0))) h) (K1 : ¬ v1 ≤ v2 → ¬ ((h.1 64 v1.toNatClampNeg) - (h.1 64 v2.toNatClampNeg)) = (h.1 62 5) → J mX9_liesBetween d 0 0 Q 0 0 2 [some (.inr (.inr 62)), some (.inl v1), some (.inl (v2 + nI 1))] [] h) (K2 : ¬ v1 ≤ v2 → ((h.1 64 v1.toNatClampNeg) - (h.1 64 v2.toNatClampNeg)) = (h.1 62 5) → Q (some (.inl (nI 1))) h) : J mX9_liesBetween d 0 0 Q 0 0 2 [some (.inr (.inr 62)), some (.inl v1), some (.inl v2)] [] h := by
  refine bX9_liesBetween_2  (fun p1 => ?_) (fun p1 => ?_)
  · exact bX9_liesBetween_35  (K0 p1)
  · refine bX9_liesBetween_7 hr (G0 p1) (G1 p1) (fun p2 => ?_) (fun p2 => ?_)
    · refine bX9_liesBetween_29  ?_
      exact K1 p1 p2
    · exact bX9_liesBetween_27  (K2 p1 p2)

set_option maxRecDepth 20000 in
theorem t_X9_arriveWanting {d d1' d2' : Nat} {Q : Option MV → MH → Prop} {h : MH} {v1 v2 v3 : Int32} (hr : zRf h) (hd1' : d1' + 1 ≤ d) (hd2' : d2' + 1 ≤ d) (G0 : vp_in v1 5) (G1 : ¬ (h.1 62 10) ≤ v3 → vp_in v3 4) (G2 : ¬ (h.1 62 10) ≤ v3 → (h.1 64 v1.toNatClampNeg) ≤ (h.1 63 v3.toNatClampNeg) → (h.1 64 v1.toNatClampNeg) = (h.1 63 v3.toNatClampNeg) → (v3 + (nI 1)) < (h.1 62 10) → vp_in (v3 + (nI 1)) 4) (K0 : (h.1 62 10) ≤ v3 → Q none h) (K1 : ¬ (h.1 62 10) ≤ v3 → (h.1 64 v1.toNatClampNeg) ≤ (h.1 63 v3.toNatClampNeg) → ¬ (h.1 64 v1.toNatClampNeg) = (h.1 63 v3.toNatClampNeg) → v3 < (h.1 62 10) → Con mX9_mayTell d1' 0 0 [.inr (.inr 62), .inl v1, .inl ((h.1 63 v3.toNatClampNeg) - (h.1 64 v1.toNatClampNeg))] h (zri fun (x : Int32) h' => J mX9_arriveWanting d 0 0 Q 0 0 85 [some (.inr (.inr 62)), some (.inl v1), some (.inl v2), some (.inl v3), some (.inl (h.1 64 v1.toNatClampNeg)), some (.inl v3)] [.inl x] h')) (K2 : ¬ (h.1 62 10) ≤ v3 → (h.1 64 v1.toNatClampNeg) ≤ (h.1 63 v3.toNatClampNeg) → ¬ (h.1 64 v1.toNatClampNeg) = (h.1 63 v3.toNatClampNeg) → ¬ v3 < (h.1 62 10) → Q none (zsI (zsI h 62 6 (nI 1)) 62 7 (nI 1))) (K3 : ¬ (h.1 62 10) ≤ v3 → (h.1 64 v1.toNatClampNeg) ≤ (h.1 63 v3.toNatClampNeg) → (h.1 64 v1.toNatClampNeg) = (h.1 63 v3.toNatClampNeg) → (v3 + (nI 1)) < (h.1 62 10) → Con mX9_mayTell d2' 0 0 [.inr (.inr 62), .inl v1, .inl ((h.1 63 (v3 + (nI 1)).toNatClampNeg) - (h.1 64 v1.toNatClampNeg))] h (zri fun (x : Int32) h' => J mX9_arriveWanting d 0 0 Q 0 0 85 [some (.inr (.inr 62)), some (.inl v1), some (.inl v2), some (.inl v3), some (.inl (h.1 64 v1.toNatClampNeg)), some (.inl (v3 + (nI 1)))] [.inl x] h')) (K4 : ¬ (h.1 62 10) ≤ v3 → (h.1 64 v1.toNatClampNeg) ≤ (h.1 63 v3.toNatClampNeg) → (h.1 64 v1.toNatClampNeg) = (h.1 63 v3.toNatClampNeg) → ¬ (v3 + (nI 1)) < (h.1 62 10) → Q none (zsI (zsI h 62 6 (nI 1)) 62 7 (nI 1))) (K5 : ¬ (h.1 62 10) ≤ v3 → ¬ (h.1 64 v1.toNatClampNeg) ≤ (h.1 63 v3.toNatClampNeg) → Q none h) : Con mX9_arriveWanting d 0 0 [.inr (.inr 62), .inl v1, .inl v2, .inl v3] h Q := by
  refine Con.intro rfl (Nat.le_of_ble_eq_true rfl) ?_
  show J mX9_arriveWanting d 0 0 Q 0 0 0 [some (.inr (.inr 62)), some (.inl v1), some (.inl v2), some (.inl v3), none, none] [] h
  refine bX9_arriveWanting_0 hr (G0) (fun p1 => ?_) (fun p1 => ?_)
  · exact bX9_arriveWanting_27  (K0 p1)
  · refine bX9_arriveWanting_16 hr (G1 p1) (fun p2 => ?_) (fun p2 => ?_)
    · refine bX9_arriveWanting_28 hr (G1 p1) (fun p3 => ?_) (fun p3 => ?_)
      · refine bX9_arriveWanting_45  ?_
        refine bX9_arriveWanting_46 hr (fun p4 => ?_) (fun p4 => ?_)
        · exact bX9_arriveWanting_70 hr (G1 p1) hd1' (K1 p1 p2 p3 p4)
        · refine bX9_arriveWanting_57 hr ?_
          exact bX9_arriveWanting_96  (K2 p1 p2 p3 p4)
      · refine bX9_arriveWanting_39  ?_
        refine bX9_arriveWanting_46 hr (fun p5 => ?_) (fun p5 => ?_)
        · exact bX9_arriveWanting_70 hr (G2 p1 p2 p3 p5) hd2' (K3 p1 p2 p3 p5)
        · refine bX9_arriveWanting_57 hr ?_
          exact bX9_arriveWanting_96  (K4 p1 p2 p3 p5)
    · exact bX9_arriveWanting_27  (K5 p1 p2)

set_option maxRecDepth 20000 in
theorem t_X9_arriveWanting_85 {d d1' : Nat} {Q : Option MV → MH → Prop} {h : MH} {v1 v2 v3 v4 v5 vs0 : Int32} (hr : zRf h) (hd1' : d1' + 1 ≤ d) (K0 : vs0 = 0 → Q none h) (K1 : ¬ vs0 = 0 → Con mX9_go d1' 0 0 [.inr (.inr 62), .inl v1, .inl v2, .inl v5] h (zrv fun h' => J mX9_arriveWanting d 0 0 Q 0 0 96 [some (.inr (.inr 62)), some (.inl v1), some (.inl v2), some (.inl v3), some (.inl v4), some (.inl v5)] [] h')) : J mX9_arriveWanting d 0 0 Q 0 0 85 [some (.inr (.inr 62)), some (.inl v1), some (.inl v2), some (.inl v3), some (.inl v4), some (.inl v5)] [.inl vs0] h := by
  refine bX9_arriveWanting_85  (fun p1 => ?_) (fun p1 => ?_)
  · exact bX9_arriveWanting_96  (K0 p1)
  · exact bX9_arriveWanting_88 hr hd1' (K1 p1)

set_option maxRecDepth 20000 in
theorem t_X9_arriveWanting_96 {d  : Nat} {Q : Option MV → MH → Prop} {h : MH} {v1 v2 v3 v4 v5 : Int32} (K0 : Q none h) : J mX9_arriveWanting d 0 0 Q 0 0 96 [some (.inr (.inr 62)), some (.inl v1), some (.inl v2), some (.inl v3), some (.inl v4), some (.inl v5)] [] h := by
  exact bX9_arriveWanting_96  (K0)

set_option maxRecDepth 20000 in
theorem t_X9_arriveSeeking {d d1' d2' : Nat} {Q : Option MV → MH → Prop} {h : MH} {v1 v2 v3 : Int32} (hr : zRf h) (hd1' : d1' + 1 ≤ d) (hd2' : d2' + 1 ≤ d) (G0 : vp_in v1 5) (K0 : (h.1 62 5) < (h.1 64 v1.toNatClampNeg) → Q none h) (K1 : ¬ (h.1 62 5) < (h.1 64 v1.toNatClampNeg) → ((h.1 64 v1.toNatClampNeg) + v2) < (h.1 62 5) → Q none h) (K2 : ¬ (h.1 62 5) < (h.1 64 v1.toNatClampNeg) → ¬ ((h.1 64 v1.toNatClampNeg) + v2) < (h.1 62 5) → (h.1 62 6) = 0 → (h.1 62 5) ≤ (h.1 64 v1.toNatClampNeg) → ¬ ((zsI (zsI (zsI h 62 6 (nI 1)) 62 8 v3) 62 9 v1).1 62 4) = (nI 1) → Q none (zsI (zsI (zsI (zsI h 62 6 (nI 1)) 62 8 v3) 62 9 v1) 62 7 (nI 0))) (K3 : ¬ (h.1 62 5) < (h.1 64 v1.toNatClampNeg) → ¬ ((h.1 64 v1.toNatClampNeg) + v2) < (h.1 62 5) → (h.1 62 6) = 0 → (h.1 62 5) ≤ (h.1 64 v1.toNatClampNeg) → ((zsI (zsI (zsI h 62 6 (nI 1)) 62 8 v3) 62 9 v1).1 62 4) = (nI 1) → Q none (zsI (zsI (zsI (zsI h 62 6 (nI 1)) 62 8 v3) 62 9 v1) 62 7 (nI 1))) (K4 : ¬ (h.1 62 5) < (h.1 64 v1.toNatClampNeg) → ¬ ((h.1 64 v1.toNatClampNeg) + v2) < (h.1 62 5) → (h.1 62 6) = 0 → ¬ (h.1 62 5) ≤ (h.1 64 v1.toNatClampNeg) → Con mX9_mayTell d1' 0 0 [.inr (.inr 62), .inl v1, .inl ((h.1 62 5) - (h.1 64 v1.toNatClampNeg))] h (zri fun (x : Int32) h' => J mX9_arriveSeeking d 0 0 Q 0 0 65 [some (.inr (.inr 62)), some (.inl v1), some (.inl v2), some (.inl v3), some (.inl (h.1 64 v1.toNatClampNeg))] [.inl x] h')) (K5 : ¬ (h.1 62 5) < (h.1 64 v1.toNatClampNeg) → ¬ ((h.1 64 v1.toNatClampNeg) + v2) < (h.1 62 5) → ¬ (h.1 62 6) = 0 → v3 < (h.1 62 8) → (h.1 62 5) ≤ (h.1 64 v1.toNatClampNeg) → ¬ ((zsI (zsI (zsI h 62 6 (nI 1)) 62 8 v3) 62 9 v1).1 62 4) = (nI 1) → Q none (zsI (zsI (zsI (zsI h 62 6 (nI 1)) 62 8 v3) 62 9 v1) 62 7 (nI 0))) (K6 : ¬ (h.1 62 5) < (h.1 64 v1.toNatClampNeg) → ¬ ((h.1 64 v1.toNatClampNeg) + v2) < (h.1 62 5) → ¬ (h.1 62 6) = 0 → v3 < (h.1 62 8) → (h.1 62 5) ≤ (h.1 64 v1.toNatClampNeg) → ((zsI (zsI (zsI h 62 6 (nI 1)) 62 8 v3) 62 9 v1).1 62 4) = (nI 1) → Q none (zsI (zsI (zsI (zsI h 62 6 (nI 1)) 62 8 v3) 62 9 v1) 62 7 (nI 1))) (K7 : ¬ (h.1 62 5) < (h.1 64 v1.toNatClampNeg) → ¬ ((h.1 64 v1.toNatClampNeg) + v2) < (h.1 62 5) → ¬ (h.1 62 6) = 0 → v3 < (h.1 62 8) → ¬ (h.1 62 5) ≤ (h.1 64 v1.toNatClampNeg) → Con mX9_mayTell d2' 0 0 [.inr (.inr 62), .inl v1, .inl ((h.1 62 5) - (h.1 64 v1.toNatClampNeg))] h (zri fun (x : Int32) h' => J mX9_arriveSeeking d 0 0 Q 0 0 65 [some (.inr (.inr 62)), some (.inl v1), some (.inl v2), some (.inl v3), some (.inl (h.1 64 v1.toNatClampNeg))] [.inl x] h')) (K8 : ¬ (h.1 62 5) < (h.1 64 v1.toNatClampNeg) → ¬ ((h.1 64 v1.toNatClampNeg) + v2) < (h.1 62 5) → ¬ (h.1 62 6) = 0 → ¬ v3 < (h.1 62 8) → Q none h) : Con mX9_arriveSeeking d 0 0 [.inr (.inr 62), .inl v1, .inl v2, .inl v3] h Q := by
  refine Con.intro rfl (Nat.le_of_ble_eq_true rfl) ?_
  show J mX9_arriveSeeking d 0 0 Q 0 0 0 [some (.inr (.inr 62)), some (.inl v1), some (.inl v2), some (.inl v3), none] [] h
  refine bX9_arriveSeeking_0 hr (G0) (fun p1 => ?_) (fun p1 => ?_)
  · exact bX9_arriveSeeking_43  (K0 p1)
  · refine bX9_arriveSeeking_17 hr (fun p2 => ?_) (fun p2 => ?_)
    · exact bX9_arriveSeeking_43  (K1 p1 p2)
    · refine bX9_arriveSeeking_28 hr (fun p3 => ?_) (fun p3 => ?_)
      · refine bX9_arriveSeeking_44 hr (fun p4 => ?_) (fun p4 => ?_)
        · refine bX9_arriveSeeking_76 hr (fun p5 => ?_) (fun p5 => ?_)
          · refine bX9_arriveSeeking_104  ?_
            exact bX9_arriveSeeking_105 hr (by decide) (K2 p1 p2 p3 p4 p5)
          · refine bX9_arriveSeeking_100  ?_
            exact bX9_arriveSeeking_105 hr (by decide) (K3 p1 p2 p3 p4 p5)
        · exact bX9_arriveSeeking_53 hr hd1' (K4 p1 p2 p3 p4)
      · refine bX9_arriveSeeking_35 hr (fun p6 => ?_) (fun p6 => ?_)
        · refine bX9_arriveSeeking_44 hr (fun p7 => ?_) (fun p7 => ?_)
          · refine bX9_arriveSeeking_76 hr (fun p8 => ?_) (fun p8 => ?_)
            · refine bX9_arriveSeeking_104  ?_
              exact bX9_arriveSeeking_105 hr (by decide) (K5 p1 p2 p3 p6 p7 p8)
            · refine bX9_arriveSeeking_100  ?_
              exact bX9_arriveSeeking_105 hr (by decide) (K6 p1 p2 p3 p6 p7 p8)
          · exact bX9_arriveSeeking_53 hr hd2' (K7 p1 p2 p3 p6 p7)
        · exact bX9_arriveSeeking_43  (K8 p1 p2 p3 p6)

set_option maxRecDepth 20000 in
theorem t_X9_arriveSeeking_65 {d d1' : Nat} {Q : Option MV → MH → Prop} {h : MH} {v1 v2 v3 v4 vs0 : Int32} (hr : zRf h) (hd1' : d1' + 1 ≤ d) (K0 : vs0 = 0 → Q none h) (K1 : ¬ vs0 = 0 → Con mX9_go d1' 0 0 [.inr (.inr 62), .inl v1, .inl v2, .inl v3] h (zrv fun h' => J mX9_arriveSeeking d 0 0 Q 0 0 75 [some (.inr (.inr 62)), some (.inl v1), some (.inl v2), some (.inl v3), some (.inl v4)] [] h')) : J mX9_arriveSeeking d 0 0 Q 0 0 65 [some (.inr (.inr 62)), some (.inl v1), some (.inl v2), some (.inl v3), some (.inl v4)] [.inl vs0] h := by
  refine bX9_arriveSeeking_65  (fun p1 => ?_) (fun p1 => ?_)
  · exact bX9_arriveSeeking_75  (K0 p1)
  · exact bX9_arriveSeeking_68 hr hd1' (K1 p1)

set_option maxRecDepth 20000 in
theorem t_X9_arriveSeeking_75 {d  : Nat} {Q : Option MV → MH → Prop} {h : MH} {v1 v2 v3 v4 : Int32} (K0 : Q none h) : J mX9_arriveSeeking d 0 0 Q 0 0 75 [some (.inr (.inr 62)), some (.inl v1), some (.inl v2), some (.inl v3), some (.inl v4)] [] h := by
  exact bX9_arriveSeeking_75  (K0)

set_option maxRecDepth 20000 in
theorem t_X9_mayTell {d  : Nat} {Q : Option MV → MH → Prop} {h : MH} {v1 v2 : Int32} (K0 : J mX9_mayTell d 0 0 Q 0 0 8 [some (.inr (.inr 62)), some (.inl v1), some (.inl v2), some (.inl (nI 0)), some (.inl (nI 0)), some (.inl (nI 0))] [] h) : Con mX9_mayTell d 0 0 [.inr (.inr 62), .inl v1, .inl v2] h Q := by
  refine Con.intro rfl (Nat.le_of_ble_eq_true rfl) ?_
  show J mX9_mayTell d 0 0 Q 0 0 0 [some (.inr (.inr 62)), some (.inl v1), some (.inl v2), none, none, none] [] h
  refine bX9_mayTell_0  ?_
  exact K0

set_option maxRecDepth 20000 in
theorem t_X9_mayTell_8 {d  : Nat} {Q : Option MV → MH → Prop} {h : MH} {v1 v2 v3 v4 v5 : Int32} (hr : zRf h) (G0 : ¬ (h.1 62 0) ≤ v5 → vp_in v1 5) (G1 : ¬ (h.1 62 0) ≤ v5 → zokA h (66 + v1.toNatClampNeg) 20 v5) (K0 : (h.1 62 0) ≤ v5 → ¬ v3 = (nI 1) → ¬ (v2 &&& (((v4 &&& (-v4)) >>> (v3 &&& 31)) - (nI 1))) = 0 → Q (some (.inl (nI 0))) h) (K1 : (h.1 62 0) ≤ v5 → ¬ v3 = (nI 1) → (v2 &&& (((v4 &&& (-v4)) >>> (v3 &&& 31)) - (nI 1))) = 0 → Q (some (.inl (nI 1))) h) (K2 : (h.1 62 0) ≤ v5 → v3 = (nI 1) → v2 = v4 → Q (some (.inl (nI 1))) h) (K3 : (h.1 62 0) ≤ v5 → v3 = (nI 1) → ¬ v2 = v4 → ¬ (v2 * (nI 2)) = v4 → Q (some (.inl (nI 0))) h) (K4 : (h.1 62 0) ≤ v5 → v3 = (nI 1) → ¬ v2 = v4 → (v2 * (nI 2)) = v4 → Q (some (.inl (nI 1))) h) (K5 : ¬ (h.1 62 0) ≤ v5 → (h.1 (66 + v1.toNatClampNeg) v5.toNatClampNeg) ≤ 0 → J mX9_mayTell d 0 0 Q 0 0 8 [some (.inr (.inr 62)), some (.inl v1), some (.inl v2), some (.inl v3), some (.inl v4), some (.inl (v5 + nI 1))] [] h) (K6 : ¬ (h.1 62 0) ≤ v5 → ¬ (h.1 (66 + v1.toNatClampNeg) v5.toNatClampNeg) ≤ 0 → J mX9_mayTell d 0 0 Q 0 0 8 [some (.inr (.inr 62)), some (.inl v1), some (.inl v2), some (.inl (v3 + nI 1)), some (.inl (v4 ||| (h.1 (66 + v1.toNatClampNeg) v5.toNatClampNeg))), some (.inl (v5 + nI 1))] [] h) : J mX9_mayTell d 0 0 Q 0 0 8 [some (.inr (.inr 62)), some (.inl v1), some (.inl v2), some (.inl v3), some (.inl v4), some (.inl v5)] [] h := by
  refine bX9_mayTell_8 hr (fun p1 => ?_) (fun p1 => ?_)
  · refine bX9_mayTell_52  (fun p2 => ?_) (fun p2 => ?_)
    · refine bX9_mayTell_77  (fun p3 => ?_) (fun p3 => ?_)
      · refine bX9_mayTell_100  ?_
        exact bX9_mayTell_101 (by decide) (K0 p1 p2 p3)
      · refine bX9_mayTell_96  ?_
        exact bX9_mayTell_101 (by decide) (K1 p1 p2 p3)
    · refine bX9_mayTell_57  (fun p4 => ?_) (fun p4 => ?_)
      · refine bX9_mayTell_71  ?_
        exact bX9_mayTell_76 (by decide) (K2 p1 p2 p4)
      · refine bX9_mayTell_63  (fun p5 => ?_) (fun p5 => ?_)
        · refine bX9_mayTell_75  ?_
          exact bX9_mayTell_76 (by decide) (K3 p1 p2 p4 p5)
        · refine bX9_mayTell_71  ?_
          exact bX9_mayTell_76 (by decide) (K4 p1 p2 p4 p5)
  · refine bX9_mayTell_17 hr (G0 p1) (G1 p1) (fun p6 => ?_) (fun p6 => ?_)
    · refine bX9_mayTell_46  ?_
      exact K5 p1 p6
    · refine bX9_mayTell_29 hr (G0 p1) (G1 p1) ?_
      refine bX9_mayTell_46  ?_
      exact K6 p1 p6

set_option maxRecDepth 20000 in
theorem t_X9_newFlames {d  : Nat} {Q : Option MV → MH → Prop} {h : MH} {v1 : Int32} (K0 : J mX9_newFlames d 0 0 Q 0 0 4 [some (.inr (.inr 62)), some (.inl v1), some (.inl (nI 0)), some (.inl (nI 0))] [] h) : Con mX9_newFlames d 0 0 [.inr (.inr 62), .inl v1] h Q := by
  refine Con.intro rfl (Nat.le_of_ble_eq_true rfl) ?_
  show J mX9_newFlames d 0 0 Q 0 0 0 [some (.inr (.inr 62)), some (.inl v1), none, none] [] h
  refine bX9_newFlames_0  ?_
  exact K0

set_option maxRecDepth 20000 in
theorem t_X9_newFlames_4 {d  : Nat} {Q : Option MV → MH → Prop} {h : MH} {v1 v2 v3 : Int32} (hr : zRf h) (hd : 1 ≤ d) (G0 : ¬ (h.1 62 0) ≤ v3 → vp_in v1 5) (G1 : ¬ (h.1 62 0) ≤ v3 → zokA h (72 + v1.toNatClampNeg) 20 v3) (G2 : ¬ (h.1 62 0) ≤ v3 → vp_in (v1 - (nI 1)) 5) (G3 : ¬ (h.1 62 0) ≤ v3 → zokA h (72 + (v1 - (nI 1)).toNatClampNeg) 20 v3) (K0 : (h.1 62 0) ≤ v3 → Q (some (.inl v2)) h) (K1 : ¬ (h.1 62 0) ≤ v3 → J mX9_newFlames d 0 0 Q 0 0 4 [some (.inr (.inr 62)), some (.inl v1), some (.inl (v2 + (if (nI 0) < ((h.1 (72 + v1.toNatClampNeg) v3.toNatClampNeg) - (h.1 (72 + (v1 - (nI 1)).toNatClampNeg) v3.toNatClampNeg)) then ((h.1 (72 + v1.toNatClampNeg) v3.toNatClampNeg) - (h.1 (72 + (v1 - (nI 1)).toNatClampNeg) v3.toNatClampNeg)) else (nI 0)))), some (.inl (v3 + nI 1))] [] h) : J mX9_newFlames d 0 0 Q 0 0 4 [some (.inr (.inr 62)), some (.inl v1), some (.inl v2), some (.inl v3)] [] h := by
  refine bX9_newFlames_4 hr (fun p1 => ?_) (fun p1 => ?_)
  · exact bX9_newFlames_44  (K0 p1)
  · refine bX9_newFlames_12 hr (G0 p1) (G1 p1) (G2 p1) (G3 p1) (by omega) ?_
    refine bX9_newFlames_36  ?_
    exact K1 p1
