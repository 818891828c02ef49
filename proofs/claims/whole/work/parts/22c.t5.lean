set_option maxRecDepth 20000 in
theorem t_X5_clear {d  : Nat} {Q : Option MV → MH → Prop} {h : MH} {v0 : Nat} (G0 : zokO h v0 5) (K0 : Q none (zsI (zsI h v0 0 (nI 0)) v0 1 (nI 0))) : Con mX5_clear d 0 0 [.inr (.inr v0)] h Q := by
  refine Con.intro rfl (Nat.le_of_ble_eq_true rfl) ?_
  show J mX5_clear d 0 0 Q 0 0 0 [some (.inr (.inr v0))] [] h
  exact bX5_clear_0 (G0) (K0)

set_option maxRecDepth 20000 in
theorem t_X5_takeFrom {d  : Nat} {Q : Option MV → MH → Prop} {h : MH} {v0 v1 : Nat} (hr : zRf h) (hd : 1 ≤ d) (G0 : zokO h v1 5) (G1 : zokO h v0 5) (K0 : Q none (zcI (zcI (zcI (zcI (zcI (zsI (zsI h v0 0 (h.1 v1 0)) v0 1 ((zsI h v0 0 (h.1 v1 0)).1 v1 1)) (v1 + 1) (v0 + 1) 0 0 20) (v1 + 2) (v0 + 2) 0 0 20) (v1 + 3) (v0 + 3) 0 0 40) (v1 + 4) (v0 + 4) 0 0 40) (v1 + 5) (v0 + 5) 0 0 40)) : Con mX5_takeFrom d 0 0 [.inr (.inr v0), .inr (.inr v1)] h Q := by
  refine Con.intro rfl (Nat.le_of_ble_eq_true rfl) ?_
  show J mX5_takeFrom d 0 0 Q 0 0 0 [some (.inr (.inr v0)), some (.inr (.inr v1))] [] h
  refine bX5_takeFrom_0 hr (G0) (G1) (by omega) ?_
  refine bX5_takeFrom_31 hr (G0) (G1) (by omega) ?_
  refine bX5_takeFrom_46 hr (G0) (G1) (by omega) ?_
  refine bX5_takeFrom_61 hr (G0) (G1) (by omega) ?_
  refine bX5_takeFrom_76 hr (G0) (G1) (by omega) ?_
  exact bX5_takeFrom_91  (K0)

set_option maxRecDepth 20000 in
theorem t_X5_addRule {d  : Nat} {Q : Option MV → MH → Prop} {h : MH} {v1 : Int32} {v0 : Nat} (hr : zRf h) (G0 : zokO h v0 5) (G1 : ¬ (nI 20) ≤ (h.1 v0 0) → vp_in (h.1 v0 0) 20) (G2 : ¬ (nI 20) ≤ (h.1 v0 0) → vp_in ((zsI h (v0 + 1) (h.1 v0 0).toNatClampNeg v1).1 v0 0) 20) (K0 : (nI 20) ≤ (h.1 v0 0) → Q none h) (K1 : ¬ (nI 20) ≤ (h.1 v0 0) → Q none (zsI (zsI (zsI h (v0 + 1) (h.1 v0 0).toNatClampNeg v1) (v0 + 2) ((zsI h (v0 + 1) (h.1 v0 0).toNatClampNeg v1).1 v0 0).toNatClampNeg ((zsI h (v0 + 1) (h.1 v0 0).toNatClampNeg v1).1 v0 1)) v0 0 (((zsI (zsI h (v0 + 1) (h.1 v0 0).toNatClampNeg v1) (v0 + 2) ((zsI h (v0 + 1) (h.1 v0 0).toNatClampNeg v1).1 v0 0).toNatClampNeg ((zsI h (v0 + 1) (h.1 v0 0).toNatClampNeg v1).1 v0 1)).1 v0 0) + (nI 1)))) : Con mX5_addRule d 0 0 [.inr (.inr v0), .inl v1] h Q := by
  refine Con.intro rfl (Nat.le_of_ble_eq_true rfl) ?_
  show J mX5_addRule d 0 0 Q 0 0 0 [some (.inr (.inr v0)), some (.inl v1)] [] h
  refine bX5_addRule_0 (G0) (fun p1 => ?_) (fun p1 => ?_)
  · exact bX5_addRule_42  (K0 p1)
  · refine bX5_addRule_9 hr (G0) (G1 p1) (G2 p1) ?_
    exact bX5_addRule_42  (K1 p1)

set_option maxRecDepth 20000 in
theorem t_X5_addAct {d  : Nat} {Q : Option MV → MH → Prop} {h : MH} {v1 v2 v3 : Int32} {v0 : Nat} (hr : zRf h) (G0 : zokO h v0 5) (G1 : ¬ (nI 40) ≤ (h.1 v0 1) → ¬ (h.1 v0 0) ≤ 0 → vp_in (h.1 v0 1) 40) (G2 : ¬ (nI 40) ≤ (h.1 v0 1) → ¬ (h.1 v0 0) ≤ 0 → vp_in ((zsI h (v0 + 3) (h.1 v0 1).toNatClampNeg v1).1 v0 1) 40) (G3 : ¬ (nI 40) ≤ (h.1 v0 1) → ¬ (h.1 v0 0) ≤ 0 → vp_in ((zsI (zsI h (v0 + 3) (h.1 v0 1).toNatClampNeg v1) (v0 + 4) ((zsI h (v0 + 3) (h.1 v0 1).toNatClampNeg v1).1 v0 1).toNatClampNeg v2).1 v0 1) 40) (G4 : ¬ (nI 40) ≤ (h.1 v0 1) → ¬ (h.1 v0 0) ≤ 0 → vp_in (((zsI (zsI (zsI (zsI h (v0 + 3) (h.1 v0 1).toNatClampNeg v1) (v0 + 4) ((zsI h (v0 + 3) (h.1 v0 1).toNatClampNeg v1).1 v0 1).toNatClampNeg v2) (v0 + 5) ((zsI (zsI h (v0 + 3) (h.1 v0 1).toNatClampNeg v1) (v0 + 4) ((zsI h (v0 + 3) (h.1 v0 1).toNatClampNeg v1).1 v0 1).toNatClampNeg v2).1 v0 1).toNatClampNeg v3) v0 1 (((zsI (zsI (zsI h (v0 + 3) (h.1 v0 1).toNatClampNeg v1) (v0 + 4) ((zsI h (v0 + 3) (h.1 v0 1).toNatClampNeg v1).1 v0 1).toNatClampNeg v2) (v0 + 5) ((zsI (zsI h (v0 + 3) (h.1 v0 1).toNatClampNeg v1) (v0 + 4) ((zsI h (v0 + 3) (h.1 v0 1).toNatClampNeg v1).1 v0 1).toNatClampNeg v2).1 v0 1).toNatClampNeg v3).1 v0 1) + (nI 1))).1 v0 0) - (nI 1)) 20) (K0 : (nI 40) ≤ (h.1 v0 1) → Q none h) (K1 : ¬ (nI 40) ≤ (h.1 v0 1) → (h.1 v0 0) ≤ 0 → Q none h) (K2 : ¬ (nI 40) ≤ (h.1 v0 1) → ¬ (h.1 v0 0) ≤ 0 → Q none (zsI (zsI (zsI (zsI (zsI h (v0 + 3) (h.1 v0 1).toNatClampNeg v1) (v0 + 4) ((zsI h (v0 + 3) (h.1 v0 1).toNatClampNeg v1).1 v0 1).toNatClampNeg v2) (v0 + 5) ((zsI (zsI h (v0 + 3) (h.1 v0 1).toNatClampNeg v1) (v0 + 4) ((zsI h (v0 + 3) (h.1 v0 1).toNatClampNeg v1).1 v0 1).toNatClampNeg v2).1 v0 1).toNatClampNeg v3) v0 1 (((zsI (zsI (zsI h (v0 + 3) (h.1 v0 1).toNatClampNeg v1) (v0 + 4) ((zsI h (v0 + 3) (h.1 v0 1).toNatClampNeg v1).1 v0 1).toNatClampNeg v2) (v0 + 5) ((zsI (zsI h (v0 + 3) (h.1 v0 1).toNatClampNeg v1) (v0 + 4) ((zsI h (v0 + 3) (h.1 v0 1).toNatClampNeg v1).1 v0 1).toNatClampNeg v2).1 v0 1).toNatClampNeg v3).1 v0 1) + (nI 1))) (v0 + 2) (((zsI (zsI (zsI (zsI h (v0 + 3) (h.1 v0 1).toNatClampNeg v1) (v0 + 4) ((zsI h (v0 + 3) (h.1 v0 1).toNatClampNeg v1).1 v0 1).toNatClampNeg v2) (v0 + 5) ((zsI (zsI h (v0 + 3) (h.1 v0 1).toNatClampNeg v1) (v0 + 4) ((zsI h (v0 + 3) (h.1 v0 1).toNatClampNeg v1).1 v0 1).toNatClampNeg v2).1 v0 1).toNatClampNeg v3) v0 1 (((zsI (zsI (zsI h (v0 + 3) (h.1 v0 1).toNatClampNeg v1) (v0 + 4) ((zsI h (v0 + 3) (h.1 v0 1).toNatClampNeg v1).1 v0 1).toNatClampNeg v2) (v0 + 5) ((zsI (zsI h (v0 + 3) (h.1 v0 1).toNatClampNeg v1) (v0 + 4) ((zsI h (v0 + 3) (h.1 v0 1).toNatClampNeg v1).1 v0 1).toNatClampNeg v2).1 v0 1).toNatClampNeg v3).1 v0 1) + (nI 1))).1 v0 0) - (nI 1)).toNatClampNeg ((zsI (zsI (zsI (zsI h (v0 + 3) (h.1 v0 1).toNatClampNeg v1) (v0 + 4) ((zsI h (v0 + 3) (h.1 v0 1).toNatClampNeg v1).1 v0 1).toNatClampNeg v2) (v0 + 5) ((zsI (zsI h (v0 + 3) (h.1 v0 1).toNatClampNeg v1) (v0 + 4) ((zsI h (v0 + 3) (h.1 v0 1).toNatClampNeg v1).1 v0 1).toNatClampNeg v2).1 v0 1).toNatClampNeg v3) v0 1 (((zsI (zsI (zsI h (v0 + 3) (h.1 v0 1).toNatClampNeg v1) (v0 + 4) ((zsI h (v0 + 3) (h.1 v0 1).toNatClampNeg v1).1 v0 1).toNatClampNeg v2) (v0 + 5) ((zsI (zsI h (v0 + 3) (h.1 v0 1).toNatClampNeg v1) (v0 + 4) ((zsI h (v0 + 3) (h.1 v0 1).toNatClampNeg v1).1 v0 1).toNatClampNeg v2).1 v0 1).toNatClampNeg v3).1 v0 1) + (nI 1))).1 v0 1))) : Con mX5_addAct d 0 0 [.inr (.inr v0), .inl v1, .inl v2, .inl v3] h Q := by
  refine Con.intro rfl (Nat.le_of_ble_eq_true rfl) ?_
  show J mX5_addAct d 0 0 Q 0 0 0 [some (.inr (.inr v0)), some (.inl v1), some (.inl v2), some (.inl v3)] [] h
  refine bX5_addAct_0 (G0) (fun p1 => ?_) (fun p1 => ?_)
  · exact bX5_addAct_71  (K0 p1)
  · refine bX5_addAct_9 (G0) (fun p2 => ?_) (fun p2 => ?_)
    · exact bX5_addAct_71  (K1 p1 p2)
    · refine bX5_addAct_16 hr (G0) (G1 p1 p2) (G2 p1 p2) (G3 p1 p2) (G4 p1 p2) ?_
      exact bX5_addAct_71  (K2 p1 p2)

set_option maxRecDepth 20000 in
theorem t_X5_used {d  : Nat} {Q : Option MV → MH → Prop} {h : MH} {v0 : Nat} (K0 : J mX5_used d 0 0 Q 0 0 4 [some (.inr (.inr v0)), some (.inl (nI 0)), some (.inl (nI 0))] [] h) : Con mX5_used d 0 0 [.inr (.inr v0)] h Q := by
  refine Con.intro rfl (Nat.le_of_ble_eq_true rfl) ?_
  show J mX5_used d 0 0 Q 0 0 0 [some (.inr (.inr v0)), none, none] [] h
  refine bX5_used_0  ?_
  exact K0

set_option maxRecDepth 20000 in
theorem t_X5_used_4 {d  : Nat} {Q : Option MV → MH → Prop} {h : MH} {v1 v2 : Int32} {v0 : Nat} (hr : zRf h) (G0 : zokO h v0 5) (G1 : ¬ (h.1 v0 1) ≤ v2 → vp_in v2 40) (K0 : (h.1 v0 1) ≤ v2 → Q (some (.inl v1)) h) (K1 : ¬ (h.1 v0 1) ≤ v2 → (h.1 (v0 + 3) v2.toNatClampNeg) = 0 → ¬ (h.1 (v0 + 3) v2.toNatClampNeg) = (nI 3) → J mX5_used d 0 0 Q 0 0 4 [some (.inr (.inr v0)), some (.inl (v1 ||| ((nI 1) <<< ((h.1 (v0 + 4) v2.toNatClampNeg) &&& 31)))), some (.inl (v2 + nI 1))] [] h) (K2 : ¬ (h.1 v0 1) ≤ v2 → (h.1 (v0 + 3) v2.toNatClampNeg) = 0 → (h.1 (v0 + 3) v2.toNatClampNeg) = (nI 3) → J mX5_used d 0 0 Q 0 0 4 [some (.inr (.inr v0)), some (.inl ((v1 ||| ((nI 1) <<< ((h.1 (v0 + 4) v2.toNatClampNeg) &&& 31))) ||| ((nI 1) <<< ((h.1 (v0 + 5) v2.toNatClampNeg) &&& 31)))), some (.inl (v2 + nI 1))] [] h) (K3 : ¬ (h.1 v0 1) ≤ v2 → ¬ (h.1 (v0 + 3) v2.toNatClampNeg) = 0 → (h.1 (v0 + 3) v2.toNatClampNeg) = (nI 1) → ¬ (h.1 (v0 + 3) v2.toNatClampNeg) = (nI 3) → J mX5_used d 0 0 Q 0 0 4 [some (.inr (.inr v0)), some (.inl (v1 ||| ((nI 1) <<< ((h.1 (v0 + 4) v2.toNatClampNeg) &&& 31)))), some (.inl (v2 + nI 1))] [] h) (K4 : ¬ (h.1 v0 1) ≤ v2 → ¬ (h.1 (v0 + 3) v2.toNatClampNeg) = 0 → (h.1 (v0 + 3) v2.toNatClampNeg) = (nI 1) → (h.1 (v0 + 3) v2.toNatClampNeg) = (nI 3) → J mX5_used d 0 0 Q 0 0 4 [some (.inr (.inr v0)), some (.inl ((v1 ||| ((nI 1) <<< ((h.1 (v0 + 4) v2.toNatClampNeg) &&& 31))) ||| ((nI 1) <<< ((h.1 (v0 + 5) v2.toNatClampNeg) &&& 31)))), some (.inl (v2 + nI 1))] [] h) (K5 : ¬ (h.1 v0 1) ≤ v2 → ¬ (h.1 (v0 + 3) v2.toNatClampNeg) = 0 → ¬ (h.1 (v0 + 3) v2.toNatClampNeg) = (nI 1) → ¬ (h.1 (v0 + 3) v2.toNatClampNeg) = (nI 3) → J mX5_used d 0 0 Q 0 0 4 [some (.inr (.inr v0)), some (.inl v1), some (.inl (v2 + nI 1))] [] h) (K6 : ¬ (h.1 v0 1) ≤ v2 → ¬ (h.1 (v0 + 3) v2.toNatClampNeg) = 0 → ¬ (h.1 (v0 + 3) v2.toNatClampNeg) = (nI 1) → (h.1 (v0 + 3) v2.toNatClampNeg) = (nI 3) → J mX5_used d 0 0 Q 0 0 4 [some (.inr (.inr v0)), some (.inl ((v1 ||| ((nI 1) <<< ((h.1 (v0 + 4) v2.toNatClampNeg) &&& 31))) ||| ((nI 1) <<< ((h.1 (v0 + 5) v2.toNatClampNeg) &&& 31)))), some (.inl (v2 + nI 1))] [] h) : J mX5_used d 0 0 Q 0 0 4 [some (.inr (.inr v0)), some (.inl v1), some (.inl v2)] [] h := by
  refine bX5_used_4 (G0) (fun p1 => ?_) (fun p1 => ?_)
  · exact bX5_used_79  (K0 p1)
  · refine bX5_used_12 hr (G0) (G1 p1) (fun p2 => ?_) (fun p2 => ?_)
    · refine bX5_used_41 hr (G0) (G1 p1) ?_
      refine bX5_used_52 hr (G0) (G1 p1) (fun p3 => ?_) (fun p3 => ?_)
      · refine bX5_used_73  ?_
        exact K1 p1 p2 p3
      · refine bX5_used_62 hr (G0) (G1 p1) ?_
        refine bX5_used_73  ?_
        exact K2 p1 p2 p3
    · refine bX5_used_21 hr (G0) (G1 p1) (fun p4 => ?_) (fun p4 => ?_)
      · refine bX5_used_41 hr (G0) (G1 p1) ?_
        refine bX5_used_52 hr (G0) (G1 p1) (fun p5 => ?_) (fun p5 => ?_)
        · refine bX5_used_73  ?_
          exact K3 p1 p2 p4 p5
        · refine bX5_used_62 hr (G0) (G1 p1) ?_
          refine bX5_used_73  ?_
          exact K4 p1 p2 p4 p5
      · refine bX5_used_31 hr (G0) (G1 p1) (fun p6 => ?_) (fun p6 => ?_)
        · refine bX5_used_52 hr (G0) (G1 p1) (fun _ => ?_) (fun c => absurd c p6)
          refine bX5_used_73  ?_
          exact K5 p1 p2 p4 p6
        · refine bX5_used_41 hr (G0) (G1 p1) ?_
          refine bX5_used_52 hr (G0) (G1 p1) (fun c => absurd p6 c) (fun _ => ?_)
          refine bX5_used_62 hr (G0) (G1 p1) ?_
          refine bX5_used_73  ?_
          exact K6 p1 p2 p4 p6

set_option maxRecDepth 20000 in
theorem t_X1_takeFrom {d d1' : Nat} {Q : Option MV → MH → Prop} {h : MH} {v0 v1 : Nat} (hr : zRf h) (hd1' : d1' + 1 ≤ d) (G0 : zokO h v0 1) (G1 : zokO h v1 1) (K0 : Con mX2_takeFrom d1' 0 0 [.inr (.inr (v0 + 1)), .inr (.inr (v1 + 1))] h (zrv fun h' => J mX1_takeFrom d 0 0 Q 0 0 11 [some (.inr (.inr v0)), some (.inr (.inr v1)), none] [] h')) : Con mX1_takeFrom d 0 0 [.inr (.inr v0), .inr (.inr v1)] h Q := by
  refine Con.intro rfl (Nat.le_of_ble_eq_true rfl) ?_
  show J mX1_takeFrom d 0 0 Q 0 0 0 [some (.inr (.inr v0)), some (.inr (.inr v1)), none] [] h
  exact bX1_takeFrom_0 hr (G0) (G1) hd1' (K0)

set_option maxRecDepth 20000 in
theorem t_X1_takeFrom_11 {d  : Nat} {Q : Option MV → MH → Prop} {h : MH} {v0 v1 : Nat} (K0 : J mX1_takeFrom d 0 0 Q 0 0 13 [some (.inr (.inr v0)), some (.inr (.inr v1)), some (.inl (nI 0))] [] h) : J mX1_takeFrom d 0 0 Q 0 0 11 [some (.inr (.inr v0)), some (.inr (.inr v1)), none] [] h := by
  refine bX1_takeFrom_11  ?_
  exact K0

set_option maxRecDepth 20000 in
theorem t_X1_takeFrom_13 {d d1' : Nat} {Q : Option MV → MH → Prop} {h : MH} {v2 : Int32} {v0 v1 : Nat} (hr : zRf h) (hd1' : d1' + 1 ≤ d) (G0 : ¬ (nI 4) ≤ v2 → zokO h v0 1) (G1 : ¬ (nI 4) ≤ v2 → vp_in v2 4) (G2 : ¬ (nI 4) ≤ v2 → zokO h v1 1) (K0 : (nI 4) ≤ v2 → Q none h) (K1 : ¬ (nI 4) ≤ v2 → Con mX5_takeFrom d1' 0 0 [.inr (.inr ((v0 + 6) + 1 + 6 * v2.toNatClampNeg)), .inr (.inr ((v1 + 6) + 1 + 6 * v2.toNatClampNeg))] h (zrv fun h' => J mX1_takeFrom d 0 0 Q 0 0 33 [some (.inr (.inr v0)), some (.inr (.inr v1)), some (.inl v2)] [] h')) : J mX1_takeFrom d 0 0 Q 0 0 13 [some (.inr (.inr v0)), some (.inr (.inr v1)), some (.inl v2)] [] h := by
  refine bX1_takeFrom_13  (fun p1 => ?_) (fun p1 => ?_)
  · exact bX1_takeFrom_39  (K0 p1)
  · exact bX1_takeFrom_18 hr (G0 p1) (G1 p1) (G2 p1) hd1' (K1 p1)

set_option maxRecDepth 20000 in
theorem t_X1_takeFrom_33 {d  : Nat} {Q : Option MV → MH → Prop} {h : MH} {v2 : Int32} {v0 v1 : Nat} (K0 : J mX1_takeFrom d 0 0 Q 0 0 13 [some (.inr (.inr v0)), some (.inr (.inr v1)), some (.inl (v2 + nI 1))] [] h) : J mX1_takeFrom d 0 0 Q 0 0 33 [some (.inr (.inr v0)), some (.inr (.inr v1)), some (.inl v2)] [] h := by
  refine bX1_takeFrom_33  ?_
  exact K0
