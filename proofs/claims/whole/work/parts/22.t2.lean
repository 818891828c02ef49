set_option maxRecDepth 20000 in
theorem t_X2_takeFrom {d  : Nat} {Q : Option MV → MH → Prop} {h : MH} {v0 v1 : Nat} (hr : zRf h) (hd : 1 ≤ d) (G0 : zokO h v1 2) (G1 : zokO h v0 2) (K0 : Q none (zcI (zcI (zcI (zcI (zsI h v0 0 (h.1 v1 0)) (v1 + 1) (v0 + 1) 0 0 8) (v1 + 2) (v0 + 2) 0 0 48) (v1 + 3) (v0 + 3) 0 0 8) (v1 + 4) (v0 + 4) 0 0 8)) : Con mX2_takeFrom d 0 0 [.inr (.inr v0), .inr (.inr v1)] h Q := by
  refine Con.intro rfl (Nat.le_of_ble_eq_true rfl) ?_
  show J mX2_takeFrom d 0 0 Q 0 0 0 [some (.inr (.inr v0)), some (.inr (.inr v1))] [] h
  refine bX2_takeFrom_0 hr (G0) (G1) (by omega) ?_
  refine bX2_takeFrom_23 hr (G0) (G1) (by omega) ?_
  refine bX2_takeFrom_38 hr (G0) (G1) (by omega) ?_
  refine bX2_takeFrom_53 hr (G0) (G1) (by omega) ?_
  exact bX2_takeFrom_68  (K0)

set_option maxRecDepth 20000 in
theorem t_X2_open {d  : Nat} {Q : Option MV → MH → Prop} {h : MH} {v0 : Nat} (hr : zRf h) (G0 : zokO h v0 2) (G1 : (h.1 v0 0) < (nI 8) → vp_in (h.1 v0 0) 8) (G2 : (h.1 v0 0) < (nI 8) → vp_in ((zsI h (v0 + 1) (h.1 v0 0).toNatClampNeg (nI 0)).1 v0 0) 8) (G3 : (h.1 v0 0) < (nI 8) → vp_in ((zsI (zsI h (v0 + 1) (h.1 v0 0).toNatClampNeg (nI 0)) (v0 + 3) ((zsI h (v0 + 1) (h.1 v0 0).toNatClampNeg (nI 0)).1 v0 0).toNatClampNeg (nI 60)).1 v0 0) 8) (K0 : (h.1 v0 0) < (nI 8) → Q (some (.inl (((zsI (zsI (zsI (zsI h (v0 + 1) (h.1 v0 0).toNatClampNeg (nI 0)) (v0 + 3) ((zsI h (v0 + 1) (h.1 v0 0).toNatClampNeg (nI 0)).1 v0 0).toNatClampNeg (nI 60)) (v0 + 4) ((zsI (zsI h (v0 + 1) (h.1 v0 0).toNatClampNeg (nI 0)) (v0 + 3) ((zsI h (v0 + 1) (h.1 v0 0).toNatClampNeg (nI 0)).1 v0 0).toNatClampNeg (nI 60)).1 v0 0).toNatClampNeg (nI 0)) v0 0 (((zsI (zsI (zsI h (v0 + 1) (h.1 v0 0).toNatClampNeg (nI 0)) (v0 + 3) ((zsI h (v0 + 1) (h.1 v0 0).toNatClampNeg (nI 0)).1 v0 0).toNatClampNeg (nI 60)) (v0 + 4) ((zsI (zsI h (v0 + 1) (h.1 v0 0).toNatClampNeg (nI 0)) (v0 + 3) ((zsI h (v0 + 1) (h.1 v0 0).toNatClampNeg (nI 0)).1 v0 0).toNatClampNeg (nI 60)).1 v0 0).toNatClampNeg (nI 0)).1 v0 0) + (nI 1))).1 v0 0) - (nI 1)))) (zsI (zsI (zsI (zsI h (v0 + 1) (h.1 v0 0).toNatClampNeg (nI 0)) (v0 + 3) ((zsI h (v0 + 1) (h.1 v0 0).toNatClampNeg (nI 0)).1 v0 0).toNatClampNeg (nI 60)) (v0 + 4) ((zsI (zsI h (v0 + 1) (h.1 v0 0).toNatClampNeg (nI 0)) (v0 + 3) ((zsI h (v0 + 1) (h.1 v0 0).toNatClampNeg (nI 0)).1 v0 0).toNatClampNeg (nI 60)).1 v0 0).toNatClampNeg (nI 0)) v0 0 (((zsI (zsI (zsI h (v0 + 1) (h.1 v0 0).toNatClampNeg (nI 0)) (v0 + 3) ((zsI h (v0 + 1) (h.1 v0 0).toNatClampNeg (nI 0)).1 v0 0).toNatClampNeg (nI 60)) (v0 + 4) ((zsI (zsI h (v0 + 1) (h.1 v0 0).toNatClampNeg (nI 0)) (v0 + 3) ((zsI h (v0 + 1) (h.1 v0 0).toNatClampNeg (nI 0)).1 v0 0).toNatClampNeg (nI 60)).1 v0 0).toNatClampNeg (nI 0)).1 v0 0) + (nI 1)))) (K1 : ¬ (h.1 v0 0) < (nI 8) → Q (some (.inl (-(nI 1)))) h) : Con mX2_open d 0 0 [.inr (.inr v0)] h Q := by
  refine Con.intro rfl (Nat.le_of_ble_eq_true rfl) ?_
  show J mX2_open d 0 0 Q 0 0 0 [some (.inr (.inr v0))] [] h
  refine bX2_open_0 (G0) (fun p1 => ?_) (fun p1 => ?_)
  · exact bX2_open_11 hr (G0) (G1 p1) (G2 p1) (G3 p1) (K0 p1)
  · exact bX2_open_9  (K1 p1)

set_option maxRecDepth 20000 in
theorem t_X2_addPiece {d  : Nat} {Q : Option MV → MH → Prop} {h : MH} {v1 v2 : Int32} {v0 : Nat} (hr : zRf h) (hd : 1 ≤ d) (G0 : zokO h v0 2) (G1 : ¬ v1 < 0 → ¬ (h.1 v0 0) ≤ v1 → vp_in v1 8) (G2 : ¬ v1 < 0 → ¬ (h.1 v0 0) ≤ v1 → (h.1 (v0 + 1) v1.toNatClampNeg) < (nI 6) → vp_in ((v1 * (nI 6)) + (h.1 (v0 + 1) v1.toNatClampNeg)) 48) (K0 : v1 < 0 → Q (some (.inl (nI 0))) h) (K1 : ¬ v1 < 0 → (h.1 v0 0) ≤ v1 → Q (some (.inl (nI 0))) h) (K2 : ¬ v1 < 0 → ¬ (h.1 v0 0) ≤ v1 → (h.1 (v0 + 1) v1.toNatClampNeg) < (nI 6) → Q (some (.inl (nI 1))) (zsI (zsI h (v0 + 2) ((v1 * (nI 6)) + (h.1 (v0 + 1) v1.toNatClampNeg)).toNatClampNeg v2) (v0 + 1) v1.toNatClampNeg (((zsI h (v0 + 2) ((v1 * (nI 6)) + (h.1 (v0 + 1) v1.toNatClampNeg)).toNatClampNeg v2).1 (v0 + 1) v1.toNatClampNeg) + (nI 1)))) (K3 : ¬ v1 < 0 → ¬ (h.1 v0 0) ≤ v1 → ¬ (h.1 (v0 + 1) v1.toNatClampNeg) < (nI 6) → Q (some (.inl (nI 0))) h) : Con mX2_addPiece d 0 0 [.inr (.inr v0), .inl v1, .inl v2] h Q := by
  refine Con.intro rfl (Nat.le_of_ble_eq_true rfl) ?_
  show J mX2_addPiece d 0 0 Q 0 0 0 [some (.inr (.inr v0)), some (.inl v1), some (.inl v2)] [] h
  refine bX2_addPiece_0 (d' := 0) (G0) (by omega) ?_
  refine t_X2_has ?_ ?_ ?_ ?_
  · intro p1; exact (G0)
  · intro p2
    refine bX2_addPiece_5  (fun _ => ?_) (fun c => absurd c (by decide))
    exact bX2_addPiece_19  (K0 p2)
  · intro p3 p4
    refine bX2_addPiece_5  (fun _ => ?_) (fun c => absurd c (by decide))
    exact bX2_addPiece_19  (K1 p3 p4)
  · intro p5 p6
    refine bX2_addPiece_5  (fun c => absurd c (by decide)) (fun _ => ?_)
    refine bX2_addPiece_8 hr (G0) (G1 p5 p6) (fun p7 => ?_) (fun p7 => ?_)
    · exact bX2_addPiece_21 hr (G0) (G1 p5 p6) (G2 p5 p6 p7) (K2 p5 p6 p7)
    · exact bX2_addPiece_19  (K3 p5 p6 p7)

set_option maxRecDepth 20000 in
theorem t_X2_sparksOfPiece {d  : Nat} {Q : Option MV → MH → Prop} {h : MH} {v1 v2 : Int32} {v0 : Nat} (hr : zRf h) (hd : 1 ≤ d) (G0 : zokO h v0 2) (G1 : ¬ v1 < 0 → ¬ (h.1 v0 0) ≤ v1 → ¬ v2 < 0 → vp_in v1 8) (G2 : ¬ v1 < 0 → ¬ (h.1 v0 0) ≤ v1 → ¬ v2 < 0 → v2 < (h.1 (v0 + 1) v1.toNatClampNeg) → vp_in ((v1 * (nI 6)) + v2) 48) (K0 : v1 < 0 → Q (some (.inl (nI 0))) h) (K1 : ¬ v1 < 0 → (h.1 v0 0) ≤ v1 → Q (some (.inl (nI 0))) h) (K2 : ¬ v1 < 0 → ¬ (h.1 v0 0) ≤ v1 → v2 < 0 → Q (some (.inl (nI 0))) h) (K3 : ¬ v1 < 0 → ¬ (h.1 v0 0) ≤ v1 → ¬ v2 < 0 → v2 < (h.1 (v0 + 1) v1.toNatClampNeg) → Q (some (.inl ((h.1 (v0 + 2) ((v1 * (nI 6)) + v2).toNatClampNeg) * (nI 256)))) h) (K4 : ¬ v1 < 0 → ¬ (h.1 v0 0) ≤ v1 → ¬ v2 < 0 → ¬ v2 < (h.1 (v0 + 1) v1.toNatClampNeg) → Q (some (.inl (nI 0))) h) : Con mX2_sparksOfPiece d 0 0 [.inr (.inr v0), .inl v1, .inl v2] h Q := by
  refine Con.intro rfl (Nat.le_of_ble_eq_true rfl) ?_
  show J mX2_sparksOfPiece d 0 0 Q 0 0 0 [some (.inr (.inr v0)), some (.inl v1), some (.inl v2)] [] h
  refine bX2_sparksOfPiece_0 (d' := 0) (G0) (by omega) ?_
  refine t_X2_has ?_ ?_ ?_ ?_
  · intro p1; exact (G0)
  · intro p2
    refine bX2_sparksOfPiece_5  (fun _ => ?_) (fun c => absurd c (by decide))
    exact bX2_sparksOfPiece_22  (K0 p2)
  · intro p3 p4
    refine bX2_sparksOfPiece_5  (fun _ => ?_) (fun c => absurd c (by decide))
    exact bX2_sparksOfPiece_22  (K1 p3 p4)
  · intro p5 p6
    refine bX2_sparksOfPiece_5  (fun c => absurd c (by decide)) (fun _ => ?_)
    refine bX2_sparksOfPiece_8  (fun p7 => ?_) (fun p7 => ?_)
    · exact bX2_sparksOfPiece_22  (K2 p5 p6 p7)
    · refine bX2_sparksOfPiece_12 hr (G0) (G1 p5 p6 p7) (fun p8 => ?_) (fun p8 => ?_)
      · exact bX2_sparksOfPiece_24 hr (G0) (G2 p5 p6 p7 p8) (K3 p5 p6 p7 p8)
      · exact bX2_sparksOfPiece_22  (K4 p5 p6 p7 p8)

set_option maxRecDepth 20000 in
theorem t_X2_sparksBefore {d  : Nat} {Q : Option MV → MH → Prop} {h : MH} {v1 v2 : Int32} {v0 : Nat} (K0 : J mX2_sparksBefore d 0 0 Q 0 0 5 [some (.inr (.inr v0)), some (.inl v1), some (.inl v2), some (.inl (nI 0)), some (.inl (nI 0))] [] h) : Con mX2_sparksBefore d 0 0 [.inr (.inr v0), .inl v1, .inl v2] h Q := by
  refine Con.intro rfl (Nat.le_of_ble_eq_true rfl) ?_
  show J mX2_sparksBefore d 0 0 Q 0 0 0 [some (.inr (.inr v0)), some (.inl v1), some (.inl v2), none, none] [] h
  refine bX2_sparksBefore_0  ?_
  exact K0

set_option maxRecDepth 20000 in
theorem t_X2_sparksBefore_5 {d d1' : Nat} {Q : Option MV → MH → Prop} {h : MH} {v1 v2 v3 v4 : Int32} {v0 : Nat} (hd1' : d1' + 1 ≤ d) (G0 : ¬ v2 ≤ v4 → ¬ (nI 6) ≤ v4 → zokO h v0 2) (K0 : v2 ≤ v4 → Q (some (.inl v3)) h) (K1 : ¬ v2 ≤ v4 → (nI 6) ≤ v4 → Q (some (.inl v3)) h) (K2 : ¬ v2 ≤ v4 → ¬ (nI 6) ≤ v4 → Con mX2_sparksOfPiece d1' 0 0 [.inr (.inr v0), .inl v1, .inl v4] h (zri fun (x : Int32) h' => J mX2_sparksBefore d 0 0 Q 0 0 26 [some (.inr (.inr v0)), some (.inl v1), some (.inl v2), some (.inl v3), some (.inl v4)] [.inl x, .inl v3] h')) : J mX2_sparksBefore d 0 0 Q 0 0 5 [some (.inr (.inr v0)), some (.inl v1), some (.inl v2), some (.inl v3), some (.inl v4)] [] h := by
  refine bX2_sparksBefore_5  (fun p1 => ?_) (fun p1 => ?_)
  · exact bX2_sparksBefore_34  (K0 p1)
  · refine bX2_sparksBefore_11  (fun p2 => ?_) (fun p2 => ?_)
    · exact bX2_sparksBefore_34  (K1 p1 p2)
    · exact bX2_sparksBefore_18 (G0 p1 p2) hd1' (K2 p1 p2)

set_option maxRecDepth 20000 in
theorem t_X2_sparksBefore_26 {d  : Nat} {Q : Option MV → MH → Prop} {h : MH} {v1 v2 v3 v4 vs0 vs1 : Int32} {v0 : Nat} (K0 : J mX2_sparksBefore d 0 0 Q 0 0 5 [some (.inr (.inr v0)), some (.inl v1), some (.inl v2), some (.inl (vs0 + vs1)), some (.inl (v4 + nI 1))] [] h) : J mX2_sparksBefore d 0 0 Q 0 0 26 [some (.inr (.inr v0)), some (.inl v1), some (.inl v2), some (.inl v3), some (.inl v4)] [.inl vs1, .inl vs0] h := by
  refine bX2_sparksBefore_26  ?_
  exact K0

set_option maxRecDepth 20000 in
theorem t_X2_sparksOf {d d1' : Nat} {Q : Option MV → MH → Prop} {h : MH} {v1 : Int32} {v0 : Nat} (hd1' : d1' + 1 ≤ d) (G0 : zokO h v0 2) (K0 : Con mX2_sparksBefore d1' 0 0 [.inr (.inr v0), .inl v1, .inl (nI 6)] h (zri fun (x : Int32) h' => J mX2_sparksOf d 0 0 Q 0 0 7 [some (.inr (.inr v0)), some (.inl v1)] [.inl x] h')) : Con mX2_sparksOf d 0 0 [.inr (.inr v0), .inl v1] h Q := by
  refine Con.intro rfl (Nat.le_of_ble_eq_true rfl) ?_
  show J mX2_sparksOf d 0 0 Q 0 0 0 [some (.inr (.inr v0)), some (.inl v1)] [] h
  exact bX2_sparksOf_0 (G0) hd1' (K0)

set_option maxRecDepth 20000 in
theorem t_X2_sparksOf_7 {d  : Nat} {Q : Option MV → MH → Prop} {h : MH} {v1 vs0 : Int32} {v0 : Nat} (K0 : Q (some (.inl vs0)) h) : J mX2_sparksOf d 0 0 Q 0 0 7 [some (.inr (.inr v0)), some (.inl v1)] [.inl vs0] h := by
  exact bX2_sparksOf_7  (K0)

set_option maxRecDepth 20000 in
theorem t_X2_sparksOfSet {d  : Nat} {Q : Option MV → MH → Prop} {h : MH} {v1 : Int32} {v0 : Nat} (K0 : J mX2_sparksOfSet d 0 0 Q 0 0 4 [some (.inr (.inr v0)), some (.inl v1), some (.inl (nI 0)), some (.inl (nI 0))] [] h) : Con mX2_sparksOfSet d 0 0 [.inr (.inr v0), .inl v1] h Q := by
  refine Con.intro rfl (Nat.le_of_ble_eq_true rfl) ?_
  show J mX2_sparksOfSet d 0 0 Q 0 0 0 [some (.inr (.inr v0)), some (.inl v1), none, none] [] h
  refine bX2_sparksOfSet_0  ?_
  exact K0

set_option maxRecDepth 20000 in
theorem t_X2_sparksOfSet_4 {d d1' : Nat} {Q : Option MV → MH → Prop} {h : MH} {v1 v2 v3 : Int32} {v0 : Nat} (hd1' : d1' + 1 ≤ d) (G0 : zokO h v0 2) (K0 : (h.1 v0 0) ≤ v3 → Q (some (.inl v2)) h) (K1 : ¬ (h.1 v0 0) ≤ v3 → ((v1 >>> (v3 &&& 31)) &&& (nI 1)) = 0 → J mX2_sparksOfSet d 0 0 Q 0 0 4 [some (.inr (.inr v0)), some (.inl v1), some (.inl v2), some (.inl (v3 + nI 1))] [] h) (K2 : ¬ (h.1 v0 0) ≤ v3 → ¬ ((v1 >>> (v3 &&& 31)) &&& (nI 1)) = 0 → Con mX2_sparksOf d1' 0 0 [.inr (.inr v0), .inl v3] h (zri fun (x : Int32) h' => J mX2_sparksOfSet d 0 0 Q 0 0 26 [some (.inr (.inr v0)), some (.inl v1), some (.inl v2), some (.inl v3)] [.inl x, .inl v2] h')) : J mX2_sparksOfSet d 0 0 Q 0 0 4 [some (.inr (.inr v0)), some (.inl v1), some (.inl v2), some (.inl v3)] [] h := by
  refine bX2_sparksOfSet_4 (G0) (fun p1 => ?_) (fun p1 => ?_)
  · exact bX2_sparksOfSet_34  (K0 p1)
  · refine bX2_sparksOfSet_12  (fun p2 => ?_) (fun p2 => ?_)
    · refine bX2_sparksOfSet_28  ?_
      exact K1 p1 p2
    · exact bX2_sparksOfSet_20 (G0) hd1' (K2 p1 p2)

set_option maxRecDepth 20000 in
theorem t_X2_sparksOfSet_26 {d  : Nat} {Q : Option MV → MH → Prop} {h : MH} {v1 v2 v3 vs0 vs1 : Int32} {v0 : Nat} (K0 : J mX2_sparksOfSet d 0 0 Q 0 0 4 [some (.inr (.inr v0)), some (.inl v1), some (.inl (vs0 + vs1)), some (.inl (v3 + nI 1))] [] h) : J mX2_sparksOfSet d 0 0 Q 0 0 26 [some (.inr (.inr v0)), some (.inl v1), some (.inl v2), some (.inl v3)] [.inl vs1, .inl vs0] h := by
  refine bX2_sparksOfSet_26  ?_
  refine bX2_sparksOfSet_28  ?_
  exact K0

set_option maxRecDepth 20000 in
theorem t_X2_allWax {d  : Nat} {Q : Option MV → MH → Prop} {h : MH} {v0 : Nat} (K0 : J mX2_allWax d 0 0 Q 0 0 4 [some (.inr (.inr v0)), some (.inl (nI 0)), some (.inl (nI 0))] [] h) : Con mX2_allWax d 0 0 [.inr (.inr v0)] h Q := by
  refine Con.intro rfl (Nat.le_of_ble_eq_true rfl) ?_
  show J mX2_allWax d 0 0 Q 0 0 0 [some (.inr (.inr v0)), none, none] [] h
  refine bX2_allWax_0  ?_
  exact K0

set_option maxRecDepth 20000 in
theorem t_X2_allWax_4 {d  : Nat} {Q : Option MV → MH → Prop} {h : MH} {v1 v2 : Int32} {v0 : Nat} (hr : zRf h) (G0 : zokO h v0 2) (G1 : ¬ (h.1 v0 0) ≤ v2 → vp_in v2 8) (K0 : (h.1 v0 0) ≤ v2 → Q (some (.inl v1)) h) (K1 : ¬ (h.1 v0 0) ≤ v2 → J mX2_allWax d 0 0 Q 0 0 4 [some (.inr (.inr v0)), some (.inl (v1 + (h.1 (v0 + 3) v2.toNatClampNeg))), some (.inl (v2 + nI 1))] [] h) : J mX2_allWax d 0 0 Q 0 0 4 [some (.inr (.inr v0)), some (.inl v1), some (.inl v2)] [] h := by
  refine bX2_allWax_4 (G0) (fun p1 => ?_) (fun p1 => ?_)
  · exact bX2_allWax_27  (K0 p1)
  · refine bX2_allWax_12 hr (G0) (G1 p1) ?_
    exact K1 p1

set_option maxRecDepth 20000 in
theorem t_X2_nextPiece {d  : Nat} {Q : Option MV → MH → Prop} {h : MH} {v1 v2 v3 : Int32} {v0 : Nat} (hd : 1 ≤ d) (G0 : zokO h v0 2) (K0 : v1 < 0 → Q (some (.inl (-(nI 1)))) h) (K1 : ¬ v1 < 0 → (h.1 v0 0) ≤ v1 → Q (some (.inl (-(nI 1)))) h) (K2 : ¬ v1 < 0 → ¬ (h.1 v0 0) ≤ v1 → J mX2_nextPiece d 0 0 Q 0 0 16 [some (.inr (.inr v0)), some (.inl v1), some (.inl v2), some (.inl v3), some (.inl v2), some (.inl (nI 0)), none] [] h) : Con mX2_nextPiece d 0 0 [.inr (.inr v0), .inl v1, .inl v2, .inl v3] h Q := by
  refine Con.intro rfl (Nat.le_of_ble_eq_true rfl) ?_
  show J mX2_nextPiece d 0 0 Q 0 0 0 [some (.inr (.inr v0)), some (.inl v1), some (.inl v2), some (.inl v3), none, none, none] [] h
  refine bX2_nextPiece_0 (d' := 0) (G0) (by omega) ?_
  refine t_X2_has ?_ ?_ ?_ ?_
  · intro p1; exact (G0)
  · intro p2
    refine bX2_nextPiece_5  (fun c => absurd c (by decide)) (fun _ => ?_)
    exact bX2_nextPiece_8  (K0 p2)
  · intro p3 p4
    refine bX2_nextPiece_5  (fun c => absurd c (by decide)) (fun _ => ?_)
    exact bX2_nextPiece_8  (K1 p3 p4)
  · intro p5 p6
    refine bX2_nextPiece_5  (fun _ => ?_) (fun c => absurd c (by decide))
    refine bX2_nextPiece_10  ?_
    exact K2 p5 p6

set_option maxRecDepth 20000 in
theorem t_X2_nextPiece_16 {d d1' d2' : Nat} {Q : Option MV → MH → Prop} {h : MH} {u6 : Option MV} {v1 v2 v3 v4 v5 : Int32} {v0 : Nat} (hr : zRf h) (hd1' : d1' + 1 ≤ d) (hd2' : d2' + 1 ≤ d) (G0 : zokO h v0 2) (G1 : vp_in v1 8) (K0 : (h.1 (v0 + 1) v1.toNatClampNeg) ≤ v5 → Q (some (.inl (-(nI 1)))) h) (K1 : ¬ (h.1 (v0 + 1) v1.toNatClampNeg) ≤ v5 → v3 = 0 → Con mX2_sparksOfPiece d1' 0 0 [.inr (.inr v0), .inl v1, .inl v5] h (zri fun (x : Int32) h' => J mX2_nextPiece d 0 0 Q 0 0 58 [some (.inr (.inr v0)), some (.inl v1), some (.inl v2), some (.inl v3), some (.inl v4), some (.inl v5), some (.inl v5)] [.inl x, .inl v4] h')) (K2 : ¬ (h.1 (v0 + 1) v1.toNatClampNeg) ≤ v5 → ¬ v3 = 0 → Con mX2_sparksOfPiece d2' 0 0 [.inr (.inr v0), .inl v1, .inl (((h.1 (v0 + 1) v1.toNatClampNeg) - (nI 1)) - v5)] h (zri fun (x : Int32) h' => J mX2_nextPiece d 0 0 Q 0 0 58 [some (.inr (.inr v0)), some (.inl v1), some (.inl v2), some (.inl v3), some (.inl v4), some (.inl v5), some (.inl (((h.1 (v0 + 1) v1.toNatClampNeg) - (nI 1)) - v5))] [.inl x, .inl v4] h')) : J mX2_nextPiece d 0 0 Q 0 0 16 [some (.inr (.inr v0)), some (.inl v1), some (.inl v2), some (.inl v3), some (.inl v4), some (.inl v5), u6] [] h := by
  refine bX2_nextPiece_16 hr (G0) (G1) (fun p1 => ?_) (fun p1 => ?_)
  · exact bX2_nextPiece_82  (K0 p1)
  · refine bX2_nextPiece_27  (fun p2 => ?_) (fun p2 => ?_)
    · refine bX2_nextPiece_45  ?_
      exact bX2_nextPiece_47 (G0) hd1' (K1 p1 p2)
    · refine bX2_nextPiece_31 hr (G0) (G1) ?_
      exact bX2_nextPiece_47 (G0) hd2' (K2 p1 p2)

set_option maxRecDepth 20000 in
theorem t_X2_nextPiece_58 {d d1' : Nat} {Q : Option MV → MH → Prop} {h : MH} {v1 v2 v3 v4 v5 v6 vs0 vs1 : Int32} {v0 : Nat} (hd1' : d1' + 1 ≤ d) (G0 : vs1 ≤ vs0 → zokO h v0 2) (K0 : vs1 ≤ vs0 → Con mX2_sparksOfPiece d1' 0 0 [.inr (.inr v0), .inl v1, .inl v6] h (zri fun (x : Int32) h' => J mX2_nextPiece d 0 0 Q 0 0 73 [some (.inr (.inr v0)), some (.inl v1), some (.inl v2), some (.inl v3), some (.inl v4), some (.inl v5), some (.inl v6)] [.inl x, .inl v4] h')) (K1 : ¬ vs1 ≤ vs0 → Q (some (.inl v6)) h) : J mX2_nextPiece d 0 0 Q 0 0 58 [some (.inr (.inr v0)), some (.inl v1), some (.inl v2), some (.inl v3), some (.inl v4), some (.inl v5), some (.inl v6)] [.inl vs1, .inl vs0] h := by
  refine bX2_nextPiece_58  (fun p1 => ?_) (fun p1 => ?_)
  · exact bX2_nextPiece_64 (G0 p1) hd1' (K0 p1)
  · exact bX2_nextPiece_61  (K1 p1)

set_option maxRecDepth 20000 in
theorem t_X2_nextPiece_73 {d  : Nat} {Q : Option MV → MH → Prop} {h : MH} {v1 v2 v3 v4 v5 v6 vs0 vs1 : Int32} {v0 : Nat} (K0 : J mX2_nextPiece d 0 0 Q 0 0 16 [some (.inr (.inr v0)), some (.inl v1), some (.inl v2), some (.inl v3), some (.inl (vs0 - vs1)), some (.inl (v5 + nI 1)), some (.inl v6)] [] h) : J mX2_nextPiece d 0 0 Q 0 0 73 [some (.inr (.inr v0)), some (.inl v1), some (.inl v2), some (.inl v3), some (.inl v4), some (.inl v5), some (.inl v6)] [.inl vs1, .inl vs0] h := by
  refine bX2_nextPiece_73  ?_
  exact K0

set_option maxRecDepth 20000 in
theorem t_X2_thousandths {d d1' : Nat} {Q : Option MV → MH → Prop} {h : MH} {v1 v2 v3 : Int32} {v0 : Nat} (hd1' : d1' + 1 ≤ d) (G0 : zokO h v0 2) (K0 : Con mX2_nextPiece d1' 0 0 [.inr (.inr v0), .inl v1, .inl v2, .inl (nI 0)] h (zri fun (x : Int32) h' => J mX2_thousandths d 0 0 Q 0 0 7 [some (.inr (.inr v0)), some (.inl v1), some (.inl v2), some (.inl v3), none, none, none] [.inl x] h')) : Con mX2_thousandths d 0 0 [.inr (.inr v0), .inl v1, .inl v2, .inl v3] h Q := by
  refine Con.intro rfl (Nat.le_of_ble_eq_true rfl) ?_
  show J mX2_thousandths d 0 0 Q 0 0 0 [some (.inr (.inr v0)), some (.inl v1), some (.inl v2), some (.inl v3), none, none, none] [] h
  exact bX2_thousandths_0 (G0) hd1' (K0)

set_option maxRecDepth 20000 in
theorem t_X2_thousandths_7 {d d1' : Nat} {Q : Option MV → MH → Prop} {h : MH} {v1 v2 v3 vs0 : Int32} {v0 : Nat} (hr : zRf h) (hd1' : d1' + 1 ≤ d) (G0 : ¬ vs0 = (-(nI 1)) → zokO h v0 2) (G1 : ¬ vs0 = (-(nI 1)) → vp_in v1 8) (K0 : ¬ vs0 = (-(nI 1)) → Con mX2_sparksOfPiece d1' 0 0 [.inr (.inr v0), .inl v1, .inl vs0] h (zri fun (x : Int32) h' => J mX2_thousandths d 0 0 Q 0 0 32 [some (.inr (.inr v0)), some (.inl v1), some (.inl v2), some (.inl v3), some (.inl vs0), none, none] [.inl x, .inl (h.1 (v0 + 1) v1.toNatClampNeg)] h')) (K1 : vs0 = (-(nI 1)) → v3 = 0 → Q (some (.inl (nI 1000))) h) (K2 : vs0 = (-(nI 1)) → ¬ v3 = 0 → Q (some (.inl (nI 0))) h) : J mX2_thousandths d 0 0 Q 0 0 7 [some (.inr (.inr v0)), some (.inl v1), some (.inl v2), some (.inl v3), none, none, none] [.inl vs0] h := by
  refine bX2_thousandths_7  (fun p1 => ?_) (fun p1 => ?_)
  · exact bX2_thousandths_19 hr (G0 p1) (G1 p1) hd1' (K0 p1)
  · refine bX2_thousandths_15  ?_
    refine bX2_thousandths_33  (fun c => absurd c (by decide)) (fun _ => ?_)
    refine bX2_thousandths_40  (fun p2 => ?_) (fun p2 => ?_)
    · refine bX2_thousandths_48  ?_
      exact bX2_thousandths_51  (K1 p1 p2)
    · refine bX2_thousandths_44  ?_
      exact bX2_thousandths_51  (K2 p1 p2)

set_option maxRecDepth 20000 in
theorem t_X2_thousandths_32 {d d1' : Nat} {Q : Option MV → MH → Prop} {h : MH} {v1 v2 v3 v4 vs0 vs1 : Int32} {v0 : Nat} (hd1' : d1' + 1 ≤ d) (G0 : 0 < (vs0 * vs1) → zokO h v0 2) (K0 : 0 < (vs0 * vs1) → Con mX2_sparksOfPiece d1' 0 0 [.inr (.inr v0), .inl v1, .inl v4] h (zri fun (x : Int32) h' => J mX2_thousandths d 0 0 Q 0 0 61 [some (.inr (.inr v0)), some (.inl v1), some (.inl v2), some (.inl v3), some (.inl v4), some (.inl (vs0 * vs1)), none] [.inl x, .inl v4] h')) (K1 : ¬ 0 < (vs0 * vs1) → v3 = 0 → Q (some (.inl (nI 1000))) h) (K2 : ¬ 0 < (vs0 * vs1) → ¬ v3 = 0 → Q (some (.inl (nI 0))) h) : J mX2_thousandths d 0 0 Q 0 0 32 [some (.inr (.inr v0)), some (.inl v1), some (.inl v2), some (.inl v3), some (.inl v4), none, none] [.inl vs1, .inl vs0] h := by
  refine bX2_thousandths_32  ?_
  refine bX2_thousandths_33  (fun p1 => ?_) (fun p1 => ?_)
  · exact bX2_thousandths_52 (G0 p1) hd1' (K0 p1)
  · refine bX2_thousandths_40  (fun p2 => ?_) (fun p2 => ?_)
    · refine bX2_thousandths_48  ?_
      exact bX2_thousandths_51  (K1 p1 p2)
    · refine bX2_thousandths_44  ?_
      exact bX2_thousandths_51  (K2 p1 p2)

set_option maxRecDepth 20000 in
theorem t_X2_thousandths_61 {d d1' : Nat} {Q : Option MV → MH → Prop} {h : MH} {v1 v2 v3 v4 v5 vs0 vs1 : Int32} {v0 : Nat} (hd1' : d1' + 1 ≤ d) (G0 : zokO h v0 2) (K0 : Con mX2_sparksBefore d1' 0 0 [.inr (.inr v0), .inl v1, .inl v4] h (zri fun (x : Int32) h' => J mX2_thousandths d 0 0 Q 0 0 71 [some (.inr (.inr v0)), some (.inl v1), some (.inl v2), some (.inl v3), some (.inl v4), some (.inl v5), none] [.inl x, .inl ((vs0 * vs1) + v2)] h')) : J mX2_thousandths d 0 0 Q 0 0 61 [some (.inr (.inr v0)), some (.inl v1), some (.inl v2), some (.inl v3), some (.inl v4), some (.inl v5), none] [.inl vs1, .inl vs0] h := by
  exact bX2_thousandths_61 (G0) hd1' (K0)

set_option maxRecDepth 20000 in
theorem t_X2_thousandths_71 {d  : Nat} {Q : Option MV → MH → Prop} {h : MH} {v1 v2 v3 v4 v5 vs0 vs1 : Int32} {v0 : Nat} (G0 : v3 = 0 → ¬ v5 = 0) (G1 : ¬ v3 = 0 → ¬ v5 = 0) (K0 : v3 = 0 → Q (some (.inl (((vs0 - vs1) * (nI 1000)) / v5))) h) (K1 : ¬ v3 = 0 → Q (some (.inl (((v5 - (vs0 - vs1)) * (nI 1000)) / v5))) h) : J mX2_thousandths d 0 0 Q 0 0 71 [some (.inr (.inr v0)), some (.inl v1), some (.inl v2), some (.inl v3), some (.inl v4), some (.inl v5), none] [.inl vs1, .inl vs0] h := by
  refine bX2_thousandths_71  (fun p1 => ?_) (fun p1 => ?_)
  · refine bX2_thousandths_86  ?_
    exact bX2_thousandths_88 (G0 p1) (K0 p1)
  · refine bX2_thousandths_78  ?_
    exact bX2_thousandths_88 (G1 p1) (K1 p1)
