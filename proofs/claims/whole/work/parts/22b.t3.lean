set_option maxRecDepth 20000 in
theorem t_X3_clear {d  : Nat} {Q : Option MV → MH → Prop} {h : MH} {v0 : Nat} (K0 : J mX3_clear d 0 0 Q 0 0 2 [some (.inr (.inr v0)), some (.inl (nI 0))] [] h) : Con mX3_clear d 0 0 [.inr (.inr v0)] h Q := by
  refine Con.intro rfl (Nat.le_of_ble_eq_true rfl) ?_
  show J mX3_clear d 0 0 Q 0 0 0 [some (.inr (.inr v0)), none] [] h
  refine bX3_clear_0  ?_
  exact K0

set_option maxRecDepth 20000 in
theorem t_X3_clear_2 {d  : Nat} {Q : Option MV → MH → Prop} {h : MH} {v1 : Int32} {v0 : Nat} (hr : zRf h) (G0 : ¬ (nI 361) ≤ v1 → zokO h v0 3) (G1 : ¬ (nI 361) ≤ v1 → vp_in v1 361) (K0 : (nI 361) ≤ v1 → Q none h) (K1 : ¬ (nI 361) ≤ v1 → J mX3_clear d 0 0 Q 0 0 2 [some (.inr (.inr v0)), some (.inl (v1 + nI 1))] [] (zsL h (v0 + 1) v1.toNatClampNeg (lN 0))) : J mX3_clear d 0 0 Q 0 0 2 [some (.inr (.inr v0)), some (.inl v1)] [] h := by
  refine bX3_clear_2  (fun p1 => ?_) (fun p1 => ?_)
  · exact bX3_clear_22  (K0 p1)
  · refine bX3_clear_9 hr (G0 p1) (G1 p1) ?_
    exact K1 p1

set_option maxRecDepth 20000 in
theorem t_X3_size {d  : Nat} {Q : Option MV → MH → Prop} {h : MH} {v0 : Nat} (K0 : J mX3_size d 0 0 Q 0 0 4 [some (.inr (.inr v0)), some (.inl (nI 0)), some (.inl (nI 0))] [] h) : Con mX3_size d 0 0 [.inr (.inr v0)] h Q := by
  refine Con.intro rfl (Nat.le_of_ble_eq_true rfl) ?_
  show J mX3_size d 0 0 Q 0 0 0 [some (.inr (.inr v0)), none, none] [] h
  refine bX3_size_0  ?_
  exact K0

set_option maxRecDepth 20000 in
theorem t_X3_size_4 {d d1' : Nat} {Q : Option MV → MH → Prop} {h : MH} {v1 v2 : Int32} {v0 : Nat} (hr : zRf h) (hd1' : d1' + 1 ≤ d) (G0 : ¬ (nI 361) ≤ v2 → zokO h v0 3) (G1 : ¬ (nI 361) ≤ v2 → vp_in v2 361) (K0 : (nI 361) ≤ v2 → Q (some (.inl v1)) h) (K1 : ¬ (nI 361) ≤ v2 → Con mJ13_bitCount_95d88 d1' 0 0 [.inr (.inl (h.2.1 (v0 + 1) v2.toNatClampNeg))] h (zri fun (x : Int32) h' => J mX3_size d 0 0 Q 0 0 21 [some (.inr (.inr v0)), some (.inl v1), some (.inl v2)] [.inl x, .inl v1] h')) : J mX3_size d 0 0 Q 0 0 4 [some (.inr (.inr v0)), some (.inl v1), some (.inl v2)] [] h := by
  refine bX3_size_4  (fun p1 => ?_) (fun p1 => ?_)
  · exact bX3_size_29  (K0 p1)
  · exact bX3_size_11 hr (G0 p1) (G1 p1) hd1' (K1 p1)

set_option maxRecDepth 20000 in
theorem t_X3_size_21 {d  : Nat} {Q : Option MV → MH → Prop} {h : MH} {v1 v2 vs0 vs1 : Int32} {v0 : Nat} (K0 : J mX3_size d 0 0 Q 0 0 4 [some (.inr (.inr v0)), some (.inl (vs0 + vs1)), some (.inl (v2 + nI 1))] [] h) : J mX3_size d 0 0 Q 0 0 21 [some (.inr (.inr v0)), some (.inl v1), some (.inl v2)] [.inl vs1, .inl vs0] h := by
  refine bX3_size_21  ?_
  exact K0

set_option maxRecDepth 20000 in
theorem t_X3_nth {d  : Nat} {Q : Option MV → MH → Prop} {h : MH} {v1 : Int32} {v0 : Nat} (K0 : 0 ≤ v1 → J mX3_nth d 0 0 Q 0 0 10 [some (.inr (.inr v0)), some (.inl v1), some (.inl v1), some (.inl (nI 0)), none] [] h) (K1 : ¬ 0 ≤ v1 → Q (some (.inl (-(nI 1)))) h) : Con mX3_nth d 0 0 [.inr (.inr v0), .inl v1] h Q := by
  refine Con.intro rfl (Nat.le_of_ble_eq_true rfl) ?_
  show J mX3_nth d 0 0 Q 0 0 0 [some (.inr (.inr v0)), some (.inl v1), none, none, none] [] h
  refine bX3_nth_0  (fun p1 => ?_) (fun p1 => ?_)
  · refine bX3_nth_6  ?_
    exact K0 p1
  · exact bX3_nth_4  (K1 p1)

set_option maxRecDepth 20000 in
theorem t_X3_nth_10 {d d1' : Nat} {Q : Option MV → MH → Prop} {h : MH} {u4 : Option MV} {v1 v2 v3 : Int32} {v0 : Nat} (hr : zRf h) (hd1' : d1' + 1 ≤ d) (G0 : ¬ (nI 361) ≤ v3 → zokO h v0 3) (G1 : ¬ (nI 361) ≤ v3 → vp_in v3 361) (K0 : (nI 361) ≤ v3 → Q (some (.inl (-(nI 1)))) h) (K1 : ¬ (nI 361) ≤ v3 → Con mJ13_bitCount_95d88 d1' 0 0 [.inr (.inl (h.2.1 (v0 + 1) v3.toNatClampNeg))] h (zri fun (x : Int32) h' => J mX3_nth d 0 0 Q 0 0 26 [some (.inr (.inr v0)), some (.inl v1), some (.inl v2), some (.inl v3), u4] [.inl x] h')) : J mX3_nth d 0 0 Q 0 0 10 [some (.inr (.inr v0)), some (.inl v1), some (.inl v2), some (.inl v3), u4] [] h := by
  refine bX3_nth_10  (fun p1 => ?_) (fun p1 => ?_)
  · exact bX3_nth_52  (K0 p1)
  · exact bX3_nth_17 hr (G0 p1) (G1 p1) hd1' (K1 p1)

set_option maxRecDepth 20000 in
theorem t_X3_nth_26 {d d1' : Nat} {Q : Option MV → MH → Prop} {h : MH} {u4 : Option MV} {v1 v2 v3 vs0 : Int32} {v0 : Nat} (hd1' : d1' + 1 ≤ d) (G0 : ¬ vs0 ≤ v2 → zokO h v0 3) (K0 : vs0 ≤ v2 → J mX3_nth d 0 0 Q 0 0 10 [some (.inr (.inr v0)), some (.inl v1), some (.inl (v2 - vs0)), some (.inl (v3 + nI 1)), some (.inl vs0)] [] h) (K1 : ¬ vs0 ≤ v2 → Con mX3_nthOfWord d1' 0 0 [.inr (.inr v0), .inl v3, .inl v2] h (zri fun (x : Int32) h' => J mX3_nth d 0 0 Q 0 0 40 [some (.inr (.inr v0)), some (.inl v1), some (.inl v2), some (.inl v3), some (.inl vs0)] [.inl x] h')) : J mX3_nth d 0 0 Q 0 0 26 [some (.inr (.inr v0)), some (.inl v1), some (.inl v2), some (.inl v3), u4] [.inl vs0] h := by
  refine bX3_nth_26  (fun p1 => ?_) (fun p1 => ?_)
  · refine bX3_nth_41  ?_
    exact K0 p1
  · exact bX3_nth_34 (G0 p1) hd1' (K1 p1)

set_option maxRecDepth 20000 in
theorem t_X3_nth_40 {d  : Nat} {Q : Option MV → MH → Prop} {h : MH} {v1 v2 v3 v4 vs0 : Int32} {v0 : Nat} (K0 : Q (some (.inl vs0)) h) : J mX3_nth d 0 0 Q 0 0 40 [some (.inr (.inr v0)), some (.inl v1), some (.inl v2), some (.inl v3), some (.inl v4)] [.inl vs0] h := by
  exact bX3_nth_40  (K0)

set_option maxRecDepth 20000 in
theorem t_X3_nthOfWord {d  : Nat} {Q : Option MV → MH → Prop} {h : MH} {v1 v2 : Int32} {v0 : Nat} (K0 : J mX3_nthOfWord d 0 0 Q 0 0 8 [some (.inr (.inr v0)), some (.inl v1), some (.inl v2), some (.inl (nI 0)), some (.inl (v1 * (nI 64)))] [] h) : Con mX3_nthOfWord d 0 0 [.inr (.inr v0), .inl v1, .inl v2] h Q := by
  refine Con.intro rfl (Nat.le_of_ble_eq_true rfl) ?_
  show J mX3_nthOfWord d 0 0 Q 0 0 0 [some (.inr (.inr v0)), some (.inl v1), some (.inl v2), none, none] [] h
  refine bX3_nthOfWord_0  ?_
  exact K0

set_option maxRecDepth 20000 in
theorem t_X3_nthOfWord_8 {d  : Nat} {Q : Option MV → MH → Prop} {h : MH} {v1 v2 v3 v4 : Int32} {v0 : Nat} (hr : zRf h) (hd : 1 ≤ d) (G0 : ¬ ((v1 * (nI 64)) + (nI 64)) ≤ v4 → zokO h v0 3) (G1 : ¬ ((v1 * (nI 64)) + (nI 64)) ≤ v4 → ¬ v4 < 0 → ¬ (nI 23104) ≤ v4 → vp_in (v4 >>> ((nI 6) &&& 31)) 361) (K0 : ((v1 * (nI 64)) + (nI 64)) ≤ v4 → Q (some (.inl (-(nI 1)))) h) (K1 : ¬ ((v1 * (nI 64)) + (nI 64)) ≤ v4 → v4 < 0 → J mX3_nthOfWord d 0 0 Q 0 0 8 [some (.inr (.inr v0)), some (.inl v1), some (.inl v2), some (.inl v3), some (.inl (v4 + nI 1))] [] h) (K2 : ¬ ((v1 * (nI 64)) + (nI 64)) ≤ v4 → ¬ v4 < 0 → (nI 23104) ≤ v4 → J mX3_nthOfWord d 0 0 Q 0 0 8 [some (.inr (.inr v0)), some (.inl v1), some (.inl v2), some (.inl v3), some (.inl (v4 + nI 1))] [] h) (K3 : ¬ ((v1 * (nI 64)) + (nI 64)) ≤ v4 → ¬ v4 < 0 → ¬ (nI 23104) ≤ v4 → (lg_cmp ((((h.2.1 (v0 + 1) (v4 >>> ((nI 6) &&& 31)).toNatClampNeg).toUInt64 >>> ((v4 &&& (nI 63)).toInt64.toUInt64 &&& Int64.toUInt64 63)).toInt64) &&& (lN 1)) (lN 0)) = 0 → J mX3_nthOfWord d 0 0 Q 0 0 8 [some (.inr (.inr v0)), some (.inl v1), some (.inl v2), some (.inl v3), some (.inl (v4 + nI 1))] [] h) (K4 : ¬ ((v1 * (nI 64)) + (nI 64)) ≤ v4 → ¬ v4 < 0 → ¬ (nI 23104) ≤ v4 → ¬ (lg_cmp ((((h.2.1 (v0 + 1) (v4 >>> ((nI 6) &&& 31)).toNatClampNeg).toUInt64 >>> ((v4 &&& (nI 63)).toInt64.toUInt64 &&& Int64.toUInt64 63)).toInt64) &&& (lN 1)) (lN 0)) = 0 → ¬ v3 = v2 → J mX3_nthOfWord d 0 0 Q 0 0 8 [some (.inr (.inr v0)), some (.inl v1), some (.inl v2), some (.inl (v3 + nI 1)), some (.inl (v4 + nI 1))] [] h) (K5 : ¬ ((v1 * (nI 64)) + (nI 64)) ≤ v4 → ¬ v4 < 0 → ¬ (nI 23104) ≤ v4 → ¬ (lg_cmp ((((h.2.1 (v0 + 1) (v4 >>> ((nI 6) &&& 31)).toNatClampNeg).toUInt64 >>> ((v4 &&& (nI 63)).toInt64.toUInt64 &&& Int64.toUInt64 63)).toInt64) &&& (lN 1)) (lN 0)) = 0 → v3 = v2 → Q (some (.inl (v4 * (nI 16)))) h) : J mX3_nthOfWord d 0 0 Q 0 0 8 [some (.inr (.inr v0)), some (.inl v1), some (.inl v2), some (.inl v3), some (.inl v4)] [] h := by
  refine bX3_nthOfWord_8  (fun p1 => ?_) (fun p1 => ?_)
  · exact bX3_nthOfWord_49  (K0 p1)
  · refine bX3_nthOfWord_20 (d' := 0) (G0 p1) (by omega) ?_
    refine t_X3_hasMark hr ?_ ?_ ?_ ?_ ?_ ?_
    · intro p2 p3; exact (G0 p1)
    · intro p4 p5; exact (G1 p1 p4 p5)
    · intro p6
      refine bX3_nthOfWord_26  (fun _ => ?_) (fun c => absurd c (by decide))
      refine bX3_nthOfWord_43  ?_
      exact K1 p1 p6
    · intro p7 p8
      refine bX3_nthOfWord_26  (fun _ => ?_) (fun c => absurd c (by decide))
      refine bX3_nthOfWord_43  ?_
      exact K2 p1 p7 p8
    · intro p9 p10 p11
      refine bX3_nthOfWord_26  (fun _ => ?_) (fun c => absurd c (by decide))
      refine bX3_nthOfWord_43  ?_
      exact K3 p1 p9 p10 p11
    · intro p12 p13 p14
      refine bX3_nthOfWord_26  (fun c => absurd c (by decide)) (fun _ => ?_)
      refine bX3_nthOfWord_29  (fun p15 => ?_) (fun p15 => ?_)
      · refine bX3_nthOfWord_40  ?_
        refine bX3_nthOfWord_43  ?_
        exact K4 p1 p12 p13 p14 p15
      · exact bX3_nthOfWord_34  (K5 p1 p12 p13 p14 p15)

set_option maxRecDepth 20000 in
theorem t_X3_lastUpTo {d  : Nat} {Q : Option MV → MH → Prop} {h : MH} {v1 : Int32} {v0 : Nat} (hd : 1 ≤ d) (K0 : J mX3_lastUpTo d 0 0 Q 0 0 11 [some (.inr (.inr v0)), some (.inl v1), some (.inl (if (nI 23103) < (v1 / (nI 16)) then (nI 23103) else (v1 / (nI 16))))] [] h) : Con mX3_lastUpTo d 0 0 [.inr (.inr v0), .inl v1] h Q := by
  refine Con.intro rfl (Nat.le_of_ble_eq_true rfl) ?_
  show J mX3_lastUpTo d 0 0 Q 0 0 0 [some (.inr (.inr v0)), some (.inl v1), none] [] h
  refine bX3_lastUpTo_0  (by omega) ?_
  refine bX3_lastUpTo_10  ?_
  exact K0

set_option maxRecDepth 20000 in
theorem t_X3_lastUpTo_11 {d  : Nat} {Q : Option MV → MH → Prop} {h : MH} {v1 v2 : Int32} {v0 : Nat} (hr : zRf h) (hd : 1 ≤ d) (G0 : ¬ v2 < 0 → zokO h v0 3) (G1 : ¬ v2 < 0 → ¬ v2 < 0 → ¬ (nI 23104) ≤ v2 → vp_in (v2 >>> ((nI 6) &&& 31)) 361) (G2 : ¬ v2 < 0 → (nI 23104) ≤ v2 → vp_in (v2 >>> ((nI 6) &&& 31)) 361) (G3 : ¬ v2 < 0 → ¬ (nI 23104) ≤ v2 → (lg_cmp ((((h.2.1 (v0 + 1) (v2 >>> ((nI 6) &&& 31)).toNatClampNeg).toUInt64 >>> ((v2 &&& (nI 63)).toInt64.toUInt64 &&& Int64.toUInt64 63)).toInt64) &&& (lN 1)) (lN 0)) = 0 → vp_in (v2 >>> ((nI 6) &&& 31)) 361) (K0 : v2 < 0 → Q (some (.inl (-(nI 1)))) h) (K1 : ¬ v2 < 0 → (nI 23104) ≤ v2 → ¬ (lg_cmp (h.2.1 (v0 + 1) (v2 >>> ((nI 6) &&& 31)).toNatClampNeg) (lN 0)) = 0 → J mX3_lastUpTo d 0 0 Q 0 0 11 [some (.inr (.inr v0)), some (.inl v1), some (.inl (v2 + -(nI 1)))] [] h) (K2 : ¬ v2 < 0 → (nI 23104) ≤ v2 → (lg_cmp (h.2.1 (v0 + 1) (v2 >>> ((nI 6) &&& 31)).toNatClampNeg) (lN 0)) = 0 → J mX3_lastUpTo d 0 0 Q 0 0 11 [some (.inr (.inr v0)), some (.inl v1), some (.inl ((v2 &&& (-(nI 64))) + -(nI 1)))] [] h) (K3 : ¬ v2 < 0 → ¬ (nI 23104) ≤ v2 → (lg_cmp ((((h.2.1 (v0 + 1) (v2 >>> ((nI 6) &&& 31)).toNatClampNeg).toUInt64 >>> ((v2 &&& (nI 63)).toInt64.toUInt64 &&& Int64.toUInt64 63)).toInt64) &&& (lN 1)) (lN 0)) = 0 → ¬ (lg_cmp (h.2.1 (v0 + 1) (v2 >>> ((nI 6) &&& 31)).toNatClampNeg) (lN 0)) = 0 → J mX3_lastUpTo d 0 0 Q 0 0 11 [some (.inr (.inr v0)), some (.inl v1), some (.inl (v2 + -(nI 1)))] [] h) (K4 : ¬ v2 < 0 → ¬ (nI 23104) ≤ v2 → (lg_cmp ((((h.2.1 (v0 + 1) (v2 >>> ((nI 6) &&& 31)).toNatClampNeg).toUInt64 >>> ((v2 &&& (nI 63)).toInt64.toUInt64 &&& Int64.toUInt64 63)).toInt64) &&& (lN 1)) (lN 0)) = 0 → (lg_cmp (h.2.1 (v0 + 1) (v2 >>> ((nI 6) &&& 31)).toNatClampNeg) (lN 0)) = 0 → J mX3_lastUpTo d 0 0 Q 0 0 11 [some (.inr (.inr v0)), some (.inl v1), some (.inl ((v2 &&& (-(nI 64))) + -(nI 1)))] [] h) (K5 : ¬ v2 < 0 → ¬ (nI 23104) ≤ v2 → ¬ (lg_cmp ((((h.2.1 (v0 + 1) (v2 >>> ((nI 6) &&& 31)).toNatClampNeg).toUInt64 >>> ((v2 &&& (nI 63)).toInt64.toUInt64 &&& Int64.toUInt64 63)).toInt64) &&& (lN 1)) (lN 0)) = 0 → Q (some (.inl (v2 * (nI 16)))) h) : J mX3_lastUpTo d 0 0 Q 0 0 11 [some (.inr (.inr v0)), some (.inl v1), some (.inl v2)] [] h := by
  refine bX3_lastUpTo_11  (fun p1 => ?_) (fun p1 => ?_)
  · exact bX3_lastUpTo_53  (K0 p1)
  · refine bX3_lastUpTo_15 (d' := 0) (G0 p1) (by omega) ?_
    refine t_X3_hasMark hr ?_ ?_ ?_ ?_ ?_ ?_
    · intro p2 p3; exact (G0 p1)
    · intro p4 p5; exact (G1 p1 p4 p5)
    · intro p6; exact absurd p6 p1
    · intro p7 p8
      refine bX3_lastUpTo_20  (fun _ => ?_) (fun c => absurd c (by decide))
      refine bX3_lastUpTo_28 hr (G0 p1) (G2 p1 p8) (fun p15 => ?_) (fun p15 => ?_)
      · refine bX3_lastUpTo_47  ?_
        exact K1 p1 p8 p15
      · refine bX3_lastUpTo_42  ?_
        refine bX3_lastUpTo_47  ?_
        exact K2 p1 p8 p15
    · intro p9 p10 p11
      refine bX3_lastUpTo_20  (fun _ => ?_) (fun c => absurd c (by decide))
      refine bX3_lastUpTo_28 hr (G0 p1) (G3 p1 p10 p11) (fun p16 => ?_) (fun p16 => ?_)
      · refine bX3_lastUpTo_47  ?_
        exact K3 p1 p10 p11 p16
      · refine bX3_lastUpTo_42  ?_
        refine bX3_lastUpTo_47  ?_
        exact K4 p1 p10 p11 p16
    · intro p12 p13 p14
      refine bX3_lastUpTo_20  (fun c => absurd c (by decide)) (fun _ => ?_)
      exact bX3_lastUpTo_23  (K5 p1 p13 p14)

set_option maxRecDepth 20000 in
theorem t_X3_firstFrom {d  : Nat} {Q : Option MV → MH → Prop} {h : MH} {v1 : Int32} {v0 : Nat} (K0 : v1 ≤ (369648 : Int32) → J mX3_firstFrom d 0 0 Q 0 0 18 [some (.inr (.inr v0)), some (.inl v1), some (.inl (((v1 + (nI 16)) - (nI 1)) / (nI 16)))] [] h) (K1 : ¬ v1 ≤ (369648 : Int32) → Q (some (.inl (-(nI 1)))) h) : Con mX3_firstFrom d 0 0 [.inr (.inr v0), .inl v1] h Q := by
  refine Con.intro rfl (Nat.le_of_ble_eq_true rfl) ?_
  show J mX3_firstFrom d 0 0 Q 0 0 0 [some (.inr (.inr v0)), some (.inl v1), none] [] h
  refine bX3_firstFrom_0  (fun p1 => ?_) (fun p1 => ?_)
  · refine bX3_firstFrom_8  ?_
    exact K0 p1
  · exact bX3_firstFrom_6  (K1 p1)

set_option maxRecDepth 20000 in
theorem t_X3_firstFrom_18 {d  : Nat} {Q : Option MV → MH → Prop} {h : MH} {v1 v2 : Int32} {v0 : Nat} (hr : zRf h) (hd : 1 ≤ d) (G0 : ¬ (nI 23104) ≤ v2 → zokO h v0 3) (G1 : ¬ (nI 23104) ≤ v2 → ¬ v2 < 0 → ¬ (nI 23104) ≤ v2 → vp_in (v2 >>> ((nI 6) &&& 31)) 361) (G2 : ¬ (nI 23104) ≤ v2 → v2 < 0 → vp_in (v2 >>> ((nI 6) &&& 31)) 361) (G3 : ¬ (nI 23104) ≤ v2 → ¬ v2 < 0 → (lg_cmp ((((h.2.1 (v0 + 1) (v2 >>> ((nI 6) &&& 31)).toNatClampNeg).toUInt64 >>> ((v2 &&& (nI 63)).toInt64.toUInt64 &&& Int64.toUInt64 63)).toInt64) &&& (lN 1)) (lN 0)) = 0 → vp_in (v2 >>> ((nI 6) &&& 31)) 361) (K0 : (nI 23104) ≤ v2 → Q (some (.inl (-(nI 1)))) h) (K1 : ¬ (nI 23104) ≤ v2 → v2 < 0 → ¬ (lg_cmp (h.2.1 (v0 + 1) (v2 >>> ((nI 6) &&& 31)).toNatClampNeg) (lN 0)) = 0 → J mX3_firstFrom d 0 0 Q 0 0 18 [some (.inr (.inr v0)), some (.inl v1), some (.inl (v2 + nI 1))] [] h) (K2 : ¬ (nI 23104) ≤ v2 → v2 < 0 → (lg_cmp (h.2.1 (v0 + 1) (v2 >>> ((nI 6) &&& 31)).toNatClampNeg) (lN 0)) = 0 → J mX3_firstFrom d 0 0 Q 0 0 18 [some (.inr (.inr v0)), some (.inl v1), some (.inl ((v2 ||| (nI 63)) + nI 1))] [] h) (K3 : ¬ (nI 23104) ≤ v2 → ¬ v2 < 0 → (lg_cmp ((((h.2.1 (v0 + 1) (v2 >>> ((nI 6) &&& 31)).toNatClampNeg).toUInt64 >>> ((v2 &&& (nI 63)).toInt64.toUInt64 &&& Int64.toUInt64 63)).toInt64) &&& (lN 1)) (lN 0)) = 0 → ¬ (lg_cmp (h.2.1 (v0 + 1) (v2 >>> ((nI 6) &&& 31)).toNatClampNeg) (lN 0)) = 0 → J mX3_firstFrom d 0 0 Q 0 0 18 [some (.inr (.inr v0)), some (.inl v1), some (.inl (v2 + nI 1))] [] h) (K4 : ¬ (nI 23104) ≤ v2 → ¬ v2 < 0 → (lg_cmp ((((h.2.1 (v0 + 1) (v2 >>> ((nI 6) &&& 31)).toNatClampNeg).toUInt64 >>> ((v2 &&& (nI 63)).toInt64.toUInt64 &&& Int64.toUInt64 63)).toInt64) &&& (lN 1)) (lN 0)) = 0 → (lg_cmp (h.2.1 (v0 + 1) (v2 >>> ((nI 6) &&& 31)).toNatClampNeg) (lN 0)) = 0 → J mX3_firstFrom d 0 0 Q 0 0 18 [some (.inr (.inr v0)), some (.inl v1), some (.inl ((v2 ||| (nI 63)) + nI 1))] [] h) (K5 : ¬ (nI 23104) ≤ v2 → ¬ v2 < 0 → ¬ (lg_cmp ((((h.2.1 (v0 + 1) (v2 >>> ((nI 6) &&& 31)).toNatClampNeg).toUInt64 >>> ((v2 &&& (nI 63)).toInt64.toUInt64 &&& Int64.toUInt64 63)).toInt64) &&& (lN 1)) (lN 0)) = 0 → Q (some (.inl (v2 * (nI 16)))) h) : J mX3_firstFrom d 0 0 Q 0 0 18 [some (.inr (.inr v0)), some (.inl v1), some (.inl v2)] [] h := by
  refine bX3_firstFrom_18  (fun p1 => ?_) (fun p1 => ?_)
  · exact bX3_firstFrom_63  (K0 p1)
  · refine bX3_firstFrom_25 (d' := 0) (G0 p1) (by omega) ?_
    refine t_X3_hasMark hr ?_ ?_ ?_ ?_ ?_ ?_
    · intro p2 p3; exact (G0 p1)
    · intro p4 p5; exact (G1 p1 p4 p5)
    · intro p6
      refine bX3_firstFrom_30  (fun _ => ?_) (fun c => absurd c (by decide))
      refine bX3_firstFrom_38 hr (G0 p1) (G2 p1 p6) (fun p15 => ?_) (fun p15 => ?_)
      · refine bX3_firstFrom_57  ?_
        exact K1 p1 p6 p15
      · refine bX3_firstFrom_52  ?_
        refine bX3_firstFrom_57  ?_
        exact K2 p1 p6 p15
    · intro p7 p8; exact absurd p8 p1
    · intro p9 p10 p11
      refine bX3_firstFrom_30  (fun _ => ?_) (fun c => absurd c (by decide))
      refine bX3_firstFrom_38 hr (G0 p1) (G3 p1 p9 p11) (fun p16 => ?_) (fun p16 => ?_)
      · refine bX3_firstFrom_57  ?_
        exact K3 p1 p9 p11 p16
      · refine bX3_firstFrom_52  ?_
        refine bX3_firstFrom_57  ?_
        exact K4 p1 p9 p11 p16
    · intro p12 p13 p14
      refine bX3_firstFrom_30  (fun c => absurd c (by decide)) (fun _ => ?_)
      exact bX3_firstFrom_33  (K5 p1 p12 p14)

set_option maxRecDepth 20000 in
theorem t_X7_begin {d  : Nat} {Q : Option MV → MH → Prop} {h : MH} {v1 v2 : Int32} {v0 : Nat} (G0 : zokO h v0 7) (K0 : J mX7_begin d 0 0 Q 0 0 17 [some (.inr (.inr v0)), some (.inl v1), some (.inl v2), some (.inl (nI 0))] [] (zsI (zsI (zsI h v0 0 (nI 1)) v0 1 v1) v0 2 v2)) : Con mX7_begin d 0 0 [.inr (.inr v0), .inl v1, .inl v2] h Q := by
  refine Con.intro rfl (Nat.le_of_ble_eq_true rfl) ?_
  show J mX7_begin d 0 0 Q 0 0 0 [some (.inr (.inr v0)), some (.inl v1), some (.inl v2), none] [] h
  refine bX7_begin_0 (G0) ?_
  exact K0

set_option maxRecDepth 20000 in
theorem t_X7_begin_17 {d  : Nat} {Q : Option MV → MH → Prop} {h : MH} {v1 v2 v3 : Int32} {v0 : Nat} (hr : zRf h) (G0 : ¬ (nI 40) ≤ v3 → zokO h v0 7) (G1 : ¬ (nI 40) ≤ v3 → vp_in v3 40) (K0 : (nI 40) ≤ v3 → Q none h) (K1 : ¬ (nI 40) ≤ v3 → J mX7_begin d 0 0 Q 0 0 17 [some (.inr (.inr v0)), some (.inl v1), some (.inl v2), some (.inl (v3 + nI 1))] [] (zsL h (v0 + 1) v3.toNatClampNeg (lN 0))) : J mX7_begin d 0 0 Q 0 0 17 [some (.inr (.inr v0)), some (.inl v1), some (.inl v2), some (.inl v3)] [] h := by
  refine bX7_begin_17  (fun p1 => ?_) (fun p1 => ?_)
  · exact bX7_begin_36  (K0 p1)
  · refine bX7_begin_23 hr (G0 p1) (G1 p1) ?_
    exact K1 p1

set_option maxRecDepth 20000 in
theorem t_X7_put {d d1' : Nat} {Q : Option MV → MH → Prop} {h : MH} {v1 : Int32} {v2 : Int64} {v0 : Nat} (hr : zRf h) (hd1' : d1' + 1 ≤ d) (G0 : ¬ v1 < 0 → zokO h v0 7) (K0 : v1 < 0 → Q none h) (K1 : ¬ v1 < 0 → (h.1 v0 2) ≤ v1 → Q none h) (K2 : ¬ v1 < 0 → ¬ (h.1 v0 2) ≤ v1 → Con mX7_cut d1' 0 0 [.inr (.inr v0), .inr (.inl v2)] h (zrl fun (x : Int64) h' => J mX7_put d 0 0 Q 0 0 22 [some (.inr (.inr v0)), some (.inl v1), some (.inr (.inl v2)), none] [.inr (.inl x), .inl v1, .inr (.inr (v0 + 1))] h')) : Con mX7_put d 0 0 [.inr (.inr v0), .inl v1, .inr (.inl v2)] h Q := by
  refine Con.intro rfl (Nat.le_of_ble_eq_true rfl) ?_
  show J mX7_put d 0 0 Q 0 0 0 [some (.inr (.inr v0)), some (.inl v1), some (.inr (.inl v2)), none] [] h
  refine bX7_put_0  (fun p1 => ?_) (fun p1 => ?_)
  · exact bX7_put_23  (K0 p1)
  · refine bX7_put_4 (G0 p1) (fun p2 => ?_) (fun p2 => ?_)
    · exact bX7_put_23  (K1 p1 p2)
    · exact bX7_put_12 hr (G0 p1) hd1' (K2 p1 p2)

set_option maxRecDepth 20000 in
theorem t_X7_put_22 {d  : Nat} {Q : Option MV → MH → Prop} {h : MH} {v1 vs1 : Int32} {v2 vs2 : Int64} {v0 vs0 : Nat} (G0 : zokA h vs0 21 vs1) (K0 : Q none (zsL h vs0 vs1.toNatClampNeg vs2)) : J mX7_put d 0 0 Q 0 0 22 [some (.inr (.inr v0)), some (.inl v1), some (.inr (.inl v2)), none] [.inr (.inl vs2), .inl vs1, .inr (.inr vs0)] h := by
  refine bX7_put_22 (G0) ?_
  exact bX7_put_23  (K0)

set_option maxRecDepth 20000 in
theorem t_X7_cut {d  : Nat} {Q : Option MV → MH → Prop} {h : MH} {v1 : Int64} {v0 : Nat} (G0 : zokO h v0 7) (K0 : J mX7_cut d 0 0 Q 0 0 4 [some (.inr (.inr v0)), some (.inr (.inl v1)), none] [.inl (h.1 v0 1)] h) : Con mX7_cut d 0 0 [.inr (.inr v0), .inr (.inl v1)] h Q := by
  refine Con.intro rfl (Nat.le_of_ble_eq_true rfl) ?_
  show J mX7_cut d 0 0 Q 0 0 0 [some (.inr (.inr v0)), some (.inr (.inl v1)), none] [] h
  refine bX7_cut_0 (G0) ?_
  exact K0

set_option maxRecDepth 20000 in
theorem t_X7_cut_32 {d  : Nat} {Q : Option MV → MH → Prop} {h : MH} {v1 : Int64} {v0 : Nat} (K0 : Q (some (.inr (.inl v1.toInt32.toInt8.toInt32.toInt64))) h) : J mX7_cut d 0 0 Q 0 0 32 [some (.inr (.inr v0)), some (.inr (.inl v1)), none] [] h := by
  exact bX7_cut_32  (K0)

set_option maxRecDepth 20000 in
theorem t_X7_cut_37 {d  : Nat} {Q : Option MV → MH → Prop} {h : MH} {v1 : Int64} {v0 : Nat} (K0 : Q (some (.inr (.inl v1.toInt32.toInt16.toInt32.toInt64))) h) : J mX7_cut d 0 0 Q 0 0 37 [some (.inr (.inr v0)), some (.inr (.inl v1)), none] [] h := by
  exact bX7_cut_37  (K0)

set_option maxRecDepth 20000 in
theorem t_X7_cut_42 {d  : Nat} {Q : Option MV → MH → Prop} {h : MH} {v1 : Int64} {v0 : Nat} (K0 : Q (some (.inr (.inl v1.toInt32.toInt64))) h) : J mX7_cut d 0 0 Q 0 0 42 [some (.inr (.inr v0)), some (.inr (.inl v1)), none] [] h := by
  exact bX7_cut_42  (K0)

set_option maxRecDepth 20000 in
theorem t_X7_cut_46 {d  : Nat} {Q : Option MV → MH → Prop} {h : MH} {v1 : Int64} {v0 : Nat} (K0 : Q (some (.inr (.inl v1))) h) : J mX7_cut d 0 0 Q 0 0 46 [some (.inr (.inr v0)), some (.inr (.inl v1)), none] [] h := by
  exact bX7_cut_46  (K0)
