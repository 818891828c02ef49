set_option maxRecDepth 20000 in
theorem t_X11_feed {d  : Nat} {Q : Option MV → MH → Prop} {h : MH} {v1 v2 v3 v4 v5 : Int32} (hr : zRf h) (K0 : (((zsI h 111 0 (nI 0)).1 111 5) + (nI 20)) ≤ (nI 400) → J mX11_feed d 0 0 Q 0 0 24 [some (.inr (.inr 111)), some (.inl v1), some (.inl v2), some (.inl v3), some (.inl v4), some (.inl v5), some (.inl (nI 0)), none] [] (zsI h 111 0 (nI 0))) (K1 : ¬ (((zsI h 111 0 (nI 0)).1 111 5) + (nI 20)) ≤ (nI 400) → Q (some (.inl (-(nI 5)))) (zsI h 111 0 (nI 0))) : Con mX11_feed d 0 0 [.inr (.inr 111), .inl v1, .inl v2, .inl v3, .inl v4, .inl v5] h Q := by
  refine Con.intro rfl (Nat.le_of_ble_eq_true rfl) ?_
  show J mX11_feed d 0 0 Q 0 0 0 [some (.inr (.inr 111)), some (.inl v1), some (.inl v2), some (.inl v3), some (.inl v4), some (.inl v5), none, none] [] h
  refine bX11_feed_0 hr (fun p1 => ?_) (fun p1 => ?_)
  · refine bX11_feed_21  ?_
    exact K0 p1
  · exact bX11_feed_18  (K1 p1)

set_option maxRecDepth 20000 in
theorem t_X11_feed_24 {d  : Nat} {Q : Option MV → MH → Prop} {h : MH} {u7 : Option MV} {v1 v2 v3 v4 v5 v6 : Int32} (hr : zRf h) (G0 : ¬ (nI 20) ≤ v6 → (nI 4) ≤ v6 → (nI 8) ≤ v6 → (nI 12) ≤ v6 → (nI 16) ≤ v6 → vp_in (h.1 111 5) 400) (G1 : ¬ (nI 20) ≤ v6 → (nI 4) ≤ v6 → (nI 8) ≤ v6 → (nI 12) ≤ v6 → ¬ (nI 16) ≤ v6 → vp_in (h.1 111 5) 400) (G2 : ¬ (nI 20) ≤ v6 → (nI 4) ≤ v6 → (nI 8) ≤ v6 → ¬ (nI 12) ≤ v6 → vp_in (h.1 111 5) 400) (G3 : ¬ (nI 20) ≤ v6 → (nI 4) ≤ v6 → ¬ (nI 8) ≤ v6 → vp_in (h.1 111 5) 400) (G4 : ¬ (nI 20) ≤ v6 → ¬ (nI 4) ≤ v6 → vp_in (h.1 111 5) 400) (K0 : (nI 20) ≤ v6 → Q (some (.inl (h.1 111 5))) h) (K1 : ¬ (nI 20) ≤ v6 → (nI 4) ≤ v6 → (nI 8) ≤ v6 → (nI 12) ≤ v6 → (nI 16) ≤ v6 → J mX11_feed d 0 0 Q 0 0 24 [some (.inr (.inr 111)), some (.inl v1), some (.inl v2), some (.inl v3), some (.inl v4), some (.inl v5), some (.inl (v6 + nI 1)), some (.inl v5)] [] (zsI (zsI h 114 (h.1 111 5).toNatClampNeg ((v5 >>> (((nI 24) - ((nI 8) * (v6 - v6 / (nI 4) * (nI 4)))) &&& 31)) &&& (nI 255))) 111 5 (((zsI h 114 (h.1 111 5).toNatClampNeg ((v5 >>> (((nI 24) - ((nI 8) * (v6 - v6 / (nI 4) * (nI 4)))) &&& 31)) &&& (nI 255))).1 111 5) + (nI 1)))) (K2 : ¬ (nI 20) ≤ v6 → (nI 4) ≤ v6 → (nI 8) ≤ v6 → (nI 12) ≤ v6 → ¬ (nI 16) ≤ v6 → J mX11_feed d 0 0 Q 0 0 24 [some (.inr (.inr 111)), some (.inl v1), some (.inl v2), some (.inl v3), some (.inl v4), some (.inl v5), some (.inl (v6 + nI 1)), some (.inl v4)] [] (zsI (zsI h 114 (h.1 111 5).toNatClampNeg ((v4 >>> (((nI 24) - ((nI 8) * (v6 - v6 / (nI 4) * (nI 4)))) &&& 31)) &&& (nI 255))) 111 5 (((zsI h 114 (h.1 111 5).toNatClampNeg ((v4 >>> (((nI 24) - ((nI 8) * (v6 - v6 / (nI 4) * (nI 4)))) &&& 31)) &&& (nI 255))).1 111 5) + (nI 1)))) (K3 : ¬ (nI 20) ≤ v6 → (nI 4) ≤ v6 → (nI 8) ≤ v6 → ¬ (nI 12) ≤ v6 → J mX11_feed d 0 0 Q 0 0 24 [some (.inr (.inr 111)), some (.inl v1), some (.inl v2), some (.inl v3), some (.inl v4), some (.inl v5), some (.inl (v6 + nI 1)), some (.inl v3)] [] (zsI (zsI h 114 (h.1 111 5).toNatClampNeg ((v3 >>> (((nI 24) - ((nI 8) * (v6 - v6 / (nI 4) * (nI 4)))) &&& 31)) &&& (nI 255))) 111 5 (((zsI h 114 (h.1 111 5).toNatClampNeg ((v3 >>> (((nI 24) - ((nI 8) * (v6 - v6 / (nI 4) * (nI 4)))) &&& 31)) &&& (nI 255))).1 111 5) + (nI 1)))) (K4 : ¬ (nI 20) ≤ v6 → (nI 4) ≤ v6 → ¬ (nI 8) ≤ v6 → J mX11_feed d 0 0 Q 0 0 24 [some (.inr (.inr 111)), some (.inl v1), some (.inl v2), some (.inl v3), some (.inl v4), some (.inl v5), some (.inl (v6 + nI 1)), some (.inl v2)] [] (zsI (zsI h 114 (h.1 111 5).toNatClampNeg ((v2 >>> (((nI 24) - ((nI 8) * (v6 - v6 / (nI 4) * (nI 4)))) &&& 31)) &&& (nI 255))) 111 5 (((zsI h 114 (h.1 111 5).toNatClampNeg ((v2 >>> (((nI 24) - ((nI 8) * (v6 - v6 / (nI 4) * (nI 4)))) &&& 31)) &&& (nI 255))).1 111 5) + (nI 1)))) (K5 : ¬ (nI 20) ≤ v6 → ¬ (nI 4) ≤ v6 → J mX11_feed d 0 0 Q 0 0 24 [some (.inr (.inr 111)), some (.inl v1), some (.inl v2), some (.inl v3), some (.inl v4), some (.inl v5), some (.inl (v6 + nI 1)), some (.inl v1)] [] (zsI (zsI h 114 (h.1 111 5).toNatClampNeg ((v1 >>> (((nI 24) - ((nI 8) * (v6 - v6 / (nI 4) * (nI 4)))) &&& 31)) &&& (nI 255))) 111 5 (((zsI h 114 (h.1 111 5).toNatClampNeg ((v1 >>> (((nI 24) - ((nI 8) * (v6 - v6 / (nI 4) * (nI 4)))) &&& 31)) &&& (nI 255))).1 111 5) + (nI 1)))) : J mX11_feed d 0 0 Q 0 0 24 [some (.inr (.inr 111)), some (.inl v1), some (.inl v2), some (.inl v3), some (.inl v4), some (.inl v5), some (.inl v6), u7] [] h := by
  refine bX11_feed_24  (fun p1 => ?_) (fun p1 => ?_)
  · exact bX11_feed_121 hr (K0 p1)
  · refine bX11_feed_31  (fun p2 => ?_) (fun p2 => ?_)
    · refine bX11_feed_41  (fun p3 => ?_) (fun p3 => ?_)
      · refine bX11_feed_52  (fun p4 => ?_) (fun p4 => ?_)
        · refine bX11_feed_63  (fun p5 => ?_) (fun p5 => ?_)
          · refine bX11_feed_75  ?_
            refine bX11_feed_77 hr (G0 p1 p2 p3 p4 p5) ?_
            exact K1 p1 p2 p3 p4 p5
          · refine bX11_feed_70  ?_
            refine bX11_feed_77 hr (G1 p1 p2 p3 p4 p5) ?_
            exact K2 p1 p2 p3 p4 p5
        · refine bX11_feed_59  ?_
          refine bX11_feed_77 hr (G2 p1 p2 p3 p4) ?_
          exact K3 p1 p2 p3 p4
      · refine bX11_feed_48  ?_
        refine bX11_feed_77 hr (G3 p1 p2 p3) ?_
        exact K4 p1 p2 p3
    · refine bX11_feed_37  ?_
      refine bX11_feed_77 hr (G4 p1 p2) ?_
      exact K5 p1 p2

set_option maxRecDepth 20000 in
theorem t_X11_keyAt {d  : Nat} {Q : Option MV → MH → Prop} {h : MH} (K0 : J mX11_keyAt d 0 0 Q 0 0 4 [some (.inr (.inr 111)), some (.inl (nI 0)), some (.inl (nI 1)), none] [] h) : Con mX11_keyAt d 0 0 [.inr (.inr 111)] h Q := by
  refine Con.intro rfl (Nat.le_of_ble_eq_true rfl) ?_
  show J mX11_keyAt d 0 0 Q 0 0 0 [some (.inr (.inr 111)), none, none, none] [] h
  refine bX11_keyAt_0  ?_
  exact K0

set_option maxRecDepth 20000 in
theorem t_X11_keyAt_4 {d d1' : Nat} {Q : Option MV → MH → Prop} {h : MH} {u3 : Option MV} {v1 v2 : Int32} (hd1' : d1' + 1 ≤ d) (K0 : Con mJ0_length_8abf5 d1' 0 0 [.inr (.inr 1011)] h (zri fun (x : Int32) h' => J mX11_keyAt d 0 0 Q 0 0 10 [some (.inr (.inr 111)), some (.inl v1), some (.inl v2), u3] [.inl x, .inl v2] h')) : J mX11_keyAt d 0 0 Q 0 0 4 [some (.inr (.inr 111)), some (.inl v1), some (.inl v2), u3] [] h := by
  refine bX11_keyAt_4  ?_
  refine bX11_keyAt_5  ?_
  exact bX11_keyAt_7 ⟨11, rfl, by decide⟩ hd1' (K0)

set_option maxRecDepth 20000 in
theorem t_X11_keyAt_10 {d  : Nat} {Q : Option MV → MH → Prop} {h : MH} {u3 : Option MV} {v1 v2 vs0 vs1 : Int32} (K0 : vs1 ≤ vs0 → Q (some (.inl (nI 11))) h) (K1 : ¬ vs1 ≤ vs0 → J mX11_keyAt d 0 0 Q 0 0 15 [some (.inr (.inr 111)), some (.inl v1), some (.inl v2), some (.inl (nI 0))] [] h) : J mX11_keyAt d 0 0 Q 0 0 10 [some (.inr (.inr 111)), some (.inl v1), some (.inl v2), u3] [.inl vs1, .inl vs0] h := by
  refine bX11_keyAt_10  (fun p1 => ?_) (fun p1 => ?_)
  · exact bX11_keyAt_123  (K0 p1)
  · refine bX11_keyAt_13  ?_
    exact K1 p1

set_option maxRecDepth 20000 in
theorem t_X11_keyAt_15 {d d1' : Nat} {Q : Option MV → MH → Prop} {h : MH} {v1 v2 v3 : Int32} (hd1' : d1' + 1 ≤ d) (K0 : Con mJ0_charAt_5068e d1' 0 0 [.inr (.inr 1011), .inl (v2 + v3)] h (zri fun (x : Int32) h' => J mX11_keyAt d 0 0 Q 0 0 23 [some (.inr (.inr 111)), some (.inl v1), some (.inl v2), some (.inl v3)] [.inl x] h')) : J mX11_keyAt d 0 0 Q 0 0 15 [some (.inr (.inr 111)), some (.inl v1), some (.inl v2), some (.inl v3)] [] h := by
  refine bX11_keyAt_15  ?_
  exact bX11_keyAt_17 ⟨11, rfl, by decide⟩ hd1' (K0)

set_option maxRecDepth 20000 in
theorem t_X11_keyAt_23 {d d1' d2' d3' : Nat} {Q : Option MV → MH → Prop} {h : MH} {v1 v2 v3 vs0 : Int32} (hr : zRf h) (hd1' : d1' + 1 ≤ d) (hd2' : d2' + 1 ≤ d) (hd3' : d3' + 1 ≤ d) (G0 : ¬ vs0 = (nI 32) → ¬ (h.1 111 7) ≤ ((h.1 111 6) + v3) → vp_in ((h.1 111 6) + v3) 400) (K0 : vs0 = (nI 32) → Con mJ0_charAt_5068e d1' 0 0 [.inr (.inr 1011), .inl (v2 + v3)] h (zri fun (x : Int32) h' => J mX11_keyAt d 0 0 Q 0 0 77 [some (.inr (.inr 111)), some (.inl v1), some (.inl v2), some (.inl v3)] [.inl x] h')) (K1 : ¬ vs0 = (nI 32) → (h.1 111 7) ≤ ((h.1 111 6) + v3) → Con mJ0_charAt_5068e d2' 0 0 [.inr (.inr 1011), .inl (v2 + v3)] h (zri fun (x : Int32) h' => J mX11_keyAt d 0 0 Q 0 0 77 [some (.inr (.inr 111)), some (.inl v1), some (.inl v2), some (.inl v3)] [.inl x] h')) (K2 : ¬ vs0 = (nI 32) → ¬ (h.1 111 7) ≤ ((h.1 111 6) + v3) → Con mJ0_charAt_5068e d3' 0 0 [.inr (.inr 1011), .inl (v2 + v3)] h (zri fun (x : Int32) h' => J mX11_keyAt d 0 0 Q 0 0 60 [some (.inr (.inr 111)), some (.inl v1), some (.inl v2), some (.inl v3)] [.inl x, .inl (h.1 114 ((h.1 111 6) + v3).toNatClampNeg)] h')) : J mX11_keyAt d 0 0 Q 0 0 23 [some (.inr (.inr 111)), some (.inl v1), some (.inl v2), some (.inl v3)] [.inl vs0] h := by
  refine bX11_keyAt_23  (fun p1 => ?_) (fun p1 => ?_)
  · refine bX11_keyAt_69  ?_
    exact bX11_keyAt_71 ⟨11, rfl, by decide⟩ hd1' (K0 p1)
  · refine bX11_keyAt_28 hr (fun p2 => ?_) (fun p2 => ?_)
    · refine bX11_keyAt_69  ?_
      exact bX11_keyAt_71 ⟨11, rfl, by decide⟩ hd2' (K1 p1 p2)
    · refine bX11_keyAt_41 hr (G0 p1 p2) ?_
      refine bX11_keyAt_52  ?_
      exact bX11_keyAt_54 ⟨11, rfl, by decide⟩ hd3' (K2 p1 p2)

set_option maxRecDepth 20000 in
theorem t_X11_keyAt_60 {d d1' : Nat} {Q : Option MV → MH → Prop} {h : MH} {v1 v2 v3 vs0 vs1 : Int32} (hd1' : d1' + 1 ≤ d) (K0 : ¬ vs0 = vs1 → Con mJ0_charAt_5068e d1' 0 0 [.inr (.inr 1011), .inl (v2 + v3)] h (zri fun (x : Int32) h' => J mX11_keyAt d 0 0 Q 0 0 77 [some (.inr (.inr 111)), some (.inl v1), some (.inl v2), some (.inl v3)] [.inl x] h')) (K1 : vs0 = vs1 → J mX11_keyAt d 0 0 Q 0 0 15 [some (.inr (.inr 111)), some (.inl v1), some (.inl v2), some (.inl (v3 + nI 1))] [] h) : J mX11_keyAt d 0 0 Q 0 0 60 [some (.inr (.inr 111)), some (.inl v1), some (.inl v2), some (.inl v3)] [.inl vs1, .inl vs0] h := by
  refine bX11_keyAt_60  (fun p1 => ?_) (fun p1 => ?_)
  · refine bX11_keyAt_69  ?_
    exact bX11_keyAt_71 ⟨11, rfl, by decide⟩ hd1' (K0 p1)
  · refine bX11_keyAt_63  ?_
    exact K1 p1

set_option maxRecDepth 20000 in
theorem t_X11_keyAt_77 {d  : Nat} {Q : Option MV → MH → Prop} {h : MH} {v1 v2 v3 vs0 : Int32} (hr : zRf h) (K0 : ¬ vs0 = (nI 32) → J mX11_keyAt d 0 0 Q 0 0 97 [some (.inr (.inr 111)), some (.inl v1), some (.inl v2), some (.inl v3)] [] h) (K1 : vs0 = (nI 32) → ¬ ((h.1 111 6) + v3) = (h.1 111 7) → J mX11_keyAt d 0 0 Q 0 0 97 [some (.inr (.inr 111)), some (.inl v1), some (.inl v2), some (.inl v3)] [] h) (K2 : vs0 = (nI 32) → ((h.1 111 6) + v3) = (h.1 111 7) → Q (some (.inl v1)) h) : J mX11_keyAt d 0 0 Q 0 0 77 [some (.inr (.inr 111)), some (.inl v1), some (.inl v2), some (.inl v3)] [.inl vs0] h := by
  refine bX11_keyAt_77  (fun p1 => ?_) (fun p1 => ?_)
  · exact K0 p1
  · refine bX11_keyAt_82 hr (fun p2 => ?_) (fun p2 => ?_)
    · exact K1 p1 p2
    · exact bX11_keyAt_95  (K2 p1 p2)

set_option maxRecDepth 20000 in
theorem t_X11_keyAt_97 {d d1' : Nat} {Q : Option MV → MH → Prop} {h : MH} {v1 v2 v3 : Int32} (hd1' : d1' + 1 ≤ d) (K0 : Con mJ0_charAt_5068e d1' 0 0 [.inr (.inr 1011), .inl v2] h (zri fun (x : Int32) h' => J mX11_keyAt d 0 0 Q 0 0 103 [some (.inr (.inr 111)), some (.inl v1), some (.inl v2), some (.inl v3)] [.inl x] h')) : J mX11_keyAt d 0 0 Q 0 0 97 [some (.inr (.inr 111)), some (.inl v1), some (.inl v2), some (.inl v3)] [] h := by
  refine bX11_keyAt_97  ?_
  exact bX11_keyAt_99 ⟨11, rfl, by decide⟩ hd1' (K0)

set_option maxRecDepth 20000 in
theorem t_X11_keyAt_103 {d  : Nat} {Q : Option MV → MH → Prop} {h : MH} {v1 v2 v3 vs0 : Int32} (K0 : vs0 = (nI 32) → J mX11_keyAt d 0 0 Q 0 0 4 [some (.inr (.inr 111)), some (.inl (v1 + nI 1)), some (.inl (v2 + nI 1)), some (.inl v3)] [] h) (K1 : ¬ vs0 = (nI 32) → J mX11_keyAt d 0 0 Q 0 0 97 [some (.inr (.inr 111)), some (.inl v1), some (.inl (v2 + nI 1)), some (.inl v3)] [] h) : J mX11_keyAt d 0 0 Q 0 0 103 [some (.inr (.inr 111)), some (.inl v1), some (.inl v2), some (.inl v3)] [.inl vs0] h := by
  refine bX11_keyAt_103  (fun p1 => ?_) (fun p1 => ?_)
  · refine bX11_keyAt_114  ?_
    exact K0 p1
  · refine bX11_keyAt_108  ?_
    exact K1 p1

set_option maxRecDepth 20000 in
theorem t_X11_next {d  : Nat} {Q : Option MV → MH → Prop} {h : MH} (hr : zRf h) (K0 : J mX11_next d 0 0 Q 0 0 8 [some (.inr (.inr 111))] [] (zsI h 111 6 (h.1 111 7))) : Con mX11_next d 0 0 [.inr (.inr 111)] h Q := by
  refine Con.intro rfl (Nat.le_of_ble_eq_true rfl) ?_
  show J mX11_next d 0 0 Q 0 0 0 [some (.inr (.inr 111))] [] h
  refine bX11_next_0 hr ?_
  exact K0

set_option maxRecDepth 20000 in
theorem t_X11_next_8 {d  : Nat} {Q : Option MV → MH → Prop} {h : MH} (hr : zRf h) (hd : 1 ≤ d) (G0 : ¬ (h.1 111 8) ≤ (h.1 111 6) → vp_in (h.1 111 6) 400) (G1 : (h.1 111 8) ≤ (h.1 111 6) → ¬ (h.1 111 8) ≤ (h.1 111 6) → vp_in (h.1 111 6) 400) (G2 : (h.1 111 8) ≤ (h.1 111 6) → ((zsI h 111 7 (h.1 111 6)).1 111 6) < ((zsI h 111 7 (h.1 111 6)).1 111 8) → ¬ ((zsI h 111 7 (h.1 111 6)).1 111 8) ≤ ((zsI h 111 7 (h.1 111 6)).1 111 6) → vp_in ((zsI h 111 7 (h.1 111 6)).1 111 6) 400) (G3 : (h.1 111 8) ≤ (h.1 111 6) → ((zsI h 111 7 (h.1 111 6)).1 111 6) < ((zsI h 111 7 (h.1 111 6)).1 111 8) → ((zsI h 111 7 (h.1 111 6)).1 111 8) ≤ ((zsI h 111 7 (h.1 111 6)).1 111 6) → ¬ ((zsI h 111 7 (h.1 111 6)).1 111 8) ≤ ((zsI h 111 7 (h.1 111 6)).1 111 6) → vp_in ((zsI h 111 7 (h.1 111 6)).1 111 6) 400) (G4 : (h.1 111 8) ≤ (h.1 111 6) → ((zsI h 111 7 (h.1 111 6)).1 111 6) < ((zsI h 111 7 (h.1 111 6)).1 111 8) → ((zsI h 111 7 (h.1 111 6)).1 111 8) ≤ ((zsI h 111 7 (h.1 111 6)).1 111 6) → ¬ ((zsI (zsI h 111 7 (h.1 111 6)) 111 7 (((zsI h 111 7 (h.1 111 6)).1 111 7) + (nI 1))).1 111 8) ≤ ((zsI (zsI h 111 7 (h.1 111 6)) 111 7 (((zsI h 111 7 (h.1 111 6)).1 111 7) + (nI 1))).1 111 6) → vp_in ((zsI (zsI h 111 7 (h.1 111 6)) 111 7 (((zsI h 111 7 (h.1 111 6)).1 111 7) + (nI 1))).1 111 6) 400) (G5 : (h.1 111 8) ≤ (h.1 111 6) → ((zsI h 111 7 (h.1 111 6)).1 111 6) < ((zsI h 111 7 (h.1 111 6)).1 111 8) → ¬ ((zsI h 111 7 (h.1 111 6)).1 111 8) ≤ ((zsI h 111 7 (h.1 111 6)).1 111 6) → ((zsI h 111 7 (h.1 111 6)).1 114 ((zsI h 111 7 (h.1 111 6)).1 111 6).toNatClampNeg) < (nI 97) → ((zsI h 111 7 (h.1 111 6)).1 114 ((zsI h 111 7 (h.1 111 6)).1 111 6).toNatClampNeg) < (nI 48) → ¬ ((zsI (zsI h 111 7 (h.1 111 6)) 111 7 (((zsI h 111 7 (h.1 111 6)).1 111 7) + (nI 1))).1 111 8) ≤ ((zsI (zsI h 111 7 (h.1 111 6)) 111 7 (((zsI h 111 7 (h.1 111 6)).1 111 7) + (nI 1))).1 111 6) → vp_in ((zsI (zsI h 111 7 (h.1 111 6)) 111 7 (((zsI h 111 7 (h.1 111 6)).1 111 7) + (nI 1))).1 111 6) 400) (G6 : (h.1 111 8) ≤ (h.1 111 6) → ((zsI h 111 7 (h.1 111 6)).1 111 6) < ((zsI h 111 7 (h.1 111 6)).1 111 8) → ¬ ((zsI h 111 7 (h.1 111 6)).1 111 8) ≤ ((zsI h 111 7 (h.1 111 6)).1 111 6) → ((zsI h 111 7 (h.1 111 6)).1 114 ((zsI h 111 7 (h.1 111 6)).1 111 6).toNatClampNeg) < (nI 97) → ¬ ((zsI h 111 7 (h.1 111 6)).1 114 ((zsI h 111 7 (h.1 111 6)).1 111 6).toNatClampNeg) < (nI 48) → (nI 57) < ((zsI h 111 7 (h.1 111 6)).1 114 ((zsI h 111 7 (h.1 111 6)).1 111 6).toNatClampNeg) → ¬ ((zsI (zsI h 111 7 (h.1 111 6)) 111 7 (((zsI h 111 7 (h.1 111 6)).1 111 7) + (nI 1))).1 111 8) ≤ ((zsI (zsI h 111 7 (h.1 111 6)) 111 7 (((zsI h 111 7 (h.1 111 6)).1 111 7) + (nI 1))).1 111 6) → vp_in ((zsI (zsI h 111 7 (h.1 111 6)) 111 7 (((zsI h 111 7 (h.1 111 6)).1 111 7) + (nI 1))).1 111 6) 400) (G7 : (h.1 111 8) ≤ (h.1 111 6) → ((zsI h 111 7 (h.1 111 6)).1 111 6) < ((zsI h 111 7 (h.1 111 6)).1 111 8) → ¬ ((zsI h 111 7 (h.1 111 6)).1 111 8) ≤ ((zsI h 111 7 (h.1 111 6)).1 111 6) → ¬ ((zsI h 111 7 (h.1 111 6)).1 114 ((zsI h 111 7 (h.1 111 6)).1 111 6).toNatClampNeg) < (nI 97) → (nI 122) < ((zsI h 111 7 (h.1 111 6)).1 114 ((zsI h 111 7 (h.1 111 6)).1 111 6).toNatClampNeg) → ((zsI h 111 7 (h.1 111 6)).1 114 ((zsI h 111 7 (h.1 111 6)).1 111 6).toNatClampNeg) < (nI 48) → ¬ ((zsI (zsI h 111 7 (h.1 111 6)) 111 7 (((zsI h 111 7 (h.1 111 6)).1 111 7) + (nI 1))).1 111 8) ≤ ((zsI (zsI h 111 7 (h.1 111 6)) 111 7 (((zsI h 111 7 (h.1 111 6)).1 111 7) + (nI 1))).1 111 6) → vp_in ((zsI (zsI h 111 7 (h.1 111 6)) 111 7 (((zsI h 111 7 (h.1 111 6)).1 111 7) + (nI 1))).1 111 6) 400) (G8 : (h.1 111 8) ≤ (h.1 111 6) → ((zsI h 111 7 (h.1 111 6)).1 111 6) < ((zsI h 111 7 (h.1 111 6)).1 111 8) → ¬ ((zsI h 111 7 (h.1 111 6)).1 111 8) ≤ ((zsI h 111 7 (h.1 111 6)).1 111 6) → ¬ ((zsI h 111 7 (h.1 111 6)).1 114 ((zsI h 111 7 (h.1 111 6)).1 111 6).toNatClampNeg) < (nI 97) → (nI 122) < ((zsI h 111 7 (h.1 111 6)).1 114 ((zsI h 111 7 (h.1 111 6)).1 111 6).toNatClampNeg) → ¬ ((zsI h 111 7 (h.1 111 6)).1 114 ((zsI h 111 7 (h.1 111 6)).1 111 6).toNatClampNeg) < (nI 48) → (nI 57) < ((zsI h 111 7 (h.1 111 6)).1 114 ((zsI h 111 7 (h.1 111 6)).1 111 6).toNatClampNeg) → ¬ ((zsI (zsI h 111 7 (h.1 111 6)) 111 7 (((zsI h 111 7 (h.1 111 6)).1 111 7) + (nI 1))).1 111 8) ≤ ((zsI (zsI h 111 7 (h.1 111 6)) 111 7 (((zsI h 111 7 (h.1 111 6)).1 111 7) + (nI 1))).1 111 6) → vp_in ((zsI (zsI h 111 7 (h.1 111 6)) 111 7 (((zsI h 111 7 (h.1 111 6)).1 111 7) + (nI 1))).1 111 6) 400) (G9 : ¬ (h.1 111 8) ≤ (h.1 111 6) → ¬ (h.1 114 (h.1 111 6).toNatClampNeg) = (nI 10) → ¬ (h.1 114 (h.1 111 6).toNatClampNeg) = (nI 32) → ((zsI h 111 7 (h.1 111 6)).1 111 6) < ((zsI h 111 7 (h.1 111 6)).1 111 8) → ¬ ((zsI h 111 7 (h.1 111 6)).1 111 8) ≤ ((zsI h 111 7 (h.1 111 6)).1 111 6) → vp_in ((zsI h 111 7 (h.1 111 6)).1 111 6) 400) (G10 : ¬ (h.1 111 8) ≤ (h.1 111 6) → ¬ (h.1 114 (h.1 111 6).toNatClampNeg) = (nI 10) → ¬ (h.1 114 (h.1 111 6).toNatClampNeg) = (nI 32) → ((zsI h 111 7 (h.1 111 6)).1 111 6) < ((zsI h 111 7 (h.1 111 6)).1 111 8) → ((zsI h 111 7 (h.1 111 6)).1 111 8) ≤ ((zsI h 111 7 (h.1 111 6)).1 111 6) → ¬ ((zsI h 111 7 (h.1 111 6)).1 111 8) ≤ ((zsI h 111 7 (h.1 111 6)).1 111 6) → vp_in ((zsI h 111 7 (h.1 111 6)).1 111 6) 400) (G11 : ¬ (h.1 111 8) ≤ (h.1 111 6) → ¬ (h.1 114 (h.1 111 6).toNatClampNeg) = (nI 10) → ¬ (h.1 114 (h.1 111 6).toNatClampNeg) = (nI 32) → ((zsI h 111 7 (h.1 111 6)).1 111 6) < ((zsI h 111 7 (h.1 111 6)).1 111 8) → ((zsI h 111 7 (h.1 111 6)).1 111 8) ≤ ((zsI h 111 7 (h.1 111 6)).1 111 6) → ¬ ((zsI (zsI h 111 7 (h.1 111 6)) 111 7 (((zsI h 111 7 (h.1 111 6)).1 111 7) + (nI 1))).1 111 8) ≤ ((zsI (zsI h 111 7 (h.1 111 6)) 111 7 (((zsI h 111 7 (h.1 111 6)).1 111 7) + (nI 1))).1 111 6) → vp_in ((zsI (zsI h 111 7 (h.1 111 6)) 111 7 (((zsI h 111 7 (h.1 111 6)).1 111 7) + (nI 1))).1 111 6) 400) (G12 : ¬ (h.1 111 8) ≤ (h.1 111 6) → ¬ (h.1 114 (h.1 111 6).toNatClampNeg) = (nI 10) → ¬ (h.1 114 (h.1 111 6).toNatClampNeg) = (nI 32) → ((zsI h 111 7 (h.1 111 6)).1 111 6) < ((zsI h 111 7 (h.1 111 6)).1 111 8) → ¬ ((zsI h 111 7 (h.1 111 6)).1 111 8) ≤ ((zsI h 111 7 (h.1 111 6)).1 111 6) → ((zsI h 111 7 (h.1 111 6)).1 114 ((zsI h 111 7 (h.1 111 6)).1 111 6).toNatClampNeg) < (nI 97) → ((zsI h 111 7 (h.1 111 6)).1 114 ((zsI h 111 7 (h.1 111 6)).1 111 6).toNatClampNeg) < (nI 48) → ¬ ((zsI (zsI h 111 7 (h.1 111 6)) 111 7 (((zsI h 111 7 (h.1 111 6)).1 111 7) + (nI 1))).1 111 8) ≤ ((zsI (zsI h 111 7 (h.1 111 6)) 111 7 (((zsI h 111 7 (h.1 111 6)).1 111 7) + (nI 1))).1 111 6) → vp_in ((zsI (zsI h 111 7 (h.1 111 6)) 111 7 (((zsI h 111 7 (h.1 111 6)).1 111 7) + (nI 1))).1 111 6) 400) (G13 : ¬ (h.1 111 8) ≤ (h.1 111 6) → ¬ (h.1 114 (h.1 111 6).toNatClampNeg) = (nI 10) → ¬ (h.1 114 (h.1 111 6).toNatClampNeg) = (nI 32) → ((zsI h 111 7 (h.1 111 6)).1 111 6) < ((zsI h 111 7 (h.1 111 6)).1 111 8) → ¬ ((zsI h 111 7 (h.1 111 6)).1 111 8) ≤ ((zsI h 111 7 (h.1 111 6)).1 111 6) → ((zsI h 111 7 (h.1 111 6)).1 114 ((zsI h 111 7 (h.1 111 6)).1 111 6).toNatClampNeg) < (nI 97) → ¬ ((zsI h 111 7 (h.1 111 6)).1 114 ((zsI h 111 7 (h.1 111 6)).1 111 6).toNatClampNeg) < (nI 48) → (nI 57) < ((zsI h 111 7 (h.1 111 6)).1 114 ((zsI h 111 7 (h.1 111 6)).1 111 6).toNatClampNeg) → ¬ ((zsI (zsI h 111 7 (h.1 111 6)) 111 7 (((zsI h 111 7 (h.1 111 6)).1 111 7) + (nI 1))).1 111 8) ≤ ((zsI (zsI h 111 7 (h.1 111 6)) 111 7 (((zsI h 111 7 (h.1 111 6)).1 111 7) + (nI 1))).1 111 6) → vp_in ((zsI (zsI h 111 7 (h.1 111 6)) 111 7 (((zsI h 111 7 (h.1 111 6)).1 111 7) + (nI 1))).1 111 6) 400) (G14 : ¬ (h.1 111 8) ≤ (h.1 111 6) → ¬ (h.1 114 (h.1 111 6).toNatClampNeg) = (nI 10) → ¬ (h.1 114 (h.1 111 6).toNatClampNeg) = (nI 32) → ((zsI h 111 7 (h.1 111 6)).1 111 6) < ((zsI h 111 7 (h.1 111 6)).1 111 8) → ¬ ((zsI h 111 7 (h.1 111 6)).1 111 8) ≤ ((zsI h 111 7 (h.1 111 6)).1 111 6) → ¬ ((zsI h 111 7 (h.1 111 6)).1 114 ((zsI h 111 7 (h.1 111 6)).1 111 6).toNatClampNeg) < (nI 97) → (nI 122) < ((zsI h 111 7 (h.1 111 6)).1 114 ((zsI h 111 7 (h.1 111 6)).1 111 6).toNatClampNeg) → ((zsI h 111 7 (h.1 111 6)).1 114 ((zsI h 111 7 (h.1 111 6)).1 111 6).toNatClampNeg) < (nI 48) → ¬ ((zsI (zsI h 111 7 (h.1 111 6)) 111 7 (((zsI h 111 7 (h.1 111 6)).1 111 7) + (nI 1))).1 111 8) ≤ ((zsI (zsI h 111 7 (h.1 111 6)) 111 7 (((zsI h 111 7 (h.1 111 6)).1 111 7) + (nI 1))).1 111 6) → vp_in ((zsI (zsI h 111 7 (h.1 111 6)) 111 7 (((zsI h 111 7 (h.1 111 6)).1 111 7) + (nI 1))).1 111 6) 400) (G15 : ¬ (h.1 111 8) ≤ (h.1 111 6) → ¬ (h.1 114 (h.1 111 6).toNatClampNeg) = (nI 10) → ¬ (h.1 114 (h.1 111 6).toNatClampNeg) = (nI 32) → ((zsI h 111 7 (h.1 111 6)).1 111 6) < ((zsI h 111 7 (h.1 111 6)).1 111 8) → ¬ ((zsI h 111 7 (h.1 111 6)).1 111 8) ≤ ((zsI h 111 7 (h.1 111 6)).1 111 6) → ¬ ((zsI h 111 7 (h.1 111 6)).1 114 ((zsI h 111 7 (h.1 111 6)).1 111 6).toNatClampNeg) < (nI 97) → (nI 122) < ((zsI h 111 7 (h.1 111 6)).1 114 ((zsI h 111 7 (h.1 111 6)).1 111 6).toNatClampNeg) → ¬ ((zsI h 111 7 (h.1 111 6)).1 114 ((zsI h 111 7 (h.1 111 6)).1 111 6).toNatClampNeg) < (nI 48) → (nI 57) < ((zsI h 111 7 (h.1 111 6)).1 114 ((zsI h 111 7 (h.1 111 6)).1 111 6).toNatClampNeg) → ¬ ((zsI (zsI h 111 7 (h.1 111 6)) 111 7 (((zsI h 111 7 (h.1 111 6)).1 111 7) + (nI 1))).1 111 8) ≤ ((zsI (zsI h 111 7 (h.1 111 6)) 111 7 (((zsI h 111 7 (h.1 111 6)).1 111 7) + (nI 1))).1 111 6) → vp_in ((zsI (zsI h 111 7 (h.1 111 6)) 111 7 (((zsI h 111 7 (h.1 111 6)).1 111 7) + (nI 1))).1 111 6) 400) (K0 : (h.1 111 8) ≤ (h.1 111 6) → ((zsI h 111 7 (h.1 111 6)).1 111 6) < ((zsI h 111 7 (h.1 111 6)).1 111 8) → ((zsI h 111 7 (h.1 111 6)).1 111 8) ≤ ((zsI h 111 7 (h.1 111 6)).1 111 6) → ((zsI (zsI h 111 7 (h.1 111 6)) 111 7 (((zsI h 111 7 (h.1 111 6)).1 111 7) + (nI 1))).1 111 8) ≤ ((zsI (zsI h 111 7 (h.1 111 6)) 111 7 (((zsI h 111 7 (h.1 111 6)).1 111 7) + (nI 1))).1 111 6) → Q none (zsI (zsI (zsI h 111 7 (h.1 111 6)) 111 7 (((zsI h 111 7 (h.1 111 6)).1 111 7) + (nI 1))) 111 9 (nI 15))) (K1 : (h.1 111 8) ≤ (h.1 111 6) → ((zsI h 111 7 (h.1 111 6)).1 111 6) < ((zsI h 111 7 (h.1 111 6)).1 111 8) → ((zsI h 111 7 (h.1 111 6)).1 111 8) ≤ ((zsI h 111 7 (h.1 111 6)).1 111 6) → ¬ ((zsI (zsI h 111 7 (h.1 111 6)) 111 7 (((zsI h 111 7 (h.1 111 6)).1 111 7) + (nI 1))).1 111 8) ≤ ((zsI (zsI h 111 7 (h.1 111 6)) 111 7 (((zsI h 111 7 (h.1 111 6)).1 111 7) + (nI 1))).1 111 6) → ¬ ((zsI (zsI h 111 7 (h.1 111 6)) 111 7 (((zsI h 111 7 (h.1 111 6)).1 111 7) + (nI 1))).1 114 ((zsI (zsI h 111 7 (h.1 111 6)) 111 7 (((zsI h 111 7 (h.1 111 6)).1 111 7) + (nI 1))).1 111 6).toNatClampNeg) = (nI 59) → Q none (zsI (zsI (zsI h 111 7 (h.1 111 6)) 111 7 (((zsI h 111 7 (h.1 111 6)).1 111 7) + (nI 1))) 111 9 (nI 15))) (K2 : (h.1 111 8) ≤ (h.1 111 6) → ((zsI h 111 7 (h.1 111 6)).1 111 6) < ((zsI h 111 7 (h.1 111 6)).1 111 8) → ((zsI h 111 7 (h.1 111 6)).1 111 8) ≤ ((zsI h 111 7 (h.1 111 6)).1 111 6) → ¬ ((zsI (zsI h 111 7 (h.1 111 6)) 111 7 (((zsI h 111 7 (h.1 111 6)).1 111 7) + (nI 1))).1 111 8) ≤ ((zsI (zsI h 111 7 (h.1 111 6)) 111 7 (((zsI h 111 7 (h.1 111 6)).1 111 7) + (nI 1))).1 111 6) → ((zsI (zsI h 111 7 (h.1 111 6)) 111 7 (((zsI h 111 7 (h.1 111 6)).1 111 7) + (nI 1))).1 114 ((zsI (zsI h 111 7 (h.1 111 6)) 111 7 (((zsI h 111 7 (h.1 111 6)).1 111 7) + (nI 1))).1 111 6).toNatClampNeg) = (nI 59) → Q none (zsI (zsI (zsI h 111 7 (h.1 111 6)) 111 7 (((zsI h 111 7 (h.1 111 6)).1 111 7) + (nI 1))) 111 9 (nI 13))) (K3 : (h.1 111 8) ≤ (h.1 111 6) → ((zsI h 111 7 (h.1 111 6)).1 111 6) < ((zsI h 111 7 (h.1 111 6)).1 111 8) → ¬ ((zsI h 111 7 (h.1 111 6)).1 111 8) ≤ ((zsI h 111 7 (h.1 111 6)).1 111 6) → ((zsI h 111 7 (h.1 111 6)).1 114 ((zsI h 111 7 (h.1 111 6)).1 111 6).toNatClampNeg) < (nI 97) → ((zsI h 111 7 (h.1 111 6)).1 114 ((zsI h 111 7 (h.1 111 6)).1 111 6).toNatClampNeg) < (nI 48) → ((zsI (zsI h 111 7 (h.1 111 6)) 111 7 (((zsI h 111 7 (h.1 111 6)).1 111 7) + (nI 1))).1 111 8) ≤ ((zsI (zsI h 111 7 (h.1 111 6)) 111 7 (((zsI h 111 7 (h.1 111 6)).1 111 7) + (nI 1))).1 111 6) → Q none (zsI (zsI (zsI h 111 7 (h.1 111 6)) 111 7 (((zsI h 111 7 (h.1 111 6)).1 111 7) + (nI 1))) 111 9 (nI 15))) (K4 : (h.1 111 8) ≤ (h.1 111 6) → ((zsI h 111 7 (h.1 111 6)).1 111 6) < ((zsI h 111 7 (h.1 111 6)).1 111 8) → ¬ ((zsI h 111 7 (h.1 111 6)).1 111 8) ≤ ((zsI h 111 7 (h.1 111 6)).1 111 6) → ((zsI h 111 7 (h.1 111 6)).1 114 ((zsI h 111 7 (h.1 111 6)).1 111 6).toNatClampNeg) < (nI 97) → ((zsI h 111 7 (h.1 111 6)).1 114 ((zsI h 111 7 (h.1 111 6)).1 111 6).toNatClampNeg) < (nI 48) → ¬ ((zsI (zsI h 111 7 (h.1 111 6)) 111 7 (((zsI h 111 7 (h.1 111 6)).1 111 7) + (nI 1))).1 111 8) ≤ ((zsI (zsI h 111 7 (h.1 111 6)) 111 7 (((zsI h 111 7 (h.1 111 6)).1 111 7) + (nI 1))).1 111 6) → ¬ ((zsI (zsI h 111 7 (h.1 111 6)) 111 7 (((zsI h 111 7 (h.1 111 6)).1 111 7) + (nI 1))).1 114 ((zsI (zsI h 111 7 (h.1 111 6)) 111 7 (((zsI h 111 7 (h.1 111 6)).1 111 7) + (nI 1))).1 111 6).toNatClampNeg) = (nI 59) → Q none (zsI (zsI (zsI h 111 7 (h.1 111 6)) 111 7 (((zsI h 111 7 (h.1 111 6)).1 111 7) + (nI 1))) 111 9 (nI 15))) (K5 : (h.1 111 8) ≤ (h.1 111 6) → ((zsI h 111 7 (h.1 111 6)).1 111 6) < ((zsI h 111 7 (h.1 111 6)).1 111 8) → ¬ ((zsI h 111 7 (h.1 111 6)).1 111 8) ≤ ((zsI h 111 7 (h.1 111 6)).1 111 6) → ((zsI h 111 7 (h.1 111 6)).1 114 ((zsI h 111 7 (h.1 111 6)).1 111 6).toNatClampNeg) < (nI 97) → ((zsI h 111 7 (h.1 111 6)).1 114 ((zsI h 111 7 (h.1 111 6)).1 111 6).toNatClampNeg) < (nI 48) → ¬ ((zsI (zsI h 111 7 (h.1 111 6)) 111 7 (((zsI h 111 7 (h.1 111 6)).1 111 7) + (nI 1))).1 111 8) ≤ ((zsI (zsI h 111 7 (h.1 111 6)) 111 7 (((zsI h 111 7 (h.1 111 6)).1 111 7) + (nI 1))).1 111 6) → ((zsI (zsI h 111 7 (h.1 111 6)) 111 7 (((zsI h 111 7 (h.1 111 6)).1 111 7) + (nI 1))).1 114 ((zsI (zsI h 111 7 (h.1 111 6)) 111 7 (((zsI h 111 7 (h.1 111 6)).1 111 7) + (nI 1))).1 111 6).toNatClampNeg) = (nI 59) → Q none (zsI (zsI (zsI h 111 7 (h.1 111 6)) 111 7 (((zsI h 111 7 (h.1 111 6)).1 111 7) + (nI 1))) 111 9 (nI 13))) (K6 : (h.1 111 8) ≤ (h.1 111 6) → ((zsI h 111 7 (h.1 111 6)).1 111 6) < ((zsI h 111 7 (h.1 111 6)).1 111 8) → ¬ ((zsI h 111 7 (h.1 111 6)).1 111 8) ≤ ((zsI h 111 7 (h.1 111 6)).1 111 6) → ((zsI h 111 7 (h.1 111 6)).1 114 ((zsI h 111 7 (h.1 111 6)).1 111 6).toNatClampNeg) < (nI 97) → ¬ ((zsI h 111 7 (h.1 111 6)).1 114 ((zsI h 111 7 (h.1 111 6)).1 111 6).toNatClampNeg) < (nI 48) → (nI 57) < ((zsI h 111 7 (h.1 111 6)).1 114 ((zsI h 111 7 (h.1 111 6)).1 111 6).toNatClampNeg) → ((zsI (zsI h 111 7 (h.1 111 6)) 111 7 (((zsI h 111 7 (h.1 111 6)).1 111 7) + (nI 1))).1 111 8) ≤ ((zsI (zsI h 111 7 (h.1 111 6)) 111 7 (((zsI h 111 7 (h.1 111 6)).1 111 7) + (nI 1))).1 111 6) → Q none (zsI (zsI (zsI h 111 7 (h.1 111 6)) 111 7 (((zsI h 111 7 (h.1 111 6)).1 111 7) + (nI 1))) 111 9 (nI 15))) (K7 : (h.1 111 8) ≤ (h.1 111 6) → ((zsI h 111 7 (h.1 111 6)).1 111 6) < ((zsI h 111 7 (h.1 111 6)).1 111 8) → ¬ ((zsI h 111 7 (h.1 111 6)).1 111 8) ≤ ((zsI h 111 7 (h.1 111 6)).1 111 6) → ((zsI h 111 7 (h.1 111 6)).1 114 ((zsI h 111 7 (h.1 111 6)).1 111 6).toNatClampNeg) < (nI 97) → ¬ ((zsI h 111 7 (h.1 111 6)).1 114 ((zsI h 111 7 (h.1 111 6)).1 111 6).toNatClampNeg) < (nI 48) → (nI 57) < ((zsI h 111 7 (h.1 111 6)).1 114 ((zsI h 111 7 (h.1 111 6)).1 111 6).toNatClampNeg) → ¬ ((zsI (zsI h 111 7 (h.1 111 6)) 111 7 (((zsI h 111 7 (h.1 111 6)).1 111 7) + (nI 1))).1 111 8) ≤ ((zsI (zsI h 111 7 (h.1 111 6)) 111 7 (((zsI h 111 7 (h.1 111 6)).1 111 7) + (nI 1))).1 111 6) → ¬ ((zsI (zsI h 111 7 (h.1 111 6)) 111 7 (((zsI h 111 7 (h.1 111 6)).1 111 7) + (nI 1))).1 114 ((zsI (zsI h 111 7 (h.1 111 6)) 111 7 (((zsI h 111 7 (h.1 111 6)).1 111 7) + (nI 1))).1 111 6).toNatClampNeg) = (nI 59) → Q none (zsI (zsI (zsI h 111 7 (h.1 111 6)) 111 7 (((zsI h 111 7 (h.1 111 6)).1 111 7) + (nI 1))) 111 9 (nI 15))) (K8 : (h.1 111 8) ≤ (h.1 111 6) → ((zsI h 111 7 (h.1 111 6)).1 111 6) < ((zsI h 111 7 (h.1 111 6)).1 111 8) → ¬ ((zsI h 111 7 (h.1 111 6)).1 111 8) ≤ ((zsI h 111 7 (h.1 111 6)).1 111 6) → ((zsI h 111 7 (h.1 111 6)).1 114 ((zsI h 111 7 (h.1 111 6)).1 111 6).toNatClampNeg) < (nI 97) → ¬ ((zsI h 111 7 (h.1 111 6)).1 114 ((zsI h 111 7 (h.1 111 6)).1 111 6).toNatClampNeg) < (nI 48) → (nI 57) < ((zsI h 111 7 (h.1 111 6)).1 114 ((zsI h 111 7 (h.1 111 6)).1 111 6).toNatClampNeg) → ¬ ((zsI (zsI h 111 7 (h.1 111 6)) 111 7 (((zsI h 111 7 (h.1 111 6)).1 111 7) + (nI 1))).1 111 8) ≤ ((zsI (zsI h 111 7 (h.1 111 6)) 111 7 (((zsI h 111 7 (h.1 111 6)).1 111 7) + (nI 1))).1 111 6) → ((zsI (zsI h 111 7 (h.1 111 6)) 111 7 (((zsI h 111 7 (h.1 111 6)).1 111 7) + (nI 1))).1 114 ((zsI (zsI h 111 7 (h.1 111 6)) 111 7 (((zsI h 111 7 (h.1 111 6)).1 111 7) + (nI 1))).1 111 6).toNatClampNeg) = (nI 59) → Q none (zsI (zsI (zsI h 111 7 (h.1 111 6)) 111 7 (((zsI h 111 7 (h.1 111 6)).1 111 7) + (nI 1))) 111 9 (nI 13))) (K9 : (h.1 111 8) ≤ (h.1 111 6) → ((zsI h 111 7 (h.1 111 6)).1 111 6) < ((zsI h 111 7 (h.1 111 6)).1 111 8) → ¬ ((zsI h 111 7 (h.1 111 6)).1 111 8) ≤ ((zsI h 111 7 (h.1 111 6)).1 111 6) → ((zsI h 111 7 (h.1 111 6)).1 114 ((zsI h 111 7 (h.1 111 6)).1 111 6).toNatClampNeg) < (nI 97) → ¬ ((zsI h 111 7 (h.1 111 6)).1 114 ((zsI h 111 7 (h.1 111 6)).1 111 6).toNatClampNeg) < (nI 48) → ¬ (nI 57) < ((zsI h 111 7 (h.1 111 6)).1 114 ((zsI h 111 7 (h.1 111 6)).1 111 6).toNatClampNeg) → J mX11_next d 0 0 Q 0 0 146 [some (.inr (.inr 111))] [] (zsI (zsI h 111 7 (h.1 111 6)) 111 10 (nI 0))) (K10 : (h.1 111 8) ≤ (h.1 111 6) → ((zsI h 111 7 (h.1 111 6)).1 111 6) < ((zsI h 111 7 (h.1 111 6)).1 111 8) → ¬ ((zsI h 111 7 (h.1 111 6)).1 111 8) ≤ ((zsI h 111 7 (h.1 111 6)).1 111 6) → ¬ ((zsI h 111 7 (h.1 111 6)).1 114 ((zsI h 111 7 (h.1 111 6)).1 111 6).toNatClampNeg) < (nI 97) → (nI 122) < ((zsI h 111 7 (h.1 111 6)).1 114 ((zsI h 111 7 (h.1 111 6)).1 111 6).toNatClampNeg) → ((zsI h 111 7 (h.1 111 6)).1 114 ((zsI h 111 7 (h.1 111 6)).1 111 6).toNatClampNeg) < (nI 48) → ((zsI (zsI h 111 7 (h.1 111 6)) 111 7 (((zsI h 111 7 (h.1 111 6)).1 111 7) + (nI 1))).1 111 8) ≤ ((zsI (zsI h 111 7 (h.1 111 6)) 111 7 (((zsI h 111 7 (h.1 111 6)).1 111 7) + (nI 1))).1 111 6) → Q none (zsI (zsI (zsI h 111 7 (h.1 111 6)) 111 7 (((zsI h 111 7 (h.1 111 6)).1 111 7) + (nI 1))) 111 9 (nI 15))) (K11 : (h.1 111 8) ≤ (h.1 111 6) → ((zsI h 111 7 (h.1 111 6)).1 111 6) < ((zsI h 111 7 (h.1 111 6)).1 111 8) → ¬ ((zsI h 111 7 (h.1 111 6)).1 111 8) ≤ ((zsI h 111 7 (h.1 111 6)).1 111 6) → ¬ ((zsI h 111 7 (h.1 111 6)).1 114 ((zsI h 111 7 (h.1 111 6)).1 111 6).toNatClampNeg) < (nI 97) → (nI 122) < ((zsI h 111 7 (h.1 111 6)).1 114 ((zsI h 111 7 (h.1 111 6)).1 111 6).toNatClampNeg) → ((zsI h 111 7 (h.1 111 6)).1 114 ((zsI h 111 7 (h.1 111 6)).1 111 6).toNatClampNeg) < (nI 48) → ¬ ((zsI (zsI h 111 7 (h.1 111 6)) 111 7 (((zsI h 111 7 (h.1 111 6)).1 111 7) + (nI 1))).1 111 8) ≤ ((zsI (zsI h 111 7 (h.1 111 6)) 111 7 (((zsI h 111 7 (h.1 111 6)).1 111 7) + (nI 1))).1 111 6) → ¬ ((zsI (zsI h 111 7 (h.1 111 6)) 111 7 (((zsI h 111 7 (h.1 111 6)).1 111 7) + (nI 1))).1 114 ((zsI (zsI h 111 7 (h.1 111 6)) 111 7 (((zsI h 111 7 (h.1 111 6)).1 111 7) + (nI 1))).1 111 6).toNatClampNeg) = (nI 59) → Q none (zsI (zsI (zsI h 111 7 (h.1 111 6)) 111 7 (((zsI h 111 7 (h.1 111 6)).1 111 7) + (nI 1))) 111 9 (nI 15))) (K12 : (h.1 111 8) ≤ (h.1 111 6) → ((zsI h 111 7 (h.1 111 6)).1 111 6) < ((zsI h 111 7 (h.1 111 6)).1 111 8) → ¬ ((zsI h 111 7 (h.1 111 6)).1 111 8) ≤ ((zsI h 111 7 (h.1 111 6)).1 111 6) → ¬ ((zsI h 111 7 (h.1 111 6)).1 114 ((zsI h 111 7 (h.1 111 6)).1 111 6).toNatClampNeg) < (nI 97) → (nI 122) < ((zsI h 111 7 (h.1 111 6)).1 114 ((zsI h 111 7 (h.1 111 6)).1 111 6).toNatClampNeg) → ((zsI h 111 7 (h.1 111 6)).1 114 ((zsI h 111 7 (h.1 111 6)).1 111 6).toNatClampNeg) < (nI 48) → ¬ ((zsI (zsI h 111 7 (h.1 111 6)) 111 7 (((zsI h 111 7 (h.1 111 6)).1 111 7) + (nI 1))).1 111 8) ≤ ((zsI (zsI h 111 7 (h.1 111 6)) 111 7 (((zsI h 111 7 (h.1 111 6)).1 111 7) + (nI 1))).1 111 6) → ((zsI (zsI h 111 7 (h.1 111 6)) 111 7 (((zsI h 111 7 (h.1 111 6)).1 111 7) + (nI 1))).1 114 ((zsI (zsI h 111 7 (h.1 111 6)) 111 7 (((zsI h 111 7 (h.1 111 6)).1 111 7) + (nI 1))).1 111 6).toNatClampNeg) = (nI 59) → Q none (zsI (zsI (zsI h 111 7 (h.1 111 6)) 111 7 (((zsI h 111 7 (h.1 111 6)).1 111 7) + (nI 1))) 111 9 (nI 13))) (K13 : (h.1 111 8) ≤ (h.1 111 6) → ((zsI h 111 7 (h.1 111 6)).1 111 6) < ((zsI h 111 7 (h.1 111 6)).1 111 8) → ¬ ((zsI h 111 7 (h.1 111 6)).1 111 8) ≤ ((zsI h 111 7 (h.1 111 6)).1 111 6) → ¬ ((zsI h 111 7 (h.1 111 6)).1 114 ((zsI h 111 7 (h.1 111 6)).1 111 6).toNatClampNeg) < (nI 97) → (nI 122) < ((zsI h 111 7 (h.1 111 6)).1 114 ((zsI h 111 7 (h.1 111 6)).1 111 6).toNatClampNeg) → ¬ ((zsI h 111 7 (h.1 111 6)).1 114 ((zsI h 111 7 (h.1 111 6)).1 111 6).toNatClampNeg) < (nI 48) → (nI 57) < ((zsI h 111 7 (h.1 111 6)).1 114 ((zsI h 111 7 (h.1 111 6)).1 111 6).toNatClampNeg) → ((zsI (zsI h 111 7 (h.1 111 6)) 111 7 (((zsI h 111 7 (h.1 111 6)).1 111 7) + (nI 1))).1 111 8) ≤ ((zsI (zsI h 111 7 (h.1 111 6)) 111 7 (((zsI h 111 7 (h.1 111 6)).1 111 7) + (nI 1))).1 111 6) → Q none (zsI (zsI (zsI h 111 7 (h.1 111 6)) 111 7 (((zsI h 111 7 (h.1 111 6)).1 111 7) + (nI 1))) 111 9 (nI 15))) (K14 : (h.1 111 8) ≤ (h.1 111 6) → ((zsI h 111 7 (h.1 111 6)).1 111 6) < ((zsI h 111 7 (h.1 111 6)).1 111 8) → ¬ ((zsI h 111 7 (h.1 111 6)).1 111 8) ≤ ((zsI h 111 7 (h.1 111 6)).1 111 6) → ¬ ((zsI h 111 7 (h.1 111 6)).1 114 ((zsI h 111 7 (h.1 111 6)).1 111 6).toNatClampNeg) < (nI 97) → (nI 122) < ((zsI h 111 7 (h.1 111 6)).1 114 ((zsI h 111 7 (h.1 111 6)).1 111 6).toNatClampNeg) → ¬ ((zsI h 111 7 (h.1 111 6)).1 114 ((zsI h 111 7 (h.1 111 6)).1 111 6).toNatClampNeg) < (nI 48) → (nI 57) < ((zsI h 111 7 (h.1 111 6)).1 114 ((zsI h 111 7 (h.1 111 6)).1 111 6).toNatClampNeg) → ¬ ((zsI (zsI h 111 7 (h.1 111 6)) 111 7 (((zsI h 111 7 (h.1 111 6)).1 111 7) + (nI 1))).1 111 8) ≤ ((zsI (zsI h 111 7 (h.1 111 6)) 111 7 (((zsI h 111 7 (h.1 111 6)).1 111 7) + (nI 1))).1 111 6) → ¬ ((zsI (zsI h 111 7 (h.1 111 6)) 111 7 (((zsI h 111 7 (h.1 111 6)).1 111 7) + (nI 1))).1 114 ((zsI (zsI h 111 7 (h.1 111 6)) 111 7 (((zsI h 111 7 (h.1 111 6)).1 111 7) + (nI 1))).1 111 6).toNatClampNeg) = (nI 59) → Q none (zsI (zsI (zsI h 111 7 (h.1 111 6)) 111 7 (((zsI h 111 7 (h.1 111 6)).1 111 7) + (nI 1))) 111 9 (nI 15))) (K15 : (h.1 111 8) ≤ (h.1 111 6) → ((zsI h 111 7 (h.1 111 6)).1 111 6) < ((zsI h 111 7 (h.1 111 6)).1 111 8) → ¬ ((zsI h 111 7 (h.1 111 6)).1 111 8) ≤ ((zsI h 111 7 (h.1 111 6)).1 111 6) → ¬ ((zsI h 111 7 (h.1 111 6)).1 114 ((zsI h 111 7 (h.1 111 6)).1 111 6).toNatClampNeg) < (nI 97) → (nI 122) < ((zsI h 111 7 (h.1 111 6)).1 114 ((zsI h 111 7 (h.1 111 6)).1 111 6).toNatClampNeg) → ¬ ((zsI h 111 7 (h.1 111 6)).1 114 ((zsI h 111 7 (h.1 111 6)).1 111 6).toNatClampNeg) < (nI 48) → (nI 57) < ((zsI h 111 7 (h.1 111 6)).1 114 ((zsI h 111 7 (h.1 111 6)).1 111 6).toNatClampNeg) → ¬ ((zsI (zsI h 111 7 (h.1 111 6)) 111 7 (((zsI h 111 7 (h.1 111 6)).1 111 7) + (nI 1))).1 111 8) ≤ ((zsI (zsI h 111 7 (h.1 111 6)) 111 7 (((zsI h 111 7 (h.1 111 6)).1 111 7) + (nI 1))).1 111 6) → ((zsI (zsI h 111 7 (h.1 111 6)) 111 7 (((zsI h 111 7 (h.1 111 6)).1 111 7) + (nI 1))).1 114 ((zsI (zsI h 111 7 (h.1 111 6)) 111 7 (((zsI h 111 7 (h.1 111 6)).1 111 7) + (nI 1))).1 111 6).toNatClampNeg) = (nI 59) → Q none (zsI (zsI (zsI h 111 7 (h.1 111 6)) 111 7 (((zsI h 111 7 (h.1 111 6)).1 111 7) + (nI 1))) 111 9 (nI 13))) (K16 : (h.1 111 8) ≤ (h.1 111 6) → ((zsI h 111 7 (h.1 111 6)).1 111 6) < ((zsI h 111 7 (h.1 111 6)).1 111 8) → ¬ ((zsI h 111 7 (h.1 111 6)).1 111 8) ≤ ((zsI h 111 7 (h.1 111 6)).1 111 6) → ¬ ((zsI h 111 7 (h.1 111 6)).1 114 ((zsI h 111 7 (h.1 111 6)).1 111 6).toNatClampNeg) < (nI 97) → (nI 122) < ((zsI h 111 7 (h.1 111 6)).1 114 ((zsI h 111 7 (h.1 111 6)).1 111 6).toNatClampNeg) → ¬ ((zsI h 111 7 (h.1 111 6)).1 114 ((zsI h 111 7 (h.1 111 6)).1 111 6).toNatClampNeg) < (nI 48) → ¬ (nI 57) < ((zsI h 111 7 (h.1 111 6)).1 114 ((zsI h 111 7 (h.1 111 6)).1 111 6).toNatClampNeg) → J mX11_next d 0 0 Q 0 0 146 [some (.inr (.inr 111))] [] (zsI (zsI h 111 7 (h.1 111 6)) 111 10 (nI 0))) (K17 : (h.1 111 8) ≤ (h.1 111 6) → ((zsI h 111 7 (h.1 111 6)).1 111 6) < ((zsI h 111 7 (h.1 111 6)).1 111 8) → ¬ ((zsI h 111 7 (h.1 111 6)).1 111 8) ≤ ((zsI h 111 7 (h.1 111 6)).1 111 6) → ¬ ((zsI h 111 7 (h.1 111 6)).1 114 ((zsI h 111 7 (h.1 111 6)).1 111 6).toNatClampNeg) < (nI 97) → ¬ (nI 122) < ((zsI h 111 7 (h.1 111 6)).1 114 ((zsI h 111 7 (h.1 111 6)).1 111 6).toNatClampNeg) → J mX11_next d 0 0 Q 0 0 89 [some (.inr (.inr 111))] [] (zsI h 111 7 (h.1 111 6))) (K18 : (h.1 111 8) ≤ (h.1 111 6) → ¬ ((zsI h 111 7 (h.1 111 6)).1 111 6) < ((zsI h 111 7 (h.1 111 6)).1 111 8) → Q none (zsI (zsI h 111 7 (h.1 111 6)) 111 9 (nI 14))) (K19 : ¬ (h.1 111 8) ≤ (h.1 111 6) → (h.1 114 (h.1 111 6).toNatClampNeg) = (nI 10) → J mX11_next d 0 0 Q 0 0 8 [some (.inr (.inr 111))] [] (zsI h 111 6 ((h.1 111 6) + (nI 1)))) (K20 : ¬ (h.1 111 8) ≤ (h.1 111 6) → ¬ (h.1 114 (h.1 111 6).toNatClampNeg) = (nI 10) → ¬ (h.1 114 (h.1 111 6).toNatClampNeg) = (nI 32) → ((zsI h 111 7 (h.1 111 6)).1 111 6) < ((zsI h 111 7 (h.1 111 6)).1 111 8) → ((zsI h 111 7 (h.1 111 6)).1 111 8) ≤ ((zsI h 111 7 (h.1 111 6)).1 111 6) → ((zsI (zsI h 111 7 (h.1 111 6)) 111 7 (((zsI h 111 7 (h.1 111 6)).1 111 7) + (nI 1))).1 111 8) ≤ ((zsI (zsI h 111 7 (h.1 111 6)) 111 7 (((zsI h 111 7 (h.1 111 6)).1 111 7) + (nI 1))).1 111 6) → Q none (zsI (zsI (zsI h 111 7 (h.1 111 6)) 111 7 (((zsI h 111 7 (h.1 111 6)).1 111 7) + (nI 1))) 111 9 (nI 15))) (K21 : ¬ (h.1 111 8) ≤ (h.1 111 6) → ¬ (h.1 114 (h.1 111 6).toNatClampNeg) = (nI 10) → ¬ (h.1 114 (h.1 111 6).toNatClampNeg) = (nI 32) → ((zsI h 111 7 (h.1 111 6)).1 111 6) < ((zsI h 111 7 (h.1 111 6)).1 111 8) → ((zsI h 111 7 (h.1 111 6)).1 111 8) ≤ ((zsI h 111 7 (h.1 111 6)).1 111 6) → ¬ ((zsI (zsI h 111 7 (h.1 111 6)) 111 7 (((zsI h 111 7 (h.1 111 6)).1 111 7) + (nI 1))).1 111 8) ≤ ((zsI (zsI h 111 7 (h.1 111 6)) 111 7 (((zsI h 111 7 (h.1 111 6)).1 111 7) + (nI 1))).1 111 6) → ¬ ((zsI (zsI h 111 7 (h.1 111 6)) 111 7 (((zsI h 111 7 (h.1 111 6)).1 111 7) + (nI 1))).1 114 ((zsI (zsI h 111 7 (h.1 111 6)) 111 7 (((zsI h 111 7 (h.1 111 6)).1 111 7) + (nI 1))).1 111 6).toNatClampNeg) = (nI 59) → Q none (zsI (zsI (zsI h 111 7 (h.1 111 6)) 111 7 (((zsI h 111 7 (h.1 111 6)).1 111 7) + (nI 1))) 111 9 (nI 15))) (K22 : ¬ (h.1 111 8) ≤ (h.1 111 6) → ¬ (h.1 114 (h.1 111 6).toNatClampNeg) = (nI 10) → ¬ (h.1 114 (h.1 111 6).toNatClampNeg) = (nI 32) → ((zsI h 111 7 (h.1 111 6)).1 111 6) < ((zsI h 111 7 (h.1 111 6)).1 111 8) → ((zsI h 111 7 (h.1 111 6)).1 111 8) ≤ ((zsI h 111 7 (h.1 111 6)).1 111 6) → ¬ ((zsI (zsI h 111 7 (h.1 111 6)) 111 7 (((zsI h 111 7 (h.1 111 6)).1 111 7) + (nI 1))).1 111 8) ≤ ((zsI (zsI h 111 7 (h.1 111 6)) 111 7 (((zsI h 111 7 (h.1 111 6)).1 111 7) + (nI 1))).1 111 6) → ((zsI (zsI h 111 7 (h.1 111 6)) 111 7 (((zsI h 111 7 (h.1 111 6)).1 111 7) + (nI 1))).1 114 ((zsI (zsI h 111 7 (h.1 111 6)) 111 7 (((zsI h 111 7 (h.1 111 6)).1 111 7) + (nI 1))).1 111 6).toNatClampNeg) = (nI 59) → Q none (zsI (zsI (zsI h 111 7 (h.1 111 6)) 111 7 (((zsI h 111 7 (h.1 111 6)).1 111 7) + (nI 1))) 111 9 (nI 13))) (K23 : ¬ (h.1 111 8) ≤ (h.1 111 6) → ¬ (h.1 114 (h.1 111 6).toNatClampNeg) = (nI 10) → ¬ (h.1 114 (h.1 111 6).toNatClampNeg) = (nI 32) → ((zsI h 111 7 (h.1 111 6)).1 111 6) < ((zsI h 111 7 (h.1 111 6)).1 111 8) → ¬ ((zsI h 111 7 (h.1 111 6)).1 111 8) ≤ ((zsI h 111 7 (h.1 111 6)).1 111 6) → ((zsI h 111 7 (h.1 111 6)).1 114 ((zsI h 111 7 (h.1 111 6)).1 111 6).toNatClampNeg) < (nI 97) → ((zsI h 111 7 (h.1 111 6)).1 114 ((zsI h 111 7 (h.1 111 6)).1 111 6).toNatClampNeg) < (nI 48) → ((zsI (zsI h 111 7 (h.1 111 6)) 111 7 (((zsI h 111 7 (h.1 111 6)).1 111 7) + (nI 1))).1 111 8) ≤ ((zsI (zsI h 111 7 (h.1 111 6)) 111 7 (((zsI h 111 7 (h.1 111 6)).1 111 7) + (nI 1))).1 111 6) → Q none (zsI (zsI (zsI h 111 7 (h.1 111 6)) 111 7 (((zsI h 111 7 (h.1 111 6)).1 111 7) + (nI 1))) 111 9 (nI 15))) (K24 : ¬ (h.1 111 8) ≤ (h.1 111 6) → ¬ (h.1 114 (h.1 111 6).toNatClampNeg) = (nI 10) → ¬ (h.1 114 (h.1 111 6).toNatClampNeg) = (nI 32) → ((zsI h 111 7 (h.1 111 6)).1 111 6) < ((zsI h 111 7 (h.1 111 6)).1 111 8) → ¬ ((zsI h 111 7 (h.1 111 6)).1 111 8) ≤ ((zsI h 111 7 (h.1 111 6)).1 111 6) → ((zsI h 111 7 (h.1 111 6)).1 114 ((zsI h 111 7 (h.1 111 6)).1 111 6).toNatClampNeg) < (nI 97) → ((zsI h 111 7 (h.1 111 6)).1 114 ((zsI h 111 7 (h.1 111 6)).1 111 6).toNatClampNeg) < (nI 48) → ¬ ((zsI (zsI h 111 7 (h.1 111 6)) 111 7 (((zsI h 111 7 (h.1 111 6)).1 111 7) + (nI 1))).1 111 8) ≤ ((zsI (zsI h 111 7 (h.1 111 6)) 111 7 (((zsI h 111 7 (h.1 111 6)).1 111 7) + (nI 1))).1 111 6) → ¬ ((zsI (zsI h 111 7 (h.1 111 6)) 111 7 (((zsI h 111 7 (h.1 111 6)).1 111 7) + (nI 1))).1 114 ((zsI (zsI h 111 7 (h.1 111 6)) 111 7 (((zsI h 111 7 (h.1 111 6)).1 111 7) + (nI 1))).1 111 6).toNatClampNeg) = (nI 59) → Q none (zsI (zsI (zsI h 111 7 (h.1 111 6)) 111 7 (((zsI h 111 7 (h.1 111 6)).1 111 7) + (nI 1))) 111 9 (nI 15))) (K25 : ¬ (h.1 111 8) ≤ (h.1 111 6) → ¬ (h.1 114 (h.1 111 6).toNatClampNeg) = (nI 10) → ¬ (h.1 114 (h.1 111 6).toNatClampNeg) = (nI 32) → ((zsI h 111 7 (h.1 111 6)).1 111 6) < ((zsI h 111 7 (h.1 111 6)).1 111 8) → ¬ ((zsI h 111 7 (h.1 111 6)).1 111 8) ≤ ((zsI h 111 7 (h.1 111 6)).1 111 6) → ((zsI h 111 7 (h.1 111 6)).1 114 ((zsI h 111 7 (h.1 111 6)).1 111 6).toNatClampNeg) < (nI 97) → ((zsI h 111 7 (h.1 111 6)).1 114 ((zsI h 111 7 (h.1 111 6)).1 111 6).toNatClampNeg) < (nI 48) → ¬ ((zsI (zsI h 111 7 (h.1 111 6)) 111 7 (((zsI h 111 7 (h.1 111 6)).1 111 7) + (nI 1))).1 111 8) ≤ ((zsI (zsI h 111 7 (h.1 111 6)) 111 7 (((zsI h 111 7 (h.1 111 6)).1 111 7) + (nI 1))).1 111 6) → ((zsI (zsI h 111 7 (h.1 111 6)) 111 7 (((zsI h 111 7 (h.1 111 6)).1 111 7) + (nI 1))).1 114 ((zsI (zsI h 111 7 (h.1 111 6)) 111 7 (((zsI h 111 7 (h.1 111 6)).1 111 7) + (nI 1))).1 111 6).toNatClampNeg) = (nI 59) → Q none (zsI (zsI (zsI h 111 7 (h.1 111 6)) 111 7 (((zsI h 111 7 (h.1 111 6)).1 111 7) + (nI 1))) 111 9 (nI 13))) (K26 : ¬ (h.1 111 8) ≤ (h.1 111 6) → ¬ (h.1 114 (h.1 111 6).toNatClampNeg) = (nI 10) → ¬ (h.1 114 (h.1 111 6).toNatClampNeg) = (nI 32) → ((zsI h 111 7 (h.1 111 6)).1 111 6) < ((zsI h 111 7 (h.1 111 6)).1 111 8) → ¬ ((zsI h 111 7 (h.1 111 6)).1 111 8) ≤ ((zsI h 111 7 (h.1 111 6)).1 111 6) → ((zsI h 111 7 (h.1 111 6)).1 114 ((zsI h 111 7 (h.1 111 6)).1 111 6).toNatClampNeg) < (nI 97) → ¬ ((zsI h 111 7 (h.1 111 6)).1 114 ((zsI h 111 7 (h.1 111 6)).1 111 6).toNatClampNeg) < (nI 48) → (nI 57) < ((zsI h 111 7 (h.1 111 6)).1 114 ((zsI h 111 7 (h.1 111 6)).1 111 6).toNatClampNeg) → ((zsI (zsI h 111 7 (h.1 111 6)) 111 7 (((zsI h 111 7 (h.1 111 6)).1 111 7) + (nI 1))).1 111 8) ≤ ((zsI (zsI h 111 7 (h.1 111 6)) 111 7 (((zsI h 111 7 (h.1 111 6)).1 111 7) + (nI 1))).1 111 6) → Q none (zsI (zsI (zsI h 111 7 (h.1 111 6)) 111 7 (((zsI h 111 7 (h.1 111 6)).1 111 7) + (nI 1))) 111 9 (nI 15))) (K27 : ¬ (h.1 111 8) ≤ (h.1 111 6) → ¬ (h.1 114 (h.1 111 6).toNatClampNeg) = (nI 10) → ¬ (h.1 114 (h.1 111 6).toNatClampNeg) = (nI 32) → ((zsI h 111 7 (h.1 111 6)).1 111 6) < ((zsI h 111 7 (h.1 111 6)).1 111 8) → ¬ ((zsI h 111 7 (h.1 111 6)).1 111 8) ≤ ((zsI h 111 7 (h.1 111 6)).1 111 6) → ((zsI h 111 7 (h.1 111 6)).1 114 ((zsI h 111 7 (h.1 111 6)).1 111 6).toNatClampNeg) < (nI 97) → ¬ ((zsI h 111 7 (h.1 111 6)).1 114 ((zsI h 111 7 (h.1 111 6)).1 111 6).toNatClampNeg) < (nI 48) → (nI 57) < ((zsI h 111 7 (h.1 111 6)).1 114 ((zsI h 111 7 (h.1 111 6)).1 111 6).toNatClampNeg) → ¬ ((zsI (zsI h 111 7 (h.1 111 6)) 111 7 (((zsI h 111 7 (h.1 111 6)).1 111 7) + (nI 1))).1 111 8) ≤ ((zsI (zsI h 111 7 (h.1 111 6)) 111 7 (((zsI h 111 7 (h.1 111 6)).1 111 7) + (nI 1))).1 111 6) → ¬ ((zsI (zsI h 111 7 (h.1 111 6)) 111 7 (((zsI h 111 7 (h.1 111 6)).1 111 7) + (nI 1))).1 114 ((zsI (zsI h 111 7 (h.1 111 6)) 111 7 (((zsI h 111 7 (h.1 111 6)).1 111 7) + (nI 1))).1 111 6).toNatClampNeg) = (nI 59) → Q none (zsI (zsI (zsI h 111 7 (h.1 111 6)) 111 7 (((zsI h 111 7 (h.1 111 6)).1 111 7) + (nI 1))) 111 9 (nI 15))) (K28 : ¬ (h.1 111 8) ≤ (h.1 111 6) → ¬ (h.1 114 (h.1 111 6).toNatClampNeg) = (nI 10) → ¬ (h.1 114 (h.1 111 6).toNatClampNeg) = (nI 32) → ((zsI h 111 7 (h.1 111 6)).1 111 6) < ((zsI h 111 7 (h.1 111 6)).1 111 8) → ¬ ((zsI h 111 7 (h.1 111 6)).1 111 8) ≤ ((zsI h 111 7 (h.1 111 6)).1 111 6) → ((zsI h 111 7 (h.1 111 6)).1 114 ((zsI h 111 7 (h.1 111 6)).1 111 6).toNatClampNeg) < (nI 97) → ¬ ((zsI h 111 7 (h.1 111 6)).1 114 ((zsI h 111 7 (h.1 111 6)).1 111 6).toNatClampNeg) < (nI 48) → (nI 57) < ((zsI h 111 7 (h.1 111 6)).1 114 ((zsI h 111 7 (h.1 111 6)).1 111 6).toNatClampNeg) → ¬ ((zsI (zsI h 111 7 (h.1 111 6)) 111 7 (((zsI h 111 7 (h.1 111 6)).1 111 7) + (nI 1))).1 111 8) ≤ ((zsI (zsI h 111 7 (h.1 111 6)) 111 7 (((zsI h 111 7 (h.1 111 6)).1 111 7) + (nI 1))).1 111 6) → ((zsI (zsI h 111 7 (h.1 111 6)) 111 7 (((zsI h 111 7 (h.1 111 6)).1 111 7) + (nI 1))).1 114 ((zsI (zsI h 111 7 (h.1 111 6)) 111 7 (((zsI h 111 7 (h.1 111 6)).1 111 7) + (nI 1))).1 111 6).toNatClampNeg) = (nI 59) → Q none (zsI (zsI (zsI h 111 7 (h.1 111 6)) 111 7 (((zsI h 111 7 (h.1 111 6)).1 111 7) + (nI 1))) 111 9 (nI 13))) (K29 : ¬ (h.1 111 8) ≤ (h.1 111 6) → ¬ (h.1 114 (h.1 111 6).toNatClampNeg) = (nI 10) → ¬ (h.1 114 (h.1 111 6).toNatClampNeg) = (nI 32) → ((zsI h 111 7 (h.1 111 6)).1 111 6) < ((zsI h 111 7 (h.1 111 6)).1 111 8) → ¬ ((zsI h 111 7 (h.1 111 6)).1 111 8) ≤ ((zsI h 111 7 (h.1 111 6)).1 111 6) → ((zsI h 111 7 (h.1 111 6)).1 114 ((zsI h 111 7 (h.1 111 6)).1 111 6).toNatClampNeg) < (nI 97) → ¬ ((zsI h 111 7 (h.1 111 6)).1 114 ((zsI h 111 7 (h.1 111 6)).1 111 6).toNatClampNeg) < (nI 48) → ¬ (nI 57) < ((zsI h 111 7 (h.1 111 6)).1 114 ((zsI h 111 7 (h.1 111 6)).1 111 6).toNatClampNeg) → J mX11_next d 0 0 Q 0 0 146 [some (.inr (.inr 111))] [] (zsI (zsI h 111 7 (h.1 111 6)) 111 10 (nI 0))) (K30 : ¬ (h.1 111 8) ≤ (h.1 111 6) → ¬ (h.1 114 (h.1 111 6).toNatClampNeg) = (nI 10) → ¬ (h.1 114 (h.1 111 6).toNatClampNeg) = (nI 32) → ((zsI h 111 7 (h.1 111 6)).1 111 6) < ((zsI h 111 7 (h.1 111 6)).1 111 8) → ¬ ((zsI h 111 7 (h.1 111 6)).1 111 8) ≤ ((zsI h 111 7 (h.1 111 6)).1 111 6) → ¬ ((zsI h 111 7 (h.1 111 6)).1 114 ((zsI h 111 7 (h.1 111 6)).1 111 6).toNatClampNeg) < (nI 97) → (nI 122) < ((zsI h 111 7 (h.1 111 6)).1 114 ((zsI h 111 7 (h.1 111 6)).1 111 6).toNatClampNeg) → ((zsI h 111 7 (h.1 111 6)).1 114 ((zsI h 111 7 (h.1 111 6)).1 111 6).toNatClampNeg) < (nI 48) → ((zsI (zsI h 111 7 (h.1 111 6)) 111 7 (((zsI h 111 7 (h.1 111 6)).1 111 7) + (nI 1))).1 111 8) ≤ ((zsI (zsI h 111 7 (h.1 111 6)) 111 7 (((zsI h 111 7 (h.1 111 6)).1 111 7) + (nI 1))).1 111 6) → Q none (zsI (zsI (zsI h 111 7 (h.1 111 6)) 111 7 (((zsI h 111 7 (h.1 111 6)).1 111 7) + (nI 1))) 111 9 (nI 15))) (K31 : ¬ (h.1 111 8) ≤ (h.1 111 6) → ¬ (h.1 114 (h.1 111 6).toNatClampNeg) = (nI 10) → ¬ (h.1 114 (h.1 111 6).toNatClampNeg) = (nI 32) → ((zsI h 111 7 (h.1 111 6)).1 111 6) < ((zsI h 111 7 (h.1 111 6)).1 111 8) → ¬ ((zsI h 111 7 (h.1 111 6)).1 111 8) ≤ ((zsI h 111 7 (h.1 111 6)).1 111 6) → ¬ ((zsI h 111 7 (h.1 111 6)).1 114 ((zsI h 111 7 (h.1 111 6)).1 111 6).toNatClampNeg) < (nI 97) → (nI 122) < ((zsI h 111 7 (h.1 111 6)).1 114 ((zsI h 111 7 (h.1 111 6)).1 111 6).toNatClampNeg) → ((zsI h 111 7 (h.1 111 6)).1 114 ((zsI h 111 7 (h.1 111 6)).1 111 6).toNatClampNeg) < (nI 48) → ¬ ((zsI (zsI h 111 7 (h.1 111 6)) 111 7 (((zsI h 111 7 (h.1 111 6)).1 111 7) + (nI 1))).1 111 8) ≤ ((zsI (zsI h 111 7 (h.1 111 6)) 111 7 (((zsI h 111 7 (h.1 111 6)).1 111 7) + (nI 1))).1 111 6) → ¬ ((zsI (zsI h 111 7 (h.1 111 6)) 111 7 (((zsI h 111 7 (h.1 111 6)).1 111 7) + (nI 1))).1 114 ((zsI (zsI h 111 7 (h.1 111 6)) 111 7 (((zsI h 111 7 (h.1 111 6)).1 111 7) + (nI 1))).1 111 6).toNatClampNeg) = (nI 59) → Q none (zsI (zsI (zsI h 111 7 (h.1 111 6)) 111 7 (((zsI h 111 7 (h.1 111 6)).1 111 7) + (nI 1))) 111 9 (nI 15))) (K32 : ¬ (h.1 111 8) ≤ (h.1 111 6) → ¬ (h.1 114 (h.1 111 6).toNatClampNeg) = (nI 10) → ¬ (h.1 114 (h.1 111 6).toNatClampNeg) = (nI 32) → ((zsI h 111 7 (h.1 111 6)).1 111 6) < ((zsI h 111 7 (h.1 111 6)).1 111 8) → ¬ ((zsI h 111 7 (h.1 111 6)).1 111 8) ≤ ((zsI h 111 7 (h.1 111 6)).1 111 6) → ¬ ((zsI h 111 7 (h.1 111 6)).1 114 ((zsI h 111 7 (h.1 111 6)).1 111 6).toNatClampNeg) < (nI 97) → (nI 122) < ((zsI h 111 7 (h.1 111 6)).1 114 ((zsI h 111 7 (h.1 111 6)).1 111 6).toNatClampNeg) → ((zsI h 111 7 (h.1 111 6)).1 114 ((zsI h 111 7 (h.1 111 6)).1 111 6).toNatClampNeg) < (nI 48) → ¬ ((zsI (zsI h 111 7 (h.1 111 6)) 111 7 (((zsI h 111 7 (h.1 111 6)).1 111 7) + (nI 1))).1 111 8) ≤ ((zsI (zsI h 111 7 (h.1 111 6)) 111 7 (((zsI h 111 7 (h.1 111 6)).1 111 7) + (nI 1))).1 111 6) → ((zsI (zsI h 111 7 (h.1 111 6)) 111 7 (((zsI h 111 7 (h.1 111 6)).1 111 7) + (nI 1))).1 114 ((zsI (zsI h 111 7 (h.1 111 6)) 111 7 (((zsI h 111 7 (h.1 111 6)).1 111 7) + (nI 1))).1 111 6).toNatClampNeg) = (nI 59) → Q none (zsI (zsI (zsI h 111 7 (h.1 111 6)) 111 7 (((zsI h 111 7 (h.1 111 6)).1 111 7) + (nI 1))) 111 9 (nI 13))) (K33 : ¬ (h.1 111 8) ≤ (h.1 111 6) → ¬ (h.1 114 (h.1 111 6).toNatClampNeg) = (nI 10) → ¬ (h.1 114 (h.1 111 6).toNatClampNeg) = (nI 32) → ((zsI h 111 7 (h.1 111 6)).1 111 6) < ((zsI h 111 7 (h.1 111 6)).1 111 8) → ¬ ((zsI h 111 7 (h.1 111 6)).1 111 8) ≤ ((zsI h 111 7 (h.1 111 6)).1 111 6) → ¬ ((zsI h 111 7 (h.1 111 6)).1 114 ((zsI h 111 7 (h.1 111 6)).1 111 6).toNatClampNeg) < (nI 97) → (nI 122) < ((zsI h 111 7 (h.1 111 6)).1 114 ((zsI h 111 7 (h.1 111 6)).1 111 6).toNatClampNeg) → ¬ ((zsI h 111 7 (h.1 111 6)).1 114 ((zsI h 111 7 (h.1 111 6)).1 111 6).toNatClampNeg) < (nI 48) → (nI 57) < ((zsI h 111 7 (h.1 111 6)).1 114 ((zsI h 111 7 (h.1 111 6)).1 111 6).toNatClampNeg) → ((zsI (zsI h 111 7 (h.1 111 6)) 111 7 (((zsI h 111 7 (h.1 111 6)).1 111 7) + (nI 1))).1 111 8) ≤ ((zsI (zsI h 111 7 (h.1 111 6)) 111 7 (((zsI h 111 7 (h.1 111 6)).1 111 7) + (nI 1))).1 111 6) → Q none (zsI (zsI (zsI h 111 7 (h.1 111 6)) 111 7 (((zsI h 111 7 (h.1 111 6)).1 111 7) + (nI 1))) 111 9 (nI 15))) (K34 : ¬ (h.1 111 8) ≤ (h.1 111 6) → ¬ (h.1 114 (h.1 111 6).toNatClampNeg) = (nI 10) → ¬ (h.1 114 (h.1 111 6).toNatClampNeg) = (nI 32) → ((zsI h 111 7 (h.1 111 6)).1 111 6) < ((zsI h 111 7 (h.1 111 6)).1 111 8) → ¬ ((zsI h 111 7 (h.1 111 6)).1 111 8) ≤ ((zsI h 111 7 (h.1 111 6)).1 111 6) → ¬ ((zsI h 111 7 (h.1 111 6)).1 114 ((zsI h 111 7 (h.1 111 6)).1 111 6).toNatClampNeg) < (nI 97) → (nI 122) < ((zsI h 111 7 (h.1 111 6)).1 114 ((zsI h 111 7 (h.1 111 6)).1 111 6).toNatClampNeg) → ¬ ((zsI h 111 7 (h.1 111 6)).1 114 ((zsI h 111 7 (h.1 111 6)).1 111 6).toNatClampNeg) < (nI 48) → (nI 57) < ((zsI h 111 7 (h.1 111 6)).1 114 ((zsI h 111 7 (h.1 111 6)).1 111 6).toNatClampNeg) → ¬ ((zsI (zsI h 111 7 (h.1 111 6)) 111 7 (((zsI h 111 7 (h.1 111 6)).1 111 7) + (nI 1))).1 111 8) ≤ ((zsI (zsI h 111 7 (h.1 111 6)) 111 7 (((zsI h 111 7 (h.1 111 6)).1 111 7) + (nI 1))).1 111 6) → ¬ ((zsI (zsI h 111 7 (h.1 111 6)) 111 7 (((zsI h 111 7 (h.1 111 6)).1 111 7) + (nI 1))).1 114 ((zsI (zsI h 111 7 (h.1 111 6)) 111 7 (((zsI h 111 7 (h.1 111 6)).1 111 7) + (nI 1))).1 111 6).toNatClampNeg) = (nI 59) → Q none (zsI (zsI (zsI h 111 7 (h.1 111 6)) 111 7 (((zsI h 111 7 (h.1 111 6)).1 111 7) + (nI 1))) 111 9 (nI 15))) (K35 : ¬ (h.1 111 8) ≤ (h.1 111 6) → ¬ (h.1 114 (h.1 111 6).toNatClampNeg) = (nI 10) → ¬ (h.1 114 (h.1 111 6).toNatClampNeg) = (nI 32) → ((zsI h 111 7 (h.1 111 6)).1 111 6) < ((zsI h 111 7 (h.1 111 6)).1 111 8) → ¬ ((zsI h 111 7 (h.1 111 6)).1 111 8) ≤ ((zsI h 111 7 (h.1 111 6)).1 111 6) → ¬ ((zsI h 111 7 (h.1 111 6)).1 114 ((zsI h 111 7 (h.1 111 6)).1 111 6).toNatClampNeg) < (nI 97) → (nI 122) < ((zsI h 111 7 (h.1 111 6)).1 114 ((zsI h 111 7 (h.1 111 6)).1 111 6).toNatClampNeg) → ¬ ((zsI h 111 7 (h.1 111 6)).1 114 ((zsI h 111 7 (h.1 111 6)).1 111 6).toNatClampNeg) < (nI 48) → (nI 57) < ((zsI h 111 7 (h.1 111 6)).1 114 ((zsI h 111 7 (h.1 111 6)).1 111 6).toNatClampNeg) → ¬ ((zsI (zsI h 111 7 (h.1 111 6)) 111 7 (((zsI h 111 7 (h.1 111 6)).1 111 7) + (nI 1))).1 111 8) ≤ ((zsI (zsI h 111 7 (h.1 111 6)) 111 7 (((zsI h 111 7 (h.1 111 6)).1 111 7) + (nI 1))).1 111 6) → ((zsI (zsI h 111 7 (h.1 111 6)) 111 7 (((zsI h 111 7 (h.1 111 6)).1 111 7) + (nI 1))).1 114 ((zsI (zsI h 111 7 (h.1 111 6)) 111 7 (((zsI h 111 7 (h.1 111 6)).1 111 7) + (nI 1))).1 111 6).toNatClampNeg) = (nI 59) → Q none (zsI (zsI (zsI h 111 7 (h.1 111 6)) 111 7 (((zsI h 111 7 (h.1 111 6)).1 111 7) + (nI 1))) 111 9 (nI 13))) (K36 : ¬ (h.1 111 8) ≤ (h.1 111 6) → ¬ (h.1 114 (h.1 111 6).toNatClampNeg) = (nI 10) → ¬ (h.1 114 (h.1 111 6).toNatClampNeg) = (nI 32) → ((zsI h 111 7 (h.1 111 6)).1 111 6) < ((zsI h 111 7 (h.1 111 6)).1 111 8) → ¬ ((zsI h 111 7 (h.1 111 6)).1 111 8) ≤ ((zsI h 111 7 (h.1 111 6)).1 111 6) → ¬ ((zsI h 111 7 (h.1 111 6)).1 114 ((zsI h 111 7 (h.1 111 6)).1 111 6).toNatClampNeg) < (nI 97) → (nI 122) < ((zsI h 111 7 (h.1 111 6)).1 114 ((zsI h 111 7 (h.1 111 6)).1 111 6).toNatClampNeg) → ¬ ((zsI h 111 7 (h.1 111 6)).1 114 ((zsI h 111 7 (h.1 111 6)).1 111 6).toNatClampNeg) < (nI 48) → ¬ (nI 57) < ((zsI h 111 7 (h.1 111 6)).1 114 ((zsI h 111 7 (h.1 111 6)).1 111 6).toNatClampNeg) → J mX11_next d 0 0 Q 0 0 146 [some (.inr (.inr 111))] [] (zsI (zsI h 111 7 (h.1 111 6)) 111 10 (nI 0))) (K37 : ¬ (h.1 111 8) ≤ (h.1 111 6) → ¬ (h.1 114 (h.1 111 6).toNatClampNeg) = (nI 10) → ¬ (h.1 114 (h.1 111 6).toNatClampNeg) = (nI 32) → ((zsI h 111 7 (h.1 111 6)).1 111 6) < ((zsI h 111 7 (h.1 111 6)).1 111 8) → ¬ ((zsI h 111 7 (h.1 111 6)).1 111 8) ≤ ((zsI h 111 7 (h.1 111 6)).1 111 6) → ¬ ((zsI h 111 7 (h.1 111 6)).1 114 ((zsI h 111 7 (h.1 111 6)).1 111 6).toNatClampNeg) < (nI 97) → ¬ (nI 122) < ((zsI h 111 7 (h.1 111 6)).1 114 ((zsI h 111 7 (h.1 111 6)).1 111 6).toNatClampNeg) → J mX11_next d 0 0 Q 0 0 89 [some (.inr (.inr 111))] [] (zsI h 111 7 (h.1 111 6))) (K38 : ¬ (h.1 111 8) ≤ (h.1 111 6) → ¬ (h.1 114 (h.1 111 6).toNatClampNeg) = (nI 10) → ¬ (h.1 114 (h.1 111 6).toNatClampNeg) = (nI 32) → ¬ ((zsI h 111 7 (h.1 111 6)).1 111 6) < ((zsI h 111 7 (h.1 111 6)).1 111 8) → Q none (zsI (zsI h 111 7 (h.1 111 6)) 111 9 (nI 14))) (K39 : ¬ (h.1 111 8) ≤ (h.1 111 6) → ¬ (h.1 114 (h.1 111 6).toNatClampNeg) = (nI 10) → (h.1 114 (h.1 111 6).toNatClampNeg) = (nI 32) → J mX11_next d 0 0 Q 0 0 8 [some (.inr (.inr 111))] [] (zsI h 111 6 ((h.1 111 6) + (nI 1)))) : J mX11_next d 0 0 Q 0 0 8 [some (.inr (.inr 111))] [] h := by
  refine bX11_next_8 (d' := 0) hr (by omega) ?_
  refine t_X11_see hr ?_ ?_ ?_
  · intro p1; exact (G0 p1)
  · intro p2
    refine bX11_next_16  (fun c => absurd c (by decide)) (fun _ => ?_)
    refine bX11_next_21 (d' := 0) hr (by omega) ?_
    refine t_X11_see hr ?_ ?_ ?_
    · intro p4; exact (G1 p2 p4)
    · intro p5
      refine bX11_next_29  (fun _ => ?_) (fun c => absurd c (by decide))
      refine bX11_next_47 hr (fun p7 => ?_) (fun p7 => ?_)
      · refine bX11_next_75 (d' := 0) hr (by omega) ?_
        refine t_X11_see hr ?_ ?_ ?_
        · intro p8; exact (G2 p2 p7 p8)
        · intro p9
          refine bX11_next_83 (d' := 0)  (by omega) ?_
          refine t_X11_isSmall  ?_ ?_ ?_
          · intro p11
            refine bX11_next_86  (fun _ => ?_) (fun c => absurd c (by decide))
            refine bX11_next_127 (d' := 0) hr (by omega) ?_
            refine t_X11_see hr ?_ ?_ ?_
            · intro p16; exact (G3 p2 p7 p9 p16)
            · intro p17
              refine bX11_next_135 (d' := 0)  (by omega) ?_
              refine t_X11_isDigit  ?_ ?_ ?_
              · intro p19
                refine bX11_next_138  (fun _ => ?_) (fun c => absurd c (by decide))
                refine bX11_next_236 (d' := 0) hr (by omega) ?_
                refine t_X11_see hr ?_ ?_ ?_
                · intro p24; exact (G4 p2 p7 p9 p24)
                · intro p25
                  refine bX11_next_255  (fun _ => ?_) (fun c => absurd c (by decide))
                  refine bX11_next_265  ?_
                  refine bX11_next_267 hr ?_
                  exact bX11_next_270  (K0 p2 p7 p9 p25)
                · intro p26
                  refine bX11_next_255  (fun p27 => ?_) (fun p27 => ?_)
                  · refine bX11_next_265  ?_
                    refine bX11_next_267 hr ?_
                    exact bX11_next_270  (K1 p2 p7 p9 p26 p27)
                  · refine bX11_next_260  ?_
                    refine bX11_next_267 hr ?_
                    exact bX11_next_270  (K2 p2 p7 p9 p26 p27)
              · intro p20 p21; exact absurd p21 (by decide)
              · intro p22 p23; exact absurd p22 (by decide)
            · intro p18; exact absurd p9 p18
          · intro p12 p13; exact absurd p13 (by decide)
          · intro p14 p15; exact absurd p14 (by decide)
        · intro p10
          refine bX11_next_83 (d' := 0)  (by omega) ?_
          refine t_X11_isSmall  ?_ ?_ ?_
          · intro p28
            refine bX11_next_86  (fun _ => ?_) (fun c => absurd c (by decide))
            refine bX11_next_127 (d' := 0) hr (by omega) ?_
            refine t_X11_see hr ?_ ?_ ?_
            · intro p33; exact (G2 p2 p7 p10)
            · intro p34; exact absurd p34 p10
            · intro p35
              refine bX11_next_135 (d' := 0)  (by omega) ?_
              refine t_X11_isDigit  ?_ ?_ ?_
              · intro p36
                refine bX11_next_138  (fun _ => ?_) (fun c => absurd c (by decide))
                refine bX11_next_236 (d' := 0) hr (by omega) ?_
                refine t_X11_see hr ?_ ?_ ?_
                · intro p41; exact (G5 p2 p7 p10 p28 p36 p41)
                · intro p42
                  refine bX11_next_255  (fun _ => ?_) (fun c => absurd c (by decide))
                  refine bX11_next_265  ?_
                  refine bX11_next_267 hr ?_
                  exact bX11_next_270  (K3 p2 p7 p10 p28 p36 p42)
                · intro p43
                  refine bX11_next_255  (fun p44 => ?_) (fun p44 => ?_)
                  · refine bX11_next_265  ?_
                    refine bX11_next_267 hr ?_
                    exact bX11_next_270  (K4 p2 p7 p10 p28 p36 p43 p44)
                  · refine bX11_next_260  ?_
                    refine bX11_next_267 hr ?_
                    exact bX11_next_270  (K5 p2 p7 p10 p28 p36 p43 p44)
              · intro p37 p38
                refine bX11_next_138  (fun _ => ?_) (fun c => absurd c (by decide))
                refine bX11_next_236 (d' := 0) hr (by omega) ?_
                refine t_X11_see hr ?_ ?_ ?_
                · intro p45; exact (G6 p2 p7 p10 p28 p37 p38 p45)
                · intro p46
                  refine bX11_next_255  (fun _ => ?_) (fun c => absurd c (by decide))
                  refine bX11_next_265  ?_
                  refine bX11_next_267 hr ?_
                  exact bX11_next_270  (K6 p2 p7 p10 p28 p37 p38 p46)
                · intro p47
                  refine bX11_next_255  (fun p48 => ?_) (fun p48 => ?_)
                  · refine bX11_next_265  ?_
                    refine bX11_next_267 hr ?_
                    exact bX11_next_270  (K7 p2 p7 p10 p28 p37 p38 p47 p48)
                  · refine bX11_next_260  ?_
                    refine bX11_next_267 hr ?_
                    exact bX11_next_270  (K8 p2 p7 p10 p28 p37 p38 p47 p48)
              · intro p39 p40
                refine bX11_next_138  (fun c => absurd c (by decide)) (fun _ => ?_)
                refine bX11_next_141 hr ?_
                exact K9 p2 p7 p10 p28 p39 p40
          · intro p29 p30
            refine bX11_next_86  (fun _ => ?_) (fun c => absurd c (by decide))
            refine bX11_next_127 (d' := 0) hr (by omega) ?_
            refine t_X11_see hr ?_ ?_ ?_
            · intro p49; exact (G2 p2 p7 p10)
            · intro p50; exact absurd p50 p10
            · intro p51
              refine bX11_next_135 (d' := 0)  (by omega) ?_
              refine t_X11_isDigit  ?_ ?_ ?_
              · intro p52
                refine bX11_next_138  (fun _ => ?_) (fun c => absurd c (by decide))
                refine bX11_next_236 (d' := 0) hr (by omega) ?_
                refine t_X11_see hr ?_ ?_ ?_
                · intro p57; exact (G7 p2 p7 p10 p29 p30 p52 p57)
                · intro p58
                  refine bX11_next_255  (fun _ => ?_) (fun c => absurd c (by decide))
                  refine bX11_next_265  ?_
                  refine bX11_next_267 hr ?_
                  exact bX11_next_270  (K10 p2 p7 p10 p29 p30 p52 p58)
                · intro p59
                  refine bX11_next_255  (fun p60 => ?_) (fun p60 => ?_)
                  · refine bX11_next_265  ?_
                    refine bX11_next_267 hr ?_
                    exact bX11_next_270  (K11 p2 p7 p10 p29 p30 p52 p59 p60)
                  · refine bX11_next_260  ?_
                    refine bX11_next_267 hr ?_
                    exact bX11_next_270  (K12 p2 p7 p10 p29 p30 p52 p59 p60)
              · intro p53 p54
                refine bX11_next_138  (fun _ => ?_) (fun c => absurd c (by decide))
                refine bX11_next_236 (d' := 0) hr (by omega) ?_
                refine t_X11_see hr ?_ ?_ ?_
                · intro p61; exact (G8 p2 p7 p10 p29 p30 p53 p54 p61)
                · intro p62
                  refine bX11_next_255  (fun _ => ?_) (fun c => absurd c (by decide))
                  refine bX11_next_265  ?_
                  refine bX11_next_267 hr ?_
                  exact bX11_next_270  (K13 p2 p7 p10 p29 p30 p53 p54 p62)
                · intro p63
                  refine bX11_next_255  (fun p64 => ?_) (fun p64 => ?_)
                  · refine bX11_next_265  ?_
                    refine bX11_next_267 hr ?_
                    exact bX11_next_270  (K14 p2 p7 p10 p29 p30 p53 p54 p63 p64)
                  · refine bX11_next_260  ?_
                    refine bX11_next_267 hr ?_
                    exact bX11_next_270  (K15 p2 p7 p10 p29 p30 p53 p54 p63 p64)
              · intro p55 p56
                refine bX11_next_138  (fun c => absurd c (by decide)) (fun _ => ?_)
                refine bX11_next_141 hr ?_
                exact K16 p2 p7 p10 p29 p30 p55 p56
          · intro p31 p32
            refine bX11_next_86  (fun c => absurd c (by decide)) (fun _ => ?_)
            exact K17 p2 p7 p10 p31 p32
      · refine bX11_next_66 hr ?_
        exact bX11_next_270  (K18 p2 p7)
    · intro p6; exact absurd p2 p6
  · intro p3
    refine bX11_next_16  (fun p65 => ?_) (fun p65 => ?_)
    · refine bX11_next_34 hr ?_
      exact K19 p3 p65
    · refine bX11_next_21 (d' := 0) hr (by omega) ?_
      refine t_X11_see hr ?_ ?_ ?_
      · intro p66; exact (G0 p3)
      · intro p67; exact absurd p67 p3
      · intro p68
        refine bX11_next_29  (fun p69 => ?_) (fun p69 => ?_)
        · refine bX11_next_47 hr (fun p70 => ?_) (fun p70 => ?_)
          · refine bX11_next_75 (d' := 0) hr (by omega) ?_
            refine t_X11_see hr ?_ ?_ ?_
            · intro p71; exact (G9 p3 p65 p69 p70 p71)
            · intro p72
              refine bX11_next_83 (d' := 0)  (by omega) ?_
              refine t_X11_isSmall  ?_ ?_ ?_
              · intro p74
                refine bX11_next_86  (fun _ => ?_) (fun c => absurd c (by decide))
                refine bX11_next_127 (d' := 0) hr (by omega) ?_
                refine t_X11_see hr ?_ ?_ ?_
                · intro p79; exact (G10 p3 p65 p69 p70 p72 p79)
                · intro p80
                  refine bX11_next_135 (d' := 0)  (by omega) ?_
                  refine t_X11_isDigit  ?_ ?_ ?_
                  · intro p82
                    refine bX11_next_138  (fun _ => ?_) (fun c => absurd c (by decide))
                    refine bX11_next_236 (d' := 0) hr (by omega) ?_
                    refine t_X11_see hr ?_ ?_ ?_
                    · intro p87; exact (G11 p3 p65 p69 p70 p72 p87)
                    · intro p88
                      refine bX11_next_255  (fun _ => ?_) (fun c => absurd c (by decide))
                      refine bX11_next_265  ?_
                      refine bX11_next_267 hr ?_
                      exact bX11_next_270  (K20 p3 p65 p69 p70 p72 p88)
                    · intro p89
                      refine bX11_next_255  (fun p90 => ?_) (fun p90 => ?_)
                      · refine bX11_next_265  ?_
                        refine bX11_next_267 hr ?_
                        exact bX11_next_270  (K21 p3 p65 p69 p70 p72 p89 p90)
                      · refine bX11_next_260  ?_
                        refine bX11_next_267 hr ?_
                        exact bX11_next_270  (K22 p3 p65 p69 p70 p72 p89 p90)
                  · intro p83 p84; exact absurd p84 (by decide)
                  · intro p85 p86; exact absurd p85 (by decide)
                · intro p81; exact absurd p72 p81
              · intro p75 p76; exact absurd p76 (by decide)
              · intro p77 p78; exact absurd p77 (by decide)
            · intro p73
              refine bX11_next_83 (d' := 0)  (by omega) ?_
              refine t_X11_isSmall  ?_ ?_ ?_
              · intro p91
                refine bX11_next_86  (fun _ => ?_) (fun c => absurd c (by decide))
                refine bX11_next_127 (d' := 0) hr (by omega) ?_
                refine t_X11_see hr ?_ ?_ ?_
                · intro p96; exact (G9 p3 p65 p69 p70 p73)
                · intro p97; exact absurd p97 p73
                · intro p98
                  refine bX11_next_135 (d' := 0)  (by omega) ?_
                  refine t_X11_isDigit  ?_ ?_ ?_
                  · intro p99
                    refine bX11_next_138  (fun _ => ?_) (fun c => absurd c (by decide))
                    refine bX11_next_236 (d' := 0) hr (by omega) ?_
                    refine t_X11_see hr ?_ ?_ ?_
                    · intro p104; exact (G12 p3 p65 p69 p70 p73 p91 p99 p104)
                    · intro p105
                      refine bX11_next_255  (fun _ => ?_) (fun c => absurd c (by decide))
                      refine bX11_next_265  ?_
                      refine bX11_next_267 hr ?_
                      exact bX11_next_270  (K23 p3 p65 p69 p70 p73 p91 p99 p105)
                    · intro p106
                      refine bX11_next_255  (fun p107 => ?_) (fun p107 => ?_)
                      · refine bX11_next_265  ?_
                        refine bX11_next_267 hr ?_
                        exact bX11_next_270  (K24 p3 p65 p69 p70 p73 p91 p99 p106 p107)
                      · refine bX11_next_260  ?_
                        refine bX11_next_267 hr ?_
                        exact bX11_next_270  (K25 p3 p65 p69 p70 p73 p91 p99 p106 p107)
                  · intro p100 p101
                    refine bX11_next_138  (fun _ => ?_) (fun c => absurd c (by decide))
                    refine bX11_next_236 (d' := 0) hr (by omega) ?_
                    refine t_X11_see hr ?_ ?_ ?_
                    · intro p108; exact (G13 p3 p65 p69 p70 p73 p91 p100 p101 p108)
                    · intro p109
                      refine bX11_next_255  (fun _ => ?_) (fun c => absurd c (by decide))
                      refine bX11_next_265  ?_
                      refine bX11_next_267 hr ?_
                      exact bX11_next_270  (K26 p3 p65 p69 p70 p73 p91 p100 p101 p109)
                    · intro p110
                      refine bX11_next_255  (fun p111 => ?_) (fun p111 => ?_)
                      · refine bX11_next_265  ?_
                        refine bX11_next_267 hr ?_
                        exact bX11_next_270  (K27 p3 p65 p69 p70 p73 p91 p100 p101 p110 p111)
                      · refine bX11_next_260  ?_
                        refine bX11_next_267 hr ?_
                        exact bX11_next_270  (K28 p3 p65 p69 p70 p73 p91 p100 p101 p110 p111)
                  · intro p102 p103
                    refine bX11_next_138  (fun c => absurd c (by decide)) (fun _ => ?_)
                    refine bX11_next_141 hr ?_
                    exact K29 p3 p65 p69 p70 p73 p91 p102 p103
              · intro p92 p93
                refine bX11_next_86  (fun _ => ?_) (fun c => absurd c (by decide))
                refine bX11_next_127 (d' := 0) hr (by omega) ?_
                refine t_X11_see hr ?_ ?_ ?_
                · intro p112; exact (G9 p3 p65 p69 p70 p73)
                · intro p113; exact absurd p113 p73
                · intro p114
                  refine bX11_next_135 (d' := 0)  (by omega) ?_
                  refine t_X11_isDigit  ?_ ?_ ?_
                  · intro p115
                    refine bX11_next_138  (fun _ => ?_) (fun c => absurd c (by decide))
                    refine bX11_next_236 (d' := 0) hr (by omega) ?_
                    refine t_X11_see hr ?_ ?_ ?_
                    · intro p120; exact (G14 p3 p65 p69 p70 p73 p92 p93 p115 p120)
                    · intro p121
                      refine bX11_next_255  (fun _ => ?_) (fun c => absurd c (by decide))
                      refine bX11_next_265  ?_
                      refine bX11_next_267 hr ?_
                      exact bX11_next_270  (K30 p3 p65 p69 p70 p73 p92 p93 p115 p121)
                    · intro p122
                      refine bX11_next_255  (fun p123 => ?_) (fun p123 => ?_)
                      · refine bX11_next_265  ?_
                        refine bX11_next_267 hr ?_
                        exact bX11_next_270  (K31 p3 p65 p69 p70 p73 p92 p93 p115 p122 p123)
                      · refine bX11_next_260  ?_
                        refine bX11_next_267 hr ?_
                        exact bX11_next_270  (K32 p3 p65 p69 p70 p73 p92 p93 p115 p122 p123)
                  · intro p116 p117
                    refine bX11_next_138  (fun _ => ?_) (fun c => absurd c (by decide))
                    refine bX11_next_236 (d' := 0) hr (by omega) ?_
                    refine t_X11_see hr ?_ ?_ ?_
                    · intro p124; exact (G15 p3 p65 p69 p70 p73 p92 p93 p116 p117 p124)
                    · intro p125
                      refine bX11_next_255  (fun _ => ?_) (fun c => absurd c (by decide))
                      refine bX11_next_265  ?_
                      refine bX11_next_267 hr ?_
                      exact bX11_next_270  (K33 p3 p65 p69 p70 p73 p92 p93 p116 p117 p125)
                    · intro p126
                      refine bX11_next_255  (fun p127 => ?_) (fun p127 => ?_)
                      · refine bX11_next_265  ?_
                        refine bX11_next_267 hr ?_
                        exact bX11_next_270  (K34 p3 p65 p69 p70 p73 p92 p93 p116 p117 p126 p127)
                      · refine bX11_next_260  ?_
                        refine bX11_next_267 hr ?_
                        exact bX11_next_270  (K35 p3 p65 p69 p70 p73 p92 p93 p116 p117 p126 p127)
                  · intro p118 p119
                    refine bX11_next_138  (fun c => absurd c (by decide)) (fun _ => ?_)
                    refine bX11_next_141 hr ?_
                    exact K36 p3 p65 p69 p70 p73 p92 p93 p118 p119
              · intro p94 p95
                refine bX11_next_86  (fun c => absurd c (by decide)) (fun _ => ?_)
                exact K37 p3 p65 p69 p70 p73 p94 p95
          · refine bX11_next_66 hr ?_
            exact bX11_next_270  (K38 p3 p65 p69 p70)
        · refine bX11_next_34 hr ?_
          exact K39 p3 p65 p69

set_option maxRecDepth 20000 in
theorem t_X11_next_89 {d d1' d2' d3' : Nat} {Q : Option MV → MH → Prop} {h : MH} (hr : zRf h) (hd : 1 ≤ d) (hd1' : d1' + 1 ≤ d) (hd2' : d2' + 1 ≤ d) (hd3' : d3' + 1 ≤ d) (G0 : ¬ (h.1 111 8) ≤ (h.1 111 7) → vp_in (h.1 111 7) 400) (K0 : (h.1 111 8) ≤ (h.1 111 7) → Con mX11_keyAt d1' 0 0 [.inr (.inr 111)] h (zri fun (x : Int32) h' => J mX11_next d 0 0 Q 0 0 121 [some (.inr (.inr 111))] [.inl x, .inr (.inr 111)] h')) (K1 : ¬ (h.1 111 8) ≤ (h.1 111 7) → (h.1 114 (h.1 111 7).toNatClampNeg) < (nI 97) → Con mX11_keyAt d2' 0 0 [.inr (.inr 111)] h (zri fun (x : Int32) h' => J mX11_next d 0 0 Q 0 0 121 [some (.inr (.inr 111))] [.inl x, .inr (.inr 111)] h')) (K2 : ¬ (h.1 111 8) ≤ (h.1 111 7) → ¬ (h.1 114 (h.1 111 7).toNatClampNeg) < (nI 97) → (nI 122) < (h.1 114 (h.1 111 7).toNatClampNeg) → Con mX11_keyAt d3' 0 0 [.inr (.inr 111)] h (zri fun (x : Int32) h' => J mX11_next d 0 0 Q 0 0 121 [some (.inr (.inr 111))] [.inl x, .inr (.inr 111)] h')) (K3 : ¬ (h.1 111 8) ≤ (h.1 111 7) → ¬ (h.1 114 (h.1 111 7).toNatClampNeg) < (nI 97) → ¬ (nI 122) < (h.1 114 (h.1 111 7).toNatClampNeg) → J mX11_next d 0 0 Q 0 0 89 [some (.inr (.inr 111))] [] (zsI h 111 7 ((h.1 111 7) + (nI 1)))) : J mX11_next d 0 0 Q 0 0 89 [some (.inr (.inr 111))] [] h := by
  refine bX11_next_89 (d' := 0) hr (by omega) ?_
  refine t_X11_see hr ?_ ?_ ?_
  · intro p1; exact (G0 p1)
  · intro p2
    refine bX11_next_97 (d' := 0)  (by omega) ?_
    refine t_X11_isSmall  ?_ ?_ ?_
    · intro p4
      refine bX11_next_100  (fun _ => ?_) (fun c => absurd c (by decide))
      exact bX11_next_116 hr hd1' (K0 p2)
    · intro p5 p6; exact absurd p6 (by decide)
    · intro p7 p8; exact absurd p7 (by decide)
  · intro p3
    refine bX11_next_97 (d' := 0)  (by omega) ?_
    refine t_X11_isSmall  ?_ ?_ ?_
    · intro p9
      refine bX11_next_100  (fun _ => ?_) (fun c => absurd c (by decide))
      exact bX11_next_116 hr hd2' (K1 p3 p9)
    · intro p10 p11
      refine bX11_next_100  (fun _ => ?_) (fun c => absurd c (by decide))
      exact bX11_next_116 hr hd3' (K2 p3 p10 p11)
    · intro p12 p13
      refine bX11_next_100  (fun c => absurd c (by decide)) (fun _ => ?_)
      refine bX11_next_103 hr ?_
      exact K3 p3 p12 p13

set_option maxRecDepth 20000 in
theorem t_X11_next_121 {d  : Nat} {Q : Option MV → MH → Prop} {h : MH} {vs1 : Int32} (hr : zRf h) (K0 : Q none (zsI h 111 9 vs1)) : J mX11_next d 0 0 Q 0 0 121 [some (.inr (.inr 111))] [.inl vs1, .inr (.inr 111)] h := by
  refine bX11_next_121 hr ?_
  exact bX11_next_270  (K0)

set_option maxRecDepth 20000 in
theorem t_X11_next_146 {d  : Nat} {Q : Option MV → MH → Prop} {h : MH} (hr : zRf h) (hd : 1 ≤ d) (G0 : ¬ (h.1 111 8) ≤ (h.1 111 7) → vp_in (h.1 111 7) 400) (K0 : (h.1 111 8) ≤ (h.1 111 7) → ((h.1 111 7) - (h.1 111 6)) ≤ (nI 3) → Q none (zsI h 111 9 (nI 12))) (K1 : (h.1 111 8) ≤ (h.1 111 7) → ¬ ((h.1 111 7) - (h.1 111 6)) ≤ (nI 3) → Q none (zsI h 111 9 (nI 15))) (K2 : ¬ (h.1 111 8) ≤ (h.1 111 7) → (h.1 114 (h.1 111 7).toNatClampNeg) < (nI 48) → ((h.1 111 7) - (h.1 111 6)) ≤ (nI 3) → Q none (zsI h 111 9 (nI 12))) (K3 : ¬ (h.1 111 8) ≤ (h.1 111 7) → (h.1 114 (h.1 111 7).toNatClampNeg) < (nI 48) → ¬ ((h.1 111 7) - (h.1 111 6)) ≤ (nI 3) → Q none (zsI h 111 9 (nI 15))) (K4 : ¬ (h.1 111 8) ≤ (h.1 111 7) → ¬ (h.1 114 (h.1 111 7).toNatClampNeg) < (nI 48) → (nI 57) < (h.1 114 (h.1 111 7).toNatClampNeg) → ((h.1 111 7) - (h.1 111 6)) ≤ (nI 3) → Q none (zsI h 111 9 (nI 12))) (K5 : ¬ (h.1 111 8) ≤ (h.1 111 7) → ¬ (h.1 114 (h.1 111 7).toNatClampNeg) < (nI 48) → (nI 57) < (h.1 114 (h.1 111 7).toNatClampNeg) → ¬ ((h.1 111 7) - (h.1 111 6)) ≤ (nI 3) → Q none (zsI h 111 9 (nI 15))) (K6 : ¬ (h.1 111 8) ≤ (h.1 111 7) → ¬ (h.1 114 (h.1 111 7).toNatClampNeg) < (nI 48) → ¬ (nI 57) < (h.1 114 (h.1 111 7).toNatClampNeg) → (nI 3) ≤ ((h.1 111 7) - (h.1 111 6)) → J mX11_next d 0 0 Q 0 0 146 [some (.inr (.inr 111))] [] (zsI h 111 7 ((h.1 111 7) + (nI 1)))) (K7 : ¬ (h.1 111 8) ≤ (h.1 111 7) → ¬ (h.1 114 (h.1 111 7).toNatClampNeg) < (nI 48) → ¬ (nI 57) < (h.1 114 (h.1 111 7).toNatClampNeg) → ¬ (nI 3) ≤ ((h.1 111 7) - (h.1 111 6)) → J mX11_next d 0 0 Q 0 0 146 [some (.inr (.inr 111))] [] (zsI (zsI h 111 10 ((((nI 10) * (h.1 111 10)) + (h.1 114 (h.1 111 7).toNatClampNeg)) - (nI 48))) 111 7 (((zsI h 111 10 ((((nI 10) * (h.1 111 10)) + (h.1 114 (h.1 111 7).toNatClampNeg)) - (nI 48))).1 111 7) + (nI 1)))) : J mX11_next d 0 0 Q 0 0 146 [some (.inr (.inr 111))] [] h := by
  refine bX11_next_146 (d' := 0) hr (by omega) ?_
  refine t_X11_see hr ?_ ?_ ?_
  · intro p1; exact (G0 p1)
  · intro p2
    refine bX11_next_154 (d' := 0)  (by omega) ?_
    refine t_X11_isDigit  ?_ ?_ ?_
    · intro p4
      refine bX11_next_157  (fun _ => ?_) (fun c => absurd c (by decide))
      refine bX11_next_209 hr (fun p9 => ?_) (fun p9 => ?_)
      · refine bX11_next_228  ?_
        refine bX11_next_230 hr ?_
        exact bX11_next_270  (K0 p2 p9)
      · refine bX11_next_223  ?_
        refine bX11_next_230 hr ?_
        exact bX11_next_270  (K1 p2 p9)
    · intro p5 p6; exact absurd p6 (by decide)
    · intro p7 p8; exact absurd p7 (by decide)
  · intro p3
    refine bX11_next_154 (d' := 0)  (by omega) ?_
    refine t_X11_isDigit  ?_ ?_ ?_
    · intro p10
      refine bX11_next_157  (fun _ => ?_) (fun c => absurd c (by decide))
      refine bX11_next_209 hr (fun p15 => ?_) (fun p15 => ?_)
      · refine bX11_next_228  ?_
        refine bX11_next_230 hr ?_
        exact bX11_next_270  (K2 p3 p10 p15)
      · refine bX11_next_223  ?_
        refine bX11_next_230 hr ?_
        exact bX11_next_270  (K3 p3 p10 p15)
    · intro p11 p12
      refine bX11_next_157  (fun _ => ?_) (fun c => absurd c (by decide))
      refine bX11_next_209 hr (fun p16 => ?_) (fun p16 => ?_)
      · refine bX11_next_228  ?_
        refine bX11_next_230 hr ?_
        exact bX11_next_270  (K4 p3 p11 p12 p16)
      · refine bX11_next_223  ?_
        refine bX11_next_230 hr ?_
        exact bX11_next_270  (K5 p3 p11 p12 p16)
    · intro p13 p14
      refine bX11_next_157  (fun c => absurd c (by decide)) (fun _ => ?_)
      refine bX11_next_160 hr (fun p17 => ?_) (fun p17 => ?_)
      · refine bX11_next_196 hr ?_
        exact K6 p3 p13 p14 p17
      · refine bX11_next_173 (d' := 0) hr (by omega) ?_
        refine t_X11_see hr ?_ ?_ ?_
        · intro p18; exact (G0 p3)
        · intro p19; exact absurd p19 p3
        · intro p20
          refine bX11_next_189 hr ?_
          refine bX11_next_196 hr ?_
          exact K7 p3 p13 p14 p17

set_option maxRecDepth 20000 in
theorem t_X11_eats {d d1' : Nat} {Q : Option MV → MH → Prop} {h : MH} {v1 : Int32} (hr : zRf h) (hd : 1 ≤ d) (hd1' : d1' + 1 ≤ d) (K0 : ¬ (h.1 111 11) = 0 → Q (some (.inl (nI 0))) h) (K1 : (h.1 111 11) = 0 → ¬ (h.1 111 9) = v1 → Q (some (.inl (nI 0))) h) (K2 : (h.1 111 11) = 0 → (h.1 111 9) = v1 → Con mX11_next d1' 0 0 [.inr (.inr 111)] h (zrv fun h' => J mX11_eats d 0 0 Q 0 0 14 [some (.inr (.inr 111)), some (.inl v1)] [] h')) : Con mX11_eats d 0 0 [.inr (.inr 111), .inl v1] h Q := by
  refine Con.intro rfl (Nat.le_of_ble_eq_true rfl) ?_
  show J mX11_eats d 0 0 Q 0 0 0 [some (.inr (.inr 111)), some (.inl v1)] [] h
  refine bX11_eats_0 (d' := 0) hr (by omega) ?_
  refine t_X11_is hr ?_ ?_ ?_
  · intro p1
    refine bX11_eats_5  (fun c => absurd c (by decide)) (fun _ => ?_)
    exact bX11_eats_8  (K0 p1)
  · intro p2 p3
    refine bX11_eats_5  (fun c => absurd c (by decide)) (fun _ => ?_)
    exact bX11_eats_8  (K1 p2 p3)
  · intro p4 p5
    refine bX11_eats_5  (fun _ => ?_) (fun c => absurd c (by decide))
    exact bX11_eats_10 hr hd1' (K2 p4 p5)

set_option maxRecDepth 20000 in
theorem t_X11_eats_14 {d  : Nat} {Q : Option MV → MH → Prop} {h : MH} {v1 : Int32} (K0 : Q (some (.inl (nI 1))) h) : J mX11_eats d 0 0 Q 0 0 14 [some (.inr (.inr 111)), some (.inl v1)] [] h := by
  exact bX11_eats_14  (K0)

set_option maxRecDepth 20000 in
theorem t_X11_needs {d d1' : Nat} {Q : Option MV → MH → Prop} {h : MH} {v1 : Int32} (hr : zRf h) (hd1' : d1' + 1 ≤ d) (K0 : Con mX11_eats d1' 0 0 [.inr (.inr 111), .inl v1] h (zri fun (x : Int32) h' => J mX11_needs d 0 0 Q 0 0 5 [some (.inr (.inr 111)), some (.inl v1)] [.inl x] h')) : Con mX11_needs d 0 0 [.inr (.inr 111), .inl v1] h Q := by
  refine Con.intro rfl (Nat.le_of_ble_eq_true rfl) ?_
  show J mX11_needs d 0 0 Q 0 0 0 [some (.inr (.inr 111)), some (.inl v1)] [] h
  exact bX11_needs_0 hr hd1' (K0)

set_option maxRecDepth 20000 in
theorem t_X11_needs_5 {d  : Nat} {Q : Option MV → MH → Prop} {h : MH} {v1 vs0 : Int32} (hr : zRf h) (hd : 1 ≤ d) (K0 : ¬ vs0 = 0 → Q none h) (K1 : vs0 = 0 → (h.1 111 11) = 0 → ¬ (h.1 111 9) = (nI 15) → Q none (zsI (zsI h 111 11 (nI 2)) 111 12 ((zsI h 111 11 (nI 2)).1 111 6))) (K2 : vs0 = 0 → (h.1 111 11) = 0 → (h.1 111 9) = (nI 15) → Q none (zsI (zsI h 111 11 (nI 1)) 111 12 ((zsI h 111 11 (nI 1)).1 111 6))) (K3 : vs0 = 0 → ¬ (h.1 111 11) = 0 → Q none h) : J mX11_needs d 0 0 Q 0 0 5 [some (.inr (.inr 111)), some (.inl v1)] [.inl vs0] h := by
  refine bX11_needs_5  (fun p1 => ?_) (fun p1 => ?_)
  · exact bX11_needs_13  (K0 p1)
  · refine bX11_needs_8 (d' := 0) hr (by omega) ?_
    refine t_X11_fails hr ?_ ?_ ?_
    · intro p2 p3
      exact bX11_needs_13  (K1 p1 p2 p3)
    · intro p4 p5
      exact bX11_needs_13  (K2 p1 p4 p5)
    · intro p6
      exact bX11_needs_13  (K3 p1 p6)

set_option maxRecDepth 20000 in
theorem t_X11_takes {d d1' d2' d3' d4' d5' d6' d7' : Nat} {Q : Option MV → MH → Prop} {h : MH} {v1 v2 : Int32} (hr : zRf h) (hd : 1 ≤ d) (hd1' : d1' + 1 ≤ d) (hd2' : d2' + 1 ≤ d) (hd3' : d3' + 1 ≤ d) (hd4' : d4' + 1 ≤ d) (hd5' : d5' + 1 ≤ d) (hd6' : d6' + 1 ≤ d) (hd7' : d7' + 1 ≤ d) (K0 : ¬ (h.1 111 11) = 0 → Q (some (.inl (h.1 111 10))) h) (K1 : (h.1 111 11) = 0 → ¬ (h.1 111 9) = (nI 12) → ¬ (h.1 111 9) = (nI 15) → ¬ ((zsI (zsI h 111 11 (nI 2)) 111 12 ((zsI h 111 11 (nI 2)).1 111 6)).1 111 11) = 0 → Q (some (.inl ((zsI (zsI h 111 11 (nI 2)) 111 12 ((zsI h 111 11 (nI 2)).1 111 6)).1 111 10))) (zsI (zsI h 111 11 (nI 2)) 111 12 ((zsI h 111 11 (nI 2)).1 111 6))) (K2 : (h.1 111 11) = 0 → ¬ (h.1 111 9) = (nI 12) → ¬ (h.1 111 9) = (nI 15) → ((zsI (zsI h 111 11 (nI 2)) 111 12 ((zsI h 111 11 (nI 2)).1 111 6)).1 111 11) = 0 → Con mX11_next d1' 0 0 [.inr (.inr 111)] (zsI (zsI h 111 11 (nI 2)) 111 12 ((zsI h 111 11 (nI 2)).1 111 6)) (zrv fun h' => J mX11_takes d 0 0 Q 0 0 53 [some (.inr (.inr 111)), some (.inl v1), some (.inl v2), some (.inl ((zsI (zsI h 111 11 (nI 2)) 111 12 ((zsI h 111 11 (nI 2)).1 111 6)).1 111 10))] [] h')) (K3 : (h.1 111 11) = 0 → ¬ (h.1 111 9) = (nI 12) → (h.1 111 9) = (nI 15) → ¬ ((zsI (zsI h 111 11 (nI 1)) 111 12 ((zsI h 111 11 (nI 1)).1 111 6)).1 111 11) = 0 → Q (some (.inl ((zsI (zsI h 111 11 (nI 1)) 111 12 ((zsI h 111 11 (nI 1)).1 111 6)).1 111 10))) (zsI (zsI h 111 11 (nI 1)) 111 12 ((zsI h 111 11 (nI 1)).1 111 6))) (K4 : (h.1 111 11) = 0 → ¬ (h.1 111 9) = (nI 12) → (h.1 111 9) = (nI 15) → ((zsI (zsI h 111 11 (nI 1)) 111 12 ((zsI h 111 11 (nI 1)).1 111 6)).1 111 11) = 0 → Con mX11_next d2' 0 0 [.inr (.inr 111)] (zsI (zsI h 111 11 (nI 1)) 111 12 ((zsI h 111 11 (nI 1)).1 111 6)) (zrv fun h' => J mX11_takes d 0 0 Q 0 0 53 [some (.inr (.inr 111)), some (.inl v1), some (.inl v2), some (.inl ((zsI (zsI h 111 11 (nI 1)) 111 12 ((zsI h 111 11 (nI 1)).1 111 6)).1 111 10))] [] h')) (K5 : (h.1 111 11) = 0 → (h.1 111 9) = (nI 12) → ¬ v1.toInt64 ≤ ((h.1 111 10).toInt64) → ¬ (h.1 111 9) = (nI 15) → ¬ ((zsI (zsI h 111 11 (nI 3)) 111 12 ((zsI h 111 11 (nI 3)).1 111 6)).1 111 11) = 0 → Q (some (.inl ((zsI (zsI h 111 11 (nI 3)) 111 12 ((zsI h 111 11 (nI 3)).1 111 6)).1 111 10))) (zsI (zsI h 111 11 (nI 3)) 111 12 ((zsI h 111 11 (nI 3)).1 111 6))) (K6 : (h.1 111 11) = 0 → (h.1 111 9) = (nI 12) → ¬ v1.toInt64 ≤ ((h.1 111 10).toInt64) → ¬ (h.1 111 9) = (nI 15) → ((zsI (zsI h 111 11 (nI 3)) 111 12 ((zsI h 111 11 (nI 3)).1 111 6)).1 111 11) = 0 → Con mX11_next d3' 0 0 [.inr (.inr 111)] (zsI (zsI h 111 11 (nI 3)) 111 12 ((zsI h 111 11 (nI 3)).1 111 6)) (zrv fun h' => J mX11_takes d 0 0 Q 0 0 53 [some (.inr (.inr 111)), some (.inl v1), some (.inl v2), some (.inl ((zsI (zsI h 111 11 (nI 3)) 111 12 ((zsI h 111 11 (nI 3)).1 111 6)).1 111 10))] [] h')) (K7 : (h.1 111 11) = 0 → (h.1 111 9) = (nI 12) → ¬ v1.toInt64 ≤ ((h.1 111 10).toInt64) → (h.1 111 9) = (nI 15) → ¬ ((zsI (zsI h 111 11 (nI 1)) 111 12 ((zsI h 111 11 (nI 1)).1 111 6)).1 111 11) = 0 → Q (some (.inl ((zsI (zsI h 111 11 (nI 1)) 111 12 ((zsI h 111 11 (nI 1)).1 111 6)).1 111 10))) (zsI (zsI h 111 11 (nI 1)) 111 12 ((zsI h 111 11 (nI 1)).1 111 6))) (K8 : (h.1 111 11) = 0 → (h.1 111 9) = (nI 12) → ¬ v1.toInt64 ≤ ((h.1 111 10).toInt64) → (h.1 111 9) = (nI 15) → ((zsI (zsI h 111 11 (nI 1)) 111 12 ((zsI h 111 11 (nI 1)).1 111 6)).1 111 11) = 0 → Con mX11_next d4' 0 0 [.inr (.inr 111)] (zsI (zsI h 111 11 (nI 1)) 111 12 ((zsI h 111 11 (nI 1)).1 111 6)) (zrv fun h' => J mX11_takes d 0 0 Q 0 0 53 [some (.inr (.inr 111)), some (.inl v1), some (.inl v2), some (.inl ((zsI (zsI h 111 11 (nI 1)) 111 12 ((zsI h 111 11 (nI 1)).1 111 6)).1 111 10))] [] h')) (K9 : (h.1 111 11) = 0 → (h.1 111 9) = (nI 12) → v1.toInt64 ≤ ((h.1 111 10).toInt64) → ¬ ((h.1 111 10).toInt64) ≤ v2.toInt64 → ¬ (h.1 111 9) = (nI 15) → ¬ ((zsI (zsI h 111 11 (nI 3)) 111 12 ((zsI h 111 11 (nI 3)).1 111 6)).1 111 11) = 0 → Q (some (.inl ((zsI (zsI h 111 11 (nI 3)) 111 12 ((zsI h 111 11 (nI 3)).1 111 6)).1 111 10))) (zsI (zsI h 111 11 (nI 3)) 111 12 ((zsI h 111 11 (nI 3)).1 111 6))) (K10 : (h.1 111 11) = 0 → (h.1 111 9) = (nI 12) → v1.toInt64 ≤ ((h.1 111 10).toInt64) → ¬ ((h.1 111 10).toInt64) ≤ v2.toInt64 → ¬ (h.1 111 9) = (nI 15) → ((zsI (zsI h 111 11 (nI 3)) 111 12 ((zsI h 111 11 (nI 3)).1 111 6)).1 111 11) = 0 → Con mX11_next d5' 0 0 [.inr (.inr 111)] (zsI (zsI h 111 11 (nI 3)) 111 12 ((zsI h 111 11 (nI 3)).1 111 6)) (zrv fun h' => J mX11_takes d 0 0 Q 0 0 53 [some (.inr (.inr 111)), some (.inl v1), some (.inl v2), some (.inl ((zsI (zsI h 111 11 (nI 3)) 111 12 ((zsI h 111 11 (nI 3)).1 111 6)).1 111 10))] [] h')) (K11 : (h.1 111 11) = 0 → (h.1 111 9) = (nI 12) → v1.toInt64 ≤ ((h.1 111 10).toInt64) → ¬ ((h.1 111 10).toInt64) ≤ v2.toInt64 → (h.1 111 9) = (nI 15) → ¬ ((zsI (zsI h 111 11 (nI 1)) 111 12 ((zsI h 111 11 (nI 1)).1 111 6)).1 111 11) = 0 → Q (some (.inl ((zsI (zsI h 111 11 (nI 1)) 111 12 ((zsI h 111 11 (nI 1)).1 111 6)).1 111 10))) (zsI (zsI h 111 11 (nI 1)) 111 12 ((zsI h 111 11 (nI 1)).1 111 6))) (K12 : (h.1 111 11) = 0 → (h.1 111 9) = (nI 12) → v1.toInt64 ≤ ((h.1 111 10).toInt64) → ¬ ((h.1 111 10).toInt64) ≤ v2.toInt64 → (h.1 111 9) = (nI 15) → ((zsI (zsI h 111 11 (nI 1)) 111 12 ((zsI h 111 11 (nI 1)).1 111 6)).1 111 11) = 0 → Con mX11_next d6' 0 0 [.inr (.inr 111)] (zsI (zsI h 111 11 (nI 1)) 111 12 ((zsI h 111 11 (nI 1)).1 111 6)) (zrv fun h' => J mX11_takes d 0 0 Q 0 0 53 [some (.inr (.inr 111)), some (.inl v1), some (.inl v2), some (.inl ((zsI (zsI h 111 11 (nI 1)) 111 12 ((zsI h 111 11 (nI 1)).1 111 6)).1 111 10))] [] h')) (K13 : (h.1 111 11) = 0 → (h.1 111 9) = (nI 12) → v1.toInt64 ≤ ((h.1 111 10).toInt64) → ((h.1 111 10).toInt64) ≤ v2.toInt64 → Con mX11_next d7' 0 0 [.inr (.inr 111)] h (zrv fun h' => J mX11_takes d 0 0 Q 0 0 53 [some (.inr (.inr 111)), some (.inl v1), some (.inl v2), some (.inl (h.1 111 10))] [] h')) : Con mX11_takes d 0 0 [.inr (.inr 111), .inl v1, .inl v2] h Q := by
  refine Con.intro rfl (Nat.le_of_ble_eq_true rfl) ?_
  show J mX11_takes d 0 0 Q 0 0 0 [some (.inr (.inr 111)), some (.inl v1), some (.inl v2), none] [] h
  refine bX11_takes_0 (d' := 0) hr (by omega) ?_
  refine t_X11_is hr ?_ ?_ ?_
  · intro p1
    refine bX11_takes_6  (fun c => absurd c (by decide)) (fun _ => ?_)
    refine bX11_takes_9 (d' := 0) hr (by omega) ?_
    refine t_X11_fails hr ?_ ?_ ?_
    · intro p6 p7; exact absurd p6 p1
    · intro p8 p9; exact absurd p8 p1
    · intro p10
      refine bX11_takes_14  ?_
      refine bX11_takes_37 hr (fun _ => ?_) (fun c => absurd c p1)
      exact bX11_takes_53  (K0 p1)
  · intro p2 p3
    refine bX11_takes_6  (fun c => absurd c (by decide)) (fun _ => ?_)
    refine bX11_takes_9 (d' := 0) hr (by omega) ?_
    refine t_X11_fails hr ?_ ?_ ?_
    · intro p11 p12
      refine bX11_takes_14  ?_
      refine bX11_takes_37 hr (fun p16 => ?_) (fun p16 => ?_)
      · exact bX11_takes_53  (K1 p2 p3 p12 p16)
      · exact bX11_takes_49 hr hd1' (K2 p2 p3 p12 p16)
    · intro p13 p14
      refine bX11_takes_14  ?_
      refine bX11_takes_37 hr (fun p17 => ?_) (fun p17 => ?_)
      · exact bX11_takes_53  (K3 p2 p3 p14 p17)
      · exact bX11_takes_49 hr hd2' (K4 p2 p3 p14 p17)
    · intro p15; exact absurd p2 p15
  · intro p4 p5
    refine bX11_takes_6  (fun _ => ?_) (fun c => absurd c (by decide))
    refine bX11_takes_17 (d' := 0) hr (by omega) ?_
    refine t_X11_within  ?_ ?_ ?_
    · intro p18
      refine bX11_takes_29  (fun c => absurd c (by decide)) (fun _ => ?_)
      refine bX11_takes_32 (d' := 0) hr (by omega) ?_
      refine t_X11_fails hr ?_ ?_ ?_
      · intro p23 p24
        refine bX11_takes_37 hr (fun p28 => ?_) (fun p28 => ?_)
        · exact bX11_takes_53  (K5 p4 p5 p18 p24 p28)
        · exact bX11_takes_49 hr hd3' (K6 p4 p5 p18 p24 p28)
      · intro p25 p26
        refine bX11_takes_37 hr (fun p29 => ?_) (fun p29 => ?_)
        · exact bX11_takes_53  (K7 p4 p5 p18 p26 p29)
        · exact bX11_takes_49 hr hd4' (K8 p4 p5 p18 p26 p29)
      · intro p27; exact absurd p4 p27
    · intro p19 p20
      refine bX11_takes_29  (fun c => absurd c (by decide)) (fun _ => ?_)
      refine bX11_takes_32 (d' := 0) hr (by omega) ?_
      refine t_X11_fails hr ?_ ?_ ?_
      · intro p30 p31
        refine bX11_takes_37 hr (fun p35 => ?_) (fun p35 => ?_)
        · exact bX11_takes_53  (K9 p4 p5 p19 p20 p31 p35)
        · exact bX11_takes_49 hr hd5' (K10 p4 p5 p19 p20 p31 p35)
      · intro p32 p33
        refine bX11_takes_37 hr (fun p36 => ?_) (fun p36 => ?_)
        · exact bX11_takes_53  (K11 p4 p5 p19 p20 p33 p36)
        · exact bX11_takes_49 hr hd6' (K12 p4 p5 p19 p20 p33 p36)
      · intro p34; exact absurd p4 p34
    · intro p21 p22
      refine bX11_takes_29  (fun _ => ?_) (fun c => absurd c (by decide))
      refine bX11_takes_37 hr (fun c => absurd p4 c) (fun _ => ?_)
      exact bX11_takes_49 hr hd7' (K13 p4 p5 p21 p22)

set_option maxRecDepth 20000 in
theorem t_X11_takes_53 {d  : Nat} {Q : Option MV → MH → Prop} {h : MH} {v1 v2 v3 : Int32} (K0 : Q (some (.inl v3)) h) : J mX11_takes d 0 0 Q 0 0 53 [some (.inr (.inr 111)), some (.inl v1), some (.inl v2), some (.inl v3)] [] h := by
  exact bX11_takes_53  (K0)

set_option maxRecDepth 20000 in
theorem t_X11_begins {d  : Nat} {Q : Option MV → MH → Prop} {h : MH} {v1 : Int32} (hr : zRf h) (K0 : J mX11_begins d 0 0 Q 0 0 22 [some (.inr (.inr 111)), some (.inl v1), some (.inl (nI 0))] [] (zsI (zsI (zsI (zsI h 111 8 v1) 111 5 (nI 0)) 111 7 (nI 0)) 111 11 (nI 0))) : Con mX11_begins d 0 0 [.inr (.inr 111), .inl v1] h Q := by
  refine Con.intro rfl (Nat.le_of_ble_eq_true rfl) ?_
  show J mX11_begins d 0 0 Q 0 0 0 [some (.inr (.inr 111)), some (.inl v1), none] [] h
  refine bX11_begins_0 hr ?_
  exact K0

set_option maxRecDepth 20000 in
theorem t_X11_begins_22 {d d1' : Nat} {Q : Option MV → MH → Prop} {h : MH} {v1 v2 : Int32} (hr : zRf h) (hd1' : d1' + 1 ≤ d) (G0 : ¬ (nI 236) ≤ v2 → vp_in v2 236) (K0 : (nI 236) ≤ v2 → Con mX11_next d1' 0 0 [.inr (.inr 111)] h (zrv fun h' => J mX11_begins d 0 0 Q 0 0 48 [some (.inr (.inr 111)), some (.inl v1), some (.inl v2)] [] h')) (K1 : ¬ (nI 236) ≤ v2 → J mX11_begins d 0 0 Q 0 0 22 [some (.inr (.inr 111)), some (.inl v1), some (.inl (v2 + nI 1))] [] (zsI h 115 v2.toNatClampNeg (nI 0))) : J mX11_begins d 0 0 Q 0 0 22 [some (.inr (.inr 111)), some (.inl v1), some (.inl v2)] [] h := by
  refine bX11_begins_22 hr (fun p1 => ?_) (fun p1 => ?_)
  · exact bX11_begins_44 hr hd1' (K0 p1)
  · refine bX11_begins_31 hr (G0 p1) ?_
    exact K1 p1

set_option maxRecDepth 20000 in
theorem t_X11_begins_48 {d  : Nat} {Q : Option MV → MH → Prop} {h : MH} {v1 v2 : Int32} (K0 : Q none h) : J mX11_begins d 0 0 Q 0 0 48 [some (.inr (.inr 111)), some (.inl v1), some (.inl v2)] [] h := by
  exact bX11_begins_48  (K0)

set_option maxRecDepth 20000 in
theorem t_X11_told {d  : Nat} {Q : Option MV → MH → Prop} {h : MH} (hr : zRf h) (K0 : ¬ ((zsI h 111 13 (h.1 111 11)).1 111 11) = 0 → ¬ ((zsI (zsI h 111 13 (h.1 111 11)) 111 14 ((zsI h 111 13 (h.1 111 11)).1 111 12)).1 111 11) = 0 → Q (some (.inl ((-(nI 30)) - ((zsI (zsI h 111 13 (h.1 111 11)) 111 14 ((zsI h 111 13 (h.1 111 11)).1 111 12)).1 111 11)))) (zsI (zsI h 111 13 (h.1 111 11)) 111 14 ((zsI h 111 13 (h.1 111 11)).1 111 12))) (K1 : ¬ ((zsI h 111 13 (h.1 111 11)).1 111 11) = 0 → ((zsI (zsI h 111 13 (h.1 111 11)) 111 14 ((zsI h 111 13 (h.1 111 11)).1 111 12)).1 111 11) = 0 → Q (some (.inl (nI 0))) (zsI (zsI h 111 13 (h.1 111 11)) 111 14 ((zsI h 111 13 (h.1 111 11)).1 111 12))) (K2 : ((zsI h 111 13 (h.1 111 11)).1 111 11) = 0 → ¬ ((zsI (zsI h 111 13 (h.1 111 11)) 111 14 (-(nI 1))).1 111 11) = 0 → Q (some (.inl ((-(nI 30)) - ((zsI (zsI h 111 13 (h.1 111 11)) 111 14 (-(nI 1))).1 111 11)))) (zsI (zsI h 111 13 (h.1 111 11)) 111 14 (-(nI 1)))) (K3 : ((zsI h 111 13 (h.1 111 11)).1 111 11) = 0 → ((zsI (zsI h 111 13 (h.1 111 11)) 111 14 (-(nI 1))).1 111 11) = 0 → Q (some (.inl (nI 0))) (zsI (zsI h 111 13 (h.1 111 11)) 111 14 (-(nI 1)))) : Con mX11_told d 0 0 [.inr (.inr 111)] h Q := by
  refine Con.intro rfl (Nat.le_of_ble_eq_true rfl) ?_
  show J mX11_told d 0 0 Q 0 0 0 [some (.inr (.inr 111))] [] h
  refine bX11_told_0 hr (fun p1 => ?_) (fun p1 => ?_)
  · refine bX11_told_20 hr ?_
    refine bX11_told_24 hr (fun p2 => ?_) (fun p2 => ?_)
    · refine bX11_told_38 hr ?_
      exact bX11_told_45  (K0 p1 p2)
    · refine bX11_told_34  ?_
      exact bX11_told_45  (K1 p1 p2)
  · refine bX11_told_16  ?_
    refine bX11_told_24 hr (fun p3 => ?_) (fun p3 => ?_)
    · refine bX11_told_38 hr ?_
      exact bX11_told_45  (K2 p1 p3)
    · refine bX11_told_34  ?_
      exact bX11_told_45  (K3 p1 p3)

set_option maxRecDepth 20000 in
theorem t_X11_readCandle {d d1' d2' d3' d4' d5' : Nat} {Q : Option MV → MH → Prop} {h : MH} (hr : zRf h) (hd : 1 ≤ d) (hd1' : d1' + 1 ≤ d) (hd2' : d2' + 1 ≤ d) (hd3' : d3' + 1 ≤ d) (hd4' : d4' + 1 ≤ d) (hd5' : d5' + 1 ≤ d) (K0 : ¬ (h.1 111 11) = 0 → Q none h) (K1 : (h.1 111 11) = 0 → ¬ (h.1 111 9) = (nI 0) → ¬ (h.1 111 9) = (nI 15) → ((zsI (zsI h 111 11 (nI 2)) 111 12 ((zsI h 111 11 (nI 2)).1 111 6)).1 111 11) = 0 → Con mX11_next d1' 0 0 [.inr (.inr 111)] (zsI (zsI h 111 11 (nI 2)) 111 12 ((zsI h 111 11 (nI 2)).1 111 6)) (zrv fun h' => J mX11_readCandle d 0 0 Q 0 0 46 [some (.inr (.inr 111)), some (.inl (h.1 115 0)), none, none] [] h')) (K2 : (h.1 111 11) = 0 → ¬ (h.1 111 9) = (nI 0) → ¬ (h.1 111 9) = (nI 15) → ¬ ((zsI (zsI h 111 11 (nI 2)) 111 12 ((zsI h 111 11 (nI 2)).1 111 6)).1 111 11) = 0 → Q none (zsI (zsI h 111 11 (nI 2)) 111 12 ((zsI h 111 11 (nI 2)).1 111 6))) (K3 : (h.1 111 11) = 0 → ¬ (h.1 111 9) = (nI 0) → (h.1 111 9) = (nI 15) → ((zsI (zsI h 111 11 (nI 1)) 111 12 ((zsI h 111 11 (nI 1)).1 111 6)).1 111 11) = 0 → Con mX11_next d2' 0 0 [.inr (.inr 111)] (zsI (zsI h 111 11 (nI 1)) 111 12 ((zsI h 111 11 (nI 1)).1 111 6)) (zrv fun h' => J mX11_readCandle d 0 0 Q 0 0 46 [some (.inr (.inr 111)), some (.inl (h.1 115 0)), none, none] [] h')) (K4 : (h.1 111 11) = 0 → ¬ (h.1 111 9) = (nI 0) → (h.1 111 9) = (nI 15) → ¬ ((zsI (zsI h 111 11 (nI 1)) 111 12 ((zsI h 111 11 (nI 1)).1 111 6)).1 111 11) = 0 → Q none (zsI (zsI h 111 11 (nI 1)) 111 12 ((zsI h 111 11 (nI 1)).1 111 6))) (K5 : (h.1 111 11) = 0 → (h.1 111 9) = (nI 0) → ¬ (h.1 115 0) = (nI 8) → Con mX11_next d3' 0 0 [.inr (.inr 111)] h (zrv fun h' => J mX11_readCandle d 0 0 Q 0 0 46 [some (.inr (.inr 111)), some (.inl (h.1 115 0)), none, none] [] h')) (K6 : (h.1 111 11) = 0 → (h.1 111 9) = (nI 0) → (h.1 115 0) = (nI 8) → ¬ (h.1 111 9) = (nI 15) → ((zsI (zsI h 111 11 (nI 4)) 111 12 ((zsI h 111 11 (nI 4)).1 111 6)).1 111 11) = 0 → Con mX11_next d4' 0 0 [.inr (.inr 111)] (zsI (zsI h 111 11 (nI 4)) 111 12 ((zsI h 111 11 (nI 4)).1 111 6)) (zrv fun h' => J mX11_readCandle d 0 0 Q 0 0 46 [some (.inr (.inr 111)), some (.inl (h.1 115 0)), none, none] [] h')) (K7 : (h.1 111 11) = 0 → (h.1 111 9) = (nI 0) → (h.1 115 0) = (nI 8) → ¬ (h.1 111 9) = (nI 15) → ¬ ((zsI (zsI h 111 11 (nI 4)) 111 12 ((zsI h 111 11 (nI 4)).1 111 6)).1 111 11) = 0 → Q none (zsI (zsI h 111 11 (nI 4)) 111 12 ((zsI h 111 11 (nI 4)).1 111 6))) (K8 : (h.1 111 11) = 0 → (h.1 111 9) = (nI 0) → (h.1 115 0) = (nI 8) → (h.1 111 9) = (nI 15) → ((zsI (zsI h 111 11 (nI 1)) 111 12 ((zsI h 111 11 (nI 1)).1 111 6)).1 111 11) = 0 → Con mX11_next d5' 0 0 [.inr (.inr 111)] (zsI (zsI h 111 11 (nI 1)) 111 12 ((zsI h 111 11 (nI 1)).1 111 6)) (zrv fun h' => J mX11_readCandle d 0 0 Q 0 0 46 [some (.inr (.inr 111)), some (.inl (h.1 115 0)), none, none] [] h')) (K9 : (h.1 111 11) = 0 → (h.1 111 9) = (nI 0) → (h.1 115 0) = (nI 8) → (h.1 111 9) = (nI 15) → ¬ ((zsI (zsI h 111 11 (nI 1)) 111 12 ((zsI h 111 11 (nI 1)).1 111 6)).1 111 11) = 0 → Q none (zsI (zsI h 111 11 (nI 1)) 111 12 ((zsI h 111 11 (nI 1)).1 111 6))) : Con mX11_readCandle d 0 0 [.inr (.inr 111)] h Q := by
  refine Con.intro rfl (Nat.le_of_ble_eq_true rfl) ?_
  show J mX11_readCandle d 0 0 Q 0 0 0 [some (.inr (.inr 111)), none, none, none] [] h
  refine bX11_readCandle_0 (d' := 0) hr (vp_in_nI (by decide) (by decide)) (by omega) ?_
  refine t_X11_is hr ?_ ?_ ?_
  · intro p1
    refine bX11_readCandle_12  (fun c => absurd c (by decide)) (fun _ => ?_)
    refine bX11_readCandle_15 (d' := 0) hr (by omega) ?_
    refine t_X11_fails hr ?_ ?_ ?_
    · intro p6 p7; exact absurd p6 p1
    · intro p8 p9; exact absurd p8 p1
    · intro p10
      refine bX11_readCandle_20  ?_
      refine bX11_readCandle_34 hr (fun c => absurd c p1) (fun _ => ?_)
      exact bX11_readCandle_41  (K0 p1)
  · intro p2 p3
    refine bX11_readCandle_12  (fun c => absurd c (by decide)) (fun _ => ?_)
    refine bX11_readCandle_15 (d' := 0) hr (by omega) ?_
    refine t_X11_fails hr ?_ ?_ ?_
    · intro p11 p12
      refine bX11_readCandle_20  ?_
      refine bX11_readCandle_34 hr (fun p16 => ?_) (fun p16 => ?_)
      · exact bX11_readCandle_42 hr hd1' (K1 p2 p3 p12 p16)
      · exact bX11_readCandle_41  (K2 p2 p3 p12 p16)
    · intro p13 p14
      refine bX11_readCandle_20  ?_
      refine bX11_readCandle_34 hr (fun p17 => ?_) (fun p17 => ?_)
      · exact bX11_readCandle_42 hr hd2' (K3 p2 p3 p14 p17)
      · exact bX11_readCandle_41  (K4 p2 p3 p14 p17)
    · intro p15; exact absurd p2 p15
  · intro p4 p5
    refine bX11_readCandle_12  (fun _ => ?_) (fun c => absurd c (by decide))
    refine bX11_readCandle_23  (fun p18 => ?_) (fun p18 => ?_)
    · refine bX11_readCandle_34 hr (fun _ => ?_) (fun c => absurd p4 c)
      exact bX11_readCandle_42 hr hd3' (K5 p4 p5 p18)
    · refine bX11_readCandle_29 (d' := 0) hr (by omega) ?_
      refine t_X11_fails hr ?_ ?_ ?_
      · intro p19 p20
        refine bX11_readCandle_34 hr (fun p24 => ?_) (fun p24 => ?_)
        · exact bX11_readCandle_42 hr hd4' (K6 p4 p5 p18 p20 p24)
        · exact bX11_readCandle_41  (K7 p4 p5 p18 p20 p24)
      · intro p21 p22
        refine bX11_readCandle_34 hr (fun p25 => ?_) (fun p25 => ?_)
        · exact bX11_readCandle_42 hr hd5' (K8 p4 p5 p18 p22 p25)
        · exact bX11_readCandle_41  (K9 p4 p5 p18 p22 p25)
      · intro p23; exact absurd p4 p23

set_option maxRecDepth 20000 in
theorem t_X11_readCandle_46 {d  : Nat} {Q : Option MV → MH → Prop} {h : MH} {v1 : Int32} (K0 : J mX11_readCandle d 0 0 Q 0 0 48 [some (.inr (.inr 111)), some (.inl v1), some (.inl (nI 0)), none] [] h) : J mX11_readCandle d 0 0 Q 0 0 46 [some (.inr (.inr 111)), some (.inl v1), none, none] [] h := by
  refine bX11_readCandle_46  ?_
  exact K0

set_option maxRecDepth 20000 in
theorem t_X11_readCandle_48 {d d1' d2' d3' d4' d5' d6' d7' d8' d9' d10' d11' d12' d13' : Nat} {Q : Option MV → MH → Prop} {h : MH} {u3 : Option MV} {v1 v2 : Int32} (hr : zRf h) (hd : 1 ≤ d) (hd1' : d1' + 1 ≤ d) (hd2' : d2' + 1 ≤ d) (hd3' : d3' + 1 ≤ d) (hd4' : d4' + 1 ≤ d) (hd5' : d5' + 1 ≤ d) (hd6' : d6' + 1 ≤ d) (hd7' : d7' + 1 ≤ d) (hd8' : d8' + 1 ≤ d) (hd9' : d9' + 1 ≤ d) (hd10' : d10' + 1 ≤ d) (hd11' : d11' + 1 ≤ d) (hd12' : d12' + 1 ≤ d) (hd13' : d13' + 1 ≤ d) (G0 : ¬ v2 = 0 → ¬ (h.1 111 11) = 0 → vp_in ((nI 1) + v1) 236) (G1 : ¬ v2 = 0 → ¬ (h.1 111 11) = 0 → vp_in ((nI 57) + v1) 236) (G2 : ¬ v2 = 0 → (h.1 111 11) = 0 → ¬ (h.1 111 9) = (nI 12) → vp_in ((nI 1) + v1) 236) (G3 : ¬ v2 = 0 → (h.1 111 11) = 0 → ¬ (h.1 111 9) = (nI 12) → vp_in ((nI 57) + v1) 236) (K0 : v2 = 0 → ¬ v2 = (nI 6) → Con mX11_takes d1' 0 0 [.inr (.inr 111), .inl (nI 1), .inl (nI 60)] h (zri fun (x : Int32) h' => J mX11_readCandle d 0 0 Q 0 0 94 [some (.inr (.inr 111)), some (.inl v1), some (.inl v2), u3] [.inl x] h')) (K1 : v2 = 0 → v2 = (nI 6) → ¬ (lN 1) ≤ ((h.1 111 10).toInt64) → Con mX11_takes d2' 0 0 [.inr (.inr 111), .inl (nI 1), .inl (nI 60)] h (zri fun (x : Int32) h' => J mX11_readCandle d 0 0 Q 0 0 94 [some (.inr (.inr 111)), some (.inl v1), some (.inl v2), u3] [.inl x] h')) (K2 : v2 = 0 → v2 = (nI 6) → (lN 1) ≤ ((h.1 111 10).toInt64) → ¬ ((h.1 111 10).toInt64) ≤ (60 : Int64) → Con mX11_takes d3' 0 0 [.inr (.inr 111), .inl (nI 1), .inl (nI 60)] h (zri fun (x : Int32) h' => J mX11_readCandle d 0 0 Q 0 0 94 [some (.inr (.inr 111)), some (.inl v1), some (.inl v2), u3] [.inl x] h')) (K3 : v2 = 0 → v2 = (nI 6) → (lN 1) ≤ ((h.1 111 10).toInt64) → ((h.1 111 10).toInt64) ≤ (60 : Int64) → (h.1 111 11) = 0 → ¬ (h.1 111 9) = (nI 15) → Con mX11_takes d4' 0 0 [.inr (.inr 111), .inl (nI 1), .inl (nI 60)] (zsI (zsI h 111 11 (nI 4)) 111 12 ((zsI h 111 11 (nI 4)).1 111 6)) (zri fun (x : Int32) h' => J mX11_readCandle d 0 0 Q 0 0 94 [some (.inr (.inr 111)), some (.inl v1), some (.inl v2), u3] [.inl x] h')) (K4 : v2 = 0 → v2 = (nI 6) → (lN 1) ≤ ((h.1 111 10).toInt64) → ((h.1 111 10).toInt64) ≤ (60 : Int64) → (h.1 111 11) = 0 → (h.1 111 9) = (nI 15) → Con mX11_takes d5' 0 0 [.inr (.inr 111), .inl (nI 1), .inl (nI 60)] (zsI (zsI h 111 11 (nI 1)) 111 12 ((zsI h 111 11 (nI 1)).1 111 6)) (zri fun (x : Int32) h' => J mX11_readCandle d 0 0 Q 0 0 94 [some (.inr (.inr 111)), some (.inl v1), some (.inl v2), u3] [.inl x] h')) (K5 : v2 = 0 → v2 = (nI 6) → (lN 1) ≤ ((h.1 111 10).toInt64) → ((h.1 111 10).toInt64) ≤ (60 : Int64) → ¬ (h.1 111 11) = 0 → Con mX11_takes d6' 0 0 [.inr (.inr 111), .inl (nI 1), .inl (nI 60)] h (zri fun (x : Int32) h' => J mX11_readCandle d 0 0 Q 0 0 94 [some (.inr (.inr 111)), some (.inl v1), some (.inl v2), u3] [.inl x] h')) (K6 : ¬ v2 = 0 → ¬ (h.1 111 11) = 0 → Con mX11_eats d7' 0 0 [.inr (.inr 111), .inl (nI 1)] (zsI (zsI h 115 ((nI 1) + v1).toNatClampNeg v2) 115 ((nI 57) + v1).toNatClampNeg (nI 60)) (zri fun (x : Int32) h' => J mX11_readCandle d 0 0 Q 0 0 149 [some (.inr (.inr 111)), some (.inl v1), some (.inl v2), u3] [.inl x] h')) (K7 : ¬ v2 = 0 → (h.1 111 11) = 0 → ¬ (h.1 111 9) = (nI 12) → Con mX11_eats d8' 0 0 [.inr (.inr 111), .inl (nI 1)] (zsI (zsI h 115 ((nI 1) + v1).toNatClampNeg v2) 115 ((nI 57) + v1).toNatClampNeg (nI 60)) (zri fun (x : Int32) h' => J mX11_readCandle d 0 0 Q 0 0 149 [some (.inr (.inr 111)), some (.inl v1), some (.inl v2), u3] [.inl x] h')) (K8 : ¬ v2 = 0 → (h.1 111 11) = 0 → (h.1 111 9) = (nI 12) → ¬ v2 = (nI 6) → Con mX11_takes d9' 0 0 [.inr (.inr 111), .inl (nI 1), .inl (nI 60)] h (zri fun (x : Int32) h' => J mX11_readCandle d 0 0 Q 0 0 94 [some (.inr (.inr 111)), some (.inl v1), some (.inl v2), u3] [.inl x] h')) (K9 : ¬ v2 = 0 → (h.1 111 11) = 0 → (h.1 111 9) = (nI 12) → v2 = (nI 6) → ¬ (lN 1) ≤ ((h.1 111 10).toInt64) → Con mX11_takes d10' 0 0 [.inr (.inr 111), .inl (nI 1), .inl (nI 60)] h (zri fun (x : Int32) h' => J mX11_readCandle d 0 0 Q 0 0 94 [some (.inr (.inr 111)), some (.inl v1), some (.inl v2), u3] [.inl x] h')) (K10 : ¬ v2 = 0 → (h.1 111 11) = 0 → (h.1 111 9) = (nI 12) → v2 = (nI 6) → (lN 1) ≤ ((h.1 111 10).toInt64) → ¬ ((h.1 111 10).toInt64) ≤ (60 : Int64) → Con mX11_takes d11' 0 0 [.inr (.inr 111), .inl (nI 1), .inl (nI 60)] h (zri fun (x : Int32) h' => J mX11_readCandle d 0 0 Q 0 0 94 [some (.inr (.inr 111)), some (.inl v1), some (.inl v2), u3] [.inl x] h')) (K11 : ¬ v2 = 0 → (h.1 111 11) = 0 → (h.1 111 9) = (nI 12) → v2 = (nI 6) → (lN 1) ≤ ((h.1 111 10).toInt64) → ((h.1 111 10).toInt64) ≤ (60 : Int64) → ¬ (h.1 111 9) = (nI 15) → Con mX11_takes d12' 0 0 [.inr (.inr 111), .inl (nI 1), .inl (nI 60)] (zsI (zsI h 111 11 (nI 4)) 111 12 ((zsI h 111 11 (nI 4)).1 111 6)) (zri fun (x : Int32) h' => J mX11_readCandle d 0 0 Q 0 0 94 [some (.inr (.inr 111)), some (.inl v1), some (.inl v2), u3] [.inl x] h')) (K12 : ¬ v2 = 0 → (h.1 111 11) = 0 → (h.1 111 9) = (nI 12) → v2 = (nI 6) → (lN 1) ≤ ((h.1 111 10).toInt64) → ((h.1 111 10).toInt64) ≤ (60 : Int64) → (h.1 111 9) = (nI 15) → Con mX11_takes d13' 0 0 [.inr (.inr 111), .inl (nI 1), .inl (nI 60)] (zsI (zsI h 111 11 (nI 1)) 111 12 ((zsI h 111 11 (nI 1)).1 111 6)) (zri fun (x : Int32) h' => J mX11_readCandle d 0 0 Q 0 0 94 [some (.inr (.inr 111)), some (.inl v1), some (.inl v2), u3] [.inl x] h')) : J mX11_readCandle d 0 0 Q 0 0 48 [some (.inr (.inr 111)), some (.inl v1), some (.inl v2), u3] [] h := by
  refine bX11_readCandle_48  (fun p1 => ?_) (fun p1 => ?_)
  · refine bX11_readCandle_61  (fun p2 => ?_) (fun p2 => ?_)
    · exact bX11_readCandle_87 hr hd1' (K0 p1 p2)
    · refine bX11_readCandle_67 (d' := 0) hr (by omega) ?_
      refine t_X11_within  ?_ ?_ ?_
      · intro p3
        refine bX11_readCandle_79  (fun _ => ?_) (fun c => absurd c (by decide))
        exact bX11_readCandle_87 hr hd2' (K1 p1 p2 p3)
      · intro p4 p5
        refine bX11_readCandle_79  (fun _ => ?_) (fun c => absurd c (by decide))
        exact bX11_readCandle_87 hr hd3' (K2 p1 p2 p4 p5)
      · intro p6 p7
        refine bX11_readCandle_79  (fun c => absurd c (by decide)) (fun _ => ?_)
        refine bX11_readCandle_82 (d' := 0) hr (by omega) ?_
        refine t_X11_fails hr ?_ ?_ ?_
        · intro p8 p9
          exact bX11_readCandle_87 hr hd4' (K3 p1 p2 p6 p7 p8 p9)
        · intro p10 p11
          exact bX11_readCandle_87 hr hd5' (K4 p1 p2 p6 p7 p10 p11)
        · intro p12
          exact bX11_readCandle_87 hr hd6' (K5 p1 p2 p6 p7 p12)
  · refine bX11_readCandle_52 (d' := 0) hr (by omega) ?_
    refine t_X11_is hr ?_ ?_ ?_
    · intro p13
      refine bX11_readCandle_58  (fun _ => ?_) (fun c => absurd c (by decide))
      exact bX11_readCandle_124 hr (G0 p1 p13) (G1 p1 p13) hd7' (K6 p1 p13)
    · intro p14 p15
      refine bX11_readCandle_58  (fun _ => ?_) (fun c => absurd c (by decide))
      exact bX11_readCandle_124 hr (G2 p1 p14 p15) (G3 p1 p14 p15) hd8' (K7 p1 p14 p15)
    · intro p16 p17
      refine bX11_readCandle_58  (fun c => absurd c (by decide)) (fun _ => ?_)
      refine bX11_readCandle_61  (fun p18 => ?_) (fun p18 => ?_)
      · exact bX11_readCandle_87 hr hd9' (K8 p1 p16 p17 p18)
      · refine bX11_readCandle_67 (d' := 0) hr (by omega) ?_
        refine t_X11_within  ?_ ?_ ?_
        · intro p19
          refine bX11_readCandle_79  (fun _ => ?_) (fun c => absurd c (by decide))
          exact bX11_readCandle_87 hr hd10' (K9 p1 p16 p17 p18 p19)
        · intro p20 p21
          refine bX11_readCandle_79  (fun _ => ?_) (fun c => absurd c (by decide))
          exact bX11_readCandle_87 hr hd11' (K10 p1 p16 p17 p18 p20 p21)
        · intro p22 p23
          refine bX11_readCandle_79  (fun c => absurd c (by decide)) (fun _ => ?_)
          refine bX11_readCandle_82 (d' := 0) hr (by omega) ?_
          refine t_X11_fails hr ?_ ?_ ?_
          · intro p24 p25
            exact bX11_readCandle_87 hr hd12' (K11 p1 p16 p17 p18 p22 p23 p25)
          · intro p26 p27
            exact bX11_readCandle_87 hr hd13' (K12 p1 p16 p17 p18 p22 p23 p27)
          · intro p28; exact absurd p16 p28

set_option maxRecDepth 20000 in
theorem t_X11_readCandle_94 {d  : Nat} {Q : Option MV → MH → Prop} {h : MH} {u3 : Option MV} {v1 v2 vs0 : Int32} (hr : zRf h) (G0 : (h.1 111 11) = 0 → vp_in (((nI 9) + ((nI 6) * v1)) + v2) 236) (K0 : (h.1 111 11) = 0 → J mX11_readCandle d 0 0 Q 0 0 48 [some (.inr (.inr 111)), some (.inl v1), some (.inl (v2 + nI 1)), some (.inl vs0)] [] (zsI h 115 (((nI 9) + ((nI 6) * v1)) + v2).toNatClampNeg vs0)) (K1 : ¬ (h.1 111 11) = 0 → Q none h) : J mX11_readCandle d 0 0 Q 0 0 94 [some (.inr (.inr 111)), some (.inl v1), some (.inl v2), u3] [.inl vs0] h := by
  refine bX11_readCandle_94 hr (fun p1 => ?_) (fun p1 => ?_)
  · refine bX11_readCandle_103 hr (G0 p1) ?_
    exact K0 p1
  · exact bX11_readCandle_102  (K1 p1)

set_option maxRecDepth 20000 in
theorem t_X11_readCandle_149 {d d1' d2' : Nat} {Q : Option MV → MH → Prop} {h : MH} {u3 : Option MV} {v1 v2 vs0 : Int32} (hr : zRf h) (hd1' : d1' + 1 ≤ d) (hd2' : d2' + 1 ≤ d) (K0 : vs0 = 0 → Con mX11_eats d1' 0 0 [.inr (.inr 111), .inl (nI 2)] h (zri fun (x : Int32) h' => J mX11_readCandle d 0 0 Q 0 0 174 [some (.inr (.inr 111)), some (.inl v1), some (.inl v2), u3] [.inl x] h')) (K1 : ¬ vs0 = 0 → Con mX11_takes d2' 0 0 [.inr (.inr 111), .inl (nI 1), .inl (nI 999)] h (zri fun (x : Int32) h' => J mX11_readCandle d 0 0 Q 0 0 168 [some (.inr (.inr 111)), some (.inl v1), some (.inl v2), u3] [.inl x, .inl ((nI 57) + v1), .inr (.inr 115)] h')) : J mX11_readCandle d 0 0 Q 0 0 149 [some (.inr (.inr 111)), some (.inl v1), some (.inl v2), u3] [.inl vs0] h := by
  refine bX11_readCandle_149  (fun p1 => ?_) (fun p1 => ?_)
  · exact bX11_readCandle_169 hr hd1' (K0 p1)
  · exact bX11_readCandle_152 hr hd2' (K1 p1)

set_option maxRecDepth 20000 in
theorem t_X11_readCandle_168 {d d1' : Nat} {Q : Option MV → MH → Prop} {h : MH} {u3 : Option MV} {v1 v2 vs1 vs2 : Int32} {vs0 : Nat} (hr : zRf h) (hd1' : d1' + 1 ≤ d) (G0 : zokA h vs0 20 vs1) (K0 : Con mX11_eats d1' 0 0 [.inr (.inr 111), .inl (nI 2)] (zsI h vs0 vs1.toNatClampNeg vs2) (zri fun (x : Int32) h' => J mX11_readCandle d 0 0 Q 0 0 174 [some (.inr (.inr 111)), some (.inl v1), some (.inl v2), u3] [.inl x] h')) : J mX11_readCandle d 0 0 Q 0 0 168 [some (.inr (.inr 111)), some (.inl v1), some (.inl v2), u3] [.inl vs2, .inl vs1, .inr (.inr vs0)] h := by
  refine bX11_readCandle_168 (G0) ?_
  exact bX11_readCandle_169 hr hd1' (K0)

set_option maxRecDepth 20000 in
theorem t_X11_readCandle_174 {d d1' d2' : Nat} {Q : Option MV → MH → Prop} {h : MH} {u3 : Option MV} {v1 v2 vs0 : Int32} (hr : zRf h) (hd1' : d1' + 1 ≤ d) (hd2' : d2' + 1 ≤ d) (K0 : vs0 = 0 → Con mX11_needs d1' 0 0 [.inr (.inr 111), .inl (nI 13)] h (zrv fun h' => J mX11_readCandle d 0 0 Q 0 0 199 [some (.inr (.inr 111)), some (.inl v1), some (.inl v2), u3] [] h')) (K1 : ¬ vs0 = 0 → Con mX11_takes d2' 0 0 [.inr (.inr 111), .inl (nI 0), .inl (nI 50)] h (zri fun (x : Int32) h' => J mX11_readCandle d 0 0 Q 0 0 192 [some (.inr (.inr 111)), some (.inl v1), some (.inl v2), u3] [.inl x, .inl ((nI 65) + v1), .inr (.inr 115)] h')) : J mX11_readCandle d 0 0 Q 0 0 174 [some (.inr (.inr 111)), some (.inl v1), some (.inl v2), u3] [.inl vs0] h := by
  refine bX11_readCandle_174  (fun p1 => ?_) (fun p1 => ?_)
  · exact bX11_readCandle_193 hr hd1' (K0 p1)
  · exact bX11_readCandle_177 hr hd2' (K1 p1)

set_option maxRecDepth 20000 in
theorem t_X11_readCandle_192 {d d1' : Nat} {Q : Option MV → MH → Prop} {h : MH} {u3 : Option MV} {v1 v2 vs1 vs2 : Int32} {vs0 : Nat} (hr : zRf h) (hd1' : d1' + 1 ≤ d) (G0 : zokA h vs0 20 vs1) (K0 : Con mX11_needs d1' 0 0 [.inr (.inr 111), .inl (nI 13)] (zsI h vs0 vs1.toNatClampNeg vs2) (zrv fun h' => J mX11_readCandle d 0 0 Q 0 0 199 [some (.inr (.inr 111)), some (.inl v1), some (.inl v2), u3] [] h')) : J mX11_readCandle d 0 0 Q 0 0 192 [some (.inr (.inr 111)), some (.inl v1), some (.inl v2), u3] [.inl vs2, .inl vs1, .inr (.inr vs0)] h := by
  refine bX11_readCandle_192 (G0) ?_
  exact bX11_readCandle_193 hr hd1' (K0)

set_option maxRecDepth 20000 in
theorem t_X11_readCandle_199 {d  : Nat} {Q : Option MV → MH → Prop} {h : MH} {u3 : Option MV} {v1 v2 : Int32} (hr : zRf h) (K0 : Q none (zsI (zsI h 115 0 ((h.1 115 0) + (nI 1))) 115 73 (((zsI h 115 0 ((h.1 115 0) + (nI 1))).1 115 73) + (nI 1)))) : J mX11_readCandle d 0 0 Q 0 0 199 [some (.inr (.inr 111)), some (.inl v1), some (.inl v2), u3] [] h := by
  exact bX11_readCandle_199 hr (vp_in_nI (by decide) (by decide)) (vp_in_nI (by decide) (by decide)) (K0)

set_option maxRecDepth 20000 in
theorem t_X11_cellar {d d1' : Nat} {Q : Option MV → MH → Prop} {h : MH} {v1 : Int32} (hr : zRf h) (hd : 1 ≤ d) (hd1' : d1' + 1 ≤ d) (K0 : ¬ (lN 0) ≤ v1.toInt64 → Q (some (.inl (-(nI 3)))) (zsI h 111 0 (nI 0))) (K1 : (lN 0) ≤ v1.toInt64 → ¬ v1.toInt64 ≤ (((zsI h 111 0 (nI 0)).1 111 5).toInt64) → Q (some (.inl (-(nI 3)))) (zsI h 111 0 (nI 0))) (K2 : (lN 0) ≤ v1.toInt64 → v1.toInt64 ≤ (((zsI h 111 0 (nI 0)).1 111 5).toInt64) → Con mX11_begins d1' 0 0 [.inr (.inr 111), .inl v1] (zsI h 111 0 (nI 0)) (zrv fun h' => J mX11_cellar d 0 0 Q 0 0 27 [some (.inr (.inr 111)), some (.inl v1), none] [] h')) : Con mX11_cellar d 0 0 [.inr (.inr 111), .inl v1] h Q := by
  refine Con.intro rfl (Nat.le_of_ble_eq_true rfl) ?_
  show J mX11_cellar d 0 0 Q 0 0 0 [some (.inr (.inr 111)), some (.inl v1), none] [] h
  refine bX11_cellar_0 (d' := 0) hr (by omega) ?_
  refine t_X11_within  ?_ ?_ ?_
  · intro p1
    refine bX11_cellar_16  (fun c => absurd c (by decide)) (fun _ => ?_)
    exact bX11_cellar_19  (K0 p1)
  · intro p2 p3
    refine bX11_cellar_16  (fun c => absurd c (by decide)) (fun _ => ?_)
    exact bX11_cellar_19  (K1 p2 p3)
  · intro p4 p5
    refine bX11_cellar_16  (fun _ => ?_) (fun c => absurd c (by decide))
    exact bX11_cellar_22 hr hd1' (K2 p4 p5)

set_option maxRecDepth 20000 in
theorem t_X11_cellar_27 {d d1' d2' d3' : Nat} {Q : Option MV → MH → Prop} {h : MH} {v1 : Int32} (hr : zRf h) (hd1' : d1' + 1 ≤ d) (hd2' : d2' + 1 ≤ d) (hd3' : d3' + 1 ≤ d) (K0 : ¬ (h.1 111 11) = 0 → Con mX11_told d1' 0 0 [.inr (.inr 111)] h (zri fun (x : Int32) h' => J mX11_cellar d 0 0 Q 0 0 61 [some (.inr (.inr 111)), some (.inl v1), none] [.inl x] h')) (K1 : (h.1 111 11) = 0 → (h.1 111 9) = (nI 14) → Con mX11_told d2' 0 0 [.inr (.inr 111)] h (zri fun (x : Int32) h' => J mX11_cellar d 0 0 Q 0 0 66 [some (.inr (.inr 111)), some (.inl v1), none] [.inl x] h')) (K2 : (h.1 111 11) = 0 → ¬ (h.1 111 9) = (nI 14) → Con mX11_readCandle d3' 0 0 [.inr (.inr 111)] h (zrv fun h' => J mX11_cellar d 0 0 Q 0 0 47 [some (.inr (.inr 111)), some (.inl v1), none] [] h')) : J mX11_cellar d 0 0 Q 0 0 27 [some (.inr (.inr 111)), some (.inl v1), none] [] h := by
  refine bX11_cellar_27 hr (fun p1 => ?_) (fun p1 => ?_)
  · refine bX11_cellar_50 hr (fun c => absurd c p1) (fun _ => ?_)
    exact bX11_cellar_57 hr hd1' (K0 p1)
  · refine bX11_cellar_34 hr (fun p2 => ?_) (fun p2 => ?_)
    · refine bX11_cellar_50 hr (fun _ => ?_) (fun c => absurd p1 c)
      exact bX11_cellar_62 hr hd2' (K1 p1 p2)
    · exact bX11_cellar_43 hr hd3' (K2 p1 p2)

set_option maxRecDepth 20000 in
theorem t_X11_cellar_47 {d  : Nat} {Q : Option MV → MH → Prop} {h : MH} {v1 : Int32} (K0 : J mX11_cellar d 0 0 Q 0 0 27 [some (.inr (.inr 111)), some (.inl v1), none] [] h) : J mX11_cellar d 0 0 Q 0 0 47 [some (.inr (.inr 111)), some (.inl v1), none] [] h := by
  refine bX11_cellar_47  ?_
  exact K0

set_option maxRecDepth 20000 in
theorem t_X11_cellar_61 {d  : Nat} {Q : Option MV → MH → Prop} {h : MH} {v1 vs0 : Int32} (K0 : Q (some (.inl vs0)) h) : J mX11_cellar d 0 0 Q 0 0 61 [some (.inr (.inr 111)), some (.inl v1), none] [.inl vs0] h := by
  exact bX11_cellar_61  (K0)

set_option maxRecDepth 20000 in
theorem t_X11_cellar_66 {d  : Nat} {Q : Option MV → MH → Prop} {h : MH} {v1 vs0 : Int32} (K0 : J mX11_cellar d 0 0 Q 0 0 69 [some (.inr (.inr 111)), some (.inl v1), some (.inl (nI 0))] [] h) : J mX11_cellar d 0 0 Q 0 0 66 [some (.inr (.inr 111)), some (.inl v1), none] [.inl vs0] h := by
  refine bX11_cellar_66  ?_
  exact K0

set_option maxRecDepth 20000 in
theorem t_X11_cellar_69 {d  : Nat} {Q : Option MV → MH → Prop} {h : MH} {v1 v2 : Int32} (hr : zRf h) (G0 : ¬ (nI 74) ≤ v2 → vp_in v2 236) (G1 : ¬ (nI 74) ≤ v2 → vp_in v2 2166) (K0 : (nI 74) ≤ v2 → Q (some (.inl (h.1 112 73))) h) (K1 : ¬ (nI 74) ≤ v2 → J mX11_cellar d 0 0 Q 0 0 69 [some (.inr (.inr 111)), some (.inl v1), some (.inl (v2 + nI 1))] [] (zsI h 112 v2.toNatClampNeg (h.1 115 v2.toNatClampNeg))) : J mX11_cellar d 0 0 Q 0 0 69 [some (.inr (.inr 111)), some (.inl v1), some (.inl v2)] [] h := by
  refine bX11_cellar_69  (fun p1 => ?_) (fun p1 => ?_)
  · exact bX11_cellar_93 hr (vp_in_nI (by decide) (by decide)) (K0 p1)
  · refine bX11_cellar_75 hr (G0 p1) (G1 p1) ?_
    exact K1 p1

set_option maxRecDepth 20000 in
theorem t_X11_readAct {d d1' d2' d3' d4' d5' d6' d7' : Nat} {Q : Option MV → MH → Prop} {h : MH} (hr : zRf h) (hd : 1 ≤ d) (hd1' : d1' + 1 ≤ d) (hd2' : d2' + 1 ≤ d) (hd3' : d3' + 1 ≤ d) (hd4' : d4' + 1 ≤ d) (hd5' : d5' + 1 ≤ d) (hd6' : d6' + 1 ≤ d) (hd7' : d7' + 1 ≤ d) (K0 : (h.1 111 11) = 0 → ¬ (6 : Int64) ≤ ((h.1 111 9).toInt64) → ¬ (h.1 111 9) = (nI 15) → ((zsI (zsI h 111 11 (nI 2)) 111 12 ((zsI h 111 11 (nI 2)).1 111 6)).1 111 11) = 0 → Con mX11_next d1' 0 0 [.inr (.inr 111)] (zsI (zsI h 111 11 (nI 2)) 111 12 ((zsI h 111 11 (nI 2)).1 111 6)) (zrv fun h' => J mX11_readAct d 0 0 Q 0 0 69 [some (.inr (.inr 111)), some (.inl (h.1 115 75)), some (.inl ((zsI (zsI h 111 11 (nI 2)) 111 12 ((zsI h 111 11 (nI 2)).1 111 6)).1 111 9)), none, none] [] h')) (K1 : (h.1 111 11) = 0 → ¬ (6 : Int64) ≤ ((h.1 111 9).toInt64) → ¬ (h.1 111 9) = (nI 15) → ¬ ((zsI (zsI h 111 11 (nI 2)) 111 12 ((zsI h 111 11 (nI 2)).1 111 6)).1 111 11) = 0 → Q none (zsI (zsI h 111 11 (nI 2)) 111 12 ((zsI h 111 11 (nI 2)).1 111 6))) (K2 : (h.1 111 11) = 0 → ¬ (6 : Int64) ≤ ((h.1 111 9).toInt64) → (h.1 111 9) = (nI 15) → ((zsI (zsI h 111 11 (nI 1)) 111 12 ((zsI h 111 11 (nI 1)).1 111 6)).1 111 11) = 0 → Con mX11_next d2' 0 0 [.inr (.inr 111)] (zsI (zsI h 111 11 (nI 1)) 111 12 ((zsI h 111 11 (nI 1)).1 111 6)) (zrv fun h' => J mX11_readAct d 0 0 Q 0 0 69 [some (.inr (.inr 111)), some (.inl (h.1 115 75)), some (.inl ((zsI (zsI h 111 11 (nI 1)) 111 12 ((zsI h 111 11 (nI 1)).1 111 6)).1 111 9)), none, none] [] h')) (K3 : (h.1 111 11) = 0 → ¬ (6 : Int64) ≤ ((h.1 111 9).toInt64) → (h.1 111 9) = (nI 15) → ¬ ((zsI (zsI h 111 11 (nI 1)) 111 12 ((zsI h 111 11 (nI 1)).1 111 6)).1 111 11) = 0 → Q none (zsI (zsI h 111 11 (nI 1)) 111 12 ((zsI h 111 11 (nI 1)).1 111 6))) (K4 : (h.1 111 11) = 0 → (6 : Int64) ≤ ((h.1 111 9).toInt64) → ¬ ((h.1 111 9).toInt64) ≤ (10 : Int64) → ¬ (h.1 111 9) = (nI 15) → ((zsI (zsI h 111 11 (nI 2)) 111 12 ((zsI h 111 11 (nI 2)).1 111 6)).1 111 11) = 0 → Con mX11_next d3' 0 0 [.inr (.inr 111)] (zsI (zsI h 111 11 (nI 2)) 111 12 ((zsI h 111 11 (nI 2)).1 111 6)) (zrv fun h' => J mX11_readAct d 0 0 Q 0 0 69 [some (.inr (.inr 111)), some (.inl (h.1 115 75)), some (.inl ((zsI (zsI h 111 11 (nI 2)) 111 12 ((zsI h 111 11 (nI 2)).1 111 6)).1 111 9)), none, none] [] h')) (K5 : (h.1 111 11) = 0 → (6 : Int64) ≤ ((h.1 111 9).toInt64) → ¬ ((h.1 111 9).toInt64) ≤ (10 : Int64) → ¬ (h.1 111 9) = (nI 15) → ¬ ((zsI (zsI h 111 11 (nI 2)) 111 12 ((zsI h 111 11 (nI 2)).1 111 6)).1 111 11) = 0 → Q none (zsI (zsI h 111 11 (nI 2)) 111 12 ((zsI h 111 11 (nI 2)).1 111 6))) (K6 : (h.1 111 11) = 0 → (6 : Int64) ≤ ((h.1 111 9).toInt64) → ¬ ((h.1 111 9).toInt64) ≤ (10 : Int64) → (h.1 111 9) = (nI 15) → ((zsI (zsI h 111 11 (nI 1)) 111 12 ((zsI h 111 11 (nI 1)).1 111 6)).1 111 11) = 0 → Con mX11_next d4' 0 0 [.inr (.inr 111)] (zsI (zsI h 111 11 (nI 1)) 111 12 ((zsI h 111 11 (nI 1)).1 111 6)) (zrv fun h' => J mX11_readAct d 0 0 Q 0 0 69 [some (.inr (.inr 111)), some (.inl (h.1 115 75)), some (.inl ((zsI (zsI h 111 11 (nI 1)) 111 12 ((zsI h 111 11 (nI 1)).1 111 6)).1 111 9)), none, none] [] h')) (K7 : (h.1 111 11) = 0 → (6 : Int64) ≤ ((h.1 111 9).toInt64) → ¬ ((h.1 111 9).toInt64) ≤ (10 : Int64) → (h.1 111 9) = (nI 15) → ¬ ((zsI (zsI h 111 11 (nI 1)) 111 12 ((zsI h 111 11 (nI 1)).1 111 6)).1 111 11) = 0 → Q none (zsI (zsI h 111 11 (nI 1)) 111 12 ((zsI h 111 11 (nI 1)).1 111 6))) (K8 : (h.1 111 11) = 0 → (6 : Int64) ≤ ((h.1 111 9).toInt64) → ((h.1 111 9).toInt64) ≤ (10 : Int64) → ¬ (h.1 115 75) = (nI 40) → Con mX11_next d5' 0 0 [.inr (.inr 111)] h (zrv fun h' => J mX11_readAct d 0 0 Q 0 0 69 [some (.inr (.inr 111)), some (.inl (h.1 115 75)), some (.inl (h.1 111 9)), none, none] [] h')) (K9 : (h.1 111 11) = 0 → (6 : Int64) ≤ ((h.1 111 9).toInt64) → ((h.1 111 9).toInt64) ≤ (10 : Int64) → (h.1 115 75) = (nI 40) → ¬ (h.1 111 9) = (nI 15) → ((zsI (zsI h 111 11 (nI 4)) 111 12 ((zsI h 111 11 (nI 4)).1 111 6)).1 111 11) = 0 → Con mX11_next d6' 0 0 [.inr (.inr 111)] (zsI (zsI h 111 11 (nI 4)) 111 12 ((zsI h 111 11 (nI 4)).1 111 6)) (zrv fun h' => J mX11_readAct d 0 0 Q 0 0 69 [some (.inr (.inr 111)), some (.inl (h.1 115 75)), some (.inl ((zsI (zsI h 111 11 (nI 4)) 111 12 ((zsI h 111 11 (nI 4)).1 111 6)).1 111 9)), none, none] [] h')) (K10 : (h.1 111 11) = 0 → (6 : Int64) ≤ ((h.1 111 9).toInt64) → ((h.1 111 9).toInt64) ≤ (10 : Int64) → (h.1 115 75) = (nI 40) → ¬ (h.1 111 9) = (nI 15) → ¬ ((zsI (zsI h 111 11 (nI 4)) 111 12 ((zsI h 111 11 (nI 4)).1 111 6)).1 111 11) = 0 → Q none (zsI (zsI h 111 11 (nI 4)) 111 12 ((zsI h 111 11 (nI 4)).1 111 6))) (K11 : (h.1 111 11) = 0 → (6 : Int64) ≤ ((h.1 111 9).toInt64) → ((h.1 111 9).toInt64) ≤ (10 : Int64) → (h.1 115 75) = (nI 40) → (h.1 111 9) = (nI 15) → ((zsI (zsI h 111 11 (nI 1)) 111 12 ((zsI h 111 11 (nI 1)).1 111 6)).1 111 11) = 0 → Con mX11_next d7' 0 0 [.inr (.inr 111)] (zsI (zsI h 111 11 (nI 1)) 111 12 ((zsI h 111 11 (nI 1)).1 111 6)) (zrv fun h' => J mX11_readAct d 0 0 Q 0 0 69 [some (.inr (.inr 111)), some (.inl (h.1 115 75)), some (.inl ((zsI (zsI h 111 11 (nI 1)) 111 12 ((zsI h 111 11 (nI 1)).1 111 6)).1 111 9)), none, none] [] h')) (K12 : (h.1 111 11) = 0 → (6 : Int64) ≤ ((h.1 111 9).toInt64) → ((h.1 111 9).toInt64) ≤ (10 : Int64) → (h.1 115 75) = (nI 40) → (h.1 111 9) = (nI 15) → ¬ ((zsI (zsI h 111 11 (nI 1)) 111 12 ((zsI h 111 11 (nI 1)).1 111 6)).1 111 11) = 0 → Q none (zsI (zsI h 111 11 (nI 1)) 111 12 ((zsI h 111 11 (nI 1)).1 111 6))) (K13 : ¬ (h.1 111 11) = 0 → Q none h) : Con mX11_readAct d 0 0 [.inr (.inr 111)] h Q := by
  refine Con.intro rfl (Nat.le_of_ble_eq_true rfl) ?_
  show J mX11_readAct d 0 0 Q 0 0 0 [some (.inr (.inr 111)), none, none, none, none] [] h
  refine bX11_readAct_0 hr (vp_in_nI (by decide) (by decide)) (fun p1 => ?_) (fun p1 => ?_)
  · refine bX11_readAct_16 (d' := 0) hr (by omega) ?_
    refine t_X11_within  ?_ ?_ ?_
    · intro p2
      refine bX11_readAct_30  (fun c => absurd c (by decide)) (fun _ => ?_)
      refine bX11_readAct_33 (d' := 0) hr (by omega) ?_
      refine t_X11_fails hr ?_ ?_ ?_
      · intro p7 p8
        refine bX11_readAct_38  ?_
        refine bX11_readAct_52 hr (fun p12 => ?_) (fun p12 => ?_)
        · exact bX11_readAct_60 hr hd1' (K0 p1 p2 p8 p12)
        · exact bX11_readAct_59  (K1 p1 p2 p8 p12)
      · intro p9 p10
        refine bX11_readAct_38  ?_
        refine bX11_readAct_52 hr (fun p13 => ?_) (fun p13 => ?_)
        · exact bX11_readAct_60 hr hd2' (K2 p1 p2 p10 p13)
        · exact bX11_readAct_59  (K3 p1 p2 p10 p13)
      · intro p11; exact absurd p1 p11
    · intro p3 p4
      refine bX11_readAct_30  (fun c => absurd c (by decide)) (fun _ => ?_)
      refine bX11_readAct_33 (d' := 0) hr (by omega) ?_
      refine t_X11_fails hr ?_ ?_ ?_
      · intro p14 p15
        refine bX11_readAct_38  ?_
        refine bX11_readAct_52 hr (fun p19 => ?_) (fun p19 => ?_)
        · exact bX11_readAct_60 hr hd3' (K4 p1 p3 p4 p15 p19)
        · exact bX11_readAct_59  (K5 p1 p3 p4 p15 p19)
      · intro p16 p17
        refine bX11_readAct_38  ?_
        refine bX11_readAct_52 hr (fun p20 => ?_) (fun p20 => ?_)
        · exact bX11_readAct_60 hr hd4' (K6 p1 p3 p4 p17 p20)
        · exact bX11_readAct_59  (K7 p1 p3 p4 p17 p20)
      · intro p18; exact absurd p1 p18
    · intro p5 p6
      refine bX11_readAct_30  (fun _ => ?_) (fun c => absurd c (by decide))
      refine bX11_readAct_41  (fun p21 => ?_) (fun p21 => ?_)
      · refine bX11_readAct_52 hr (fun _ => ?_) (fun c => absurd p1 c)
        exact bX11_readAct_60 hr hd5' (K8 p1 p5 p6 p21)
      · refine bX11_readAct_47 (d' := 0) hr (by omega) ?_
        refine t_X11_fails hr ?_ ?_ ?_
        · intro p22 p23
          refine bX11_readAct_52 hr (fun p27 => ?_) (fun p27 => ?_)
          · exact bX11_readAct_60 hr hd6' (K9 p1 p5 p6 p21 p23 p27)
          · exact bX11_readAct_59  (K10 p1 p5 p6 p21 p23 p27)
        · intro p24 p25
          refine bX11_readAct_52 hr (fun p28 => ?_) (fun p28 => ?_)
          · exact bX11_readAct_60 hr hd7' (K11 p1 p5 p6 p21 p25 p28)
          · exact bX11_readAct_59  (K12 p1 p5 p6 p21 p25 p28)
        · intro p26; exact absurd p1 p26
  · exact bX11_readAct_15  (K13 p1)

set_option maxRecDepth 20000 in
theorem t_X11_readAct_69 {d d1' d2' : Nat} {Q : Option MV → MH → Prop} {h : MH} {v1 v2 : Int32} (hr : zRf h) (hd1' : d1' + 1 ≤ d) (hd2' : d2' + 1 ≤ d) (G0 : v2 = (nI 10) → ¬ v2 = (nI 9) → (h.1 111 11) = 0 → vp_in ((nI 116) + v1) 236) (K0 : ¬ v2 = (nI 10) → Con mX11_takes d1' 0 0 [.inr (.inr 111), .inl (nI 0), .inl (nI 7)] h (zri fun (x : Int32) h' => J mX11_readAct d 0 0 Q 0 0 86 [some (.inr (.inr 111)), some (.inl v1), some (.inl v2), none, none] [.inl x] h')) (K1 : v2 = (nI 10) → ¬ v2 = (nI 9) → (h.1 111 11) = 0 → Q none (zsI (zsI h 115 ((nI 116) + v1).toNatClampNeg (((v2 * (nI 100)) + ((nI 10) * (nI 0))) + (nI 0))) 115 75 (((zsI h 115 ((nI 116) + v1).toNatClampNeg (((v2 * (nI 100)) + ((nI 10) * (nI 0))) + (nI 0))).1 115 75) + (nI 1)))) (K2 : v2 = (nI 10) → ¬ v2 = (nI 9) → ¬ (h.1 111 11) = 0 → Q none h) (K3 : v2 = (nI 10) → v2 = (nI 9) → Con mX11_takes d2' 0 0 [.inr (.inr 111), .inl (nI 0), .inl (nI 7)] h (zri fun (x : Int32) h' => J mX11_readAct d 0 0 Q 0 0 100 [some (.inr (.inr 111)), some (.inl v1), some (.inl v2), some (.inl (nI 0)), none] [.inl x] h')) : J mX11_readAct d 0 0 Q 0 0 69 [some (.inr (.inr 111)), some (.inl v1), some (.inl v2), none, none] [] h := by
  refine bX11_readAct_69  (fun p1 => ?_) (fun p1 => ?_)
  · exact bX11_readAct_79 hr hd1' (K0 p1)
  · refine bX11_readAct_75  ?_
    refine bX11_readAct_86  (fun p2 => ?_) (fun p2 => ?_)
    · refine bX11_readAct_103  ?_
      refine bX11_readAct_104 hr (fun p3 => ?_) (fun p3 => ?_)
      · exact bX11_readAct_114 hr (G0 p1 p2 p3) (vp_in_nI (by decide) (by decide)) (K1 p1 p2 p3)
      · exact bX11_readAct_113  (K2 p1 p2 p3)
    · exact bX11_readAct_93 hr hd2' (K3 p1 p2)

set_option maxRecDepth 20000 in
theorem t_X11_readAct_86 {d d1' : Nat} {Q : Option MV → MH → Prop} {h : MH} {v1 v2 vs0 : Int32} (hr : zRf h) (hd1' : d1' + 1 ≤ d) (G0 : ¬ v2 = (nI 9) → (h.1 111 11) = 0 → vp_in ((nI 116) + v1) 236) (K0 : ¬ v2 = (nI 9) → (h.1 111 11) = 0 → Q none (zsI (zsI h 115 ((nI 116) + v1).toNatClampNeg (((v2 * (nI 100)) + ((nI 10) * vs0)) + (nI 0))) 115 75 (((zsI h 115 ((nI 116) + v1).toNatClampNeg (((v2 * (nI 100)) + ((nI 10) * vs0)) + (nI 0))).1 115 75) + (nI 1)))) (K1 : ¬ v2 = (nI 9) → ¬ (h.1 111 11) = 0 → Q none h) (K2 : v2 = (nI 9) → Con mX11_takes d1' 0 0 [.inr (.inr 111), .inl (nI 0), .inl (nI 7)] h (zri fun (x : Int32) h' => J mX11_readAct d 0 0 Q 0 0 100 [some (.inr (.inr 111)), some (.inl v1), some (.inl v2), some (.inl vs0), none] [.inl x] h')) : J mX11_readAct d 0 0 Q 0 0 86 [some (.inr (.inr 111)), some (.inl v1), some (.inl v2), none, none] [.inl vs0] h := by
  refine bX11_readAct_86  (fun p1 => ?_) (fun p1 => ?_)
  · refine bX11_readAct_103  ?_
    refine bX11_readAct_104 hr (fun p2 => ?_) (fun p2 => ?_)
    · exact bX11_readAct_114 hr (G0 p1 p2) (vp_in_nI (by decide) (by decide)) (K0 p1 p2)
    · exact bX11_readAct_113  (K1 p1 p2)
  · exact bX11_readAct_93 hr hd1' (K2 p1)

set_option maxRecDepth 20000 in
theorem t_X11_readAct_100 {d  : Nat} {Q : Option MV → MH → Prop} {h : MH} {v1 v2 v3 vs0 : Int32} (hr : zRf h) (G0 : (h.1 111 11) = 0 → vp_in ((nI 116) + v1) 236) (K0 : (h.1 111 11) = 0 → Q none (zsI (zsI h 115 ((nI 116) + v1).toNatClampNeg (((v2 * (nI 100)) + ((nI 10) * v3)) + vs0)) 115 75 (((zsI h 115 ((nI 116) + v1).toNatClampNeg (((v2 * (nI 100)) + ((nI 10) * v3)) + vs0)).1 115 75) + (nI 1)))) (K1 : ¬ (h.1 111 11) = 0 → Q none h) : J mX11_readAct d 0 0 Q 0 0 100 [some (.inr (.inr 111)), some (.inl v1), some (.inl v2), some (.inl v3), none] [.inl vs0] h := by
  refine bX11_readAct_100  ?_
  refine bX11_readAct_104 hr (fun p1 => ?_) (fun p1 => ?_)
  · exact bX11_readAct_114 hr (G0 p1) (vp_in_nI (by decide) (by decide)) (K0 p1)
  · exact bX11_readAct_113  (K1 p1)

set_option maxRecDepth 20000 in
theorem t_X11_readRule {d  : Nat} {Q : Option MV → MH → Prop} {h : MH} (hr : zRf h) (hd : 1 ≤ d) (K0 : ¬ (h.1 111 11) = 0 → J mX11_readRule d 0 0 Q 0 0 43 [some (.inr (.inr 111)), some (.inl (h.1 115 74)), none] [] h) (K1 : (h.1 111 11) = 0 → ¬ (h.1 111 9) = (nI 3) → ¬ (h.1 111 9) = (nI 4) → ¬ (h.1 111 9) = (nI 15) → J mX11_readRule d 0 0 Q 0 0 43 [some (.inr (.inr 111)), some (.inl (h.1 115 74)), none] [] (zsI (zsI h 111 11 (nI 2)) 111 12 ((zsI h 111 11 (nI 2)).1 111 6))) (K2 : (h.1 111 11) = 0 → ¬ (h.1 111 9) = (nI 3) → ¬ (h.1 111 9) = (nI 4) → (h.1 111 9) = (nI 15) → J mX11_readRule d 0 0 Q 0 0 43 [some (.inr (.inr 111)), some (.inl (h.1 115 74)), none] [] (zsI (zsI h 111 11 (nI 1)) 111 12 ((zsI h 111 11 (nI 1)).1 111 6))) (K3 : (h.1 111 11) = 0 → ¬ (h.1 111 9) = (nI 3) → (h.1 111 9) = (nI 4) → J mX11_readRule d 0 0 Q 0 0 32 [some (.inr (.inr 111)), some (.inl (h.1 115 74)), none] [] h) (K4 : (h.1 111 11) = 0 → (h.1 111 9) = (nI 3) → J mX11_readRule d 0 0 Q 0 0 32 [some (.inr (.inr 111)), some (.inl (h.1 115 74)), none] [] h) : Con mX11_readRule d 0 0 [.inr (.inr 111)] h Q := by
  refine Con.intro rfl (Nat.le_of_ble_eq_true rfl) ?_
  show J mX11_readRule d 0 0 Q 0 0 0 [some (.inr (.inr 111)), none, none] [] h
  refine bX11_readRule_0 (d' := 0) hr (vp_in_nI (by decide) (by decide)) (by omega) ?_
  refine t_X11_is hr ?_ ?_ ?_
  · intro p1
    refine bX11_readRule_13  (fun c => absurd c (by decide)) (fun _ => ?_)
    refine bX11_readRule_16 (d' := 0) hr (by omega) ?_
    refine t_X11_is hr ?_ ?_ ?_
    · intro p6
      refine bX11_readRule_21  (fun c => absurd c (by decide)) (fun _ => ?_)
      refine bX11_readRule_24 (d' := 0) hr (by omega) ?_
      refine t_X11_fails hr ?_ ?_ ?_
      · intro p11 p12; exact absurd p11 p1
      · intro p13 p14; exact absurd p13 p1
      · intro p15
        refine bX11_readRule_29  ?_
        exact K0 p1
    · intro p7 p8; exact absurd p7 p1
    · intro p9 p10; exact absurd p9 p1
  · intro p2 p3
    refine bX11_readRule_13  (fun c => absurd c (by decide)) (fun _ => ?_)
    refine bX11_readRule_16 (d' := 0) hr (by omega) ?_
    refine t_X11_is hr ?_ ?_ ?_
    · intro p16; exact absurd p2 p16
    · intro p17 p18
      refine bX11_readRule_21  (fun c => absurd c (by decide)) (fun _ => ?_)
      refine bX11_readRule_24 (d' := 0) hr (by omega) ?_
      refine t_X11_fails hr ?_ ?_ ?_
      · intro p21 p22
        refine bX11_readRule_29  ?_
        exact K1 p2 p3 p18 p22
      · intro p23 p24
        refine bX11_readRule_29  ?_
        exact K2 p2 p3 p18 p24
      · intro p25; exact absurd p2 p25
    · intro p19 p20
      refine bX11_readRule_21  (fun _ => ?_) (fun c => absurd c (by decide))
      exact K3 p2 p3 p20
  · intro p4 p5
    refine bX11_readRule_13  (fun _ => ?_) (fun c => absurd c (by decide))
    exact K4 p4 p5

set_option maxRecDepth 20000 in
theorem t_X11_readRule_32 {d  : Nat} {Q : Option MV → MH → Prop} {h : MH} {v1 : Int32} (hr : zRf h) (hd : 1 ≤ d) (K0 : ¬ v1 = (nI 20) → J mX11_readRule d 0 0 Q 0 0 43 [some (.inr (.inr 111)), some (.inl v1), none] [] h) (K1 : v1 = (nI 20) → (h.1 111 11) = 0 → ¬ (h.1 111 9) = (nI 15) → J mX11_readRule d 0 0 Q 0 0 43 [some (.inr (.inr 111)), some (.inl v1), none] [] (zsI (zsI h 111 11 (nI 4)) 111 12 ((zsI h 111 11 (nI 4)).1 111 6))) (K2 : v1 = (nI 20) → (h.1 111 11) = 0 → (h.1 111 9) = (nI 15) → J mX11_readRule d 0 0 Q 0 0 43 [some (.inr (.inr 111)), some (.inl v1), none] [] (zsI (zsI h 111 11 (nI 1)) 111 12 ((zsI h 111 11 (nI 1)).1 111 6))) (K3 : v1 = (nI 20) → ¬ (h.1 111 11) = 0 → J mX11_readRule d 0 0 Q 0 0 43 [some (.inr (.inr 111)), some (.inl v1), none] [] h) : J mX11_readRule d 0 0 Q 0 0 32 [some (.inr (.inr 111)), some (.inl v1), none] [] h := by
  refine bX11_readRule_32  (fun p1 => ?_) (fun p1 => ?_)
  · exact K0 p1
  · refine bX11_readRule_38 (d' := 0) hr (by omega) ?_
    refine t_X11_fails hr ?_ ?_ ?_
    · intro p2 p3
      exact K1 p1 p2 p3
    · intro p4 p5
      exact K2 p1 p4 p5
    · intro p6
      exact K3 p1 p6

set_option maxRecDepth 20000 in
theorem t_X11_readRule_43 {d d1' d2' : Nat} {Q : Option MV → MH → Prop} {h : MH} {v1 : Int32} (hr : zRf h) (hd1' : d1' + 1 ≤ d) (hd2' : d2' + 1 ≤ d) (K0 : (h.1 111 11) = 0 → ¬ (h.1 111 9) = (nI 3) → Con mX11_next d1' 0 0 [.inr (.inr 111)] h (zrv fun h' => J mX11_readRule d 0 0 Q 0 0 69 [some (.inr (.inr 111)), some (.inl v1), some (.inl (nI 0))] [] h')) (K1 : (h.1 111 11) = 0 → (h.1 111 9) = (nI 3) → Con mX11_next d2' 0 0 [.inr (.inr 111)] h (zrv fun h' => J mX11_readRule d 0 0 Q 0 0 69 [some (.inr (.inr 111)), some (.inl v1), some (.inl (nI 1))] [] h')) (K2 : ¬ (h.1 111 11) = 0 → Q none h) : J mX11_readRule d 0 0 Q 0 0 43 [some (.inr (.inr 111)), some (.inl v1), none] [] h := by
  refine bX11_readRule_43 hr (fun p1 => ?_) (fun p1 => ?_)
  · refine bX11_readRule_51 hr (fun p2 => ?_) (fun p2 => ?_)
    · refine bX11_readRule_63  ?_
      exact bX11_readRule_64 hr hd1' (K0 p1 p2)
    · refine bX11_readRule_59  ?_
      exact bX11_readRule_64 hr hd2' (K1 p1 p2)
  · exact bX11_readRule_50  (K2 p1)

set_option maxRecDepth 20000 in
theorem t_X11_readRule_69 {d d1' d2' : Nat} {Q : Option MV → MH → Prop} {h : MH} {v1 v2 : Int32} (hr : zRf h) (hd1' : d1' + 1 ≤ d) (hd2' : d2' + 1 ≤ d) (G0 : ¬ v2 = 0 → zokA h 115 20 ((nI 76) + v1)) (G1 : ¬ v2 = 0 → vp_in ((nI 96) + v1) 236) (K0 : v2 = 0 → Con mX11_takes d1' 0 0 [.inr (.inr 111), .inl (nI 0), .inl (nI 7)] h (zri fun (x : Int32) h' => J mX11_readRule d 0 0 Q 0 0 92 [some (.inr (.inr 111)), some (.inl v1), some (.inl v2)] [.inl x, .inl ((nI 76) + v1), .inr (.inr 115)] h')) (K1 : ¬ v2 = 0 → Con mX11_readAct d2' 0 0 [.inr (.inr 111)] (zsI (zsI h 115 ((nI 76) + v1).toNatClampNeg (-(nI 1))) 115 ((nI 96) + v1).toNatClampNeg ((zsI h 115 ((nI 76) + v1).toNatClampNeg (-(nI 1))).1 115 75)) (zrv fun h' => J mX11_readRule d 0 0 Q 0 0 113 [some (.inr (.inr 111)), some (.inl v1), some (.inl v2)] [] h')) : J mX11_readRule d 0 0 Q 0 0 69 [some (.inr (.inr 111)), some (.inl v1), some (.inl v2)] [] h := by
  refine bX11_readRule_69 hr (fun p1 => ?_) (fun p1 => ?_)
  · exact bX11_readRule_85 hr hd1' (K0 p1)
  · refine bX11_readRule_81  ?_
    exact bX11_readRule_92 hr (G0 p1) (vp_in_nI (by decide) (by decide)) (G1 p1) hd2' (K1 p1)

set_option maxRecDepth 20000 in
theorem t_X11_readRule_92 {d d1' : Nat} {Q : Option MV → MH → Prop} {h : MH} {v1 v2 vs1 vs2 : Int32} {vs0 : Nat} (hr : zRf h) (hd1' : d1' + 1 ≤ d) (G0 : zokA h vs0 20 vs1) (G1 : vp_in ((nI 96) + v1) 236) (K0 : Con mX11_readAct d1' 0 0 [.inr (.inr 111)] (zsI (zsI h vs0 vs1.toNatClampNeg vs2) 115 ((nI 96) + v1).toNatClampNeg ((zsI h vs0 vs1.toNatClampNeg vs2).1 115 75)) (zrv fun h' => J mX11_readRule d 0 0 Q 0 0 113 [some (.inr (.inr 111)), some (.inl v1), some (.inl v2)] [] h')) : J mX11_readRule d 0 0 Q 0 0 92 [some (.inr (.inr 111)), some (.inl v1), some (.inl v2)] [.inl vs2, .inl vs1, .inr (.inr vs0)] h := by
  exact bX11_readRule_92 hr (G0) (vp_in_nI (by decide) (by decide)) (G1) hd1' (K0)

set_option maxRecDepth 20000 in
theorem t_X11_readRule_113 {d d1' : Nat} {Q : Option MV → MH → Prop} {h : MH} {v1 v2 : Int32} (hr : zRf h) (hd1' : d1' + 1 ≤ d) (K0 : Con mX11_eats d1' 0 0 [.inr (.inr 111), .inl (nI 5)] h (zri fun (x : Int32) h' => J mX11_readRule d 0 0 Q 0 0 118 [some (.inr (.inr 111)), some (.inl v1), some (.inl v2)] [.inl x] h')) : J mX11_readRule d 0 0 Q 0 0 113 [some (.inr (.inr 111)), some (.inl v1), some (.inl v2)] [] h := by
  exact bX11_readRule_113 hr hd1' (K0)

set_option maxRecDepth 20000 in
theorem t_X11_readRule_118 {d d1' d2' : Nat} {Q : Option MV → MH → Prop} {h : MH} {v1 v2 vs0 : Int32} (hr : zRf h) (hd1' : d1' + 1 ≤ d) (hd2' : d2' + 1 ≤ d) (K0 : vs0 = 0 → Con mX11_needs d1' 0 0 [.inr (.inr 111), .inl (nI 13)] h (zrv fun h' => J mX11_readRule d 0 0 Q 0 0 134 [some (.inr (.inr 111)), some (.inl v1), some (.inl v2)] [] h')) (K1 : ¬ vs0 = 0 → Con mX11_readAct d2' 0 0 [.inr (.inr 111)] h (zrv fun h' => J mX11_readRule d 0 0 Q 0 0 125 [some (.inr (.inr 111)), some (.inl v1), some (.inl v2)] [] h')) : J mX11_readRule d 0 0 Q 0 0 118 [some (.inr (.inr 111)), some (.inl v1), some (.inl v2)] [.inl vs0] h := by
  refine bX11_readRule_118  (fun p1 => ?_) (fun p1 => ?_)
  · exact bX11_readRule_128 hr hd1' (K0 p1)
  · exact bX11_readRule_121 hr hd2' (K1 p1)

set_option maxRecDepth 20000 in
theorem t_X11_readRule_125 {d  : Nat} {Q : Option MV → MH → Prop} {h : MH} {v1 v2 : Int32} (K0 : J mX11_readRule d 0 0 Q 0 0 113 [some (.inr (.inr 111)), some (.inl v1), some (.inl v2)] [] h) : J mX11_readRule d 0 0 Q 0 0 125 [some (.inr (.inr 111)), some (.inl v1), some (.inl v2)] [] h := by
  refine bX11_readRule_125  ?_
  exact K0

set_option maxRecDepth 20000 in
theorem t_X11_readRule_134 {d  : Nat} {Q : Option MV → MH → Prop} {h : MH} {v1 v2 : Int32} (hr : zRf h) (K0 : Q none (zsI h 115 74 ((h.1 115 74) + (nI 1)))) : J mX11_readRule d 0 0 Q 0 0 134 [some (.inr (.inr 111)), some (.inl v1), some (.inl v2)] [] h := by
  exact bX11_readRule_134 hr (vp_in_nI (by decide) (by decide)) (K0)

set_option maxRecDepth 20000 in
theorem t_X11_plan {d d1' : Nat} {Q : Option MV → MH → Prop} {h : MH} {v1 v2 : Int32} (hr : zRf h) (hd : 1 ≤ d) (hd1' : d1' + 1 ≤ d) (K0 : ¬ (lN 0) ≤ v1.toInt64 → Q (some (.inl (-(nI 2)))) (zsI h 111 0 (nI 0))) (K1 : (lN 0) ≤ v1.toInt64 → ¬ v1.toInt64 ≤ (3 : Int64) → Q (some (.inl (-(nI 2)))) (zsI h 111 0 (nI 0))) (K2 : (lN 0) ≤ v1.toInt64 → v1.toInt64 ≤ (3 : Int64) → ¬ (lN 0) ≤ v2.toInt64 → Q (some (.inl (-(nI 3)))) (zsI h 111 0 (nI 0))) (K3 : (lN 0) ≤ v1.toInt64 → v1.toInt64 ≤ (3 : Int64) → (lN 0) ≤ v2.toInt64 → ¬ v2.toInt64 ≤ (((zsI h 111 0 (nI 0)).1 111 5).toInt64) → Q (some (.inl (-(nI 3)))) (zsI h 111 0 (nI 0))) (K4 : (lN 0) ≤ v1.toInt64 → v1.toInt64 ≤ (3 : Int64) → (lN 0) ≤ v2.toInt64 → v2.toInt64 ≤ (((zsI h 111 0 (nI 0)).1 111 5).toInt64) → Con mX11_begins d1' 0 0 [.inr (.inr 111), .inl v2] (zsI h 111 0 (nI 0)) (zrv fun h' => J mX11_plan d 0 0 Q 0 0 42 [some (.inr (.inr 111)), some (.inl v1), some (.inl v2), none] [] h')) : Con mX11_plan d 0 0 [.inr (.inr 111), .inl v1, .inl v2] h Q := by
  refine Con.intro rfl (Nat.le_of_ble_eq_true rfl) ?_
  show J mX11_plan d 0 0 Q 0 0 0 [some (.inr (.inr 111)), some (.inl v1), some (.inl v2), none] [] h
  refine bX11_plan_0 (d' := 0) hr (by omega) ?_
  refine t_X11_within  ?_ ?_ ?_
  · intro p1
    refine bX11_plan_14  (fun c => absurd c (by decide)) (fun _ => ?_)
    exact bX11_plan_17  (K0 p1)
  · intro p2 p3
    refine bX11_plan_14  (fun c => absurd c (by decide)) (fun _ => ?_)
    exact bX11_plan_17  (K1 p2 p3)
  · intro p4 p5
    refine bX11_plan_14  (fun _ => ?_) (fun c => absurd c (by decide))
    refine bX11_plan_20 (d' := 0) hr (by omega) ?_
    refine t_X11_within  ?_ ?_ ?_
    · intro p6
      refine bX11_plan_31  (fun c => absurd c (by decide)) (fun _ => ?_)
      exact bX11_plan_34  (K2 p4 p5 p6)
    · intro p7 p8
      refine bX11_plan_31  (fun c => absurd c (by decide)) (fun _ => ?_)
      exact bX11_plan_34  (K3 p4 p5 p7 p8)
    · intro p9 p10
      refine bX11_plan_31  (fun _ => ?_) (fun c => absurd c (by decide))
      exact bX11_plan_37 hr hd1' (K4 p4 p5 p9 p10)

set_option maxRecDepth 20000 in
theorem t_X11_plan_42 {d d1' d2' d3' : Nat} {Q : Option MV → MH → Prop} {h : MH} {v1 v2 : Int32} (hr : zRf h) (hd1' : d1' + 1 ≤ d) (hd2' : d2' + 1 ≤ d) (hd3' : d3' + 1 ≤ d) (K0 : ¬ (h.1 111 11) = 0 → Con mX11_told d1' 0 0 [.inr (.inr 111)] h (zri fun (x : Int32) h' => J mX11_plan d 0 0 Q 0 0 76 [some (.inr (.inr 111)), some (.inl v1), some (.inl v2), none] [.inl x] h')) (K1 : (h.1 111 11) = 0 → (h.1 111 9) = (nI 14) → Con mX11_told d2' 0 0 [.inr (.inr 111)] h (zri fun (x : Int32) h' => J mX11_plan d 0 0 Q 0 0 81 [some (.inr (.inr 111)), some (.inl v1), some (.inl v2), none] [.inl x] h')) (K2 : (h.1 111 11) = 0 → ¬ (h.1 111 9) = (nI 14) → Con mX11_readRule d3' 0 0 [.inr (.inr 111)] h (zrv fun h' => J mX11_plan d 0 0 Q 0 0 62 [some (.inr (.inr 111)), some (.inl v1), some (.inl v2), none] [] h')) : J mX11_plan d 0 0 Q 0 0 42 [some (.inr (.inr 111)), some (.inl v1), some (.inl v2), none] [] h := by
  refine bX11_plan_42 hr (fun p1 => ?_) (fun p1 => ?_)
  · refine bX11_plan_65 hr (fun c => absurd c p1) (fun _ => ?_)
    exact bX11_plan_72 hr hd1' (K0 p1)
  · refine bX11_plan_49 hr (fun p2 => ?_) (fun p2 => ?_)
    · refine bX11_plan_65 hr (fun _ => ?_) (fun c => absurd p1 c)
      exact bX11_plan_77 hr hd2' (K1 p1 p2)
    · exact bX11_plan_58 hr hd3' (K2 p1 p2)

set_option maxRecDepth 20000 in
theorem t_X11_plan_62 {d  : Nat} {Q : Option MV → MH → Prop} {h : MH} {v1 v2 : Int32} (K0 : J mX11_plan d 0 0 Q 0 0 42 [some (.inr (.inr 111)), some (.inl v1), some (.inl v2), none] [] h) : J mX11_plan d 0 0 Q 0 0 62 [some (.inr (.inr 111)), some (.inl v1), some (.inl v2), none] [] h := by
  refine bX11_plan_62  ?_
  exact K0

set_option maxRecDepth 20000 in
theorem t_X11_plan_76 {d  : Nat} {Q : Option MV → MH → Prop} {h : MH} {v1 v2 vs0 : Int32} (K0 : Q (some (.inl vs0)) h) : J mX11_plan d 0 0 Q 0 0 76 [some (.inr (.inr 111)), some (.inl v1), some (.inl v2), none] [.inl vs0] h := by
  exact bX11_plan_76  (K0)

set_option maxRecDepth 20000 in
theorem t_X11_plan_81 {d  : Nat} {Q : Option MV → MH → Prop} {h : MH} {v1 v2 vs0 : Int32} (K0 : J mX11_plan d 0 0 Q 0 0 84 [some (.inr (.inr 111)), some (.inl v1), some (.inl v2), some (.inl (nI 0))] [] h) : J mX11_plan d 0 0 Q 0 0 81 [some (.inr (.inr 111)), some (.inl v1), some (.inl v2), none] [.inl vs0] h := by
  refine bX11_plan_81  ?_
  exact K0

set_option maxRecDepth 20000 in
theorem t_X11_plan_84 {d  : Nat} {Q : Option MV → MH → Prop} {h : MH} {v1 v2 v3 : Int32} (hr : zRf h) (hd : 1 ≤ d) (G0 : (nI 162) ≤ v3 → zokA h 112 20 ((nI 74) + ((nI 162) * v1))) (G1 : ¬ (nI 162) ≤ v3 → vp_in ((nI 74) + v3) 236) (G2 : ¬ (nI 162) ≤ v3 → zokA h 112 20 (((nI 74) + ((nI 162) * v1)) + v3)) (K0 : (nI 162) ≤ v3 → Q (some (.inl (h.1 112 ((nI 74) + ((nI 162) * v1)).toNatClampNeg))) h) (K1 : ¬ (nI 162) ≤ v3 → J mX11_plan d 0 0 Q 0 0 84 [some (.inr (.inr 111)), some (.inl v1), some (.inl v2), some (.inl (v3 + nI 1))] [] (zsI h 112 (((nI 74) + ((nI 162) * v1)) + v3).toNatClampNeg (h.1 115 ((nI 74) + v3).toNatClampNeg))) : J mX11_plan d 0 0 Q 0 0 84 [some (.inr (.inr 111)), some (.inl v1), some (.inl v2), some (.inl v3)] [] h := by
  refine bX11_plan_84  (fun p1 => ?_) (fun p1 => ?_)
  · refine bX11_plan_120 (d' := 0) hr (by omega) ?_
    refine t_X11_planAt  ?_
    · exact bX11_plan_130 (G0 p1) (K0 p1)
  · refine bX11_plan_91 (d' := 0) hr (by omega) ?_
    refine t_X11_planAt  ?_
    · refine bX11_plan_101 hr (G1 p1) (G2 p1) ?_
      exact K1 p1

set_option maxRecDepth 20000 in
theorem t_X11_fault {d  : Nat} {Q : Option MV → MH → Prop} {h : MH} {v1 : Int32} (hr : zRf h) (K0 : ¬ v1 = 0 → ¬ v1 = (nI 1) → Q (some (.inl (-(nI 1)))) (zsI h 111 0 (nI 0))) (K1 : ¬ v1 = 0 → v1 = (nI 1) → Q (some (.inl ((zsI h 111 0 (nI 0)).1 111 14))) (zsI h 111 0 (nI 0))) (K2 : v1 = 0 → Q (some (.inl ((zsI h 111 0 (nI 0)).1 111 13))) (zsI h 111 0 (nI 0))) : Con mX11_fault d 0 0 [.inr (.inr 111), .inl v1] h Q := by
  refine Con.intro rfl (Nat.le_of_ble_eq_true rfl) ?_
  show J mX11_fault d 0 0 Q 0 0 0 [some (.inr (.inr 111)), some (.inl v1)] [] h
  refine bX11_fault_0 hr (fun p1 => ?_) (fun p1 => ?_)
  · refine bX11_fault_16  (fun p2 => ?_) (fun p2 => ?_)
    · refine bX11_fault_28  ?_
      exact bX11_fault_29  (K0 p1 p2)
    · refine bX11_fault_21 hr ?_
      exact bX11_fault_29  (K1 p1 p2)
  · refine bX11_fault_9 hr ?_
    exact bX11_fault_29  (K2 p1)

set_option maxRecDepth 20000 in
theorem t_X11_restOf {d  : Nat} {Q : Option MV → MH → Prop} {h : MH} {v1 : Int32} (K0 : J mX11_restOf d 0 0 Q 0 0 4 [some (.inr (.inr 111)), some (.inl v1), some (.inl (nI 0)), some (.inl (nI 0))] [] h) : Con mX11_restOf d 0 0 [.inr (.inr 111), .inl v1] h Q := by
  refine Con.intro rfl (Nat.le_of_ble_eq_true rfl) ?_
  show J mX11_restOf d 0 0 Q 0 0 0 [some (.inr (.inr 111)), some (.inl v1), none, none] [] h
  refine bX11_restOf_0  ?_
  exact K0

set_option maxRecDepth 20000 in
theorem t_X11_restOf_4 {d  : Nat} {Q : Option MV → MH → Prop} {h : MH} {v1 v2 v3 : Int32} (hr : zRf h) (hd : 1 ≤ d) (G0 : vp_in ((nI 1) + v1) 2166) (G1 : ¬ (h.1 112 ((nI 1) + v1).toNatClampNeg) ≤ v3 → vp_in (((nI 9) + ((nI 6) * v1)) + v3) 2166) (K0 : (h.1 112 ((nI 1) + v1).toNatClampNeg) ≤ v3 → Q (some (.inl ((nI 256) * v2))) h) (K1 : ¬ (h.1 112 ((nI 1) + v1).toNatClampNeg) ≤ v3 → J mX11_restOf d 0 0 Q 0 0 4 [some (.inr (.inr 111)), some (.inl v1), some (.inl (v2 + (h.1 112 (((nI 9) + ((nI 6) * v1)) + v3).toNatClampNeg))), some (.inl (v3 + nI 1))] [] h) : J mX11_restOf d 0 0 Q 0 0 4 [some (.inr (.inr 111)), some (.inl v1), some (.inl v2), some (.inl v3)] [] h := by
  refine bX11_restOf_4 hr (G0) (fun p1 => ?_) (fun p1 => ?_)
  · exact bX11_restOf_31  (K0 p1)
  · refine bX11_restOf_16 (d' := 0) hr (by omega) ?_
    refine t_X11_minuteOf hr (G1 p1) ?_
    · refine bX11_restOf_23  ?_
      exact K1 p1

set_option maxRecDepth 20000 in
theorem t_X11_candle {d  : Nat} {Q : Option MV → MH → Prop} {h : MH} {v1 v2 : Int32} (hr : zRf h) (hd : 2 ≤ d) (G0 : (lN 0) ≤ v1.toInt64 → v1.toInt64 ≤ ((((zsI h 111 0 (nI 0)).1 112 0) - (nI 1)).toInt64) → vp_in ((nI 1) + v1) 2166) (G1 : (lN 0) ≤ v1.toInt64 → v1.toInt64 ≤ ((((zsI h 111 0 (nI 0)).1 112 0) - (nI 1)).toInt64) → (10 : Int64) ≤ v2.toInt64 → v2.toInt64 ≤ (((nI 9) + ((zsI h 111 0 (nI 0)).1 112 ((nI 1) + v1).toNatClampNeg)).toInt64) → vp_in (((nI 9) + ((nI 6) * v1)) + (v2 - (nI 10))) 2166) (K0 : ¬ (lN 0) ≤ v1.toInt64 → Q (some (.inl (-(nI 2)))) (zsI h 111 0 (nI 0))) (K1 : (lN 0) ≤ v1.toInt64 → ¬ v1.toInt64 ≤ ((((zsI h 111 0 (nI 0)).1 112 0) - (nI 1)).toInt64) → Q (some (.inl (-(nI 2)))) (zsI h 111 0 (nI 0))) (K2 : (lN 0) ≤ v1.toInt64 → v1.toInt64 ≤ ((((zsI h 111 0 (nI 0)).1 112 0) - (nI 1)).toInt64) → ¬ (10 : Int64) ≤ v2.toInt64 → J mX11_candle d 0 0 Q 0 0 50 [some (.inr (.inr 111)), some (.inl v1), some (.inl v2)] [.inl v2] (zsI h 111 0 (nI 0))) (K3 : (lN 0) ≤ v1.toInt64 → v1.toInt64 ≤ ((((zsI h 111 0 (nI 0)).1 112 0) - (nI 1)).toInt64) → (10 : Int64) ≤ v2.toInt64 → ¬ v2.toInt64 ≤ (((nI 9) + ((zsI h 111 0 (nI 0)).1 112 ((nI 1) + v1).toNatClampNeg)).toInt64) → J mX11_candle d 0 0 Q 0 0 50 [some (.inr (.inr 111)), some (.inl v1), some (.inl v2)] [.inl v2] (zsI h 111 0 (nI 0))) (K4 : (lN 0) ≤ v1.toInt64 → v1.toInt64 ≤ ((((zsI h 111 0 (nI 0)).1 112 0) - (nI 1)).toInt64) → (10 : Int64) ≤ v2.toInt64 → v2.toInt64 ≤ (((nI 9) + ((zsI h 111 0 (nI 0)).1 112 ((nI 1) + v1).toNatClampNeg)).toInt64) → Q (some (.inl ((zsI h 111 0 (nI 0)).1 112 (((nI 9) + ((nI 6) * v1)) + (v2 - (nI 10))).toNatClampNeg))) (zsI h 111 0 (nI 0))) : Con mX11_candle d 0 0 [.inr (.inr 111), .inl v1, .inl v2] h Q := by
  refine Con.intro rfl (Nat.le_of_ble_eq_true rfl) ?_
  show J mX11_candle d 0 0 Q 0 0 0 [some (.inr (.inr 111)), some (.inl v1), some (.inl v2)] [] h
  refine bX11_candle_0 (d' := 1) hr (by omega) ?_
  refine t_X11_isCandle hr (Nat.le_refl _) ?_ ?_ ?_
  · intro p1
    refine bX11_candle_10  (fun c => absurd c (by decide)) (fun _ => ?_)
    exact bX11_candle_13  (K0 p1)
  · intro p2 p3
    refine bX11_candle_10  (fun c => absurd c (by decide)) (fun _ => ?_)
    exact bX11_candle_13  (K1 p2 p3)
  · intro p4 p5
    refine bX11_candle_10  (fun _ => ?_) (fun c => absurd c (by decide))
    refine bX11_candle_16 (d' := 0) hr (G0 p4 p5) (by omega) ?_
    refine t_X11_within  ?_ ?_ ?_
    · intro p6
      refine bX11_candle_36  (fun _ => ?_) (fun c => absurd c (by decide))
      refine bX11_candle_49  ?_
      exact K2 p4 p5 p6
    · intro p7 p8
      refine bX11_candle_36  (fun _ => ?_) (fun c => absurd c (by decide))
      refine bX11_candle_49  ?_
      exact K3 p4 p5 p7 p8
    · intro p9 p10
      refine bX11_candle_36  (fun c => absurd c (by decide)) (fun _ => ?_)
      refine bX11_candle_39 (d' := 0) hr (by omega) ?_
      refine t_X11_minuteOf hr (G1 p4 p5 p9 p10) ?_
      · exact bX11_candle_48  (K4 p4 p5 p9 p10)

set_option maxRecDepth 20000 in
theorem t_X11_candle_80 {d  : Nat} {Q : Option MV → MH → Prop} {h : MH} {v1 v2 : Int32} (hr : zRf h) (G0 : vp_in ((nI 1) + v1) 2166) (K0 : Q (some (.inl (h.1 112 ((nI 1) + v1).toNatClampNeg))) h) : J mX11_candle d 0 0 Q 0 0 80 [some (.inr (.inr 111)), some (.inl v1), some (.inl v2)] [] h := by
  exact bX11_candle_80 hr (G0) (K0)

set_option maxRecDepth 20000 in
theorem t_X11_candle_89 {d d1' : Nat} {Q : Option MV → MH → Prop} {h : MH} {v1 v2 : Int32} (hr : zRf h) (hd1' : d1' + 1 ≤ d) (K0 : Con mX11_restOf d1' 0 0 [.inr (.inr 111), .inl v1] h (zri fun (x : Int32) h' => J mX11_candle d 0 0 Q 0 0 94 [some (.inr (.inr 111)), some (.inl v1), some (.inl v2)] [.inl x] h')) : J mX11_candle d 0 0 Q 0 0 89 [some (.inr (.inr 111)), some (.inl v1), some (.inl v2)] [] h := by
  exact bX11_candle_89 hr hd1' (K0)

set_option maxRecDepth 20000 in
theorem t_X11_candle_94 {d  : Nat} {Q : Option MV → MH → Prop} {h : MH} {v1 v2 vs0 : Int32} (K0 : Q (some (.inl (vs0 / (nI 256)))) h) : J mX11_candle d 0 0 Q 0 0 94 [some (.inr (.inr 111)), some (.inl v1), some (.inl v2)] [.inl vs0] h := by
  exact bX11_candle_94  (K0)

set_option maxRecDepth 20000 in
theorem t_X11_candle_99 {d  : Nat} {Q : Option MV → MH → Prop} {h : MH} {v1 v2 : Int32} (hr : zRf h) (G0 : vp_in ((nI 57) + v1) 2166) (K0 : Q (some (.inl (h.1 112 ((nI 57) + v1).toNatClampNeg))) h) : J mX11_candle d 0 0 Q 0 0 99 [some (.inr (.inr 111)), some (.inl v1), some (.inl v2)] [] h := by
  exact bX11_candle_99 hr (G0) (K0)

set_option maxRecDepth 20000 in
theorem t_X11_candle_109 {d  : Nat} {Q : Option MV → MH → Prop} {h : MH} {v1 v2 : Int32} (hr : zRf h) (G0 : vp_in ((nI 65) + v1) 2166) (K0 : Q (some (.inl (h.1 112 ((nI 65) + v1).toNatClampNeg))) h) : J mX11_candle d 0 0 Q 0 0 109 [some (.inr (.inr 111)), some (.inl v1), some (.inl v2)] [] h := by
  exact bX11_candle_109 hr (G0) (K0)

set_option maxRecDepth 20000 in
theorem t_X11_candle_119 {d  : Nat} {Q : Option MV → MH → Prop} {h : MH} {v1 v2 : Int32} (K0 : Q (some (.inl (-(nI 2)))) h) : J mX11_candle d 0 0 Q 0 0 119 [some (.inr (.inr 111)), some (.inl v1), some (.inl v2)] [] h := by
  exact bX11_candle_119  (K0)

set_option maxRecDepth 20000 in
theorem t_X11_burntOf {d  : Nat} {Q : Option MV → MH → Prop} {h : MH} {v1 v2 v3 : Int32} (K0 : J mX11_burntOf d 0 0 Q 0 0 6 [some (.inr (.inr 111)), some (.inl v1), some (.inl v2), some (.inl v3), some (.inl v2), some (.inl (nI 0)), none, none, none, none, none, none] [] h) : Con mX11_burntOf d 0 0 [.inr (.inr 111), .inl v1, .inl v2, .inl v3] h Q := by
  refine Con.intro rfl (Nat.le_of_ble_eq_true rfl) ?_
  show J mX11_burntOf d 0 0 Q 0 0 0 [some (.inr (.inr 111)), some (.inl v1), some (.inl v2), some (.inl v3), none, none, none, none, none, none, none, none] [] h
  refine bX11_burntOf_0  ?_
  exact K0

set_option maxRecDepth 20000 in
theorem t_X11_burntOf_6 {d  : Nat} {Q : Option MV → MH → Prop} {h : MH} {v1 v2 v3 v4 v5 : Int32} (hr : zRf h) (hd : 1 ≤ d) (G0 : vp_in ((nI 1) + v1) 2166) (G1 : ((h.1 112 ((nI 1) + v1).toNatClampNeg) - (nI 1)) ≤ v5 → vp_in (((nI 9) + ((nI 6) * v1)) + v5) 2166) (G2 : ((h.1 112 ((nI 1) + v1).toNatClampNeg) - (nI 1)) ≤ v5 → v3 = 0 → ¬ (((h.1 112 ((nI 1) + v1).toNatClampNeg).toInt64) * (((nI 256) * (h.1 112 (((nI 9) + ((nI 6) * v1)) + v5).toNatClampNeg)).toInt64)) = 0) (G3 : ((h.1 112 ((nI 1) + v1).toNatClampNeg) - (nI 1)) ≤ v5 → ¬ v3 = 0 → ¬ (((h.1 112 ((nI 1) + v1).toNatClampNeg).toInt64) * (((nI 256) * (h.1 112 (((nI 9) + ((nI 6) * v1)) + v5).toNatClampNeg)).toInt64)) = 0) (G4 : ¬ ((h.1 112 ((nI 1) + v1).toNatClampNeg) - (nI 1)) ≤ v5 → vp_in (((nI 9) + ((nI 6) * v1)) + v5) 2166) (G5 : ¬ ((h.1 112 ((nI 1) + v1).toNatClampNeg) - (nI 1)) ≤ v5 → v4 < ((nI 256) * (h.1 112 (((nI 9) + ((nI 6) * v1)) + v5).toNatClampNeg)) → v3 = 0 → ¬ (((h.1 112 ((nI 1) + v1).toNatClampNeg).toInt64) * (((nI 256) * (h.1 112 (((nI 9) + ((nI 6) * v1)) + v5).toNatClampNeg)).toInt64)) = 0) (G6 : ¬ ((h.1 112 ((nI 1) + v1).toNatClampNeg) - (nI 1)) ≤ v5 → v4 < ((nI 256) * (h.1 112 (((nI 9) + ((nI 6) * v1)) + v5).toNatClampNeg)) → ¬ v3 = 0 → ¬ (((h.1 112 ((nI 1) + v1).toNatClampNeg).toInt64) * (((nI 256) * (h.1 112 (((nI 9) + ((nI 6) * v1)) + v5).toNatClampNeg)).toInt64)) = 0) (K0 : ((h.1 112 ((nI 1) + v1).toNatClampNeg) - (nI 1)) ≤ v5 → v3 = 0 → Q (some (.inl (((((1000 : Int64) * ((v5.toInt64 * (((nI 256) * (h.1 112 (((nI 9) + ((nI 6) * v1)) + v5).toNatClampNeg)).toInt64)) + v4.toInt64)) + (lN 0)) / (((h.1 112 ((nI 1) + v1).toNatClampNeg).toInt64) * (((nI 256) * (h.1 112 (((nI 9) + ((nI 6) * v1)) + v5).toNatClampNeg)).toInt64))).toInt32))) h) (K1 : ((h.1 112 ((nI 1) + v1).toNatClampNeg) - (nI 1)) ≤ v5 → ¬ v3 = 0 → Q (some (.inl (((((1000 : Int64) * ((v5.toInt64 * (((nI 256) * (h.1 112 (((nI 9) + ((nI 6) * v1)) + v5).toNatClampNeg)).toInt64)) + v4.toInt64)) + ((((h.1 112 ((nI 1) + v1).toNatClampNeg).toInt64) * (((nI 256) * (h.1 112 (((nI 9) + ((nI 6) * v1)) + v5).toNatClampNeg)).toInt64)) - (lN 1))) / (((h.1 112 ((nI 1) + v1).toNatClampNeg).toInt64) * (((nI 256) * (h.1 112 (((nI 9) + ((nI 6) * v1)) + v5).toNatClampNeg)).toInt64))).toInt32))) h) (K2 : ¬ ((h.1 112 ((nI 1) + v1).toNatClampNeg) - (nI 1)) ≤ v5 → v4 < ((nI 256) * (h.1 112 (((nI 9) + ((nI 6) * v1)) + v5).toNatClampNeg)) → v3 = 0 → Q (some (.inl (((((1000 : Int64) * ((v5.toInt64 * (((nI 256) * (h.1 112 (((nI 9) + ((nI 6) * v1)) + v5).toNatClampNeg)).toInt64)) + v4.toInt64)) + (lN 0)) / (((h.1 112 ((nI 1) + v1).toNatClampNeg).toInt64) * (((nI 256) * (h.1 112 (((nI 9) + ((nI 6) * v1)) + v5).toNatClampNeg)).toInt64))).toInt32))) h) (K3 : ¬ ((h.1 112 ((nI 1) + v1).toNatClampNeg) - (nI 1)) ≤ v5 → v4 < ((nI 256) * (h.1 112 (((nI 9) + ((nI 6) * v1)) + v5).toNatClampNeg)) → ¬ v3 = 0 → Q (some (.inl (((((1000 : Int64) * ((v5.toInt64 * (((nI 256) * (h.1 112 (((nI 9) + ((nI 6) * v1)) + v5).toNatClampNeg)).toInt64)) + v4.toInt64)) + ((((h.1 112 ((nI 1) + v1).toNatClampNeg).toInt64) * (((nI 256) * (h.1 112 (((nI 9) + ((nI 6) * v1)) + v5).toNatClampNeg)).toInt64)) - (lN 1))) / (((h.1 112 ((nI 1) + v1).toNatClampNeg).toInt64) * (((nI 256) * (h.1 112 (((nI 9) + ((nI 6) * v1)) + v5).toNatClampNeg)).toInt64))).toInt32))) h) (K4 : ¬ ((h.1 112 ((nI 1) + v1).toNatClampNeg) - (nI 1)) ≤ v5 → ¬ v4 < ((nI 256) * (h.1 112 (((nI 9) + ((nI 6) * v1)) + v5).toNatClampNeg)) → J mX11_burntOf d 0 0 Q 0 0 6 [some (.inr (.inr 111)), some (.inl v1), some (.inl v2), some (.inl v3), some (.inl (v4 - ((nI 256) * (h.1 112 (((nI 9) + ((nI 6) * v1)) + v5).toNatClampNeg)))), some (.inl (v5 + nI 1)), none, none, none, none, none, none] [] h) : J mX11_burntOf d 0 0 Q 0 0 6 [some (.inr (.inr 111)), some (.inl v1), some (.inl v2), some (.inl v3), some (.inl v4), some (.inl v5), none, none, none, none, none, none] [] h := by
  refine bX11_burntOf_6 hr (G0) (fun p1 => ?_) (fun p1 => ?_)
  · refine bX11_burntOf_59 (d' := 0) hr (by omega) ?_
    refine t_X11_minuteOf hr (G1 p1) ?_
    · refine bX11_burntOf_69 hr (G0) (fun p2 => ?_) (fun p2 => ?_)
      · refine bX11_burntOf_116  ?_
        exact bX11_burntOf_117 (G2 p1 p2) (K0 p1 p2)
      · refine bX11_burntOf_109  ?_
        exact bX11_burntOf_117 (G3 p1 p2) (K1 p1 p2)
  · refine bX11_burntOf_21 (d' := 0) hr (by omega) ?_
    refine t_X11_minuteOf hr (G4 p1) ?_
    · refine bX11_burntOf_33  (fun p3 => ?_) (fun p3 => ?_)
      · refine bX11_burntOf_59 (d' := 0) hr (by omega) ?_
        refine t_X11_minuteOf hr (G4 p1) ?_
        · refine bX11_burntOf_69 hr (G0) (fun p4 => ?_) (fun p4 => ?_)
          · refine bX11_burntOf_116  ?_
            exact bX11_burntOf_117 (G5 p1 p3 p4) (K2 p1 p3 p4)
          · refine bX11_burntOf_109  ?_
            exact bX11_burntOf_117 (G6 p1 p3 p4) (K3 p1 p3 p4)
      · refine bX11_burntOf_37 (d' := 0) hr (by omega) ?_
        refine t_X11_minuteOf hr (G4 p1) ?_
        · refine bX11_burntOf_49  ?_
          exact K4 p1 p3

set_option maxRecDepth 20000 in
theorem t_X11_length {d d1' : Nat} {Q : Option MV → MH → Prop} {h : MH} {v1 v2 : Int32} (hr : zRf h) (hd : 2 ≤ d) (hd1' : d1' + 1 ≤ d) (K0 : ¬ (lN 0) ≤ v1.toInt64 → Q (some (.inl (-(nI 2)))) (zsI h 111 0 (nI 0))) (K1 : (lN 0) ≤ v1.toInt64 → ¬ v1.toInt64 ≤ ((((zsI h 111 0 (nI 0)).1 112 0) - (nI 1)).toInt64) → Q (some (.inl (-(nI 2)))) (zsI h 111 0 (nI 0))) (K2 : (lN 0) ≤ v1.toInt64 → v1.toInt64 ≤ ((((zsI h 111 0 (nI 0)).1 112 0) - (nI 1)).toInt64) → Con mX11_restOf d1' 0 0 [.inr (.inr 111), .inl v1] (zsI h 111 0 (nI 0)) (zri fun (x : Int32) h' => J mX11_length d 0 0 Q 0 0 24 [some (.inr (.inr 111)), some (.inl v1), some (.inl v2)] [.inl x, .inr (.inl (lN 0)), .inr (.inl v2.toInt64)] h')) : Con mX11_length d 0 0 [.inr (.inr 111), .inl v1, .inl v2] h Q := by
  refine Con.intro rfl (Nat.le_of_ble_eq_true rfl) ?_
  show J mX11_length d 0 0 Q 0 0 0 [some (.inr (.inr 111)), some (.inl v1), some (.inl v2)] [] h
  refine bX11_length_0 (d' := 1) hr (by omega) ?_
  refine t_X11_isCandle hr (Nat.le_refl _) ?_ ?_ ?_
  · intro p1
    refine bX11_length_10  (fun c => absurd c (by decide)) (fun _ => ?_)
    exact bX11_length_13  (K0 p1)
  · intro p2 p3
    refine bX11_length_10  (fun c => absurd c (by decide)) (fun _ => ?_)
    exact bX11_length_13  (K1 p2 p3)
  · intro p4 p5
    refine bX11_length_10  (fun _ => ?_) (fun c => absurd c (by decide))
    exact bX11_length_16 hr hd1' (K2 p4 p5)

set_option maxRecDepth 20000 in
theorem t_X11_length_24 {d d1' : Nat} {Q : Option MV → MH → Prop} {h : MH} {v1 v2 vs2 : Int32} {vs0 vs1 : Int64} (hr : zRf h) (hd : 1 ≤ d) (hd1' : d1' + 1 ≤ d) (K0 : ¬ vs1 ≤ vs0 → Q (some (.inl (-(nI 3)))) h) (K1 : vs1 ≤ vs0 → ¬ vs0 ≤ vs2.toInt64 → Q (some (.inl (-(nI 3)))) h) (K2 : vs1 ≤ vs0 → vs0 ≤ vs2.toInt64 → Con mX11_burntOf d1' 0 0 [.inr (.inr 111), .inl v1, .inl v2, .inl (nI 1)] h (zri fun (x : Int32) h' => J mX11_length d 0 0 Q 0 0 44 [some (.inr (.inr 111)), some (.inl v1), some (.inl v2)] [.inl x, .inl (nI 1000)] h')) : J mX11_length d 0 0 Q 0 0 24 [some (.inr (.inr 111)), some (.inl v1), some (.inl v2)] [.inl vs2, .inr (.inl vs1), .inr (.inl vs0)] h := by
  refine bX11_length_24 (d' := 0)  (by omega) ?_
  refine t_X11_within  ?_ ?_ ?_
  · intro p1
    refine bX11_length_28  (fun c => absurd c (by decide)) (fun _ => ?_)
    exact bX11_length_31  (K0 p1)
  · intro p2 p3
    refine bX11_length_28  (fun c => absurd c (by decide)) (fun _ => ?_)
    exact bX11_length_31  (K1 p2 p3)
  · intro p4 p5
    refine bX11_length_28  (fun _ => ?_) (fun c => absurd c (by decide))
    exact bX11_length_34 hr hd1' (K2 p4 p5)

set_option maxRecDepth 20000 in
theorem t_X11_length_44 {d  : Nat} {Q : Option MV → MH → Prop} {h : MH} {v1 v2 vs0 vs1 : Int32} (K0 : Q (some (.inl (vs0 - vs1))) h) : J mX11_length d 0 0 Q 0 0 44 [some (.inr (.inr 111)), some (.inl v1), some (.inl v2)] [.inl vs1, .inl vs0] h := by
  exact bX11_length_44  (K0)

set_option maxRecDepth 20000 in
theorem t_X11_meet {d d1' : Nat} {Q : Option MV → MH → Prop} {h : MH} {v1 : Int32} (hr : zRf h) (hd : 2 ≤ d) (hd1' : d1' + 1 ≤ d) (K0 : ¬ (lN 0) ≤ v1.toInt64 → Q (some (.inl (-(nI 2)))) (zsI h 111 0 (nI 0))) (K1 : (lN 0) ≤ v1.toInt64 → ¬ v1.toInt64 ≤ ((((zsI h 111 0 (nI 0)).1 112 0) - (nI 1)).toInt64) → Q (some (.inl (-(nI 2)))) (zsI h 111 0 (nI 0))) (K2 : (lN 0) ≤ v1.toInt64 → v1.toInt64 ≤ ((((zsI h 111 0 (nI 0)).1 112 0) - (nI 1)).toInt64) → Con mX11_restOf d1' 0 0 [.inr (.inr 111), .inl v1] (zsI h 111 0 (nI 0)) (zri fun (x : Int32) h' => J mX11_meet d 0 0 Q 0 0 20 [some (.inr (.inr 111)), some (.inl v1)] [.inl x, .inl v1, .inr (.inr 111)] h')) : Con mX11_meet d 0 0 [.inr (.inr 111), .inl v1] h Q := by
  refine Con.intro rfl (Nat.le_of_ble_eq_true rfl) ?_
  show J mX11_meet d 0 0 Q 0 0 0 [some (.inr (.inr 111)), some (.inl v1)] [] h
  refine bX11_meet_0 (d' := 1) hr (by omega) ?_
  refine t_X11_isCandle hr (Nat.le_refl _) ?_ ?_ ?_
  · intro p1
    refine bX11_meet_10  (fun _ => ?_) (fun c => absurd c (by decide))
    refine bX11_meet_29  ?_
    exact bX11_meet_31  (K0 p1)
  · intro p2 p3
    refine bX11_meet_10  (fun _ => ?_) (fun c => absurd c (by decide))
    refine bX11_meet_29  ?_
    exact bX11_meet_31  (K1 p2 p3)
  · intro p4 p5
    refine bX11_meet_10  (fun c => absurd c (by decide)) (fun _ => ?_)
    exact bX11_meet_13 hr hd1' (K2 p4 p5)

set_option maxRecDepth 20000 in
theorem t_X11_meet_20 {d d1' : Nat} {Q : Option MV → MH → Prop} {h : MH} {v1 vs1 vs2 : Int32} (hr : zRf h) (hd1' : d1' + 1 ≤ d) (K0 : Con mX11_burntOf d1' 0 0 [.inr (.inr 111), .inl vs1, .inl (vs2 / (nI 2)), .inl (nI 0)] h (zri fun (x : Int32) h' => J mX11_meet d 0 0 Q 0 0 26 [some (.inr (.inr 111)), some (.inl v1)] [.inl x] h')) : J mX11_meet d 0 0 Q 0 0 20 [some (.inr (.inr 111)), some (.inl v1)] [.inl vs2, .inl vs1, .inr (.inr 111)] h := by
  exact bX11_meet_20 hr hd1' (K0)

set_option maxRecDepth 20000 in
theorem t_X11_meet_26 {d  : Nat} {Q : Option MV → MH → Prop} {h : MH} {v1 vs0 : Int32} (K0 : Q (some (.inl vs0)) h) : J mX11_meet d 0 0 Q 0 0 26 [some (.inr (.inr 111)), some (.inl v1)] [.inl vs0] h := by
  refine bX11_meet_26  ?_
  exact bX11_meet_31  (K0)

set_option maxRecDepth 20000 in
theorem t_X11_halves {d  : Nat} {Q : Option MV → MH → Prop} {h : MH} {v1 : Int32} (hr : zRf h) (hd : 2 ≤ d) (K0 : ¬ (lN 0) ≤ v1.toInt64 → Q (some (.inl (-(nI 2)))) (zsI h 111 0 (nI 0))) (K1 : (lN 0) ≤ v1.toInt64 → ¬ v1.toInt64 ≤ ((((zsI h 111 0 (nI 0)).1 112 0) - (nI 1)).toInt64) → Q (some (.inl (-(nI 2)))) (zsI h 111 0 (nI 0))) (K2 : (lN 0) ≤ v1.toInt64 → v1.toInt64 ≤ ((((zsI h 111 0 (nI 0)).1 112 0) - (nI 1)).toInt64) → J mX11_halves d 0 0 Q 0 0 20 [some (.inr (.inr 111)), some (.inl v1), some (.inl (nI 0)), some (.inl (nI 0))] [] (zsI h 111 0 (nI 0))) : Con mX11_halves d 0 0 [.inr (.inr 111), .inl v1] h Q := by
  refine Con.intro rfl (Nat.le_of_ble_eq_true rfl) ?_
  show J mX11_halves d 0 0 Q 0 0 0 [some (.inr (.inr 111)), some (.inl v1), none, none] [] h
  refine bX11_halves_0 (d' := 1) hr (by omega) ?_
  refine t_X11_isCandle hr (Nat.le_refl _) ?_ ?_ ?_
  · intro p1
    refine bX11_halves_10  (fun c => absurd c (by decide)) (fun _ => ?_)
    exact bX11_halves_13  (K0 p1)
  · intro p2 p3
    refine bX11_halves_10  (fun c => absurd c (by decide)) (fun _ => ?_)
    exact bX11_halves_13  (K1 p2 p3)
  · intro p4 p5
    refine bX11_halves_10  (fun _ => ?_) (fun c => absurd c (by decide))
    refine bX11_halves_16  ?_
    exact K2 p4 p5

set_option maxRecDepth 20000 in
theorem t_X11_halves_20 {d  : Nat} {Q : Option MV → MH → Prop} {h : MH} {v1 v2 v3 : Int32} (hr : zRf h) (hd : 1 ≤ d) (G0 : vp_in ((nI 1) + v1) 2166) (G1 : ¬ (h.1 112 ((nI 1) + v1).toNatClampNeg) ≤ v3 → (h.1 112 ((nI 1) + v1).toNatClampNeg) < (((nI 2) * v3) + (nI 2)) → (((nI 2) * v3) + (nI 1)) = (h.1 112 ((nI 1) + v1).toNatClampNeg) → vp_in (((nI 9) + ((nI 6) * v1)) + v3) 2166) (G2 : ¬ (h.1 112 ((nI 1) + v1).toNatClampNeg) ≤ v3 → ¬ (h.1 112 ((nI 1) + v1).toNatClampNeg) < (((nI 2) * v3) + (nI 2)) → vp_in (((nI 9) + ((nI 6) * v1)) + v3) 2166) (K0 : (h.1 112 ((nI 1) + v1).toNatClampNeg) ≤ v3 → Q (some (.inl ((nI 128) * v2))) h) (K1 : ¬ (h.1 112 ((nI 1) + v1).toNatClampNeg) ≤ v3 → (h.1 112 ((nI 1) + v1).toNatClampNeg) < (((nI 2) * v3) + (nI 2)) → ¬ (((nI 2) * v3) + (nI 1)) = (h.1 112 ((nI 1) + v1).toNatClampNeg) → J mX11_halves d 0 0 Q 0 0 20 [some (.inr (.inr 111)), some (.inl v1), some (.inl (v2 + (nI 0))), some (.inl (v3 + nI 1))] [] h) (K2 : ¬ (h.1 112 ((nI 1) + v1).toNatClampNeg) ≤ v3 → (h.1 112 ((nI 1) + v1).toNatClampNeg) < (((nI 2) * v3) + (nI 2)) → (((nI 2) * v3) + (nI 1)) = (h.1 112 ((nI 1) + v1).toNatClampNeg) → J mX11_halves d 0 0 Q 0 0 20 [some (.inr (.inr 111)), some (.inl v1), some (.inl (v2 + (h.1 112 (((nI 9) + ((nI 6) * v1)) + v3).toNatClampNeg))), some (.inl (v3 + nI 1))] [] h) (K3 : ¬ (h.1 112 ((nI 1) + v1).toNatClampNeg) ≤ v3 → ¬ (h.1 112 ((nI 1) + v1).toNatClampNeg) < (((nI 2) * v3) + (nI 2)) → J mX11_halves d 0 0 Q 0 0 20 [some (.inr (.inr 111)), some (.inl v1), some (.inl (v2 + ((nI 2) * (h.1 112 (((nI 9) + ((nI 6) * v1)) + v3).toNatClampNeg)))), some (.inl (v3 + nI 1))] [] h) : J mX11_halves d 0 0 Q 0 0 20 [some (.inr (.inr 111)), some (.inl v1), some (.inl v2), some (.inl v3)] [] h := by
  refine bX11_halves_20 hr (G0) (fun p1 => ?_) (fun p1 => ?_)
  · exact bX11_halves_94  (K0 p1)
  · refine bX11_halves_32 hr (G0) (fun p2 => ?_) (fun p2 => ?_)
    · refine bX11_halves_60 hr (G0) (fun p3 => ?_) (fun p3 => ?_)
      · refine bX11_halves_85  ?_
        refine bX11_halves_86  ?_
        exact K1 p1 p2 p3
      · refine bX11_halves_76 (d' := 0) hr (by omega) ?_
        refine t_X11_minuteOf hr (G1 p1 p2 p3) ?_
        · refine bX11_halves_82  ?_
          refine bX11_halves_86  ?_
          exact K2 p1 p2 p3
    · refine bX11_halves_49 (d' := 0) hr (by omega) ?_
      refine t_X11_minuteOf hr (G2 p1 p2) ?_
      · refine bX11_halves_56  ?_
        refine bX11_halves_86  ?_
        exact K3 p1 p2

set_option maxRecDepth 20000 in
theorem t_X11_piece {d d1' : Nat} {Q : Option MV → MH → Prop} {h : MH} {v1 v2 v3 : Int32} (hr : zRf h) (hd : 2 ≤ d) (hd1' : d1' + 1 ≤ d) (K0 : ¬ (lN 0) ≤ v1.toInt64 → Q (some (.inl (-(nI 2)))) (zsI h 111 0 (nI 0))) (K1 : (lN 0) ≤ v1.toInt64 → ¬ v1.toInt64 ≤ ((((zsI h 111 0 (nI 0)).1 112 0) - (nI 1)).toInt64) → Q (some (.inl (-(nI 2)))) (zsI h 111 0 (nI 0))) (K2 : (lN 0) ≤ v1.toInt64 → v1.toInt64 ≤ ((((zsI h 111 0 (nI 0)).1 112 0) - (nI 1)).toInt64) → Con mX11_restOf d1' 0 0 [.inr (.inr 111), .inl v1] (zsI h 111 0 (nI 0)) (zri fun (x : Int32) h' => J mX11_piece d 0 0 Q 0 0 24 [some (.inr (.inr 111)), some (.inl v1), some (.inl v2), some (.inl v3), none, none, none] [.inl x, .inr (.inl (lN 0)), .inr (.inl v2.toInt64)] h')) : Con mX11_piece d 0 0 [.inr (.inr 111), .inl v1, .inl v2, .inl v3] h Q := by
  refine Con.intro rfl (Nat.le_of_ble_eq_true rfl) ?_
  show J mX11_piece d 0 0 Q 0 0 0 [some (.inr (.inr 111)), some (.inl v1), some (.inl v2), some (.inl v3), none, none, none] [] h
  refine bX11_piece_0 (d' := 1) hr (by omega) ?_
  refine t_X11_isCandle hr (Nat.le_refl _) ?_ ?_ ?_
  · intro p1
    refine bX11_piece_10  (fun c => absurd c (by decide)) (fun _ => ?_)
    exact bX11_piece_13  (K0 p1)
  · intro p2 p3
    refine bX11_piece_10  (fun c => absurd c (by decide)) (fun _ => ?_)
    exact bX11_piece_13  (K1 p2 p3)
  · intro p4 p5
    refine bX11_piece_10  (fun _ => ?_) (fun c => absurd c (by decide))
    exact bX11_piece_16 hr hd1' (K2 p4 p5)

set_option maxRecDepth 20000 in
theorem t_X11_piece_24 {d  : Nat} {Q : Option MV → MH → Prop} {h : MH} {v1 v2 v3 vs2 : Int32} {vs0 vs1 : Int64} (hd : 1 ≤ d) (K0 : ¬ vs1 ≤ vs0 → Q (some (.inl (-(nI 3)))) h) (K1 : vs1 ≤ vs0 → ¬ vs0 ≤ vs2.toInt64 → Q (some (.inl (-(nI 3)))) h) (K2 : vs1 ≤ vs0 → vs0 ≤ vs2.toInt64 → J mX11_piece d 0 0 Q 0 0 40 [some (.inr (.inr 111)), some (.inl v1), some (.inl v2), some (.inl v3), some (.inl v2), some (.inl (nI 0)), none] [] h) : J mX11_piece d 0 0 Q 0 0 24 [some (.inr (.inr 111)), some (.inl v1), some (.inl v2), some (.inl v3), none, none, none] [.inl vs2, .inr (.inl vs1), .inr (.inl vs0)] h := by
  refine bX11_piece_24 (d' := 0)  (by omega) ?_
  refine t_X11_within  ?_ ?_ ?_
  · intro p1
    refine bX11_piece_28  (fun c => absurd c (by decide)) (fun _ => ?_)
    exact bX11_piece_31  (K0 p1)
  · intro p2 p3
    refine bX11_piece_28  (fun c => absurd c (by decide)) (fun _ => ?_)
    exact bX11_piece_31  (K1 p2 p3)
  · intro p4 p5
    refine bX11_piece_28  (fun _ => ?_) (fun c => absurd c (by decide))
    refine bX11_piece_34  ?_
    exact K2 p4 p5

set_option maxRecDepth 20000 in
theorem t_X11_piece_40 {d  : Nat} {Q : Option MV → MH → Prop} {h : MH} {u6 : Option MV} {v1 v2 v3 v4 v5 : Int32} (hr : zRf h) (hd : 1 ≤ d) (G0 : vp_in ((nI 1) + v1) 2166) (G1 : ¬ (h.1 112 ((nI 1) + v1).toNatClampNeg) ≤ v5 → v3 = 0 → vp_in (((nI 9) + ((nI 6) * v1)) + v5) 2166) (G2 : ¬ (h.1 112 ((nI 1) + v1).toNatClampNeg) ≤ v5 → ¬ v3 = 0 → vp_in (((nI 9) + ((nI 6) * v1)) + (((h.1 112 ((nI 1) + v1).toNatClampNeg) - (nI 1)) - v5)) 2166) (K0 : (h.1 112 ((nI 1) + v1).toNatClampNeg) ≤ v5 → Q (some (.inl (-(nI 1)))) h) (K1 : ¬ (h.1 112 ((nI 1) + v1).toNatClampNeg) ≤ v5 → v3 = 0 → 0 ≤ (v4 - ((nI 256) * (h.1 112 (((nI 9) + ((nI 6) * v1)) + v5).toNatClampNeg))) → J mX11_piece d 0 0 Q 0 0 40 [some (.inr (.inr 111)), some (.inl v1), some (.inl v2), some (.inl v3), some (.inl (v4 - ((nI 256) * (h.1 112 (((nI 9) + ((nI 6) * v1)) + v5).toNatClampNeg)))), some (.inl (v5 + nI 1)), some (.inl v5)] [] h) (K2 : ¬ (h.1 112 ((nI 1) + v1).toNatClampNeg) ≤ v5 → v3 = 0 → ¬ 0 ≤ (v4 - ((nI 256) * (h.1 112 (((nI 9) + ((nI 6) * v1)) + v5).toNatClampNeg))) → Q (some (.inl v5)) h) (K3 : ¬ (h.1 112 ((nI 1) + v1).toNatClampNeg) ≤ v5 → ¬ v3 = 0 → 0 ≤ (v4 - ((nI 256) * (h.1 112 (((nI 9) + ((nI 6) * v1)) + (((h.1 112 ((nI 1) + v1).toNatClampNeg) - (nI 1)) - v5)).toNatClampNeg))) → J mX11_piece d 0 0 Q 0 0 40 [some (.inr (.inr 111)), some (.inl v1), some (.inl v2), some (.inl v3), some (.inl (v4 - ((nI 256) * (h.1 112 (((nI 9) + ((nI 6) * v1)) + (((h.1 112 ((nI 1) + v1).toNatClampNeg) - (nI 1)) - v5)).toNatClampNeg)))), some (.inl (v5 + nI 1)), some (.inl (((h.1 112 ((nI 1) + v1).toNatClampNeg) - (nI 1)) - v5))] [] h) (K4 : ¬ (h.1 112 ((nI 1) + v1).toNatClampNeg) ≤ v5 → ¬ v3 = 0 → ¬ 0 ≤ (v4 - ((nI 256) * (h.1 112 (((nI 9) + ((nI 6) * v1)) + (((h.1 112 ((nI 1) + v1).toNatClampNeg) - (nI 1)) - v5)).toNatClampNeg))) → Q (some (.inl (((h.1 112 ((nI 1) + v1).toNatClampNeg) - (nI 1)) - v5))) h) : J mX11_piece d 0 0 Q 0 0 40 [some (.inr (.inr 111)), some (.inl v1), some (.inl v2), some (.inl v3), some (.inl v4), some (.inl v5), u6] [] h := by
  refine bX11_piece_40 hr (G0) (fun p1 => ?_) (fun p1 => ?_)
  · exact bX11_piece_107  (K0 p1)
  · refine bX11_piece_53  (fun p2 => ?_) (fun p2 => ?_)
    · refine bX11_piece_73  ?_
      refine bX11_piece_75 (d' := 0) hr (by omega) ?_
      refine t_X11_minuteOf hr (G1 p1 p2) ?_
      · refine bX11_piece_89  (fun p3 => ?_) (fun p3 => ?_)
        · refine bX11_piece_101  ?_
          exact K1 p1 p2 p3
        · exact bX11_piece_98  (K2 p1 p2 p3)
    · refine bX11_piece_57 hr (G0) ?_
      refine bX11_piece_75 (d' := 0) hr (by omega) ?_
      refine t_X11_minuteOf hr (G2 p1 p2) ?_
      · refine bX11_piece_89  (fun p4 => ?_) (fun p4 => ?_)
        · refine bX11_piece_101  ?_
          exact K3 p1 p2 p4
        · exact bX11_piece_98  (K4 p1 p2 p4)

set_option maxRecDepth 20000 in
theorem t_X11_asTold {d  : Nat} {Q : Option MV → MH → Prop} {h : MH} (K0 : J mX11_asTold d 0 0 Q 0 0 2 [some (.inr (.inr 111)), some (.inl (nI 0))] [] h) : Con mX11_asTold d 0 0 [.inr (.inr 111)] h Q := by
  refine Con.intro rfl (Nat.le_of_ble_eq_true rfl) ?_
  show J mX11_asTold d 0 0 Q 0 0 0 [some (.inr (.inr 111)), none] [] h
  refine bX11_asTold_0  ?_
  exact K0

set_option maxRecDepth 20000 in
theorem t_X11_asTold_2 {d d1' : Nat} {Q : Option MV → MH → Prop} {h : MH} {v1 : Int32} (hr : zRf h) (hd1' : d1' + 1 ≤ d) (G0 : ¬ (nI 8) ≤ v1 → (h.1 112 0) ≤ v1 → zokA h 116 20 v1) (K0 : (nI 8) ≤ v1 → Q none h) (K1 : ¬ (nI 8) ≤ v1 → (h.1 112 0) ≤ v1 → J mX11_asTold d 0 0 Q 0 0 2 [some (.inr (.inr 111)), some (.inl (v1 + nI 1))] [] (zsI h 116 v1.toNatClampNeg (nI 0))) (K2 : ¬ (nI 8) ≤ v1 → ¬ (h.1 112 0) ≤ v1 → Con mX11_restOf d1' 0 0 [.inr (.inr 111), .inl v1] h (zri fun (x : Int32) h' => J mX11_asTold d 0 0 Q 0 0 28 [some (.inr (.inr 111)), some (.inl v1)] [.inl x, .inl v1, .inr (.inr 116)] h')) : J mX11_asTold d 0 0 Q 0 0 2 [some (.inr (.inr 111)), some (.inl v1)] [] h := by
  refine bX11_asTold_2  (fun p1 => ?_) (fun p1 => ?_)
  · exact bX11_asTold_43  (K0 p1)
  · refine bX11_asTold_8 hr (vp_in_nI (by decide) (by decide)) (fun p2 => ?_) (fun p2 => ?_)
    · refine bX11_asTold_35  ?_
      refine bX11_asTold_36 (G0 p1 p2) ?_
      exact K1 p1 p2
    · exact bX11_asTold_23 hr hd1' (K2 p1 p2)

set_option maxRecDepth 20000 in
theorem t_X11_asTold_28 {d  : Nat} {Q : Option MV → MH → Prop} {h : MH} {v1 vs1 vs2 : Int32} {vs0 : Nat} (G0 : zokA h vs0 20 vs1) (K0 : J mX11_asTold d 0 0 Q 0 0 2 [some (.inr (.inr 111)), some (.inl (v1 + nI 1))] [] (zsI h vs0 vs1.toNatClampNeg (vs2 * (nI 256)))) : J mX11_asTold d 0 0 Q 0 0 28 [some (.inr (.inr 111)), some (.inl v1)] [.inl vs2, .inl vs1, .inr (.inr vs0)] h := by
  refine bX11_asTold_28  ?_
  refine bX11_asTold_36 (G0) ?_
  exact K0

set_option maxRecDepth 20000 in
theorem t_X11_doesAct {d  : Nat} {Q : Option MV → MH → Prop} {h : MH} {v1 v2 : Int32} (hr : zRf h) (hd : 2 ≤ d) (G0 : ¬ (v2 / (nI 100)) = (nI 10) → (lN 0) ≤ ((v2 / (nI 10)) - (v2 / (nI 10)) / (nI 10) * (nI 10)).toInt64 → ((v2 / (nI 10)) - (v2 / (nI 10)) / (nI 10) * (nI 10)).toInt64 ≤ (((h.1 112 0) - (nI 1)).toInt64) → vp_in ((v2 / (nI 10)) - (v2 / (nI 10)) / (nI 10) * (nI 10)) 8) (G1 : ¬ (v2 / (nI 100)) = (nI 10) → (lN 0) ≤ ((v2 / (nI 10)) - (v2 / (nI 10)) / (nI 10) * (nI 10)).toInt64 → ((v2 / (nI 10)) - (v2 / (nI 10)) / (nI 10) * (nI 10)).toInt64 ≤ (((h.1 112 0) - (nI 1)).toInt64) → (h.1 119 ((v2 / (nI 10)) - (v2 / (nI 10)) / (nI 10) * (nI 10)).toNatClampNeg) = 0 → (v2 / (nI 100)) = (nI 9) → (lN 0) ≤ (v2 - v2 / (nI 10) * (nI 10)).toInt64 → (v2 - v2 / (nI 10) * (nI 10)).toInt64 ≤ (((h.1 112 0) - (nI 1)).toInt64) → vp_in (v2 - v2 / (nI 10) * (nI 10)) 8) (G2 : (v2 / (nI 100)) = (nI 10) → vp_in (h.1 111 25) 40) (K0 : ¬ (v2 / (nI 100)) = (nI 10) → ¬ (lN 0) ≤ ((v2 / (nI 10)) - (v2 / (nI 10)) / (nI 10) * (nI 10)).toInt64 → J mX11_doesAct d 0 0 Q 0 0 73 [some (.inr (.inr 111)), some (.inl v1), some (.inl v2), some (.inl (v2 / (nI 100))), some (.inl ((v2 / (nI 10)) - (v2 / (nI 10)) / (nI 10) * (nI 10))), some (.inl (v2 - v2 / (nI 10) * (nI 10))), none, none] [] h) (K1 : ¬ (v2 / (nI 100)) = (nI 10) → (lN 0) ≤ ((v2 / (nI 10)) - (v2 / (nI 10)) / (nI 10) * (nI 10)).toInt64 → ¬ ((v2 / (nI 10)) - (v2 / (nI 10)) / (nI 10) * (nI 10)).toInt64 ≤ (((h.1 112 0) - (nI 1)).toInt64) → J mX11_doesAct d 0 0 Q 0 0 73 [some (.inr (.inr 111)), some (.inl v1), some (.inl v2), some (.inl (v2 / (nI 100))), some (.inl ((v2 / (nI 10)) - (v2 / (nI 10)) / (nI 10) * (nI 10))), some (.inl (v2 - v2 / (nI 10) * (nI 10))), none, none] [] h) (K2 : ¬ (v2 / (nI 100)) = (nI 10) → (lN 0) ≤ ((v2 / (nI 10)) - (v2 / (nI 10)) / (nI 10) * (nI 10)).toInt64 → ((v2 / (nI 10)) - (v2 / (nI 10)) / (nI 10) * (nI 10)).toInt64 ≤ (((h.1 112 0) - (nI 1)).toInt64) → ¬ (h.1 119 ((v2 / (nI 10)) - (v2 / (nI 10)) / (nI 10) * (nI 10)).toNatClampNeg) = 0 → J mX11_doesAct d 0 0 Q 0 0 73 [some (.inr (.inr 111)), some (.inl v1), some (.inl v2), some (.inl (v2 / (nI 100))), some (.inl ((v2 / (nI 10)) - (v2 / (nI 10)) / (nI 10) * (nI 10))), some (.inl (v2 - v2 / (nI 10) * (nI 10))), none, none] [] h) (K3 : ¬ (v2 / (nI 100)) = (nI 10) → (lN 0) ≤ ((v2 / (nI 10)) - (v2 / (nI 10)) / (nI 10) * (nI 10)).toInt64 → ((v2 / (nI 10)) - (v2 / (nI 10)) / (nI 10) * (nI 10)).toInt64 ≤ (((h.1 112 0) - (nI 1)).toInt64) → (h.1 119 ((v2 / (nI 10)) - (v2 / (nI 10)) / (nI 10) * (nI 10)).toNatClampNeg) = 0 → ¬ (v2 / (nI 100)) = (nI 9) → ¬ (v2 / (nI 100)) = (nI 8) → (nI 2) ≤ (h.1 118 ((v2 / (nI 10)) - (v2 / (nI 10)) / (nI 10) * (nI 10)).toNatClampNeg) → J mX11_doesAct d 0 0 Q 0 0 182 [some (.inr (.inr 111)), some (.inl v1), some (.inl v2), some (.inl (v2 / (nI 100))), some (.inl ((v2 / (nI 10)) - (v2 / (nI 10)) / (nI 10) * (nI 10))), some (.inl (v2 - v2 / (nI 10) * (nI 10))), some (.inl (nI 1)), none] [] h) (K4 : ¬ (v2 / (nI 100)) = (nI 10) → (lN 0) ≤ ((v2 / (nI 10)) - (v2 / (nI 10)) / (nI 10) * (nI 10)).toInt64 → ((v2 / (nI 10)) - (v2 / (nI 10)) / (nI 10) * (nI 10)).toInt64 ≤ (((h.1 112 0) - (nI 1)).toInt64) → (h.1 119 ((v2 / (nI 10)) - (v2 / (nI 10)) / (nI 10) * (nI 10)).toNatClampNeg) = 0 → ¬ (v2 / (nI 100)) = (nI 9) → ¬ (v2 / (nI 100)) = (nI 8) → ¬ (nI 2) ≤ (h.1 118 ((v2 / (nI 10)) - (v2 / (nI 10)) / (nI 10) * (nI 10)).toNatClampNeg) → J mX11_doesAct d 0 0 Q 0 0 178 [some (.inr (.inr 111)), some (.inl v1), some (.inl v2), some (.inl (v2 / (nI 100))), some (.inl ((v2 / (nI 10)) - (v2 / (nI 10)) / (nI 10) * (nI 10))), some (.inl (v2 - v2 / (nI 10) * (nI 10))), some (.inl (nI 1)), none] [] h) (K5 : ¬ (v2 / (nI 100)) = (nI 10) → (lN 0) ≤ ((v2 / (nI 10)) - (v2 / (nI 10)) / (nI 10) * (nI 10)).toInt64 → ((v2 / (nI 10)) - (v2 / (nI 10)) / (nI 10) * (nI 10)).toInt64 ≤ (((h.1 112 0) - (nI 1)).toInt64) → (h.1 119 ((v2 / (nI 10)) - (v2 / (nI 10)) / (nI 10) * (nI 10)).toNatClampNeg) = 0 → ¬ (v2 / (nI 100)) = (nI 9) → (v2 / (nI 100)) = (nI 8) → (h.1 118 ((v2 / (nI 10)) - (v2 / (nI 10)) / (nI 10) * (nI 10)).toNatClampNeg) ≤ 0 → J mX11_doesAct d 0 0 Q 0 0 182 [some (.inr (.inr 111)), some (.inl v1), some (.inl v2), some (.inl (v2 / (nI 100))), some (.inl ((v2 / (nI 10)) - (v2 / (nI 10)) / (nI 10) * (nI 10))), some (.inl (v2 - v2 / (nI 10) * (nI 10))), some (.inl (nI 1)), none] [] h) (K6 : ¬ (v2 / (nI 100)) = (nI 10) → (lN 0) ≤ ((v2 / (nI 10)) - (v2 / (nI 10)) / (nI 10) * (nI 10)).toInt64 → ((v2 / (nI 10)) - (v2 / (nI 10)) / (nI 10) * (nI 10)).toInt64 ≤ (((h.1 112 0) - (nI 1)).toInt64) → (h.1 119 ((v2 / (nI 10)) - (v2 / (nI 10)) / (nI 10) * (nI 10)).toNatClampNeg) = 0 → ¬ (v2 / (nI 100)) = (nI 9) → (v2 / (nI 100)) = (nI 8) → ¬ (h.1 118 ((v2 / (nI 10)) - (v2 / (nI 10)) / (nI 10) * (nI 10)).toNatClampNeg) ≤ 0 → J mX11_doesAct d 0 0 Q 0 0 178 [some (.inr (.inr 111)), some (.inl v1), some (.inl v2), some (.inl (v2 / (nI 100))), some (.inl ((v2 / (nI 10)) - (v2 / (nI 10)) / (nI 10) * (nI 10))), some (.inl (v2 - v2 / (nI 10) * (nI 10))), some (.inl (nI 1)), none] [] h) (K7 : ¬ (v2 / (nI 100)) = (nI 10) → (lN 0) ≤ ((v2 / (nI 10)) - (v2 / (nI 10)) / (nI 10) * (nI 10)).toInt64 → ((v2 / (nI 10)) - (v2 / (nI 10)) / (nI 10) * (nI 10)).toInt64 ≤ (((h.1 112 0) - (nI 1)).toInt64) → (h.1 119 ((v2 / (nI 10)) - (v2 / (nI 10)) / (nI 10) * (nI 10)).toNatClampNeg) = 0 → (v2 / (nI 100)) = (nI 9) → ¬ (lN 0) ≤ (v2 - v2 / (nI 10) * (nI 10)).toInt64 → J mX11_doesAct d 0 0 Q 0 0 137 [some (.inr (.inr 111)), some (.inl v1), some (.inl v2), some (.inl (v2 / (nI 100))), some (.inl ((v2 / (nI 10)) - (v2 / (nI 10)) / (nI 10) * (nI 10))), some (.inl (v2 - v2 / (nI 10) * (nI 10))), some (.inl (nI 1)), none] [] h) (K8 : ¬ (v2 / (nI 100)) = (nI 10) → (lN 0) ≤ ((v2 / (nI 10)) - (v2 / (nI 10)) / (nI 10) * (nI 10)).toInt64 → ((v2 / (nI 10)) - (v2 / (nI 10)) / (nI 10) * (nI 10)).toInt64 ≤ (((h.1 112 0) - (nI 1)).toInt64) → (h.1 119 ((v2 / (nI 10)) - (v2 / (nI 10)) / (nI 10) * (nI 10)).toNatClampNeg) = 0 → (v2 / (nI 100)) = (nI 9) → (lN 0) ≤ (v2 - v2 / (nI 10) * (nI 10)).toInt64 → ¬ (v2 - v2 / (nI 10) * (nI 10)).toInt64 ≤ (((h.1 112 0) - (nI 1)).toInt64) → J mX11_doesAct d 0 0 Q 0 0 137 [some (.inr (.inr 111)), some (.inl v1), some (.inl v2), some (.inl (v2 / (nI 100))), some (.inl ((v2 / (nI 10)) - (v2 / (nI 10)) / (nI 10) * (nI 10))), some (.inl (v2 - v2 / (nI 10) * (nI 10))), some (.inl (nI 1)), none] [] h) (K9 : ¬ (v2 / (nI 100)) = (nI 10) → (lN 0) ≤ ((v2 / (nI 10)) - (v2 / (nI 10)) / (nI 10) * (nI 10)).toInt64 → ((v2 / (nI 10)) - (v2 / (nI 10)) / (nI 10) * (nI 10)).toInt64 ≤ (((h.1 112 0) - (nI 1)).toInt64) → (h.1 119 ((v2 / (nI 10)) - (v2 / (nI 10)) / (nI 10) * (nI 10)).toNatClampNeg) = 0 → (v2 / (nI 100)) = (nI 9) → (lN 0) ≤ (v2 - v2 / (nI 10) * (nI 10)).toInt64 → (v2 - v2 / (nI 10) * (nI 10)).toInt64 ≤ (((h.1 112 0) - (nI 1)).toInt64) → ¬ (h.1 119 (v2 - v2 / (nI 10) * (nI 10)).toNatClampNeg) = 0 → J mX11_doesAct d 0 0 Q 0 0 137 [some (.inr (.inr 111)), some (.inl v1), some (.inl v2), some (.inl (v2 / (nI 100))), some (.inl ((v2 / (nI 10)) - (v2 / (nI 10)) / (nI 10) * (nI 10))), some (.inl (v2 - v2 / (nI 10) * (nI 10))), some (.inl (nI 1)), none] [] h) (K10 : ¬ (v2 / (nI 100)) = (nI 10) → (lN 0) ≤ ((v2 / (nI 10)) - (v2 / (nI 10)) / (nI 10) * (nI 10)).toInt64 → ((v2 / (nI 10)) - (v2 / (nI 10)) / (nI 10) * (nI 10)).toInt64 ≤ (((h.1 112 0) - (nI 1)).toInt64) → (h.1 119 ((v2 / (nI 10)) - (v2 / (nI 10)) / (nI 10) * (nI 10)).toNatClampNeg) = 0 → (v2 / (nI 100)) = (nI 9) → (lN 0) ≤ (v2 - v2 / (nI 10) * (nI 10)).toInt64 → (v2 - v2 / (nI 10) * (nI 10)).toInt64 ≤ (((h.1 112 0) - (nI 1)).toInt64) → (h.1 119 (v2 - v2 / (nI 10) * (nI 10)).toNatClampNeg) = 0 → ((v2 / (nI 10)) - (v2 / (nI 10)) / (nI 10) * (nI 10)) = (v2 - v2 / (nI 10) * (nI 10)) → J mX11_doesAct d 0 0 Q 0 0 137 [some (.inr (.inr 111)), some (.inl v1), some (.inl v2), some (.inl (v2 / (nI 100))), some (.inl ((v2 / (nI 10)) - (v2 / (nI 10)) / (nI 10) * (nI 10))), some (.inl (v2 - v2 / (nI 10) * (nI 10))), some (.inl (nI 1)), none] [] h) (K11 : ¬ (v2 / (nI 100)) = (nI 10) → (lN 0) ≤ ((v2 / (nI 10)) - (v2 / (nI 10)) / (nI 10) * (nI 10)).toInt64 → ((v2 / (nI 10)) - (v2 / (nI 10)) / (nI 10) * (nI 10)).toInt64 ≤ (((h.1 112 0) - (nI 1)).toInt64) → (h.1 119 ((v2 / (nI 10)) - (v2 / (nI 10)) / (nI 10) * (nI 10)).toNatClampNeg) = 0 → (v2 / (nI 100)) = (nI 9) → (lN 0) ≤ (v2 - v2 / (nI 10) * (nI 10)).toInt64 → (v2 - v2 / (nI 10) * (nI 10)).toInt64 ≤ (((h.1 112 0) - (nI 1)).toInt64) → (h.1 119 (v2 - v2 / (nI 10) * (nI 10)).toNatClampNeg) = 0 → ¬ ((v2 / (nI 10)) - (v2 / (nI 10)) / (nI 10) * (nI 10)) = (v2 - v2 / (nI 10) * (nI 10)) → ¬ (h.1 118 ((v2 / (nI 10)) - (v2 / (nI 10)) / (nI 10) * (nI 10)).toNatClampNeg) = 0 → J mX11_doesAct d 0 0 Q 0 0 137 [some (.inr (.inr 111)), some (.inl v1), some (.inl v2), some (.inl (v2 / (nI 100))), some (.inl ((v2 / (nI 10)) - (v2 / (nI 10)) / (nI 10) * (nI 10))), some (.inl (v2 - v2 / (nI 10) * (nI 10))), some (.inl (nI 1)), none] [] h) (K12 : ¬ (v2 / (nI 100)) = (nI 10) → (lN 0) ≤ ((v2 / (nI 10)) - (v2 / (nI 10)) / (nI 10) * (nI 10)).toInt64 → ((v2 / (nI 10)) - (v2 / (nI 10)) / (nI 10) * (nI 10)).toInt64 ≤ (((h.1 112 0) - (nI 1)).toInt64) → (h.1 119 ((v2 / (nI 10)) - (v2 / (nI 10)) / (nI 10) * (nI 10)).toNatClampNeg) = 0 → (v2 / (nI 100)) = (nI 9) → (lN 0) ≤ (v2 - v2 / (nI 10) * (nI 10)).toInt64 → (v2 - v2 / (nI 10) * (nI 10)).toInt64 ≤ (((h.1 112 0) - (nI 1)).toInt64) → (h.1 119 (v2 - v2 / (nI 10) * (nI 10)).toNatClampNeg) = 0 → ¬ ((v2 / (nI 10)) - (v2 / (nI 10)) / (nI 10) * (nI 10)) = (v2 - v2 / (nI 10) * (nI 10)) → (h.1 118 ((v2 / (nI 10)) - (v2 / (nI 10)) / (nI 10) * (nI 10)).toNatClampNeg) = 0 → ¬ (h.1 118 (v2 - v2 / (nI 10) * (nI 10)).toNatClampNeg) = 0 → J mX11_doesAct d 0 0 Q 0 0 137 [some (.inr (.inr 111)), some (.inl v1), some (.inl v2), some (.inl (v2 / (nI 100))), some (.inl ((v2 / (nI 10)) - (v2 / (nI 10)) / (nI 10) * (nI 10))), some (.inl (v2 - v2 / (nI 10) * (nI 10))), some (.inl (nI 1)), none] [] h) (K13 : ¬ (v2 / (nI 100)) = (nI 10) → (lN 0) ≤ ((v2 / (nI 10)) - (v2 / (nI 10)) / (nI 10) * (nI 10)).toInt64 → ((v2 / (nI 10)) - (v2 / (nI 10)) / (nI 10) * (nI 10)).toInt64 ≤ (((h.1 112 0) - (nI 1)).toInt64) → (h.1 119 ((v2 / (nI 10)) - (v2 / (nI 10)) / (nI 10) * (nI 10)).toNatClampNeg) = 0 → (v2 / (nI 100)) = (nI 9) → (lN 0) ≤ (v2 - v2 / (nI 10) * (nI 10)).toInt64 → (v2 - v2 / (nI 10) * (nI 10)).toInt64 ≤ (((h.1 112 0) - (nI 1)).toInt64) → (h.1 119 (v2 - v2 / (nI 10) * (nI 10)).toNatClampNeg) = 0 → ¬ ((v2 / (nI 10)) - (v2 / (nI 10)) / (nI 10) * (nI 10)) = (v2 - v2 / (nI 10) * (nI 10)) → (h.1 118 ((v2 / (nI 10)) - (v2 / (nI 10)) / (nI 10) * (nI 10)).toNatClampNeg) = 0 → (h.1 118 (v2 - v2 / (nI 10) * (nI 10)).toNatClampNeg) = 0 → J mX11_doesAct d 0 0 Q 0 0 185 [some (.inr (.inr 111)), some (.inl v1), some (.inl v2), some (.inl (v2 / (nI 100))), some (.inl ((v2 / (nI 10)) - (v2 / (nI 10)) / (nI 10) * (nI 10))), some (.inl (v2 - v2 / (nI 10) * (nI 10))), some (.inl (nI 1)), none] [] h) (K14 : (v2 / (nI 100)) = (nI 10) → Q none (zsI (zsI h 124 (h.1 111 25).toNatClampNeg (h.1 111 24)) 111 25 (((zsI h 124 (h.1 111 25).toNatClampNeg (h.1 111 24)).1 111 25) + (nI 1)))) : Con mX11_doesAct d 0 0 [.inr (.inr 111), .inl v1, .inl v2] h Q := by
  refine Con.intro rfl (Nat.le_of_ble_eq_true rfl) ?_
  show J mX11_doesAct d 0 0 Q 0 0 0 [some (.inr (.inr 111)), some (.inl v1), some (.inl v2), none, none, none, none, none] [] h
  refine bX11_doesAct_0  (fun p1 => ?_) (fun p1 => ?_)
  · refine bX11_doesAct_50 (d' := 1) hr (by omega) ?_
    refine t_X11_isCandle hr (Nat.le_refl _) ?_ ?_ ?_
    · intro p2
      refine bX11_doesAct_56  (fun _ => ?_) (fun c => absurd c (by decide))
      exact K0 p1 p2
    · intro p3 p4
      refine bX11_doesAct_56  (fun _ => ?_) (fun c => absurd c (by decide))
      exact K1 p1 p3 p4
    · intro p5 p6
      refine bX11_doesAct_56  (fun c => absurd c (by decide)) (fun _ => ?_)
      refine bX11_doesAct_59 hr (G0 p1 p5 p6) (fun p7 => ?_) (fun p7 => ?_)
      · exact K2 p1 p5 p6 p7
      · refine bX11_doesAct_69  ?_
        refine bX11_doesAct_74  (fun p8 => ?_) (fun p8 => ?_)
        · refine bX11_doesAct_143  (fun c => absurd c (by decide)) (fun _ => ?_)
          refine bX11_doesAct_148  (fun p9 => ?_) (fun p9 => ?_)
          · refine bX11_doesAct_167 hr (G0 p1 p5 p6) (fun p10 => ?_) (fun p10 => ?_)
            · exact K3 p1 p5 p6 p7 p8 p9 p10
            · exact K4 p1 p5 p6 p7 p8 p9 p10
          · refine bX11_doesAct_154 hr (G0 p1 p5 p6) (fun p11 => ?_) (fun p11 => ?_)
            · exact K5 p1 p5 p6 p7 p8 p9 p11
            · refine bX11_doesAct_164  ?_
              exact K6 p1 p5 p6 p7 p8 p9 p11
        · refine bX11_doesAct_82  (fun c => absurd c (by decide)) (fun _ => ?_)
          refine bX11_doesAct_87 (d' := 1) hr (by omega) ?_
          refine t_X11_isCandle hr (Nat.le_refl _) ?_ ?_ ?_
          · intro p12
            refine bX11_doesAct_93  (fun _ => ?_) (fun c => absurd c (by decide))
            exact K7 p1 p5 p6 p7 p8 p12
          · intro p13 p14
            refine bX11_doesAct_93  (fun _ => ?_) (fun c => absurd c (by decide))
            exact K8 p1 p5 p6 p7 p8 p13 p14
          · intro p15 p16
            refine bX11_doesAct_93  (fun c => absurd c (by decide)) (fun _ => ?_)
            refine bX11_doesAct_96 hr (G1 p1 p5 p6 p7 p8 p15 p16) (fun p17 => ?_) (fun p17 => ?_)
            · exact K9 p1 p5 p6 p7 p8 p15 p16 p17
            · refine bX11_doesAct_106  (fun p18 => ?_) (fun p18 => ?_)
              · exact K10 p1 p5 p6 p7 p8 p15 p16 p17 p18
              · refine bX11_doesAct_113 hr (G0 p1 p5 p6) (fun p19 => ?_) (fun p19 => ?_)
                · exact K11 p1 p5 p6 p7 p8 p15 p16 p17 p18 p19
                · refine bX11_doesAct_123 hr (G1 p1 p5 p6 p7 p8 p15 p16) (fun p20 => ?_) (fun p20 => ?_)
                  · exact K12 p1 p5 p6 p7 p8 p15 p16 p17 p18 p19 p20
                  · refine bX11_doesAct_133  ?_
                    refine bX11_doesAct_138  ?_
                    exact K13 p1 p5 p6 p7 p8 p15 p16 p17 p18 p19 p20
  · exact bX11_doesAct_26 hr (G2 p1) (K14 p1)

set_option maxRecDepth 20000 in
theorem t_X11_doesAct_73 {d  : Nat} {Q : Option MV → MH → Prop} {h : MH} {v1 v2 v3 v4 v5 : Int32} (K0 : ¬ v3 = (nI 9) → J mX11_doesAct d 0 0 Q 0 0 182 [some (.inr (.inr 111)), some (.inl v1), some (.inl v2), some (.inl v3), some (.inl v4), some (.inl v5), some (.inl (nI 0)), none] [] h) (K1 : v3 = (nI 9) → J mX11_doesAct d 0 0 Q 0 0 137 [some (.inr (.inr 111)), some (.inl v1), some (.inl v2), some (.inl v3), some (.inl v4), some (.inl v5), some (.inl (nI 0)), none] [] h) : J mX11_doesAct d 0 0 Q 0 0 73 [some (.inr (.inr 111)), some (.inl v1), some (.inl v2), some (.inl v3), some (.inl v4), some (.inl v5), none, none] [] h := by
  refine bX11_doesAct_73  ?_
  refine bX11_doesAct_74  (fun p1 => ?_) (fun p1 => ?_)
  · refine bX11_doesAct_143  (fun _ => ?_) (fun c => absurd c (by decide))
    exact K0 p1
  · refine bX11_doesAct_82  (fun _ => ?_) (fun c => absurd c (by decide))
    exact K1 p1

set_option maxRecDepth 20000 in
theorem t_X11_doesAct_137 {d  : Nat} {Q : Option MV → MH → Prop} {h : MH} {v1 v2 v3 v4 v5 v6 : Int32} (K0 : J mX11_doesAct d 0 0 Q 0 0 185 [some (.inr (.inr 111)), some (.inl v1), some (.inl v2), some (.inl v3), some (.inl v4), some (.inl v5), some (.inl (nI 0)), none] [] h) : J mX11_doesAct d 0 0 Q 0 0 137 [some (.inr (.inr 111)), some (.inl v1), some (.inl v2), some (.inl v3), some (.inl v4), some (.inl v5), some (.inl v6), none] [] h := by
  refine bX11_doesAct_137  ?_
  refine bX11_doesAct_138  ?_
  exact K0

set_option maxRecDepth 20000 in
theorem t_X11_doesAct_178 {d  : Nat} {Q : Option MV → MH → Prop} {h : MH} {v1 v2 v3 v4 v5 v6 : Int32} (K0 : J mX11_doesAct d 0 0 Q 0 0 185 [some (.inr (.inr 111)), some (.inl v1), some (.inl v2), some (.inl v3), some (.inl v4), some (.inl v5), some (.inl (nI 1)), none] [] h) : J mX11_doesAct d 0 0 Q 0 0 178 [some (.inr (.inr 111)), some (.inl v1), some (.inl v2), some (.inl v3), some (.inl v4), some (.inl v5), some (.inl v6), none] [] h := by
  refine bX11_doesAct_178  ?_
  refine bX11_doesAct_183  ?_
  exact K0

set_option maxRecDepth 20000 in
theorem t_X11_doesAct_182 {d  : Nat} {Q : Option MV → MH → Prop} {h : MH} {v1 v2 v3 v4 v5 v6 : Int32} (K0 : J mX11_doesAct d 0 0 Q 0 0 185 [some (.inr (.inr 111)), some (.inl v1), some (.inl v2), some (.inl v3), some (.inl v4), some (.inl v5), some (.inl (nI 0)), none] [] h) : J mX11_doesAct d 0 0 Q 0 0 182 [some (.inr (.inr 111)), some (.inl v1), some (.inl v2), some (.inl v3), some (.inl v4), some (.inl v5), some (.inl v6), none] [] h := by
  refine bX11_doesAct_182  ?_
  refine bX11_doesAct_183  ?_
  exact K0

set_option maxRecDepth 20000 in
theorem t_X11_doesAct_185 {d  : Nat} {Q : Option MV → MH → Prop} {h : MH} {v1 v2 v3 v4 v5 v6 : Int32} (hr : zRf h) (G0 : ¬ v6 = 0 → ¬ v3 = (nI 9) → ¬ v3 = (nI 8) → ¬ v3 = (nI 7) → vp_in v4 8) (G1 : ¬ v6 = 0 → ¬ v3 = (nI 9) → ¬ v3 = (nI 8) → v3 = (nI 7) → vp_in v4 8) (G2 : ¬ v6 = 0 → ¬ v3 = (nI 9) → v3 = (nI 8) → vp_in v4 8) (G3 : ¬ v6 = 0 → v3 = (nI 9) → vp_in v4 8) (G4 : ¬ v6 = 0 → v3 = (nI 9) → vp_in v5 8) (G5 : v6 = 0 → vp_in v1 40) (K0 : ¬ v6 = 0 → ¬ v3 = (nI 9) → ¬ v3 = (nI 8) → ¬ v3 = (nI 7) → ((h.1 118 v4.toNatClampNeg) + (nI 1)) ≤ (h.1 118 v4.toNatClampNeg) → Q none (zsI (zsI h 111 27 ((h.1 111 27) + (nI 0))) 118 v4.toNatClampNeg ((h.1 118 v4.toNatClampNeg) + (nI 1)))) (K1 : ¬ v6 = 0 → ¬ v3 = (nI 9) → ¬ v3 = (nI 8) → ¬ v3 = (nI 7) → ¬ ((h.1 118 v4.toNatClampNeg) + (nI 1)) ≤ (h.1 118 v4.toNatClampNeg) → Q none (zsI (zsI h 111 27 ((h.1 111 27) + (((h.1 118 v4.toNatClampNeg) + (nI 1)) - (h.1 118 v4.toNatClampNeg)))) 118 v4.toNatClampNeg ((h.1 118 v4.toNatClampNeg) + (nI 1)))) (K2 : ¬ v6 = 0 → ¬ v3 = (nI 9) → ¬ v3 = (nI 8) → v3 = (nI 7) → (nI 2) ≤ (h.1 118 v4.toNatClampNeg) → Q none (zsI (zsI h 111 27 ((h.1 111 27) + (nI 0))) 118 v4.toNatClampNeg (nI 2))) (K3 : ¬ v6 = 0 → ¬ v3 = (nI 9) → ¬ v3 = (nI 8) → v3 = (nI 7) → ¬ (nI 2) ≤ (h.1 118 v4.toNatClampNeg) → Q none (zsI (zsI h 111 27 ((h.1 111 27) + ((nI 2) - (h.1 118 v4.toNatClampNeg)))) 118 v4.toNatClampNeg (nI 2))) (K4 : ¬ v6 = 0 → ¬ v3 = (nI 9) → v3 = (nI 8) → (nI 0) ≤ (h.1 118 v4.toNatClampNeg) → Q none (zsI (zsI h 111 27 ((h.1 111 27) + (nI 0))) 118 v4.toNatClampNeg (nI 0))) (K5 : ¬ v6 = 0 → ¬ v3 = (nI 9) → v3 = (nI 8) → ¬ (nI 0) ≤ (h.1 118 v4.toNatClampNeg) → Q none (zsI (zsI h 111 27 ((h.1 111 27) + ((nI 0) - (h.1 118 v4.toNatClampNeg)))) 118 v4.toNatClampNeg (nI 0))) (K6 : ¬ v6 = 0 → v3 = (nI 9) → J mX11_doesAct d 0 0 Q 0 0 250 [some (.inr (.inr 111)), some (.inl v1), some (.inl v2), some (.inl v3), some (.inl v4), some (.inl v5), some (.inl v6), some (.inl (nI 0))] [] (zsI (zsI (zsI h 117 v4.toNatClampNeg ((h.1 117 v4.toNatClampNeg) + (h.1 117 v5.toNatClampNeg))) 117 v5.toNatClampNeg (nI 0)) 119 v5.toNatClampNeg (nI 2))) (K7 : v6 = 0 → Q none (zsI (zsI h 111 26 ((h.1 111 26) + (nI 1))) 125 v1.toNatClampNeg (nI 1))) : J mX11_doesAct d 0 0 Q 0 0 185 [some (.inr (.inr 111)), some (.inl v1), some (.inl v2), some (.inl v3), some (.inl v4), some (.inl v5), some (.inl v6), none] [] h := by
  refine bX11_doesAct_185  (fun p1 => ?_) (fun p1 => ?_)
  · refine bX11_doesAct_208  (fun p2 => ?_) (fun p2 => ?_)
    · refine bX11_doesAct_311  (fun p3 => ?_) (fun p3 => ?_)
      · refine bX11_doesAct_321  (fun p4 => ?_) (fun p4 => ?_)
        · refine bX11_doesAct_331 hr (G0 p1 p2 p3 p4) ?_
          refine bX11_doesAct_340 hr (G0 p1 p2 p3 p4) (fun p5 => ?_) (fun p5 => ?_)
          · refine bX11_doesAct_372  ?_
            exact bX11_doesAct_373 hr (G0 p1 p2 p3 p4) (K0 p1 p2 p3 p4 p5)
          · refine bX11_doesAct_359 hr (G0 p1 p2 p3 p4) ?_
            exact bX11_doesAct_373 hr (G0 p1 p2 p3 p4) (K1 p1 p2 p3 p4 p5)
        · refine bX11_doesAct_327  ?_
          refine bX11_doesAct_340 hr (G1 p1 p2 p3 p4) (fun p6 => ?_) (fun p6 => ?_)
          · refine bX11_doesAct_372  ?_
            exact bX11_doesAct_373 hr (G1 p1 p2 p3 p4) (K2 p1 p2 p3 p4 p6)
          · refine bX11_doesAct_359 hr (G1 p1 p2 p3 p4) ?_
            exact bX11_doesAct_373 hr (G1 p1 p2 p3 p4) (K3 p1 p2 p3 p4 p6)
      · refine bX11_doesAct_317  ?_
        refine bX11_doesAct_340 hr (G2 p1 p2 p3) (fun p7 => ?_) (fun p7 => ?_)
        · refine bX11_doesAct_372  ?_
          exact bX11_doesAct_373 hr (G2 p1 p2 p3) (K4 p1 p2 p3 p7)
        · refine bX11_doesAct_359 hr (G2 p1 p2 p3) ?_
          exact bX11_doesAct_373 hr (G2 p1 p2 p3) (K5 p1 p2 p3 p7)
    · refine bX11_doesAct_214 hr (G3 p1 p2) (G4 p1 p2) ?_
      exact K6 p1 p2
  · exact bX11_doesAct_190 hr (G5 p1) (K7 p1)

set_option maxRecDepth 20000 in
theorem t_X11_doesAct_250 {d  : Nat} {Q : Option MV → MH → Prop} {h : MH} {v1 v2 v3 v4 v5 v6 v7 : Int32} (hr : zRf h) (G0 : vp_in v5 8) (G1 : ¬ (h.1 123 v5.toNatClampNeg) ≤ v7 → vp_in v4 8) (G2 : ¬ (h.1 123 v5.toNatClampNeg) ≤ v7 → vp_in (((nI 8) * v5) + v7) 64) (G3 : ¬ (h.1 123 v5.toNatClampNeg) ≤ v7 → vp_in (((nI 8) * v4) + (h.1 123 v4.toNatClampNeg)) 64) (K0 : (h.1 123 v5.toNatClampNeg) ≤ v7 → Q none h) (K1 : ¬ (h.1 123 v5.toNatClampNeg) ≤ v7 → J mX11_doesAct d 0 0 Q 0 0 250 [some (.inr (.inr 111)), some (.inl v1), some (.inl v2), some (.inl v3), some (.inl v4), some (.inl v5), some (.inl v6), some (.inl (v7 + nI 1))] [] (zsI (zsI h 122 (((nI 8) * v4) + (h.1 123 v4.toNatClampNeg)).toNatClampNeg (h.1 122 (((nI 8) * v5) + v7).toNatClampNeg)) 123 v4.toNatClampNeg (((zsI h 122 (((nI 8) * v4) + (h.1 123 v4.toNatClampNeg)).toNatClampNeg (h.1 122 (((nI 8) * v5) + v7).toNatClampNeg)).1 123 v4.toNatClampNeg) + (nI 1)))) : J mX11_doesAct d 0 0 Q 0 0 250 [some (.inr (.inr 111)), some (.inl v1), some (.inl v2), some (.inl v3), some (.inl v4), some (.inl v5), some (.inl v6), some (.inl v7)] [] h := by
  refine bX11_doesAct_250 hr (G0) (fun p1 => ?_) (fun p1 => ?_)
  · exact bX11_doesAct_310  (K0 p1)
  · refine bX11_doesAct_262 hr (G1 p1) (G2 p1) (G3 p1) ?_
    exact K1 p1

set_option maxRecDepth 20000 in
theorem t_X11_doesRules {d  : Nat} {Q : Option MV → MH → Prop} {h : MH} {v1 v2 : Int32} (hd : 1 ≤ d) (K0 : J mX11_doesRules d 0 0 Q 0 0 8 [some (.inr (.inr 111)), some (.inl v1), some (.inl v2), some (.inl ((nI 162) * v1)), some (.inl (nI 0)), none, none] [] h) : Con mX11_doesRules d 0 0 [.inr (.inr 111), .inl v1, .inl v2] h Q := by
  refine Con.intro rfl (Nat.le_of_ble_eq_true rfl) ?_
  show J mX11_doesRules d 0 0 Q 0 0 0 [some (.inr (.inr 111)), some (.inl v1), some (.inl v2), none, none, none, none] [] h
  refine bX11_doesRules_0 (d' := 0)  (by omega) ?_
  refine t_X11_planAt  ?_
  · refine bX11_doesRules_4  ?_
    exact K0

set_option maxRecDepth 20000 in
theorem t_X11_doesRules_8 {d  : Nat} {Q : Option MV → MH → Prop} {h : MH} {u5 u6 : Option MV} {v1 v2 v3 v4 : Int32} (hr : zRf h) (G0 : vp_in ((nI 74) + v3) 2166) (G1 : ¬ (h.1 112 ((nI 74) + v3).toNatClampNeg) ≤ v4 → vp_in (((nI 76) + v3) + v4) 2166) (G2 : ¬ (h.1 112 ((nI 74) + v3).toNatClampNeg) ≤ v4 → (h.1 112 (((nI 76) + v3) + v4).toNatClampNeg) = v2 → (h.1 112 ((nI 74) + v3).toNatClampNeg) ≤ (v4 + (nI 1)) → vp_in ((nI 75) + v3) 2166) (G3 : ¬ (h.1 112 ((nI 74) + v3).toNatClampNeg) ≤ v4 → (h.1 112 (((nI 76) + v3) + v4).toNatClampNeg) = v2 → (h.1 112 ((nI 74) + v3).toNatClampNeg) ≤ (v4 + (nI 1)) → vp_in (((nI 96) + v3) + v4) 2166) (G4 : ¬ (h.1 112 ((nI 74) + v3).toNatClampNeg) ≤ v4 → (h.1 112 (((nI 76) + v3) + v4).toNatClampNeg) = v2 → ¬ (h.1 112 ((nI 74) + v3).toNatClampNeg) ≤ (v4 + (nI 1)) → vp_in ((((nI 96) + v3) + v4) + (nI 1)) 2166) (G5 : ¬ (h.1 112 ((nI 74) + v3).toNatClampNeg) ≤ v4 → (h.1 112 (((nI 76) + v3) + v4).toNatClampNeg) = v2 → ¬ (h.1 112 ((nI 74) + v3).toNatClampNeg) ≤ (v4 + (nI 1)) → vp_in (((nI 96) + v3) + v4) 2166) (K0 : (h.1 112 ((nI 74) + v3).toNatClampNeg) ≤ v4 → Q none h) (K1 : ¬ (h.1 112 ((nI 74) + v3).toNatClampNeg) ≤ v4 → (h.1 112 (((nI 76) + v3) + v4).toNatClampNeg) = v2 → (h.1 112 ((nI 74) + v3).toNatClampNeg) ≤ (v4 + (nI 1)) → J mX11_doesRules d 0 0 Q 0 0 112 [some (.inr (.inr 111)), some (.inl v1), some (.inl v2), some (.inl v3), some (.inl v4), some (.inl (h.1 112 ((nI 75) + v3).toNatClampNeg)), some (.inl ((zsI h 111 29 ((h.1 111 29) ||| ((nI 1) <<< (v4 &&& 31)))).1 112 (((nI 96) + v3) + v4).toNatClampNeg))] [] (zsI h 111 29 ((h.1 111 29) ||| ((nI 1) <<< (v4 &&& 31))))) (K2 : ¬ (h.1 112 ((nI 74) + v3).toNatClampNeg) ≤ v4 → (h.1 112 (((nI 76) + v3) + v4).toNatClampNeg) = v2 → ¬ (h.1 112 ((nI 74) + v3).toNatClampNeg) ≤ (v4 + (nI 1)) → J mX11_doesRules d 0 0 Q 0 0 112 [some (.inr (.inr 111)), some (.inl v1), some (.inl v2), some (.inl v3), some (.inl v4), some (.inl (h.1 112 ((((nI 96) + v3) + v4) + (nI 1)).toNatClampNeg)), some (.inl ((zsI h 111 29 ((h.1 111 29) ||| ((nI 1) <<< (v4 &&& 31)))).1 112 (((nI 96) + v3) + v4).toNatClampNeg))] [] (zsI h 111 29 ((h.1 111 29) ||| ((nI 1) <<< (v4 &&& 31))))) (K3 : ¬ (h.1 112 ((nI 74) + v3).toNatClampNeg) ≤ v4 → ¬ (h.1 112 (((nI 76) + v3) + v4).toNatClampNeg) = v2 → J mX11_doesRules d 0 0 Q 0 0 8 [some (.inr (.inr 111)), some (.inl v1), some (.inl v2), some (.inl v3), some (.inl (v4 + nI 1)), u5, u6] [] h) : J mX11_doesRules d 0 0 Q 0 0 8 [some (.inr (.inr 111)), some (.inl v1), some (.inl v2), some (.inl v3), some (.inl v4), u5, u6] [] h := by
  refine bX11_doesRules_8 hr (G0) (fun p1 => ?_) (fun p1 => ?_)
  · exact bX11_doesRules_158  (K0 p1)
  · refine bX11_doesRules_22 hr (G1 p1) (fun p2 => ?_) (fun p2 => ?_)
    · refine bX11_doesRules_41 hr (G0) (fun p3 => ?_) (fun p3 => ?_)
      · refine bX11_doesRules_74 hr (G2 p1 p2 p3) ?_
        refine bX11_doesRules_83 hr (G3 p1 p2 p3) ?_
        exact K1 p1 p2 p3
      · refine bX11_doesRules_57 hr (G4 p1 p2 p3) ?_
        refine bX11_doesRules_83 hr (G5 p1 p2 p3) ?_
        exact K2 p1 p2 p3
    · refine bX11_doesRules_38  ?_
      refine bX11_doesRules_152  ?_
      exact K3 p1 p2

set_option maxRecDepth 20000 in
theorem t_X11_doesRules_112 {d d1' : Nat} {Q : Option MV → MH → Prop} {h : MH} {v1 v2 v3 v4 v5 v6 : Int32} (hr : zRf h) (hd1' : d1' + 1 ≤ d) (G0 : ¬ v5 ≤ v6 → ¬ v6 = (h.1 111 28) → vp_in (((nI 116) + v3) + v6) 2166) (K0 : v5 ≤ v6 → J mX11_doesRules d 0 0 Q 0 0 8 [some (.inr (.inr 111)), some (.inl v1), some (.inl v2), some (.inl v3), some (.inl (v4 + nI 1)), some (.inl v5), some (.inl v6)] [] h) (K1 : ¬ v5 ≤ v6 → v6 = (h.1 111 28) → J mX11_doesRules d 0 0 Q 0 0 112 [some (.inr (.inr 111)), some (.inl v1), some (.inl v2), some (.inl v3), some (.inl v4), some (.inl v5), some (.inl (v6 + nI 1))] [] h) (K2 : ¬ v5 ≤ v6 → ¬ v6 = (h.1 111 28) → Con mX11_doesAct d1' 0 0 [.inr (.inr 111), .inl v6, .inl (h.1 112 (((nI 116) + v3) + v6).toNatClampNeg)] h (zrv fun h' => J mX11_doesRules d 0 0 Q 0 0 146 [some (.inr (.inr 111)), some (.inl v1), some (.inl v2), some (.inl v3), some (.inl v4), some (.inl v5), some (.inl v6)] [] h')) : J mX11_doesRules d 0 0 Q 0 0 112 [some (.inr (.inr 111)), some (.inl v1), some (.inl v2), some (.inl v3), some (.inl v4), some (.inl v5), some (.inl v6)] [] h := by
  refine bX11_doesRules_112  (fun p1 => ?_) (fun p1 => ?_)
  · refine bX11_doesRules_152  ?_
    exact K0 p1
  · refine bX11_doesRules_119 hr (fun p2 => ?_) (fun p2 => ?_)
    · refine bX11_doesRules_146  ?_
      exact K1 p1 p2
    · exact bX11_doesRules_128 hr (G0 p1 p2) hd1' (K2 p1 p2)

set_option maxRecDepth 20000 in
theorem t_X11_doesRules_146 {d  : Nat} {Q : Option MV → MH → Prop} {h : MH} {v1 v2 v3 v4 v5 v6 : Int32} (K0 : J mX11_doesRules d 0 0 Q 0 0 112 [some (.inr (.inr 111)), some (.inl v1), some (.inl v2), some (.inl v3), some (.inl v4), some (.inl v5), some (.inl (v6 + nI 1))] [] h) : J mX11_doesRules d 0 0 Q 0 0 146 [some (.inr (.inr 111)), some (.inl v1), some (.inl v2), some (.inl v3), some (.inl v4), some (.inl v5), some (.inl v6)] [] h := by
  refine bX11_doesRules_146  ?_
  exact K0

set_option maxRecDepth 20000 in
theorem t_X11_tillNext {d  : Nat} {Q : Option MV → MH → Prop} {h : MH} (K0 : J mX11_tillNext d 0 0 Q 0 0 4 [some (.inr (.inr 111)), some (.inl (-(nI 1))), some (.inl (nI 0))] [] h) : Con mX11_tillNext d 0 0 [.inr (.inr 111)] h Q := by
  refine Con.intro rfl (Nat.le_of_ble_eq_true rfl) ?_
  show J mX11_tillNext d 0 0 Q 0 0 0 [some (.inr (.inr 111)), none, none] [] h
  refine bX11_tillNext_0  ?_
  exact K0

set_option maxRecDepth 20000 in
theorem t_X11_tillNext_4 {d  : Nat} {Q : Option MV → MH → Prop} {h : MH} {v1 v2 : Int32} (hr : zRf h) (G0 : ¬ (nI 8) ≤ v2 → vp_in v2 8) (G1 : ¬ (nI 8) ≤ v2 → ¬ (h.1 118 v2.toNatClampNeg) ≤ 0 → v1 = (-(nI 1)) → ¬ (h.1 118 v2.toNatClampNeg) = 0) (G2 : ¬ (nI 8) ≤ v2 → ¬ (h.1 118 v2.toNatClampNeg) ≤ 0 → ¬ v1 = (-(nI 1)) → ¬ (h.1 118 v2.toNatClampNeg) = 0) (K0 : (nI 8) ≤ v2 → Q (some (.inl v1)) h) (K1 : ¬ (nI 8) ≤ v2 → (h.1 118 v2.toNatClampNeg) ≤ 0 → J mX11_tillNext d 0 0 Q 0 0 4 [some (.inr (.inr 111)), some (.inl v1), some (.inl (v2 + nI 1))] [] h) (K2 : ¬ (nI 8) ≤ v2 → ¬ (h.1 118 v2.toNatClampNeg) ≤ 0 → v1 = (-(nI 1)) → J mX11_tillNext d 0 0 Q 0 0 4 [some (.inr (.inr 111)), some (.inl ((h.1 117 v2.toNatClampNeg) / (h.1 118 v2.toNatClampNeg))), some (.inl (v2 + nI 1))] [] h) (K3 : ¬ (nI 8) ≤ v2 → ¬ (h.1 118 v2.toNatClampNeg) ≤ 0 → ¬ v1 = (-(nI 1)) → v1 ≤ ((h.1 117 v2.toNatClampNeg) / (h.1 118 v2.toNatClampNeg)) → J mX11_tillNext d 0 0 Q 0 0 4 [some (.inr (.inr 111)), some (.inl v1), some (.inl (v2 + nI 1))] [] h) (K4 : ¬ (nI 8) ≤ v2 → ¬ (h.1 118 v2.toNatClampNeg) ≤ 0 → ¬ v1 = (-(nI 1)) → ¬ v1 ≤ ((h.1 117 v2.toNatClampNeg) / (h.1 118 v2.toNatClampNeg)) → J mX11_tillNext d 0 0 Q 0 0 4 [some (.inr (.inr 111)), some (.inl ((h.1 117 v2.toNatClampNeg) / (h.1 118 v2.toNatClampNeg))), some (.inl (v2 + nI 1))] [] h) : J mX11_tillNext d 0 0 Q 0 0 4 [some (.inr (.inr 111)), some (.inl v1), some (.inl v2)] [] h := by
  refine bX11_tillNext_4  (fun p1 => ?_) (fun p1 => ?_)
  · exact bX11_tillNext_61  (K0 p1)
  · refine bX11_tillNext_10 hr (G0 p1) (fun p2 => ?_) (fun p2 => ?_)
    · refine bX11_tillNext_55  ?_
      exact K1 p1 p2
    · refine bX11_tillNext_19  (fun p3 => ?_) (fun p3 => ?_)
      · refine bX11_tillNext_41 hr (G0 p1) (G1 p1 p2 p3) ?_
        refine bX11_tillNext_55  ?_
        exact K2 p1 p2 p3
      · refine bX11_tillNext_24 hr (G0 p1) (G2 p1 p2 p3) (fun p4 => ?_) (fun p4 => ?_)
        · refine bX11_tillNext_55  ?_
          exact K3 p1 p2 p3 p4
        · refine bX11_tillNext_41 hr (G0 p1) (G2 p1 p2 p3) ?_
          refine bX11_tillNext_55  ?_
          exact K4 p1 p2 p3 p4

set_option maxRecDepth 20000 in
theorem t_X11_burns {d  : Nat} {Q : Option MV → MH → Prop} {h : MH} {v1 : Int32} (K0 : J mX11_burns d 0 0 Q 0 0 2 [some (.inr (.inr 111)), some (.inl v1), some (.inl (nI 0)), none, none, none, none] [] h) : Con mX11_burns d 0 0 [.inr (.inr 111), .inl v1] h Q := by
  refine Con.intro rfl (Nat.le_of_ble_eq_true rfl) ?_
  show J mX11_burns d 0 0 Q 0 0 0 [some (.inr (.inr 111)), some (.inl v1), none, none, none, none, none] [] h
  refine bX11_burns_0  ?_
  exact K0

set_option maxRecDepth 20000 in
theorem t_X11_burns_2 {d  : Nat} {Q : Option MV → MH → Prop} {h : MH} {u3 u4 u5 u6 : Option MV} {v1 v2 : Int32} (hr : zRf h) (G0 : ¬ (nI 8) ≤ v2 → vp_in v2 8) (K0 : (nI 8) ≤ v2 → Q none (zsI h 111 24 ((h.1 111 24) + v1))) (K1 : ¬ (nI 8) ≤ v2 → J mX11_burns d 0 0 Q 0 0 30 [some (.inr (.inr 111)), some (.inl v1), some (.inl v2), some (.inl ((h.1 118 v2.toNatClampNeg) * v1)), some (.inl (nI 0)), u5, u6] [] (zsI h 117 v2.toNatClampNeg ((h.1 117 v2.toNatClampNeg) - ((h.1 118 v2.toNatClampNeg) * v1)))) : J mX11_burns d 0 0 Q 0 0 2 [some (.inr (.inr 111)), some (.inl v1), some (.inl v2), u3, u4, u5, u6] [] h := by
  refine bX11_burns_2  (fun p1 => ?_) (fun p1 => ?_)
  · exact bX11_burns_112 hr (K0 p1)
  · refine bX11_burns_8 hr (G0 p1) ?_
    exact K1 p1

set_option maxRecDepth 20000 in
theorem t_X11_burns_30 {d  : Nat} {Q : Option MV → MH → Prop} {h : MH} {u5 u6 : Option MV} {v1 v2 v3 v4 : Int32} (hr : zRf h) (G0 : vp_in v2 8) (G1 : ¬ (h.1 123 v2.toNatClampNeg) ≤ v4 → ¬ v3 ≤ 0 → vp_in (((nI 8) * v2) + v4) 64) (G2 : ¬ (h.1 123 v2.toNatClampNeg) ≤ v4 → ¬ v3 ≤ 0 → vp_in (h.1 122 (((nI 8) * v2) + v4).toNatClampNeg) 8) (K0 : (h.1 123 v2.toNatClampNeg) ≤ v4 → J mX11_burns d 0 0 Q 0 0 2 [some (.inr (.inr 111)), some (.inl v1), some (.inl (v2 + nI 1)), some (.inl v3), some (.inl v4), u5, u6] [] h) (K1 : ¬ (h.1 123 v2.toNatClampNeg) ≤ v4 → v3 ≤ 0 → J mX11_burns d 0 0 Q 0 0 2 [some (.inr (.inr 111)), some (.inl v1), some (.inl (v2 + nI 1)), some (.inl v3), some (.inl v4), u5, u6] [] h) (K2 : ¬ (h.1 123 v2.toNatClampNeg) ≤ v4 → ¬ v3 ≤ 0 → v3 ≤ (h.1 121 (h.1 122 (((nI 8) * v2) + v4).toNatClampNeg).toNatClampNeg) → J mX11_burns d 0 0 Q 0 0 30 [some (.inr (.inr 111)), some (.inl v1), some (.inl v2), some (.inl (v3 - v3)), some (.inl (v4 + nI 1)), some (.inl (h.1 122 (((nI 8) * v2) + v4).toNatClampNeg)), some (.inl v3)] [] (zsI h 121 (h.1 122 (((nI 8) * v2) + v4).toNatClampNeg).toNatClampNeg ((h.1 121 (h.1 122 (((nI 8) * v2) + v4).toNatClampNeg).toNatClampNeg) - v3))) (K3 : ¬ (h.1 123 v2.toNatClampNeg) ≤ v4 → ¬ v3 ≤ 0 → ¬ v3 ≤ (h.1 121 (h.1 122 (((nI 8) * v2) + v4).toNatClampNeg).toNatClampNeg) → J mX11_burns d 0 0 Q 0 0 30 [some (.inr (.inr 111)), some (.inl v1), some (.inl v2), some (.inl (v3 - (h.1 121 (h.1 122 (((nI 8) * v2) + v4).toNatClampNeg).toNatClampNeg))), some (.inl (v4 + nI 1)), some (.inl (h.1 122 (((nI 8) * v2) + v4).toNatClampNeg)), some (.inl (h.1 121 (h.1 122 (((nI 8) * v2) + v4).toNatClampNeg).toNatClampNeg))] [] (zsI h 121 (h.1 122 (((nI 8) * v2) + v4).toNatClampNeg).toNatClampNeg ((h.1 121 (h.1 122 (((nI 8) * v2) + v4).toNatClampNeg).toNatClampNeg) - (h.1 121 (h.1 122 (((nI 8) * v2) + v4).toNatClampNeg).toNatClampNeg)))) : J mX11_burns d 0 0 Q 0 0 30 [some (.inr (.inr 111)), some (.inl v1), some (.inl v2), some (.inl v3), some (.inl v4), u5, u6] [] h := by
  refine bX11_burns_30 hr (G0) (fun p1 => ?_) (fun p1 => ?_)
  · refine bX11_burns_106  ?_
    exact K0 p1
  · refine bX11_burns_41  (fun p2 => ?_) (fun p2 => ?_)
    · refine bX11_burns_106  ?_
      exact K1 p1 p2
    · refine bX11_burns_45 hr (G1 p1 p2) (G2 p1 p2) (fun p3 => ?_) (fun p3 => ?_)
      · refine bX11_burns_80  ?_
        refine bX11_burns_81 hr (G2 p1 p2) ?_
        exact K2 p1 p2 p3
      · refine bX11_burns_70 hr (G2 p1 p2) ?_
        refine bX11_burns_81 hr (G2 p1 p2) ?_
        exact K3 p1 p2 p3

set_option maxRecDepth 20000 in
theorem t_X11_runs {d  : Nat} {Q : Option MV → MH → Prop} {h : MH} {v1 v2 : Int32} (hr : zRf h) (K0 : J mX11_runs d 0 0 Q 0 0 27 [some (.inr (.inr 111)), some (.inl v1), some (.inl v2), some (.inl (nI 0)), none, none] [] (zsI (zsI (zsI (zsI (zsI h 111 24 (nI 0)) 111 25 (nI 0)) 111 26 (nI 0)) 111 27 (nI 0)) 111 29 (nI 0))) : Con mX11_runs d 0 0 [.inr (.inr 111), .inl v1, .inl v2] h Q := by
  refine Con.intro rfl (Nat.le_of_ble_eq_true rfl) ?_
  show J mX11_runs d 0 0 Q 0 0 0 [some (.inr (.inr 111)), some (.inl v1), some (.inl v2), none, none, none] [] h
  refine bX11_runs_0 hr ?_
  exact K0

set_option maxRecDepth 20000 in
theorem t_X11_runs_27 {d  : Nat} {Q : Option MV → MH → Prop} {h : MH} {v1 v2 v3 : Int32} (hr : zRf h) (G0 : ¬ (nI 40) ≤ v3 → vp_in v3 40) (K0 : (nI 40) ≤ v3 → J mX11_runs d 0 0 Q 0 0 48 [some (.inr (.inr 111)), some (.inl v1), some (.inl v2), some (.inl (nI 0)), none, none] [] h) (K1 : ¬ (nI 40) ≤ v3 → J mX11_runs d 0 0 Q 0 0 27 [some (.inr (.inr 111)), some (.inl v1), some (.inl v2), some (.inl (v3 + nI 1)), none, none] [] (zsI h 125 v3.toNatClampNeg (nI 0))) : J mX11_runs d 0 0 Q 0 0 27 [some (.inr (.inr 111)), some (.inl v1), some (.inl v2), some (.inl v3), none, none] [] h := by
  refine bX11_runs_27  (fun p1 => ?_) (fun p1 => ?_)
  · refine bX11_runs_46  ?_
    exact K0 p1
  · refine bX11_runs_33 hr (G0 p1) ?_
    exact K1 p1

set_option maxRecDepth 20000 in
theorem t_X11_runs_48 {d d1' : Nat} {Q : Option MV → MH → Prop} {h : MH} {v1 v2 v3 : Int32} (hr : zRf h) (hd1' : d1' + 1 ≤ d) (G0 : ¬ (nI 8) ≤ v3 → vp_in v3 8) (G1 : ¬ (nI 8) ≤ v3 → vp_in ((nI 8) * v3) 64) (K0 : (nI 8) ≤ v3 → Con mX11_doesRules d1' 0 0 [.inr (.inr 111), .inl v1, .inl (-(nI 1))] h (zrv fun h' => J mX11_runs d 0 0 Q 0 0 128 [some (.inr (.inr 111)), some (.inl v1), some (.inl v2), some (.inl v3), none, none] [] h')) (K1 : ¬ (nI 8) ≤ v3 → J mX11_runs d 0 0 Q 0 0 48 [some (.inr (.inr 111)), some (.inl v1), some (.inl v2), some (.inl (v3 + nI 1)), none, none] [] (zsI (zsI (zsI (zsI (zsI (zsI (zsI h 117 v3.toNatClampNeg (h.1 116 v3.toNatClampNeg)) 121 v3.toNatClampNeg ((zsI h 117 v3.toNatClampNeg (h.1 116 v3.toNatClampNeg)).1 116 v3.toNatClampNeg)) 118 v3.toNatClampNeg (nI 0)) 119 v3.toNatClampNeg (nI 0)) 120 v3.toNatClampNeg (-(nI 1))) 122 ((nI 8) * v3).toNatClampNeg v3) 123 v3.toNatClampNeg (nI 1))) : J mX11_runs d 0 0 Q 0 0 48 [some (.inr (.inr 111)), some (.inl v1), some (.inl v2), some (.inl v3), none, none] [] h := by
  refine bX11_runs_48  (fun p1 => ?_) (fun p1 => ?_)
  · exact bX11_runs_122 hr hd1' (K0 p1)
  · refine bX11_runs_54 hr (G0 p1) (G1 p1) ?_
    exact K1 p1

set_option maxRecDepth 20000 in
theorem t_X11_runs_128 {d d1' : Nat} {Q : Option MV → MH → Prop} {h : MH} {v1 v2 v3 : Int32} (hr : zRf h) (hd1' : d1' + 1 ≤ d) (K0 : Con mX11_tillNext d1' 0 0 [.inr (.inr 111)] h (zri fun (x : Int32) h' => J mX11_runs d 0 0 Q 0 0 132 [some (.inr (.inr 111)), some (.inl v1), some (.inl v2), some (.inl v3), none, none] [.inl x] h')) : J mX11_runs d 0 0 Q 0 0 128 [some (.inr (.inr 111)), some (.inl v1), some (.inl v2), some (.inl v3), none, none] [] h := by
  exact bX11_runs_128 hr hd1' (K0)

set_option maxRecDepth 20000 in
theorem t_X11_runs_132 {d  : Nat} {Q : Option MV → MH → Prop} {h : MH} {v1 v2 v3 vs0 : Int32} (K0 : J mX11_runs d 0 0 Q 0 0 133 [some (.inr (.inr 111)), some (.inl v1), some (.inl v2), some (.inl vs0), none, none] [] h) : J mX11_runs d 0 0 Q 0 0 132 [some (.inr (.inr 111)), some (.inl v1), some (.inl v2), some (.inl v3), none, none] [.inl vs0] h := by
  refine bX11_runs_132  ?_
  exact K0

set_option maxRecDepth 20000 in
theorem t_X11_runs_133 {d d1' d2' d3' : Nat} {Q : Option MV → MH → Prop} {h : MH} {u4 u5 : Option MV} {v1 v2 v3 : Int32} (hr : zRf h) (hd1' : d1' + 1 ≤ d) (hd2' : d2' + 1 ≤ d) (hd3' : d3' + 1 ≤ d) (K0 : v3 = (-(nI 1)) → Q none h) (K1 : ¬ v3 = (-(nI 1)) → v2 = (-(nI 1)) → Con mX11_burns d1' 0 0 [.inr (.inr 111), .inl v3] h (zrv fun h' => J mX11_runs d 0 0 Q 0 0 158 [some (.inr (.inr 111)), some (.inl v1), some (.inl v2), some (.inl v3), u4, u5] [] h')) (K2 : ¬ v3 = (-(nI 1)) → ¬ v2 = (-(nI 1)) → v2 < ((h.1 111 24) + v3) → Con mX11_burns d2' 0 0 [.inr (.inr 111), .inl (v2 - (h.1 111 24))] h (zrv fun h' => J mX11_runs d 0 0 Q 0 0 298 [some (.inr (.inr 111)), some (.inl v1), some (.inl v2), some (.inl v3), u4, u5] [] h')) (K3 : ¬ v3 = (-(nI 1)) → ¬ v2 = (-(nI 1)) → ¬ v2 < ((h.1 111 24) + v3) → Con mX11_burns d3' 0 0 [.inr (.inr 111), .inl v3] h (zrv fun h' => J mX11_runs d 0 0 Q 0 0 158 [some (.inr (.inr 111)), some (.inl v1), some (.inl v2), some (.inl v3), u4, u5] [] h')) : J mX11_runs d 0 0 Q 0 0 133 [some (.inr (.inr 111)), some (.inl v1), some (.inl v2), some (.inl v3), u4, u5] [] h := by
  refine bX11_runs_133  (fun p1 => ?_) (fun p1 => ?_)
  · refine bX11_runs_278  (fun _ => ?_) (fun c => absurd p1 c)
    exact bX11_runs_298  (K0 p1)
  · refine bX11_runs_138  (fun p2 => ?_) (fun p2 => ?_)
    · exact bX11_runs_153 hr hd1' (K1 p1 p2)
    · refine bX11_runs_143 hr (fun p3 => ?_) (fun p3 => ?_)
      · refine bX11_runs_278  (fun c => absurd c p1) (fun _ => ?_)
        refine bX11_runs_283  (fun c => absurd c p2) (fun _ => ?_)
        exact bX11_runs_288 hr hd2' (K2 p1 p2 p3)
      · exact bX11_runs_153 hr hd3' (K3 p1 p2 p3)

set_option maxRecDepth 20000 in
theorem t_X11_runs_158 {d  : Nat} {Q : Option MV → MH → Prop} {h : MH} {u4 u5 : Option MV} {v1 v2 v3 : Int32} (K0 : J mX11_runs d 0 0 Q 0 0 164 [some (.inr (.inr 111)), some (.inl v1), some (.inl v2), some (.inl v3), some (.inl (nI 0)), some (.inl (nI 0))] [] h) : J mX11_runs d 0 0 Q 0 0 158 [some (.inr (.inr 111)), some (.inl v1), some (.inl v2), some (.inl v3), u4, u5] [] h := by
  refine bX11_runs_158  ?_
  exact K0

set_option maxRecDepth 20000 in
theorem t_X11_runs_164 {d  : Nat} {Q : Option MV → MH → Prop} {h : MH} {v1 v2 v3 v4 v5 : Int32} (hr : zRf h) (G0 : ¬ (nI 8) ≤ v5 → vp_in v5 8) (K0 : (nI 8) ≤ v5 → J mX11_runs d 0 0 Q 0 0 239 [some (.inr (.inr 111)), some (.inl v1), some (.inl v2), some (.inl v3), some (.inl v4), some (.inl (nI 0))] [] h) (K1 : ¬ (nI 8) ≤ v5 → (h.1 118 v5.toNatClampNeg) = 0 → J mX11_runs d 0 0 Q 0 0 164 [some (.inr (.inr 111)), some (.inl v1), some (.inl v2), some (.inl v3), some (.inl v4), some (.inl (v5 + nI 1))] [] h) (K2 : ¬ (nI 8) ≤ v5 → ¬ (h.1 118 v5.toNatClampNeg) = 0 → (h.1 117 v5.toNatClampNeg) ≤ 0 → J mX11_runs d 0 0 Q 0 0 164 [some (.inr (.inr 111)), some (.inl v1), some (.inl v2), some (.inl v3), some (.inl (v4 ||| ((nI 1) <<< (v5 &&& 31)))), some (.inl (v5 + nI 1))] [] (zsI (zsI (zsI h 118 v5.toNatClampNeg (nI 0)) 119 v5.toNatClampNeg (nI 1)) 120 v5.toNatClampNeg ((zsI (zsI h 118 v5.toNatClampNeg (nI 0)) 119 v5.toNatClampNeg (nI 1)).1 111 24))) (K3 : ¬ (nI 8) ≤ v5 → ¬ (h.1 118 v5.toNatClampNeg) = 0 → ¬ (h.1 117 v5.toNatClampNeg) ≤ 0 → J mX11_runs d 0 0 Q 0 0 164 [some (.inr (.inr 111)), some (.inl v1), some (.inl v2), some (.inl v3), some (.inl v4), some (.inl (v5 + nI 1))] [] h) : J mX11_runs d 0 0 Q 0 0 164 [some (.inr (.inr 111)), some (.inl v1), some (.inl v2), some (.inl v3), some (.inl v4), some (.inl v5)] [] h := by
  refine bX11_runs_164  (fun p1 => ?_) (fun p1 => ?_)
  · refine bX11_runs_236  ?_
    exact K0 p1
  · refine bX11_runs_171 hr (G0 p1) (fun p2 => ?_) (fun p2 => ?_)
    · refine bX11_runs_230  ?_
      exact K1 p1 p2
    · refine bX11_runs_181 hr (G0 p1) (fun p3 => ?_) (fun p3 => ?_)
      · refine bX11_runs_194 hr (G0 p1) ?_
        refine bX11_runs_230  ?_
        exact K2 p1 p2 p3
      · refine bX11_runs_191  ?_
        refine bX11_runs_230  ?_
        exact K3 p1 p2 p3

set_option maxRecDepth 20000 in
theorem t_X11_runs_239 {d d1' d2' : Nat} {Q : Option MV → MH → Prop} {h : MH} {v1 v2 v3 v4 v5 : Int32} (hr : zRf h) (hd1' : d1' + 1 ≤ d) (hd2' : d2' + 1 ≤ d) (K0 : (nI 8) ≤ v5 → Con mX11_tillNext d1' 0 0 [.inr (.inr 111)] h (zri fun (x : Int32) h' => J mX11_runs d 0 0 Q 0 0 274 [some (.inr (.inr 111)), some (.inl v1), some (.inl v2), some (.inl v3), some (.inl v4), some (.inl v5)] [.inl x] h')) (K1 : ¬ (nI 8) ≤ v5 → ¬ ((v4 >>> (v5 &&& 31)) &&& (nI 1)) = (nI 1) → J mX11_runs d 0 0 Q 0 0 239 [some (.inr (.inr 111)), some (.inl v1), some (.inl v2), some (.inl v3), some (.inl v4), some (.inl (v5 + nI 1))] [] h) (K2 : ¬ (nI 8) ≤ v5 → ((v4 >>> (v5 &&& 31)) &&& (nI 1)) = (nI 1) → Con mX11_doesRules d2' 0 0 [.inr (.inr 111), .inl v1, .inl v5] h (zrv fun h' => J mX11_runs d 0 0 Q 0 0 264 [some (.inr (.inr 111)), some (.inl v1), some (.inl v2), some (.inl v3), some (.inl v4), some (.inl v5)] [] h')) : J mX11_runs d 0 0 Q 0 0 239 [some (.inr (.inr 111)), some (.inl v1), some (.inl v2), some (.inl v3), some (.inl v4), some (.inl v5)] [] h := by
  refine bX11_runs_239  (fun p1 => ?_) (fun p1 => ?_)
  · exact bX11_runs_270 hr hd1' (K0 p1)
  · refine bX11_runs_246  (fun p2 => ?_) (fun p2 => ?_)
    · refine bX11_runs_264  ?_
      exact K1 p1 p2
    · exact bX11_runs_257 hr hd2' (K2 p1 p2)

set_option maxRecDepth 20000 in
theorem t_X11_runs_264 {d  : Nat} {Q : Option MV → MH → Prop} {h : MH} {v1 v2 v3 v4 v5 : Int32} (K0 : J mX11_runs d 0 0 Q 0 0 239 [some (.inr (.inr 111)), some (.inl v1), some (.inl v2), some (.inl v3), some (.inl v4), some (.inl (v5 + nI 1))] [] h) : J mX11_runs d 0 0 Q 0 0 264 [some (.inr (.inr 111)), some (.inl v1), some (.inl v2), some (.inl v3), some (.inl v4), some (.inl v5)] [] h := by
  refine bX11_runs_264  ?_
  exact K0

set_option maxRecDepth 20000 in
theorem t_X11_runs_274 {d  : Nat} {Q : Option MV → MH → Prop} {h : MH} {v1 v2 v3 v4 v5 vs0 : Int32} (K0 : J mX11_runs d 0 0 Q 0 0 133 [some (.inr (.inr 111)), some (.inl v1), some (.inl v2), some (.inl vs0), some (.inl v4), some (.inl v5)] [] h) : J mX11_runs d 0 0 Q 0 0 274 [some (.inr (.inr 111)), some (.inl v1), some (.inl v2), some (.inl v3), some (.inl v4), some (.inl v5)] [.inl vs0] h := by
  refine bX11_runs_274  ?_
  exact K0

set_option maxRecDepth 20000 in
theorem t_X11_runs_298 {d  : Nat} {Q : Option MV → MH → Prop} {h : MH} {u4 u5 : Option MV} {v1 v2 v3 : Int32} (K0 : Q none h) : J mX11_runs d 0 0 Q 0 0 298 [some (.inr (.inr 111)), some (.inl v1), some (.inl v2), some (.inl v3), u4, u5] [] h := by
  exact bX11_runs_298  (K0)

set_option maxRecDepth 20000 in
theorem t_X11_waxBurnt {d  : Nat} {Q : Option MV → MH → Prop} {h : MH} (K0 : J mX11_waxBurnt d 0 0 Q 0 0 4 [some (.inr (.inr 111)), some (.inl (nI 0)), some (.inl (nI 0))] [] h) : Con mX11_waxBurnt d 0 0 [.inr (.inr 111)] h Q := by
  refine Con.intro rfl (Nat.le_of_ble_eq_true rfl) ?_
  show J mX11_waxBurnt d 0 0 Q 0 0 0 [some (.inr (.inr 111)), none, none] [] h
  refine bX11_waxBurnt_0  ?_
  exact K0

set_option maxRecDepth 20000 in
theorem t_X11_waxBurnt_4 {d  : Nat} {Q : Option MV → MH → Prop} {h : MH} {v1 v2 : Int32} (hr : zRf h) (G0 : ¬ (h.1 112 0) ≤ v2 → vp_in ((nI 57) + v2) 2166) (G1 : ¬ (h.1 112 0) ≤ v2 → vp_in v2 8) (G2 : ¬ (h.1 112 0) ≤ v2 → ¬ ((h.1 116 v2.toNatClampNeg).toInt64) = 0) (K0 : (h.1 112 0) ≤ v2 → Q (some (.inl v1)) h) (K1 : ¬ (h.1 112 0) ≤ v2 → J mX11_waxBurnt d 0 0 Q 0 0 4 [some (.inr (.inr 111)), some (.inl (v1 + (((((h.1 112 ((nI 57) + v2).toNatClampNeg).toInt64) * (((h.1 116 v2.toNatClampNeg) - (h.1 121 v2.toNatClampNeg)).toInt64)) / ((h.1 116 v2.toNatClampNeg).toInt64)).toInt32))), some (.inl (v2 + nI 1))] [] h) : J mX11_waxBurnt d 0 0 Q 0 0 4 [some (.inr (.inr 111)), some (.inl v1), some (.inl v2)] [] h := by
  refine bX11_waxBurnt_4 hr (vp_in_nI (by decide) (by decide)) (fun p1 => ?_) (fun p1 => ?_)
  · exact bX11_waxBurnt_57  (K0 p1)
  · refine bX11_waxBurnt_14 hr (G0 p1) (G1 p1) (G2 p1) ?_
    exact K1 p1

set_option maxRecDepth 20000 in
theorem t_X11_run {d d1' : Nat} {Q : Option MV → MH → Prop} {h : MH} {v1 v2 : Int32} (hr : zRf h) (hd : 2 ≤ d) (hd1' : d1' + 1 ≤ d) (K0 : ¬ (lN 0) ≤ v1.toInt64 → Q (some (.inl (-(nI 2)))) (zsI h 111 0 (nI 0))) (K1 : (lN 0) ≤ v1.toInt64 → ¬ v1.toInt64 ≤ (3 : Int64) → Q (some (.inl (-(nI 2)))) (zsI h 111 0 (nI 0))) (K2 : (lN 0) ≤ v1.toInt64 → v1.toInt64 ≤ (3 : Int64) → ¬ (lN 0) ≤ v2.toInt64 → Q (some (.inl (-(nI 2)))) (zsI h 111 0 (nI 0))) (K3 : (lN 0) ≤ v1.toInt64 → v1.toInt64 ≤ (3 : Int64) → (lN 0) ≤ v2.toInt64 → ¬ v2.toInt64 ≤ (4 : Int64) → Q (some (.inl (-(nI 2)))) (zsI h 111 0 (nI 0))) (K4 : (lN 0) ≤ v1.toInt64 → v1.toInt64 ≤ (3 : Int64) → (lN 0) ≤ v2.toInt64 → v2.toInt64 ≤ (4 : Int64) → Con mX11_asTold d1' 0 0 [.inr (.inr 111)] (zsI h 111 0 (nI 0)) (zrv fun h' => J mX11_run d 0 0 Q 0 0 31 [some (.inr (.inr 111)), some (.inl v1), some (.inl v2)] [] h')) : Con mX11_run d 0 0 [.inr (.inr 111), .inl v1, .inl v2] h Q := by
  refine Con.intro rfl (Nat.le_of_ble_eq_true rfl) ?_
  show J mX11_run d 0 0 Q 0 0 0 [some (.inr (.inr 111)), some (.inl v1), some (.inl v2)] [] h
  refine bX11_run_0 (d' := 1) hr (by omega) ?_
  refine t_X11_isPlan (Nat.le_refl _) ?_ ?_ ?_
  · intro p1
    refine bX11_run_9  (fun _ => ?_) (fun c => absurd c (by decide))
    exact bX11_run_24  (K0 p1)
  · intro p2 p3
    refine bX11_run_9  (fun _ => ?_) (fun c => absurd c (by decide))
    exact bX11_run_24  (K1 p2 p3)
  · intro p4 p5
    refine bX11_run_9  (fun c => absurd c (by decide)) (fun _ => ?_)
    refine bX11_run_12 (d' := 0)  (by omega) ?_
    refine t_X11_within  ?_ ?_ ?_
    · intro p6
      refine bX11_run_21  (fun c => absurd c (by decide)) (fun _ => ?_)
      exact bX11_run_24  (K2 p4 p5 p6)
    · intro p7 p8
      refine bX11_run_21  (fun c => absurd c (by decide)) (fun _ => ?_)
      exact bX11_run_24  (K3 p4 p5 p7 p8)
    · intro p9 p10
      refine bX11_run_21  (fun _ => ?_) (fun c => absurd c (by decide))
      exact bX11_run_27 hr hd1' (K4 p4 p5 p9 p10)

set_option maxRecDepth 20000 in
theorem t_X11_run_31 {d d1' : Nat} {Q : Option MV → MH → Prop} {h : MH} {v1 v2 : Int32} (hr : zRf h) (hd1' : d1' + 1 ≤ d) (K0 : Con mX11_runs d1' 0 0 [.inr (.inr 111), .inl v1, .inl (-(nI 1))] h (zrv fun h' => J mX11_run d 0 0 Q 0 0 37 [some (.inr (.inr 111)), some (.inl v1), some (.inl v2)] [] h')) : J mX11_run d 0 0 Q 0 0 31 [some (.inr (.inr 111)), some (.inl v1), some (.inl v2)] [] h := by
  exact bX11_run_31 hr hd1' (K0)

set_option maxRecDepth 20000 in
theorem t_X11_run_37 {d d1' : Nat} {Q : Option MV → MH → Prop} {h : MH} {v1 v2 : Int32} (hr : zRf h) (hd1' : d1' + 1 ≤ d) (K0 : ¬ v2 = 0 → ¬ v2 = (nI 1) → ¬ v2 = (nI 2) → ¬ v2 = (nI 3) → Con mX11_waxBurnt d1' 0 0 [.inr (.inr 111)] h (zri fun (x : Int32) h' => J mX11_run d 0 0 Q 0 0 92 [some (.inr (.inr 111)), some (.inl v1), some (.inl v2)] [.inl x] h')) (K1 : ¬ v2 = 0 → ¬ v2 = (nI 1) → ¬ v2 = (nI 2) → v2 = (nI 3) → Q (some (.inl (h.1 111 27))) h) (K2 : ¬ v2 = 0 → ¬ v2 = (nI 1) → v2 = (nI 2) → Q (some (.inl (h.1 111 26))) h) (K3 : ¬ v2 = 0 → v2 = (nI 1) → Q (some (.inl ((h.1 111 24) / (nI 256)))) h) (K4 : v2 = 0 → Q (some (.inl (h.1 111 25))) h) : J mX11_run d 0 0 Q 0 0 37 [some (.inr (.inr 111)), some (.inl v1), some (.inl v2)] [] h := by
  refine bX11_run_37  (fun p1 => ?_) (fun p1 => ?_)
  · refine bX11_run_48  (fun p2 => ?_) (fun p2 => ?_)
    · refine bX11_run_64  (fun p3 => ?_) (fun p3 => ?_)
      · refine bX11_run_76  (fun p4 => ?_) (fun p4 => ?_)
        · exact bX11_run_88 hr hd1' (K0 p1 p2 p3 p4)
        · refine bX11_run_81 hr ?_
          exact bX11_run_92  (K1 p1 p2 p3 p4)
      · refine bX11_run_69 hr ?_
        exact bX11_run_92  (K2 p1 p2 p3)
    · refine bX11_run_53 hr ?_
      exact bX11_run_92  (K3 p1 p2)
  · refine bX11_run_41 hr ?_
    exact bX11_run_92  (K4 p1)

set_option maxRecDepth 20000 in
theorem t_X11_run_92 {d  : Nat} {Q : Option MV → MH → Prop} {h : MH} {v1 v2 vs0 : Int32} (K0 : Q (some (.inl vs0)) h) : J mX11_run d 0 0 Q 0 0 92 [some (.inr (.inr 111)), some (.inl v1), some (.inl v2)] [.inl vs0] h := by
  exact bX11_run_92  (K0)

set_option maxRecDepth 20000 in
theorem t_X11_bell {d d1' : Nat} {Q : Option MV → MH → Prop} {h : MH} {v1 v2 : Int32} (hr : zRf h) (hd : 2 ≤ d) (hd1' : d1' + 1 ≤ d) (K0 : ¬ (lN 0) ≤ v1.toInt64 → Q (some (.inl (-(nI 2)))) (zsI h 111 0 (nI 0))) (K1 : (lN 0) ≤ v1.toInt64 → ¬ v1.toInt64 ≤ (3 : Int64) → Q (some (.inl (-(nI 2)))) (zsI h 111 0 (nI 0))) (K2 : (lN 0) ≤ v1.toInt64 → v1.toInt64 ≤ (3 : Int64) → Con mX11_asTold d1' 0 0 [.inr (.inr 111)] (zsI h 111 0 (nI 0)) (zrv fun h' => J mX11_bell d 0 0 Q 0 0 19 [some (.inr (.inr 111)), some (.inl v1), some (.inl v2)] [] h')) : Con mX11_bell d 0 0 [.inr (.inr 111), .inl v1, .inl v2] h Q := by
  refine Con.intro rfl (Nat.le_of_ble_eq_true rfl) ?_
  show J mX11_bell d 0 0 Q 0 0 0 [some (.inr (.inr 111)), some (.inl v1), some (.inl v2)] [] h
  refine bX11_bell_0 (d' := 1) hr (by omega) ?_
  refine t_X11_isPlan (Nat.le_refl _) ?_ ?_ ?_
  · intro p1
    refine bX11_bell_9  (fun c => absurd c (by decide)) (fun _ => ?_)
    exact bX11_bell_12  (K0 p1)
  · intro p2 p3
    refine bX11_bell_9  (fun c => absurd c (by decide)) (fun _ => ?_)
    exact bX11_bell_12  (K1 p2 p3)
  · intro p4 p5
    refine bX11_bell_9  (fun _ => ?_) (fun c => absurd c (by decide))
    exact bX11_bell_15 hr hd1' (K2 p4 p5)

set_option maxRecDepth 20000 in
theorem t_X11_bell_19 {d d1' : Nat} {Q : Option MV → MH → Prop} {h : MH} {v1 v2 : Int32} (hr : zRf h) (hd1' : d1' + 1 ≤ d) (K0 : Con mX11_runs d1' 0 0 [.inr (.inr 111), .inl v1, .inl (-(nI 1))] h (zrv fun h' => J mX11_bell d 0 0 Q 0 0 25 [some (.inr (.inr 111)), some (.inl v1), some (.inl v2)] [] h')) : J mX11_bell d 0 0 Q 0 0 19 [some (.inr (.inr 111)), some (.inl v1), some (.inl v2)] [] h := by
  exact bX11_bell_19 hr hd1' (K0)

set_option maxRecDepth 20000 in
theorem t_X11_bell_25 {d  : Nat} {Q : Option MV → MH → Prop} {h : MH} {v1 v2 : Int32} (hr : zRf h) (hd : 1 ≤ d) (G0 : (lN 0) ≤ v2.toInt64 → v2.toInt64 ≤ (((h.1 111 25) - (nI 1)).toInt64) → vp_in v2 40) (K0 : ¬ (lN 0) ≤ v2.toInt64 → Q (some (.inl (-(nI 1)))) h) (K1 : (lN 0) ≤ v2.toInt64 → ¬ v2.toInt64 ≤ (((h.1 111 25) - (nI 1)).toInt64) → Q (some (.inl (-(nI 1)))) h) (K2 : (lN 0) ≤ v2.toInt64 → v2.toInt64 ≤ (((h.1 111 25) - (nI 1)).toInt64) → Q (some (.inl ((h.1 124 v2.toNatClampNeg) / (nI 256)))) h) : J mX11_bell d 0 0 Q 0 0 25 [some (.inr (.inr 111)), some (.inl v1), some (.inl v2)] [] h := by
  refine bX11_bell_25 (d' := 0) hr (by omega) ?_
  refine t_X11_within  ?_ ?_ ?_
  · intro p1
    refine bX11_bell_38  (fun _ => ?_) (fun c => absurd c (by decide))
    refine bX11_bell_54  ?_
    exact bX11_bell_55  (K0 p1)
  · intro p2 p3
    refine bX11_bell_38  (fun _ => ?_) (fun c => absurd c (by decide))
    refine bX11_bell_54  ?_
    exact bX11_bell_55  (K1 p2 p3)
  · intro p4 p5
    refine bX11_bell_38  (fun c => absurd c (by decide)) (fun _ => ?_)
    refine bX11_bell_41 hr (G0 p4 p5) ?_
    exact bX11_bell_55  (K2 p4 p5)

set_option maxRecDepth 20000 in
theorem t_X11_ends {d d1' : Nat} {Q : Option MV → MH → Prop} {h : MH} {v1 v2 : Int32} (hr : zRf h) (hd : 2 ≤ d) (hd1' : d1' + 1 ≤ d) (K0 : ¬ (lN 0) ≤ v1.toInt64 → Q (some (.inl (-(nI 2)))) (zsI h 111 0 (nI 0))) (K1 : (lN 0) ≤ v1.toInt64 → ¬ v1.toInt64 ≤ (3 : Int64) → Q (some (.inl (-(nI 2)))) (zsI h 111 0 (nI 0))) (K2 : (lN 0) ≤ v1.toInt64 → v1.toInt64 ≤ (3 : Int64) → ¬ (lN 0) ≤ v2.toInt64 → Q (some (.inl (-(nI 2)))) (zsI h 111 0 (nI 0))) (K3 : (lN 0) ≤ v1.toInt64 → v1.toInt64 ≤ (3 : Int64) → (lN 0) ≤ v2.toInt64 → ¬ v2.toInt64 ≤ ((((zsI h 111 0 (nI 0)).1 112 0) - (nI 1)).toInt64) → Q (some (.inl (-(nI 2)))) (zsI h 111 0 (nI 0))) (K4 : (lN 0) ≤ v1.toInt64 → v1.toInt64 ≤ (3 : Int64) → (lN 0) ≤ v2.toInt64 → v2.toInt64 ≤ ((((zsI h 111 0 (nI 0)).1 112 0) - (nI 1)).toInt64) → Con mX11_asTold d1' 0 0 [.inr (.inr 111)] (zsI h 111 0 (nI 0)) (zrv fun h' => J mX11_ends d 0 0 Q 0 0 27 [some (.inr (.inr 111)), some (.inl v1), some (.inl v2)] [] h')) : Con mX11_ends d 0 0 [.inr (.inr 111), .inl v1, .inl v2] h Q := by
  refine Con.intro rfl (Nat.le_of_ble_eq_true rfl) ?_
  show J mX11_ends d 0 0 Q 0 0 0 [some (.inr (.inr 111)), some (.inl v1), some (.inl v2)] [] h
  refine bX11_ends_0 (d' := 1) hr (by omega) ?_
  refine t_X11_isPlan (Nat.le_refl _) ?_ ?_ ?_
  · intro p1
    refine bX11_ends_9  (fun _ => ?_) (fun c => absurd c (by decide))
    exact bX11_ends_20  (K0 p1)
  · intro p2 p3
    refine bX11_ends_9  (fun _ => ?_) (fun c => absurd c (by decide))
    exact bX11_ends_20  (K1 p2 p3)
  · intro p4 p5
    refine bX11_ends_9  (fun c => absurd c (by decide)) (fun _ => ?_)
    refine bX11_ends_12 (d' := 1) hr (by omega) ?_
    refine t_X11_isCandle hr (Nat.le_refl _) ?_ ?_ ?_
    · intro p6
      refine bX11_ends_17  (fun c => absurd c (by decide)) (fun _ => ?_)
      exact bX11_ends_20  (K2 p4 p5 p6)
    · intro p7 p8
      refine bX11_ends_17  (fun c => absurd c (by decide)) (fun _ => ?_)
      exact bX11_ends_20  (K3 p4 p5 p7 p8)
    · intro p9 p10
      refine bX11_ends_17  (fun _ => ?_) (fun c => absurd c (by decide))
      exact bX11_ends_23 hr hd1' (K4 p4 p5 p9 p10)

set_option maxRecDepth 20000 in
theorem t_X11_ends_27 {d d1' : Nat} {Q : Option MV → MH → Prop} {h : MH} {v1 v2 : Int32} (hr : zRf h) (hd1' : d1' + 1 ≤ d) (K0 : Con mX11_runs d1' 0 0 [.inr (.inr 111), .inl v1, .inl (-(nI 1))] h (zrv fun h' => J mX11_ends d 0 0 Q 0 0 33 [some (.inr (.inr 111)), some (.inl v1), some (.inl v2)] [] h')) : J mX11_ends d 0 0 Q 0 0 27 [some (.inr (.inr 111)), some (.inl v1), some (.inl v2)] [] h := by
  exact bX11_ends_27 hr hd1' (K0)

set_option maxRecDepth 20000 in
theorem t_X11_ends_33 {d  : Nat} {Q : Option MV → MH → Prop} {h : MH} {v1 v2 : Int32} (hr : zRf h) (G0 : vp_in v2 8) (K0 : ¬ (h.1 120 v2.toNatClampNeg) = (-(nI 1)) → Q (some (.inl ((h.1 120 v2.toNatClampNeg) / (nI 256)))) h) (K1 : (h.1 120 v2.toNatClampNeg) = (-(nI 1)) → Q (some (.inl (-(nI 1)))) h) : J mX11_ends d 0 0 Q 0 0 33 [some (.inr (.inr 111)), some (.inl v1), some (.inl v2)] [] h := by
  refine bX11_ends_33 hr (G0) (fun p1 => ?_) (fun p1 => ?_)
  · refine bX11_ends_47 hr (G0) ?_
    exact bX11_ends_57  (K0 p1)
  · refine bX11_ends_43  ?_
    exact bX11_ends_57  (K1 p1)

set_option maxRecDepth 20000 in
theorem t_X11_runsTo {d d1' : Nat} {Q : Option MV → MH → Prop} {h : MH} {v1 v2 : Int32} (hr : zRf h) (hd1' : d1' + 1 ≤ d) (K0 : Con mX11_asTold d1' 0 0 [.inr (.inr 111)] h (zrv fun h' => J mX11_runsTo d 0 0 Q 0 0 4 [some (.inr (.inr 111)), some (.inl v1), some (.inl v2), none] [] h')) : Con mX11_runsTo d 0 0 [.inr (.inr 111), .inl v1, .inl v2] h Q := by
  refine Con.intro rfl (Nat.le_of_ble_eq_true rfl) ?_
  show J mX11_runsTo d 0 0 Q 0 0 0 [some (.inr (.inr 111)), some (.inl v1), some (.inl v2), none] [] h
  exact bX11_runsTo_0 hr hd1' (K0)

set_option maxRecDepth 20000 in
theorem t_X11_runsTo_4 {d d1' : Nat} {Q : Option MV → MH → Prop} {h : MH} {v1 v2 : Int32} (hr : zRf h) (hd1' : d1' + 1 ≤ d) (K0 : Con mX11_runs d1' 0 0 [.inr (.inr 111), .inl v1, .inl (-(nI 1))] h (zrv fun h' => J mX11_runsTo d 0 0 Q 0 0 10 [some (.inr (.inr 111)), some (.inl v1), some (.inl v2), none] [] h')) : J mX11_runsTo d 0 0 Q 0 0 4 [some (.inr (.inr 111)), some (.inl v1), some (.inl v2), none] [] h := by
  exact bX11_runsTo_4 hr hd1' (K0)

set_option maxRecDepth 20000 in
theorem t_X11_runsTo_10 {d d1' : Nat} {Q : Option MV → MH → Prop} {h : MH} {v1 v2 : Int32} (hr : zRf h) (hd1' : d1' + 1 ≤ d) (K0 : ((h.1 111 24) / (nI 256)) ≤ v2 → Q none h) (K1 : ¬ ((h.1 111 24) / (nI 256)) ≤ v2 → Con mX11_runs d1' 0 0 [.inr (.inr 111), .inl v1, .inl (v2 * (nI 256))] h (zrv fun h' => J mX11_runsTo d 0 0 Q 0 0 34 [some (.inr (.inr 111)), some (.inl v1), some (.inl v2), some (.inl (h.1 111 24))] [] h')) : J mX11_runsTo d 0 0 Q 0 0 10 [some (.inr (.inr 111)), some (.inl v1), some (.inl v2), none] [] h := by
  refine bX11_runsTo_10 hr (fun p1 => ?_) (fun p1 => ?_)
  · exact bX11_runsTo_34  (K0 p1)
  · exact bX11_runsTo_24 hr hd1' (K1 p1)

set_option maxRecDepth 20000 in
theorem t_X11_runsTo_34 {d  : Nat} {Q : Option MV → MH → Prop} {h : MH} {v1 v2 v3 : Int32} (K0 : Q none h) : J mX11_runsTo d 0 0 Q 0 0 34 [some (.inr (.inr 111)), some (.inl v1), some (.inl v2), some (.inl v3)] [] h := by
  exact bX11_runsTo_34  (K0)

set_option maxRecDepth 20000 in
theorem t_X11_rest {d d1' : Nat} {Q : Option MV → MH → Prop} {h : MH} {v1 v2 v3 : Int32} (hr : zRf h) (hd : 2 ≤ d) (hd1' : d1' + 1 ≤ d) (K0 : ¬ (lN 0) ≤ v1.toInt64 → Q (some (.inl (-(nI 2)))) (zsI h 111 0 (nI 0))) (K1 : (lN 0) ≤ v1.toInt64 → ¬ v1.toInt64 ≤ (3 : Int64) → Q (some (.inl (-(nI 2)))) (zsI h 111 0 (nI 0))) (K2 : (lN 0) ≤ v1.toInt64 → v1.toInt64 ≤ (3 : Int64) → ¬ (lN 0) ≤ v2.toInt64 → Q (some (.inl (-(nI 2)))) (zsI h 111 0 (nI 0))) (K3 : (lN 0) ≤ v1.toInt64 → v1.toInt64 ≤ (3 : Int64) → (lN 0) ≤ v2.toInt64 → ¬ v2.toInt64 ≤ ((((zsI h 111 0 (nI 0)).1 112 0) - (nI 1)).toInt64) → Q (some (.inl (-(nI 2)))) (zsI h 111 0 (nI 0))) (K4 : (lN 0) ≤ v1.toInt64 → v1.toInt64 ≤ (3 : Int64) → (lN 0) ≤ v2.toInt64 → v2.toInt64 ≤ ((((zsI h 111 0 (nI 0)).1 112 0) - (nI 1)).toInt64) → 0 ≤ v3 → Con mX11_runsTo d1' 0 0 [.inr (.inr 111), .inl v1, .inl v3] (zsI h 111 0 (nI 0)) (zrv fun h' => J mX11_rest d 0 0 Q 0 0 36 [some (.inr (.inr 111)), some (.inl v1), some (.inl v2), some (.inl v3)] [] h')) (K5 : (lN 0) ≤ v1.toInt64 → v1.toInt64 ≤ (3 : Int64) → (lN 0) ≤ v2.toInt64 → v2.toInt64 ≤ ((((zsI h 111 0 (nI 0)).1 112 0) - (nI 1)).toInt64) → ¬ 0 ≤ v3 → Q (some (.inl (-(nI 3)))) (zsI h 111 0 (nI 0))) : Con mX11_rest d 0 0 [.inr (.inr 111), .inl v1, .inl v2, .inl v3] h Q := by
  refine Con.intro rfl (Nat.le_of_ble_eq_true rfl) ?_
  show J mX11_rest d 0 0 Q 0 0 0 [some (.inr (.inr 111)), some (.inl v1), some (.inl v2), some (.inl v3)] [] h
  refine bX11_rest_0 (d' := 1) hr (by omega) ?_
  refine t_X11_isPlan (Nat.le_refl _) ?_ ?_ ?_
  · intro p1
    refine bX11_rest_9  (fun _ => ?_) (fun c => absurd c (by decide))
    exact bX11_rest_20  (K0 p1)
  · intro p2 p3
    refine bX11_rest_9  (fun _ => ?_) (fun c => absurd c (by decide))
    exact bX11_rest_20  (K1 p2 p3)
  · intro p4 p5
    refine bX11_rest_9  (fun c => absurd c (by decide)) (fun _ => ?_)
    refine bX11_rest_12 (d' := 1) hr (by omega) ?_
    refine t_X11_isCandle hr (Nat.le_refl _) ?_ ?_ ?_
    · intro p6
      refine bX11_rest_17  (fun c => absurd c (by decide)) (fun _ => ?_)
      exact bX11_rest_20  (K2 p4 p5 p6)
    · intro p7 p8
      refine bX11_rest_17  (fun c => absurd c (by decide)) (fun _ => ?_)
      exact bX11_rest_20  (K3 p4 p5 p7 p8)
    · intro p9 p10
      refine bX11_rest_17  (fun _ => ?_) (fun c => absurd c (by decide))
      refine bX11_rest_23  (fun p11 => ?_) (fun p11 => ?_)
      · exact bX11_rest_30 hr hd1' (K4 p4 p5 p9 p10 p11)
      · exact bX11_rest_27  (K5 p4 p5 p9 p10 p11)

set_option maxRecDepth 20000 in
theorem t_X11_rest_36 {d  : Nat} {Q : Option MV → MH → Prop} {h : MH} {v1 v2 v3 : Int32} (hr : zRf h) (G0 : vp_in v2 8) (K0 : Q (some (.inl ((h.1 117 v2.toNatClampNeg) / (nI 256)))) h) : J mX11_rest d 0 0 Q 0 0 36 [some (.inr (.inr 111)), some (.inl v1), some (.inl v2), some (.inl v3)] [] h := by
  exact bX11_rest_36 hr (G0) (K0)

set_option maxRecDepth 20000 in
theorem t_X11_flames {d d1' : Nat} {Q : Option MV → MH → Prop} {h : MH} {v1 v2 v3 : Int32} (hr : zRf h) (hd : 2 ≤ d) (hd1' : d1' + 1 ≤ d) (K0 : ¬ (lN 0) ≤ v1.toInt64 → Q (some (.inl (-(nI 2)))) (zsI h 111 0 (nI 0))) (K1 : (lN 0) ≤ v1.toInt64 → ¬ v1.toInt64 ≤ (3 : Int64) → Q (some (.inl (-(nI 2)))) (zsI h 111 0 (nI 0))) (K2 : (lN 0) ≤ v1.toInt64 → v1.toInt64 ≤ (3 : Int64) → ¬ (lN 0) ≤ v2.toInt64 → Q (some (.inl (-(nI 2)))) (zsI h 111 0 (nI 0))) (K3 : (lN 0) ≤ v1.toInt64 → v1.toInt64 ≤ (3 : Int64) → (lN 0) ≤ v2.toInt64 → ¬ v2.toInt64 ≤ ((((zsI h 111 0 (nI 0)).1 112 0) - (nI 1)).toInt64) → Q (some (.inl (-(nI 2)))) (zsI h 111 0 (nI 0))) (K4 : (lN 0) ≤ v1.toInt64 → v1.toInt64 ≤ (3 : Int64) → (lN 0) ≤ v2.toInt64 → v2.toInt64 ≤ ((((zsI h 111 0 (nI 0)).1 112 0) - (nI 1)).toInt64) → 0 ≤ v3 → Con mX11_runsTo d1' 0 0 [.inr (.inr 111), .inl v1, .inl v3] (zsI h 111 0 (nI 0)) (zrv fun h' => J mX11_flames d 0 0 Q 0 0 36 [some (.inr (.inr 111)), some (.inl v1), some (.inl v2), some (.inl v3)] [] h')) (K5 : (lN 0) ≤ v1.toInt64 → v1.toInt64 ≤ (3 : Int64) → (lN 0) ≤ v2.toInt64 → v2.toInt64 ≤ ((((zsI h 111 0 (nI 0)).1 112 0) - (nI 1)).toInt64) → ¬ 0 ≤ v3 → Q (some (.inl (-(nI 3)))) (zsI h 111 0 (nI 0))) : Con mX11_flames d 0 0 [.inr (.inr 111), .inl v1, .inl v2, .inl v3] h Q := by
  refine Con.intro rfl (Nat.le_of_ble_eq_true rfl) ?_
  show J mX11_flames d 0 0 Q 0 0 0 [some (.inr (.inr 111)), some (.inl v1), some (.inl v2), some (.inl v3)] [] h
  refine bX11_flames_0 (d' := 1) hr (by omega) ?_
  refine t_X11_isPlan (Nat.le_refl _) ?_ ?_ ?_
  · intro p1
    refine bX11_flames_9  (fun _ => ?_) (fun c => absurd c (by decide))
    exact bX11_flames_20  (K0 p1)
  · intro p2 p3
    refine bX11_flames_9  (fun _ => ?_) (fun c => absurd c (by decide))
    exact bX11_flames_20  (K1 p2 p3)
  · intro p4 p5
    refine bX11_flames_9  (fun c => absurd c (by decide)) (fun _ => ?_)
    refine bX11_flames_12 (d' := 1) hr (by omega) ?_
    refine t_X11_isCandle hr (Nat.le_refl _) ?_ ?_ ?_
    · intro p6
      refine bX11_flames_17  (fun c => absurd c (by decide)) (fun _ => ?_)
      exact bX11_flames_20  (K2 p4 p5 p6)
    · intro p7 p8
      refine bX11_flames_17  (fun c => absurd c (by decide)) (fun _ => ?_)
      exact bX11_flames_20  (K3 p4 p5 p7 p8)
    · intro p9 p10
      refine bX11_flames_17  (fun _ => ?_) (fun c => absurd c (by decide))
      refine bX11_flames_23  (fun p11 => ?_) (fun p11 => ?_)
      · exact bX11_flames_30 hr hd1' (K4 p4 p5 p9 p10 p11)
      · exact bX11_flames_27  (K5 p4 p5 p9 p10 p11)

set_option maxRecDepth 20000 in
theorem t_X11_flames_36 {d  : Nat} {Q : Option MV → MH → Prop} {h : MH} {v1 v2 v3 : Int32} (hr : zRf h) (G0 : vp_in v2 8) (K0 : Q (some (.inl (h.1 118 v2.toNatClampNeg))) h) : J mX11_flames d 0 0 Q 0 0 36 [some (.inr (.inr 111)), some (.inl v1), some (.inl v2), some (.inl v3)] [] h := by
  exact bX11_flames_36 hr (G0) (K0)

set_option maxRecDepth 20000 in
theorem t_X11_idle {d d1' : Nat} {Q : Option MV → MH → Prop} {h : MH} {v1 : Int32} (hr : zRf h) (hd : 2 ≤ d) (hd1' : d1' + 1 ≤ d) (K0 : ¬ (lN 0) ≤ v1.toInt64 → Q (some (.inl (-(nI 2)))) (zsI h 111 0 (nI 0))) (K1 : (lN 0) ≤ v1.toInt64 → ¬ v1.toInt64 ≤ (3 : Int64) → Q (some (.inl (-(nI 2)))) (zsI h 111 0 (nI 0))) (K2 : (lN 0) ≤ v1.toInt64 → v1.toInt64 ≤ (3 : Int64) → Con mX11_asTold d1' 0 0 [.inr (.inr 111)] (zsI h 111 0 (nI 0)) (zrv fun h' => J mX11_idle d 0 0 Q 0 0 19 [some (.inr (.inr 111)), some (.inl v1)] [] h')) : Con mX11_idle d 0 0 [.inr (.inr 111), .inl v1] h Q := by
  refine Con.intro rfl (Nat.le_of_ble_eq_true rfl) ?_
  show J mX11_idle d 0 0 Q 0 0 0 [some (.inr (.inr 111)), some (.inl v1)] [] h
  refine bX11_idle_0 (d' := 1) hr (by omega) ?_
  refine t_X11_isPlan (Nat.le_refl _) ?_ ?_ ?_
  · intro p1
    refine bX11_idle_9  (fun c => absurd c (by decide)) (fun _ => ?_)
    exact bX11_idle_12  (K0 p1)
  · intro p2 p3
    refine bX11_idle_9  (fun c => absurd c (by decide)) (fun _ => ?_)
    exact bX11_idle_12  (K1 p2 p3)
  · intro p4 p5
    refine bX11_idle_9  (fun _ => ?_) (fun c => absurd c (by decide))
    exact bX11_idle_15 hr hd1' (K2 p4 p5)

set_option maxRecDepth 20000 in
theorem t_X11_idle_19 {d d1' : Nat} {Q : Option MV → MH → Prop} {h : MH} {v1 : Int32} (hr : zRf h) (hd1' : d1' + 1 ≤ d) (K0 : Con mX11_runs d1' 0 0 [.inr (.inr 111), .inl v1, .inl (-(nI 1))] h (zrv fun h' => J mX11_idle d 0 0 Q 0 0 25 [some (.inr (.inr 111)), some (.inl v1)] [] h')) : J mX11_idle d 0 0 Q 0 0 19 [some (.inr (.inr 111)), some (.inl v1)] [] h := by
  exact bX11_idle_19 hr hd1' (K0)

set_option maxRecDepth 20000 in
theorem t_X11_idle_25 {d  : Nat} {Q : Option MV → MH → Prop} {h : MH} {v1 : Int32} (hr : zRf h) (hd : 1 ≤ d) (G0 : zokA h 112 20 ((nI 74) + ((nI 162) * v1))) (K0 : Q (some (.inl (((h.1 111 29) ^^^ (-(nI 1))) &&& (((nI 1) <<< ((h.1 112 ((nI 74) + ((nI 162) * v1)).toNatClampNeg) &&& 31)) - (nI 1))))) h) : J mX11_idle d 0 0 Q 0 0 25 [some (.inr (.inr 111)), some (.inl v1)] [] h := by
  refine bX11_idle_25 (d' := 0) hr (by omega) ?_
  refine t_X11_planAt  ?_
  · exact bX11_idle_42 (G0) (K0)

set_option maxRecDepth 20000 in
theorem t_X11_vain {d d1' : Nat} {Q : Option MV → MH → Prop} {h : MH} {v1 v2 : Int32} (hr : zRf h) (hd : 2 ≤ d) (hd1' : d1' + 1 ≤ d) (K0 : ¬ (lN 0) ≤ v1.toInt64 → Q (some (.inl (-(nI 2)))) (zsI h 111 0 (nI 0))) (K1 : (lN 0) ≤ v1.toInt64 → ¬ v1.toInt64 ≤ (3 : Int64) → Q (some (.inl (-(nI 2)))) (zsI h 111 0 (nI 0))) (K2 : (lN 0) ≤ v1.toInt64 → v1.toInt64 ≤ (3 : Int64) → Con mX11_asTold d1' 0 0 [.inr (.inr 111)] (zsI h 111 0 (nI 0)) (zrv fun h' => J mX11_vain d 0 0 Q 0 0 19 [some (.inr (.inr 111)), some (.inl v1), some (.inl v2), none, none] [] h')) : Con mX11_vain d 0 0 [.inr (.inr 111), .inl v1, .inl v2] h Q := by
  refine Con.intro rfl (Nat.le_of_ble_eq_true rfl) ?_
  show J mX11_vain d 0 0 Q 0 0 0 [some (.inr (.inr 111)), some (.inl v1), some (.inl v2), none, none] [] h
  refine bX11_vain_0 (d' := 1) hr (by omega) ?_
  refine t_X11_isPlan (Nat.le_refl _) ?_ ?_ ?_
  · intro p1
    refine bX11_vain_9  (fun c => absurd c (by decide)) (fun _ => ?_)
    exact bX11_vain_12  (K0 p1)
  · intro p2 p3
    refine bX11_vain_9  (fun c => absurd c (by decide)) (fun _ => ?_)
    exact bX11_vain_12  (K1 p2 p3)
  · intro p4 p5
    refine bX11_vain_9  (fun _ => ?_) (fun c => absurd c (by decide))
    exact bX11_vain_15 hr hd1' (K2 p4 p5)

set_option maxRecDepth 20000 in
theorem t_X11_vain_19 {d d1' : Nat} {Q : Option MV → MH → Prop} {h : MH} {v1 v2 : Int32} (hr : zRf h) (hd1' : d1' + 1 ≤ d) (K0 : Con mX11_runs d1' 0 0 [.inr (.inr 111), .inl v1, .inl (-(nI 1))] h (zrv fun h' => J mX11_vain d 0 0 Q 0 0 25 [some (.inr (.inr 111)), some (.inl v1), some (.inl v2), none, none] [] h')) : J mX11_vain d 0 0 Q 0 0 19 [some (.inr (.inr 111)), some (.inl v1), some (.inl v2), none, none] [] h := by
  exact bX11_vain_19 hr hd1' (K0)

set_option maxRecDepth 20000 in
theorem t_X11_vain_25 {d  : Nat} {Q : Option MV → MH → Prop} {h : MH} {v1 v2 : Int32} (K0 : J mX11_vain d 0 0 Q 0 0 30 [some (.inr (.inr 111)), some (.inl v1), some (.inl v2), some (.inl (nI 0)), some (.inl (nI 0))] [] h) : J mX11_vain d 0 0 Q 0 0 25 [some (.inr (.inr 111)), some (.inl v1), some (.inl v2), none, none] [] h := by
  refine bX11_vain_25  ?_
  exact K0

set_option maxRecDepth 20000 in
theorem t_X11_vain_30 {d  : Nat} {Q : Option MV → MH → Prop} {h : MH} {v1 v2 v3 v4 : Int32} (hr : zRf h) (hd : 1 ≤ d) (G0 : zokA h 112 20 ((nI 75) + ((nI 162) * v1))) (G1 : ¬ (h.1 112 ((nI 75) + ((nI 162) * v1)).toNatClampNeg) ≤ v4 → vp_in v4 40) (K0 : (h.1 112 ((nI 75) + ((nI 162) * v1)).toNatClampNeg) ≤ v4 → Q (some (.inl (-(nI 1)))) h) (K1 : ¬ (h.1 112 ((nI 75) + ((nI 162) * v1)).toNatClampNeg) ≤ v4 → ¬ (h.1 125 v4.toNatClampNeg) = 0 → ¬ v3 = v2 → J mX11_vain d 0 0 Q 0 0 30 [some (.inr (.inr 111)), some (.inl v1), some (.inl v2), some (.inl (v3 + nI 1)), some (.inl (v4 + nI 1))] [] h) (K2 : ¬ (h.1 112 ((nI 75) + ((nI 162) * v1)).toNatClampNeg) ≤ v4 → ¬ (h.1 125 v4.toNatClampNeg) = 0 → v3 = v2 → Q (some (.inl v4)) h) (K3 : ¬ (h.1 112 ((nI 75) + ((nI 162) * v1)).toNatClampNeg) ≤ v4 → (h.1 125 v4.toNatClampNeg) = 0 → J mX11_vain d 0 0 Q 0 0 30 [some (.inr (.inr 111)), some (.inl v1), some (.inl v2), some (.inl v3), some (.inl (v4 + nI 1))] [] h) : J mX11_vain d 0 0 Q 0 0 30 [some (.inr (.inr 111)), some (.inl v1), some (.inl v2), some (.inl v3), some (.inl v4)] [] h := by
  refine bX11_vain_30 (d' := 0) hr (by omega) ?_
  refine t_X11_planAt  ?_
  · refine bX11_vain_42 (G0) (fun p1 => ?_) (fun p1 => ?_)
    · exact bX11_vain_77  (K0 p1)
    · refine bX11_vain_47 hr (G1 p1) (fun p2 => ?_) (fun p2 => ?_)
      · refine bX11_vain_60  (fun p3 => ?_) (fun p3 => ?_)
        · refine bX11_vain_68  ?_
          refine bX11_vain_71  ?_
          exact K1 p1 p2 p3
        · exact bX11_vain_65  (K2 p1 p2 p3)
      · refine bX11_vain_57  ?_
        refine bX11_vain_71  ?_
        exact K3 p1 p2

set_option maxRecDepth 20000 in
theorem t_X11_isSpare {d d1' : Nat} {Q : Option MV → MH → Prop} {h : MH} {v1 v2 : Int32} (hr : zRf h) (hd1' : d1' + 1 ≤ d) (K0 : Con mX11_asTold d1' 0 0 [.inr (.inr 111)] (zsI h 111 28 v2) (zrv fun h' => J mX11_isSpare d 0 0 Q 0 0 9 [some (.inr (.inr 111)), some (.inl v1), some (.inl v2), none] [] h')) : Con mX11_isSpare d 0 0 [.inr (.inr 111), .inl v1, .inl v2] h Q := by
  refine Con.intro rfl (Nat.le_of_ble_eq_true rfl) ?_
  show J mX11_isSpare d 0 0 Q 0 0 0 [some (.inr (.inr 111)), some (.inl v1), some (.inl v2), none] [] h
  exact bX11_isSpare_0 hr hd1' (K0)

set_option maxRecDepth 20000 in
theorem t_X11_isSpare_9 {d d1' : Nat} {Q : Option MV → MH → Prop} {h : MH} {v1 v2 : Int32} (hr : zRf h) (hd1' : d1' + 1 ≤ d) (K0 : Con mX11_runs d1' 0 0 [.inr (.inr 111), .inl v1, .inl (-(nI 1))] h (zrv fun h' => J mX11_isSpare d 0 0 Q 0 0 15 [some (.inr (.inr 111)), some (.inl v1), some (.inl v2), none] [] h')) : J mX11_isSpare d 0 0 Q 0 0 9 [some (.inr (.inr 111)), some (.inl v1), some (.inl v2), none] [] h := by
  exact bX11_isSpare_9 hr hd1' (K0)

set_option maxRecDepth 20000 in
theorem t_X11_isSpare_15 {d  : Nat} {Q : Option MV → MH → Prop} {h : MH} {v1 v2 : Int32} (hr : zRf h) (K0 : ((zsI h 111 28 (-(nI 1))).1 111 25) = ((zsI h 111 28 (-(nI 1))).1 111 32) → J mX11_isSpare d 0 0 Q 0 0 35 [some (.inr (.inr 111)), some (.inl v1), some (.inl v2), some (.inl (nI 0))] [] (zsI h 111 28 (-(nI 1)))) (K1 : ¬ ((zsI h 111 28 (-(nI 1))).1 111 25) = ((zsI h 111 28 (-(nI 1))).1 111 32) → Q (some (.inl (nI 0))) (zsI h 111 28 (-(nI 1)))) : J mX11_isSpare d 0 0 Q 0 0 15 [some (.inr (.inr 111)), some (.inl v1), some (.inl v2), none] [] h := by
  refine bX11_isSpare_15 hr (fun p1 => ?_) (fun p1 => ?_)
  · refine bX11_isSpare_33  ?_
    exact K0 p1
  · exact bX11_isSpare_31  (K1 p1)

set_option maxRecDepth 20000 in
theorem t_X11_isSpare_35 {d  : Nat} {Q : Option MV → MH → Prop} {h : MH} {v1 v2 v3 : Int32} (hr : zRf h) (G0 : ¬ (h.1 111 25) ≤ v3 → vp_in v3 40) (K0 : (h.1 111 25) ≤ v3 → Q (some (.inl (nI 1))) h) (K1 : ¬ (h.1 111 25) ≤ v3 → ((h.1 124 v3.toNatClampNeg) / (nI 256)) = (h.1 126 v3.toNatClampNeg) → J mX11_isSpare d 0 0 Q 0 0 35 [some (.inr (.inr 111)), some (.inl v1), some (.inl v2), some (.inl (v3 + nI 1))] [] h) (K2 : ¬ (h.1 111 25) ≤ v3 → ¬ ((h.1 124 v3.toNatClampNeg) / (nI 256)) = (h.1 126 v3.toNatClampNeg) → Q (some (.inl (nI 0))) h) : J mX11_isSpare d 0 0 Q 0 0 35 [some (.inr (.inr 111)), some (.inl v1), some (.inl v2), some (.inl v3)] [] h := by
  refine bX11_isSpare_35 hr (fun p1 => ?_) (fun p1 => ?_)
  · exact bX11_isSpare_70  (K0 p1)
  · refine bX11_isSpare_43 hr (G0 p1) (fun p2 => ?_) (fun p2 => ?_)
    · refine bX11_isSpare_64  ?_
      exact K1 p1 p2
    · exact bX11_isSpare_62  (K2 p1 p2)

set_option maxRecDepth 20000 in
theorem t_X11_spare {d d1' : Nat} {Q : Option MV → MH → Prop} {h : MH} {v1 v2 : Int32} (hr : zRf h) (hd : 2 ≤ d) (hd1' : d1' + 1 ≤ d) (K0 : ¬ (lN 0) ≤ v1.toInt64 → Q (some (.inl (-(nI 2)))) (zsI h 111 0 (nI 0))) (K1 : (lN 0) ≤ v1.toInt64 → ¬ v1.toInt64 ≤ (3 : Int64) → Q (some (.inl (-(nI 2)))) (zsI h 111 0 (nI 0))) (K2 : (lN 0) ≤ v1.toInt64 → v1.toInt64 ≤ (3 : Int64) → Con mX11_hears d1' 0 0 [.inr (.inr 111), .inl v1] (zsI h 111 0 (nI 0)) (zrv fun h' => J mX11_spare d 0 0 Q 0 0 20 [some (.inr (.inr 111)), some (.inl v1), some (.inl v2), none, none] [] h')) : Con mX11_spare d 0 0 [.inr (.inr 111), .inl v1, .inl v2] h Q := by
  refine Con.intro rfl (Nat.le_of_ble_eq_true rfl) ?_
  show J mX11_spare d 0 0 Q 0 0 0 [some (.inr (.inr 111)), some (.inl v1), some (.inl v2), none, none] [] h
  refine bX11_spare_0 (d' := 1) hr (by omega) ?_
  refine t_X11_isPlan (Nat.le_refl _) ?_ ?_ ?_
  · intro p1
    refine bX11_spare_9  (fun c => absurd c (by decide)) (fun _ => ?_)
    exact bX11_spare_12  (K0 p1)
  · intro p2 p3
    refine bX11_spare_9  (fun c => absurd c (by decide)) (fun _ => ?_)
    exact bX11_spare_12  (K1 p2 p3)
  · intro p4 p5
    refine bX11_spare_9  (fun _ => ?_) (fun c => absurd c (by decide))
    exact bX11_spare_15 hr hd1' (K2 p4 p5)

set_option maxRecDepth 20000 in
theorem t_X11_spare_20 {d  : Nat} {Q : Option MV → MH → Prop} {h : MH} {v1 v2 : Int32} (K0 : J mX11_spare d 0 0 Q 0 0 25 [some (.inr (.inr 111)), some (.inl v1), some (.inl v2), some (.inl (nI 0)), some (.inl (nI 0))] [] h) : J mX11_spare d 0 0 Q 0 0 20 [some (.inr (.inr 111)), some (.inl v1), some (.inl v2), none, none] [] h := by
  refine bX11_spare_20  ?_
  exact K0

set_option maxRecDepth 20000 in
theorem t_X11_spare_25 {d d1' : Nat} {Q : Option MV → MH → Prop} {h : MH} {v1 v2 v3 v4 : Int32} (hr : zRf h) (hd : 1 ≤ d) (hd1' : d1' + 1 ≤ d) (G0 : zokA h 112 20 ((nI 75) + ((nI 162) * v1))) (K0 : (h.1 112 ((nI 75) + ((nI 162) * v1)).toNatClampNeg) ≤ v4 → Q (some (.inl (-(nI 1)))) h) (K1 : ¬ (h.1 112 ((nI 75) + ((nI 162) * v1)).toNatClampNeg) ≤ v4 → Con mX11_isSpare d1' 0 0 [.inr (.inr 111), .inl v1, .inl v4] h (zri fun (x : Int32) h' => J mX11_spare d 0 0 Q 0 0 49 [some (.inr (.inr 111)), some (.inl v1), some (.inl v2), some (.inl v3), some (.inl v4)] [.inl x] h')) : J mX11_spare d 0 0 Q 0 0 25 [some (.inr (.inr 111)), some (.inl v1), some (.inl v2), some (.inl v3), some (.inl v4)] [] h := by
  refine bX11_spare_25 (d' := 0) hr (by omega) ?_
  refine t_X11_planAt  ?_
  · refine bX11_spare_37 (G0) (fun p1 => ?_) (fun p1 => ?_)
    · exact bX11_spare_72  (K0 p1)
    · exact bX11_spare_42 hr hd1' (K1 p1)

set_option maxRecDepth 20000 in
theorem t_X11_spare_49 {d  : Nat} {Q : Option MV → MH → Prop} {h : MH} {v1 v2 v3 v4 vs0 : Int32} (K0 : ¬ vs0 = 0 → ¬ v3 = v2 → J mX11_spare d 0 0 Q 0 0 25 [some (.inr (.inr 111)), some (.inl v1), some (.inl v2), some (.inl (v3 + nI 1)), some (.inl (v4 + nI 1))] [] h) (K1 : ¬ vs0 = 0 → v3 = v2 → Q (some (.inl v4)) h) (K2 : vs0 = 0 → J mX11_spare d 0 0 Q 0 0 25 [some (.inr (.inr 111)), some (.inl v1), some (.inl v2), some (.inl v3), some (.inl (v4 + nI 1))] [] h) : J mX11_spare d 0 0 Q 0 0 49 [some (.inr (.inr 111)), some (.inl v1), some (.inl v2), some (.inl v3), some (.inl v4)] [.inl vs0] h := by
  refine bX11_spare_49  (fun p1 => ?_) (fun p1 => ?_)
  · refine bX11_spare_55  (fun p2 => ?_) (fun p2 => ?_)
    · refine bX11_spare_63  ?_
      refine bX11_spare_66  ?_
      exact K0 p1 p2
    · exact bX11_spare_60  (K1 p1 p2)
  · refine bX11_spare_52  ?_
    refine bX11_spare_66  ?_
    exact K2 p1

set_option maxRecDepth 20000 in
theorem t_X11_would {d d1' : Nat} {Q : Option MV → MH → Prop} {h : MH} {v1 v2 v3 v4 : Int32} (hr : zRf h) (hd : 2 ≤ d) (hd1' : d1' + 1 ≤ d) (K0 : ¬ (lN 0) ≤ v1.toInt64 → Q (some (.inl (-(nI 2)))) (zsI h 111 0 (nI 0))) (K1 : (lN 0) ≤ v1.toInt64 → ¬ v1.toInt64 ≤ (3 : Int64) → Q (some (.inl (-(nI 2)))) (zsI h 111 0 (nI 0))) (K2 : (lN 0) ≤ v1.toInt64 → v1.toInt64 ≤ (3 : Int64) → ¬ (lN 0) ≤ v3.toInt64 → Q (some (.inl (-(nI 2)))) (zsI h 111 0 (nI 0))) (K3 : (lN 0) ≤ v1.toInt64 → v1.toInt64 ≤ (3 : Int64) → (lN 0) ≤ v3.toInt64 → ¬ v3.toInt64 ≤ ((((zsI h 111 0 (nI 0)).1 112 0) - (nI 1)).toInt64) → Q (some (.inl (-(nI 2)))) (zsI h 111 0 (nI 0))) (K4 : (lN 0) ≤ v1.toInt64 → v1.toInt64 ≤ (3 : Int64) → (lN 0) ≤ v3.toInt64 → v3.toInt64 ≤ ((((zsI h 111 0 (nI 0)).1 112 0) - (nI 1)).toInt64) → Con mX11_restOf d1' 0 0 [.inr (.inr 111), .inl v3] (zsI h 111 0 (nI 0)) (zri fun (x : Int32) h' => J mX11_would d 0 0 Q 0 0 28 [some (.inr (.inr 111)), some (.inl v1), some (.inl v2), some (.inl v3), some (.inl v4)] [.inl x] h')) : Con mX11_would d 0 0 [.inr (.inr 111), .inl v1, .inl v2, .inl v3, .inl v4] h Q := by
  refine Con.intro rfl (Nat.le_of_ble_eq_true rfl) ?_
  show J mX11_would d 0 0 Q 0 0 0 [some (.inr (.inr 111)), some (.inl v1), some (.inl v2), some (.inl v3), some (.inl v4)] [] h
  refine bX11_would_0 (d' := 1) hr (by omega) ?_
  refine t_X11_isPlan (Nat.le_refl _) ?_ ?_ ?_
  · intro p1
    refine bX11_would_9  (fun _ => ?_) (fun c => absurd c (by decide))
    exact bX11_would_20  (K0 p1)
  · intro p2 p3
    refine bX11_would_9  (fun _ => ?_) (fun c => absurd c (by decide))
    exact bX11_would_20  (K1 p2 p3)
  · intro p4 p5
    refine bX11_would_9  (fun c => absurd c (by decide)) (fun _ => ?_)
    refine bX11_would_12 (d' := 1) hr (by omega) ?_
    refine t_X11_isCandle hr (Nat.le_refl _) ?_ ?_ ?_
    · intro p6
      refine bX11_would_17  (fun c => absurd c (by decide)) (fun _ => ?_)
      exact bX11_would_20  (K2 p4 p5 p6)
    · intro p7 p8
      refine bX11_would_17  (fun c => absurd c (by decide)) (fun _ => ?_)
      exact bX11_would_20  (K3 p4 p5 p7 p8)
    · intro p9 p10
      refine bX11_would_17  (fun _ => ?_) (fun c => absurd c (by decide))
      exact bX11_would_23 hr hd1' (K4 p4 p5 p9 p10)

set_option maxRecDepth 20000 in
theorem t_X11_would_28 {d d1' : Nat} {Q : Option MV → MH → Prop} {h : MH} {v1 v2 v3 v4 vs0 : Int32} (hr : zRf h) (hd : 1 ≤ d) (hd1' : d1' + 1 ≤ d) (K0 : ¬ (lN 1) ≤ (vs0.toInt64 + v4.toInt64) → Q (some (.inl (-(nI 3)))) h) (K1 : (lN 1) ≤ (vs0.toInt64 + v4.toInt64) → ¬ (vs0.toInt64 + v4.toInt64) ≤ (200000 : Int64) → Q (some (.inl (-(nI 3)))) h) (K2 : (lN 1) ≤ (vs0.toInt64 + v4.toInt64) → (vs0.toInt64 + v4.toInt64) ≤ (200000 : Int64) → Con mX11_asTold d1' 0 0 [.inr (.inr 111)] h (zrv fun h' => J mX11_would d 0 0 Q 0 0 50 [some (.inr (.inr 111)), some (.inl v1), some (.inl v2), some (.inl v3), some (.inl v4)] [] h')) : J mX11_would d 0 0 Q 0 0 28 [some (.inr (.inr 111)), some (.inl v1), some (.inl v2), some (.inl v3), some (.inl v4)] [.inl vs0] h := by
  refine bX11_would_28 (d' := 0)  (by omega) ?_
  refine t_X11_within  ?_ ?_ ?_
  · intro p1
    refine bX11_would_40  (fun c => absurd c (by decide)) (fun _ => ?_)
    exact bX11_would_43  (K0 p1)
  · intro p2 p3
    refine bX11_would_40  (fun c => absurd c (by decide)) (fun _ => ?_)
    exact bX11_would_43  (K1 p2 p3)
  · intro p4 p5
    refine bX11_would_40  (fun _ => ?_) (fun c => absurd c (by decide))
    exact bX11_would_46 hr hd1' (K2 p4 p5)

set_option maxRecDepth 20000 in
theorem t_X11_would_50 {d d1' : Nat} {Q : Option MV → MH → Prop} {h : MH} {v1 v2 v3 v4 : Int32} (hr : zRf h) (hd1' : d1' + 1 ≤ d) (G0 : vp_in v3 8) (K0 : Con mX11_runs d1' 0 0 [.inr (.inr 111), .inl v1, .inl (-(nI 1))] (zsI h 116 v3.toNatClampNeg ((h.1 116 v3.toNatClampNeg) + (v4 * (nI 256)))) (zrv fun h' => J mX11_would d 0 0 Q 0 0 71 [some (.inr (.inr 111)), some (.inl v1), some (.inl v2), some (.inl v3), some (.inl v4)] [] h')) : J mX11_would d 0 0 Q 0 0 50 [some (.inr (.inr 111)), some (.inl v1), some (.inl v2), some (.inl v3), some (.inl v4)] [] h := by
  exact bX11_would_50 hr (G0) hd1' (K0)

set_option maxRecDepth 20000 in
theorem t_X11_would_71 {d  : Nat} {Q : Option MV → MH → Prop} {h : MH} {v1 v2 v3 v4 : Int32} (hr : zRf h) (hd : 1 ≤ d) (G0 : (lN 0) ≤ v2.toInt64 → v2.toInt64 ≤ (((h.1 111 25) - (nI 1)).toInt64) → vp_in v2 40) (K0 : ¬ (lN 0) ≤ v2.toInt64 → Q (some (.inl (-(nI 1)))) h) (K1 : (lN 0) ≤ v2.toInt64 → ¬ v2.toInt64 ≤ (((h.1 111 25) - (nI 1)).toInt64) → Q (some (.inl (-(nI 1)))) h) (K2 : (lN 0) ≤ v2.toInt64 → v2.toInt64 ≤ (((h.1 111 25) - (nI 1)).toInt64) → Q (some (.inl ((h.1 124 v2.toNatClampNeg) / (nI 256)))) h) : J mX11_would d 0 0 Q 0 0 71 [some (.inr (.inr 111)), some (.inl v1), some (.inl v2), some (.inl v3), some (.inl v4)] [] h := by
  refine bX11_would_71 (d' := 0) hr (by omega) ?_
  refine t_X11_within  ?_ ?_ ?_
  · intro p1
    refine bX11_would_84  (fun _ => ?_) (fun c => absurd c (by decide))
    refine bX11_would_100  ?_
    exact bX11_would_101  (K0 p1)
  · intro p2 p3
    refine bX11_would_84  (fun _ => ?_) (fun c => absurd c (by decide))
    refine bX11_would_100  ?_
    exact bX11_would_101  (K1 p2 p3)
  · intro p4 p5
    refine bX11_would_84  (fun c => absurd c (by decide)) (fun _ => ?_)
    refine bX11_would_87 hr (G0 p4 p5) ?_
    exact bX11_would_101  (K2 p4 p5)

set_option maxRecDepth 20000 in
theorem t_X11_off {d  : Nat} {Q : Option MV → MH → Prop} {h : MH} {v1 v2 v3 : Int32} (hr : zRf h) (hd : 2 ≤ d) (K0 : ¬ (lN 0) ≤ v1.toInt64 → Q (some (.inl (-(nI 2)))) (zsI h 111 0 (nI 0))) (K1 : (lN 0) ≤ v1.toInt64 → ¬ v1.toInt64 ≤ (3 : Int64) → Q (some (.inl (-(nI 2)))) (zsI h 111 0 (nI 0))) (K2 : (lN 0) ≤ v1.toInt64 → v1.toInt64 ≤ (3 : Int64) → ¬ (lN 0) ≤ v3.toInt64 → Q (some (.inl (-(nI 2)))) (zsI h 111 0 (nI 0))) (K3 : (lN 0) ≤ v1.toInt64 → v1.toInt64 ≤ (3 : Int64) → (lN 0) ≤ v3.toInt64 → ¬ v3.toInt64 ≤ (lN 1) → Q (some (.inl (-(nI 2)))) (zsI h 111 0 (nI 0))) (K4 : (lN 0) ≤ v1.toInt64 → v1.toInt64 ≤ (3 : Int64) → (lN 0) ≤ v3.toInt64 → v3.toInt64 ≤ (lN 1) → 0 ≤ v2 → J mX11_off d 0 0 Q 0 0 38 [some (.inr (.inr 111)), some (.inl v1), some (.inl v2), some (.inl v3), some (.inl (nI 1)), some (.inl (nI 0)), none, none, none] [] (zsI h 111 0 (nI 0))) (K5 : (lN 0) ≤ v1.toInt64 → v1.toInt64 ≤ (3 : Int64) → (lN 0) ≤ v3.toInt64 → v3.toInt64 ≤ (lN 1) → ¬ 0 ≤ v2 → Q (some (.inl (-(nI 3)))) (zsI h 111 0 (nI 0))) : Con mX11_off d 0 0 [.inr (.inr 111), .inl v1, .inl v2, .inl v3] h Q := by
  refine Con.intro rfl (Nat.le_of_ble_eq_true rfl) ?_
  show J mX11_off d 0 0 Q 0 0 0 [some (.inr (.inr 111)), some (.inl v1), some (.inl v2), some (.inl v3), none, none, none, none, none] [] h
  refine bX11_off_0 (d' := 1) hr (by omega) ?_
  refine t_X11_isPlan (Nat.le_refl _) ?_ ?_ ?_
  · intro p1
    refine bX11_off_9  (fun _ => ?_) (fun c => absurd c (by decide))
    exact bX11_off_22  (K0 p1)
  · intro p2 p3
    refine bX11_off_9  (fun _ => ?_) (fun c => absurd c (by decide))
    exact bX11_off_22  (K1 p2 p3)
  · intro p4 p5
    refine bX11_off_9  (fun c => absurd c (by decide)) (fun _ => ?_)
    refine bX11_off_12 (d' := 0)  (by omega) ?_
    refine t_X11_within  ?_ ?_ ?_
    · intro p6
      refine bX11_off_19  (fun c => absurd c (by decide)) (fun _ => ?_)
      exact bX11_off_22  (K2 p4 p5 p6)
    · intro p7 p8
      refine bX11_off_19  (fun c => absurd c (by decide)) (fun _ => ?_)
      exact bX11_off_22  (K3 p4 p5 p7 p8)
    · intro p9 p10
      refine bX11_off_19  (fun _ => ?_) (fun c => absurd c (by decide))
      refine bX11_off_25  (fun p11 => ?_) (fun p11 => ?_)
      · refine bX11_off_32  ?_
        exact K4 p4 p5 p9 p10 p11
      · exact bX11_off_29  (K5 p4 p5 p9 p10 p11)

set_option maxRecDepth 20000 in
theorem t_X11_off_38 {d  : Nat} {Q : Option MV → MH → Prop} {h : MH} {v1 v2 v3 v4 v5 : Int32} (hr : zRf h) (K0 : (h.1 112 0) ≤ v5 → J mX11_off d 0 0 Q 0 0 67 [some (.inr (.inr 111)), some (.inl v1), some (.inl v2), some (.inl v3), some (.inl v4), some (.inl (-(nI 1))), some (.inl (nI 0)), none, none] [] h) (K1 : ¬ (h.1 112 0) ≤ v5 → J mX11_off d 0 0 Q 0 0 38 [some (.inr (.inr 111)), some (.inl v1), some (.inl v2), some (.inl v3), some (.inl (v4 * (nI 3))), some (.inl (v5 + nI 1)), none, none, none] [] h) : J mX11_off d 0 0 Q 0 0 38 [some (.inr (.inr 111)), some (.inl v1), some (.inl v2), some (.inl v3), some (.inl v4), some (.inl v5), none, none, none] [] h := by
  refine bX11_off_38 hr (vp_in_nI (by decide) (by decide)) (fun p1 => ?_) (fun p1 => ?_)
  · refine bX11_off_61  ?_
    exact K0 p1
  · refine bX11_off_49  ?_
    exact K1 p1

set_option maxRecDepth 20000 in
theorem t_X11_off_67 {d d1' : Nat} {Q : Option MV → MH → Prop} {h : MH} {u7 u8 : Option MV} {v1 v2 v3 v4 v5 v6 : Int32} (hr : zRf h) (hd1' : d1' + 1 ≤ d) (K0 : v4 ≤ v6 → ¬ v5 = (-(nI 1)) → Q (some (.inl (v5 / (nI 256)))) h) (K1 : v4 ≤ v6 → v5 = (-(nI 1)) → Q (some (.inl (-(nI 1)))) h) (K2 : ¬ v4 ≤ v6 → Con mX11_asTold d1' 0 0 [.inr (.inr 111)] h (zrv fun h' => J mX11_off d 0 0 Q 0 0 78 [some (.inr (.inr 111)), some (.inl v1), some (.inl v2), some (.inl v3), some (.inl v4), some (.inl v5), some (.inl v6), u7, u8] [] h')) : J mX11_off d 0 0 Q 0 0 67 [some (.inr (.inr 111)), some (.inl v1), some (.inl v2), some (.inl v3), some (.inl v4), some (.inl v5), some (.inl v6), u7, u8] [] h := by
  refine bX11_off_67  (fun p1 => ?_) (fun p1 => ?_)
  · refine bX11_off_232  (fun p2 => ?_) (fun p2 => ?_)
    · refine bX11_off_242  ?_
      exact bX11_off_248  (K0 p1 p2)
    · refine bX11_off_238  ?_
      exact bX11_off_248  (K1 p1 p2)
  · exact bX11_off_74 hr hd1' (K2 p1)

set_option maxRecDepth 20000 in
theorem t_X11_off_78 {d  : Nat} {Q : Option MV → MH → Prop} {h : MH} {u7 u8 : Option MV} {v1 v2 v3 v4 v5 v6 : Int32} (K0 : J mX11_off d 0 0 Q 0 0 85 [some (.inr (.inr 111)), some (.inl v1), some (.inl v2), some (.inl v3), some (.inl v4), some (.inl v5), some (.inl v6), some (.inl v6), some (.inl (nI 0))] [] h) : J mX11_off d 0 0 Q 0 0 78 [some (.inr (.inr 111)), some (.inl v1), some (.inl v2), some (.inl v3), some (.inl v4), some (.inl v5), some (.inl v6), u7, u8] [] h := by
  refine bX11_off_78  ?_
  exact K0

set_option maxRecDepth 20000 in
theorem t_X11_off_85 {d d1' d2' : Nat} {Q : Option MV → MH → Prop} {h : MH} {v1 v2 v3 v4 v5 v6 v7 v8 : Int32} (hr : zRf h) (hd1' : d1' + 1 ≤ d) (hd2' : d2' + 1 ≤ d) (K0 : (h.1 112 0) ≤ v8 → Con mX11_runs d1' 0 0 [.inr (.inr 111), .inl v1, .inl (-(nI 1))] h (zrv fun h' => J mX11_off d 0 0 Q 0 0 155 [some (.inr (.inr 111)), some (.inl v1), some (.inl v2), some (.inl v3), some (.inl v4), some (.inl v5), some (.inl v6), some (.inl v7), some (.inl v8)] [] h')) (K1 : ¬ (h.1 112 0) ≤ v8 → Con mX11_restOf d2' 0 0 [.inr (.inr 111), .inl v8] h (zri fun (x : Int32) h' => J mX11_off d 0 0 Q 0 0 108 [some (.inr (.inr 111)), some (.inl v1), some (.inl v2), some (.inl v3), some (.inl v4), some (.inl v5), some (.inl v6), some (.inl v7), some (.inl v8)] [.inl x, .inl v8, .inr (.inr 116)] h')) : J mX11_off d 0 0 Q 0 0 85 [some (.inr (.inr 111)), some (.inl v1), some (.inl v2), some (.inl v3), some (.inl v4), some (.inl v5), some (.inl v6), some (.inl v7), some (.inl v8)] [] h := by
  refine bX11_off_85 hr (vp_in_nI (by decide) (by decide)) (fun p1 => ?_) (fun p1 => ?_)
  · exact bX11_off_149 hr hd1' (K0 p1)
  · exact bX11_off_96 hr hd2' (K1 p1)

set_option maxRecDepth 20000 in
theorem t_X11_off_108 {d  : Nat} {Q : Option MV → MH → Prop} {h : MH} {v1 v2 v3 v4 v5 v6 v7 v8 vs1 vs2 : Int32} {vs0 : Nat} (hr : zRf h) (G0 : vp_in ((nI 65) + v8) 2166) (G1 : zokA h vs0 20 vs1) (K0 : J mX11_off d 0 0 Q 0 0 85 [some (.inr (.inr 111)), some (.inl v1), some (.inl v2), some (.inl v3), some (.inl v4), some (.inl v5), some (.inl v6), some (.inl (v7 / (nI 3))), some (.inl (v8 + nI 1))] [] (zsI h vs0 vs1.toNatClampNeg (((vs2 * ((nI 100) + (((v7 - v7 / (nI 3) * (nI 3)) - (nI 1)) * (h.1 112 ((nI 65) + v8).toNatClampNeg)))) / (nI 100)) * (nI 256)))) : J mX11_off d 0 0 Q 0 0 108 [some (.inr (.inr 111)), some (.inl v1), some (.inl v2), some (.inl v3), some (.inl v4), some (.inl v5), some (.inl v6), some (.inl v7), some (.inl v8)] [.inl vs2, .inl vs1, .inr (.inr vs0)] h := by
  refine bX11_off_108 hr (G0) (G1) ?_
  exact K0

set_option maxRecDepth 20000 in
theorem t_X11_off_155 {d  : Nat} {Q : Option MV → MH → Prop} {h : MH} {v1 v2 v3 v4 v5 v6 v7 v8 : Int32} (hr : zRf h) (G0 : v2 < (h.1 111 25) → v5 = (-(nI 1)) → vp_in v2 40) (G1 : v2 < (h.1 111 25) → ¬ v5 = (-(nI 1)) → ¬ v3 = 0 → vp_in v2 40) (G2 : v2 < (h.1 111 25) → ¬ v5 = (-(nI 1)) → v3 = 0 → vp_in v2 40) (K0 : v2 < (h.1 111 25) → v5 = (-(nI 1)) → J mX11_off d 0 0 Q 0 0 67 [some (.inr (.inr 111)), some (.inl v1), some (.inl v2), some (.inl v3), some (.inl v4), some (.inl (h.1 124 v2.toNatClampNeg)), some (.inl (v6 + nI 1)), some (.inl v7), some (.inl (nI 1))] [] h) (K1 : v2 < (h.1 111 25) → ¬ v5 = (-(nI 1)) → ¬ v3 = 0 → (h.1 124 v2.toNatClampNeg) ≤ v5 → J mX11_off d 0 0 Q 0 0 67 [some (.inr (.inr 111)), some (.inl v1), some (.inl v2), some (.inl v3), some (.inl v4), some (.inl v5), some (.inl (v6 + nI 1)), some (.inl v7), some (.inl (nI 0))] [] h) (K2 : v2 < (h.1 111 25) → ¬ v5 = (-(nI 1)) → ¬ v3 = 0 → ¬ (h.1 124 v2.toNatClampNeg) ≤ v5 → J mX11_off d 0 0 Q 0 0 67 [some (.inr (.inr 111)), some (.inl v1), some (.inl v2), some (.inl v3), some (.inl v4), some (.inl (h.1 124 v2.toNatClampNeg)), some (.inl (v6 + nI 1)), some (.inl v7), some (.inl (nI 1))] [] h) (K3 : v2 < (h.1 111 25) → ¬ v5 = (-(nI 1)) → v3 = 0 → v5 ≤ (h.1 124 v2.toNatClampNeg) → J mX11_off d 0 0 Q 0 0 67 [some (.inr (.inr 111)), some (.inl v1), some (.inl v2), some (.inl v3), some (.inl v4), some (.inl v5), some (.inl (v6 + nI 1)), some (.inl v7), some (.inl (nI 0))] [] h) (K4 : v2 < (h.1 111 25) → ¬ v5 = (-(nI 1)) → v3 = 0 → ¬ v5 ≤ (h.1 124 v2.toNatClampNeg) → J mX11_off d 0 0 Q 0 0 67 [some (.inr (.inr 111)), some (.inl v1), some (.inl v2), some (.inl v3), some (.inl v4), some (.inl (h.1 124 v2.toNatClampNeg)), some (.inl (v6 + nI 1)), some (.inl v7), some (.inl (nI 1))] [] h) (K5 : ¬ v2 < (h.1 111 25) → J mX11_off d 0 0 Q 0 0 67 [some (.inr (.inr 111)), some (.inl v1), some (.inl v2), some (.inl v3), some (.inl v4), some (.inl v5), some (.inl (v6 + nI 1)), some (.inl v7), some (.inl v8)] [] h) : J mX11_off d 0 0 Q 0 0 155 [some (.inr (.inr 111)), some (.inl v1), some (.inl v2), some (.inl v3), some (.inl v4), some (.inl v5), some (.inl v6), some (.inl v7), some (.inl v8)] [] h := by
  refine bX11_off_155 hr (fun p1 => ?_) (fun p1 => ?_)
  · refine bX11_off_166  (fun p2 => ?_) (fun p2 => ?_)
    · refine bX11_off_201  ?_
      refine bX11_off_206  (fun c => absurd c (by decide)) (fun _ => ?_)
      refine bX11_off_213 hr (G0 p1 p2) ?_
      refine bX11_off_224  ?_
      refine bX11_off_226  ?_
      exact K0 p1 p2
    · refine bX11_off_172  (fun p3 => ?_) (fun p3 => ?_)
      · refine bX11_off_190 hr (G1 p1 p2 p3) (fun p4 => ?_) (fun p4 => ?_)
        · refine bX11_off_205  ?_
          refine bX11_off_206  (fun _ => ?_) (fun c => absurd c (by decide))
          refine bX11_off_222  ?_
          refine bX11_off_224  ?_
          refine bX11_off_226  ?_
          exact K1 p1 p2 p3 p4
        · refine bX11_off_201  ?_
          refine bX11_off_206  (fun c => absurd c (by decide)) (fun _ => ?_)
          refine bX11_off_213 hr (G1 p1 p2 p3) ?_
          refine bX11_off_224  ?_
          refine bX11_off_226  ?_
          exact K2 p1 p2 p3 p4
      · refine bX11_off_176 hr (G2 p1 p2 p3) (fun p5 => ?_) (fun p5 => ?_)
        · refine bX11_off_205  ?_
          refine bX11_off_206  (fun _ => ?_) (fun c => absurd c (by decide))
          refine bX11_off_222  ?_
          refine bX11_off_224  ?_
          refine bX11_off_226  ?_
          exact K3 p1 p2 p3 p5
        · refine bX11_off_187  ?_
          refine bX11_off_201  ?_
          refine bX11_off_206  (fun c => absurd c (by decide)) (fun _ => ?_)
          refine bX11_off_213 hr (G2 p1 p2 p3) ?_
          refine bX11_off_224  ?_
          refine bX11_off_226  ?_
          exact K4 p1 p2 p3 p5
  · refine bX11_off_163  ?_
    refine bX11_off_226  ?_
    exact K5 p1

set_option maxRecDepth 20000 in
theorem t_X11_night {d d1' : Nat} {Q : Option MV → MH → Prop} {h : MH} {v1 v2 v3 : Int32} (hr : zRf h) (hd : 2 ≤ d) (hd1' : d1' + 1 ≤ d) (K0 : ¬ (lN 0) ≤ v1.toInt64 → Q (some (.inl (-(nI 2)))) (zsI h 111 0 (nI 0))) (K1 : (lN 0) ≤ v1.toInt64 → ¬ v1.toInt64 ≤ (3 : Int64) → Q (some (.inl (-(nI 2)))) (zsI h 111 0 (nI 0))) (K2 : (lN 0) ≤ v1.toInt64 → v1.toInt64 ≤ (3 : Int64) → Con mX11_asTold d1' 0 0 [.inr (.inr 111)] (zsI h 111 0 (nI 0)) (zrv fun h' => J mX11_night d 0 0 Q 0 0 19 [some (.inr (.inr 111)), some (.inl v1), some (.inl v2), some (.inl v3), none, none, none] [] h')) : Con mX11_night d 0 0 [.inr (.inr 111), .inl v1, .inl v2, .inl v3] h Q := by
  refine Con.intro rfl (Nat.le_of_ble_eq_true rfl) ?_
  show J mX11_night d 0 0 Q 0 0 0 [some (.inr (.inr 111)), some (.inl v1), some (.inl v2), some (.inl v3), none, none, none] [] h
  refine bX11_night_0 (d' := 1) hr (by omega) ?_
  refine t_X11_isPlan (Nat.le_refl _) ?_ ?_ ?_
  · intro p1
    refine bX11_night_9  (fun c => absurd c (by decide)) (fun _ => ?_)
    exact bX11_night_12  (K0 p1)
  · intro p2 p3
    refine bX11_night_9  (fun c => absurd c (by decide)) (fun _ => ?_)
    exact bX11_night_12  (K1 p2 p3)
  · intro p4 p5
    refine bX11_night_9  (fun _ => ?_) (fun c => absurd c (by decide))
    exact bX11_night_15 hr hd1' (K2 p4 p5)

set_option maxRecDepth 20000 in
theorem t_X11_night_19 {d  : Nat} {Q : Option MV → MH → Prop} {h : MH} {v1 v2 v3 : Int32} (K0 : J mX11_night d 0 0 Q 0 0 25 [some (.inr (.inr 111)), some (.inl v1), some (.inl v2), some (.inl v3), some (.inl v2), some (.inl (nI 0)), none] [] h) : J mX11_night d 0 0 Q 0 0 19 [some (.inr (.inr 111)), some (.inl v1), some (.inl v2), some (.inl v3), none, none, none] [] h := by
  refine bX11_night_19  ?_
  exact K0

set_option maxRecDepth 20000 in
theorem t_X11_night_25 {d d1' d2' : Nat} {Q : Option MV → MH → Prop} {h : MH} {u6 : Option MV} {v1 v2 v3 v4 v5 : Int32} (hr : zRf h) (hd1' : d1' + 1 ≤ d) (hd2' : d2' + 1 ≤ d) (G0 : ¬ (h.1 112 0) ≤ v5 → vp_in ((nI 65) + v5) 2166) (K0 : (h.1 112 0) ≤ v5 → Con mX11_runs d1' 0 0 [.inr (.inr 111), .inl v1, .inl (-(nI 1))] h (zrv fun h' => J mX11_night d 0 0 Q 0 0 111 [some (.inr (.inr 111)), some (.inl v1), some (.inl v2), some (.inl v3), some (.inl v4), some (.inl v5), u6] [] h')) (K1 : ¬ (h.1 112 0) ≤ v5 → Con mX11_restOf d2' 0 0 [.inr (.inr 111), .inl v5] h (zri fun (x : Int32) h' => J mX11_night d 0 0 Q 0 0 72 [some (.inr (.inr 111)), some (.inl v1), some (.inl v2), some (.inl v3), some (.inl (((1103515245 : Int32) * v4) + (nI 12345))), some (.inl v5), some (.inl (h.1 112 ((nI 65) + v5).toNatClampNeg))] [.inl x, .inl v5, .inr (.inr 116)] h')) : J mX11_night d 0 0 Q 0 0 25 [some (.inr (.inr 111)), some (.inl v1), some (.inl v2), some (.inl v3), some (.inl v4), some (.inl v5), u6] [] h := by
  refine bX11_night_25 hr (vp_in_nI (by decide) (by decide)) (fun p1 => ?_) (fun p1 => ?_)
  · exact bX11_night_105 hr hd1' (K0 p1)
  · exact bX11_night_36 hr (G0 p1) hd2' (K1 p1)

set_option maxRecDepth 20000 in
theorem t_X11_night_72 {d  : Nat} {Q : Option MV → MH → Prop} {h : MH} {v1 v2 v3 v4 v5 v6 vs1 vs2 : Int32} {vs0 : Nat} (G0 : ¬ (((nI 2) * v6) + (nI 1)) = 0) (G1 : zokA h vs0 20 vs1) (K0 : J mX11_night d 0 0 Q 0 0 25 [some (.inr (.inr 111)), some (.inl v1), some (.inl v2), some (.inl v3), some (.inl v4), some (.inl (v5 + nI 1)), some (.inl v6)] [] (zsI h vs0 vs1.toNatClampNeg (((vs2 * (((nI 100) + (((v4.toUInt32 >>> ((nI 16).toUInt32 &&& Int32.toUInt32 31)).toInt32) - ((v4.toUInt32 >>> ((nI 16).toUInt32 &&& Int32.toUInt32 31)).toInt32) / (((nI 2) * v6) + (nI 1)) * (((nI 2) * v6) + (nI 1)))) - v6)) / (nI 100)) * (nI 256)))) : J mX11_night d 0 0 Q 0 0 72 [some (.inr (.inr 111)), some (.inl v1), some (.inl v2), some (.inl v3), some (.inl v4), some (.inl v5), some (.inl v6)] [.inl vs2, .inl vs1, .inr (.inr vs0)] h := by
  refine bX11_night_72 (G0) (G1) ?_
  exact K0

set_option maxRecDepth 20000 in
theorem t_X11_night_111 {d  : Nat} {Q : Option MV → MH → Prop} {h : MH} {u6 : Option MV} {v1 v2 v3 v4 v5 : Int32} (hr : zRf h) (hd : 1 ≤ d) (G0 : (lN 0) ≤ v3.toInt64 → v3.toInt64 ≤ (((h.1 111 25) - (nI 1)).toInt64) → vp_in v3 40) (K0 : ¬ (lN 0) ≤ v3.toInt64 → Q (some (.inl (-(nI 1)))) h) (K1 : (lN 0) ≤ v3.toInt64 → ¬ v3.toInt64 ≤ (((h.1 111 25) - (nI 1)).toInt64) → Q (some (.inl (-(nI 1)))) h) (K2 : (lN 0) ≤ v3.toInt64 → v3.toInt64 ≤ (((h.1 111 25) - (nI 1)).toInt64) → Q (some (.inl ((h.1 124 v3.toNatClampNeg) / (nI 256)))) h) : J mX11_night d 0 0 Q 0 0 111 [some (.inr (.inr 111)), some (.inl v1), some (.inl v2), some (.inl v3), some (.inl v4), some (.inl v5), u6] [] h := by
  refine bX11_night_111 (d' := 0) hr (by omega) ?_
  refine t_X11_within  ?_ ?_ ?_
  · intro p1
    refine bX11_night_124  (fun _ => ?_) (fun c => absurd c (by decide))
    refine bX11_night_140  ?_
    exact bX11_night_141  (K0 p1)
  · intro p2 p3
    refine bX11_night_124  (fun _ => ?_) (fun c => absurd c (by decide))
    refine bX11_night_140  ?_
    exact bX11_night_141  (K1 p2 p3)
  · intro p4 p5
    refine bX11_night_124  (fun c => absurd c (by decide)) (fun _ => ?_)
    refine bX11_night_127 hr (G0 p4 p5) ?_
    exact bX11_night_141  (K2 p4 p5)

set_option maxRecDepth 20000 in
theorem t_X11_hears {d d1' : Nat} {Q : Option MV → MH → Prop} {h : MH} {v1 : Int32} (hr : zRf h) (hd1' : d1' + 1 ≤ d) (K0 : Con mX11_asTold d1' 0 0 [.inr (.inr 111)] h (zrv fun h' => J mX11_hears d 0 0 Q 0 0 4 [some (.inr (.inr 111)), some (.inl v1), none] [] h')) : Con mX11_hears d 0 0 [.inr (.inr 111), .inl v1] h Q := by
  refine Con.intro rfl (Nat.le_of_ble_eq_true rfl) ?_
  show J mX11_hears d 0 0 Q 0 0 0 [some (.inr (.inr 111)), some (.inl v1), none] [] h
  exact bX11_hears_0 hr hd1' (K0)

set_option maxRecDepth 20000 in
theorem t_X11_hears_4 {d d1' : Nat} {Q : Option MV → MH → Prop} {h : MH} {v1 : Int32} (hr : zRf h) (hd1' : d1' + 1 ≤ d) (K0 : Con mX11_runs d1' 0 0 [.inr (.inr 111), .inl v1, .inl (-(nI 1))] h (zrv fun h' => J mX11_hears d 0 0 Q 0 0 10 [some (.inr (.inr 111)), some (.inl v1), none] [] h')) : J mX11_hears d 0 0 Q 0 0 4 [some (.inr (.inr 111)), some (.inl v1), none] [] h := by
  exact bX11_hears_4 hr hd1' (K0)

set_option maxRecDepth 20000 in
theorem t_X11_hears_10 {d  : Nat} {Q : Option MV → MH → Prop} {h : MH} {v1 : Int32} (hr : zRf h) (K0 : J mX11_hears d 0 0 Q 0 0 20 [some (.inr (.inr 111)), some (.inl v1), some (.inl (nI 0))] [] (zsI h 111 32 (h.1 111 25))) : J mX11_hears d 0 0 Q 0 0 10 [some (.inr (.inr 111)), some (.inl v1), none] [] h := by
  refine bX11_hears_10 hr ?_
  exact K0

set_option maxRecDepth 20000 in
theorem t_X11_hears_20 {d  : Nat} {Q : Option MV → MH → Prop} {h : MH} {v1 v2 : Int32} (hr : zRf h) (G0 : ¬ (h.1 111 25) ≤ v2 → vp_in v2 40) (K0 : (h.1 111 25) ≤ v2 → Q none h) (K1 : ¬ (h.1 111 25) ≤ v2 → J mX11_hears d 0 0 Q 0 0 20 [some (.inr (.inr 111)), some (.inl v1), some (.inl (v2 + nI 1))] [] (zsI h 126 v2.toNatClampNeg ((h.1 124 v2.toNatClampNeg) / (nI 256)))) : J mX11_hears d 0 0 Q 0 0 20 [some (.inr (.inr 111)), some (.inl v1), some (.inl v2)] [] h := by
  refine bX11_hears_20 hr (fun p1 => ?_) (fun p1 => ?_)
  · exact bX11_hears_50  (K0 p1)
  · refine bX11_hears_28 hr (G0 p1) ?_
    exact K1 p1

set_option maxRecDepth 20000 in
theorem t_X11_chime {d d1' : Nat} {Q : Option MV → MH → Prop} {h : MH} {v1 v2 : Int32} (hr : zRf h) (hd : 2 ≤ d) (hd1' : d1' + 1 ≤ d) (K0 : ¬ (lN 0) ≤ v1.toInt64 → Q (some (.inl (-(nI 2)))) (zsI h 111 0 (nI 0))) (K1 : (lN 0) ≤ v1.toInt64 → ¬ v1.toInt64 ≤ (3 : Int64) → Q (some (.inl (-(nI 2)))) (zsI h 111 0 (nI 0))) (K2 : (lN 0) ≤ v1.toInt64 → v1.toInt64 ≤ (3 : Int64) → ¬ (lN 0) ≤ v2.toInt64 → Q (some (.inl (-(nI 2)))) (zsI h 111 0 (nI 0))) (K3 : (lN 0) ≤ v1.toInt64 → v1.toInt64 ≤ (3 : Int64) → (lN 0) ≤ v2.toInt64 → ¬ v2.toInt64 ≤ (3 : Int64) → Q (some (.inl (-(nI 2)))) (zsI h 111 0 (nI 0))) (K4 : (lN 0) ≤ v1.toInt64 → v1.toInt64 ≤ (3 : Int64) → (lN 0) ≤ v2.toInt64 → v2.toInt64 ≤ (3 : Int64) → Con mX11_hears d1' 0 0 [.inr (.inr 111), .inl v1] (zsI h 111 0 (nI 0)) (zrv fun h' => J mX11_chime d 0 0 Q 0 0 27 [some (.inr (.inr 111)), some (.inl v1), some (.inl v2), none, none, none] [] h')) : Con mX11_chime d 0 0 [.inr (.inr 111), .inl v1, .inl v2] h Q := by
  refine Con.intro rfl (Nat.le_of_ble_eq_true rfl) ?_
  show J mX11_chime d 0 0 Q 0 0 0 [some (.inr (.inr 111)), some (.inl v1), some (.inl v2), none, none, none] [] h
  refine bX11_chime_0 (d' := 1) hr (by omega) ?_
  refine t_X11_isPlan (Nat.le_refl _) ?_ ?_ ?_
  · intro p1
    refine bX11_chime_9  (fun _ => ?_) (fun c => absurd c (by decide))
    exact bX11_chime_19  (K0 p1)
  · intro p2 p3
    refine bX11_chime_9  (fun _ => ?_) (fun c => absurd c (by decide))
    exact bX11_chime_19  (K1 p2 p3)
  · intro p4 p5
    refine bX11_chime_9  (fun c => absurd c (by decide)) (fun _ => ?_)
    refine bX11_chime_12 (d' := 1)  (by omega) ?_
    refine t_X11_isPlan (Nat.le_refl _) ?_ ?_ ?_
    · intro p6
      refine bX11_chime_16  (fun c => absurd c (by decide)) (fun _ => ?_)
      exact bX11_chime_19  (K2 p4 p5 p6)
    · intro p7 p8
      refine bX11_chime_16  (fun c => absurd c (by decide)) (fun _ => ?_)
      exact bX11_chime_19  (K3 p4 p5 p7 p8)
    · intro p9 p10
      refine bX11_chime_16  (fun _ => ?_) (fun c => absurd c (by decide))
      exact bX11_chime_22 hr hd1' (K4 p4 p5 p9 p10)

set_option maxRecDepth 20000 in
theorem t_X11_chime_27 {d d1' : Nat} {Q : Option MV → MH → Prop} {h : MH} {v1 v2 : Int32} (hr : zRf h) (hd1' : d1' + 1 ≤ d) (K0 : Con mX11_asTold d1' 0 0 [.inr (.inr 111)] h (zrv fun h' => J mX11_chime d 0 0 Q 0 0 31 [some (.inr (.inr 111)), some (.inl v1), some (.inl v2), none, none, none] [] h')) : J mX11_chime d 0 0 Q 0 0 27 [some (.inr (.inr 111)), some (.inl v1), some (.inl v2), none, none, none] [] h := by
  exact bX11_chime_27 hr hd1' (K0)

set_option maxRecDepth 20000 in
theorem t_X11_chime_31 {d d1' : Nat} {Q : Option MV → MH → Prop} {h : MH} {v1 v2 : Int32} (hr : zRf h) (hd1' : d1' + 1 ≤ d) (K0 : Con mX11_runs d1' 0 0 [.inr (.inr 111), .inl v2, .inl (-(nI 1))] h (zrv fun h' => J mX11_chime d 0 0 Q 0 0 37 [some (.inr (.inr 111)), some (.inl v1), some (.inl v2), none, none, none] [] h')) : J mX11_chime d 0 0 Q 0 0 31 [some (.inr (.inr 111)), some (.inl v1), some (.inl v2), none, none, none] [] h := by
  exact bX11_chime_31 hr hd1' (K0)

set_option maxRecDepth 20000 in
theorem t_X11_chime_37 {d  : Nat} {Q : Option MV → MH → Prop} {h : MH} {v1 v2 : Int32} (K0 : J mX11_chime d 0 0 Q 0 0 42 [some (.inr (.inr 111)), some (.inl v1), some (.inl v2), some (.inl (nI 0)), some (.inl (nI 0)), none] [] h) : J mX11_chime d 0 0 Q 0 0 37 [some (.inr (.inr 111)), some (.inl v1), some (.inl v2), none, none, none] [] h := by
  refine bX11_chime_37  ?_
  exact K0

set_option maxRecDepth 20000 in
theorem t_X11_chime_42 {d  : Nat} {Q : Option MV → MH → Prop} {h : MH} {u5 : Option MV} {v1 v2 v3 v4 : Int32} (hr : zRf h) (K0 : (h.1 111 32) ≤ v4 → Q (some (.inl v3)) h) (K1 : ¬ (h.1 111 32) ≤ v4 → J mX11_chime d 0 0 Q 0 0 54 [some (.inr (.inr 111)), some (.inl v1), some (.inl v2), some (.inl v3), some (.inl v4), some (.inl (nI 0))] [] h) : J mX11_chime d 0 0 Q 0 0 42 [some (.inr (.inr 111)), some (.inl v1), some (.inl v2), some (.inl v3), some (.inl v4), u5] [] h := by
  refine bX11_chime_42 hr (fun p1 => ?_) (fun p1 => ?_)
  · exact bX11_chime_104  (K0 p1)
  · refine bX11_chime_51  ?_
    exact K1 p1

set_option maxRecDepth 20000 in
theorem t_X11_chime_54 {d  : Nat} {Q : Option MV → MH → Prop} {h : MH} {v1 v2 v3 v4 v5 : Int32} (hr : zRf h) (G0 : ¬ (h.1 111 25) ≤ v5 → vp_in v4 40) (G1 : ¬ (h.1 111 25) ≤ v5 → vp_in v5 40) (K0 : (h.1 111 25) ≤ v5 → J mX11_chime d 0 0 Q 0 0 42 [some (.inr (.inr 111)), some (.inl v1), some (.inl v2), some (.inl v3), some (.inl (v4 + nI 1)), some (.inl v5)] [] h) (K1 : ¬ (h.1 111 25) ≤ v5 → ¬ (h.1 126 v4.toNatClampNeg) = ((h.1 124 v5.toNatClampNeg) / (nI 256)) → J mX11_chime d 0 0 Q 0 0 54 [some (.inr (.inr 111)), some (.inl v1), some (.inl v2), some (.inl (v3 + (nI 0))), some (.inl v4), some (.inl (v5 + nI 1))] [] h) (K2 : ¬ (h.1 111 25) ≤ v5 → (h.1 126 v4.toNatClampNeg) = ((h.1 124 v5.toNatClampNeg) / (nI 256)) → J mX11_chime d 0 0 Q 0 0 54 [some (.inr (.inr 111)), some (.inl v1), some (.inl v2), some (.inl (v3 + (nI 1))), some (.inl v4), some (.inl (v5 + nI 1))] [] h) : J mX11_chime d 0 0 Q 0 0 54 [some (.inr (.inr 111)), some (.inl v1), some (.inl v2), some (.inl v3), some (.inl v4), some (.inl v5)] [] h := by
  refine bX11_chime_54 hr (fun p1 => ?_) (fun p1 => ?_)
  · refine bX11_chime_98  ?_
    exact K0 p1
  · refine bX11_chime_63 hr (G0 p1) (G1 p1) (fun p2 => ?_) (fun p2 => ?_)
    · refine bX11_chime_89  ?_
      refine bX11_chime_90  ?_
      exact K1 p1 p2
    · refine bX11_chime_85  ?_
      refine bX11_chime_90  ?_
      exact K2 p1 p2

set_option maxRecDepth 20000 in
theorem t_X11_days {d d1' d2' : Nat} {Q : Option MV → MH → Prop} {h : MH} {v1 v2 v3 : Int32} (hr : zRf h) (hd : 2 ≤ d) (hd1' : d1' + 1 ≤ d) (hd2' : d2' + 1 ≤ d) (K0 : ¬ (lN 0) ≤ v1.toInt64 → Q (some (.inl (-(nI 2)))) (zsI h 111 0 (nI 0))) (K1 : (lN 0) ≤ v1.toInt64 → ¬ v1.toInt64 ≤ (3 : Int64) → Q (some (.inl (-(nI 2)))) (zsI h 111 0 (nI 0))) (K2 : (lN 0) ≤ v1.toInt64 → v1.toInt64 ≤ (3 : Int64) → v3 = (-(nI 1)) → ¬ (lN 1) ≤ v2.toInt64 → Q (some (.inl (-(nI 3)))) (zsI h 111 0 (nI 0))) (K3 : (lN 0) ≤ v1.toInt64 → v1.toInt64 ≤ (3 : Int64) → v3 = (-(nI 1)) → (lN 1) ≤ v2.toInt64 → ¬ v2.toInt64 ≤ (400 : Int64) → Q (some (.inl (-(nI 3)))) (zsI h 111 0 (nI 0))) (K4 : (lN 0) ≤ v1.toInt64 → v1.toInt64 ≤ (3 : Int64) → v3 = (-(nI 1)) → (lN 1) ≤ v2.toInt64 → v2.toInt64 ≤ (400 : Int64) → Con mX11_asTold d1' 0 0 [.inr (.inr 111)] (zsI h 111 0 (nI 0)) (zrv fun h' => J mX11_days d 0 0 Q 0 0 47 [some (.inr (.inr 111)), some (.inl v1), some (.inl v2), some (.inl v3)] [] h')) (K5 : (lN 0) ≤ v1.toInt64 → v1.toInt64 ≤ (3 : Int64) → ¬ v3 = (-(nI 1)) → ¬ (lN 0) ≤ v3.toInt64 → Q (some (.inl (-(nI 2)))) (zsI h 111 0 (nI 0))) (K6 : (lN 0) ≤ v1.toInt64 → v1.toInt64 ≤ (3 : Int64) → ¬ v3 = (-(nI 1)) → (lN 0) ≤ v3.toInt64 → ¬ v3.toInt64 ≤ ((((zsI h 111 0 (nI 0)).1 112 0) - (nI 1)).toInt64) → Q (some (.inl (-(nI 2)))) (zsI h 111 0 (nI 0))) (K7 : (lN 0) ≤ v1.toInt64 → v1.toInt64 ≤ (3 : Int64) → ¬ v3 = (-(nI 1)) → (lN 0) ≤ v3.toInt64 → v3.toInt64 ≤ ((((zsI h 111 0 (nI 0)).1 112 0) - (nI 1)).toInt64) → ¬ (lN 1) ≤ v2.toInt64 → Q (some (.inl (-(nI 3)))) (zsI h 111 0 (nI 0))) (K8 : (lN 0) ≤ v1.toInt64 → v1.toInt64 ≤ (3 : Int64) → ¬ v3 = (-(nI 1)) → (lN 0) ≤ v3.toInt64 → v3.toInt64 ≤ ((((zsI h 111 0 (nI 0)).1 112 0) - (nI 1)).toInt64) → (lN 1) ≤ v2.toInt64 → ¬ v2.toInt64 ≤ (400 : Int64) → Q (some (.inl (-(nI 3)))) (zsI h 111 0 (nI 0))) (K9 : (lN 0) ≤ v1.toInt64 → v1.toInt64 ≤ (3 : Int64) → ¬ v3 = (-(nI 1)) → (lN 0) ≤ v3.toInt64 → v3.toInt64 ≤ ((((zsI h 111 0 (nI 0)).1 112 0) - (nI 1)).toInt64) → (lN 1) ≤ v2.toInt64 → v2.toInt64 ≤ (400 : Int64) → Con mX11_asTold d2' 0 0 [.inr (.inr 111)] (zsI h 111 0 (nI 0)) (zrv fun h' => J mX11_days d 0 0 Q 0 0 47 [some (.inr (.inr 111)), some (.inl v1), some (.inl v2), some (.inl v3)] [] h')) : Con mX11_days d 0 0 [.inr (.inr 111), .inl v1, .inl v2, .inl v3] h Q := by
  refine Con.intro rfl (Nat.le_of_ble_eq_true rfl) ?_
  show J mX11_days d 0 0 Q 0 0 0 [some (.inr (.inr 111)), some (.inl v1), some (.inl v2), some (.inl v3)] [] h
  refine bX11_days_0 (d' := 1) hr (by omega) ?_
  refine t_X11_isPlan (Nat.le_refl _) ?_ ?_ ?_
  · intro p1
    refine bX11_days_9  (fun _ => ?_) (fun c => absurd c (by decide))
    exact bX11_days_25  (K0 p1)
  · intro p2 p3
    refine bX11_days_9  (fun _ => ?_) (fun c => absurd c (by decide))
    exact bX11_days_25  (K1 p2 p3)
  · intro p4 p5
    refine bX11_days_9  (fun c => absurd c (by decide)) (fun _ => ?_)
    refine bX11_days_12  (fun p6 => ?_) (fun p6 => ?_)
    · refine bX11_days_28 (d' := 0)  (by omega) ?_
      refine t_X11_within  ?_ ?_ ?_
      · intro p7
        refine bX11_days_37  (fun c => absurd c (by decide)) (fun _ => ?_)
        exact bX11_days_40  (K2 p4 p5 p6 p7)
      · intro p8 p9
        refine bX11_days_37  (fun c => absurd c (by decide)) (fun _ => ?_)
        exact bX11_days_40  (K3 p4 p5 p6 p8 p9)
      · intro p10 p11
        refine bX11_days_37  (fun _ => ?_) (fun c => absurd c (by decide))
        exact bX11_days_43 hr hd1' (K4 p4 p5 p6 p10 p11)
    · refine bX11_days_17 (d' := 1) hr (by omega) ?_
      refine t_X11_isCandle hr (Nat.le_refl _) ?_ ?_ ?_
      · intro p12
        refine bX11_days_22  (fun c => absurd c (by decide)) (fun _ => ?_)
        exact bX11_days_25  (K5 p4 p5 p6 p12)
      · intro p13 p14
        refine bX11_days_22  (fun c => absurd c (by decide)) (fun _ => ?_)
        exact bX11_days_25  (K6 p4 p5 p6 p13 p14)
      · intro p15 p16
        refine bX11_days_22  (fun _ => ?_) (fun c => absurd c (by decide))
        refine bX11_days_28 (d' := 0)  (by omega) ?_
        refine t_X11_within  ?_ ?_ ?_
        · intro p17
          refine bX11_days_37  (fun c => absurd c (by decide)) (fun _ => ?_)
          exact bX11_days_40  (K7 p4 p5 p6 p15 p16 p17)
        · intro p18 p19
          refine bX11_days_37  (fun c => absurd c (by decide)) (fun _ => ?_)
          exact bX11_days_40  (K8 p4 p5 p6 p15 p16 p18 p19)
        · intro p20 p21
          refine bX11_days_37  (fun _ => ?_) (fun c => absurd c (by decide))
          exact bX11_days_43 hr hd2' (K9 p4 p5 p6 p15 p16 p20 p21)

set_option maxRecDepth 20000 in
theorem t_X11_days_47 {d d1' : Nat} {Q : Option MV → MH → Prop} {h : MH} {v1 v2 v3 : Int32} (hr : zRf h) (hd1' : d1' + 1 ≤ d) (K0 : Con mX11_runs d1' 0 0 [.inr (.inr 111), .inl v1, .inl (-(nI 1))] h (zrv fun h' => J mX11_days d 0 0 Q 0 0 53 [some (.inr (.inr 111)), some (.inl v1), some (.inl v2), some (.inl v3)] [] h')) : J mX11_days d 0 0 Q 0 0 47 [some (.inr (.inr 111)), some (.inl v1), some (.inl v2), some (.inl v3)] [] h := by
  exact bX11_days_47 hr hd1' (K0)

set_option maxRecDepth 20000 in
theorem t_X11_days_53 {d d1' : Nat} {Q : Option MV → MH → Prop} {h : MH} {v1 v2 v3 : Int32} (hr : zRf h) (hd1' : d1' + 1 ≤ d) (G0 : ¬ v3 = (-(nI 1)) → vp_in v3 8) (K0 : ¬ v3 = (-(nI 1)) → (h.1 116 v3.toNatClampNeg) ≤ (h.1 121 v3.toNatClampNeg) → Q (some (.inl (nI 0))) h) (K1 : ¬ v3 = (-(nI 1)) → ¬ (h.1 116 v3.toNatClampNeg) ≤ (h.1 121 v3.toNatClampNeg) → Q (some (.inl v2)) h) (K2 : v3 = (-(nI 1)) → Con mX11_waxBurnt d1' 0 0 [.inr (.inr 111)] h (zri fun (x : Int32) h' => J mX11_days d 0 0 Q 0 0 62 [some (.inr (.inr 111)), some (.inl v1), some (.inl v2), some (.inl v3)] [.inl x] h')) : J mX11_days d 0 0 Q 0 0 53 [some (.inr (.inr 111)), some (.inl v1), some (.inl v2), some (.inl v3)] [] h := by
  refine bX11_days_53  (fun p1 => ?_) (fun p1 => ?_)
  · refine bX11_days_65 hr (G0 p1) (fun p2 => ?_) (fun p2 => ?_)
    · refine bX11_days_84  ?_
      exact bX11_days_85  (K0 p1 p2)
    · refine bX11_days_80  ?_
      exact bX11_days_85  (K1 p1 p2)
  · exact bX11_days_58 hr hd1' (K2 p1)

set_option maxRecDepth 20000 in
theorem t_X11_days_62 {d  : Nat} {Q : Option MV → MH → Prop} {h : MH} {v1 v2 v3 vs0 : Int32} (K0 : Q (some (.inl (vs0 * v2))) h) : J mX11_days d 0 0 Q 0 0 62 [some (.inr (.inr 111)), some (.inl v1), some (.inl v2), some (.inl v3)] [.inl vs0] h := by
  exact bX11_days_62  (K0)

set_option maxRecDepth 20000 in
theorem t_X11_isSet {d  : Nat} {Q : Option MV → MH → Prop} {h : MH} {v1 : Int32} (K0 : J mX11_isSet d 0 0 Q 0 0 4 [some (.inr (.inr 111)), some (.inl v1), some (.inl (nI 0)), some (.inl (nI 0))] [] h) : Con mX11_isSet d 0 0 [.inr (.inr 111), .inl v1] h Q := by
  refine Con.intro rfl (Nat.le_of_ble_eq_true rfl) ?_
  show J mX11_isSet d 0 0 Q 0 0 0 [some (.inr (.inr 111)), some (.inl v1), none, none] [] h
  refine bX11_isSet_0  ?_
  exact K0

set_option maxRecDepth 20000 in
theorem t_X11_isSet_4 {d  : Nat} {Q : Option MV → MH → Prop} {h : MH} {v1 v2 v3 : Int32} (hr : zRf h) (hd : 1 ≤ d) (K0 : (nI 8) ≤ v3 → ¬ (lN 1) ≤ v1.toInt64 → Q (some (.inl (nI 0))) h) (K1 : (nI 8) ≤ v3 → (lN 1) ≤ v1.toInt64 → ¬ v1.toInt64 ≤ ((((nI 1) <<< ((h.1 112 0) &&& 31)) - (nI 1)).toInt64) → Q (some (.inl (nI 0))) h) (K2 : (nI 8) ≤ v3 → (lN 1) ≤ v1.toInt64 → v1.toInt64 ≤ ((((nI 1) <<< ((h.1 112 0) &&& 31)) - (nI 1)).toInt64) → (nI 4) < v2 → Q (some (.inl (nI 0))) h) (K3 : (nI 8) ≤ v3 → (lN 1) ≤ v1.toInt64 → v1.toInt64 ≤ ((((nI 1) <<< ((h.1 112 0) &&& 31)) - (nI 1)).toInt64) → ¬ (nI 4) < v2 → Q (some (.inl (nI 1))) h) (K4 : ¬ (nI 8) ≤ v3 → J mX11_isSet d 0 0 Q 0 0 4 [some (.inr (.inr 111)), some (.inl v1), some (.inl (v2 + ((v1 >>> (v3 &&& 31)) &&& (nI 1)))), some (.inl (v3 + nI 1))] [] h) : J mX11_isSet d 0 0 Q 0 0 4 [some (.inr (.inr 111)), some (.inl v1), some (.inl v2), some (.inl v3)] [] h := by
  refine bX11_isSet_4  (fun p1 => ?_) (fun p1 => ?_)
  · refine bX11_isSet_24 (d' := 0) hr (vp_in_nI (by decide) (by decide)) (by omega) ?_
    refine t_X11_within  ?_ ?_ ?_
    · intro p2
      refine bX11_isSet_41  (fun _ => ?_) (fun c => absurd c (by decide))
      refine bX11_isSet_53  ?_
      exact bX11_isSet_54 (by decide) (K0 p1 p2)
    · intro p3 p4
      refine bX11_isSet_41  (fun _ => ?_) (fun c => absurd c (by decide))
      refine bX11_isSet_53  ?_
      exact bX11_isSet_54 (by decide) (K1 p1 p3 p4)
    · intro p5 p6
      refine bX11_isSet_41  (fun c => absurd c (by decide)) (fun _ => ?_)
      refine bX11_isSet_44  (fun p7 => ?_) (fun p7 => ?_)
      · refine bX11_isSet_53  ?_
        exact bX11_isSet_54 (by decide) (K2 p1 p5 p6 p7)
      · refine bX11_isSet_49  ?_
        exact bX11_isSet_54 (by decide) (K3 p1 p5 p6 p7)
  · refine bX11_isSet_10  ?_
    exact K4 p1

set_option maxRecDepth 20000 in
theorem t_X11_seeks {d  : Nat} {Q : Option MV → MH → Prop} {h : MH} {v1 v2 v3 : Int32} (hr : zRf h) (K0 : J mX11_seeks d 0 0 Q 0 0 8 [some (.inr (.inr 111)), some (.inl v1), some (.inl v2), some (.inl v3), some (.inl (nI 0))] [] (zsI h 111 38 (nI 0))) : Con mX11_seeks d 0 0 [.inr (.inr 111), .inl v1, .inl v2, .inl v3] h Q := by
  refine Con.intro rfl (Nat.le_of_ble_eq_true rfl) ?_
  show J mX11_seeks d 0 0 Q 0 0 0 [some (.inr (.inr 111)), some (.inl v1), some (.inl v2), some (.inl v3), none] [] h
  refine bX11_seeks_0 hr ?_
  exact K0

set_option maxRecDepth 20000 in
theorem t_X11_seeks_8 {d d1' d2' : Nat} {Q : Option MV → MH → Prop} {h : MH} {v1 v2 v3 v4 : Int32} (hr : zRf h) (hd1' : d1' + 1 ≤ d) (hd2' : d2' + 1 ≤ d) (G0 : (nI 8) ≤ v4 → v2 = 0 ∨ v2 = 1) (G1 : ¬ (nI 8) ≤ v4 → ¬ ((v1 >>> (v4 &&& 31)) &&& (nI 1)) = 0 → vp_in (h.1 111 38) 4) (K0 : (nI 8) ≤ v4 → Con mX11_goes d1' 0 0 [.inr (.inr 111), .inl (nI 0)] (zsI (zsI (zsI (zsI h 111 42 v2) 111 40 v3) 130 0 (nI 0)) 131 0 (nI 0)) (zrv fun h' => J mX11_seeks d 0 0 Q 0 0 108 [some (.inr (.inr 111)), some (.inl v1), some (.inl v2), some (.inl v3), some (.inl v4)] [] h')) (K1 : ¬ (nI 8) ≤ v4 → ¬ ((v1 >>> (v4 &&& 31)) &&& (nI 1)) = 0 → Con mX11_restOf d2' 0 0 [.inr (.inr 111), .inl v4] (zsI h 127 (h.1 111 38).toNatClampNeg v4) (zri fun (x : Int32) h' => J mX11_seeks d 0 0 Q 0 0 52 [some (.inr (.inr 111)), some (.inl v1), some (.inl v2), some (.inl v3), some (.inl v4)] [.inl x, .inl ((zsI h 127 (h.1 111 38).toNatClampNeg v4).1 111 38), .inr (.inr 128)] h')) (K2 : ¬ (nI 8) ≤ v4 → ((v1 >>> (v4 &&& 31)) &&& (nI 1)) = 0 → J mX11_seeks d 0 0 Q 0 0 8 [some (.inr (.inr 111)), some (.inl v1), some (.inl v2), some (.inl v3), some (.inl (v4 + nI 1))] [] h) : J mX11_seeks d 0 0 Q 0 0 8 [some (.inr (.inr 111)), some (.inl v1), some (.inl v2), some (.inl v3), some (.inl v4)] [] h := by
  refine bX11_seeks_8  (fun p1 => ?_) (fun p1 => ?_)
  · exact bX11_seeks_79 hr (G0 p1) (vp_in_nI (by decide) (by decide)) hd1' (K0 p1)
  · refine bX11_seeks_15  (fun p2 => ?_) (fun p2 => ?_)
    · exact bX11_seeks_27 hr (G1 p1 p2) hd2' (K1 p1 p2)
    · refine bX11_seeks_24  ?_
      refine bX11_seeks_73  ?_
      exact K2 p1 p2

set_option maxRecDepth 20000 in
theorem t_X11_seeks_52 {d  : Nat} {Q : Option MV → MH → Prop} {h : MH} {v1 v2 v3 v4 vs1 vs2 : Int32} {vs0 : Nat} (hr : zRf h) (G0 : zokA h vs0 20 vs1) (G1 : vp_in ((zsI h vs0 vs1.toNatClampNeg vs2).1 111 38) 20) (K0 : J mX11_seeks d 0 0 Q 0 0 8 [some (.inr (.inr 111)), some (.inl v1), some (.inl v2), some (.inl v3), some (.inl (v4 + nI 1))] [] (zsI (zsI (zsI h vs0 vs1.toNatClampNeg vs2) 129 ((zsI h vs0 vs1.toNatClampNeg vs2).1 111 38).toNatClampNeg (nI 0)) 111 38 (((zsI (zsI h vs0 vs1.toNatClampNeg vs2) 129 ((zsI h vs0 vs1.toNatClampNeg vs2).1 111 38).toNatClampNeg (nI 0)).1 111 38) + (nI 1)))) : J mX11_seeks d 0 0 Q 0 0 52 [some (.inr (.inr 111)), some (.inl v1), some (.inl v2), some (.inl v3), some (.inl v4)] [.inl vs2, .inl vs1, .inr (.inr vs0)] h := by
  refine bX11_seeks_52 hr (G0) (G1) ?_
  refine bX11_seeks_73  ?_
  exact K0

set_option maxRecDepth 20000 in
theorem t_X11_seeks_108 {d  : Nat} {Q : Option MV → MH → Prop} {h : MH} {v1 v2 v3 v4 : Int32} (K0 : Q none h) : J mX11_seeks d 0 0 Q 0 0 108 [some (.inr (.inr 111)), some (.inl v1), some (.inl v2), some (.inl v3), some (.inl v4)] [] h := by
  exact bX11_seeks_108  (K0)

set_option maxRecDepth 20000 in
theorem t_X11_meets {d d1' : Nat} {Q : Option MV → MH → Prop} {h : MH} {v1 : Int32} (hr : zRf h) (hd : 1 ≤ d) (hd1' : d1' + 1 ≤ d) (G0 : vp_in v1 5) (G1 : (h.1 111 40) = 0 → vp_in ((h.1 130 v1.toNatClampNeg) / (nI 32)) 11600) (K0 : ¬ (h.1 111 40) = 0 → ¬ (h.1 111 40) = (nI 4) → ¬ (h.1 111 40) = (nI 1) → ¬ (h.1 111 40) = (nI 2) → ¬ (h.1 111 40) = (nI 5) → ¬ (h.1 111 40) = (nI 6) → Con mX11_areTold d1' 0 0 [.inr (.inr 111), .inl v1] h (zri fun (x : Int32) h' => J mX11_meets d 0 0 Q 0 0 300 [some (.inr (.inr 111)), some (.inl v1), some (.inl (h.1 130 v1.toNatClampNeg)), none, none] [.inl x, .inr (.inr 111)] h')) (K1 : ¬ (h.1 111 40) = 0 → ¬ (h.1 111 40) = (nI 4) → ¬ (h.1 111 40) = (nI 1) → ¬ (h.1 111 40) = (nI 2) → ¬ (h.1 111 40) = (nI 5) → (h.1 111 40) = (nI 6) → ¬ (h.1 130 v1.toNatClampNeg) = (h.1 111 39) → Q none h) (K2 : ¬ (h.1 111 40) = 0 → ¬ (h.1 111 40) = (nI 4) → ¬ (h.1 111 40) = (nI 1) → ¬ (h.1 111 40) = (nI 2) → ¬ (h.1 111 40) = (nI 5) → (h.1 111 40) = (nI 6) → (h.1 130 v1.toNatClampNeg) = (h.1 111 39) → (h.1 111 48) ≤ 0 → J mX11_meets d 0 0 Q 0 0 268 [some (.inr (.inr 111)), some (.inl v1), some (.inl (h.1 130 v1.toNatClampNeg)), some (.inl (nI 0)), none] [] (zsI h 111 48 v1)) (K3 : ¬ (h.1 111 40) = 0 → ¬ (h.1 111 40) = (nI 4) → ¬ (h.1 111 40) = (nI 1) → ¬ (h.1 111 40) = (nI 2) → ¬ (h.1 111 40) = (nI 5) → (h.1 111 40) = (nI 6) → (h.1 130 v1.toNatClampNeg) = (h.1 111 39) → ¬ (h.1 111 48) ≤ 0 → Q none h) (K4 : ¬ (h.1 111 40) = 0 → ¬ (h.1 111 40) = (nI 4) → ¬ (h.1 111 40) = (nI 1) → ¬ (h.1 111 40) = (nI 2) → (h.1 111 40) = (nI 5) → J mX11_meets d 0 0 Q 0 0 167 [some (.inr (.inr 111)), some (.inl v1), some (.inl (h.1 130 v1.toNatClampNeg)), some (.inl (nI 0)), some (.inl (nI 0))] [] h) (K5 : ¬ (h.1 111 40) = 0 → ¬ (h.1 111 40) = (nI 4) → ¬ (h.1 111 40) = (nI 1) → (h.1 111 40) = (nI 2) → ¬ (h.1 130 v1.toNatClampNeg) = (h.1 111 39) → Q none h) (K6 : ¬ (h.1 111 40) = 0 → ¬ (h.1 111 40) = (nI 4) → ¬ (h.1 111 40) = (nI 1) → (h.1 111 40) = (nI 2) → (h.1 130 v1.toNatClampNeg) = (h.1 111 39) → (h.1 111 41) = (-(nI 1)) → Q none (zsI h 111 41 (h.1 131 v1.toNatClampNeg))) (K7 : ¬ (h.1 111 40) = 0 → ¬ (h.1 111 40) = (nI 4) → ¬ (h.1 111 40) = (nI 1) → (h.1 111 40) = (nI 2) → (h.1 130 v1.toNatClampNeg) = (h.1 111 39) → ¬ (h.1 111 41) = (-(nI 1)) → (h.1 111 41) ≤ (h.1 131 v1.toNatClampNeg) → Q none h) (K8 : ¬ (h.1 111 40) = 0 → ¬ (h.1 111 40) = (nI 4) → ¬ (h.1 111 40) = (nI 1) → (h.1 111 40) = (nI 2) → (h.1 130 v1.toNatClampNeg) = (h.1 111 39) → ¬ (h.1 111 41) = (-(nI 1)) → ¬ (h.1 111 41) ≤ (h.1 131 v1.toNatClampNeg) → Q none (zsI h 111 41 (h.1 131 v1.toNatClampNeg))) (K9 : ¬ (h.1 111 40) = 0 → ¬ (h.1 111 40) = (nI 4) → (h.1 111 40) = (nI 1) → J mX11_meets d 0 0 Q 0 0 63 [some (.inr (.inr 111)), some (.inl v1), some (.inl (h.1 130 v1.toNatClampNeg)), some (.inl (nI 0)), none] [] h) (K10 : ¬ (h.1 111 40) = 0 → (h.1 111 40) = (nI 4) → ¬ (h.1 130 v1.toNatClampNeg) = (h.1 111 39) → Q none (zsI h 111 41 (h.1 111 41))) (K11 : ¬ (h.1 111 40) = 0 → (h.1 111 40) = (nI 4) → (h.1 130 v1.toNatClampNeg) = (h.1 111 39) → Q none (zsI h 111 41 (nI 1))) (K12 : (h.1 111 40) = 0 → Q none (zsI h 132 ((h.1 130 v1.toNatClampNeg) / (nI 32)).toNatClampNeg ((h.1 132 ((h.1 130 v1.toNatClampNeg) / (nI 32)).toNatClampNeg) ||| ((nI 1) <<< (((h.1 130 v1.toNatClampNeg) - (h.1 130 v1.toNatClampNeg) / (nI 32) * (nI 32)) &&& 31))))) : Con mX11_meets d 0 0 [.inr (.inr 111), .inl v1] h Q := by
  refine Con.intro rfl (Nat.le_of_ble_eq_true rfl) ?_
  show J mX11_meets d 0 0 Q 0 0 0 [some (.inr (.inr 111)), some (.inl v1), none, none, none] [] h
  refine bX11_meets_0 hr (G0) (fun p1 => ?_) (fun p1 => ?_)
  · refine bX11_meets_22 hr (fun p2 => ?_) (fun p2 => ?_)
    · refine bX11_meets_53 hr (fun p3 => ?_) (fun p3 => ?_)
      · refine bX11_meets_104 hr (fun p4 => ?_) (fun p4 => ?_)
        · refine bX11_meets_154 hr (fun p5 => ?_) (fun p5 => ?_)
          · refine bX11_meets_236 hr (fun p6 => ?_) (fun p6 => ?_)
            · exact bX11_meets_294 hr hd1' (K0 p1 p2 p3 p4 p5 p6)
            · refine bX11_meets_245 hr (fun p7 => ?_) (fun p7 => ?_)
              · exact bX11_meets_260  (K1 p1 p2 p3 p4 p5 p6 p7)
              · refine bX11_meets_253 hr (fun p8 => ?_) (fun p8 => ?_)
                · refine bX11_meets_261 hr ?_
                  exact K2 p1 p2 p3 p4 p5 p6 p7 p8
                · exact bX11_meets_260  (K3 p1 p2 p3 p4 p5 p6 p7 p8)
          · refine bX11_meets_162  ?_
            exact K4 p1 p2 p3 p4 p5
        · refine bX11_meets_112 hr (fun p9 => ?_) (fun p9 => ?_)
          · exact bX11_meets_314  (K5 p1 p2 p3 p4 p9)
          · refine bX11_meets_120 hr (fun p10 => ?_) (fun p10 => ?_)
            · refine bX11_meets_141 hr (G0) ?_
              exact bX11_meets_314  (K6 p1 p2 p3 p4 p9 p10)
            · refine bX11_meets_128 hr (G0) (fun p11 => ?_) (fun p11 => ?_)
              · exact bX11_meets_314  (K7 p1 p2 p3 p4 p9 p10 p11)
              · refine bX11_meets_141 hr (G0) ?_
                exact bX11_meets_314  (K8 p1 p2 p3 p4 p9 p10 p11)
      · refine bX11_meets_61  ?_
        exact K9 p1 p2 p3
    · refine bX11_meets_30 hr (fun p12 => ?_) (fun p12 => ?_)
      · refine bX11_meets_43 hr ?_
        refine bX11_meets_47 hr ?_
        exact bX11_meets_314  (K10 p1 p2 p12)
      · refine bX11_meets_39  ?_
        refine bX11_meets_47 hr ?_
        exact bX11_meets_314  (K11 p1 p2 p12)
  · refine bX11_meets_14 (d' := 0) hr (by omega) ?_
    refine t_X11_adds hr (G1 p1) ?_
    · refine bX11_meets_19  ?_
      exact bX11_meets_314  (K12 p1)

set_option maxRecDepth 20000 in
theorem t_X11_meets_63 {d  : Nat} {Q : Option MV → MH → Prop} {h : MH} {v1 v2 v3 : Int32} (hr : zRf h) (G0 : ¬ v1 ≤ v3 → vp_in v3 5) (K0 : v1 ≤ v3 → Q none h) (K1 : ¬ v1 ≤ v3 → ¬ (v2 - (h.1 130 v3.toNatClampNeg)) = (h.1 111 39) → J mX11_meets d 0 0 Q 0 0 63 [some (.inr (.inr 111)), some (.inl v1), some (.inl v2), some (.inl (v3 + nI 1)), none] [] (zsI h 111 41 (h.1 111 41))) (K2 : ¬ v1 ≤ v3 → (v2 - (h.1 130 v3.toNatClampNeg)) = (h.1 111 39) → J mX11_meets d 0 0 Q 0 0 63 [some (.inr (.inr 111)), some (.inl v1), some (.inl v2), some (.inl (v3 + nI 1)), none] [] (zsI h 111 41 (nI 1))) : J mX11_meets d 0 0 Q 0 0 63 [some (.inr (.inr 111)), some (.inl v1), some (.inl v2), some (.inl v3), none] [] h := by
  refine bX11_meets_63  (fun p1 => ?_) (fun p1 => ?_)
  · refine bX11_meets_101  ?_
    exact bX11_meets_314  (K0 p1)
  · refine bX11_meets_68 hr (G0 p1) (fun p2 => ?_) (fun p2 => ?_)
    · refine bX11_meets_88 hr ?_
      refine bX11_meets_92 hr ?_
      exact K1 p1 p2
    · refine bX11_meets_84  ?_
      refine bX11_meets_92 hr ?_
      exact K2 p1 p2

set_option maxRecDepth 20000 in
theorem t_X11_meets_167 {d  : Nat} {Q : Option MV → MH → Prop} {h : MH} {v1 v2 v3 v4 : Int32} (hr : zRf h) (G0 : ¬ (h.1 111 38) ≤ v4 → vp_in v4 20) (G1 : ¬ (h.1 111 38) ≤ v4 → vp_in (((nI 4) * v1) + v4) 20) (K0 : (h.1 111 38) ≤ v4 → ¬ v2 = (h.1 111 39) → Q none h) (K1 : (h.1 111 38) ≤ v4 → v2 = (h.1 111 39) → (h.1 111 41) = (-(nI 1)) → Q none (zsI h 111 41 v3)) (K2 : (h.1 111 38) ≤ v4 → v2 = (h.1 111 39) → ¬ (h.1 111 41) = (-(nI 1)) → (h.1 111 41) ≤ v3 → Q none h) (K3 : (h.1 111 38) ≤ v4 → v2 = (h.1 111 39) → ¬ (h.1 111 41) = (-(nI 1)) → ¬ (h.1 111 41) ≤ v3 → Q none (zsI h 111 41 v3)) (K4 : ¬ (h.1 111 38) ≤ v4 → J mX11_meets d 0 0 Q 0 0 167 [some (.inr (.inr 111)), some (.inl v1), some (.inl v2), some (.inl (v3 + ((h.1 128 v4.toNatClampNeg) - (h.1 128 (((nI 4) * v1) + v4).toNatClampNeg)))), some (.inl (v4 + nI 1))] [] h) : J mX11_meets d 0 0 Q 0 0 167 [some (.inr (.inr 111)), some (.inl v1), some (.inl v2), some (.inl v3), some (.inl v4)] [] h := by
  refine bX11_meets_167 hr (fun p1 => ?_) (fun p1 => ?_)
  · refine bX11_meets_204 hr (fun p2 => ?_) (fun p2 => ?_)
    · refine bX11_meets_233  ?_
      exact bX11_meets_314  (K0 p1 p2)
    · refine bX11_meets_212 hr (fun p3 => ?_) (fun p3 => ?_)
      · refine bX11_meets_228 hr ?_
        refine bX11_meets_233  ?_
        exact bX11_meets_314  (K1 p1 p2 p3)
      · refine bX11_meets_220 hr (fun p4 => ?_) (fun p4 => ?_)
        · refine bX11_meets_233  ?_
          exact bX11_meets_314  (K2 p1 p2 p3 p4)
        · refine bX11_meets_228 hr ?_
          refine bX11_meets_233  ?_
          exact bX11_meets_314  (K3 p1 p2 p3 p4)
  · refine bX11_meets_176 hr (G0 p1) (G1 p1) ?_
    exact K4 p1

set_option maxRecDepth 20000 in
theorem t_X11_meets_268 {d  : Nat} {Q : Option MV → MH → Prop} {h : MH} {v1 v2 v3 : Int32} (hr : zRf h) (G0 : ¬ v1 ≤ v3 → vp_in v3 5) (K0 : v1 ≤ v3 → Q none h) (K1 : ¬ v1 ≤ v3 → J mX11_meets d 0 0 Q 0 0 268 [some (.inr (.inr 111)), some (.inl v1), some (.inl v2), some (.inl (v3 + nI 1)), none] [] (zsI h 135 v3.toNatClampNeg (h.1 134 v3.toNatClampNeg))) : J mX11_meets d 0 0 Q 0 0 268 [some (.inr (.inr 111)), some (.inl v1), some (.inl v2), some (.inl v3), none] [] h := by
  refine bX11_meets_268  (fun p1 => ?_) (fun p1 => ?_)
  · refine bX11_meets_291  ?_
    exact bX11_meets_314  (K0 p1)
  · refine bX11_meets_273 hr (G0 p1) ?_
    exact K1 p1

set_option maxRecDepth 20000 in
theorem t_X11_meets_300 {d  : Nat} {Q : Option MV → MH → Prop} {h : MH} {v1 v2 vs1 : Int32} (hr : zRf h) (K0 : vs1 = 0 → Q none (zsI h 111 41 (h.1 111 41))) (K1 : ¬ vs1 = 0 → Q none (zsI h 111 41 (nI 1))) : J mX11_meets d 0 0 Q 0 0 300 [some (.inr (.inr 111)), some (.inl v1), some (.inl v2), none, none] [.inl vs1, .inr (.inr 111)] h := by
  refine bX11_meets_300  (fun p1 => ?_) (fun p1 => ?_)
  · refine bX11_meets_307 hr ?_
    refine bX11_meets_311 hr ?_
    exact bX11_meets_314  (K0 p1)
  · refine bX11_meets_303  ?_
    refine bX11_meets_311 hr ?_
    exact bX11_meets_314  (K1 p1)

set_option maxRecDepth 20000 in
theorem t_X11_areTold {d  : Nat} {Q : Option MV → MH → Prop} {h : MH} {v1 : Int32} (K0 : J mX11_areTold d 0 0 Q 0 0 2 [some (.inr (.inr 111)), some (.inl v1), some (.inl (nI 0)), none, none] [] h) : Con mX11_areTold d 0 0 [.inr (.inr 111), .inl v1] h Q := by
  refine Con.intro rfl (Nat.le_of_ble_eq_true rfl) ?_
  show J mX11_areTold d 0 0 Q 0 0 0 [some (.inr (.inr 111)), some (.inl v1), none, none, none] [] h
  refine bX11_areTold_0  ?_
  exact K0

set_option maxRecDepth 20000 in
theorem t_X11_areTold_2 {d  : Nat} {Q : Option MV → MH → Prop} {h : MH} {u3 u4 : Option MV} {v1 v2 : Int32} (hr : zRf h) (K0 : (h.1 111 47) ≤ v2 → Q (some (.inl (nI 1))) h) (K1 : ¬ (h.1 111 47) ≤ v2 → J mX11_areTold d 0 0 Q 0 0 15 [some (.inr (.inr 111)), some (.inl v1), some (.inl v2), some (.inl (nI 0)), some (.inl (nI 1))] [] h) : J mX11_areTold d 0 0 Q 0 0 2 [some (.inr (.inr 111)), some (.inl v1), some (.inl v2), u3, u4] [] h := by
  refine bX11_areTold_2 hr (fun p1 => ?_) (fun p1 => ?_)
  · exact bX11_areTold_65  (K0 p1)
  · refine bX11_areTold_10  ?_
    exact K1 p1

set_option maxRecDepth 20000 in
theorem t_X11_areTold_15 {d  : Nat} {Q : Option MV → MH → Prop} {h : MH} {v1 v2 v3 v4 : Int32} (hr : zRf h) (G0 : ¬ v1 < v4 → v3 = 0 → vp_in v4 5) (G1 : ¬ v1 < v4 → v3 = 0 → vp_in v2 40) (K0 : v1 < v4 → ¬ v3 = 0 → J mX11_areTold d 0 0 Q 0 0 2 [some (.inr (.inr 111)), some (.inl v1), some (.inl (v2 + nI 1)), some (.inl v3), some (.inl v4)] [] h) (K1 : v1 < v4 → v3 = 0 → Q (some (.inl (nI 0))) h) (K2 : ¬ v1 < v4 → ¬ v3 = 0 → J mX11_areTold d 0 0 Q 0 0 15 [some (.inr (.inr 111)), some (.inl v1), some (.inl v2), some (.inl (nI 1)), some (.inl (v4 + nI 1))] [] h) (K3 : ¬ v1 < v4 → v3 = 0 → ¬ (h.1 130 v4.toNatClampNeg) = (h.1 133 v2.toNatClampNeg) → J mX11_areTold d 0 0 Q 0 0 15 [some (.inr (.inr 111)), some (.inl v1), some (.inl v2), some (.inl (nI 0)), some (.inl (v4 + nI 1))] [] h) (K4 : ¬ v1 < v4 → v3 = 0 → (h.1 130 v4.toNatClampNeg) = (h.1 133 v2.toNatClampNeg) → J mX11_areTold d 0 0 Q 0 0 15 [some (.inr (.inr 111)), some (.inl v1), some (.inl v2), some (.inl (nI 1)), some (.inl (v4 + nI 1))] [] h) : J mX11_areTold d 0 0 Q 0 0 15 [some (.inr (.inr 111)), some (.inl v1), some (.inl v2), some (.inl v3), some (.inl v4)] [] h := by
  refine bX11_areTold_15  (fun p1 => ?_) (fun p1 => ?_)
  · refine bX11_areTold_53  (fun p2 => ?_) (fun p2 => ?_)
    · refine bX11_areTold_59  ?_
      exact K0 p1 p2
    · exact bX11_areTold_57  (K1 p1 p2)
  · refine bX11_areTold_21  (fun p3 => ?_) (fun p3 => ?_)
    · refine bX11_areTold_41  ?_
      refine bX11_areTold_46  ?_
      exact K2 p1 p3
    · refine bX11_areTold_25 hr (G0 p1 p3) (G1 p1 p3) (fun p4 => ?_) (fun p4 => ?_)
      · refine bX11_areTold_45  ?_
        refine bX11_areTold_46  ?_
        exact K3 p1 p3 p4
      · refine bX11_areTold_41  ?_
        refine bX11_areTold_46  ?_
        exact K4 p1 p3 p4

set_option maxRecDepth 20000 in
theorem t_X11_timeAt {d  : Nat} {Q : Option MV → MH → Prop} {h : MH} {v1 : Int32} (K0 : J mX11_timeAt d 0 0 Q 0 0 4 [some (.inr (.inr 111)), some (.inl v1), some (.inl (nI 0)), some (.inl (nI 0))] [] h) : Con mX11_timeAt d 0 0 [.inr (.inr 111), .inl v1] h Q := by
  refine Con.intro rfl (Nat.le_of_ble_eq_true rfl) ?_
  show J mX11_timeAt d 0 0 Q 0 0 0 [some (.inr (.inr 111)), some (.inl v1), none, none] [] h
  refine bX11_timeAt_0  ?_
  exact K0

set_option maxRecDepth 20000 in
theorem t_X11_timeAt_4 {d  : Nat} {Q : Option MV → MH → Prop} {h : MH} {v1 v2 v3 : Int32} (hr : zRf h) (hd : 1 ≤ d) (G0 : ¬ ((nI 32) * (nI 11600)) ≤ v3 → ¬ (nI 11600) ≤ (v3 / (nI 32)) → vp_in (v3 / (nI 32)) 11600) (K0 : ((nI 32) * (nI 11600)) ≤ v3 → ¬ v1 = (-(nI 1)) → Q (some (.inl (-(nI 1)))) h) (K1 : ((nI 32) * (nI 11600)) ≤ v3 → v1 = (-(nI 1)) → Q (some (.inl v2)) h) (K2 : ¬ ((nI 32) * (nI 11600)) ≤ v3 → (nI 11600) ≤ (v3 / (nI 32)) → J mX11_timeAt d 0 0 Q 0 0 4 [some (.inr (.inr 111)), some (.inl v1), some (.inl v2), some (.inl (v3 + nI 1))] [] h) (K3 : ¬ ((nI 32) * (nI 11600)) ≤ v3 → ¬ (nI 11600) ≤ (v3 / (nI 32)) → ¬ (((h.1 132 (v3 / (nI 32)).toNatClampNeg) >>> ((v3 - v3 / (nI 32) * (nI 32)) &&& 31)) &&& (nI 1)) = (nI 1) → J mX11_timeAt d 0 0 Q 0 0 4 [some (.inr (.inr 111)), some (.inl v1), some (.inl v2), some (.inl (v3 + nI 1))] [] h) (K4 : ¬ ((nI 32) * (nI 11600)) ≤ v3 → ¬ (nI 11600) ≤ (v3 / (nI 32)) → (((h.1 132 (v3 / (nI 32)).toNatClampNeg) >>> ((v3 - v3 / (nI 32) * (nI 32)) &&& 31)) &&& (nI 1)) = (nI 1) → ¬ v2 = v1 → J mX11_timeAt d 0 0 Q 0 0 4 [some (.inr (.inr 111)), some (.inl v1), some (.inl (v2 + nI 1)), some (.inl (v3 + nI 1))] [] h) (K5 : ¬ ((nI 32) * (nI 11600)) ≤ v3 → ¬ (nI 11600) ≤ (v3 / (nI 32)) → (((h.1 132 (v3 / (nI 32)).toNatClampNeg) >>> ((v3 - v3 / (nI 32) * (nI 32)) &&& 31)) &&& (nI 1)) = (nI 1) → v2 = v1 → Q (some (.inl v3)) h) : J mX11_timeAt d 0 0 Q 0 0 4 [some (.inr (.inr 111)), some (.inl v1), some (.inl v2), some (.inl v3)] [] h := by
  refine bX11_timeAt_4 hr (fun p1 => ?_) (fun p1 => ?_)
  · refine bX11_timeAt_43  (fun p2 => ?_) (fun p2 => ?_)
    · refine bX11_timeAt_52  ?_
      exact bX11_timeAt_53  (K0 p1 p2)
    · refine bX11_timeAt_48  ?_
      exact bX11_timeAt_53  (K1 p1 p2)
  · refine bX11_timeAt_16 (d' := 0) hr (by omega) ?_
    refine t_X11_isTime hr ?_ ?_ ?_ ?_
    · intro p3; exact (G0 p1 p3)
    · intro p4
      refine bX11_timeAt_21  (fun c => absurd c (by decide)) (fun _ => ?_)
      refine bX11_timeAt_24  ?_
      refine bX11_timeAt_37  ?_
      exact K2 p1 p4
    · intro p5 p6
      refine bX11_timeAt_21  (fun c => absurd c (by decide)) (fun _ => ?_)
      refine bX11_timeAt_24  ?_
      refine bX11_timeAt_37  ?_
      exact K3 p1 p5 p6
    · intro p7 p8
      refine bX11_timeAt_21  (fun _ => ?_) (fun c => absurd c (by decide))
      refine bX11_timeAt_27  (fun p9 => ?_) (fun p9 => ?_)
      · refine bX11_timeAt_34  ?_
        refine bX11_timeAt_37  ?_
        exact K4 p1 p7 p8 p9
      · exact bX11_timeAt_32  (K5 p1 p7 p8 p9)

set_option maxRecDepth 20000 in
theorem t_X11_laysTimes {d  : Nat} {Q : Option MV → MH → Prop} {h : MH} {v1 v2 : Int32} (K0 : J mX11_laysTimes d 0 0 Q 0 0 2 [some (.inr (.inr 111)), some (.inl v1), some (.inl v2), some (.inl (nI 0))] [] h) : Con mX11_laysTimes d 0 0 [.inr (.inr 111), .inl v1, .inl v2] h Q := by
  refine Con.intro rfl (Nat.le_of_ble_eq_true rfl) ?_
  show J mX11_laysTimes d 0 0 Q 0 0 0 [some (.inr (.inr 111)), some (.inl v1), some (.inl v2), none] [] h
  refine bX11_laysTimes_0  ?_
  exact K0

set_option maxRecDepth 20000 in
theorem t_X11_laysTimes_2 {d d1' : Nat} {Q : Option MV → MH → Prop} {h : MH} {v1 v2 v3 : Int32} (hr : zRf h) (hd1' : d1' + 1 ≤ d) (G0 : ¬ (nI 11600) ≤ v3 → vp_in v3 11600) (K0 : (nI 11600) ≤ v3 → Con mX11_seeks d1' 0 0 [.inr (.inr 111), .inl v1, .inl v2, .inl (nI 0)] h (zrv fun h' => J mX11_laysTimes d 0 0 Q 0 0 31 [some (.inr (.inr 111)), some (.inl v1), some (.inl v2), some (.inl v3)] [] h')) (K1 : ¬ (nI 11600) ≤ v3 → J mX11_laysTimes d 0 0 Q 0 0 2 [some (.inr (.inr 111)), some (.inl v1), some (.inl v2), some (.inl (v3 + nI 1))] [] (zsI h 132 v3.toNatClampNeg (nI 0))) : J mX11_laysTimes d 0 0 Q 0 0 2 [some (.inr (.inr 111)), some (.inl v1), some (.inl v2), some (.inl v3)] [] h := by
  refine bX11_laysTimes_2 hr (fun p1 => ?_) (fun p1 => ?_)
  · exact bX11_laysTimes_24 hr hd1' (K0 p1)
  · refine bX11_laysTimes_11 hr (G0 p1) ?_
    exact K1 p1

set_option maxRecDepth 20000 in
theorem t_X11_laysTimes_31 {d  : Nat} {Q : Option MV → MH → Prop} {h : MH} {v1 v2 v3 : Int32} (K0 : Q none h) : J mX11_laysTimes d 0 0 Q 0 0 31 [some (.inr (.inr 111)), some (.inl v1), some (.inl v2), some (.inl v3)] [] h := by
  exact bX11_laysTimes_31  (K0)

set_option maxRecDepth 20000 in
theorem t_X11_goes {d  : Nat} {Q : Option MV → MH → Prop} {h : MH} {v1 : Int32} (K0 : J mX11_goes d 0 0 Q 0 0 4 [some (.inr (.inr 111)), some (.inl v1), some (.inl (nI 1)), some (.inl (nI 0)), none, none, none, none, none, none, none, none, none] [] h) : Con mX11_goes d 0 0 [.inr (.inr 111), .inl v1] h Q := by
  refine Con.intro rfl (Nat.le_of_ble_eq_true rfl) ?_
  show J mX11_goes d 0 0 Q 0 0 0 [some (.inr (.inr 111)), some (.inl v1), none, none, none, none, none, none, none, none, none, none, none] [] h
  refine bX11_goes_0  ?_
  exact K0

set_option maxRecDepth 20000 in
theorem t_X11_goes_4 {d  : Nat} {Q : Option MV → MH → Prop} {h : MH} {v1 v2 v3 : Int32} (hr : zRf h) (K0 : (h.1 111 38) ≤ v3 → J mX11_goes d 0 0 Q 0 0 24 [some (.inr (.inr 111)), some (.inl v1), some (.inl v2), some (.inl (nI 1)), none, none, none, none, none, none, none, none, none] [] h) (K1 : ¬ (h.1 111 38) ≤ v3 → J mX11_goes d 0 0 Q 0 0 4 [some (.inr (.inr 111)), some (.inl v1), some (.inl (v2 * (nI 3))), some (.inl (v3 + nI 1)), none, none, none, none, none, none, none, none, none] [] h) : J mX11_goes d 0 0 Q 0 0 4 [some (.inr (.inr 111)), some (.inl v1), some (.inl v2), some (.inl v3), none, none, none, none, none, none, none, none, none] [] h := by
  refine bX11_goes_4 hr (fun p1 => ?_) (fun p1 => ?_)
  · refine bX11_goes_22  ?_
    exact K0 p1
  · refine bX11_goes_12  ?_
    exact K1 p1

set_option maxRecDepth 20000 in
theorem t_X11_goes_24 {d  : Nat} {Q : Option MV → MH → Prop} {h : MH} {u4 u5 u6 u7 u8 u9 u10 u11 u12 : Option MV} {v1 v2 v3 : Int32} (K0 : v2 ≤ v3 → Q none h) (K1 : ¬ v2 ≤ v3 → J mX11_goes d 0 0 Q 0 0 47 [some (.inr (.inr 111)), some (.inl v1), some (.inl v2), some (.inl v3), some (.inl v2), some (.inl (nI 0)), some (.inl (nI 0)), some (.inl (-(nI 1))), some (.inl (nI 1)), some (.inl (nI 0)), u10, u11, u12] [] h) : J mX11_goes d 0 0 Q 0 0 24 [some (.inr (.inr 111)), some (.inl v1), some (.inl v2), some (.inl v3), u4, u5, u6, u7, u8, u9, u10, u11, u12] [] h := by
  refine bX11_goes_24  (fun p1 => ?_) (fun p1 => ?_)
  · exact bX11_goes_432  (K0 p1)
  · refine bX11_goes_29  ?_
    exact K1 p1

set_option maxRecDepth 20000 in
theorem t_X11_goes_47 {d  : Nat} {Q : Option MV → MH → Prop} {h : MH} {u10 u11 u12 : Option MV} {v1 v2 v3 v4 v5 v6 v7 v8 v9 : Int32} (hr : zRf h) (G0 : ¬ (h.1 111 38) ≤ v9 → ¬ (v4 / (nI 3)) = 0) (G1 : ¬ (h.1 111 38) ≤ v9 → vp_in (((nI 4) * v1) + v9) 20) (K0 : (h.1 111 38) ≤ v9 → v8 = 0 → J mX11_goes d 0 0 Q 0 0 426 [some (.inr (.inr 111)), some (.inl v1), some (.inl v2), some (.inl v3), some (.inl v4), some (.inl v5), some (.inl v6), some (.inl v7), some (.inl v8), some (.inl v9), u10, u11, u12] [] h) (K1 : (h.1 111 38) ≤ v9 → ¬ v8 = 0 → ¬ v7 = (-(nI 1)) → J mX11_goes d 0 0 Q 0 0 242 [some (.inr (.inr 111)), some (.inl v1), some (.inl v2), some (.inl v3), some (.inl v4), some (.inl v5), some (.inl v6), some (.inl v7), some (.inl v8), some (.inl (nI 0)), some (.inl (nI 0)), u11, u12] [] h) (K2 : (h.1 111 38) ≤ v9 → ¬ v8 = 0 → v7 = (-(nI 1)) → J mX11_goes d 0 0 Q 0 0 426 [some (.inr (.inr 111)), some (.inl v1), some (.inl v2), some (.inl v3), some (.inl v4), some (.inl v5), some (.inl v6), some (.inl v7), some (.inl v8), some (.inl v9), u10, u11, u12] [] h) (K3 : ¬ (h.1 111 38) ≤ v9 → v8 = 0 → J mX11_goes d 0 0 Q 0 0 144 [some (.inr (.inr 111)), some (.inl v1), some (.inl v2), some (.inl v3), some (.inl (v4 / (nI 3))), some (.inl (((nI 10) * v5) + ((v3 / (v4 / (nI 3))) - (v3 / (v4 / (nI 3))) / (nI 3) * (nI 3)))), some (.inl v6), some (.inl v7), some (.inl v8), some (.inl v9), some (.inl ((v3 / (v4 / (nI 3))) - (v3 / (v4 / (nI 3))) / (nI 3) * (nI 3))), some (.inl (h.1 129 (((nI 4) * v1) + v9).toNatClampNeg)), some (.inl (h.1 128 (((nI 4) * v1) + v9).toNatClampNeg))] [] h) (K4 : ¬ (h.1 111 38) ≤ v9 → ¬ v8 = 0 → 0 < (h.1 128 (((nI 4) * v1) + v9).toNatClampNeg) → J mX11_goes d 0 0 Q 0 0 121 [some (.inr (.inr 111)), some (.inl v1), some (.inl v2), some (.inl v3), some (.inl (v4 / (nI 3))), some (.inl (((nI 10) * v5) + ((v3 / (v4 / (nI 3))) - (v3 / (v4 / (nI 3))) / (nI 3) * (nI 3)))), some (.inl v6), some (.inl v7), some (.inl v8), some (.inl v9), some (.inl ((v3 / (v4 / (nI 3))) - (v3 / (v4 / (nI 3))) / (nI 3) * (nI 3))), some (.inl (h.1 129 (((nI 4) * v1) + v9).toNatClampNeg)), some (.inl (h.1 128 (((nI 4) * v1) + v9).toNatClampNeg))] [] h) (K5 : ¬ (h.1 111 38) ≤ v9 → ¬ v8 = 0 → ¬ 0 < (h.1 128 (((nI 4) * v1) + v9).toNatClampNeg) → ¬ ((v3 / (v4 / (nI 3))) - (v3 / (v4 / (nI 3))) / (nI 3) * (nI 3)) = 0 → J mX11_goes d 0 0 Q 0 0 144 [some (.inr (.inr 111)), some (.inl v1), some (.inl v2), some (.inl v3), some (.inl (v4 / (nI 3))), some (.inl (((nI 10) * v5) + ((v3 / (v4 / (nI 3))) - (v3 / (v4 / (nI 3))) / (nI 3) * (nI 3)))), some (.inl v6), some (.inl v7), some (.inl v8), some (.inl v9), some (.inl ((v3 / (v4 / (nI 3))) - (v3 / (v4 / (nI 3))) / (nI 3) * (nI 3))), some (.inl (h.1 129 (((nI 4) * v1) + v9).toNatClampNeg)), some (.inl (h.1 128 (((nI 4) * v1) + v9).toNatClampNeg))] [] h) (K6 : ¬ (h.1 111 38) ≤ v9 → ¬ v8 = 0 → ¬ 0 < (h.1 128 (((nI 4) * v1) + v9).toNatClampNeg) → ((v3 / (v4 / (nI 3))) - (v3 / (v4 / (nI 3))) / (nI 3) * (nI 3)) = 0 → J mX11_goes d 0 0 Q 0 0 121 [some (.inr (.inr 111)), some (.inl v1), some (.inl v2), some (.inl v3), some (.inl (v4 / (nI 3))), some (.inl (((nI 10) * v5) + ((v3 / (v4 / (nI 3))) - (v3 / (v4 / (nI 3))) / (nI 3) * (nI 3)))), some (.inl v6), some (.inl v7), some (.inl v8), some (.inl v9), some (.inl ((v3 / (v4 / (nI 3))) - (v3 / (v4 / (nI 3))) / (nI 3) * (nI 3))), some (.inl (h.1 129 (((nI 4) * v1) + v9).toNatClampNeg)), some (.inl (h.1 128 (((nI 4) * v1) + v9).toNatClampNeg))] [] h) : J mX11_goes d 0 0 Q 0 0 47 [some (.inr (.inr 111)), some (.inl v1), some (.inl v2), some (.inl v3), some (.inl v4), some (.inl v5), some (.inl v6), some (.inl v7), some (.inl v8), some (.inl v9), u10, u11, u12] [] h := by
  refine bX11_goes_47 hr (fun p1 => ?_) (fun p1 => ?_)
  · refine bX11_goes_222  (fun p2 => ?_) (fun p2 => ?_)
    · exact K0 p1 p2
    · refine bX11_goes_227  (fun p3 => ?_) (fun p3 => ?_)
      · refine bX11_goes_236  ?_
        exact K1 p1 p2 p3
      · refine bX11_goes_233  ?_
        exact K2 p1 p2 p3
  · refine bX11_goes_56 hr (G0 p1) (G1 p1) (fun p4 => ?_) (fun p4 => ?_)
    · exact K3 p1 p4
    · refine bX11_goes_111  (fun p5 => ?_) (fun p5 => ?_)
      · exact K4 p1 p4 p5
      · refine bX11_goes_116  (fun p6 => ?_) (fun p6 => ?_)
        · exact K5 p1 p4 p5 p6
        · exact K6 p1 p4 p5 p6

set_option maxRecDepth 20000 in
theorem t_X11_goes_121 {d  : Nat} {Q : Option MV → MH → Prop} {h : MH} {v1 v2 v3 v4 v5 v6 v7 v8 v9 v10 v11 v12 : Int32} (hr : zRf h) (K0 : v12 = 0 → J mX11_goes d 0 0 Q 0 0 140 [some (.inr (.inr 111)), some (.inl v1), some (.inl v2), some (.inl v3), some (.inl v4), some (.inl v5), some (.inl v6), some (.inl v7), some (.inl v8), some (.inl v9), some (.inl v10), some (.inl v11), some (.inl v12)] [] h) (K1 : ¬ v12 = 0 → ¬ (h.1 111 42) = 0 → J mX11_goes d 0 0 Q 0 0 140 [some (.inr (.inr 111)), some (.inl v1), some (.inl v2), some (.inl v3), some (.inl v4), some (.inl v5), some (.inl v6), some (.inl v7), some (.inl v8), some (.inl v9), some (.inl v10), some (.inl v11), some (.inl v12)] [] h) (K2 : ¬ v12 = 0 → (h.1 111 42) = 0 → v10 < v11 → J mX11_goes d 0 0 Q 0 0 144 [some (.inr (.inr 111)), some (.inl v1), some (.inl v2), some (.inl v3), some (.inl v4), some (.inl v5), some (.inl v6), some (.inl v7), some (.inl v8), some (.inl v9), some (.inl v10), some (.inl v11), some (.inl v12)] [] h) (K3 : ¬ v12 = 0 → (h.1 111 42) = 0 → ¬ v10 < v11 → J mX11_goes d 0 0 Q 0 0 140 [some (.inr (.inr 111)), some (.inl v1), some (.inl v2), some (.inl v3), some (.inl v4), some (.inl v5), some (.inl v6), some (.inl v7), some (.inl v8), some (.inl v9), some (.inl v10), some (.inl v11), some (.inl v12)] [] h) : J mX11_goes d 0 0 Q 0 0 121 [some (.inr (.inr 111)), some (.inl v1), some (.inl v2), some (.inl v3), some (.inl v4), some (.inl v5), some (.inl v6), some (.inl v7), some (.inl v8), some (.inl v9), some (.inl v10), some (.inl v11), some (.inl v12)] [] h := by
  refine bX11_goes_121  (fun p1 => ?_) (fun p1 => ?_)
  · exact K0 p1
  · refine bX11_goes_126 hr (fun p2 => ?_) (fun p2 => ?_)
    · exact K1 p1 p2
    · refine bX11_goes_133  (fun p3 => ?_) (fun p3 => ?_)
      · exact K2 p1 p2 p3
      · exact K3 p1 p2 p3

set_option maxRecDepth 20000 in
theorem t_X11_goes_140 {d  : Nat} {Q : Option MV → MH → Prop} {h : MH} {v1 v2 v3 v4 v5 v6 v7 v8 v9 v10 v11 v12 : Int32} (hr : zRf h) (G0 : v10 ≤ v11 → vp_in ((((nI 4) * v1) + (nI 4)) + v9) 20) (G1 : v10 ≤ v11 → ¬ v10 ≤ 0 → ¬ v12 ≤ 0 → ¬ v7 = (-(nI 1)) → ¬ v10 = 0) (G2 : ¬ v10 ≤ v11 → vp_in ((((nI 4) * v1) + (nI 4)) + v9) 20) (G3 : ¬ v10 ≤ v11 → ¬ v10 ≤ 0 → ¬ v12 ≤ 0 → ¬ v7 = (-(nI 1)) → ¬ v10 = 0) (K0 : v10 ≤ v11 → v10 ≤ 0 → J mX11_goes d 0 0 Q 0 0 216 [some (.inr (.inr 111)), some (.inl v1), some (.inl v2), some (.inl v3), some (.inl v4), some (.inl v5), some (.inl (v6 + (nI 0))), some (.inl v7), some (.inl (nI 1)), some (.inl v9), some (.inl v10), some (.inl v11), some (.inl v12)] [] (zsI h 129 ((((nI 4) * v1) + (nI 4)) + v9).toNatClampNeg v10)) (K1 : v10 ≤ v11 → ¬ v10 ≤ 0 → v12 ≤ 0 → J mX11_goes d 0 0 Q 0 0 216 [some (.inr (.inr 111)), some (.inl v1), some (.inl v2), some (.inl v3), some (.inl v4), some (.inl v5), some (.inl (v6 + (nI 0))), some (.inl v7), some (.inl (nI 1)), some (.inl v9), some (.inl v10), some (.inl v11), some (.inl v12)] [] (zsI h 129 ((((nI 4) * v1) + (nI 4)) + v9).toNatClampNeg v10)) (K2 : v10 ≤ v11 → ¬ v10 ≤ 0 → ¬ v12 ≤ 0 → v7 = (-(nI 1)) → J mX11_goes d 0 0 Q 0 0 209 [some (.inr (.inr 111)), some (.inl v1), some (.inl v2), some (.inl v3), some (.inl v4), some (.inl v5), some (.inl (v6 + (nI 0))), some (.inl v7), some (.inl (nI 1)), some (.inl v9), some (.inl v10), some (.inl v11), some (.inl v12)] [] (zsI h 129 ((((nI 4) * v1) + (nI 4)) + v9).toNatClampNeg v10)) (K3 : v10 ≤ v11 → ¬ v10 ≤ 0 → ¬ v12 ≤ 0 → ¬ v7 = (-(nI 1)) → v7 ≤ (v12 / v10) → J mX11_goes d 0 0 Q 0 0 216 [some (.inr (.inr 111)), some (.inl v1), some (.inl v2), some (.inl v3), some (.inl v4), some (.inl v5), some (.inl (v6 + (nI 0))), some (.inl v7), some (.inl (nI 1)), some (.inl v9), some (.inl v10), some (.inl v11), some (.inl v12)] [] (zsI h 129 ((((nI 4) * v1) + (nI 4)) + v9).toNatClampNeg v10)) (K4 : v10 ≤ v11 → ¬ v10 ≤ 0 → ¬ v12 ≤ 0 → ¬ v7 = (-(nI 1)) → ¬ v7 ≤ (v12 / v10) → J mX11_goes d 0 0 Q 0 0 209 [some (.inr (.inr 111)), some (.inl v1), some (.inl v2), some (.inl v3), some (.inl v4), some (.inl v5), some (.inl (v6 + (nI 0))), some (.inl v7), some (.inl (nI 1)), some (.inl v9), some (.inl v10), some (.inl v11), some (.inl v12)] [] (zsI h 129 ((((nI 4) * v1) + (nI 4)) + v9).toNatClampNeg v10)) (K5 : ¬ v10 ≤ v11 → v10 ≤ 0 → J mX11_goes d 0 0 Q 0 0 216 [some (.inr (.inr 111)), some (.inl v1), some (.inl v2), some (.inl v3), some (.inl v4), some (.inl v5), some (.inl (v6 + (v10 - v11))), some (.inl v7), some (.inl (nI 1)), some (.inl v9), some (.inl v10), some (.inl v11), some (.inl v12)] [] (zsI h 129 ((((nI 4) * v1) + (nI 4)) + v9).toNatClampNeg v10)) (K6 : ¬ v10 ≤ v11 → ¬ v10 ≤ 0 → v12 ≤ 0 → J mX11_goes d 0 0 Q 0 0 216 [some (.inr (.inr 111)), some (.inl v1), some (.inl v2), some (.inl v3), some (.inl v4), some (.inl v5), some (.inl (v6 + (v10 - v11))), some (.inl v7), some (.inl (nI 1)), some (.inl v9), some (.inl v10), some (.inl v11), some (.inl v12)] [] (zsI h 129 ((((nI 4) * v1) + (nI 4)) + v9).toNatClampNeg v10)) (K7 : ¬ v10 ≤ v11 → ¬ v10 ≤ 0 → ¬ v12 ≤ 0 → v7 = (-(nI 1)) → J mX11_goes d 0 0 Q 0 0 209 [some (.inr (.inr 111)), some (.inl v1), some (.inl v2), some (.inl v3), some (.inl v4), some (.inl v5), some (.inl (v6 + (v10 - v11))), some (.inl v7), some (.inl (nI 1)), some (.inl v9), some (.inl v10), some (.inl v11), some (.inl v12)] [] (zsI h 129 ((((nI 4) * v1) + (nI 4)) + v9).toNatClampNeg v10)) (K8 : ¬ v10 ≤ v11 → ¬ v10 ≤ 0 → ¬ v12 ≤ 0 → ¬ v7 = (-(nI 1)) → v7 ≤ (v12 / v10) → J mX11_goes d 0 0 Q 0 0 216 [some (.inr (.inr 111)), some (.inl v1), some (.inl v2), some (.inl v3), some (.inl v4), some (.inl v5), some (.inl (v6 + (v10 - v11))), some (.inl v7), some (.inl (nI 1)), some (.inl v9), some (.inl v10), some (.inl v11), some (.inl v12)] [] (zsI h 129 ((((nI 4) * v1) + (nI 4)) + v9).toNatClampNeg v10)) (K9 : ¬ v10 ≤ v11 → ¬ v10 ≤ 0 → ¬ v12 ≤ 0 → ¬ v7 = (-(nI 1)) → ¬ v7 ≤ (v12 / v10) → J mX11_goes d 0 0 Q 0 0 209 [some (.inr (.inr 111)), some (.inl v1), some (.inl v2), some (.inl v3), some (.inl v4), some (.inl v5), some (.inl (v6 + (v10 - v11))), some (.inl v7), some (.inl (nI 1)), some (.inl v9), some (.inl v10), some (.inl v11), some (.inl v12)] [] (zsI h 129 ((((nI 4) * v1) + (nI 4)) + v9).toNatClampNeg v10)) : J mX11_goes d 0 0 Q 0 0 140 [some (.inr (.inr 111)), some (.inl v1), some (.inl v2), some (.inl v3), some (.inl v4), some (.inl v5), some (.inl v6), some (.inl v7), some (.inl v8), some (.inl v9), some (.inl v10), some (.inl v11), some (.inl v12)] [] h := by
  refine bX11_goes_140  ?_
  refine bX11_goes_145  (fun p1 => ?_) (fun p1 => ?_)
  · refine bX11_goes_164  ?_
    refine bX11_goes_165 hr (G0 p1) (fun p2 => ?_) (fun p2 => ?_)
    · exact K0 p1 p2
    · refine bX11_goes_188  (fun p3 => ?_) (fun p3 => ?_)
      · exact K1 p1 p2 p3
      · refine bX11_goes_193  (fun p4 => ?_) (fun p4 => ?_)
        · exact K2 p1 p2 p3 p4
        · refine bX11_goes_199 (G1 p1 p2 p3 p4) (fun p5 => ?_) (fun p5 => ?_)
          · exact K3 p1 p2 p3 p4 p5
          · exact K4 p1 p2 p3 p4 p5
  · refine bX11_goes_156  ?_
    refine bX11_goes_165 hr (G2 p1) (fun p6 => ?_) (fun p6 => ?_)
    · exact K5 p1 p6
    · refine bX11_goes_188  (fun p7 => ?_) (fun p7 => ?_)
      · exact K6 p1 p6 p7
      · refine bX11_goes_193  (fun p8 => ?_) (fun p8 => ?_)
        · exact K7 p1 p6 p7 p8
        · refine bX11_goes_199 (G3 p1 p6 p7 p8) (fun p9 => ?_) (fun p9 => ?_)
          · exact K8 p1 p6 p7 p8 p9
          · exact K9 p1 p6 p7 p8 p9

set_option maxRecDepth 20000 in
theorem t_X11_goes_144 {d  : Nat} {Q : Option MV → MH → Prop} {h : MH} {v1 v2 v3 v4 v5 v6 v7 v8 v9 v10 v11 v12 : Int32} (hr : zRf h) (G0 : v10 ≤ v11 → vp_in ((((nI 4) * v1) + (nI 4)) + v9) 20) (G1 : v10 ≤ v11 → ¬ v10 ≤ 0 → ¬ v12 ≤ 0 → ¬ v7 = (-(nI 1)) → ¬ v10 = 0) (G2 : ¬ v10 ≤ v11 → vp_in ((((nI 4) * v1) + (nI 4)) + v9) 20) (G3 : ¬ v10 ≤ v11 → ¬ v10 ≤ 0 → ¬ v12 ≤ 0 → ¬ v7 = (-(nI 1)) → ¬ v10 = 0) (K0 : v10 ≤ v11 → v10 ≤ 0 → J mX11_goes d 0 0 Q 0 0 216 [some (.inr (.inr 111)), some (.inl v1), some (.inl v2), some (.inl v3), some (.inl v4), some (.inl v5), some (.inl (v6 + (nI 0))), some (.inl v7), some (.inl (nI 0)), some (.inl v9), some (.inl v10), some (.inl v11), some (.inl v12)] [] (zsI h 129 ((((nI 4) * v1) + (nI 4)) + v9).toNatClampNeg v10)) (K1 : v10 ≤ v11 → ¬ v10 ≤ 0 → v12 ≤ 0 → J mX11_goes d 0 0 Q 0 0 216 [some (.inr (.inr 111)), some (.inl v1), some (.inl v2), some (.inl v3), some (.inl v4), some (.inl v5), some (.inl (v6 + (nI 0))), some (.inl v7), some (.inl (nI 0)), some (.inl v9), some (.inl v10), some (.inl v11), some (.inl v12)] [] (zsI h 129 ((((nI 4) * v1) + (nI 4)) + v9).toNatClampNeg v10)) (K2 : v10 ≤ v11 → ¬ v10 ≤ 0 → ¬ v12 ≤ 0 → v7 = (-(nI 1)) → J mX11_goes d 0 0 Q 0 0 209 [some (.inr (.inr 111)), some (.inl v1), some (.inl v2), some (.inl v3), some (.inl v4), some (.inl v5), some (.inl (v6 + (nI 0))), some (.inl v7), some (.inl (nI 0)), some (.inl v9), some (.inl v10), some (.inl v11), some (.inl v12)] [] (zsI h 129 ((((nI 4) * v1) + (nI 4)) + v9).toNatClampNeg v10)) (K3 : v10 ≤ v11 → ¬ v10 ≤ 0 → ¬ v12 ≤ 0 → ¬ v7 = (-(nI 1)) → v7 ≤ (v12 / v10) → J mX11_goes d 0 0 Q 0 0 216 [some (.inr (.inr 111)), some (.inl v1), some (.inl v2), some (.inl v3), some (.inl v4), some (.inl v5), some (.inl (v6 + (nI 0))), some (.inl v7), some (.inl (nI 0)), some (.inl v9), some (.inl v10), some (.inl v11), some (.inl v12)] [] (zsI h 129 ((((nI 4) * v1) + (nI 4)) + v9).toNatClampNeg v10)) (K4 : v10 ≤ v11 → ¬ v10 ≤ 0 → ¬ v12 ≤ 0 → ¬ v7 = (-(nI 1)) → ¬ v7 ≤ (v12 / v10) → J mX11_goes d 0 0 Q 0 0 209 [some (.inr (.inr 111)), some (.inl v1), some (.inl v2), some (.inl v3), some (.inl v4), some (.inl v5), some (.inl (v6 + (nI 0))), some (.inl v7), some (.inl (nI 0)), some (.inl v9), some (.inl v10), some (.inl v11), some (.inl v12)] [] (zsI h 129 ((((nI 4) * v1) + (nI 4)) + v9).toNatClampNeg v10)) (K5 : ¬ v10 ≤ v11 → v10 ≤ 0 → J mX11_goes d 0 0 Q 0 0 216 [some (.inr (.inr 111)), some (.inl v1), some (.inl v2), some (.inl v3), some (.inl v4), some (.inl v5), some (.inl (v6 + (v10 - v11))), some (.inl v7), some (.inl (nI 0)), some (.inl v9), some (.inl v10), some (.inl v11), some (.inl v12)] [] (zsI h 129 ((((nI 4) * v1) + (nI 4)) + v9).toNatClampNeg v10)) (K6 : ¬ v10 ≤ v11 → ¬ v10 ≤ 0 → v12 ≤ 0 → J mX11_goes d 0 0 Q 0 0 216 [some (.inr (.inr 111)), some (.inl v1), some (.inl v2), some (.inl v3), some (.inl v4), some (.inl v5), some (.inl (v6 + (v10 - v11))), some (.inl v7), some (.inl (nI 0)), some (.inl v9), some (.inl v10), some (.inl v11), some (.inl v12)] [] (zsI h 129 ((((nI 4) * v1) + (nI 4)) + v9).toNatClampNeg v10)) (K7 : ¬ v10 ≤ v11 → ¬ v10 ≤ 0 → ¬ v12 ≤ 0 → v7 = (-(nI 1)) → J mX11_goes d 0 0 Q 0 0 209 [some (.inr (.inr 111)), some (.inl v1), some (.inl v2), some (.inl v3), some (.inl v4), some (.inl v5), some (.inl (v6 + (v10 - v11))), some (.inl v7), some (.inl (nI 0)), some (.inl v9), some (.inl v10), some (.inl v11), some (.inl v12)] [] (zsI h 129 ((((nI 4) * v1) + (nI 4)) + v9).toNatClampNeg v10)) (K8 : ¬ v10 ≤ v11 → ¬ v10 ≤ 0 → ¬ v12 ≤ 0 → ¬ v7 = (-(nI 1)) → v7 ≤ (v12 / v10) → J mX11_goes d 0 0 Q 0 0 216 [some (.inr (.inr 111)), some (.inl v1), some (.inl v2), some (.inl v3), some (.inl v4), some (.inl v5), some (.inl (v6 + (v10 - v11))), some (.inl v7), some (.inl (nI 0)), some (.inl v9), some (.inl v10), some (.inl v11), some (.inl v12)] [] (zsI h 129 ((((nI 4) * v1) + (nI 4)) + v9).toNatClampNeg v10)) (K9 : ¬ v10 ≤ v11 → ¬ v10 ≤ 0 → ¬ v12 ≤ 0 → ¬ v7 = (-(nI 1)) → ¬ v7 ≤ (v12 / v10) → J mX11_goes d 0 0 Q 0 0 209 [some (.inr (.inr 111)), some (.inl v1), some (.inl v2), some (.inl v3), some (.inl v4), some (.inl v5), some (.inl (v6 + (v10 - v11))), some (.inl v7), some (.inl (nI 0)), some (.inl v9), some (.inl v10), some (.inl v11), some (.inl v12)] [] (zsI h 129 ((((nI 4) * v1) + (nI 4)) + v9).toNatClampNeg v10)) : J mX11_goes d 0 0 Q 0 0 144 [some (.inr (.inr 111)), some (.inl v1), some (.inl v2), some (.inl v3), some (.inl v4), some (.inl v5), some (.inl v6), some (.inl v7), some (.inl v8), some (.inl v9), some (.inl v10), some (.inl v11), some (.inl v12)] [] h := by
  refine bX11_goes_144  ?_
  refine bX11_goes_145  (fun p1 => ?_) (fun p1 => ?_)
  · refine bX11_goes_164  ?_
    refine bX11_goes_165 hr (G0 p1) (fun p2 => ?_) (fun p2 => ?_)
    · exact K0 p1 p2
    · refine bX11_goes_188  (fun p3 => ?_) (fun p3 => ?_)
      · exact K1 p1 p2 p3
      · refine bX11_goes_193  (fun p4 => ?_) (fun p4 => ?_)
        · exact K2 p1 p2 p3 p4
        · refine bX11_goes_199 (G1 p1 p2 p3 p4) (fun p5 => ?_) (fun p5 => ?_)
          · exact K3 p1 p2 p3 p4 p5
          · exact K4 p1 p2 p3 p4 p5
  · refine bX11_goes_156  ?_
    refine bX11_goes_165 hr (G2 p1) (fun p6 => ?_) (fun p6 => ?_)
    · exact K5 p1 p6
    · refine bX11_goes_188  (fun p7 => ?_) (fun p7 => ?_)
      · exact K6 p1 p6 p7
      · refine bX11_goes_193  (fun p8 => ?_) (fun p8 => ?_)
        · exact K7 p1 p6 p7 p8
        · refine bX11_goes_199 (G3 p1 p6 p7 p8) (fun p9 => ?_) (fun p9 => ?_)
          · exact K8 p1 p6 p7 p8 p9
          · exact K9 p1 p6 p7 p8 p9

set_option maxRecDepth 20000 in
theorem t_X11_goes_209 {d  : Nat} {Q : Option MV → MH → Prop} {h : MH} {v1 v2 v3 v4 v5 v6 v7 v8 v9 v10 v11 v12 : Int32} (G0 : ¬ v10 = 0) (K0 : J mX11_goes d 0 0 Q 0 0 216 [some (.inr (.inr 111)), some (.inl v1), some (.inl v2), some (.inl v3), some (.inl v4), some (.inl v5), some (.inl v6), some (.inl (v12 / v10)), some (.inl v8), some (.inl v9), some (.inl v10), some (.inl v11), some (.inl v12)] [] h) : J mX11_goes d 0 0 Q 0 0 209 [some (.inr (.inr 111)), some (.inl v1), some (.inl v2), some (.inl v3), some (.inl v4), some (.inl v5), some (.inl v6), some (.inl v7), some (.inl v8), some (.inl v9), some (.inl v10), some (.inl v11), some (.inl v12)] [] h := by
  refine bX11_goes_209 (G0) ?_
  exact K0

set_option maxRecDepth 20000 in
theorem t_X11_goes_216 {d  : Nat} {Q : Option MV → MH → Prop} {h : MH} {v1 v2 v3 v4 v5 v6 v7 v8 v9 v10 v11 v12 : Int32} (K0 : J mX11_goes d 0 0 Q 0 0 47 [some (.inr (.inr 111)), some (.inl v1), some (.inl v2), some (.inl v3), some (.inl v4), some (.inl v5), some (.inl v6), some (.inl v7), some (.inl v8), some (.inl (v9 + nI 1)), some (.inl v10), some (.inl v11), some (.inl v12)] [] h) : J mX11_goes d 0 0 Q 0 0 216 [some (.inr (.inr 111)), some (.inl v1), some (.inl v2), some (.inl v3), some (.inl v4), some (.inl v5), some (.inl v6), some (.inl v7), some (.inl v8), some (.inl v9), some (.inl v10), some (.inl v11), some (.inl v12)] [] h := by
  refine bX11_goes_216  ?_
  exact K0

set_option maxRecDepth 20000 in
theorem t_X11_goes_242 {d d1' : Nat} {Q : Option MV → MH → Prop} {h : MH} {u11 u12 : Option MV} {v1 v2 v3 v4 v5 v6 v7 v8 v9 v10 : Int32} (hr : zRf h) (hd1' : d1' + 1 ≤ d) (G0 : (h.1 111 38) ≤ v10 → vp_in v1 5) (G1 : (h.1 111 38) ≤ v10 → vp_in (v1 + (nI 1)) 5) (G2 : ¬ (h.1 111 38) ≤ v10 → vp_in ((((nI 4) * v1) + (nI 4)) + v10) 20) (G3 : ¬ (h.1 111 38) ≤ v10 → vp_in (((nI 4) * v1) + v10) 20) (G4 : ¬ (h.1 111 38) ≤ v10 → ¬ ((zsI h 128 ((((nI 4) * v1) + (nI 4)) + v10).toNatClampNeg ((h.1 128 (((nI 4) * v1) + v10).toNatClampNeg) - ((h.1 129 ((((nI 4) * v1) + (nI 4)) + v10).toNatClampNeg) * v7))).1 128 ((((nI 4) * v1) + (nI 4)) + v10).toNatClampNeg) = 0 → zokA (zsI h 128 ((((nI 4) * v1) + (nI 4)) + v10).toNatClampNeg ((h.1 128 (((nI 4) * v1) + v10).toNatClampNeg) - ((h.1 129 ((((nI 4) * v1) + (nI 4)) + v10).toNatClampNeg) * v7))) 129 20 ((((nI 4) * v1) + (nI 4)) + v10)) (G5 : ¬ (h.1 111 38) ≤ v10 → ((zsI h 128 ((((nI 4) * v1) + (nI 4)) + v10).toNatClampNeg ((h.1 128 (((nI 4) * v1) + v10).toNatClampNeg) - ((h.1 129 ((((nI 4) * v1) + (nI 4)) + v10).toNatClampNeg) * v7))).1 128 ((((nI 4) * v1) + (nI 4)) + v10).toNatClampNeg) = 0 → zokA (zsI h 128 ((((nI 4) * v1) + (nI 4)) + v10).toNatClampNeg ((h.1 128 (((nI 4) * v1) + v10).toNatClampNeg) - ((h.1 129 ((((nI 4) * v1) + (nI 4)) + v10).toNatClampNeg) * v7))) 129 20 ((((nI 4) * v1) + (nI 4)) + v10)) (K0 : (h.1 111 38) ≤ v10 → Con mX11_meets d1' 0 0 [.inr (.inr 111), .inl (v1 + (nI 1))] (zsI (zsI (zsI h 134 v1.toNatClampNeg v5) 130 (v1 + (nI 1)).toNatClampNeg (((zsI h 134 v1.toNatClampNeg v5).1 130 v1.toNatClampNeg) + v7)) 131 (v1 + (nI 1)).toNatClampNeg (((zsI (zsI h 134 v1.toNatClampNeg v5) 130 (v1 + (nI 1)).toNatClampNeg (((zsI h 134 v1.toNatClampNeg v5).1 130 v1.toNatClampNeg) + v7)).1 131 v1.toNatClampNeg) + v6)) (zrv fun h' => J mX11_goes d 0 0 Q 0 0 414 [some (.inr (.inr 111)), some (.inl v1), some (.inl v2), some (.inl v3), some (.inl v4), some (.inl v5), some (.inl v6), some (.inl v7), some (.inl v8), some (.inl v9), some (.inl v10), u11, u12] [] h')) (K1 : ¬ (h.1 111 38) ≤ v10 → ¬ ((zsI h 128 ((((nI 4) * v1) + (nI 4)) + v10).toNatClampNeg ((h.1 128 (((nI 4) * v1) + v10).toNatClampNeg) - ((h.1 129 ((((nI 4) * v1) + (nI 4)) + v10).toNatClampNeg) * v7))).1 128 ((((nI 4) * v1) + (nI 4)) + v10).toNatClampNeg) = 0 → ¬ v9 = 0 → J mX11_goes d 0 0 Q 0 0 352 [some (.inr (.inr 111)), some (.inl v1), some (.inl v2), some (.inl v3), some (.inl v4), some (.inl v5), some (.inl v6), some (.inl v7), some (.inl v8), some (.inl v9), some (.inl v10), some (.inl (h.1 129 ((((nI 4) * v1) + (nI 4)) + v10).toNatClampNeg)), u12] [] (zsI (zsI h 128 ((((nI 4) * v1) + (nI 4)) + v10).toNatClampNeg ((h.1 128 (((nI 4) * v1) + v10).toNatClampNeg) - ((h.1 129 ((((nI 4) * v1) + (nI 4)) + v10).toNatClampNeg) * v7))) 129 ((((nI 4) * v1) + (nI 4)) + v10).toNatClampNeg (h.1 129 ((((nI 4) * v1) + (nI 4)) + v10).toNatClampNeg))) (K2 : ¬ (h.1 111 38) ≤ v10 → ¬ ((zsI h 128 ((((nI 4) * v1) + (nI 4)) + v10).toNatClampNeg ((h.1 128 (((nI 4) * v1) + v10).toNatClampNeg) - ((h.1 129 ((((nI 4) * v1) + (nI 4)) + v10).toNatClampNeg) * v7))).1 128 ((((nI 4) * v1) + (nI 4)) + v10).toNatClampNeg) = 0 → v9 = 0 → ((zsI (zsI h 128 ((((nI 4) * v1) + (nI 4)) + v10).toNatClampNeg ((h.1 128 (((nI 4) * v1) + v10).toNatClampNeg) - ((h.1 129 ((((nI 4) * v1) + (nI 4)) + v10).toNatClampNeg) * v7))) 129 ((((nI 4) * v1) + (nI 4)) + v10).toNatClampNeg (h.1 129 ((((nI 4) * v1) + (nI 4)) + v10).toNatClampNeg)).1 128 ((((nI 4) * v1) + (nI 4)) + v10).toNatClampNeg) ≤ 0 → J mX11_goes d 0 0 Q 0 0 242 [some (.inr (.inr 111)), some (.inl v1), some (.inl v2), some (.inl v3), some (.inl v4), some (.inl v5), some (.inl v6), some (.inl v7), some (.inl v8), some (.inl (nI 0)), some (.inl (v10 + nI 1)), some (.inl (h.1 129 ((((nI 4) * v1) + (nI 4)) + v10).toNatClampNeg)), u12] [] (zsI (zsI h 128 ((((nI 4) * v1) + (nI 4)) + v10).toNatClampNeg ((h.1 128 (((nI 4) * v1) + v10).toNatClampNeg) - ((h.1 129 ((((nI 4) * v1) + (nI 4)) + v10).toNatClampNeg) * v7))) 129 ((((nI 4) * v1) + (nI 4)) + v10).toNatClampNeg (h.1 129 ((((nI 4) * v1) + (nI 4)) + v10).toNatClampNeg))) (K3 : ¬ (h.1 111 38) ≤ v10 → ¬ ((zsI h 128 ((((nI 4) * v1) + (nI 4)) + v10).toNatClampNeg ((h.1 128 (((nI 4) * v1) + v10).toNatClampNeg) - ((h.1 129 ((((nI 4) * v1) + (nI 4)) + v10).toNatClampNeg) * v7))).1 128 ((((nI 4) * v1) + (nI 4)) + v10).toNatClampNeg) = 0 → v9 = 0 → ¬ ((zsI (zsI h 128 ((((nI 4) * v1) + (nI 4)) + v10).toNatClampNeg ((h.1 128 (((nI 4) * v1) + v10).toNatClampNeg) - ((h.1 129 ((((nI 4) * v1) + (nI 4)) + v10).toNatClampNeg) * v7))) 129 ((((nI 4) * v1) + (nI 4)) + v10).toNatClampNeg (h.1 129 ((((nI 4) * v1) + (nI 4)) + v10).toNatClampNeg)).1 128 ((((nI 4) * v1) + (nI 4)) + v10).toNatClampNeg) ≤ 0 → J mX11_goes d 0 0 Q 0 0 352 [some (.inr (.inr 111)), some (.inl v1), some (.inl v2), some (.inl v3), some (.inl v4), some (.inl v5), some (.inl v6), some (.inl v7), some (.inl v8), some (.inl v9), some (.inl v10), some (.inl (h.1 129 ((((nI 4) * v1) + (nI 4)) + v10).toNatClampNeg)), u12] [] (zsI (zsI h 128 ((((nI 4) * v1) + (nI 4)) + v10).toNatClampNeg ((h.1 128 (((nI 4) * v1) + v10).toNatClampNeg) - ((h.1 129 ((((nI 4) * v1) + (nI 4)) + v10).toNatClampNeg) * v7))) 129 ((((nI 4) * v1) + (nI 4)) + v10).toNatClampNeg (h.1 129 ((((nI 4) * v1) + (nI 4)) + v10).toNatClampNeg))) (K4 : ¬ (h.1 111 38) ≤ v10 → ((zsI h 128 ((((nI 4) * v1) + (nI 4)) + v10).toNatClampNeg ((h.1 128 (((nI 4) * v1) + v10).toNatClampNeg) - ((h.1 129 ((((nI 4) * v1) + (nI 4)) + v10).toNatClampNeg) * v7))).1 128 ((((nI 4) * v1) + (nI 4)) + v10).toNatClampNeg) = 0 → ¬ v9 = 0 → J mX11_goes d 0 0 Q 0 0 352 [some (.inr (.inr 111)), some (.inl v1), some (.inl v2), some (.inl v3), some (.inl v4), some (.inl v5), some (.inl v6), some (.inl v7), some (.inl v8), some (.inl v9), some (.inl v10), some (.inl (h.1 129 ((((nI 4) * v1) + (nI 4)) + v10).toNatClampNeg)), u12] [] (zsI (zsI h 128 ((((nI 4) * v1) + (nI 4)) + v10).toNatClampNeg ((h.1 128 (((nI 4) * v1) + v10).toNatClampNeg) - ((h.1 129 ((((nI 4) * v1) + (nI 4)) + v10).toNatClampNeg) * v7))) 129 ((((nI 4) * v1) + (nI 4)) + v10).toNatClampNeg (nI 0))) (K5 : ¬ (h.1 111 38) ≤ v10 → ((zsI h 128 ((((nI 4) * v1) + (nI 4)) + v10).toNatClampNeg ((h.1 128 (((nI 4) * v1) + v10).toNatClampNeg) - ((h.1 129 ((((nI 4) * v1) + (nI 4)) + v10).toNatClampNeg) * v7))).1 128 ((((nI 4) * v1) + (nI 4)) + v10).toNatClampNeg) = 0 → v9 = 0 → ((zsI (zsI h 128 ((((nI 4) * v1) + (nI 4)) + v10).toNatClampNeg ((h.1 128 (((nI 4) * v1) + v10).toNatClampNeg) - ((h.1 129 ((((nI 4) * v1) + (nI 4)) + v10).toNatClampNeg) * v7))) 129 ((((nI 4) * v1) + (nI 4)) + v10).toNatClampNeg (nI 0)).1 128 ((((nI 4) * v1) + (nI 4)) + v10).toNatClampNeg) ≤ 0 → J mX11_goes d 0 0 Q 0 0 242 [some (.inr (.inr 111)), some (.inl v1), some (.inl v2), some (.inl v3), some (.inl v4), some (.inl v5), some (.inl v6), some (.inl v7), some (.inl v8), some (.inl (nI 0)), some (.inl (v10 + nI 1)), some (.inl (h.1 129 ((((nI 4) * v1) + (nI 4)) + v10).toNatClampNeg)), u12] [] (zsI (zsI h 128 ((((nI 4) * v1) + (nI 4)) + v10).toNatClampNeg ((h.1 128 (((nI 4) * v1) + v10).toNatClampNeg) - ((h.1 129 ((((nI 4) * v1) + (nI 4)) + v10).toNatClampNeg) * v7))) 129 ((((nI 4) * v1) + (nI 4)) + v10).toNatClampNeg (nI 0))) (K6 : ¬ (h.1 111 38) ≤ v10 → ((zsI h 128 ((((nI 4) * v1) + (nI 4)) + v10).toNatClampNeg ((h.1 128 (((nI 4) * v1) + v10).toNatClampNeg) - ((h.1 129 ((((nI 4) * v1) + (nI 4)) + v10).toNatClampNeg) * v7))).1 128 ((((nI 4) * v1) + (nI 4)) + v10).toNatClampNeg) = 0 → v9 = 0 → ¬ ((zsI (zsI h 128 ((((nI 4) * v1) + (nI 4)) + v10).toNatClampNeg ((h.1 128 (((nI 4) * v1) + v10).toNatClampNeg) - ((h.1 129 ((((nI 4) * v1) + (nI 4)) + v10).toNatClampNeg) * v7))) 129 ((((nI 4) * v1) + (nI 4)) + v10).toNatClampNeg (nI 0)).1 128 ((((nI 4) * v1) + (nI 4)) + v10).toNatClampNeg) ≤ 0 → J mX11_goes d 0 0 Q 0 0 352 [some (.inr (.inr 111)), some (.inl v1), some (.inl v2), some (.inl v3), some (.inl v4), some (.inl v5), some (.inl v6), some (.inl v7), some (.inl v8), some (.inl v9), some (.inl v10), some (.inl (h.1 129 ((((nI 4) * v1) + (nI 4)) + v10).toNatClampNeg)), u12] [] (zsI (zsI h 128 ((((nI 4) * v1) + (nI 4)) + v10).toNatClampNeg ((h.1 128 (((nI 4) * v1) + v10).toNatClampNeg) - ((h.1 129 ((((nI 4) * v1) + (nI 4)) + v10).toNatClampNeg) * v7))) 129 ((((nI 4) * v1) + (nI 4)) + v10).toNatClampNeg (nI 0))) : J mX11_goes d 0 0 Q 0 0 242 [some (.inr (.inr 111)), some (.inl v1), some (.inl v2), some (.inl v3), some (.inl v4), some (.inl v5), some (.inl v6), some (.inl v7), some (.inl v8), some (.inl v9), some (.inl v10), u11, u12] [] h := by
  refine bX11_goes_242 hr (fun p1 => ?_) (fun p1 => ?_)
  · exact bX11_goes_365 hr (G0 p1) (G1 p1) hd1' (K0 p1)
  · refine bX11_goes_251 hr (G2 p1) (G3 p1) (fun p2 => ?_) (fun p2 => ?_)
    · refine bX11_goes_328  ?_
      refine bX11_goes_330 (G4 p1 p2) (fun p3 => ?_) (fun p3 => ?_)
      · exact K1 p1 p2 p3
      · refine bX11_goes_336 hr (G2 p1) (fun p4 => ?_) (fun p4 => ?_)
        · refine bX11_goes_356  ?_
          refine bX11_goes_357  ?_
          exact K2 p1 p2 p3 p4
        · exact K3 p1 p2 p3 p4
    · refine bX11_goes_324  ?_
      refine bX11_goes_330 (G5 p1 p2) (fun p5 => ?_) (fun p5 => ?_)
      · exact K4 p1 p2 p5
      · refine bX11_goes_336 hr (G2 p1) (fun p6 => ?_) (fun p6 => ?_)
        · refine bX11_goes_356  ?_
          refine bX11_goes_357  ?_
          exact K5 p1 p2 p5 p6
        · exact K6 p1 p2 p5 p6

set_option maxRecDepth 20000 in
theorem t_X11_goes_352 {d  : Nat} {Q : Option MV → MH → Prop} {h : MH} {u12 : Option MV} {v1 v2 v3 v4 v5 v6 v7 v8 v9 v10 v11 : Int32} (K0 : J mX11_goes d 0 0 Q 0 0 242 [some (.inr (.inr 111)), some (.inl v1), some (.inl v2), some (.inl v3), some (.inl v4), some (.inl v5), some (.inl v6), some (.inl v7), some (.inl v8), some (.inl (nI 1)), some (.inl (v10 + nI 1)), some (.inl v11), u12] [] h) : J mX11_goes d 0 0 Q 0 0 352 [some (.inr (.inr 111)), some (.inl v1), some (.inl v2), some (.inl v3), some (.inl v4), some (.inl v5), some (.inl v6), some (.inl v7), some (.inl v8), some (.inl v9), some (.inl v10), some (.inl v11), u12] [] h := by
  refine bX11_goes_352  ?_
  refine bX11_goes_357  ?_
  exact K0

set_option maxRecDepth 20000 in
theorem t_X11_goes_414 {d d1' : Nat} {Q : Option MV → MH → Prop} {h : MH} {u11 u12 : Option MV} {v1 v2 v3 v4 v5 v6 v7 v8 v9 v10 : Int32} (hr : zRf h) (hd1' : d1' + 1 ≤ d) (K0 : v9 = 0 → J mX11_goes d 0 0 Q 0 0 426 [some (.inr (.inr 111)), some (.inl v1), some (.inl v2), some (.inl v3), some (.inl v4), some (.inl v5), some (.inl v6), some (.inl v7), some (.inl v8), some (.inl v9), some (.inl v10), u11, u12] [] h) (K1 : ¬ v9 = 0 → Con mX11_goes d1' 0 0 [.inr (.inr 111), .inl (v1 + (nI 1))] h (zrv fun h' => J mX11_goes d 0 0 Q 0 0 426 [some (.inr (.inr 111)), some (.inl v1), some (.inl v2), some (.inl v3), some (.inl v4), some (.inl v5), some (.inl v6), some (.inl v7), some (.inl v8), some (.inl v9), some (.inl v10), u11, u12] [] h')) : J mX11_goes d 0 0 Q 0 0 414 [some (.inr (.inr 111)), some (.inl v1), some (.inl v2), some (.inl v3), some (.inl v4), some (.inl v5), some (.inl v6), some (.inl v7), some (.inl v8), some (.inl v9), some (.inl v10), u11, u12] [] h := by
  refine bX11_goes_414  (fun p1 => ?_) (fun p1 => ?_)
  · exact K0 p1
  · exact bX11_goes_419 hr hd1' (K1 p1)

set_option maxRecDepth 20000 in
theorem t_X11_goes_426 {d  : Nat} {Q : Option MV → MH → Prop} {h : MH} {u10 u11 u12 : Option MV} {v1 v2 v3 v4 v5 v6 v7 v8 v9 : Int32} (K0 : J mX11_goes d 0 0 Q 0 0 24 [some (.inr (.inr 111)), some (.inl v1), some (.inl v2), some (.inl (v3 + nI 1)), some (.inl v4), some (.inl v5), some (.inl v6), some (.inl v7), some (.inl v8), some (.inl v9), u10, u11, u12] [] h) : J mX11_goes d 0 0 Q 0 0 426 [some (.inr (.inr 111)), some (.inl v1), some (.inl v2), some (.inl v3), some (.inl v4), some (.inl v5), some (.inl v6), some (.inl v7), some (.inl v8), some (.inl v9), u10, u11, u12] [] h := by
  refine bX11_goes_426  ?_
  exact K0

set_option maxRecDepth 20000 in
theorem t_X11_can {d d1' : Nat} {Q : Option MV → MH → Prop} {h : MH} {v1 v2 v3 : Int32} (hr : zRf h) (hd1' : d1' + 1 ≤ d) (K0 : Con mX11_isSet d1' 0 0 [.inr (.inr 111), .inl v1] (zsI h 111 0 (nI 0)) (zri fun (x : Int32) h' => J mX11_can d 0 0 Q 0 0 10 [some (.inr (.inr 111)), some (.inl v1), some (.inl v2), some (.inl v3)] [.inl x] h')) : Con mX11_can d 0 0 [.inr (.inr 111), .inl v1, .inl v2, .inl v3] h Q := by
  refine Con.intro rfl (Nat.le_of_ble_eq_true rfl) ?_
  show J mX11_can d 0 0 Q 0 0 0 [some (.inr (.inr 111)), some (.inl v1), some (.inl v2), some (.inl v3)] [] h
  exact bX11_can_0 hr hd1' (K0)

set_option maxRecDepth 20000 in
theorem t_X11_can_10 {d d1' : Nat} {Q : Option MV → MH → Prop} {h : MH} {v1 v2 v3 vs0 : Int32} (hr : zRf h) (hd1' : d1' + 1 ≤ d) (K0 : vs0 = 0 → Q (some (.inl (-(nI 3)))) h) (K1 : ¬ vs0 = 0 → (nI 1) ≤ v3 → Con mX11_isTold d1' 0 0 [.inr (.inr 111), .inl v1, .inl v2, .inl v3] h (zri fun (x : Int32) h' => J mX11_can d 0 0 Q 0 0 28 [some (.inr (.inr 111)), some (.inl v1), some (.inl v2), some (.inl v3)] [.inl x] h')) (K2 : ¬ vs0 = 0 → ¬ (nI 1) ≤ v3 → Q (some (.inl (-(nI 3)))) h) : J mX11_can d 0 0 Q 0 0 10 [some (.inr (.inr 111)), some (.inl v1), some (.inl v2), some (.inl v3)] [.inl vs0] h := by
  refine bX11_can_10  (fun p1 => ?_) (fun p1 => ?_)
  · exact bX11_can_18  (K0 p1)
  · refine bX11_can_13  (fun p2 => ?_) (fun p2 => ?_)
    · exact bX11_can_21 hr hd1' (K1 p1 p2)
    · exact bX11_can_18  (K2 p1 p2)

set_option maxRecDepth 20000 in
theorem t_X11_can_28 {d  : Nat} {Q : Option MV → MH → Prop} {h : MH} {v1 v2 v3 vs0 : Int32} (K0 : vs0 = 0 → Q (some (.inl (nI 0))) h) (K1 : ¬ vs0 = 0 → Q (some (.inl (nI 1))) h) : J mX11_can d 0 0 Q 0 0 28 [some (.inr (.inr 111)), some (.inl v1), some (.inl v2), some (.inl v3)] [.inl vs0] h := by
  refine bX11_can_28  (fun p1 => ?_) (fun p1 => ?_)
  · refine bX11_can_35  ?_
    exact bX11_can_36  (K0 p1)
  · refine bX11_can_31  ?_
    exact bX11_can_36  (K1 p1)

set_option maxRecDepth 20000 in
theorem t_X11_isTold {d d1' : Nat} {Q : Option MV → MH → Prop} {h : MH} {v1 v2 v3 : Int32} (hr : zRf h) (hd1' : d1' + 1 ≤ d) (K0 : Con mX11_seeks d1' 0 0 [.inr (.inr 111), .inl v1, .inl v2, .inl (nI 4)] (zsI (zsI h 111 39 v3) 111 41 (nI 0)) (zrv fun h' => J mX11_isTold d 0 0 Q 0 0 17 [some (.inr (.inr 111)), some (.inl v1), some (.inl v2), some (.inl v3)] [] h')) : Con mX11_isTold d 0 0 [.inr (.inr 111), .inl v1, .inl v2, .inl v3] h Q := by
  refine Con.intro rfl (Nat.le_of_ble_eq_true rfl) ?_
  show J mX11_isTold d 0 0 Q 0 0 0 [some (.inr (.inr 111)), some (.inl v1), some (.inl v2), some (.inl v3)] [] h
  exact bX11_isTold_0 hr hd1' (K0)

set_option maxRecDepth 20000 in
theorem t_X11_isTold_17 {d  : Nat} {Q : Option MV → MH → Prop} {h : MH} {v1 v2 v3 : Int32} (hr : zRf h) (K0 : ¬ (h.1 111 41) = (nI 1) → Q (some (.inl (nI 0))) h) (K1 : (h.1 111 41) = (nI 1) → Q (some (.inl (nI 1))) h) : J mX11_isTold d 0 0 Q 0 0 17 [some (.inr (.inr 111)), some (.inl v1), some (.inl v2), some (.inl v3)] [] h := by
  refine bX11_isTold_17 hr (fun p1 => ?_) (fun p1 => ?_)
  · refine bX11_isTold_29  ?_
    exact bX11_isTold_30 (by decide) (K0 p1)
  · refine bX11_isTold_25  ?_
    exact bX11_isTold_30 (by decide) (K1 p1)

set_option maxRecDepth 20000 in
theorem t_X11_time {d d1' : Nat} {Q : Option MV → MH → Prop} {h : MH} {v1 v2 v3 : Int32} (hr : zRf h) (hd1' : d1' + 1 ≤ d) (K0 : Con mX11_isSet d1' 0 0 [.inr (.inr 111), .inl v1] (zsI h 111 0 (nI 0)) (zri fun (x : Int32) h' => J mX11_time d 0 0 Q 0 0 10 [some (.inr (.inr 111)), some (.inl v1), some (.inl v2), some (.inl v3)] [.inl x] h')) : Con mX11_time d 0 0 [.inr (.inr 111), .inl v1, .inl v2, .inl v3] h Q := by
  refine Con.intro rfl (Nat.le_of_ble_eq_true rfl) ?_
  show J mX11_time d 0 0 Q 0 0 0 [some (.inr (.inr 111)), some (.inl v1), some (.inl v2), some (.inl v3)] [] h
  exact bX11_time_0 hr hd1' (K0)

set_option maxRecDepth 20000 in
theorem t_X11_time_10 {d d1' : Nat} {Q : Option MV → MH → Prop} {h : MH} {v1 v2 v3 vs0 : Int32} (hr : zRf h) (hd1' : d1' + 1 ≤ d) (K0 : ¬ vs0 = 0 → Con mX11_laysTimes d1' 0 0 [.inr (.inr 111), .inl v1, .inl v2] h (zrv fun h' => J mX11_time d 0 0 Q 0 0 22 [some (.inr (.inr 111)), some (.inl v1), some (.inl v2), some (.inl v3)] [] h')) (K1 : vs0 = 0 → Q (some (.inl (-(nI 3)))) h) : J mX11_time d 0 0 Q 0 0 10 [some (.inr (.inr 111)), some (.inl v1), some (.inl v2), some (.inl v3)] [.inl vs0] h := by
  refine bX11_time_10  (fun p1 => ?_) (fun p1 => ?_)
  · exact bX11_time_16 hr hd1' (K0 p1)
  · exact bX11_time_13  (K1 p1)

set_option maxRecDepth 20000 in
theorem t_X11_time_22 {d d1' : Nat} {Q : Option MV → MH → Prop} {h : MH} {v1 v2 v3 : Int32} (hr : zRf h) (hd1' : d1' + 1 ≤ d) (K0 : (-(nI 1)) ≤ v3 → Con mX11_timeAt d1' 0 0 [.inr (.inr 111), .inl v3] h (zri fun (x : Int32) h' => J mX11_time d 0 0 Q 0 0 36 [some (.inr (.inr 111)), some (.inl v1), some (.inl v2), some (.inl v3)] [.inl x] h')) (K1 : ¬ (-(nI 1)) ≤ v3 → Q (some (.inl (-(nI 1)))) h) : J mX11_time d 0 0 Q 0 0 22 [some (.inr (.inr 111)), some (.inl v1), some (.inl v2), some (.inl v3)] [] h := by
  refine bX11_time_22  (fun p1 => ?_) (fun p1 => ?_)
  · exact bX11_time_31 hr hd1' (K0 p1)
  · refine bX11_time_27  ?_
    exact bX11_time_36  (K1 p1)

set_option maxRecDepth 20000 in
theorem t_X11_time_36 {d  : Nat} {Q : Option MV → MH → Prop} {h : MH} {v1 v2 v3 vs0 : Int32} (K0 : Q (some (.inl vs0)) h) : J mX11_time d 0 0 Q 0 0 36 [some (.inr (.inr 111)), some (.inl v1), some (.inl v2), some (.inl v3)] [.inl vs0] h := by
  exact bX11_time_36  (K0)

set_option maxRecDepth 20000 in
theorem t_X11_between {d d1' : Nat} {Q : Option MV → MH → Prop} {h : MH} {v1 v2 v3 : Int32} (hr : zRf h) (hd1' : d1' + 1 ≤ d) (K0 : Con mX11_isSet d1' 0 0 [.inr (.inr 111), .inl v1] (zsI h 111 0 (nI 0)) (zri fun (x : Int32) h' => J mX11_between d 0 0 Q 0 0 10 [some (.inr (.inr 111)), some (.inl v1), some (.inl v2), some (.inl v3)] [.inl x] h')) : Con mX11_between d 0 0 [.inr (.inr 111), .inl v1, .inl v2, .inl v3] h Q := by
  refine Con.intro rfl (Nat.le_of_ble_eq_true rfl) ?_
  show J mX11_between d 0 0 Q 0 0 0 [some (.inr (.inr 111)), some (.inl v1), some (.inl v2), some (.inl v3)] [] h
  exact bX11_between_0 hr hd1' (K0)

set_option maxRecDepth 20000 in
theorem t_X11_between_10 {d d1' : Nat} {Q : Option MV → MH → Prop} {h : MH} {v1 v2 v3 vs0 : Int32} (hr : zRf h) (hd1' : d1' + 1 ≤ d) (K0 : vs0 = 0 → Q (some (.inl (-(nI 3)))) h) (K1 : ¬ vs0 = 0 → (nI 1) ≤ v3 → Con mX11_seeks d1' 0 0 [.inr (.inr 111), .inl v1, .inl v2, .inl (nI 1)] (zsI (zsI h 111 39 v3) 111 41 (nI 0)) (zrv fun h' => J mX11_between d 0 0 Q 0 0 38 [some (.inr (.inr 111)), some (.inl v1), some (.inl v2), some (.inl v3)] [] h')) (K2 : ¬ vs0 = 0 → ¬ (nI 1) ≤ v3 → Q (some (.inl (-(nI 3)))) h) : J mX11_between d 0 0 Q 0 0 10 [some (.inr (.inr 111)), some (.inl v1), some (.inl v2), some (.inl v3)] [.inl vs0] h := by
  refine bX11_between_10  (fun p1 => ?_) (fun p1 => ?_)
  · exact bX11_between_18  (K0 p1)
  · refine bX11_between_13  (fun p2 => ?_) (fun p2 => ?_)
    · exact bX11_between_21 hr hd1' (K1 p1 p2)
    · exact bX11_between_18  (K2 p1 p2)

set_option maxRecDepth 20000 in
theorem t_X11_between_38 {d  : Nat} {Q : Option MV → MH → Prop} {h : MH} {v1 v2 v3 : Int32} (hr : zRf h) (K0 : Q (some (.inl (h.1 111 41))) h) : J mX11_between d 0 0 Q 0 0 38 [some (.inr (.inr 111)), some (.inl v1), some (.inl v2), some (.inl v3)] [] h := by
  exact bX11_between_38 hr (K0)

set_option maxRecDepth 20000 in
theorem t_X11_bitsOf {d  : Nat} {Q : Option MV → MH → Prop} {h : MH} {v0 : Int32} (K0 : J mX11_bitsOf d 0 0 Q 0 0 4 [some (.inl v0), some (.inl (nI 0)), some (.inl (nI 0))] [] h) : Con mX11_bitsOf d 0 0 [.inl v0] h Q := by
  refine Con.intro rfl (Nat.le_of_ble_eq_true rfl) ?_
  show J mX11_bitsOf d 0 0 Q 0 0 0 [some (.inl v0), none, none] [] h
  refine bX11_bitsOf_0  ?_
  exact K0

set_option maxRecDepth 20000 in
theorem t_X11_bitsOf_4 {d  : Nat} {Q : Option MV → MH → Prop} {h : MH} {v0 v1 v2 : Int32} (K0 : (nI 8) ≤ v2 → Q (some (.inl v1)) h) (K1 : ¬ (nI 8) ≤ v2 → J mX11_bitsOf d 0 0 Q 0 0 4 [some (.inl v0), some (.inl (v1 + ((v0 >>> (v2 &&& 31)) &&& (nI 1)))), some (.inl (v2 + nI 1))] [] h) : J mX11_bitsOf d 0 0 Q 0 0 4 [some (.inl v0), some (.inl v1), some (.inl v2)] [] h := by
  refine bX11_bitsOf_4  (fun p1 => ?_) (fun p1 => ?_)
  · exact bX11_bitsOf_24  (K0 p1)
  · refine bX11_bitsOf_10  ?_
    exact K1 p1

set_option maxRecDepth 20000 in
theorem t_X11_least {d  : Nat} {Q : Option MV → MH → Prop} {h : MH} {v1 v2 v3 : Int32} (hr : zRf h) (hd : 1 ≤ d) (K0 : ¬ (lN 0) ≤ v3.toInt64 → Q (some (.inl (-(nI 2)))) (zsI h 111 0 (nI 0))) (K1 : (lN 0) ≤ v3.toInt64 → ¬ v3.toInt64 ≤ (lN 1) → Q (some (.inl (-(nI 2)))) (zsI h 111 0 (nI 0))) (K2 : (lN 0) ≤ v3.toInt64 → v3.toInt64 ≤ (lN 1) → (nI 1) ≤ v1 → J mX11_least d 0 0 Q 0 0 29 [some (.inr (.inr 111)), some (.inl v1), some (.inl v2), some (.inl v3), some (.inl (nI 1)), none] [] (zsI h 111 0 (nI 0))) (K3 : (lN 0) ≤ v3.toInt64 → v3.toInt64 ≤ (lN 1) → ¬ (nI 1) ≤ v1 → Q (some (.inl (-(nI 3)))) (zsI h 111 0 (nI 0))) : Con mX11_least d 0 0 [.inr (.inr 111), .inl v1, .inl v2, .inl v3] h Q := by
  refine Con.intro rfl (Nat.le_of_ble_eq_true rfl) ?_
  show J mX11_least d 0 0 Q 0 0 0 [some (.inr (.inr 111)), some (.inl v1), some (.inl v2), some (.inl v3), none, none] [] h
  refine bX11_least_0 (d' := 0) hr (by omega) ?_
  refine t_X11_within  ?_ ?_ ?_
  · intro p1
    refine bX11_least_12  (fun c => absurd c (by decide)) (fun _ => ?_)
    exact bX11_least_15  (K0 p1)
  · intro p2 p3
    refine bX11_least_12  (fun c => absurd c (by decide)) (fun _ => ?_)
    exact bX11_least_15  (K1 p2 p3)
  · intro p4 p5
    refine bX11_least_12  (fun _ => ?_) (fun c => absurd c (by decide))
    refine bX11_least_18  (fun p6 => ?_) (fun p6 => ?_)
    · refine bX11_least_26  ?_
      exact K2 p4 p5 p6
    · exact bX11_least_23  (K3 p4 p5 p6)

set_option maxRecDepth 20000 in
theorem t_X11_least_29 {d  : Nat} {Q : Option MV → MH → Prop} {h : MH} {u5 : Option MV} {v1 v2 v3 v4 : Int32} (K0 : (nI 4) < v4 → Q (some (.inl (-(nI 1)))) h) (K1 : ¬ (nI 4) < v4 → J mX11_least d 0 0 Q 0 0 38 [some (.inr (.inr 111)), some (.inl v1), some (.inl v2), some (.inl v3), some (.inl v4), some (.inl (nI 1))] [] h) : J mX11_least d 0 0 Q 0 0 29 [some (.inr (.inr 111)), some (.inl v1), some (.inl v2), some (.inl v3), some (.inl v4), u5] [] h := by
  refine bX11_least_29  (fun p1 => ?_) (fun p1 => ?_)
  · exact bX11_least_96  (K0 p1)
  · refine bX11_least_35  ?_
    exact K1 p1

set_option maxRecDepth 20000 in
theorem t_X11_least_38 {d d1' : Nat} {Q : Option MV → MH → Prop} {h : MH} {v1 v2 v3 v4 v5 : Int32} (hr : zRf h) (hd1' : d1' + 1 ≤ d) (K0 : ((nI 1) <<< ((h.1 112 0) &&& 31)) ≤ v5 → J mX11_least d 0 0 Q 0 0 29 [some (.inr (.inr 111)), some (.inl v1), some (.inl v2), some (.inl v3), some (.inl (v4 + nI 1)), some (.inl v5)] [] h) (K1 : ¬ ((nI 1) <<< ((h.1 112 0) &&& 31)) ≤ v5 → Con mX11_bitsOf d1' 0 0 [.inl v5] h (zri fun (x : Int32) h' => J mX11_least d 0 0 Q 0 0 56 [some (.inr (.inr 111)), some (.inl v1), some (.inl v2), some (.inl v3), some (.inl v4), some (.inl v5)] [.inl x] h')) : J mX11_least d 0 0 Q 0 0 38 [some (.inr (.inr 111)), some (.inl v1), some (.inl v2), some (.inl v3), some (.inl v4), some (.inl v5)] [] h := by
  refine bX11_least_38 hr (vp_in_nI (by decide) (by decide)) (fun p1 => ?_) (fun p1 => ?_)
  · refine bX11_least_90  ?_
    exact K0 p1
  · exact bX11_least_51  hd1' (K1 p1)

set_option maxRecDepth 20000 in
theorem t_X11_least_56 {d d1' : Nat} {Q : Option MV → MH → Prop} {h : MH} {v1 v2 v3 v4 v5 vs0 : Int32} (hr : zRf h) (hd1' : d1' + 1 ≤ d) (K0 : ¬ vs0 = v4 → J mX11_least d 0 0 Q 0 0 38 [some (.inr (.inr 111)), some (.inl v1), some (.inl v2), some (.inl v3), some (.inl v4), some (.inl (v5 + nI 1))] [] h) (K1 : vs0 = v4 → Con mX11_isTold d1' 0 0 [.inr (.inr 111), .inl v5, .inl v2, .inl v1] h (zri fun (x : Int32) h' => J mX11_least d 0 0 Q 0 0 69 [some (.inr (.inr 111)), some (.inl v1), some (.inl v2), some (.inl v3), some (.inl v4), some (.inl v5)] [.inl x] h')) : J mX11_least d 0 0 Q 0 0 56 [some (.inr (.inr 111)), some (.inl v1), some (.inl v2), some (.inl v3), some (.inl v4), some (.inl v5)] [.inl vs0] h := by
  refine bX11_least_56  (fun p1 => ?_) (fun p1 => ?_)
  · refine bX11_least_84  ?_
    exact K0 p1
  · exact bX11_least_61 hr hd1' (K1 p1)

set_option maxRecDepth 20000 in
theorem t_X11_least_69 {d  : Nat} {Q : Option MV → MH → Prop} {h : MH} {v1 v2 v3 v4 v5 vs0 : Int32} (K0 : vs0 = 0 → J mX11_least d 0 0 Q 0 0 38 [some (.inr (.inr 111)), some (.inl v1), some (.inl v2), some (.inl v3), some (.inl v4), some (.inl (v5 + nI 1))] [] h) (K1 : ¬ vs0 = 0 → ¬ v3 = 0 → Q (some (.inl v5)) h) (K2 : ¬ vs0 = 0 → v3 = 0 → Q (some (.inl v4)) h) : J mX11_least d 0 0 Q 0 0 69 [some (.inr (.inr 111)), some (.inl v1), some (.inl v2), some (.inl v3), some (.inl v4), some (.inl v5)] [.inl vs0] h := by
  refine bX11_least_69  (fun p1 => ?_) (fun p1 => ?_)
  · refine bX11_least_84  ?_
    exact K0 p1
  · refine bX11_least_72  (fun p2 => ?_) (fun p2 => ?_)
    · refine bX11_least_81  ?_
      exact bX11_least_83  (K1 p1 p2)
    · refine bX11_least_76  ?_
      exact bX11_least_83  (K2 p1 p2)

set_option maxRecDepth 20000 in
theorem t_X11_fewest {d d1' : Nat} {Q : Option MV → MH → Prop} {h : MH} {v1 v2 v3 : Int32} (hr : zRf h) (hd1' : d1' + 1 ≤ d) (K0 : Con mX11_isSet d1' 0 0 [.inr (.inr 111), .inl v1] (zsI h 111 0 (nI 0)) (zri fun (x : Int32) h' => J mX11_fewest d 0 0 Q 0 0 10 [some (.inr (.inr 111)), some (.inl v1), some (.inl v2), some (.inl v3)] [.inl x] h')) : Con mX11_fewest d 0 0 [.inr (.inr 111), .inl v1, .inl v2, .inl v3] h Q := by
  refine Con.intro rfl (Nat.le_of_ble_eq_true rfl) ?_
  show J mX11_fewest d 0 0 Q 0 0 0 [some (.inr (.inr 111)), some (.inl v1), some (.inl v2), some (.inl v3)] [] h
  exact bX11_fewest_0 hr hd1' (K0)

set_option maxRecDepth 20000 in
theorem t_X11_fewest_10 {d d1' : Nat} {Q : Option MV → MH → Prop} {h : MH} {v1 v2 v3 vs0 : Int32} (hr : zRf h) (hd1' : d1' + 1 ≤ d) (K0 : vs0 = 0 → Q (some (.inl (-(nI 3)))) h) (K1 : ¬ vs0 = 0 → (nI 1) ≤ v3 → Con mX11_seeks d1' 0 0 [.inr (.inr 111), .inl v1, .inl v2, .inl (nI 2)] (zsI (zsI h 111 39 v3) 111 41 (-(nI 1))) (zrv fun h' => J mX11_fewest d 0 0 Q 0 0 38 [some (.inr (.inr 111)), some (.inl v1), some (.inl v2), some (.inl v3)] [] h')) (K2 : ¬ vs0 = 0 → ¬ (nI 1) ≤ v3 → Q (some (.inl (-(nI 3)))) h) : J mX11_fewest d 0 0 Q 0 0 10 [some (.inr (.inr 111)), some (.inl v1), some (.inl v2), some (.inl v3)] [.inl vs0] h := by
  refine bX11_fewest_10  (fun p1 => ?_) (fun p1 => ?_)
  · exact bX11_fewest_18  (K0 p1)
  · refine bX11_fewest_13  (fun p2 => ?_) (fun p2 => ?_)
    · exact bX11_fewest_21 hr hd1' (K1 p1 p2)
    · exact bX11_fewest_18  (K2 p1 p2)

set_option maxRecDepth 20000 in
theorem t_X11_fewest_38 {d  : Nat} {Q : Option MV → MH → Prop} {h : MH} {v1 v2 v3 : Int32} (hr : zRf h) (K0 : Q (some (.inl (h.1 111 41))) h) : J mX11_fewest d 0 0 Q 0 0 38 [some (.inr (.inr 111)), some (.inl v1), some (.inl v2), some (.inl v3)] [] h := by
  exact bX11_fewest_38 hr (K0)

set_option maxRecDepth 20000 in
theorem t_X11_burnt {d d1' : Nat} {Q : Option MV → MH → Prop} {h : MH} {v1 v2 v3 : Int32} (hr : zRf h) (hd1' : d1' + 1 ≤ d) (K0 : Con mX11_isSet d1' 0 0 [.inr (.inr 111), .inl v1] (zsI h 111 0 (nI 0)) (zri fun (x : Int32) h' => J mX11_burnt d 0 0 Q 0 0 10 [some (.inr (.inr 111)), some (.inl v1), some (.inl v2), some (.inl v3)] [.inl x] h')) : Con mX11_burnt d 0 0 [.inr (.inr 111), .inl v1, .inl v2, .inl v3] h Q := by
  refine Con.intro rfl (Nat.le_of_ble_eq_true rfl) ?_
  show J mX11_burnt d 0 0 Q 0 0 0 [some (.inr (.inr 111)), some (.inl v1), some (.inl v2), some (.inl v3)] [] h
  exact bX11_burnt_0 hr hd1' (K0)

set_option maxRecDepth 20000 in
theorem t_X11_burnt_10 {d d1' : Nat} {Q : Option MV → MH → Prop} {h : MH} {v1 v2 v3 vs0 : Int32} (hr : zRf h) (hd1' : d1' + 1 ≤ d) (K0 : vs0 = 0 → Q (some (.inl (-(nI 3)))) h) (K1 : ¬ vs0 = 0 → (nI 1) ≤ v3 → Con mX11_seeks d1' 0 0 [.inr (.inr 111), .inl v1, .inl v2, .inl (nI 5)] (zsI (zsI h 111 39 v3) 111 41 (-(nI 1))) (zrv fun h' => J mX11_burnt d 0 0 Q 0 0 38 [some (.inr (.inr 111)), some (.inl v1), some (.inl v2), some (.inl v3)] [] h')) (K2 : ¬ vs0 = 0 → ¬ (nI 1) ≤ v3 → Q (some (.inl (-(nI 3)))) h) : J mX11_burnt d 0 0 Q 0 0 10 [some (.inr (.inr 111)), some (.inl v1), some (.inl v2), some (.inl v3)] [.inl vs0] h := by
  refine bX11_burnt_10  (fun p1 => ?_) (fun p1 => ?_)
  · exact bX11_burnt_18  (K0 p1)
  · refine bX11_burnt_13  (fun p2 => ?_) (fun p2 => ?_)
    · exact bX11_burnt_21 hr hd1' (K1 p1 p2)
    · exact bX11_burnt_18  (K2 p1 p2)

set_option maxRecDepth 20000 in
theorem t_X11_burnt_38 {d  : Nat} {Q : Option MV → MH → Prop} {h : MH} {v1 v2 v3 : Int32} (hr : zRf h) (K0 : Q (some (.inl (h.1 111 41))) h) : J mX11_burnt d 0 0 Q 0 0 38 [some (.inr (.inr 111)), some (.inl v1), some (.inl v2), some (.inl v3)] [] h := by
  exact bX11_burnt_38 hr (K0)

set_option maxRecDepth 20000 in
theorem t_X11_given {d d1' : Nat} {Q : Option MV → MH → Prop} {h : MH} {v1 v2 v3 v4 : Int32} (hr : zRf h) (hd1' : d1' + 1 ≤ d) (K0 : Con mX11_isSet d1' 0 0 [.inr (.inr 111), .inl v1] (zsI h 111 0 (nI 0)) (zri fun (x : Int32) h' => J mX11_given d 0 0 Q 0 0 10 [some (.inr (.inr 111)), some (.inl v1), some (.inl v2), some (.inl v3), some (.inl v4)] [.inl x] h')) : Con mX11_given d 0 0 [.inr (.inr 111), .inl v1, .inl v2, .inl v3, .inl v4] h Q := by
  refine Con.intro rfl (Nat.le_of_ble_eq_true rfl) ?_
  show J mX11_given d 0 0 Q 0 0 0 [some (.inr (.inr 111)), some (.inl v1), some (.inl v2), some (.inl v3), some (.inl v4)] [] h
  exact bX11_given_0 hr hd1' (K0)

set_option maxRecDepth 20000 in
theorem t_X11_given_10 {d d1' : Nat} {Q : Option MV → MH → Prop} {h : MH} {v1 v2 v3 v4 vs0 : Int32} (hr : zRf h) (hd1' : d1' + 1 ≤ d) (K0 : vs0 = 0 → Q (some (.inl (-(nI 3)))) h) (K1 : ¬ vs0 = 0 → (nI 1) ≤ v3 → Con mX11_seeks d1' 0 0 [.inr (.inr 111), .inl v1, .inl v2, .inl (nI 6)] (zsI (zsI h 111 39 v3) 111 48 (nI 0)) (zrv fun h' => J mX11_given d 0 0 Q 0 0 39 [some (.inr (.inr 111)), some (.inl v1), some (.inl v2), some (.inl v3), some (.inl v4)] [] h')) (K2 : ¬ vs0 = 0 → ¬ (nI 1) ≤ v3 → Q (some (.inl (-(nI 3)))) h) : J mX11_given d 0 0 Q 0 0 10 [some (.inr (.inr 111)), some (.inl v1), some (.inl v2), some (.inl v3), some (.inl v4)] [.inl vs0] h := by
  refine bX11_given_10  (fun p1 => ?_) (fun p1 => ?_)
  · exact bX11_given_18  (K0 p1)
  · refine bX11_given_13  (fun p2 => ?_) (fun p2 => ?_)
    · exact bX11_given_21 hr hd1' (K1 p1 p2)
    · exact bX11_given_18  (K2 p1 p2)

set_option maxRecDepth 20000 in
theorem t_X11_given_39 {d  : Nat} {Q : Option MV → MH → Prop} {h : MH} {v1 v2 v3 v4 : Int32} (hr : zRf h) (hd : 1 ≤ d) (G0 : ¬ (h.1 111 48) = 0 → ¬ v4 = (-(nI 1)) → (lN 0) ≤ v4.toInt64 → v4.toInt64 ≤ (((h.1 111 48) - (nI 1)).toInt64) → vp_in v4 5) (K0 : ¬ (h.1 111 48) = 0 → ¬ v4 = (-(nI 1)) → ¬ (lN 0) ≤ v4.toInt64 → Q (some (.inl (-(nI 1)))) h) (K1 : ¬ (h.1 111 48) = 0 → ¬ v4 = (-(nI 1)) → (lN 0) ≤ v4.toInt64 → ¬ v4.toInt64 ≤ (((h.1 111 48) - (nI 1)).toInt64) → Q (some (.inl (-(nI 1)))) h) (K2 : ¬ (h.1 111 48) = 0 → ¬ v4 = (-(nI 1)) → (lN 0) ≤ v4.toInt64 → v4.toInt64 ≤ (((h.1 111 48) - (nI 1)).toInt64) → Q (some (.inl (h.1 135 v4.toNatClampNeg))) h) (K3 : ¬ (h.1 111 48) = 0 → v4 = (-(nI 1)) → Q (some (.inl (h.1 111 48))) h) (K4 : (h.1 111 48) = 0 → Q (some (.inl (-(nI 1)))) h) : J mX11_given d 0 0 Q 0 0 39 [some (.inr (.inr 111)), some (.inl v1), some (.inl v2), some (.inl v3), some (.inl v4)] [] h := by
  refine bX11_given_39 hr (fun p1 => ?_) (fun p1 => ?_)
  · refine bX11_given_48  (fun p2 => ?_) (fun p2 => ?_)
    · refine bX11_given_61 (d' := 0) hr (by omega) ?_
      refine t_X11_within  ?_ ?_ ?_
      · intro p3
        refine bX11_given_75  (fun _ => ?_) (fun c => absurd c (by decide))
        refine bX11_given_88  ?_
        exact bX11_given_89  (K0 p1 p2 p3)
      · intro p4 p5
        refine bX11_given_75  (fun _ => ?_) (fun c => absurd c (by decide))
        refine bX11_given_88  ?_
        exact bX11_given_89  (K1 p1 p2 p4 p5)
      · intro p6 p7
        refine bX11_given_75  (fun c => absurd c (by decide)) (fun _ => ?_)
        refine bX11_given_78 hr (G0 p1 p2 p6 p7) ?_
        exact bX11_given_89  (K2 p1 p2 p6 p7)
    · refine bX11_given_54 hr ?_
      exact bX11_given_89  (K3 p1 p2)
  · exact bX11_given_46  (K4 p1)

set_option maxRecDepth 20000 in
theorem t_X11_lacks {d d1' : Nat} {Q : Option MV → MH → Prop} {h : MH} {v1 v2 v3 v4 : Int32} (hr : zRf h) (hd1' : d1' + 1 ≤ d) (K0 : Con mX11_isSet d1' 0 0 [.inr (.inr 111), .inl v1] (zsI h 111 0 (nI 0)) (zri fun (x : Int32) h' => J mX11_lacks d 0 0 Q 0 0 10 [some (.inr (.inr 111)), some (.inl v1), some (.inl v2), some (.inl v3), some (.inl v4), none, none, none, none] [.inl x] h')) : Con mX11_lacks d 0 0 [.inr (.inr 111), .inl v1, .inl v2, .inl v3, .inl v4] h Q := by
  refine Con.intro rfl (Nat.le_of_ble_eq_true rfl) ?_
  show J mX11_lacks d 0 0 Q 0 0 0 [some (.inr (.inr 111)), some (.inl v1), some (.inl v2), some (.inl v3), some (.inl v4), none, none, none, none] [] h
  exact bX11_lacks_0 hr hd1' (K0)

set_option maxRecDepth 20000 in
theorem t_X11_lacks_10 {d d1' : Nat} {Q : Option MV → MH → Prop} {h : MH} {v1 v2 v3 v4 vs0 : Int32} (hr : zRf h) (hd1' : d1' + 1 ≤ d) (K0 : vs0 = 0 → Q (some (.inl (-(nI 3)))) h) (K1 : ¬ vs0 = 0 → (nI 64) ≤ v3 → Con mX11_laysTimes d1' 0 0 [.inr (.inr 111), .inl v1, .inl v2] h (zrv fun h' => J mX11_lacks d 0 0 Q 0 0 28 [some (.inr (.inr 111)), some (.inl v1), some (.inl v2), some (.inl v3), some (.inl v4), none, none, none, none] [] h')) (K2 : ¬ vs0 = 0 → ¬ (nI 64) ≤ v3 → Q (some (.inl (-(nI 3)))) h) : J mX11_lacks d 0 0 Q 0 0 10 [some (.inr (.inr 111)), some (.inl v1), some (.inl v2), some (.inl v3), some (.inl v4), none, none, none, none] [.inl vs0] h := by
  refine bX11_lacks_10  (fun p1 => ?_) (fun p1 => ?_)
  · exact bX11_lacks_19  (K0 p1)
  · refine bX11_lacks_13  (fun p2 => ?_) (fun p2 => ?_)
    · exact bX11_lacks_22 hr hd1' (K1 p1 p2)
    · exact bX11_lacks_19  (K2 p1 p2)

set_option maxRecDepth 20000 in
theorem t_X11_lacks_28 {d  : Nat} {Q : Option MV → MH → Prop} {h : MH} {v1 v2 v3 v4 : Int32} (K0 : J mX11_lacks d 0 0 Q 0 0 34 [some (.inr (.inr 111)), some (.inl v1), some (.inl v2), some (.inl v3), some (.inl v4), some (.inl (nI 0)), some (.inl (nI 0)), none, none] [] h) : J mX11_lacks d 0 0 Q 0 0 28 [some (.inr (.inr 111)), some (.inl v1), some (.inl v2), some (.inl v3), some (.inl v4), none, none, none, none] [] h := by
  refine bX11_lacks_28  ?_
  exact K0

set_option maxRecDepth 20000 in
theorem t_X11_lacks_34 {d  : Nat} {Q : Option MV → MH → Prop} {h : MH} {v1 v2 v3 v4 v5 v6 : Int32} (hr : zRf h) (G0 : ¬ (h.1 111 38) ≤ v6 → vp_in v6 20) (K0 : (h.1 111 38) ≤ v6 → J mX11_lacks d 0 0 Q 0 0 68 [some (.inr (.inr 111)), some (.inl v1), some (.inl v2), some (.inl v3), some (.inl v4), some (.inl v5), some (.inl (nI 0)), some (.inr (.inl v3.toInt64)), none] [] h) (K1 : ¬ (h.1 111 38) ≤ v6 → J mX11_lacks d 0 0 Q 0 0 34 [some (.inr (.inr 111)), some (.inl v1), some (.inl v2), some (.inl v3), some (.inl v4), some (.inl (v5 + (h.1 128 v6.toNatClampNeg))), some (.inl (v6 + nI 1)), none, none] [] h) : J mX11_lacks d 0 0 Q 0 0 34 [some (.inr (.inr 111)), some (.inl v1), some (.inl v2), some (.inl v3), some (.inl v4), some (.inl v5), some (.inl v6), none, none] [] h := by
  refine bX11_lacks_34 hr (fun p1 => ?_) (fun p1 => ?_)
  · refine bX11_lacks_61  ?_
    exact K0 p1
  · refine bX11_lacks_43 hr (G0 p1) ?_
    exact K1 p1

set_option maxRecDepth 20000 in
theorem t_X11_lacks_68 {d  : Nat} {Q : Option MV → MH → Prop} {h : MH} {v1 v2 v3 v4 v5 v6 : Int32} {v7 : Int64} (hr : zRf h) (hd : 1 ≤ d) (G0 : ¬ 0 < (lg_cmp v7 v5.toInt64) → ¬ (nI 11600) ≤ (v7.toInt32 / (nI 32)) → vp_in (v7.toInt32 / (nI 32)) 11600) (K0 : 0 < (lg_cmp v7 v5.toInt64) → ¬ v4 = (-(nI 1)) → Q (some (.inl (-(nI 1)))) h) (K1 : 0 < (lg_cmp v7 v5.toInt64) → v4 = (-(nI 1)) → Q (some (.inl v6)) h) (K2 : ¬ 0 < (lg_cmp v7 v5.toInt64) → (nI 11600) ≤ (v7.toInt32 / (nI 32)) → ¬ v6 = v4 → J mX11_lacks d 0 0 Q 0 0 68 [some (.inr (.inr 111)), some (.inl v1), some (.inl v2), some (.inl v3), some (.inl v4), some (.inl v5), some (.inl (v6 + nI 1)), some (.inr (.inl (v7 + v3.toInt64))), none] [] h) (K3 : ¬ 0 < (lg_cmp v7 v5.toInt64) → (nI 11600) ≤ (v7.toInt32 / (nI 32)) → v6 = v4 → Q (some (.inl v7.toInt32)) h) (K4 : ¬ 0 < (lg_cmp v7 v5.toInt64) → ¬ (nI 11600) ≤ (v7.toInt32 / (nI 32)) → ¬ (((h.1 132 (v7.toInt32 / (nI 32)).toNatClampNeg) >>> ((v7.toInt32 - v7.toInt32 / (nI 32) * (nI 32)) &&& 31)) &&& (nI 1)) = (nI 1) → ¬ v6 = v4 → J mX11_lacks d 0 0 Q 0 0 68 [some (.inr (.inr 111)), some (.inl v1), some (.inl v2), some (.inl v3), some (.inl v4), some (.inl v5), some (.inl (v6 + nI 1)), some (.inr (.inl (v7 + v3.toInt64))), none] [] h) (K5 : ¬ 0 < (lg_cmp v7 v5.toInt64) → ¬ (nI 11600) ≤ (v7.toInt32 / (nI 32)) → ¬ (((h.1 132 (v7.toInt32 / (nI 32)).toNatClampNeg) >>> ((v7.toInt32 - v7.toInt32 / (nI 32) * (nI 32)) &&& 31)) &&& (nI 1)) = (nI 1) → v6 = v4 → Q (some (.inl v7.toInt32)) h) (K6 : ¬ 0 < (lg_cmp v7 v5.toInt64) → ¬ (nI 11600) ≤ (v7.toInt32 / (nI 32)) → (((h.1 132 (v7.toInt32 / (nI 32)).toNatClampNeg) >>> ((v7.toInt32 - v7.toInt32 / (nI 32) * (nI 32)) &&& 31)) &&& (nI 1)) = (nI 1) → J mX11_lacks d 0 0 Q 0 0 68 [some (.inr (.inr 111)), some (.inl v1), some (.inl v2), some (.inl v3), some (.inl v4), some (.inl v5), some (.inl v6), some (.inr (.inl (v7 + v3.toInt64))), none] [] h) : J mX11_lacks d 0 0 Q 0 0 68 [some (.inr (.inr 111)), some (.inl v1), some (.inl v2), some (.inl v3), some (.inl v4), some (.inl v5), some (.inl v6), some (.inr (.inl v7)), none] [] h := by
  refine bX11_lacks_68  (fun p1 => ?_) (fun p1 => ?_)
  · refine bX11_lacks_114  (fun p2 => ?_) (fun p2 => ?_)
    · refine bX11_lacks_125  ?_
      exact bX11_lacks_126  (K0 p1 p2)
    · refine bX11_lacks_120  ?_
      exact bX11_lacks_126  (K1 p1 p2)
  · refine bX11_lacks_77 (d' := 0) hr (by omega) ?_
    refine t_X11_isTime hr ?_ ?_ ?_ ?_
    · intro p3; exact (G0 p1 p3)
    · intro p4
      refine bX11_lacks_84  (fun _ => ?_) (fun c => absurd c (by decide))
      refine bX11_lacks_90  (fun p9 => ?_) (fun p9 => ?_)
      · refine bX11_lacks_101  ?_
        refine bX11_lacks_104  ?_
        exact K2 p1 p4 p9
      · exact bX11_lacks_97  (K3 p1 p4 p9)
    · intro p5 p6
      refine bX11_lacks_84  (fun _ => ?_) (fun c => absurd c (by decide))
      refine bX11_lacks_90  (fun p10 => ?_) (fun p10 => ?_)
      · refine bX11_lacks_101  ?_
        refine bX11_lacks_104  ?_
        exact K4 p1 p5 p6 p10
      · exact bX11_lacks_97  (K5 p1 p5 p6 p10)
    · intro p7 p8
      refine bX11_lacks_84  (fun c => absurd c (by decide)) (fun _ => ?_)
      refine bX11_lacks_87  ?_
      refine bX11_lacks_104  ?_
      exact K6 p1 p7 p8

set_option maxRecDepth 20000 in
theorem t_X11_wants {d  : Nat} {Q : Option MV → MH → Prop} {h : MH} {v1 : Int32} (hr : zRf h) (G0 : vp_in v1 4) (K0 : J mX11_wants d 0 0 Q 0 0 12 [some (.inr (.inr 111)), some (.inl v1), some (.inl (nI 0))] [] (zsI h 111 47 (h.1 141 v1.toNatClampNeg))) : Con mX11_wants d 0 0 [.inr (.inr 111), .inl v1] h Q := by
  refine Con.intro rfl (Nat.le_of_ble_eq_true rfl) ?_
  show J mX11_wants d 0 0 Q 0 0 0 [some (.inr (.inr 111)), some (.inl v1), none] [] h
  refine bX11_wants_0 hr (G0) ?_
  exact K0

set_option maxRecDepth 20000 in
theorem t_X11_wants_12 {d  : Nat} {Q : Option MV → MH → Prop} {h : MH} {v1 v2 : Int32} (hr : zRf h) (hd : 1 ≤ d) (G0 : ¬ (h.1 111 47) ≤ v2 → vp_in (((nI 40) * v1) + v2) 160) (G1 : ¬ (h.1 111 47) ≤ v2 → ¬ (lN 1) ≤ (h.2.1 142 (((nI 40) * v1) + v2).toNatClampNeg) → zokA h 133 20 v2) (G2 : ¬ (h.1 111 47) ≤ v2 → (lN 1) ≤ (h.2.1 142 (((nI 40) * v1) + v2).toNatClampNeg) → ¬ (h.2.1 142 (((nI 40) * v1) + v2).toNatClampNeg) ≤ (1000000 : Int64) → zokA h 133 20 v2) (G3 : ¬ (h.1 111 47) ≤ v2 → (lN 1) ≤ (h.2.1 142 (((nI 40) * v1) + v2).toNatClampNeg) → (h.2.1 142 (((nI 40) * v1) + v2).toNatClampNeg) ≤ (1000000 : Int64) → zokA h 133 20 v2) (K0 : (h.1 111 47) ≤ v2 → Q none h) (K1 : ¬ (h.1 111 47) ≤ v2 → ¬ (lN 1) ≤ (h.2.1 142 (((nI 40) * v1) + v2).toNatClampNeg) → J mX11_wants d 0 0 Q 0 0 12 [some (.inr (.inr 111)), some (.inl v1), some (.inl (v2 + nI 1))] [] (zsI h 133 v2.toNatClampNeg (-(nI 1)))) (K2 : ¬ (h.1 111 47) ≤ v2 → (lN 1) ≤ (h.2.1 142 (((nI 40) * v1) + v2).toNatClampNeg) → ¬ (h.2.1 142 (((nI 40) * v1) + v2).toNatClampNeg) ≤ (1000000 : Int64) → J mX11_wants d 0 0 Q 0 0 12 [some (.inr (.inr 111)), some (.inl v1), some (.inl (v2 + nI 1))] [] (zsI h 133 v2.toNatClampNeg (-(nI 1)))) (K3 : ¬ (h.1 111 47) ≤ v2 → (lN 1) ≤ (h.2.1 142 (((nI 40) * v1) + v2).toNatClampNeg) → (h.2.1 142 (((nI 40) * v1) + v2).toNatClampNeg) ≤ (1000000 : Int64) → J mX11_wants d 0 0 Q 0 0 12 [some (.inr (.inr 111)), some (.inl v1), some (.inl (v2 + nI 1))] [] (zsI h 133 v2.toNatClampNeg ((h.2.1 142 (((nI 40) * v1) + v2).toNatClampNeg).toInt32))) : J mX11_wants d 0 0 Q 0 0 12 [some (.inr (.inr 111)), some (.inl v1), some (.inl v2)] [] h := by
  refine bX11_wants_12 hr (fun p1 => ?_) (fun p1 => ?_)
  · exact bX11_wants_69  (K0 p1)
  · refine bX11_wants_20 (d' := 0) hr (G0 p1) (by omega) ?_
    refine t_X11_within  ?_ ?_ ?_
    · intro p2
      refine bX11_wants_43  (fun _ => ?_) (fun c => absurd c (by decide))
      refine bX11_wants_61  ?_
      refine bX11_wants_62 (G1 p1 p2) ?_
      exact K1 p1 p2
    · intro p3 p4
      refine bX11_wants_43  (fun _ => ?_) (fun c => absurd c (by decide))
      refine bX11_wants_61  ?_
      refine bX11_wants_62 (G2 p1 p3 p4) ?_
      exact K2 p1 p3 p4
    · intro p5 p6
      refine bX11_wants_43  (fun c => absurd c (by decide)) (fun _ => ?_)
      refine bX11_wants_46 hr (G0 p1) ?_
      refine bX11_wants_62 (G3 p1 p5 p6) ?_
      exact K3 p1 p5 p6

set_option maxRecDepth 20000 in
theorem t_X11_areTogether {d d1' d2' : Nat} {Q : Option MV → MH → Prop} {h : MH} {v1 v2 : Int32} (hr : zRf h) (hd1' : d1' + 1 ≤ d) (hd2' : d2' + 1 ≤ d) (K0 : ¬ (h.1 111 47) = 0 → Con mX11_seeks d1' 0 0 [.inr (.inr 111), .inl v1, .inl v2, .inl (nI 3)] (zsI h 111 41 (nI 0)) (zrv fun h' => J mX11_areTogether d 0 0 Q 0 0 23 [some (.inr (.inr 111)), some (.inl v1), some (.inl v2)] [] h')) (K1 : (h.1 111 47) = 0 → Con mX11_seeks d2' 0 0 [.inr (.inr 111), .inl v1, .inl v2, .inl (nI 3)] (zsI h 111 41 (nI 1)) (zrv fun h' => J mX11_areTogether d 0 0 Q 0 0 23 [some (.inr (.inr 111)), some (.inl v1), some (.inl v2)] [] h')) : Con mX11_areTogether d 0 0 [.inr (.inr 111), .inl v1, .inl v2] h Q := by
  refine Con.intro rfl (Nat.le_of_ble_eq_true rfl) ?_
  show J mX11_areTogether d 0 0 Q 0 0 0 [some (.inr (.inr 111)), some (.inl v1), some (.inl v2)] [] h
  refine bX11_areTogether_0 hr (fun p1 => ?_) (fun p1 => ?_)
  · refine bX11_areTogether_12  ?_
    exact bX11_areTogether_13 hr hd1' (K0 p1)
  · refine bX11_areTogether_8  ?_
    exact bX11_areTogether_13 hr hd2' (K1 p1)

set_option maxRecDepth 20000 in
theorem t_X11_areTogether_23 {d  : Nat} {Q : Option MV → MH → Prop} {h : MH} {v1 v2 : Int32} (hr : zRf h) (K0 : ¬ (h.1 111 41) = (nI 1) → Q (some (.inl (nI 0))) h) (K1 : (h.1 111 41) = (nI 1) → Q (some (.inl (nI 1))) h) : J mX11_areTogether d 0 0 Q 0 0 23 [some (.inr (.inr 111)), some (.inl v1), some (.inl v2)] [] h := by
  refine bX11_areTogether_23 hr (fun p1 => ?_) (fun p1 => ?_)
  · refine bX11_areTogether_35  ?_
    exact bX11_areTogether_36 (by decide) (K0 p1)
  · refine bX11_areTogether_31  ?_
    exact bX11_areTogether_36 (by decide) (K1 p1)

set_option maxRecDepth 20000 in
theorem t_X11_leastFor {d d1' : Nat} {Q : Option MV → MH → Prop} {h : MH} {v1 v2 : Int32} (hr : zRf h) (hd : 1 ≤ d) (hd1' : d1' + 1 ≤ d) (G0 : (lN 0) ≤ v1.toInt64 → v1.toInt64 ≤ (3 : Int64) → vp_in v1 4) (K0 : ¬ (lN 0) ≤ v1.toInt64 → Q (some (.inl (-(nI 2)))) (zsI h 111 0 (nI 0))) (K1 : (lN 0) ≤ v1.toInt64 → ¬ v1.toInt64 ≤ (3 : Int64) → Q (some (.inl (-(nI 2)))) (zsI h 111 0 (nI 0))) (K2 : (lN 0) ≤ v1.toInt64 → v1.toInt64 ≤ (3 : Int64) → ¬ ((zsI h 111 0 (nI 0)).1 140 v1.toNatClampNeg) = (-(nI 1)) → Con mX11_wants d1' 0 0 [.inr (.inr 111), .inl v1] (zsI h 111 0 (nI 0)) (zrv fun h' => J mX11_leastFor d 0 0 Q 0 0 38 [some (.inr (.inr 111)), some (.inl v1), some (.inl v2), none, none] [] h')) (K3 : (lN 0) ≤ v1.toInt64 → v1.toInt64 ≤ (3 : Int64) → ((zsI h 111 0 (nI 0)).1 140 v1.toNatClampNeg) = (-(nI 1)) → Q (some (.inl (-(nI 6)))) (zsI h 111 0 (nI 0))) : Con mX11_leastFor d 0 0 [.inr (.inr 111), .inl v1, .inl v2] h Q := by
  refine Con.intro rfl (Nat.le_of_ble_eq_true rfl) ?_
  show J mX11_leastFor d 0 0 Q 0 0 0 [some (.inr (.inr 111)), some (.inl v1), some (.inl v2), none, none] [] h
  refine bX11_leastFor_0 (d' := 0) hr (by omega) ?_
  refine t_X11_within  ?_ ?_ ?_
  · intro p1
    refine bX11_leastFor_14  (fun c => absurd c (by decide)) (fun _ => ?_)
    exact bX11_leastFor_17  (K0 p1)
  · intro p2 p3
    refine bX11_leastFor_14  (fun c => absurd c (by decide)) (fun _ => ?_)
    exact bX11_leastFor_17  (K1 p2 p3)
  · intro p4 p5
    refine bX11_leastFor_14  (fun _ => ?_) (fun c => absurd c (by decide))
    refine bX11_leastFor_20 hr (G0 p4 p5) (fun p6 => ?_) (fun p6 => ?_)
    · exact bX11_leastFor_33 hr hd1' (K2 p4 p5 p6)
    · exact bX11_leastFor_30  (K3 p4 p5 p6)

set_option maxRecDepth 20000 in
theorem t_X11_leastFor_38 {d  : Nat} {Q : Option MV → MH → Prop} {h : MH} {v1 v2 : Int32} (K0 : J mX11_leastFor d 0 0 Q 0 0 40 [some (.inr (.inr 111)), some (.inl v1), some (.inl v2), some (.inl (nI 1)), none] [] h) : J mX11_leastFor d 0 0 Q 0 0 38 [some (.inr (.inr 111)), some (.inl v1), some (.inl v2), none, none] [] h := by
  refine bX11_leastFor_38  ?_
  exact K0

set_option maxRecDepth 20000 in
theorem t_X11_leastFor_40 {d  : Nat} {Q : Option MV → MH → Prop} {h : MH} {u4 : Option MV} {v1 v2 v3 : Int32} (K0 : (nI 4) < v3 → Q (some (.inl (-(nI 1)))) h) (K1 : ¬ (nI 4) < v3 → J mX11_leastFor d 0 0 Q 0 0 48 [some (.inr (.inr 111)), some (.inl v1), some (.inl v2), some (.inl v3), some (.inl (nI 1))] [] h) : J mX11_leastFor d 0 0 Q 0 0 40 [some (.inr (.inr 111)), some (.inl v1), some (.inl v2), some (.inl v3), u4] [] h := by
  refine bX11_leastFor_40  (fun p1 => ?_) (fun p1 => ?_)
  · exact bX11_leastFor_95  (K0 p1)
  · refine bX11_leastFor_45  ?_
    exact K1 p1

set_option maxRecDepth 20000 in
theorem t_X11_leastFor_48 {d d1' : Nat} {Q : Option MV → MH → Prop} {h : MH} {v1 v2 v3 v4 : Int32} (hr : zRf h) (hd1' : d1' + 1 ≤ d) (K0 : ((nI 1) <<< ((h.1 112 0) &&& 31)) ≤ v4 → J mX11_leastFor d 0 0 Q 0 0 40 [some (.inr (.inr 111)), some (.inl v1), some (.inl v2), some (.inl (v3 + nI 1)), some (.inl v4)] [] h) (K1 : ¬ ((nI 1) <<< ((h.1 112 0) &&& 31)) ≤ v4 → Con mX11_bitsOf d1' 0 0 [.inl v4] h (zri fun (x : Int32) h' => J mX11_leastFor d 0 0 Q 0 0 66 [some (.inr (.inr 111)), some (.inl v1), some (.inl v2), some (.inl v3), some (.inl v4)] [.inl x] h')) : J mX11_leastFor d 0 0 Q 0 0 48 [some (.inr (.inr 111)), some (.inl v1), some (.inl v2), some (.inl v3), some (.inl v4)] [] h := by
  refine bX11_leastFor_48 hr (vp_in_nI (by decide) (by decide)) (fun p1 => ?_) (fun p1 => ?_)
  · refine bX11_leastFor_89  ?_
    exact K0 p1
  · exact bX11_leastFor_61  hd1' (K1 p1)

set_option maxRecDepth 20000 in
theorem t_X11_leastFor_66 {d d1' : Nat} {Q : Option MV → MH → Prop} {h : MH} {v1 v2 v3 v4 vs0 : Int32} (hr : zRf h) (hd1' : d1' + 1 ≤ d) (K0 : ¬ vs0 = v3 → J mX11_leastFor d 0 0 Q 0 0 48 [some (.inr (.inr 111)), some (.inl v1), some (.inl v2), some (.inl v3), some (.inl (v4 + nI 1))] [] h) (K1 : vs0 = v3 → Con mX11_areTogether d1' 0 0 [.inr (.inr 111), .inl v4, .inl v2] h (zri fun (x : Int32) h' => J mX11_leastFor d 0 0 Q 0 0 77 [some (.inr (.inr 111)), some (.inl v1), some (.inl v2), some (.inl v3), some (.inl v4)] [.inl x] h')) : J mX11_leastFor d 0 0 Q 0 0 66 [some (.inr (.inr 111)), some (.inl v1), some (.inl v2), some (.inl v3), some (.inl v4)] [.inl vs0] h := by
  refine bX11_leastFor_66  (fun p1 => ?_) (fun p1 => ?_)
  · refine bX11_leastFor_83  ?_
    exact K0 p1
  · exact bX11_leastFor_70 hr hd1' (K1 p1)

set_option maxRecDepth 20000 in
theorem t_X11_leastFor_77 {d  : Nat} {Q : Option MV → MH → Prop} {h : MH} {v1 v2 v3 v4 vs0 : Int32} (K0 : vs0 = 0 → J mX11_leastFor d 0 0 Q 0 0 48 [some (.inr (.inr 111)), some (.inl v1), some (.inl v2), some (.inl v3), some (.inl (v4 + nI 1))] [] h) (K1 : ¬ vs0 = 0 → Q (some (.inl v4)) h) : J mX11_leastFor d 0 0 Q 0 0 77 [some (.inr (.inr 111)), some (.inl v1), some (.inl v2), some (.inl v3), some (.inl v4)] [.inl vs0] h := by
  refine bX11_leastFor_77  (fun p1 => ?_) (fun p1 => ?_)
  · refine bX11_leastFor_83  ?_
    exact K0 p1
  · exact bX11_leastFor_80  (K1 p1)

set_option maxRecDepth 20000 in
theorem t_X11_together {d d1' : Nat} {Q : Option MV → MH → Prop} {h : MH} {v1 v2 v3 : Int32} (hr : zRf h) (hd : 1 ≤ d) (hd1' : d1' + 1 ≤ d) (G0 : (lN 0) ≤ v3.toInt64 → v3.toInt64 ≤ (3 : Int64) → vp_in v3 4) (K0 : ¬ (lN 0) ≤ v3.toInt64 → Q (some (.inl (-(nI 2)))) (zsI h 111 0 (nI 0))) (K1 : (lN 0) ≤ v3.toInt64 → ¬ v3.toInt64 ≤ (3 : Int64) → Q (some (.inl (-(nI 2)))) (zsI h 111 0 (nI 0))) (K2 : (lN 0) ≤ v3.toInt64 → v3.toInt64 ≤ (3 : Int64) → ¬ ((zsI h 111 0 (nI 0)).1 140 v3.toNatClampNeg) = (-(nI 1)) → Con mX11_isSet d1' 0 0 [.inr (.inr 111), .inl v1] (zsI h 111 0 (nI 0)) (zri fun (x : Int32) h' => J mX11_together d 0 0 Q 0 0 38 [some (.inr (.inr 111)), some (.inl v1), some (.inl v2), some (.inl v3)] [.inl x] h')) (K3 : (lN 0) ≤ v3.toInt64 → v3.toInt64 ≤ (3 : Int64) → ((zsI h 111 0 (nI 0)).1 140 v3.toNatClampNeg) = (-(nI 1)) → Q (some (.inl (-(nI 6)))) (zsI h 111 0 (nI 0))) : Con mX11_together d 0 0 [.inr (.inr 111), .inl v1, .inl v2, .inl v3] h Q := by
  refine Con.intro rfl (Nat.le_of_ble_eq_true rfl) ?_
  show J mX11_together d 0 0 Q 0 0 0 [some (.inr (.inr 111)), some (.inl v1), some (.inl v2), some (.inl v3)] [] h
  refine bX11_together_0 (d' := 0) hr (by omega) ?_
  refine t_X11_within  ?_ ?_ ?_
  · intro p1
    refine bX11_together_14  (fun c => absurd c (by decide)) (fun _ => ?_)
    exact bX11_together_17  (K0 p1)
  · intro p2 p3
    refine bX11_together_14  (fun c => absurd c (by decide)) (fun _ => ?_)
    exact bX11_together_17  (K1 p2 p3)
  · intro p4 p5
    refine bX11_together_14  (fun _ => ?_) (fun c => absurd c (by decide))
    refine bX11_together_20 hr (G0 p4 p5) (fun p6 => ?_) (fun p6 => ?_)
    · exact bX11_together_33 hr hd1' (K2 p4 p5 p6)
    · exact bX11_together_30  (K3 p4 p5 p6)

set_option maxRecDepth 20000 in
theorem t_X11_together_38 {d d1' : Nat} {Q : Option MV → MH → Prop} {h : MH} {v1 v2 v3 vs0 : Int32} (hr : zRf h) (hd1' : d1' + 1 ≤ d) (K0 : ¬ vs0 = 0 → Con mX11_wants d1' 0 0 [.inr (.inr 111), .inl v3] h (zrv fun h' => J mX11_together d 0 0 Q 0 0 49 [some (.inr (.inr 111)), some (.inl v1), some (.inl v2), some (.inl v3)] [] h')) (K1 : vs0 = 0 → Q (some (.inl (-(nI 3)))) h) : J mX11_together d 0 0 Q 0 0 38 [some (.inr (.inr 111)), some (.inl v1), some (.inl v2), some (.inl v3)] [.inl vs0] h := by
  refine bX11_together_38  (fun p1 => ?_) (fun p1 => ?_)
  · exact bX11_together_44 hr hd1' (K0 p1)
  · exact bX11_together_41  (K1 p1)

set_option maxRecDepth 20000 in
theorem t_X11_together_49 {d d1' : Nat} {Q : Option MV → MH → Prop} {h : MH} {v1 v2 v3 : Int32} (hr : zRf h) (hd1' : d1' + 1 ≤ d) (K0 : Con mX11_areTogether d1' 0 0 [.inr (.inr 111), .inl v1, .inl v2] h (zri fun (x : Int32) h' => J mX11_together d 0 0 Q 0 0 55 [some (.inr (.inr 111)), some (.inl v1), some (.inl v2), some (.inl v3)] [.inl x] h')) : J mX11_together d 0 0 Q 0 0 49 [some (.inr (.inr 111)), some (.inl v1), some (.inl v2), some (.inl v3)] [] h := by
  exact bX11_together_49 hr hd1' (K0)

set_option maxRecDepth 20000 in
theorem t_X11_together_55 {d  : Nat} {Q : Option MV → MH → Prop} {h : MH} {v1 v2 v3 vs0 : Int32} (K0 : vs0 = 0 → Q (some (.inl (nI 0))) h) (K1 : ¬ vs0 = 0 → Q (some (.inl (nI 1))) h) : J mX11_together d 0 0 Q 0 0 55 [some (.inr (.inr 111)), some (.inl v1), some (.inl v2), some (.inl v3)] [.inl vs0] h := by
  refine bX11_together_55  (fun p1 => ?_) (fun p1 => ?_)
  · refine bX11_together_62  ?_
    exact bX11_together_63  (K0 p1)
  · refine bX11_together_58  ?_
    exact bX11_together_63  (K1 p1)

set_option maxRecDepth 20000 in
theorem t_X11_nearest {d d1' : Nat} {Q : Option MV → MH → Prop} {h : MH} {v1 v2 v3 : Int32} (hr : zRf h) (hd1' : d1' + 1 ≤ d) (K0 : Con mX11_isSet d1' 0 0 [.inr (.inr 111), .inl v1] (zsI h 111 0 (nI 0)) (zri fun (x : Int32) h' => J mX11_nearest d 0 0 Q 0 0 10 [some (.inr (.inr 111)), some (.inl v1), some (.inl v2), some (.inl v3), none, none, none, none, none, none] [.inl x] h')) : Con mX11_nearest d 0 0 [.inr (.inr 111), .inl v1, .inl v2, .inl v3] h Q := by
  refine Con.intro rfl (Nat.le_of_ble_eq_true rfl) ?_
  show J mX11_nearest d 0 0 Q 0 0 0 [some (.inr (.inr 111)), some (.inl v1), some (.inl v2), some (.inl v3), none, none, none, none, none, none] [] h
  exact bX11_nearest_0 hr hd1' (K0)

set_option maxRecDepth 20000 in
theorem t_X11_nearest_10 {d d1' : Nat} {Q : Option MV → MH → Prop} {h : MH} {v1 v2 v3 vs0 : Int32} (hr : zRf h) (hd1' : d1' + 1 ≤ d) (K0 : vs0 = 0 → Q (some (.inl (-(nI 3)))) h) (K1 : ¬ vs0 = 0 → (nI 1) ≤ v3 → Con mX11_laysTimes d1' 0 0 [.inr (.inr 111), .inl v1, .inl v2] h (zrv fun h' => J mX11_nearest d 0 0 Q 0 0 27 [some (.inr (.inr 111)), some (.inl v1), some (.inl v2), some (.inl v3), none, none, none, none, none, none] [] h')) (K2 : ¬ vs0 = 0 → ¬ (nI 1) ≤ v3 → Q (some (.inl (-(nI 3)))) h) : J mX11_nearest d 0 0 Q 0 0 10 [some (.inr (.inr 111)), some (.inl v1), some (.inl v2), some (.inl v3), none, none, none, none, none, none] [.inl vs0] h := by
  refine bX11_nearest_10  (fun p1 => ?_) (fun p1 => ?_)
  · exact bX11_nearest_18  (K0 p1)
  · refine bX11_nearest_13  (fun p2 => ?_) (fun p2 => ?_)
    · exact bX11_nearest_21 hr hd1' (K1 p1 p2)
    · exact bX11_nearest_18  (K2 p1 p2)

set_option maxRecDepth 20000 in
theorem t_X11_nearest_27 {d  : Nat} {Q : Option MV → MH → Prop} {h : MH} {v1 v2 v3 : Int32} (K0 : J mX11_nearest d 0 0 Q 0 0 36 [some (.inr (.inr 111)), some (.inl v1), some (.inl v2), some (.inl v3), some (.inl (-(nI 1))), some (.inr (.inl (lN 0))), none, some (.inl (nI 1)), none, none] [] h) : J mX11_nearest d 0 0 Q 0 0 27 [some (.inr (.inr 111)), some (.inl v1), some (.inl v2), some (.inl v3), none, none, none, none, none, none] [] h := by
  refine bX11_nearest_27  ?_
  exact K0

set_option maxRecDepth 20000 in
theorem t_X11_nearest_36 {d  : Nat} {Q : Option MV → MH → Prop} {h : MH} {u8 : Option MV} {v1 v2 v3 v4 v7 : Int32} {v5 : Int64} (hr : zRf h) (hd : 1 ≤ d) (G0 : ¬ ((nI 32) * (nI 11600)) ≤ v7 → ¬ (nI 11600) ≤ (v7 / (nI 32)) → vp_in (v7 / (nI 32)) 11600) (K0 : ((nI 32) * (nI 11600)) ≤ v7 → Q (some (.inl v4)) h) (K1 : ¬ ((nI 32) * (nI 11600)) ≤ v7 → (nI 11600) ≤ (v7 / (nI 32)) → J mX11_nearest d 0 0 Q 0 0 36 [some (.inr (.inr 111)), some (.inl v1), some (.inl v2), some (.inl v3), some (.inl v4), some (.inr (.inl v5)), none, some (.inl (v7 + nI 1)), u8, none] [] h) (K2 : ¬ ((nI 32) * (nI 11600)) ≤ v7 → ¬ (nI 11600) ≤ (v7 / (nI 32)) → ¬ (((h.1 132 (v7 / (nI 32)).toNatClampNeg) >>> ((v7 - v7 / (nI 32) * (nI 32)) &&& 31)) &&& (nI 1)) = (nI 1) → J mX11_nearest d 0 0 Q 0 0 36 [some (.inr (.inr 111)), some (.inl v1), some (.inl v2), some (.inl v3), some (.inl v4), some (.inr (.inl v5)), none, some (.inl (v7 + nI 1)), u8, none] [] h) (K3 : ¬ ((nI 32) * (nI 11600)) ≤ v7 → ¬ (nI 11600) ≤ (v7 / (nI 32)) → (((h.1 132 (v7 / (nI 32)).toNatClampNeg) >>> ((v7 - v7 / (nI 32) * (nI 32)) &&& 31)) &&& (nI 1)) = (nI 1) → v3 ≤ v7 → v4 = (-(nI 1)) → J mX11_nearest d 0 0 Q 0 0 36 [some (.inr (.inr 111)), some (.inl v1), some (.inl v2), some (.inl v3), some (.inl v7), some (.inr (.inl (v7.toInt64 - v3.toInt64))), none, some (.inl (v7 + nI 1)), some (.inr (.inl (v7.toInt64 - v3.toInt64))), none] [] h) (K4 : ¬ ((nI 32) * (nI 11600)) ≤ v7 → ¬ (nI 11600) ≤ (v7 / (nI 32)) → (((h.1 132 (v7 / (nI 32)).toNatClampNeg) >>> ((v7 - v7 / (nI 32) * (nI 32)) &&& 31)) &&& (nI 1)) = (nI 1) → v3 ≤ v7 → ¬ v4 = (-(nI 1)) → (lg_cmp (v7.toInt64 - v3.toInt64) v5) < 0 → J mX11_nearest d 0 0 Q 0 0 36 [some (.inr (.inr 111)), some (.inl v1), some (.inl v2), some (.inl v3), some (.inl v7), some (.inr (.inl (v7.toInt64 - v3.toInt64))), none, some (.inl (v7 + nI 1)), some (.inr (.inl (v7.toInt64 - v3.toInt64))), none] [] h) (K5 : ¬ ((nI 32) * (nI 11600)) ≤ v7 → ¬ (nI 11600) ≤ (v7 / (nI 32)) → (((h.1 132 (v7 / (nI 32)).toNatClampNeg) >>> ((v7 - v7 / (nI 32) * (nI 32)) &&& 31)) &&& (nI 1)) = (nI 1) → v3 ≤ v7 → ¬ v4 = (-(nI 1)) → ¬ (lg_cmp (v7.toInt64 - v3.toInt64) v5) < 0 → J mX11_nearest d 0 0 Q 0 0 36 [some (.inr (.inr 111)), some (.inl v1), some (.inl v2), some (.inl v3), some (.inl v4), some (.inr (.inl v5)), none, some (.inl (v7 + nI 1)), some (.inr (.inl (v7.toInt64 - v3.toInt64))), none] [] h) (K6 : ¬ ((nI 32) * (nI 11600)) ≤ v7 → ¬ (nI 11600) ≤ (v7 / (nI 32)) → (((h.1 132 (v7 / (nI 32)).toNatClampNeg) >>> ((v7 - v7 / (nI 32) * (nI 32)) &&& 31)) &&& (nI 1)) = (nI 1) → ¬ v3 ≤ v7 → v4 = (-(nI 1)) → J mX11_nearest d 0 0 Q 0 0 36 [some (.inr (.inr 111)), some (.inl v1), some (.inl v2), some (.inl v3), some (.inl v7), some (.inr (.inl (v3.toInt64 - v7.toInt64))), none, some (.inl (v7 + nI 1)), some (.inr (.inl (v3.toInt64 - v7.toInt64))), none] [] h) (K7 : ¬ ((nI 32) * (nI 11600)) ≤ v7 → ¬ (nI 11600) ≤ (v7 / (nI 32)) → (((h.1 132 (v7 / (nI 32)).toNatClampNeg) >>> ((v7 - v7 / (nI 32) * (nI 32)) &&& 31)) &&& (nI 1)) = (nI 1) → ¬ v3 ≤ v7 → ¬ v4 = (-(nI 1)) → (lg_cmp (v3.toInt64 - v7.toInt64) v5) < 0 → J mX11_nearest d 0 0 Q 0 0 36 [some (.inr (.inr 111)), some (.inl v1), some (.inl v2), some (.inl v3), some (.inl v7), some (.inr (.inl (v3.toInt64 - v7.toInt64))), none, some (.inl (v7 + nI 1)), some (.inr (.inl (v3.toInt64 - v7.toInt64))), none] [] h) (K8 : ¬ ((nI 32) * (nI 11600)) ≤ v7 → ¬ (nI 11600) ≤ (v7 / (nI 32)) → (((h.1 132 (v7 / (nI 32)).toNatClampNeg) >>> ((v7 - v7 / (nI 32) * (nI 32)) &&& 31)) &&& (nI 1)) = (nI 1) → ¬ v3 ≤ v7 → ¬ v4 = (-(nI 1)) → ¬ (lg_cmp (v3.toInt64 - v7.toInt64) v5) < 0 → J mX11_nearest d 0 0 Q 0 0 36 [some (.inr (.inr 111)), some (.inl v1), some (.inl v2), some (.inl v3), some (.inl v4), some (.inr (.inl v5)), none, some (.inl (v7 + nI 1)), some (.inr (.inl (v3.toInt64 - v7.toInt64))), none] [] h) : J mX11_nearest d 0 0 Q 0 0 36 [some (.inr (.inr 111)), some (.inl v1), some (.inl v2), some (.inl v3), some (.inl v4), some (.inr (.inl v5)), none, some (.inl v7), u8, none] [] h := by
  refine bX11_nearest_36 hr (fun p1 => ?_) (fun p1 => ?_)
  · exact bX11_nearest_115  (K0 p1)
  · refine bX11_nearest_49 (d' := 0) hr (by omega) ?_
    refine t_X11_isTime hr ?_ ?_ ?_ ?_
    · intro p2; exact (G0 p1 p2)
    · intro p3
      refine bX11_nearest_55  (fun c => absurd c (by decide)) (fun _ => ?_)
      refine bX11_nearest_58  ?_
      refine bX11_nearest_109  ?_
      exact K1 p1 p3
    · intro p4 p5
      refine bX11_nearest_55  (fun c => absurd c (by decide)) (fun _ => ?_)
      refine bX11_nearest_58  ?_
      refine bX11_nearest_109  ?_
      exact K2 p1 p4 p5
    · intro p6 p7
      refine bX11_nearest_55  (fun _ => ?_) (fun c => absurd c (by decide))
      refine bX11_nearest_61  (fun p8 => ?_) (fun p8 => ?_)
      · refine bX11_nearest_76  ?_
        refine bX11_nearest_82  (fun p9 => ?_) (fun p9 => ?_)
        · refine bX11_nearest_101  ?_
          refine bX11_nearest_109  ?_
          exact K3 p1 p6 p7 p8 p9
        · refine bX11_nearest_90  (fun p10 => ?_) (fun p10 => ?_)
          · refine bX11_nearest_101  ?_
            refine bX11_nearest_109  ?_
            exact K4 p1 p6 p7 p8 p9 p10
          · refine bX11_nearest_98  ?_
            refine bX11_nearest_109  ?_
            exact K5 p1 p6 p7 p8 p9 p10
      · refine bX11_nearest_67  ?_
        refine bX11_nearest_82  (fun p11 => ?_) (fun p11 => ?_)
        · refine bX11_nearest_101  ?_
          refine bX11_nearest_109  ?_
          exact K6 p1 p6 p7 p8 p11
        · refine bX11_nearest_90  (fun p12 => ?_) (fun p12 => ?_)
          · refine bX11_nearest_101  ?_
            refine bX11_nearest_109  ?_
            exact K7 p1 p6 p7 p8 p11 p12
          · refine bX11_nearest_98  ?_
            refine bX11_nearest_109  ?_
            exact K8 p1 p6 p7 p8 p11 p12

set_option maxRecDepth 20000 in
theorem t_X11_isFew {d d1' : Nat} {Q : Option MV → MH → Prop} {h : MH} {v1 : Int32} (hr : zRf h) (hd1' : d1' + 1 ≤ d) (K0 : Con mX11_isSet d1' 0 0 [.inr (.inr 111), .inl v1] h (zri fun (x : Int32) h' => J mX11_isFew d 0 0 Q 0 0 5 [some (.inr (.inr 111)), some (.inl v1)] [.inl x] h')) : Con mX11_isFew d 0 0 [.inr (.inr 111), .inl v1] h Q := by
  refine Con.intro rfl (Nat.le_of_ble_eq_true rfl) ?_
  show J mX11_isFew d 0 0 Q 0 0 0 [some (.inr (.inr 111)), some (.inl v1)] [] h
  exact bX11_isFew_0 hr hd1' (K0)

set_option maxRecDepth 20000 in
theorem t_X11_isFew_5 {d d1' : Nat} {Q : Option MV → MH → Prop} {h : MH} {v1 vs0 : Int32} (hd1' : d1' + 1 ≤ d) (K0 : vs0 = 0 → Q (some (.inl (nI 0))) h) (K1 : ¬ vs0 = 0 → Con mX11_bitsOf d1' 0 0 [.inl v1] h (zri fun (x : Int32) h' => J mX11_isFew d 0 0 Q 0 0 12 [some (.inr (.inr 111)), some (.inl v1)] [.inl x] h')) : J mX11_isFew d 0 0 Q 0 0 5 [some (.inr (.inr 111)), some (.inl v1)] [.inl vs0] h := by
  refine bX11_isFew_5  (fun p1 => ?_) (fun p1 => ?_)
  · refine bX11_isFew_20  ?_
    exact bX11_isFew_21 (by decide) (K0 p1)
  · exact bX11_isFew_8  hd1' (K1 p1)

set_option maxRecDepth 20000 in
theorem t_X11_isFew_12 {d  : Nat} {Q : Option MV → MH → Prop} {h : MH} {v1 vs0 : Int32} (K0 : (nI 3) ≤ vs0 → Q (some (.inl (nI 0))) h) (K1 : ¬ (nI 3) ≤ vs0 → Q (some (.inl (nI 1))) h) : J mX11_isFew d 0 0 Q 0 0 12 [some (.inr (.inr 111)), some (.inl v1)] [.inl vs0] h := by
  refine bX11_isFew_12  (fun p1 => ?_) (fun p1 => ?_)
  · refine bX11_isFew_20  ?_
    exact bX11_isFew_21 (by decide) (K0 p1)
  · refine bX11_isFew_16  ?_
    exact bX11_isFew_21 (by decide) (K1 p1)

set_option maxRecDepth 20000 in
theorem t_X11_spanAlong {d d1' : Nat} {Q : Option MV → MH → Prop} {h : MH} {v1 v2 v3 v4 : Int32} (hr : zRf h) (hd1' : d1' + 1 ≤ d) (K0 : Con mX11_restOf d1' 0 0 [.inr (.inr 111), .inl v1] h (zri fun (x : Int32) h' => J mX11_spanAlong d 0 0 Q 0 0 5 [some (.inr (.inr 111)), some (.inl v1), some (.inl v2), some (.inl v3), some (.inl v4), none, none, none, none] [.inl x] h')) : Con mX11_spanAlong d 0 0 [.inr (.inr 111), .inl v1, .inl v2, .inl v3, .inl v4] h Q := by
  refine Con.intro rfl (Nat.le_of_ble_eq_true rfl) ?_
  show J mX11_spanAlong d 0 0 Q 0 0 0 [some (.inr (.inr 111)), some (.inl v1), some (.inl v2), some (.inl v3), some (.inl v4), none, none, none, none] [] h
  exact bX11_spanAlong_0 hr hd1' (K0)

set_option maxRecDepth 20000 in
theorem t_X11_spanAlong_5 {d  : Nat} {Q : Option MV → MH → Prop} {h : MH} {v1 v2 v3 v4 vs0 : Int32} (K0 : v4 = 0 → J mX11_spanAlong d 0 0 Q 0 0 20 [some (.inr (.inr 111)), some (.inl v1), some (.inl v2), some (.inl v3), some (.inl v4), some (.inl vs0), none, none, none] [] h) (K1 : ¬ v4 = 0 → ¬ (v2 + v3) = vs0 → ¬ v4 = (nI 3) → J mX11_spanAlong d 0 0 Q 0 0 53 [some (.inr (.inr 111)), some (.inl v1), some (.inl v2), some (.inl v3), some (.inl v4), some (.inl vs0), some (.inl ((vs0 - v2) - v3)), some (.inl (nI 0)), some (.inl (nI 0))] [] h) (K2 : ¬ v4 = 0 → ¬ (v2 + v3) = vs0 → v4 = (nI 3) → J mX11_spanAlong d 0 0 Q 0 0 53 [some (.inr (.inr 111)), some (.inl v1), some (.inl v2), some (.inl v3), some (.inl v4), some (.inl vs0), some (.inl (((vs0 - v2) - v3) / (nI 2))), some (.inl (nI 0)), some (.inl (nI 0))] [] h) (K3 : ¬ v4 = 0 → (v2 + v3) = vs0 → J mX11_spanAlong d 0 0 Q 0 0 20 [some (.inr (.inr 111)), some (.inl v1), some (.inl v2), some (.inl v3), some (.inl v4), some (.inl vs0), none, none, none] [] h) : J mX11_spanAlong d 0 0 Q 0 0 5 [some (.inr (.inr 111)), some (.inl v1), some (.inl v2), some (.inl v3), some (.inl v4), none, none, none, none] [.inl vs0] h := by
  refine bX11_spanAlong_5  (fun p1 => ?_) (fun p1 => ?_)
  · exact K0 p1
  · refine bX11_spanAlong_12  (fun p2 => ?_) (fun p2 => ?_)
    · refine bX11_spanAlong_22  (fun p3 => ?_) (fun p3 => ?_)
      · refine bX11_spanAlong_39  ?_
        refine bX11_spanAlong_45  ?_
        exact K1 p1 p2 p3
      · refine bX11_spanAlong_28  ?_
        refine bX11_spanAlong_45  ?_
        exact K2 p1 p2 p3
    · exact K3 p1 p2

set_option maxRecDepth 20000 in
theorem t_X11_spanAlong_20 {d  : Nat} {Q : Option MV → MH → Prop} {h : MH} {v1 v2 v3 v4 v5 : Int32} (K0 : Q (some (.inl (-(nI 1)))) h) : J mX11_spanAlong d 0 0 Q 0 0 20 [some (.inr (.inr 111)), some (.inl v1), some (.inl v2), some (.inl v3), some (.inl v4), some (.inl v5), none, none, none] [] h := by
  exact bX11_spanAlong_20  (K0)

set_option maxRecDepth 20000 in
theorem t_X11_spanAlong_53 {d  : Nat} {Q : Option MV → MH → Prop} {h : MH} {v1 v2 v3 v4 v5 v6 v7 v8 : Int32} (hr : zRf h) (hd : 1 ≤ d) (G0 : vp_in ((nI 1) + v1) 2166) (G1 : ¬ ((h.1 112 ((nI 1) + v1).toNatClampNeg) - (nI 1)) ≤ v8 → vp_in (((nI 9) + ((nI 6) * v1)) + v8) 2166) (K0 : ((h.1 112 ((nI 1) + v1).toNatClampNeg) - (nI 1)) ≤ v8 → Q (some (.inl v6)) h) (K1 : ¬ ((h.1 112 ((nI 1) + v1).toNatClampNeg) - (nI 1)) ≤ v8 → ¬ (v4 &&& (nI 1)) = (nI 1) → J mX11_spanAlong d 0 0 Q 0 0 113 [some (.inr (.inr 111)), some (.inl v1), some (.inl v2), some (.inl v3), some (.inl v4), some (.inl v5), some (.inl v6), some (.inl (v7 + ((nI 256) * (h.1 112 (((nI 9) + ((nI 6) * v1)) + v8).toNatClampNeg)))), some (.inl v8)] [] h) (K2 : ¬ ((h.1 112 ((nI 1) + v1).toNatClampNeg) - (nI 1)) ≤ v8 → (v4 &&& (nI 1)) = (nI 1) → (v7 + ((nI 256) * (h.1 112 (((nI 9) + ((nI 6) * v1)) + v8).toNatClampNeg))) ≤ v2 → J mX11_spanAlong d 0 0 Q 0 0 113 [some (.inr (.inr 111)), some (.inl v1), some (.inl v2), some (.inl v3), some (.inl v4), some (.inl v5), some (.inl v6), some (.inl (v7 + ((nI 256) * (h.1 112 (((nI 9) + ((nI 6) * v1)) + v8).toNatClampNeg)))), some (.inl v8)] [] h) (K3 : ¬ ((h.1 112 ((nI 1) + v1).toNatClampNeg) - (nI 1)) ≤ v8 → (v4 &&& (nI 1)) = (nI 1) → ¬ (v7 + ((nI 256) * (h.1 112 (((nI 9) + ((nI 6) * v1)) + v8).toNatClampNeg))) ≤ v2 → v6 ≤ ((v7 + ((nI 256) * (h.1 112 (((nI 9) + ((nI 6) * v1)) + v8).toNatClampNeg))) - v2) → J mX11_spanAlong d 0 0 Q 0 0 113 [some (.inr (.inr 111)), some (.inl v1), some (.inl v2), some (.inl v3), some (.inl v4), some (.inl v5), some (.inl v6), some (.inl (v7 + ((nI 256) * (h.1 112 (((nI 9) + ((nI 6) * v1)) + v8).toNatClampNeg)))), some (.inl v8)] [] h) (K4 : ¬ ((h.1 112 ((nI 1) + v1).toNatClampNeg) - (nI 1)) ≤ v8 → (v4 &&& (nI 1)) = (nI 1) → ¬ (v7 + ((nI 256) * (h.1 112 (((nI 9) + ((nI 6) * v1)) + v8).toNatClampNeg))) ≤ v2 → ¬ v6 ≤ ((v7 + ((nI 256) * (h.1 112 (((nI 9) + ((nI 6) * v1)) + v8).toNatClampNeg))) - v2) → J mX11_spanAlong d 0 0 Q 0 0 113 [some (.inr (.inr 111)), some (.inl v1), some (.inl v2), some (.inl v3), some (.inl v4), some (.inl v5), some (.inl ((v7 + ((nI 256) * (h.1 112 (((nI 9) + ((nI 6) * v1)) + v8).toNatClampNeg))) - v2)), some (.inl (v7 + ((nI 256) * (h.1 112 (((nI 9) + ((nI 6) * v1)) + v8).toNatClampNeg)))), some (.inl v8)] [] h) : J mX11_spanAlong d 0 0 Q 0 0 53 [some (.inr (.inr 111)), some (.inl v1), some (.inl v2), some (.inl v3), some (.inl v4), some (.inl v5), some (.inl v6), some (.inl v7), some (.inl v8)] [] h := by
  refine bX11_spanAlong_53 hr (G0) (fun p1 => ?_) (fun p1 => ?_)
  · exact bX11_spanAlong_155  (K0 p1)
  · refine bX11_spanAlong_68 (d' := 0) hr (by omega) ?_
    refine t_X11_minuteOf hr (G1 p1) ?_
    · refine bX11_spanAlong_80  (fun p2 => ?_) (fun p2 => ?_)
      · exact K1 p1 p2
      · refine bX11_spanAlong_92  (fun p3 => ?_) (fun p3 => ?_)
        · exact K2 p1 p2 p3
        · refine bX11_spanAlong_98  (fun p4 => ?_) (fun p4 => ?_)
          · exact K3 p1 p2 p3 p4
          · refine bX11_spanAlong_107  ?_
            exact K4 p1 p2 p3 p4

set_option maxRecDepth 20000 in
theorem t_X11_spanAlong_113 {d  : Nat} {Q : Option MV → MH → Prop} {h : MH} {v1 v2 v3 v4 v5 v6 v7 v8 : Int32} (K0 : v4 ≤ (nI 1) → J mX11_spanAlong d 0 0 Q 0 0 149 [some (.inr (.inr 111)), some (.inl v1), some (.inl v2), some (.inl v3), some (.inl v4), some (.inl v5), some (.inl v6), some (.inl v7), some (.inl v8)] [] h) (K1 : ¬ v4 ≤ (nI 1) → (v5 - v7) ≤ v3 → J mX11_spanAlong d 0 0 Q 0 0 149 [some (.inr (.inr 111)), some (.inl v1), some (.inl v2), some (.inl v3), some (.inl v4), some (.inl v5), some (.inl v6), some (.inl v7), some (.inl v8)] [] h) (K2 : ¬ v4 ≤ (nI 1) → ¬ (v5 - v7) ≤ v3 → v6 ≤ ((v5 - v7) - v3) → J mX11_spanAlong d 0 0 Q 0 0 149 [some (.inr (.inr 111)), some (.inl v1), some (.inl v2), some (.inl v3), some (.inl v4), some (.inl v5), some (.inl v6), some (.inl v7), some (.inl v8)] [] h) (K3 : ¬ v4 ≤ (nI 1) → ¬ (v5 - v7) ≤ v3 → ¬ v6 ≤ ((v5 - v7) - v3) → J mX11_spanAlong d 0 0 Q 0 0 149 [some (.inr (.inr 111)), some (.inl v1), some (.inl v2), some (.inl v3), some (.inl v4), some (.inl v5), some (.inl ((v5 - v7) - v3)), some (.inl v7), some (.inl v8)] [] h) : J mX11_spanAlong d 0 0 Q 0 0 113 [some (.inr (.inr 111)), some (.inl v1), some (.inl v2), some (.inl v3), some (.inl v4), some (.inl v5), some (.inl v6), some (.inl v7), some (.inl v8)] [] h := by
  refine bX11_spanAlong_113  (fun p1 => ?_) (fun p1 => ?_)
  · exact K0 p1
  · refine bX11_spanAlong_119  (fun p2 => ?_) (fun p2 => ?_)
    · exact K1 p1 p2
    · refine bX11_spanAlong_128  (fun p3 => ?_) (fun p3 => ?_)
      · exact K2 p1 p2 p3
      · refine bX11_spanAlong_140  ?_
        exact K3 p1 p2 p3

set_option maxRecDepth 20000 in
theorem t_X11_spanAlong_149 {d  : Nat} {Q : Option MV → MH → Prop} {h : MH} {v1 v2 v3 v4 v5 v6 v7 v8 : Int32} (K0 : J mX11_spanAlong d 0 0 Q 0 0 53 [some (.inr (.inr 111)), some (.inl v1), some (.inl v2), some (.inl v3), some (.inl v4), some (.inl v5), some (.inl v6), some (.inl v7), some (.inl (v8 + nI 1))] [] h) : J mX11_spanAlong d 0 0 Q 0 0 149 [some (.inr (.inr 111)), some (.inl v1), some (.inl v2), some (.inl v3), some (.inl v4), some (.inl v5), some (.inl v6), some (.inl v7), some (.inl v8)] [] h := by
  refine bX11_spanAlong_149  ?_
  exact K0

set_option maxRecDepth 20000 in
theorem t_X11_isBurnt {d d1' : Nat} {Q : Option MV → MH → Prop} {h : MH} {v1 v2 : Int32} (hr : zRf h) (hd1' : d1' + 1 ≤ d) (G0 : vp_in (((nI 2) * v1) + v2) 128) (G1 : vp_in v2 4) (K0 : Con mX11_restOf d1' 0 0 [.inr (.inr 111), .inl (h.1 127 v2.toNatClampNeg)] h (zri fun (x : Int32) h' => J mX11_isBurnt d 0 0 Q 0 0 31 [some (.inr (.inr 111)), some (.inl v1), some (.inl v2)] [.inl x, .inl ((h.1 136 (((nI 2) * v1) + v2).toNatClampNeg) + (h.1 137 (((nI 2) * v1) + v2).toNatClampNeg))] h')) : Con mX11_isBurnt d 0 0 [.inr (.inr 111), .inl v1, .inl v2] h Q := by
  refine Con.intro rfl (Nat.le_of_ble_eq_true rfl) ?_
  show J mX11_isBurnt d 0 0 Q 0 0 0 [some (.inr (.inr 111)), some (.inl v1), some (.inl v2)] [] h
  exact bX11_isBurnt_0 hr (G0) (G1) hd1' (K0)

set_option maxRecDepth 20000 in
theorem t_X11_isBurnt_31 {d  : Nat} {Q : Option MV → MH → Prop} {h : MH} {v1 v2 vs0 vs1 : Int32} (K0 : ¬ vs0 = vs1 → Q (some (.inl (nI 0))) h) (K1 : vs0 = vs1 → Q (some (.inl (nI 1))) h) : J mX11_isBurnt d 0 0 Q 0 0 31 [some (.inr (.inr 111)), some (.inl v1), some (.inl v2)] [.inl vs1, .inl vs0] h := by
  refine bX11_isBurnt_31  (fun p1 => ?_) (fun p1 => ?_)
  · refine bX11_isBurnt_38  ?_
    exact bX11_isBurnt_39 (by decide) (K0 p1)
  · refine bX11_isBurnt_34  ?_
    exact bX11_isBurnt_39 (by decide) (K1 p1)

set_option maxRecDepth 20000 in
theorem t_X11_goesAlong {d  : Nat} {Q : Option MV → MH → Prop} {h : MH} {v1 v2 : Int32} (K0 : J mX11_goesAlong d 0 0 Q 0 0 2 [some (.inr (.inr 111)), some (.inl v1), some (.inl v2), some (.inl (nI 0)), none, none, none, none, none, none] [] h) : Con mX11_goesAlong d 0 0 [.inr (.inr 111), .inl v1, .inl v2] h Q := by
  refine Con.intro rfl (Nat.le_of_ble_eq_true rfl) ?_
  show J mX11_goesAlong d 0 0 Q 0 0 0 [some (.inr (.inr 111)), some (.inl v1), some (.inl v2), none, none, none, none, none, none, none] [] h
  refine bX11_goesAlong_0  ?_
  exact K0

set_option maxRecDepth 20000 in
theorem t_X11_goesAlong_2 {d  : Nat} {Q : Option MV → MH → Prop} {h : MH} {u4 u5 u6 u7 u8 u9 : Option MV} {v1 v2 v3 : Int32} (K0 : (nI 16) ≤ v3 → Q none h) (K1 : ¬ (nI 16) ≤ v3 → J mX11_goesAlong d 0 0 Q 0 0 17 [some (.inr (.inr 111)), some (.inl v1), some (.inl v2), some (.inl v3), some (.inl (nI 1)), some (.inl (-(nI 1))), some (.inl (nI 0)), u7, u8, u9] [] h) : J mX11_goesAlong d 0 0 Q 0 0 2 [some (.inr (.inr 111)), some (.inl v1), some (.inl v2), some (.inl v3), u4, u5, u6, u7, u8, u9] [] h := by
  refine bX11_goesAlong_2  (fun p1 => ?_) (fun p1 => ?_)
  · exact bX11_goesAlong_358  (K0 p1)
  · refine bX11_goesAlong_8  ?_
    exact K1 p1

set_option maxRecDepth 20000 in
theorem t_X11_goesAlong_17 {d d1' : Nat} {Q : Option MV → MH → Prop} {h : MH} {u7 u8 u9 : Option MV} {v1 v2 v3 v4 v5 v6 : Int32} (hr : zRf h) (hd1' : d1' + 1 ≤ d) (K0 : (nI 2) ≤ v6 → v4 = 0 → J mX11_goesAlong d 0 0 Q 0 0 2 [some (.inr (.inr 111)), some (.inl v1), some (.inl v2), some (.inl (v3 + nI 1)), some (.inl v4), some (.inl v5), some (.inl v6), u7, u8, u9] [] h) (K1 : (nI 2) ≤ v6 → ¬ v4 = 0 → ¬ v5 = (-(nI 1)) → J mX11_goesAlong d 0 0 Q 0 0 191 [some (.inr (.inr 111)), some (.inl v1), some (.inl v2), some (.inl v3), some (.inl v4), some (.inl v5), some (.inl (nI 0)), u7, u8, u9] [] h) (K2 : (nI 2) ≤ v6 → ¬ v4 = 0 → v5 = (-(nI 1)) → J mX11_goesAlong d 0 0 Q 0 0 2 [some (.inr (.inr 111)), some (.inl v1), some (.inl v2), some (.inl (v3 + nI 1)), some (.inl v4), some (.inl v5), some (.inl v6), u7, u8, u9] [] h) (K3 : ¬ (nI 2) ≤ v6 → (h.1 111 38) ≤ v6 → v4 = 0 → J mX11_goesAlong d 0 0 Q 0 0 17 [some (.inr (.inr 111)), some (.inl v1), some (.inl v2), some (.inl v3), some (.inl (nI 0)), some (.inl v5), some (.inl (v6 + nI 1)), some (.inl ((v3 >>> (((nI 2) * v6) &&& 31)) &&& (nI 3))), u8, u9] [] h) (K4 : ¬ (nI 2) ≤ v6 → (h.1 111 38) ≤ v6 → ¬ v4 = 0 → ¬ ((v3 >>> (((nI 2) * v6) &&& 31)) &&& (nI 3)) = 0 → J mX11_goesAlong d 0 0 Q 0 0 17 [some (.inr (.inr 111)), some (.inl v1), some (.inl v2), some (.inl v3), some (.inl (nI 0)), some (.inl v5), some (.inl (v6 + nI 1)), some (.inl ((v3 >>> (((nI 2) * v6) &&& 31)) &&& (nI 3))), u8, u9] [] h) (K5 : ¬ (nI 2) ≤ v6 → (h.1 111 38) ≤ v6 → ¬ v4 = 0 → ((v3 >>> (((nI 2) * v6) &&& 31)) &&& (nI 3)) = 0 → J mX11_goesAlong d 0 0 Q 0 0 17 [some (.inr (.inr 111)), some (.inl v1), some (.inl v2), some (.inl v3), some (.inl (nI 1)), some (.inl v5), some (.inl (v6 + nI 1)), some (.inl ((v3 >>> (((nI 2) * v6) &&& 31)) &&& (nI 3))), u8, u9] [] h) (K6 : ¬ (nI 2) ≤ v6 → ¬ (h.1 111 38) ≤ v6 → Con mX11_isBurnt d1' 0 0 [.inr (.inr 111), .inl v1, .inl v6] h (zri fun (x : Int32) h' => J mX11_goesAlong d 0 0 Q 0 0 49 [some (.inr (.inr 111)), some (.inl v1), some (.inl v2), some (.inl v3), some (.inl v4), some (.inl v5), some (.inl v6), some (.inl ((v3 >>> (((nI 2) * v6) &&& 31)) &&& (nI 3))), u8, u9] [.inl x] h')) : J mX11_goesAlong d 0 0 Q 0 0 17 [some (.inr (.inr 111)), some (.inl v1), some (.inl v2), some (.inl v3), some (.inl v4), some (.inl v5), some (.inl v6), u7, u8, u9] [] h := by
  refine bX11_goesAlong_17  (fun p1 => ?_) (fun p1 => ?_)
  · refine bX11_goesAlong_174  (fun p2 => ?_) (fun p2 => ?_)
    · refine bX11_goesAlong_352  ?_
      exact K0 p1 p2
    · refine bX11_goesAlong_179  (fun p3 => ?_) (fun p3 => ?_)
      · refine bX11_goesAlong_188  ?_
        exact K1 p1 p2 p3
      · refine bX11_goesAlong_185  ?_
        refine bX11_goesAlong_352  ?_
        exact K2 p1 p2 p3
  · refine bX11_goesAlong_23 hr (fun p4 => ?_) (fun p4 => ?_)
    · refine bX11_goesAlong_52  (fun p5 => ?_) (fun p5 => ?_)
      · refine bX11_goesAlong_66  ?_
        refine bX11_goesAlong_67  ?_
        refine bX11_goesAlong_168  ?_
        exact K3 p1 p4 p5
      · refine bX11_goesAlong_57  (fun p6 => ?_) (fun p6 => ?_)
        · refine bX11_goesAlong_66  ?_
          refine bX11_goesAlong_67  ?_
          refine bX11_goesAlong_168  ?_
          exact K4 p1 p4 p5 p6
        · refine bX11_goesAlong_62  ?_
          refine bX11_goesAlong_67  ?_
          refine bX11_goesAlong_168  ?_
          exact K5 p1 p4 p5 p6
    · exact bX11_goesAlong_42 hr hd1' (K6 p1 p4)

set_option maxRecDepth 20000 in
theorem t_X11_goesAlong_49 {d d1' d2' d3' : Nat} {Q : Option MV → MH → Prop} {h : MH} {u8 u9 : Option MV} {v1 v2 v3 v4 v5 v6 v7 vs0 : Int32} (hr : zRf h) (hd1' : d1' + 1 ≤ d) (hd2' : d2' + 1 ≤ d) (hd3' : d3' + 1 ≤ d) (G0 : vs0 = 0 → vp_in (((nI 2) * v1) + v6) 128) (G1 : vs0 = 0 → v4 = 0 → vp_in v6 4) (G2 : vs0 = 0 → ¬ v4 = 0 → ¬ (v7 &&& (h.1 138 (((nI 2) * v1) + v6).toNatClampNeg)) = 0 → vp_in v6 4) (G3 : vs0 = 0 → ¬ v4 = 0 → (v7 &&& (h.1 138 (((nI 2) * v1) + v6).toNatClampNeg)) = 0 → vp_in v6 4) (K0 : vs0 = 0 → v4 = 0 → Con mX11_spanAlong d1' 0 0 [.inr (.inr 111), .inl (h.1 127 v6.toNatClampNeg), .inl (h.1 136 (((nI 2) * v1) + v6).toNatClampNeg), .inl (h.1 137 (((nI 2) * v1) + v6).toNatClampNeg), .inl ((h.1 138 (((nI 2) * v1) + v6).toNatClampNeg) ||| v7)] h (zri fun (x : Int32) h' => J mX11_goesAlong d 0 0 Q 0 0 143 [some (.inr (.inr 111)), some (.inl v1), some (.inl v2), some (.inl v3), some (.inl (nI 0)), some (.inl v5), some (.inl v6), some (.inl v7), some (.inl (h.1 138 (((nI 2) * v1) + v6).toNatClampNeg)), u9] [.inl x] h')) (K1 : vs0 = 0 → ¬ v4 = 0 → ¬ (v7 &&& (h.1 138 (((nI 2) * v1) + v6).toNatClampNeg)) = 0 → Con mX11_spanAlong d2' 0 0 [.inr (.inr 111), .inl (h.1 127 v6.toNatClampNeg), .inl (h.1 136 (((nI 2) * v1) + v6).toNatClampNeg), .inl (h.1 137 (((nI 2) * v1) + v6).toNatClampNeg), .inl ((h.1 138 (((nI 2) * v1) + v6).toNatClampNeg) ||| v7)] h (zri fun (x : Int32) h' => J mX11_goesAlong d 0 0 Q 0 0 143 [some (.inr (.inr 111)), some (.inl v1), some (.inl v2), some (.inl v3), some (.inl (nI 0)), some (.inl v5), some (.inl v6), some (.inl v7), some (.inl (h.1 138 (((nI 2) * v1) + v6).toNatClampNeg)), u9] [.inl x] h')) (K2 : vs0 = 0 → ¬ v4 = 0 → (v7 &&& (h.1 138 (((nI 2) * v1) + v6).toNatClampNeg)) = 0 → Con mX11_spanAlong d3' 0 0 [.inr (.inr 111), .inl (h.1 127 v6.toNatClampNeg), .inl (h.1 136 (((nI 2) * v1) + v6).toNatClampNeg), .inl (h.1 137 (((nI 2) * v1) + v6).toNatClampNeg), .inl ((h.1 138 (((nI 2) * v1) + v6).toNatClampNeg) ||| v7)] h (zri fun (x : Int32) h' => J mX11_goesAlong d 0 0 Q 0 0 143 [some (.inr (.inr 111)), some (.inl v1), some (.inl v2), some (.inl v3), some (.inl (nI 1)), some (.inl v5), some (.inl v6), some (.inl v7), some (.inl (h.1 138 (((nI 2) * v1) + v6).toNatClampNeg)), u9] [.inl x] h')) (K3 : ¬ vs0 = 0 → v4 = 0 → J mX11_goesAlong d 0 0 Q 0 0 17 [some (.inr (.inr 111)), some (.inl v1), some (.inl v2), some (.inl v3), some (.inl (nI 0)), some (.inl v5), some (.inl (v6 + nI 1)), some (.inl v7), u8, u9] [] h) (K4 : ¬ vs0 = 0 → ¬ v4 = 0 → ¬ v7 = 0 → J mX11_goesAlong d 0 0 Q 0 0 17 [some (.inr (.inr 111)), some (.inl v1), some (.inl v2), some (.inl v3), some (.inl (nI 0)), some (.inl v5), some (.inl (v6 + nI 1)), some (.inl v7), u8, u9] [] h) (K5 : ¬ vs0 = 0 → ¬ v4 = 0 → v7 = 0 → J mX11_goesAlong d 0 0 Q 0 0 17 [some (.inr (.inr 111)), some (.inl v1), some (.inl v2), some (.inl v3), some (.inl (nI 1)), some (.inl v5), some (.inl (v6 + nI 1)), some (.inl v7), u8, u9] [] h) : J mX11_goesAlong d 0 0 Q 0 0 49 [some (.inr (.inr 111)), some (.inl v1), some (.inl v2), some (.inl v3), some (.inl v4), some (.inl v5), some (.inl v6), some (.inl v7), u8, u9] [.inl vs0] h := by
  refine bX11_goesAlong_49  (fun p1 => ?_) (fun p1 => ?_)
  · refine bX11_goesAlong_72 hr (G0 p1) (fun p2 => ?_) (fun p2 => ?_)
    · refine bX11_goesAlong_102  ?_
      exact bX11_goesAlong_103 hr (G1 p1 p2) (G0 p1) hd1' (K0 p1 p2)
    · refine bX11_goesAlong_90  (fun p3 => ?_) (fun p3 => ?_)
      · refine bX11_goesAlong_102  ?_
        exact bX11_goesAlong_103 hr (G2 p1 p2 p3) (G0 p1) hd2' (K1 p1 p2 p3)
      · refine bX11_goesAlong_98  ?_
        exact bX11_goesAlong_103 hr (G3 p1 p2 p3) (G0 p1) hd3' (K2 p1 p2 p3)
  · refine bX11_goesAlong_52  (fun p4 => ?_) (fun p4 => ?_)
    · refine bX11_goesAlong_66  ?_
      refine bX11_goesAlong_67  ?_
      refine bX11_goesAlong_168  ?_
      exact K3 p1 p4
    · refine bX11_goesAlong_57  (fun p5 => ?_) (fun p5 => ?_)
      · refine bX11_goesAlong_66  ?_
        refine bX11_goesAlong_67  ?_
        refine bX11_goesAlong_168  ?_
        exact K4 p1 p4 p5
      · refine bX11_goesAlong_62  ?_
        refine bX11_goesAlong_67  ?_
        refine bX11_goesAlong_168  ?_
        exact K5 p1 p4 p5

set_option maxRecDepth 20000 in
theorem t_X11_goesAlong_143 {d  : Nat} {Q : Option MV → MH → Prop} {h : MH} {u9 : Option MV} {v1 v2 v3 v4 v5 v6 v7 v8 vs0 : Int32} (K0 : vs0 = (-(nI 1)) → J mX11_goesAlong d 0 0 Q 0 0 17 [some (.inr (.inr 111)), some (.inl v1), some (.inl v2), some (.inl v3), some (.inl v4), some (.inl v5), some (.inl (v6 + nI 1)), some (.inl v7), some (.inl v8), some (.inl vs0)] [] h) (K1 : ¬ vs0 = (-(nI 1)) → v5 = (-(nI 1)) → J mX11_goesAlong d 0 0 Q 0 0 17 [some (.inr (.inr 111)), some (.inl v1), some (.inl v2), some (.inl v3), some (.inl v4), some (.inl vs0), some (.inl (v6 + nI 1)), some (.inl v7), some (.inl v8), some (.inl vs0)] [] h) (K2 : ¬ vs0 = (-(nI 1)) → ¬ v5 = (-(nI 1)) → v5 ≤ vs0 → J mX11_goesAlong d 0 0 Q 0 0 17 [some (.inr (.inr 111)), some (.inl v1), some (.inl v2), some (.inl v3), some (.inl v4), some (.inl v5), some (.inl (v6 + nI 1)), some (.inl v7), some (.inl v8), some (.inl vs0)] [] h) (K3 : ¬ vs0 = (-(nI 1)) → ¬ v5 = (-(nI 1)) → ¬ v5 ≤ vs0 → J mX11_goesAlong d 0 0 Q 0 0 17 [some (.inr (.inr 111)), some (.inl v1), some (.inl v2), some (.inl v3), some (.inl v4), some (.inl vs0), some (.inl (v6 + nI 1)), some (.inl v7), some (.inl v8), some (.inl vs0)] [] h) : J mX11_goesAlong d 0 0 Q 0 0 143 [some (.inr (.inr 111)), some (.inl v1), some (.inl v2), some (.inl v3), some (.inl v4), some (.inl v5), some (.inl v6), some (.inl v7), some (.inl v8), u9] [.inl vs0] h := by
  refine bX11_goesAlong_143  (fun p1 => ?_) (fun p1 => ?_)
  · refine bX11_goesAlong_168  ?_
    exact K0 p1
  · refine bX11_goesAlong_151  (fun p2 => ?_) (fun p2 => ?_)
    · refine bX11_goesAlong_164  ?_
      refine bX11_goesAlong_168  ?_
      exact K1 p1 p2
    · refine bX11_goesAlong_157  (fun p3 => ?_) (fun p3 => ?_)
      · refine bX11_goesAlong_168  ?_
        exact K2 p1 p2 p3
      · refine bX11_goesAlong_164  ?_
        refine bX11_goesAlong_168  ?_
        exact K3 p1 p2 p3

set_option maxRecDepth 20000 in
theorem t_X11_goesAlong_191 {d d1' d2' : Nat} {Q : Option MV → MH → Prop} {h : MH} {u7 u8 u9 : Option MV} {v1 v2 v3 v4 v5 v6 : Int32} (hr : zRf h) (hd : 1 ≤ d) (hd1' : d1' + 1 ≤ d) (hd2' : d2' + 1 ≤ d) (G0 : (h.1 111 38) ≤ v6 → vp_in ((v2 + v5) / (nI 32)) 11600) (K0 : (h.1 111 38) ≤ v6 → Con mX11_goesAlong d1' 0 0 [.inr (.inr 111), .inl (v1 + (nI 1)), .inl (v2 + v5)] (zsI h 132 ((v2 + v5) / (nI 32)).toNatClampNeg ((h.1 132 ((v2 + v5) / (nI 32)).toNatClampNeg) ||| ((nI 1) <<< (((v2 + v5) - (v2 + v5) / (nI 32) * (nI 32)) &&& 31)))) (zrv fun h' => J mX11_goesAlong d 0 0 Q 0 0 352 [some (.inr (.inr 111)), some (.inl v1), some (.inl v2), some (.inl v3), some (.inl v4), some (.inl v5), some (.inl v6), u7, u8, u9] [] h')) (K1 : ¬ (h.1 111 38) ≤ v6 → Con mX11_isBurnt d2' 0 0 [.inr (.inr 111), .inl v1, .inl v6] h (zri fun (x : Int32) h' => J mX11_goesAlong d 0 0 Q 0 0 207 [some (.inr (.inr 111)), some (.inl v1), some (.inl v2), some (.inl v3), some (.inl v4), some (.inl v5), some (.inl v6), u7, u8, u9] [.inl x] h')) : J mX11_goesAlong d 0 0 Q 0 0 191 [some (.inr (.inr 111)), some (.inl v1), some (.inl v2), some (.inl v3), some (.inl v4), some (.inl v5), some (.inl v6), u7, u8, u9] [] h := by
  refine bX11_goesAlong_191 hr (fun p1 => ?_) (fun p1 => ?_)
  · refine bX11_goesAlong_333 (d' := 0) hr (by omega) ?_
    refine t_X11_adds hr (G0 p1) ?_
    · exact bX11_goesAlong_341 hr hd1' (K0 p1)
  · exact bX11_goesAlong_200 hr hd2' (K1 p1)

set_option maxRecDepth 20000 in
theorem t_X11_goesAlong_207 {d  : Nat} {Q : Option MV → MH → Prop} {h : MH} {u7 u8 u9 : Option MV} {v1 v2 v3 v4 v5 v6 vs0 : Int32} (hr : zRf h) (G0 : vs0 = 0 → vp_in (((nI 2) * v1) + v6) 128) (G1 : vs0 = 0 → ¬ (((h.1 138 (((nI 2) * v1) + v6).toNatClampNeg) ||| ((v3 >>> (((nI 2) * v6) &&& 31)) &&& (nI 3))) &&& (nI 1)) = (nI 1) → zokA h 136 20 ((((nI 2) * v1) + (nI 2)) + v6)) (G2 : vs0 = 0 → ¬ (((h.1 138 (((nI 2) * v1) + v6).toNatClampNeg) ||| ((v3 >>> (((nI 2) * v6) &&& 31)) &&& (nI 3))) &&& (nI 1)) = (nI 1) → ((h.1 138 (((nI 2) * v1) + v6).toNatClampNeg) ||| ((v3 >>> (((nI 2) * v6) &&& 31)) &&& (nI 3))) ≤ (nI 1) → zokA (zsI h 136 ((((nI 2) * v1) + (nI 2)) + v6).toNatClampNeg ((h.1 136 (((nI 2) * v1) + v6).toNatClampNeg) + (nI 0))) 137 20 ((((nI 2) * v1) + (nI 2)) + v6)) (G3 : vs0 = 0 → ¬ (((h.1 138 (((nI 2) * v1) + v6).toNatClampNeg) ||| ((v3 >>> (((nI 2) * v6) &&& 31)) &&& (nI 3))) &&& (nI 1)) = (nI 1) → ((h.1 138 (((nI 2) * v1) + v6).toNatClampNeg) ||| ((v3 >>> (((nI 2) * v6) &&& 31)) &&& (nI 3))) ≤ (nI 1) → vp_in ((((nI 2) * v1) + (nI 2)) + v6) 128) (G4 : vs0 = 0 → ¬ (((h.1 138 (((nI 2) * v1) + v6).toNatClampNeg) ||| ((v3 >>> (((nI 2) * v6) &&& 31)) &&& (nI 3))) &&& (nI 1)) = (nI 1) → ¬ ((h.1 138 (((nI 2) * v1) + v6).toNatClampNeg) ||| ((v3 >>> (((nI 2) * v6) &&& 31)) &&& (nI 3))) ≤ (nI 1) → zokA (zsI h 136 ((((nI 2) * v1) + (nI 2)) + v6).toNatClampNeg ((h.1 136 (((nI 2) * v1) + v6).toNatClampNeg) + (nI 0))) 137 20 ((((nI 2) * v1) + (nI 2)) + v6)) (G5 : vs0 = 0 → ¬ (((h.1 138 (((nI 2) * v1) + v6).toNatClampNeg) ||| ((v3 >>> (((nI 2) * v6) &&& 31)) &&& (nI 3))) &&& (nI 1)) = (nI 1) → ¬ ((h.1 138 (((nI 2) * v1) + v6).toNatClampNeg) ||| ((v3 >>> (((nI 2) * v6) &&& 31)) &&& (nI 3))) ≤ (nI 1) → vp_in ((((nI 2) * v1) + (nI 2)) + v6) 128) (G6 : vs0 = 0 → (((h.1 138 (((nI 2) * v1) + v6).toNatClampNeg) ||| ((v3 >>> (((nI 2) * v6) &&& 31)) &&& (nI 3))) &&& (nI 1)) = (nI 1) → zokA h 136 20 ((((nI 2) * v1) + (nI 2)) + v6)) (G7 : vs0 = 0 → (((h.1 138 (((nI 2) * v1) + v6).toNatClampNeg) ||| ((v3 >>> (((nI 2) * v6) &&& 31)) &&& (nI 3))) &&& (nI 1)) = (nI 1) → ((h.1 138 (((nI 2) * v1) + v6).toNatClampNeg) ||| ((v3 >>> (((nI 2) * v6) &&& 31)) &&& (nI 3))) ≤ (nI 1) → zokA (zsI h 136 ((((nI 2) * v1) + (nI 2)) + v6).toNatClampNeg ((h.1 136 (((nI 2) * v1) + v6).toNatClampNeg) + v5)) 137 20 ((((nI 2) * v1) + (nI 2)) + v6)) (G8 : vs0 = 0 → (((h.1 138 (((nI 2) * v1) + v6).toNatClampNeg) ||| ((v3 >>> (((nI 2) * v6) &&& 31)) &&& (nI 3))) &&& (nI 1)) = (nI 1) → ((h.1 138 (((nI 2) * v1) + v6).toNatClampNeg) ||| ((v3 >>> (((nI 2) * v6) &&& 31)) &&& (nI 3))) ≤ (nI 1) → vp_in ((((nI 2) * v1) + (nI 2)) + v6) 128) (G9 : vs0 = 0 → (((h.1 138 (((nI 2) * v1) + v6).toNatClampNeg) ||| ((v3 >>> (((nI 2) * v6) &&& 31)) &&& (nI 3))) &&& (nI 1)) = (nI 1) → ¬ ((h.1 138 (((nI 2) * v1) + v6).toNatClampNeg) ||| ((v3 >>> (((nI 2) * v6) &&& 31)) &&& (nI 3))) ≤ (nI 1) → zokA (zsI h 136 ((((nI 2) * v1) + (nI 2)) + v6).toNatClampNeg ((h.1 136 (((nI 2) * v1) + v6).toNatClampNeg) + v5)) 137 20 ((((nI 2) * v1) + (nI 2)) + v6)) (G10 : vs0 = 0 → (((h.1 138 (((nI 2) * v1) + v6).toNatClampNeg) ||| ((v3 >>> (((nI 2) * v6) &&& 31)) &&& (nI 3))) &&& (nI 1)) = (nI 1) → ¬ ((h.1 138 (((nI 2) * v1) + v6).toNatClampNeg) ||| ((v3 >>> (((nI 2) * v6) &&& 31)) &&& (nI 3))) ≤ (nI 1) → vp_in ((((nI 2) * v1) + (nI 2)) + v6) 128) (G11 : ¬ vs0 = 0 → vp_in (((nI 2) * v1) + v6) 128) (G12 : ¬ vs0 = 0 → ¬ ((nI 0) &&& (nI 1)) = (nI 1) → zokA h 136 20 ((((nI 2) * v1) + (nI 2)) + v6)) (G13 : ¬ vs0 = 0 → ¬ ((nI 0) &&& (nI 1)) = (nI 1) → zokA (zsI h 136 ((((nI 2) * v1) + (nI 2)) + v6).toNatClampNeg ((h.1 136 (((nI 2) * v1) + v6).toNatClampNeg) + (nI 0))) 137 20 ((((nI 2) * v1) + (nI 2)) + v6)) (G14 : ¬ vs0 = 0 → ¬ ((nI 0) &&& (nI 1)) = (nI 1) → vp_in ((((nI 2) * v1) + (nI 2)) + v6) 128) (G15 : ¬ vs0 = 0 → ((nI 0) &&& (nI 1)) = (nI 1) → zokA h 136 20 ((((nI 2) * v1) + (nI 2)) + v6)) (G16 : ¬ vs0 = 0 → ((nI 0) &&& (nI 1)) = (nI 1) → zokA (zsI h 136 ((((nI 2) * v1) + (nI 2)) + v6).toNatClampNeg ((h.1 136 (((nI 2) * v1) + v6).toNatClampNeg) + v5)) 137 20 ((((nI 2) * v1) + (nI 2)) + v6)) (G17 : ¬ vs0 = 0 → ((nI 0) &&& (nI 1)) = (nI 1) → vp_in ((((nI 2) * v1) + (nI 2)) + v6) 128) (K0 : vs0 = 0 → ¬ (((h.1 138 (((nI 2) * v1) + v6).toNatClampNeg) ||| ((v3 >>> (((nI 2) * v6) &&& 31)) &&& (nI 3))) &&& (nI 1)) = (nI 1) → ((h.1 138 (((nI 2) * v1) + v6).toNatClampNeg) ||| ((v3 >>> (((nI 2) * v6) &&& 31)) &&& (nI 3))) ≤ (nI 1) → J mX11_goesAlong d 0 0 Q 0 0 191 [some (.inr (.inr 111)), some (.inl v1), some (.inl v2), some (.inl v3), some (.inl v4), some (.inl v5), some (.inl (v6 + nI 1)), some (.inl ((h.1 138 (((nI 2) * v1) + v6).toNatClampNeg) ||| ((v3 >>> (((nI 2) * v6) &&& 31)) &&& (nI 3)))), u8, u9] [] (zsI (zsI (zsI h 136 ((((nI 2) * v1) + (nI 2)) + v6).toNatClampNeg ((h.1 136 (((nI 2) * v1) + v6).toNatClampNeg) + (nI 0))) 137 ((((nI 2) * v1) + (nI 2)) + v6).toNatClampNeg (((zsI h 136 ((((nI 2) * v1) + (nI 2)) + v6).toNatClampNeg ((h.1 136 (((nI 2) * v1) + v6).toNatClampNeg) + (nI 0))).1 137 (((nI 2) * v1) + v6).toNatClampNeg) + (nI 0))) 138 ((((nI 2) * v1) + (nI 2)) + v6).toNatClampNeg ((h.1 138 (((nI 2) * v1) + v6).toNatClampNeg) ||| ((v3 >>> (((nI 2) * v6) &&& 31)) &&& (nI 3))))) (K1 : vs0 = 0 → ¬ (((h.1 138 (((nI 2) * v1) + v6).toNatClampNeg) ||| ((v3 >>> (((nI 2) * v6) &&& 31)) &&& (nI 3))) &&& (nI 1)) = (nI 1) → ¬ ((h.1 138 (((nI 2) * v1) + v6).toNatClampNeg) ||| ((v3 >>> (((nI 2) * v6) &&& 31)) &&& (nI 3))) ≤ (nI 1) → J mX11_goesAlong d 0 0 Q 0 0 191 [some (.inr (.inr 111)), some (.inl v1), some (.inl v2), some (.inl v3), some (.inl v4), some (.inl v5), some (.inl (v6 + nI 1)), some (.inl ((h.1 138 (((nI 2) * v1) + v6).toNatClampNeg) ||| ((v3 >>> (((nI 2) * v6) &&& 31)) &&& (nI 3)))), u8, u9] [] (zsI (zsI (zsI h 136 ((((nI 2) * v1) + (nI 2)) + v6).toNatClampNeg ((h.1 136 (((nI 2) * v1) + v6).toNatClampNeg) + (nI 0))) 137 ((((nI 2) * v1) + (nI 2)) + v6).toNatClampNeg (((zsI h 136 ((((nI 2) * v1) + (nI 2)) + v6).toNatClampNeg ((h.1 136 (((nI 2) * v1) + v6).toNatClampNeg) + (nI 0))).1 137 (((nI 2) * v1) + v6).toNatClampNeg) + v5)) 138 ((((nI 2) * v1) + (nI 2)) + v6).toNatClampNeg ((h.1 138 (((nI 2) * v1) + v6).toNatClampNeg) ||| ((v3 >>> (((nI 2) * v6) &&& 31)) &&& (nI 3))))) (K2 : vs0 = 0 → (((h.1 138 (((nI 2) * v1) + v6).toNatClampNeg) ||| ((v3 >>> (((nI 2) * v6) &&& 31)) &&& (nI 3))) &&& (nI 1)) = (nI 1) → ((h.1 138 (((nI 2) * v1) + v6).toNatClampNeg) ||| ((v3 >>> (((nI 2) * v6) &&& 31)) &&& (nI 3))) ≤ (nI 1) → J mX11_goesAlong d 0 0 Q 0 0 191 [some (.inr (.inr 111)), some (.inl v1), some (.inl v2), some (.inl v3), some (.inl v4), some (.inl v5), some (.inl (v6 + nI 1)), some (.inl ((h.1 138 (((nI 2) * v1) + v6).toNatClampNeg) ||| ((v3 >>> (((nI 2) * v6) &&& 31)) &&& (nI 3)))), u8, u9] [] (zsI (zsI (zsI h 136 ((((nI 2) * v1) + (nI 2)) + v6).toNatClampNeg ((h.1 136 (((nI 2) * v1) + v6).toNatClampNeg) + v5)) 137 ((((nI 2) * v1) + (nI 2)) + v6).toNatClampNeg (((zsI h 136 ((((nI 2) * v1) + (nI 2)) + v6).toNatClampNeg ((h.1 136 (((nI 2) * v1) + v6).toNatClampNeg) + v5)).1 137 (((nI 2) * v1) + v6).toNatClampNeg) + (nI 0))) 138 ((((nI 2) * v1) + (nI 2)) + v6).toNatClampNeg ((h.1 138 (((nI 2) * v1) + v6).toNatClampNeg) ||| ((v3 >>> (((nI 2) * v6) &&& 31)) &&& (nI 3))))) (K3 : vs0 = 0 → (((h.1 138 (((nI 2) * v1) + v6).toNatClampNeg) ||| ((v3 >>> (((nI 2) * v6) &&& 31)) &&& (nI 3))) &&& (nI 1)) = (nI 1) → ¬ ((h.1 138 (((nI 2) * v1) + v6).toNatClampNeg) ||| ((v3 >>> (((nI 2) * v6) &&& 31)) &&& (nI 3))) ≤ (nI 1) → J mX11_goesAlong d 0 0 Q 0 0 191 [some (.inr (.inr 111)), some (.inl v1), some (.inl v2), some (.inl v3), some (.inl v4), some (.inl v5), some (.inl (v6 + nI 1)), some (.inl ((h.1 138 (((nI 2) * v1) + v6).toNatClampNeg) ||| ((v3 >>> (((nI 2) * v6) &&& 31)) &&& (nI 3)))), u8, u9] [] (zsI (zsI (zsI h 136 ((((nI 2) * v1) + (nI 2)) + v6).toNatClampNeg ((h.1 136 (((nI 2) * v1) + v6).toNatClampNeg) + v5)) 137 ((((nI 2) * v1) + (nI 2)) + v6).toNatClampNeg (((zsI h 136 ((((nI 2) * v1) + (nI 2)) + v6).toNatClampNeg ((h.1 136 (((nI 2) * v1) + v6).toNatClampNeg) + v5)).1 137 (((nI 2) * v1) + v6).toNatClampNeg) + v5)) 138 ((((nI 2) * v1) + (nI 2)) + v6).toNatClampNeg ((h.1 138 (((nI 2) * v1) + v6).toNatClampNeg) ||| ((v3 >>> (((nI 2) * v6) &&& 31)) &&& (nI 3))))) (K4 : ¬ vs0 = 0 → ¬ ((nI 0) &&& (nI 1)) = (nI 1) → J mX11_goesAlong d 0 0 Q 0 0 191 [some (.inr (.inr 111)), some (.inl v1), some (.inl v2), some (.inl v3), some (.inl v4), some (.inl v5), some (.inl (v6 + nI 1)), some (.inl (nI 0)), u8, u9] [] (zsI (zsI (zsI h 136 ((((nI 2) * v1) + (nI 2)) + v6).toNatClampNeg ((h.1 136 (((nI 2) * v1) + v6).toNatClampNeg) + (nI 0))) 137 ((((nI 2) * v1) + (nI 2)) + v6).toNatClampNeg (((zsI h 136 ((((nI 2) * v1) + (nI 2)) + v6).toNatClampNeg ((h.1 136 (((nI 2) * v1) + v6).toNatClampNeg) + (nI 0))).1 137 (((nI 2) * v1) + v6).toNatClampNeg) + (nI 0))) 138 ((((nI 2) * v1) + (nI 2)) + v6).toNatClampNeg (nI 0))) (K5 : ¬ vs0 = 0 → ((nI 0) &&& (nI 1)) = (nI 1) → J mX11_goesAlong d 0 0 Q 0 0 191 [some (.inr (.inr 111)), some (.inl v1), some (.inl v2), some (.inl v3), some (.inl v4), some (.inl v5), some (.inl (v6 + nI 1)), some (.inl (nI 0)), u8, u9] [] (zsI (zsI (zsI h 136 ((((nI 2) * v1) + (nI 2)) + v6).toNatClampNeg ((h.1 136 (((nI 2) * v1) + v6).toNatClampNeg) + v5)) 137 ((((nI 2) * v1) + (nI 2)) + v6).toNatClampNeg (((zsI h 136 ((((nI 2) * v1) + (nI 2)) + v6).toNatClampNeg ((h.1 136 (((nI 2) * v1) + v6).toNatClampNeg) + v5)).1 137 (((nI 2) * v1) + v6).toNatClampNeg) + (nI 0))) 138 ((((nI 2) * v1) + (nI 2)) + v6).toNatClampNeg (nI 0))) : J mX11_goesAlong d 0 0 Q 0 0 207 [some (.inr (.inr 111)), some (.inl v1), some (.inl v2), some (.inl v3), some (.inl v4), some (.inl v5), some (.inl v6), u7, u8, u9] [.inl vs0] h := by
  refine bX11_goesAlong_207  (fun p1 => ?_) (fun p1 => ?_)
  · refine bX11_goesAlong_214 hr (G0 p1) ?_
    refine bX11_goesAlong_234 hr (G0 p1) (fun p2 => ?_) (fun p2 => ?_)
    · refine bX11_goesAlong_272  ?_
      refine bX11_goesAlong_273 hr (G1 p1 p2) (G0 p1) (fun p3 => ?_) (fun p3 => ?_)
      · refine bX11_goesAlong_309  ?_
        refine bX11_goesAlong_310 hr (G2 p1 p2 p3) (G3 p1 p2 p3) ?_
        exact K0 p1 p2 p3
      · refine bX11_goesAlong_304  ?_
        refine bX11_goesAlong_310 hr (G4 p1 p2 p3) (G5 p1 p2 p3) ?_
        exact K1 p1 p2 p3
    · refine bX11_goesAlong_267  ?_
      refine bX11_goesAlong_273 hr (G6 p1 p2) (G0 p1) (fun p4 => ?_) (fun p4 => ?_)
      · refine bX11_goesAlong_309  ?_
        refine bX11_goesAlong_310 hr (G7 p1 p2 p4) (G8 p1 p2 p4) ?_
        exact K2 p1 p2 p4
      · refine bX11_goesAlong_304  ?_
        refine bX11_goesAlong_310 hr (G9 p1 p2 p4) (G10 p1 p2 p4) ?_
        exact K3 p1 p2 p4
  · refine bX11_goesAlong_210  ?_
    refine bX11_goesAlong_234 hr (G11 p1) (fun p5 => ?_) (fun p5 => ?_)
    · refine bX11_goesAlong_272  ?_
      refine bX11_goesAlong_273 hr (G12 p1 p5) (G11 p1) (fun _ => ?_) (fun c => absurd c (by decide))
      refine bX11_goesAlong_309  ?_
      refine bX11_goesAlong_310 hr (G13 p1 p5) (G14 p1 p5) ?_
      exact K4 p1 p5
    · refine bX11_goesAlong_267  ?_
      refine bX11_goesAlong_273 hr (G15 p1 p5) (G11 p1) (fun _ => ?_) (fun c => absurd c (by decide))
      refine bX11_goesAlong_309  ?_
      refine bX11_goesAlong_310 hr (G16 p1 p5) (G17 p1 p5) ?_
      exact K5 p1 p5

set_option maxRecDepth 20000 in
theorem t_X11_goesAlong_352 {d  : Nat} {Q : Option MV → MH → Prop} {h : MH} {u7 u8 u9 : Option MV} {v1 v2 v3 v4 v5 v6 : Int32} (K0 : J mX11_goesAlong d 0 0 Q 0 0 2 [some (.inr (.inr 111)), some (.inl v1), some (.inl v2), some (.inl (v3 + nI 1)), some (.inl v4), some (.inl v5), some (.inl v6), u7, u8, u9] [] h) : J mX11_goesAlong d 0 0 Q 0 0 352 [some (.inr (.inr 111)), some (.inl v1), some (.inl v2), some (.inl v3), some (.inl v4), some (.inl v5), some (.inl v6), u7, u8, u9] [] h := by
  refine bX11_goesAlong_352  ?_
  exact K0

set_option maxRecDepth 20000 in
theorem t_X11_laysAlong {d  : Nat} {Q : Option MV → MH → Prop} {h : MH} {v1 : Int32} (K0 : J mX11_laysAlong d 0 0 Q 0 0 2 [some (.inr (.inr 111)), some (.inl v1), some (.inl (nI 0))] [] h) : Con mX11_laysAlong d 0 0 [.inr (.inr 111), .inl v1] h Q := by
  refine Con.intro rfl (Nat.le_of_ble_eq_true rfl) ?_
  show J mX11_laysAlong d 0 0 Q 0 0 0 [some (.inr (.inr 111)), some (.inl v1), none] [] h
  refine bX11_laysAlong_0  ?_
  exact K0

set_option maxRecDepth 20000 in
theorem t_X11_laysAlong_2 {d  : Nat} {Q : Option MV → MH → Prop} {h : MH} {v1 v2 : Int32} (hr : zRf h) (G0 : ¬ (nI 11600) ≤ v2 → vp_in v2 11600) (K0 : (nI 11600) ≤ v2 → J mX11_laysAlong d 0 0 Q 0 0 31 [some (.inr (.inr 111)), some (.inl v1), some (.inl (nI 0))] [] (zsI h 111 38 (nI 0))) (K1 : ¬ (nI 11600) ≤ v2 → J mX11_laysAlong d 0 0 Q 0 0 2 [some (.inr (.inr 111)), some (.inl v1), some (.inl (v2 + nI 1))] [] (zsI h 132 v2.toNatClampNeg (nI 0))) : J mX11_laysAlong d 0 0 Q 0 0 2 [some (.inr (.inr 111)), some (.inl v1), some (.inl v2)] [] h := by
  refine bX11_laysAlong_2 hr (fun p1 => ?_) (fun p1 => ?_)
  · refine bX11_laysAlong_24 hr ?_
    exact K0 p1
  · refine bX11_laysAlong_11 hr (G0 p1) ?_
    exact K1 p1

set_option maxRecDepth 20000 in
theorem t_X11_laysAlong_31 {d d1' : Nat} {Q : Option MV → MH → Prop} {h : MH} {v1 v2 : Int32} (hr : zRf h) (hd1' : d1' + 1 ≤ d) (G0 : ¬ (nI 8) ≤ v2 → ¬ ((v1 >>> (v2 &&& 31)) &&& (nI 1)) = 0 → vp_in (h.1 111 38) 4) (G1 : ¬ (nI 8) ≤ v2 → ¬ ((v1 >>> (v2 &&& 31)) &&& (nI 1)) = 0 → vp_in ((zsI h 127 (h.1 111 38).toNatClampNeg v2).1 111 38) 128) (G2 : ¬ (nI 8) ≤ v2 → ¬ ((v1 >>> (v2 &&& 31)) &&& (nI 1)) = 0 → vp_in ((zsI (zsI h 127 (h.1 111 38).toNatClampNeg v2) 136 ((zsI h 127 (h.1 111 38).toNatClampNeg v2).1 111 38).toNatClampNeg (nI 0)).1 111 38) 128) (G3 : ¬ (nI 8) ≤ v2 → ¬ ((v1 >>> (v2 &&& 31)) &&& (nI 1)) = 0 → vp_in ((zsI (zsI (zsI h 127 (h.1 111 38).toNatClampNeg v2) 136 ((zsI h 127 (h.1 111 38).toNatClampNeg v2).1 111 38).toNatClampNeg (nI 0)) 137 ((zsI (zsI h 127 (h.1 111 38).toNatClampNeg v2) 136 ((zsI h 127 (h.1 111 38).toNatClampNeg v2).1 111 38).toNatClampNeg (nI 0)).1 111 38).toNatClampNeg (nI 0)).1 111 38) 128) (K0 : (nI 8) ≤ v2 → Con mX11_goesAlong d1' 0 0 [.inr (.inr 111), .inl (nI 0), .inl (nI 0)] h (zrv fun h' => J mX11_laysAlong d 0 0 Q 0 0 110 [some (.inr (.inr 111)), some (.inl v1), some (.inl v2)] [] h')) (K1 : ¬ (nI 8) ≤ v2 → ¬ ((v1 >>> (v2 &&& 31)) &&& (nI 1)) = 0 → J mX11_laysAlong d 0 0 Q 0 0 31 [some (.inr (.inr 111)), some (.inl v1), some (.inl (v2 + nI 1))] [] (zsI (zsI (zsI (zsI (zsI h 127 (h.1 111 38).toNatClampNeg v2) 136 ((zsI h 127 (h.1 111 38).toNatClampNeg v2).1 111 38).toNatClampNeg (nI 0)) 137 ((zsI (zsI h 127 (h.1 111 38).toNatClampNeg v2) 136 ((zsI h 127 (h.1 111 38).toNatClampNeg v2).1 111 38).toNatClampNeg (nI 0)).1 111 38).toNatClampNeg (nI 0)) 138 ((zsI (zsI (zsI h 127 (h.1 111 38).toNatClampNeg v2) 136 ((zsI h 127 (h.1 111 38).toNatClampNeg v2).1 111 38).toNatClampNeg (nI 0)) 137 ((zsI (zsI h 127 (h.1 111 38).toNatClampNeg v2) 136 ((zsI h 127 (h.1 111 38).toNatClampNeg v2).1 111 38).toNatClampNeg (nI 0)).1 111 38).toNatClampNeg (nI 0)).1 111 38).toNatClampNeg (nI 0)) 111 38 (((zsI (zsI (zsI (zsI h 127 (h.1 111 38).toNatClampNeg v2) 136 ((zsI h 127 (h.1 111 38).toNatClampNeg v2).1 111 38).toNatClampNeg (nI 0)) 137 ((zsI (zsI h 127 (h.1 111 38).toNatClampNeg v2) 136 ((zsI h 127 (h.1 111 38).toNatClampNeg v2).1 111 38).toNatClampNeg (nI 0)).1 111 38).toNatClampNeg (nI 0)) 138 ((zsI (zsI (zsI h 127 (h.1 111 38).toNatClampNeg v2) 136 ((zsI h 127 (h.1 111 38).toNatClampNeg v2).1 111 38).toNatClampNeg (nI 0)) 137 ((zsI (zsI h 127 (h.1 111 38).toNatClampNeg v2) 136 ((zsI h 127 (h.1 111 38).toNatClampNeg v2).1 111 38).toNatClampNeg (nI 0)).1 111 38).toNatClampNeg (nI 0)).1 111 38).toNatClampNeg (nI 0)).1 111 38) + (nI 1)))) (K2 : ¬ (nI 8) ≤ v2 → ((v1 >>> (v2 &&& 31)) &&& (nI 1)) = 0 → J mX11_laysAlong d 0 0 Q 0 0 31 [some (.inr (.inr 111)), some (.inl v1), some (.inl (v2 + nI 1))] [] h) : J mX11_laysAlong d 0 0 Q 0 0 31 [some (.inr (.inr 111)), some (.inl v1), some (.inl v2)] [] h := by
  refine bX11_laysAlong_31  (fun p1 => ?_) (fun p1 => ?_)
  · exact bX11_laysAlong_104 hr hd1' (K0 p1)
  · refine bX11_laysAlong_37  (fun p2 => ?_) (fun p2 => ?_)
    · refine bX11_laysAlong_48 hr (G0 p1 p2) (G1 p1 p2) (G2 p1 p2) (G3 p1 p2) ?_
      refine bX11_laysAlong_98  ?_
      exact K1 p1 p2
    · refine bX11_laysAlong_45  ?_
      refine bX11_laysAlong_98  ?_
      exact K2 p1 p2

set_option maxRecDepth 20000 in
theorem t_X11_laysAlong_110 {d  : Nat} {Q : Option MV → MH → Prop} {h : MH} {v1 v2 : Int32} (K0 : Q none h) : J mX11_laysAlong d 0 0 Q 0 0 110 [some (.inr (.inr 111)), some (.inl v1), some (.inl v2)] [] h := by
  exact bX11_laysAlong_110  (K0)

set_option maxRecDepth 20000 in
theorem t_X11_along {d d1' : Nat} {Q : Option MV → MH → Prop} {h : MH} {v1 v2 : Int32} (hr : zRf h) (hd1' : d1' + 1 ≤ d) (K0 : Con mX11_isFew d1' 0 0 [.inr (.inr 111), .inl v1] (zsI h 111 0 (nI 0)) (zri fun (x : Int32) h' => J mX11_along d 0 0 Q 0 0 10 [some (.inr (.inr 111)), some (.inl v1), some (.inl v2)] [.inl x] h')) : Con mX11_along d 0 0 [.inr (.inr 111), .inl v1, .inl v2] h Q := by
  refine Con.intro rfl (Nat.le_of_ble_eq_true rfl) ?_
  show J mX11_along d 0 0 Q 0 0 0 [some (.inr (.inr 111)), some (.inl v1), some (.inl v2)] [] h
  exact bX11_along_0 hr hd1' (K0)

set_option maxRecDepth 20000 in
theorem t_X11_along_10 {d d1' : Nat} {Q : Option MV → MH → Prop} {h : MH} {v1 v2 vs0 : Int32} (hr : zRf h) (hd1' : d1' + 1 ≤ d) (K0 : vs0 = 0 → Q (some (.inl (-(nI 3)))) h) (K1 : ¬ vs0 = 0 → (nI 1) ≤ v2 → Con mX11_laysAlong d1' 0 0 [.inr (.inr 111), .inl v1] h (zrv fun h' => J mX11_along d 0 0 Q 0 0 26 [some (.inr (.inr 111)), some (.inl v1), some (.inl v2)] [] h')) (K2 : ¬ vs0 = 0 → ¬ (nI 1) ≤ v2 → Q (some (.inl (-(nI 3)))) h) : J mX11_along d 0 0 Q 0 0 10 [some (.inr (.inr 111)), some (.inl v1), some (.inl v2)] [.inl vs0] h := by
  refine bX11_along_10  (fun p1 => ?_) (fun p1 => ?_)
  · exact bX11_along_18  (K0 p1)
  · refine bX11_along_13  (fun p2 => ?_) (fun p2 => ?_)
    · exact bX11_along_21 hr hd1' (K1 p1 p2)
    · exact bX11_along_18  (K2 p1 p2)

set_option maxRecDepth 20000 in
theorem t_X11_along_26 {d  : Nat} {Q : Option MV → MH → Prop} {h : MH} {v1 v2 : Int32} (hr : zRf h) (hd : 1 ≤ d) (G0 : ¬ (nI 11600) ≤ (v2 / (nI 32)) → vp_in (v2 / (nI 32)) 11600) (K0 : (nI 11600) ≤ (v2 / (nI 32)) → Q (some (.inl (nI 0))) h) (K1 : ¬ (nI 11600) ≤ (v2 / (nI 32)) → ¬ (((h.1 132 (v2 / (nI 32)).toNatClampNeg) >>> ((v2 - v2 / (nI 32) * (nI 32)) &&& 31)) &&& (nI 1)) = (nI 1) → Q (some (.inl (nI 0))) h) (K2 : ¬ (nI 11600) ≤ (v2 / (nI 32)) → (((h.1 132 (v2 / (nI 32)).toNatClampNeg) >>> ((v2 - v2 / (nI 32) * (nI 32)) &&& 31)) &&& (nI 1)) = (nI 1) → Q (some (.inl (nI 1))) h) : J mX11_along d 0 0 Q 0 0 26 [some (.inr (.inr 111)), some (.inl v1), some (.inl v2)] [] h := by
  refine bX11_along_26 (d' := 0) hr (by omega) ?_
  refine t_X11_isTime hr ?_ ?_ ?_ ?_
  · intro p1; exact (G0 p1)
  · intro p2
    refine bX11_along_31  (fun _ => ?_) (fun c => absurd c (by decide))
    refine bX11_along_38  ?_
    exact bX11_along_39  (K0 p2)
  · intro p3 p4
    refine bX11_along_31  (fun _ => ?_) (fun c => absurd c (by decide))
    refine bX11_along_38  ?_
    exact bX11_along_39  (K1 p3 p4)
  · intro p5 p6
    refine bX11_along_31  (fun c => absurd c (by decide)) (fun _ => ?_)
    refine bX11_along_34  ?_
    exact bX11_along_39  (K2 p5 p6)

set_option maxRecDepth 20000 in
theorem t_X11_alongs {d d1' : Nat} {Q : Option MV → MH → Prop} {h : MH} {v1 v2 : Int32} (hr : zRf h) (hd1' : d1' + 1 ≤ d) (K0 : Con mX11_isFew d1' 0 0 [.inr (.inr 111), .inl v1] (zsI h 111 0 (nI 0)) (zri fun (x : Int32) h' => J mX11_alongs d 0 0 Q 0 0 10 [some (.inr (.inr 111)), some (.inl v1), some (.inl v2)] [.inl x] h')) : Con mX11_alongs d 0 0 [.inr (.inr 111), .inl v1, .inl v2] h Q := by
  refine Con.intro rfl (Nat.le_of_ble_eq_true rfl) ?_
  show J mX11_alongs d 0 0 Q 0 0 0 [some (.inr (.inr 111)), some (.inl v1), some (.inl v2)] [] h
  exact bX11_alongs_0 hr hd1' (K0)

set_option maxRecDepth 20000 in
theorem t_X11_alongs_10 {d d1' : Nat} {Q : Option MV → MH → Prop} {h : MH} {v1 v2 vs0 : Int32} (hr : zRf h) (hd1' : d1' + 1 ≤ d) (K0 : ¬ vs0 = 0 → Con mX11_laysAlong d1' 0 0 [.inr (.inr 111), .inl v1] h (zrv fun h' => J mX11_alongs d 0 0 Q 0 0 21 [some (.inr (.inr 111)), some (.inl v1), some (.inl v2)] [] h')) (K1 : vs0 = 0 → Q (some (.inl (-(nI 3)))) h) : J mX11_alongs d 0 0 Q 0 0 10 [some (.inr (.inr 111)), some (.inl v1), some (.inl v2)] [.inl vs0] h := by
  refine bX11_alongs_10  (fun p1 => ?_) (fun p1 => ?_)
  · exact bX11_alongs_16 hr hd1' (K0 p1)
  · exact bX11_alongs_13  (K1 p1)

set_option maxRecDepth 20000 in
theorem t_X11_alongs_21 {d d1' : Nat} {Q : Option MV → MH → Prop} {h : MH} {v1 v2 : Int32} (hr : zRf h) (hd1' : d1' + 1 ≤ d) (K0 : (-(nI 1)) ≤ v2 → Con mX11_timeAt d1' 0 0 [.inr (.inr 111), .inl v2] h (zri fun (x : Int32) h' => J mX11_alongs d 0 0 Q 0 0 35 [some (.inr (.inr 111)), some (.inl v1), some (.inl v2)] [.inl x] h')) (K1 : ¬ (-(nI 1)) ≤ v2 → Q (some (.inl (-(nI 1)))) h) : J mX11_alongs d 0 0 Q 0 0 21 [some (.inr (.inr 111)), some (.inl v1), some (.inl v2)] [] h := by
  refine bX11_alongs_21  (fun p1 => ?_) (fun p1 => ?_)
  · exact bX11_alongs_30 hr hd1' (K0 p1)
  · refine bX11_alongs_26  ?_
    exact bX11_alongs_35  (K1 p1)

set_option maxRecDepth 20000 in
theorem t_X11_alongs_35 {d  : Nat} {Q : Option MV → MH → Prop} {h : MH} {v1 v2 vs0 : Int32} (K0 : Q (some (.inl vs0)) h) : J mX11_alongs d 0 0 Q 0 0 35 [some (.inr (.inr 111)), some (.inl v1), some (.inl v2)] [.inl vs0] h := by
  exact bX11_alongs_35  (K0)

set_option maxRecDepth 20000 in
theorem t_X11_served {d d1' : Nat} {Q : Option MV → MH → Prop} {h : MH} {v1 v2 v3 : Int32} (hr : zRf h) (hd1' : d1' + 1 ≤ d) (K0 : Con mX11_hears d1' 0 0 [.inr (.inr 111), .inl v1] h (zrv fun h' => J mX11_served d 0 0 Q 0 0 5 [some (.inr (.inr 111)), some (.inl v1), some (.inl v2), some (.inl v3), none, none, none, none] [] h')) : Con mX11_served d 0 0 [.inr (.inr 111), .inl v1, .inl v2, .inl v3] h Q := by
  refine Con.intro rfl (Nat.le_of_ble_eq_true rfl) ?_
  show J mX11_served d 0 0 Q 0 0 0 [some (.inr (.inr 111)), some (.inl v1), some (.inl v2), some (.inl v3), none, none, none, none] [] h
  exact bX11_served_0 hr hd1' (K0)

set_option maxRecDepth 20000 in
theorem t_X11_served_5 {d  : Nat} {Q : Option MV → MH → Prop} {h : MH} {v1 v2 v3 : Int32} (K0 : J mX11_served d 0 0 Q 0 0 11 [some (.inr (.inr 111)), some (.inl v1), some (.inl v2), some (.inl v3), some (.inl (nI 0)), some (.inl (nI 0)), none, none] [] h) : J mX11_served d 0 0 Q 0 0 5 [some (.inr (.inr 111)), some (.inl v1), some (.inl v2), some (.inl v3), none, none, none, none] [] h := by
  refine bX11_served_5  ?_
  exact K0

set_option maxRecDepth 20000 in
theorem t_X11_served_11 {d  : Nat} {Q : Option MV → MH → Prop} {h : MH} {u6 u7 : Option MV} {v1 v2 v3 v4 v5 : Int32} (hr : zRf h) (G0 : vp_in v2 4) (K0 : (h.1 141 v2.toNatClampNeg) ≤ v5 → Q (some (.inl v4)) h) (K1 : ¬ (h.1 141 v2.toNatClampNeg) ≤ v5 → J mX11_served d 0 0 Q 0 0 28 [some (.inr (.inr 111)), some (.inl v1), some (.inl v2), some (.inl v3), some (.inl v4), some (.inl v5), some (.inl (nI 0)), some (.inl (nI 0))] [] h) : J mX11_served d 0 0 Q 0 0 11 [some (.inr (.inr 111)), some (.inl v1), some (.inl v2), some (.inl v3), some (.inl v4), some (.inl v5), u6, u7] [] h := by
  refine bX11_served_11 hr (G0) (fun p1 => ?_) (fun p1 => ?_)
  · exact bX11_served_102  (K0 p1)
  · refine bX11_served_22  ?_
    exact K1 p1

set_option maxRecDepth 20000 in
theorem t_X11_served_28 {d  : Nat} {Q : Option MV → MH → Prop} {h : MH} {v1 v2 v3 v4 v5 v6 v7 : Int32} (hr : zRf h) (hd : 2 ≤ d) (G0 : ¬ (h.1 111 32) ≤ v7 → v6 = 0 → vp_in (((nI 40) * v2) + v5) 160) (G1 : ¬ (h.1 111 32) ≤ v7 → v6 = 0 → vp_in v7 40) (K0 : (h.1 111 32) ≤ v7 → v6 = 0 → J mX11_served d 0 0 Q 0 0 11 [some (.inr (.inr 111)), some (.inl v1), some (.inl v2), some (.inl v3), some (.inl (v4 + (nI 0))), some (.inl (v5 + nI 1)), some (.inl v6), some (.inl v7)] [] h) (K1 : (h.1 111 32) ≤ v7 → ¬ v6 = 0 → J mX11_served d 0 0 Q 0 0 11 [some (.inr (.inr 111)), some (.inl v1), some (.inl v2), some (.inl v3), some (.inl (v4 + (nI 1))), some (.inl (v5 + nI 1)), some (.inl v6), some (.inl v7)] [] h) (K2 : ¬ (h.1 111 32) ≤ v7 → ¬ v6 = 0 → J mX11_served d 0 0 Q 0 0 28 [some (.inr (.inr 111)), some (.inl v1), some (.inl v2), some (.inl v3), some (.inl v4), some (.inl v5), some (.inl (nI 1)), some (.inl (v7 + nI 1))] [] h) (K3 : ¬ (h.1 111 32) ≤ v7 → v6 = 0 → ¬ ((h.1 126 v7.toNatClampNeg).toInt64 - v3.toInt64) ≤ (h.2.1 142 (((nI 40) * v2) + v5).toNatClampNeg) → J mX11_served d 0 0 Q 0 0 28 [some (.inr (.inr 111)), some (.inl v1), some (.inl v2), some (.inl v3), some (.inl v4), some (.inl v5), some (.inl (nI 0)), some (.inl (v7 + nI 1))] [] h) (K4 : ¬ (h.1 111 32) ≤ v7 → v6 = 0 → ((h.1 126 v7.toNatClampNeg).toInt64 - v3.toInt64) ≤ (h.2.1 142 (((nI 40) * v2) + v5).toNatClampNeg) → ¬ (h.2.1 142 (((nI 40) * v2) + v5).toNatClampNeg) ≤ ((h.1 126 v7.toNatClampNeg).toInt64 + v3.toInt64) → J mX11_served d 0 0 Q 0 0 28 [some (.inr (.inr 111)), some (.inl v1), some (.inl v2), some (.inl v3), some (.inl v4), some (.inl v5), some (.inl (nI 0)), some (.inl (v7 + nI 1))] [] h) (K5 : ¬ (h.1 111 32) ≤ v7 → v6 = 0 → ((h.1 126 v7.toNatClampNeg).toInt64 - v3.toInt64) ≤ (h.2.1 142 (((nI 40) * v2) + v5).toNatClampNeg) → (h.2.1 142 (((nI 40) * v2) + v5).toNatClampNeg) ≤ ((h.1 126 v7.toNatClampNeg).toInt64 + v3.toInt64) → J mX11_served d 0 0 Q 0 0 28 [some (.inr (.inr 111)), some (.inl v1), some (.inl v2), some (.inl v3), some (.inl v4), some (.inl v5), some (.inl (nI 1)), some (.inl (v7 + nI 1))] [] h) : J mX11_served d 0 0 Q 0 0 28 [some (.inr (.inr 111)), some (.inl v1), some (.inl v2), some (.inl v3), some (.inl v4), some (.inl v5), some (.inl v6), some (.inl v7)] [] h := by
  refine bX11_served_28 hr (fun p1 => ?_) (fun p1 => ?_)
  · refine bX11_served_81  (fun p2 => ?_) (fun p2 => ?_)
    · refine bX11_served_92  ?_
      refine bX11_served_93  ?_
      exact K0 p1 p2
    · refine bX11_served_88  ?_
      refine bX11_served_93  ?_
      exact K1 p1 p2
  · refine bX11_served_37  (fun p3 => ?_) (fun p3 => ?_)
    · refine bX11_served_68  ?_
      refine bX11_served_73  ?_
      exact K2 p1 p3
    · refine bX11_served_42 (d' := 1) hr (G0 p1 p3) (G1 p1 p3) (by omega) ?_
      refine t_X11_isNear (Nat.le_refl _) ?_ ?_ ?_
      · intro p4
        refine bX11_served_65  (fun _ => ?_) (fun c => absurd c (by decide))
        refine bX11_served_72  ?_
        refine bX11_served_73  ?_
        exact K3 p1 p3 p4
      · intro p5 p6
        refine bX11_served_65  (fun _ => ?_) (fun c => absurd c (by decide))
        refine bX11_served_72  ?_
        refine bX11_served_73  ?_
        exact K4 p1 p3 p5 p6
      · intro p7 p8
        refine bX11_served_65  (fun c => absurd c (by decide)) (fun _ => ?_)
        refine bX11_served_68  ?_
        refine bX11_served_73  ?_
        exact K5 p1 p3 p7 p8

set_option maxRecDepth 20000 in
theorem t_X11_serves {d d1' : Nat} {Q : Option MV → MH → Prop} {h : MH} {v1 v2 v3 : Int32} (hr : zRf h) (hd : 2 ≤ d) (hd1' : d1' + 1 ≤ d) (G0 : (lN 0) ≤ v1.toInt64 → v1.toInt64 ≤ (3 : Int64) → (lN 0) ≤ v2.toInt64 → v2.toInt64 ≤ (3 : Int64) → vp_in v2 4) (K0 : ¬ (lN 0) ≤ v1.toInt64 → Q (some (.inl (-(nI 2)))) (zsI h 111 0 (nI 0))) (K1 : (lN 0) ≤ v1.toInt64 → ¬ v1.toInt64 ≤ (3 : Int64) → Q (some (.inl (-(nI 2)))) (zsI h 111 0 (nI 0))) (K2 : (lN 0) ≤ v1.toInt64 → v1.toInt64 ≤ (3 : Int64) → ¬ (lN 0) ≤ v2.toInt64 → Q (some (.inl (-(nI 2)))) (zsI h 111 0 (nI 0))) (K3 : (lN 0) ≤ v1.toInt64 → v1.toInt64 ≤ (3 : Int64) → (lN 0) ≤ v2.toInt64 → ¬ v2.toInt64 ≤ (3 : Int64) → Q (some (.inl (-(nI 2)))) (zsI h 111 0 (nI 0))) (K4 : (lN 0) ≤ v1.toInt64 → v1.toInt64 ≤ (3 : Int64) → (lN 0) ≤ v2.toInt64 → v2.toInt64 ≤ (3 : Int64) → ¬ ((zsI h 111 0 (nI 0)).1 140 v2.toNatClampNeg) = (-(nI 1)) → 0 ≤ v3 → Con mX11_served d1' 0 0 [.inr (.inr 111), .inl v1, .inl v2, .inl v3] (zsI h 111 0 (nI 0)) (zri fun (x : Int32) h' => J mX11_serves d 0 0 Q 0 0 56 [some (.inr (.inr 111)), some (.inl v1), some (.inl v2), some (.inl v3)] [.inl x] h')) (K5 : (lN 0) ≤ v1.toInt64 → v1.toInt64 ≤ (3 : Int64) → (lN 0) ≤ v2.toInt64 → v2.toInt64 ≤ (3 : Int64) → ¬ ((zsI h 111 0 (nI 0)).1 140 v2.toNatClampNeg) = (-(nI 1)) → ¬ 0 ≤ v3 → Q (some (.inl (-(nI 3)))) (zsI h 111 0 (nI 0))) (K6 : (lN 0) ≤ v1.toInt64 → v1.toInt64 ≤ (3 : Int64) → (lN 0) ≤ v2.toInt64 → v2.toInt64 ≤ (3 : Int64) → ((zsI h 111 0 (nI 0)).1 140 v2.toNatClampNeg) = (-(nI 1)) → Q (some (.inl (-(nI 6)))) (zsI h 111 0 (nI 0))) : Con mX11_serves d 0 0 [.inr (.inr 111), .inl v1, .inl v2, .inl v3] h Q := by
  refine Con.intro rfl (Nat.le_of_ble_eq_true rfl) ?_
  show J mX11_serves d 0 0 Q 0 0 0 [some (.inr (.inr 111)), some (.inl v1), some (.inl v2), some (.inl v3)] [] h
  refine bX11_serves_0 (d' := 1) hr (by omega) ?_
  refine t_X11_isPlan (Nat.le_refl _) ?_ ?_ ?_
  · intro p1
    refine bX11_serves_9  (fun _ => ?_) (fun c => absurd c (by decide))
    exact bX11_serves_24  (K0 p1)
  · intro p2 p3
    refine bX11_serves_9  (fun _ => ?_) (fun c => absurd c (by decide))
    exact bX11_serves_24  (K1 p2 p3)
  · intro p4 p5
    refine bX11_serves_9  (fun c => absurd c (by decide)) (fun _ => ?_)
    refine bX11_serves_12 (d' := 0)  (by omega) ?_
    refine t_X11_within  ?_ ?_ ?_
    · intro p6
      refine bX11_serves_21  (fun c => absurd c (by decide)) (fun _ => ?_)
      exact bX11_serves_24  (K2 p4 p5 p6)
    · intro p7 p8
      refine bX11_serves_21  (fun c => absurd c (by decide)) (fun _ => ?_)
      exact bX11_serves_24  (K3 p4 p5 p7 p8)
    · intro p9 p10
      refine bX11_serves_21  (fun _ => ?_) (fun c => absurd c (by decide))
      refine bX11_serves_27 hr (G0 p4 p5 p9 p10) (fun p11 => ?_) (fun p11 => ?_)
      · refine bX11_serves_40  (fun p12 => ?_) (fun p12 => ?_)
        · exact bX11_serves_49 hr hd1' (K4 p4 p5 p9 p10 p11 p12)
        · refine bX11_serves_44  ?_
          exact bX11_serves_56  (K5 p4 p5 p9 p10 p11 p12)
      · exact bX11_serves_37  (K6 p4 p5 p9 p10 p11)

set_option maxRecDepth 20000 in
theorem t_X11_serves_56 {d  : Nat} {Q : Option MV → MH → Prop} {h : MH} {v1 v2 v3 vs0 : Int32} (K0 : Q (some (.inl vs0)) h) : J mX11_serves d 0 0 Q 0 0 56 [some (.inr (.inr 111)), some (.inl v1), some (.inl v2), some (.inl v3)] [.inl vs0] h := by
  exact bX11_serves_56  (K0)

set_option maxRecDepth 20000 in
theorem t_X11_fittest {d  : Nat} {Q : Option MV → MH → Prop} {h : MH} {v1 v2 : Int32} (hr : zRf h) (hd : 1 ≤ d) (G0 : (lN 0) ≤ v1.toInt64 → v1.toInt64 ≤ (3 : Int64) → vp_in v1 4) (K0 : ¬ (lN 0) ≤ v1.toInt64 → Q (some (.inl (-(nI 2)))) (zsI h 111 0 (nI 0))) (K1 : (lN 0) ≤ v1.toInt64 → ¬ v1.toInt64 ≤ (3 : Int64) → Q (some (.inl (-(nI 2)))) (zsI h 111 0 (nI 0))) (K2 : (lN 0) ≤ v1.toInt64 → v1.toInt64 ≤ (3 : Int64) → ¬ ((zsI h 111 0 (nI 0)).1 140 v1.toNatClampNeg) = (-(nI 1)) → 0 ≤ v2 → J mX11_fittest d 0 0 Q 0 0 48 [some (.inr (.inr 111)), some (.inl v1), some (.inl v2), some (.inl (nI 0)), some (.inl (-(nI 1))), some (.inl (nI 0)), none] [] (zsI h 111 0 (nI 0))) (K3 : (lN 0) ≤ v1.toInt64 → v1.toInt64 ≤ (3 : Int64) → ¬ ((zsI h 111 0 (nI 0)).1 140 v1.toNatClampNeg) = (-(nI 1)) → ¬ 0 ≤ v2 → Q (some (.inl (-(nI 3)))) (zsI h 111 0 (nI 0))) (K4 : (lN 0) ≤ v1.toInt64 → v1.toInt64 ≤ (3 : Int64) → ((zsI h 111 0 (nI 0)).1 140 v1.toNatClampNeg) = (-(nI 1)) → Q (some (.inl (-(nI 6)))) (zsI h 111 0 (nI 0))) : Con mX11_fittest d 0 0 [.inr (.inr 111), .inl v1, .inl v2] h Q := by
  refine Con.intro rfl (Nat.le_of_ble_eq_true rfl) ?_
  show J mX11_fittest d 0 0 Q 0 0 0 [some (.inr (.inr 111)), some (.inl v1), some (.inl v2), none, none, none, none] [] h
  refine bX11_fittest_0 (d' := 0) hr (by omega) ?_
  refine t_X11_within  ?_ ?_ ?_
  · intro p1
    refine bX11_fittest_14  (fun c => absurd c (by decide)) (fun _ => ?_)
    exact bX11_fittest_17  (K0 p1)
  · intro p2 p3
    refine bX11_fittest_14  (fun c => absurd c (by decide)) (fun _ => ?_)
    exact bX11_fittest_17  (K1 p2 p3)
  · intro p4 p5
    refine bX11_fittest_14  (fun _ => ?_) (fun c => absurd c (by decide))
    refine bX11_fittest_20 hr (G0 p4 p5) (fun p6 => ?_) (fun p6 => ?_)
    · refine bX11_fittest_33  (fun p7 => ?_) (fun p7 => ?_)
      · refine bX11_fittest_40  ?_
        exact K2 p4 p5 p6 p7
      · exact bX11_fittest_37  (K3 p4 p5 p6 p7)
    · exact bX11_fittest_30  (K4 p4 p5 p6)

set_option maxRecDepth 20000 in
theorem t_X11_fittest_48 {d d1' : Nat} {Q : Option MV → MH → Prop} {h : MH} {u6 : Option MV} {v1 v2 v3 v4 v5 : Int32} (hr : zRf h) (hd1' : d1' + 1 ≤ d) (K0 : (nI 4) ≤ v5 → Q (some (.inl v3)) h) (K1 : ¬ (nI 4) ≤ v5 → Con mX11_served d1' 0 0 [.inr (.inr 111), .inl v5, .inl v1, .inl v2] h (zri fun (x : Int32) h' => J mX11_fittest d 0 0 Q 0 0 62 [some (.inr (.inr 111)), some (.inl v1), some (.inl v2), some (.inl v3), some (.inl v4), some (.inl v5), u6] [.inl x] h')) : J mX11_fittest d 0 0 Q 0 0 48 [some (.inr (.inr 111)), some (.inl v1), some (.inl v2), some (.inl v3), some (.inl v4), some (.inl v5), u6] [] h := by
  refine bX11_fittest_48  (fun p1 => ?_) (fun p1 => ?_)
  · exact bX11_fittest_87  (K0 p1)
  · exact bX11_fittest_54 hr hd1' (K1 p1)

set_option maxRecDepth 20000 in
theorem t_X11_fittest_62 {d  : Nat} {Q : Option MV → MH → Prop} {h : MH} {u6 : Option MV} {v1 v2 v3 v4 v5 vs0 : Int32} (K0 : v4 < vs0 → J mX11_fittest d 0 0 Q 0 0 48 [some (.inr (.inr 111)), some (.inl v1), some (.inl v2), some (.inl v5), some (.inl vs0), some (.inl (v5 + nI 1)), some (.inl vs0)] [] h) (K1 : ¬ v4 < vs0 → J mX11_fittest d 0 0 Q 0 0 48 [some (.inr (.inr 111)), some (.inl v1), some (.inl v2), some (.inl v3), some (.inl v4), some (.inl (v5 + nI 1)), some (.inl vs0)] [] h) : J mX11_fittest d 0 0 Q 0 0 62 [some (.inr (.inr 111)), some (.inl v1), some (.inl v2), some (.inl v3), some (.inl v4), some (.inl v5), u6] [.inl vs0] h := by
  refine bX11_fittest_62  (fun p1 => ?_) (fun p1 => ?_)
  · refine bX11_fittest_74  ?_
    refine bX11_fittest_81  ?_
    exact K0 p1
  · refine bX11_fittest_71  ?_
    refine bX11_fittest_81  ?_
    exact K1 p1

set_option maxRecDepth 20000 in
theorem t_X11_mayBe {d d1' : Nat} {Q : Option MV → MH → Prop} {h : MH} {v1 v2 v3 : Int32} (hr : zRf h) (hd1' : d1' + 1 ≤ d) (K0 : Con mX11_hears d1' 0 0 [.inr (.inr 111), .inl v1] h (zrv fun h' => J mX11_mayBe d 0 0 Q 0 0 5 [some (.inr (.inr 111)), some (.inl v1), some (.inl v2), some (.inl v3), none, none] [] h')) : Con mX11_mayBe d 0 0 [.inr (.inr 111), .inl v1, .inl v2, .inl v3] h Q := by
  refine Con.intro rfl (Nat.le_of_ble_eq_true rfl) ?_
  show J mX11_mayBe d 0 0 Q 0 0 0 [some (.inr (.inr 111)), some (.inl v1), some (.inl v2), some (.inl v3), none, none] [] h
  exact bX11_mayBe_0 hr hd1' (K0)

set_option maxRecDepth 20000 in
theorem t_X11_mayBe_5 {d  : Nat} {Q : Option MV → MH → Prop} {h : MH} {v1 v2 v3 : Int32} (K0 : J mX11_mayBe d 0 0 Q 0 0 8 [some (.inr (.inr 111)), some (.inl v1), some (.inl v2), some (.inl v3), some (.inl (nI 0)), none] [] h) : J mX11_mayBe d 0 0 Q 0 0 5 [some (.inr (.inr 111)), some (.inl v1), some (.inl v2), some (.inl v3), none, none] [] h := by
  refine bX11_mayBe_5  ?_
  exact K0

set_option maxRecDepth 20000 in
theorem t_X11_mayBe_8 {d  : Nat} {Q : Option MV → MH → Prop} {h : MH} {v1 v2 v3 v4 : Int32} (hr : zRf h) (G0 : ¬ (h.1 111 32) ≤ v4 → vp_in v4 40) (K0 : (h.1 111 32) ≤ v4 → J mX11_mayBe d 0 0 Q 0 0 37 [some (.inr (.inr 111)), some (.inl v1), some (.inl v2), some (.inl v3), some (.inl (nI 0)), some (.inl (nI 0))] [] h) (K1 : ¬ (h.1 111 32) ≤ v4 → J mX11_mayBe d 0 0 Q 0 0 8 [some (.inr (.inr 111)), some (.inl v1), some (.inl v2), some (.inl v3), some (.inl (v4 + nI 1)), none] [] (zsI h 139 v4.toNatClampNeg (nI 0))) : J mX11_mayBe d 0 0 Q 0 0 8 [some (.inr (.inr 111)), some (.inl v1), some (.inl v2), some (.inl v3), some (.inl v4), none] [] h := by
  refine bX11_mayBe_8 hr (fun p1 => ?_) (fun p1 => ?_)
  · refine bX11_mayBe_31  ?_
    exact K0 p1
  · refine bX11_mayBe_17 hr (G0 p1) ?_
    exact K1 p1

set_option maxRecDepth 20000 in
theorem t_X11_mayBe_37 {d  : Nat} {Q : Option MV → MH → Prop} {h : MH} {v1 v2 v3 v4 v5 : Int32} (hr : zRf h) (G0 : vp_in v2 4) (K0 : (h.1 141 v2.toNatClampNeg) ≤ v5 → Q (some (.inl (nI 1))) h) (K1 : ¬ (h.1 141 v2.toNatClampNeg) ≤ v5 → J mX11_mayBe d 0 0 Q 0 0 48 [some (.inr (.inr 111)), some (.inl v1), some (.inl v2), some (.inl v3), some (.inl v4), some (.inl v5)] [] h) : J mX11_mayBe d 0 0 Q 0 0 37 [some (.inr (.inr 111)), some (.inl v1), some (.inl v2), some (.inl v3), some (.inl v4), some (.inl v5)] [] h := by
  refine bX11_mayBe_37 hr (G0) (fun p1 => ?_) (fun p1 => ?_)
  · exact bX11_mayBe_117  (K0 p1)
  · exact K1 p1

set_option maxRecDepth 20000 in
theorem t_X11_mayBe_48 {d  : Nat} {Q : Option MV → MH → Prop} {h : MH} {v1 v2 v3 v4 v5 : Int32} (hr : zRf h) (hd : 2 ≤ d) (G0 : (h.1 111 32) ≤ v4 → ¬ v4 = (h.1 111 32) → vp_in v4 40) (G1 : ¬ (h.1 111 32) ≤ v4 → vp_in (((nI 40) * v2) + v5) 160) (G2 : ¬ (h.1 111 32) ≤ v4 → vp_in v4 40) (K0 : (h.1 111 32) ≤ v4 → ¬ v4 = (h.1 111 32) → J mX11_mayBe d 0 0 Q 0 0 37 [some (.inr (.inr 111)), some (.inl v1), some (.inl v2), some (.inl v3), some (.inl (v4 + nI 1)), some (.inl (v5 + nI 1))] [] (zsI h 139 v4.toNatClampNeg (nI 1))) (K1 : (h.1 111 32) ≤ v4 → v4 = (h.1 111 32) → Q (some (.inl (nI 0))) h) (K2 : ¬ (h.1 111 32) ≤ v4 → ¬ ((h.1 126 v4.toNatClampNeg).toInt64 - v3.toInt64) ≤ (h.2.1 142 (((nI 40) * v2) + v5).toNatClampNeg) → J mX11_mayBe d 0 0 Q 0 0 48 [some (.inr (.inr 111)), some (.inl v1), some (.inl v2), some (.inl v3), some (.inl (v4 + nI 1)), some (.inl v5)] [] h) (K3 : ¬ (h.1 111 32) ≤ v4 → ((h.1 126 v4.toNatClampNeg).toInt64 - v3.toInt64) ≤ (h.2.1 142 (((nI 40) * v2) + v5).toNatClampNeg) → ¬ (h.2.1 142 (((nI 40) * v2) + v5).toNatClampNeg) ≤ ((h.1 126 v4.toNatClampNeg).toInt64 + v3.toInt64) → J mX11_mayBe d 0 0 Q 0 0 48 [some (.inr (.inr 111)), some (.inl v1), some (.inl v2), some (.inl v3), some (.inl (v4 + nI 1)), some (.inl v5)] [] h) (K4 : ¬ (h.1 111 32) ≤ v4 → ((h.1 126 v4.toNatClampNeg).toInt64 - v3.toInt64) ≤ (h.2.1 142 (((nI 40) * v2) + v5).toNatClampNeg) → (h.2.1 142 (((nI 40) * v2) + v5).toNatClampNeg) ≤ ((h.1 126 v4.toNatClampNeg).toInt64 + v3.toInt64) → ¬ v4 = (h.1 111 32) → J mX11_mayBe d 0 0 Q 0 0 37 [some (.inr (.inr 111)), some (.inl v1), some (.inl v2), some (.inl v3), some (.inl (v4 + nI 1)), some (.inl (v5 + nI 1))] [] (zsI h 139 v4.toNatClampNeg (nI 1))) (K5 : ¬ (h.1 111 32) ≤ v4 → ((h.1 126 v4.toNatClampNeg).toInt64 - v3.toInt64) ≤ (h.2.1 142 (((nI 40) * v2) + v5).toNatClampNeg) → (h.2.1 142 (((nI 40) * v2) + v5).toNatClampNeg) ≤ ((h.1 126 v4.toNatClampNeg).toInt64 + v3.toInt64) → v4 = (h.1 111 32) → Q (some (.inl (nI 0))) h) : J mX11_mayBe d 0 0 Q 0 0 48 [some (.inr (.inr 111)), some (.inl v1), some (.inl v2), some (.inl v3), some (.inl v4), some (.inl v5)] [] h := by
  refine bX11_mayBe_48 hr (fun p1 => ?_) (fun p1 => ?_)
  · refine bX11_mayBe_89 hr (fun p2 => ?_) (fun p2 => ?_)
    · refine bX11_mayBe_100 hr (G0 p1 p2) ?_
      exact K0 p1 p2
    · exact bX11_mayBe_98  (K1 p1 p2)
  · refine bX11_mayBe_57 (d' := 1) hr (G1 p1) (G2 p1) (by omega) ?_
    refine t_X11_isNear (Nat.le_refl _) ?_ ?_ ?_
    · intro p3
      refine bX11_mayBe_80  (fun c => absurd c (by decide)) (fun _ => ?_)
      refine bX11_mayBe_83  ?_
      exact K2 p1 p3
    · intro p4 p5
      refine bX11_mayBe_80  (fun c => absurd c (by decide)) (fun _ => ?_)
      refine bX11_mayBe_83  ?_
      exact K3 p1 p4 p5
    · intro p6 p7
      refine bX11_mayBe_80  (fun _ => ?_) (fun c => absurd c (by decide))
      refine bX11_mayBe_89 hr (fun p8 => ?_) (fun p8 => ?_)
      · refine bX11_mayBe_100 hr (G2 p1) ?_
        exact K4 p1 p6 p7 p8
      · exact bX11_mayBe_98  (K5 p1 p6 p7 p8)

set_option maxRecDepth 20000 in
theorem t_X11_log {d d1' : Nat} {Q : Option MV → MH → Prop} {h : MH} {v1 : Int32} (hr : zRf h) (hd : 1 ≤ d) (hd1' : d1' + 1 ≤ d) (G0 : (lN 0) ≤ v1.toInt64 → v1.toInt64 ≤ (3 : Int64) → vp_in v1 4) (K0 : ¬ (lN 0) ≤ v1.toInt64 → Q (some (.inl (-(nI 2)))) (zsI h 111 0 (nI 0))) (K1 : (lN 0) ≤ v1.toInt64 → ¬ v1.toInt64 ≤ (3 : Int64) → Q (some (.inl (-(nI 2)))) (zsI h 111 0 (nI 0))) (K2 : (lN 0) ≤ v1.toInt64 → v1.toInt64 ≤ (3 : Int64) → ¬ ((zsI h 111 0 (nI 0)).1 140 v1.toNatClampNeg) = (-(nI 1)) → Con mX11_plansOf d1' 0 0 [.inr (.inr 111), .inl v1, .inl (nI 0)] (zsI h 111 0 (nI 0)) (zri fun (x : Int32) h' => J mX11_log d 0 0 Q 0 0 39 [some (.inr (.inr 111)), some (.inl v1)] [.inl x] h')) (K3 : (lN 0) ≤ v1.toInt64 → v1.toInt64 ≤ (3 : Int64) → ((zsI h 111 0 (nI 0)).1 140 v1.toNatClampNeg) = (-(nI 1)) → Q (some (.inl (-(nI 6)))) (zsI h 111 0 (nI 0))) : Con mX11_log d 0 0 [.inr (.inr 111), .inl v1] h Q := by
  refine Con.intro rfl (Nat.le_of_ble_eq_true rfl) ?_
  show J mX11_log d 0 0 Q 0 0 0 [some (.inr (.inr 111)), some (.inl v1)] [] h
  refine bX11_log_0 (d' := 0) hr (by omega) ?_
  refine t_X11_within  ?_ ?_ ?_
  · intro p1
    refine bX11_log_14  (fun c => absurd c (by decide)) (fun _ => ?_)
    exact bX11_log_17  (K0 p1)
  · intro p2 p3
    refine bX11_log_14  (fun c => absurd c (by decide)) (fun _ => ?_)
    exact bX11_log_17  (K1 p2 p3)
  · intro p4 p5
    refine bX11_log_14  (fun _ => ?_) (fun c => absurd c (by decide))
    refine bX11_log_20 hr (G0 p4 p5) (fun p6 => ?_) (fun p6 => ?_)
    · exact bX11_log_33 hr hd1' (K2 p4 p5 p6)
    · exact bX11_log_30  (K3 p4 p5 p6)

set_option maxRecDepth 20000 in
theorem t_X11_log_39 {d  : Nat} {Q : Option MV → MH → Prop} {h : MH} {v1 vs0 : Int32} (K0 : Q (some (.inl vs0)) h) : J mX11_log d 0 0 Q 0 0 39 [some (.inr (.inr 111)), some (.inl v1)] [.inl vs0] h := by
  exact bX11_log_39  (K0)

set_option maxRecDepth 20000 in
theorem t_X11_plansOf {d  : Nat} {Q : Option MV → MH → Prop} {h : MH} {v1 v2 : Int32} (K0 : J mX11_plansOf d 0 0 Q 0 0 5 [some (.inr (.inr 111)), some (.inl v1), some (.inl v2), some (.inl (nI 0)), some (.inl (nI 0))] [] h) : Con mX11_plansOf d 0 0 [.inr (.inr 111), .inl v1, .inl v2] h Q := by
  refine Con.intro rfl (Nat.le_of_ble_eq_true rfl) ?_
  show J mX11_plansOf d 0 0 Q 0 0 0 [some (.inr (.inr 111)), some (.inl v1), some (.inl v2), none, none] [] h
  refine bX11_plansOf_0  ?_
  exact K0

set_option maxRecDepth 20000 in
theorem t_X11_plansOf_5 {d d1' : Nat} {Q : Option MV → MH → Prop} {h : MH} {v1 v2 v3 v4 : Int32} (hr : zRf h) (hd1' : d1' + 1 ≤ d) (K0 : (nI 4) ≤ v4 → Q (some (.inl v3)) h) (K1 : ¬ (nI 4) ≤ v4 → Con mX11_mayBe d1' 0 0 [.inr (.inr 111), .inl v4, .inl v1, .inl v2] h (zri fun (x : Int32) h' => J mX11_plansOf d 0 0 Q 0 0 20 [some (.inr (.inr 111)), some (.inl v1), some (.inl v2), some (.inl v3), some (.inl v4)] [.inl x, .inl v3] h')) : J mX11_plansOf d 0 0 Q 0 0 5 [some (.inr (.inr 111)), some (.inl v1), some (.inl v2), some (.inl v3), some (.inl v4)] [] h := by
  refine bX11_plansOf_5  (fun p1 => ?_) (fun p1 => ?_)
  · exact bX11_plansOf_39  (K0 p1)
  · exact bX11_plansOf_11 hr hd1' (K1 p1)

set_option maxRecDepth 20000 in
theorem t_X11_plansOf_20 {d  : Nat} {Q : Option MV → MH → Prop} {h : MH} {v1 v2 v3 v4 vs0 vs1 : Int32} (K0 : vs1 = 0 → J mX11_plansOf d 0 0 Q 0 0 5 [some (.inr (.inr 111)), some (.inl v1), some (.inl v2), some (.inl (vs0 ||| (nI 0))), some (.inl (v4 + nI 1))] [] h) (K1 : ¬ vs1 = 0 → J mX11_plansOf d 0 0 Q 0 0 5 [some (.inr (.inr 111)), some (.inl v1), some (.inl v2), some (.inl (vs0 ||| ((nI 1) <<< (v4 &&& 31)))), some (.inl (v4 + nI 1))] [] h) : J mX11_plansOf d 0 0 Q 0 0 20 [some (.inr (.inr 111)), some (.inl v1), some (.inl v2), some (.inl v3), some (.inl v4)] [.inl vs1, .inl vs0] h := by
  refine bX11_plansOf_20  (fun p1 => ?_) (fun p1 => ?_)
  · refine bX11_plansOf_30  ?_
    refine bX11_plansOf_31  ?_
    exact K0 p1
  · refine bX11_plansOf_23  ?_
    refine bX11_plansOf_31  ?_
    exact K1 p1

set_option maxRecDepth 20000 in
theorem t_X11_nearly {d d1' : Nat} {Q : Option MV → MH → Prop} {h : MH} {v1 v2 : Int32} (hr : zRf h) (hd : 1 ≤ d) (hd1' : d1' + 1 ≤ d) (G0 : (lN 0) ≤ v1.toInt64 → v1.toInt64 ≤ (3 : Int64) → vp_in v1 4) (K0 : ¬ (lN 0) ≤ v1.toInt64 → Q (some (.inl (-(nI 2)))) (zsI h 111 0 (nI 0))) (K1 : (lN 0) ≤ v1.toInt64 → ¬ v1.toInt64 ≤ (3 : Int64) → Q (some (.inl (-(nI 2)))) (zsI h 111 0 (nI 0))) (K2 : (lN 0) ≤ v1.toInt64 → v1.toInt64 ≤ (3 : Int64) → ¬ ((zsI h 111 0 (nI 0)).1 140 v1.toNatClampNeg) = (-(nI 1)) → 0 ≤ v2 → Con mX11_plansOf d1' 0 0 [.inr (.inr 111), .inl v1, .inl v2] (zsI h 111 0 (nI 0)) (zri fun (x : Int32) h' => J mX11_nearly d 0 0 Q 0 0 48 [some (.inr (.inr 111)), some (.inl v1), some (.inl v2)] [.inl x] h')) (K3 : (lN 0) ≤ v1.toInt64 → v1.toInt64 ≤ (3 : Int64) → ¬ ((zsI h 111 0 (nI 0)).1 140 v1.toNatClampNeg) = (-(nI 1)) → ¬ 0 ≤ v2 → Q (some (.inl (-(nI 3)))) (zsI h 111 0 (nI 0))) (K4 : (lN 0) ≤ v1.toInt64 → v1.toInt64 ≤ (3 : Int64) → ((zsI h 111 0 (nI 0)).1 140 v1.toNatClampNeg) = (-(nI 1)) → Q (some (.inl (-(nI 6)))) (zsI h 111 0 (nI 0))) : Con mX11_nearly d 0 0 [.inr (.inr 111), .inl v1, .inl v2] h Q := by
  refine Con.intro rfl (Nat.le_of_ble_eq_true rfl) ?_
  show J mX11_nearly d 0 0 Q 0 0 0 [some (.inr (.inr 111)), some (.inl v1), some (.inl v2)] [] h
  refine bX11_nearly_0 (d' := 0) hr (by omega) ?_
  refine t_X11_within  ?_ ?_ ?_
  · intro p1
    refine bX11_nearly_14  (fun c => absurd c (by decide)) (fun _ => ?_)
    exact bX11_nearly_17  (K0 p1)
  · intro p2 p3
    refine bX11_nearly_14  (fun c => absurd c (by decide)) (fun _ => ?_)
    exact bX11_nearly_17  (K1 p2 p3)
  · intro p4 p5
    refine bX11_nearly_14  (fun _ => ?_) (fun c => absurd c (by decide))
    refine bX11_nearly_20 hr (G0 p4 p5) (fun p6 => ?_) (fun p6 => ?_)
    · refine bX11_nearly_33  (fun p7 => ?_) (fun p7 => ?_)
      · exact bX11_nearly_42 hr hd1' (K2 p4 p5 p6 p7)
      · refine bX11_nearly_37  ?_
        exact bX11_nearly_48  (K3 p4 p5 p6 p7)
    · exact bX11_nearly_30  (K4 p4 p5 p6)

set_option maxRecDepth 20000 in
theorem t_X11_nearly_48 {d  : Nat} {Q : Option MV → MH → Prop} {h : MH} {v1 v2 vs0 : Int32} (K0 : Q (some (.inl vs0)) h) : J mX11_nearly d 0 0 Q 0 0 48 [some (.inr (.inr 111)), some (.inl v1), some (.inl v2)] [.inl vs0] h := by
  exact bX11_nearly_48  (K0)

set_option maxRecDepth 20000 in
theorem t_X11_missed {d d1' : Nat} {Q : Option MV → MH → Prop} {h : MH} {v1 v2 v3 : Int32} (hr : zRf h) (hd : 2 ≤ d) (hd1' : d1' + 1 ≤ d) (G0 : (lN 0) ≤ v1.toInt64 → v1.toInt64 ≤ (3 : Int64) → (lN 0) ≤ v2.toInt64 → v2.toInt64 ≤ (3 : Int64) → vp_in v2 4) (K0 : ¬ (lN 0) ≤ v1.toInt64 → Q (some (.inl (-(nI 2)))) (zsI h 111 0 (nI 0))) (K1 : (lN 0) ≤ v1.toInt64 → ¬ v1.toInt64 ≤ (3 : Int64) → Q (some (.inl (-(nI 2)))) (zsI h 111 0 (nI 0))) (K2 : (lN 0) ≤ v1.toInt64 → v1.toInt64 ≤ (3 : Int64) → ¬ (lN 0) ≤ v2.toInt64 → Q (some (.inl (-(nI 2)))) (zsI h 111 0 (nI 0))) (K3 : (lN 0) ≤ v1.toInt64 → v1.toInt64 ≤ (3 : Int64) → (lN 0) ≤ v2.toInt64 → ¬ v2.toInt64 ≤ (3 : Int64) → Q (some (.inl (-(nI 2)))) (zsI h 111 0 (nI 0))) (K4 : (lN 0) ≤ v1.toInt64 → v1.toInt64 ≤ (3 : Int64) → (lN 0) ≤ v2.toInt64 → v2.toInt64 ≤ (3 : Int64) → ¬ ((zsI h 111 0 (nI 0)).1 140 v2.toNatClampNeg) = (-(nI 1)) → Con mX11_mayBe d1' 0 0 [.inr (.inr 111), .inl v1, .inl v2, .inl (nI 0)] (zsI h 111 0 (nI 0)) (zri fun (x : Int32) h' => J mX11_missed d 0 0 Q 0 0 47 [some (.inr (.inr 111)), some (.inl v1), some (.inl v2), some (.inl v3), none, none] [.inl x] h')) (K5 : (lN 0) ≤ v1.toInt64 → v1.toInt64 ≤ (3 : Int64) → (lN 0) ≤ v2.toInt64 → v2.toInt64 ≤ (3 : Int64) → ((zsI h 111 0 (nI 0)).1 140 v2.toNatClampNeg) = (-(nI 1)) → Q (some (.inl (-(nI 6)))) (zsI h 111 0 (nI 0))) : Con mX11_missed d 0 0 [.inr (.inr 111), .inl v1, .inl v2, .inl v3] h Q := by
  refine Con.intro rfl (Nat.le_of_ble_eq_true rfl) ?_
  show J mX11_missed d 0 0 Q 0 0 0 [some (.inr (.inr 111)), some (.inl v1), some (.inl v2), some (.inl v3), none, none] [] h
  refine bX11_missed_0 (d' := 1) hr (by omega) ?_
  refine t_X11_isPlan (Nat.le_refl _) ?_ ?_ ?_
  · intro p1
    refine bX11_missed_9  (fun _ => ?_) (fun c => absurd c (by decide))
    exact bX11_missed_24  (K0 p1)
  · intro p2 p3
    refine bX11_missed_9  (fun _ => ?_) (fun c => absurd c (by decide))
    exact bX11_missed_24  (K1 p2 p3)
  · intro p4 p5
    refine bX11_missed_9  (fun c => absurd c (by decide)) (fun _ => ?_)
    refine bX11_missed_12 (d' := 0)  (by omega) ?_
    refine t_X11_within  ?_ ?_ ?_
    · intro p6
      refine bX11_missed_21  (fun c => absurd c (by decide)) (fun _ => ?_)
      exact bX11_missed_24  (K2 p4 p5 p6)
    · intro p7 p8
      refine bX11_missed_21  (fun c => absurd c (by decide)) (fun _ => ?_)
      exact bX11_missed_24  (K3 p4 p5 p7 p8)
    · intro p9 p10
      refine bX11_missed_21  (fun _ => ?_) (fun c => absurd c (by decide))
      refine bX11_missed_27 hr (G0 p4 p5 p9 p10) (fun p11 => ?_) (fun p11 => ?_)
      · exact bX11_missed_40 hr hd1' (K4 p4 p5 p9 p10 p11)
      · exact bX11_missed_37  (K5 p4 p5 p9 p10 p11)

set_option maxRecDepth 20000 in
theorem t_X11_missed_47 {d  : Nat} {Q : Option MV → MH → Prop} {h : MH} {v1 v2 v3 vs0 : Int32} (K0 : ¬ vs0 = 0 → J mX11_missed d 0 0 Q 0 0 58 [some (.inr (.inr 111)), some (.inl v1), some (.inl v2), some (.inl v3), some (.inl (nI 0)), some (.inl (nI 0))] [] h) (K1 : vs0 = 0 → Q (some (.inl (-(nI 1)))) h) : J mX11_missed d 0 0 Q 0 0 47 [some (.inr (.inr 111)), some (.inl v1), some (.inl v2), some (.inl v3), none, none] [.inl vs0] h := by
  refine bX11_missed_47  (fun p1 => ?_) (fun p1 => ?_)
  · refine bX11_missed_52  ?_
    exact K0 p1
  · exact bX11_missed_50  (K1 p1)

set_option maxRecDepth 20000 in
theorem t_X11_missed_58 {d  : Nat} {Q : Option MV → MH → Prop} {h : MH} {v1 v2 v3 v4 v5 : Int32} (hr : zRf h) (G0 : ¬ (h.1 111 32) ≤ v5 → vp_in v5 40) (K0 : (h.1 111 32) ≤ v5 → ¬ v3 = (-(nI 1)) → Q (some (.inl (-(nI 1)))) h) (K1 : (h.1 111 32) ≤ v5 → v3 = (-(nI 1)) → Q (some (.inl v4)) h) (K2 : ¬ (h.1 111 32) ≤ v5 → (h.1 139 v5.toNatClampNeg) = 0 → ¬ v4 = v3 → J mX11_missed d 0 0 Q 0 0 58 [some (.inr (.inr 111)), some (.inl v1), some (.inl v2), some (.inl v3), some (.inl (v4 + nI 1)), some (.inl (v5 + nI 1))] [] h) (K3 : ¬ (h.1 111 32) ≤ v5 → (h.1 139 v5.toNatClampNeg) = 0 → v4 = v3 → Q (some (.inl v5)) h) (K4 : ¬ (h.1 111 32) ≤ v5 → ¬ (h.1 139 v5.toNatClampNeg) = 0 → J mX11_missed d 0 0 Q 0 0 58 [some (.inr (.inr 111)), some (.inl v1), some (.inl v2), some (.inl v3), some (.inl v4), some (.inl (v5 + nI 1))] [] h) : J mX11_missed d 0 0 Q 0 0 58 [some (.inr (.inr 111)), some (.inl v1), some (.inl v2), some (.inl v3), some (.inl v4), some (.inl v5)] [] h := by
  refine bX11_missed_58 hr (fun p1 => ?_) (fun p1 => ?_)
  · refine bX11_missed_98  (fun p2 => ?_) (fun p2 => ?_)
    · refine bX11_missed_108  ?_
      exact bX11_missed_109  (K0 p1 p2)
    · refine bX11_missed_103  ?_
      exact bX11_missed_109  (K1 p1 p2)
  · refine bX11_missed_67 hr (G0 p1) (fun p3 => ?_) (fun p3 => ?_)
    · refine bX11_missed_80  (fun p4 => ?_) (fun p4 => ?_)
      · refine bX11_missed_89  ?_
        refine bX11_missed_92  ?_
        exact K2 p1 p3 p4
      · exact bX11_missed_86  (K3 p1 p3 p4)
    · refine bX11_missed_77  ?_
      refine bX11_missed_92  ?_
      exact K4 p1 p3

set_option maxRecDepth 20000 in
theorem t_X11_stolen {d d1' : Nat} {Q : Option MV → MH → Prop} {h : MH} {v1 v2 : Int32} (hr : zRf h) (hd : 2 ≤ d) (hd1' : d1' + 1 ≤ d) (G0 : (lN 0) ≤ v1.toInt64 → v1.toInt64 ≤ (3 : Int64) → (lN 0) ≤ v2.toInt64 → v2.toInt64 ≤ (3 : Int64) → vp_in v2 4) (K0 : ¬ (lN 0) ≤ v1.toInt64 → Q (some (.inl (-(nI 2)))) (zsI h 111 0 (nI 0))) (K1 : (lN 0) ≤ v1.toInt64 → ¬ v1.toInt64 ≤ (3 : Int64) → Q (some (.inl (-(nI 2)))) (zsI h 111 0 (nI 0))) (K2 : (lN 0) ≤ v1.toInt64 → v1.toInt64 ≤ (3 : Int64) → ¬ (lN 0) ≤ v2.toInt64 → Q (some (.inl (-(nI 2)))) (zsI h 111 0 (nI 0))) (K3 : (lN 0) ≤ v1.toInt64 → v1.toInt64 ≤ (3 : Int64) → (lN 0) ≤ v2.toInt64 → ¬ v2.toInt64 ≤ (3 : Int64) → Q (some (.inl (-(nI 2)))) (zsI h 111 0 (nI 0))) (K4 : (lN 0) ≤ v1.toInt64 → v1.toInt64 ≤ (3 : Int64) → (lN 0) ≤ v2.toInt64 → v2.toInt64 ≤ (3 : Int64) → ¬ ((zsI h 111 0 (nI 0)).1 140 v2.toNatClampNeg) = (-(nI 1)) → Con mX11_asTold d1' 0 0 [.inr (.inr 111)] (zsI h 111 0 (nI 0)) (zrv fun h' => J mX11_stolen d 0 0 Q 0 0 44 [some (.inr (.inr 111)), some (.inl v1), some (.inl v2), none, none] [] h')) (K5 : (lN 0) ≤ v1.toInt64 → v1.toInt64 ≤ (3 : Int64) → (lN 0) ≤ v2.toInt64 → v2.toInt64 ≤ (3 : Int64) → ((zsI h 111 0 (nI 0)).1 140 v2.toNatClampNeg) = (-(nI 1)) → Q (some (.inl (-(nI 6)))) (zsI h 111 0 (nI 0))) : Con mX11_stolen d 0 0 [.inr (.inr 111), .inl v1, .inl v2] h Q := by
  refine Con.intro rfl (Nat.le_of_ble_eq_true rfl) ?_
  show J mX11_stolen d 0 0 Q 0 0 0 [some (.inr (.inr 111)), some (.inl v1), some (.inl v2), none, none] [] h
  refine bX11_stolen_0 (d' := 1) hr (by omega) ?_
  refine t_X11_isPlan (Nat.le_refl _) ?_ ?_ ?_
  · intro p1
    refine bX11_stolen_9  (fun _ => ?_) (fun c => absurd c (by decide))
    exact bX11_stolen_24  (K0 p1)
  · intro p2 p3
    refine bX11_stolen_9  (fun _ => ?_) (fun c => absurd c (by decide))
    exact bX11_stolen_24  (K1 p2 p3)
  · intro p4 p5
    refine bX11_stolen_9  (fun c => absurd c (by decide)) (fun _ => ?_)
    refine bX11_stolen_12 (d' := 0)  (by omega) ?_
    refine t_X11_within  ?_ ?_ ?_
    · intro p6
      refine bX11_stolen_21  (fun c => absurd c (by decide)) (fun _ => ?_)
      exact bX11_stolen_24  (K2 p4 p5 p6)
    · intro p7 p8
      refine bX11_stolen_21  (fun c => absurd c (by decide)) (fun _ => ?_)
      exact bX11_stolen_24  (K3 p4 p5 p7 p8)
    · intro p9 p10
      refine bX11_stolen_21  (fun _ => ?_) (fun c => absurd c (by decide))
      refine bX11_stolen_27 hr (G0 p4 p5 p9 p10) (fun p11 => ?_) (fun p11 => ?_)
      · exact bX11_stolen_40 hr hd1' (K4 p4 p5 p9 p10 p11)
      · exact bX11_stolen_37  (K5 p4 p5 p9 p10 p11)

set_option maxRecDepth 20000 in
theorem t_X11_stolen_44 {d d1' : Nat} {Q : Option MV → MH → Prop} {h : MH} {v1 v2 : Int32} (hr : zRf h) (hd1' : d1' + 1 ≤ d) (K0 : Con mX11_runs d1' 0 0 [.inr (.inr 111), .inl v1, .inl (-(nI 1))] h (zrv fun h' => J mX11_stolen d 0 0 Q 0 0 50 [some (.inr (.inr 111)), some (.inl v1), some (.inl v2), none, none] [] h')) : J mX11_stolen d 0 0 Q 0 0 44 [some (.inr (.inr 111)), some (.inl v1), some (.inl v2), none, none] [] h := by
  exact bX11_stolen_44 hr hd1' (K0)

set_option maxRecDepth 20000 in
theorem t_X11_stolen_50 {d  : Nat} {Q : Option MV → MH → Prop} {h : MH} {v1 v2 : Int32} (K0 : J mX11_stolen d 0 0 Q 0 0 55 [some (.inr (.inr 111)), some (.inl v1), some (.inl v2), some (.inl (nI 0)), some (.inl (nI 0))] [] h) : J mX11_stolen d 0 0 Q 0 0 50 [some (.inr (.inr 111)), some (.inl v1), some (.inl v2), none, none] [] h := by
  refine bX11_stolen_50  ?_
  exact K0

set_option maxRecDepth 20000 in
theorem t_X11_stolen_55 {d  : Nat} {Q : Option MV → MH → Prop} {h : MH} {v1 v2 v3 v4 : Int32} (hr : zRf h) (G0 : ¬ (h.1 112 0) ≤ v4 → vp_in v2 4) (G1 : ¬ (h.1 112 0) ≤ v4 → ¬ (h.1 141 v2.toNatClampNeg) ≤ v4 → vp_in (((nI 40) * v2) + v4) 160) (G2 : ¬ (h.1 112 0) ≤ v4 → ¬ (h.1 141 v2.toNatClampNeg) ≤ v4 → vp_in v4 8) (K0 : (h.1 112 0) ≤ v4 → Q (some (.inl v3)) h) (K1 : ¬ (h.1 112 0) ≤ v4 → (h.1 141 v2.toNatClampNeg) ≤ v4 → Q (some (.inl v3)) h) (K2 : ¬ (h.1 112 0) ≤ v4 → ¬ (h.1 141 v2.toNatClampNeg) ≤ v4 → 0 ≤ (lg_cmp (h.2.1 142 (((nI 40) * v2) + v4).toNatClampNeg) (((h.1 117 v4.toNatClampNeg) / (nI 256)).toInt64)) → J mX11_stolen d 0 0 Q 0 0 55 [some (.inr (.inr 111)), some (.inl v1), some (.inl v2), some (.inl (v3 ||| (nI 0))), some (.inl (v4 + nI 1))] [] h) (K3 : ¬ (h.1 112 0) ≤ v4 → ¬ (h.1 141 v2.toNatClampNeg) ≤ v4 → ¬ 0 ≤ (lg_cmp (h.2.1 142 (((nI 40) * v2) + v4).toNatClampNeg) (((h.1 117 v4.toNatClampNeg) / (nI 256)).toInt64)) → J mX11_stolen d 0 0 Q 0 0 55 [some (.inr (.inr 111)), some (.inl v1), some (.inl v2), some (.inl (v3 ||| ((nI 1) <<< (v4 &&& 31)))), some (.inl (v4 + nI 1))] [] h) : J mX11_stolen d 0 0 Q 0 0 55 [some (.inr (.inr 111)), some (.inl v1), some (.inl v2), some (.inl v3), some (.inl v4)] [] h := by
  refine bX11_stolen_55 hr (vp_in_nI (by decide) (by decide)) (fun p1 => ?_) (fun p1 => ?_)
  · exact bX11_stolen_122  (K0 p1)
  · refine bX11_stolen_66 hr (G0 p1) (fun p2 => ?_) (fun p2 => ?_)
    · exact bX11_stolen_122  (K1 p1 p2)
    · refine bX11_stolen_77 hr (G1 p1 p2) (G2 p1 p2) (fun p3 => ?_) (fun p3 => ?_)
      · refine bX11_stolen_113  ?_
        refine bX11_stolen_114  ?_
        exact K2 p1 p2 p3
      · refine bX11_stolen_106  ?_
        refine bX11_stolen_114  ?_
        exact K3 p1 p2 p3

set_option maxRecDepth 20000 in
theorem t_X11_numbers {d  : Nat} {Q : Option MV → MH → Prop} {h : MH} {v1 v2 v3 : Int32} (hr : zRf h) (hd : 1 ≤ d) (G0 : (lN 0) ≤ v1.toInt64 → v1.toInt64 ≤ (3 : Int64) → (lN 0) ≤ v2.toInt64 → v2.toInt64 ≤ (3 : Int64) → (lN 0) ≤ v3.toInt64 → v3.toInt64 ≤ (40 : Int64) → vp_in v1 4) (K0 : ¬ (lN 0) ≤ v1.toInt64 → Q (some (.inl (-(nI 2)))) (zsI h 111 0 (nI 0))) (K1 : (lN 0) ≤ v1.toInt64 → ¬ v1.toInt64 ≤ (3 : Int64) → Q (some (.inl (-(nI 2)))) (zsI h 111 0 (nI 0))) (K2 : (lN 0) ≤ v1.toInt64 → v1.toInt64 ≤ (3 : Int64) → ¬ (lN 0) ≤ v2.toInt64 → Q (some (.inl (-(nI 2)))) (zsI h 111 0 (nI 0))) (K3 : (lN 0) ≤ v1.toInt64 → v1.toInt64 ≤ (3 : Int64) → (lN 0) ≤ v2.toInt64 → ¬ v2.toInt64 ≤ (3 : Int64) → Q (some (.inl (-(nI 2)))) (zsI h 111 0 (nI 0))) (K4 : (lN 0) ≤ v1.toInt64 → v1.toInt64 ≤ (3 : Int64) → (lN 0) ≤ v2.toInt64 → v2.toInt64 ≤ (3 : Int64) → ¬ (lN 0) ≤ v3.toInt64 → Q (some (.inl (-(nI 3)))) (zsI h 111 0 (nI 0))) (K5 : (lN 0) ≤ v1.toInt64 → v1.toInt64 ≤ (3 : Int64) → (lN 0) ≤ v2.toInt64 → v2.toInt64 ≤ (3 : Int64) → (lN 0) ≤ v3.toInt64 → ¬ v3.toInt64 ≤ (40 : Int64) → Q (some (.inl (-(nI 3)))) (zsI h 111 0 (nI 0))) (K6 : (lN 0) ≤ v1.toInt64 → v1.toInt64 ≤ (3 : Int64) → (lN 0) ≤ v2.toInt64 → v2.toInt64 ≤ (3 : Int64) → (lN 0) ≤ v3.toInt64 → v3.toInt64 ≤ (40 : Int64) → J mX11_numbers d 0 0 Q 0 0 64 [some (.inr (.inr 111)), some (.inl v1), some (.inl v2), some (.inl v3), some (.inl (nI 0))] [] (zsI (zsI (zsI h 111 0 (nI 0)) 140 v1.toNatClampNeg v2) 141 v1.toNatClampNeg v3)) : Con mX11_numbers d 0 0 [.inr (.inr 111), .inl v1, .inl v2, .inl v3] h Q := by
  refine Con.intro rfl (Nat.le_of_ble_eq_true rfl) ?_
  show J mX11_numbers d 0 0 Q 0 0 0 [some (.inr (.inr 111)), some (.inl v1), some (.inl v2), some (.inl v3), none] [] h
  refine bX11_numbers_0 (d' := 0) hr (by omega) ?_
  refine t_X11_within  ?_ ?_ ?_
  · intro p1
    refine bX11_numbers_14  (fun _ => ?_) (fun c => absurd c (by decide))
    exact bX11_numbers_29  (K0 p1)
  · intro p2 p3
    refine bX11_numbers_14  (fun _ => ?_) (fun c => absurd c (by decide))
    exact bX11_numbers_29  (K1 p2 p3)
  · intro p4 p5
    refine bX11_numbers_14  (fun c => absurd c (by decide)) (fun _ => ?_)
    refine bX11_numbers_17 (d' := 0)  (by omega) ?_
    refine t_X11_within  ?_ ?_ ?_
    · intro p6
      refine bX11_numbers_26  (fun c => absurd c (by decide)) (fun _ => ?_)
      exact bX11_numbers_29  (K2 p4 p5 p6)
    · intro p7 p8
      refine bX11_numbers_26  (fun c => absurd c (by decide)) (fun _ => ?_)
      exact bX11_numbers_29  (K3 p4 p5 p7 p8)
    · intro p9 p10
      refine bX11_numbers_26  (fun _ => ?_) (fun c => absurd c (by decide))
      refine bX11_numbers_32 (d' := 0)  (by omega) ?_
      refine t_X11_within  ?_ ?_ ?_
      · intro p11
        refine bX11_numbers_41  (fun c => absurd c (by decide)) (fun _ => ?_)
        exact bX11_numbers_44  (K4 p4 p5 p9 p10 p11)
      · intro p12 p13
        refine bX11_numbers_41  (fun c => absurd c (by decide)) (fun _ => ?_)
        exact bX11_numbers_44  (K5 p4 p5 p9 p10 p12 p13)
      · intro p14 p15
        refine bX11_numbers_41  (fun _ => ?_) (fun c => absurd c (by decide))
        refine bX11_numbers_47 hr (G0 p4 p5 p9 p10 p14 p15) ?_
        exact K6 p4 p5 p9 p10 p14 p15

set_option maxRecDepth 20000 in
theorem t_X11_numbers_64 {d  : Nat} {Q : Option MV → MH → Prop} {h : MH} {v1 v2 v3 v4 : Int32} (hr : zRf h) (G0 : ¬ v3 ≤ v4 → vp_in (((nI 40) * v1) + v4) 160) (K0 : v3 ≤ v4 → Q (some (.inl (nI 0))) h) (K1 : ¬ v3 ≤ v4 → J mX11_numbers d 0 0 Q 0 0 64 [some (.inr (.inr 111)), some (.inl v1), some (.inl v2), some (.inl v3), some (.inl (v4 + nI 1))] [] (zsL h 142 (((nI 40) * v1) + v4).toNatClampNeg (lN 0))) : J mX11_numbers d 0 0 Q 0 0 64 [some (.inr (.inr 111)), some (.inl v1), some (.inl v2), some (.inl v3), some (.inl v4)] [] h := by
  refine bX11_numbers_64  (fun p1 => ?_) (fun p1 => ?_)
  · exact bX11_numbers_89  (K0 p1)
  · refine bX11_numbers_70 hr (G0 p1) ?_
    exact K1 p1

set_option maxRecDepth 20000 in
theorem t_X11_write {d  : Nat} {Q : Option MV → MH → Prop} {h : MH} {v1 v2 : Int32} {v3 : Int64} (hr : zRf h) (hd : 1 ≤ d) (G0 : (lN 0) ≤ v1.toInt64 → v1.toInt64 ≤ (3 : Int64) → vp_in v1 4) (G1 : (lN 0) ≤ v1.toInt64 → v1.toInt64 ≤ (3 : Int64) → ¬ ((zsI h 111 0 (nI 0)).1 140 v1.toNatClampNeg) = (-(nI 1)) → (lN 0) ≤ v2.toInt64 → v2.toInt64 ≤ ((((zsI h 111 0 (nI 0)).1 141 v1.toNatClampNeg) - (nI 1)).toInt64) → ¬ ((zsI h 111 0 (nI 0)).1 140 v1.toNatClampNeg) = 0 → ¬ ((zsI h 111 0 (nI 0)).1 140 v1.toNatClampNeg) = (nI 1) → ¬ ((zsI h 111 0 (nI 0)).1 140 v1.toNatClampNeg) = (nI 2) → zokA (zsI h 111 0 (nI 0)) 142 21 (((nI 40) * v1) + v2)) (G2 : (lN 0) ≤ v1.toInt64 → v1.toInt64 ≤ (3 : Int64) → ¬ ((zsI h 111 0 (nI 0)).1 140 v1.toNatClampNeg) = (-(nI 1)) → (lN 0) ≤ v2.toInt64 → v2.toInt64 ≤ ((((zsI h 111 0 (nI 0)).1 141 v1.toNatClampNeg) - (nI 1)).toInt64) → ¬ ((zsI h 111 0 (nI 0)).1 140 v1.toNatClampNeg) = 0 → ¬ ((zsI h 111 0 (nI 0)).1 140 v1.toNatClampNeg) = (nI 1) → ¬ ((zsI h 111 0 (nI 0)).1 140 v1.toNatClampNeg) = (nI 2) → vp_in (((nI 40) * v1) + v2) 160) (G3 : (lN 0) ≤ v1.toInt64 → v1.toInt64 ≤ (3 : Int64) → ¬ ((zsI h 111 0 (nI 0)).1 140 v1.toNatClampNeg) = (-(nI 1)) → (lN 0) ≤ v2.toInt64 → v2.toInt64 ≤ ((((zsI h 111 0 (nI 0)).1 141 v1.toNatClampNeg) - (nI 1)).toInt64) → ¬ ((zsI h 111 0 (nI 0)).1 140 v1.toNatClampNeg) = 0 → ¬ ((zsI h 111 0 (nI 0)).1 140 v1.toNatClampNeg) = (nI 1) → ((zsI h 111 0 (nI 0)).1 140 v1.toNatClampNeg) = (nI 2) → zokA (zsI h 111 0 (nI 0)) 142 21 (((nI 40) * v1) + v2)) (G4 : (lN 0) ≤ v1.toInt64 → v1.toInt64 ≤ (3 : Int64) → ¬ ((zsI h 111 0 (nI 0)).1 140 v1.toNatClampNeg) = (-(nI 1)) → (lN 0) ≤ v2.toInt64 → v2.toInt64 ≤ ((((zsI h 111 0 (nI 0)).1 141 v1.toNatClampNeg) - (nI 1)).toInt64) → ¬ ((zsI h 111 0 (nI 0)).1 140 v1.toNatClampNeg) = 0 → ¬ ((zsI h 111 0 (nI 0)).1 140 v1.toNatClampNeg) = (nI 1) → ((zsI h 111 0 (nI 0)).1 140 v1.toNatClampNeg) = (nI 2) → vp_in (((nI 40) * v1) + v2) 160) (G5 : (lN 0) ≤ v1.toInt64 → v1.toInt64 ≤ (3 : Int64) → ¬ ((zsI h 111 0 (nI 0)).1 140 v1.toNatClampNeg) = (-(nI 1)) → (lN 0) ≤ v2.toInt64 → v2.toInt64 ≤ ((((zsI h 111 0 (nI 0)).1 141 v1.toNatClampNeg) - (nI 1)).toInt64) → ¬ ((zsI h 111 0 (nI 0)).1 140 v1.toNatClampNeg) = 0 → ((zsI h 111 0 (nI 0)).1 140 v1.toNatClampNeg) = (nI 1) → zokA (zsI h 111 0 (nI 0)) 142 21 (((nI 40) * v1) + v2)) (G6 : (lN 0) ≤ v1.toInt64 → v1.toInt64 ≤ (3 : Int64) → ¬ ((zsI h 111 0 (nI 0)).1 140 v1.toNatClampNeg) = (-(nI 1)) → (lN 0) ≤ v2.toInt64 → v2.toInt64 ≤ ((((zsI h 111 0 (nI 0)).1 141 v1.toNatClampNeg) - (nI 1)).toInt64) → ¬ ((zsI h 111 0 (nI 0)).1 140 v1.toNatClampNeg) = 0 → ((zsI h 111 0 (nI 0)).1 140 v1.toNatClampNeg) = (nI 1) → vp_in (((nI 40) * v1) + v2) 160) (G7 : (lN 0) ≤ v1.toInt64 → v1.toInt64 ≤ (3 : Int64) → ¬ ((zsI h 111 0 (nI 0)).1 140 v1.toNatClampNeg) = (-(nI 1)) → (lN 0) ≤ v2.toInt64 → v2.toInt64 ≤ ((((zsI h 111 0 (nI 0)).1 141 v1.toNatClampNeg) - (nI 1)).toInt64) → ((zsI h 111 0 (nI 0)).1 140 v1.toNatClampNeg) = 0 → zokA (zsI h 111 0 (nI 0)) 142 21 (((nI 40) * v1) + v2)) (G8 : (lN 0) ≤ v1.toInt64 → v1.toInt64 ≤ (3 : Int64) → ¬ ((zsI h 111 0 (nI 0)).1 140 v1.toNatClampNeg) = (-(nI 1)) → (lN 0) ≤ v2.toInt64 → v2.toInt64 ≤ ((((zsI h 111 0 (nI 0)).1 141 v1.toNatClampNeg) - (nI 1)).toInt64) → ((zsI h 111 0 (nI 0)).1 140 v1.toNatClampNeg) = 0 → vp_in (((nI 40) * v1) + v2) 160) (K0 : ¬ (lN 0) ≤ v1.toInt64 → Q (some (.inr (.inl (-2 : Int64)))) (zsI h 111 0 (nI 0))) (K1 : (lN 0) ≤ v1.toInt64 → ¬ v1.toInt64 ≤ (3 : Int64) → Q (some (.inr (.inl (-2 : Int64)))) (zsI h 111 0 (nI 0))) (K2 : (lN 0) ≤ v1.toInt64 → v1.toInt64 ≤ (3 : Int64) → ¬ ((zsI h 111 0 (nI 0)).1 140 v1.toNatClampNeg) = (-(nI 1)) → ¬ (lN 0) ≤ v2.toInt64 → Q (some (.inr (.inl (-7 : Int64)))) (zsI h 111 0 (nI 0))) (K3 : (lN 0) ≤ v1.toInt64 → v1.toInt64 ≤ (3 : Int64) → ¬ ((zsI h 111 0 (nI 0)).1 140 v1.toNatClampNeg) = (-(nI 1)) → (lN 0) ≤ v2.toInt64 → ¬ v2.toInt64 ≤ ((((zsI h 111 0 (nI 0)).1 141 v1.toNatClampNeg) - (nI 1)).toInt64) → Q (some (.inr (.inl (-7 : Int64)))) (zsI h 111 0 (nI 0))) (K4 : (lN 0) ≤ v1.toInt64 → v1.toInt64 ≤ (3 : Int64) → ¬ ((zsI h 111 0 (nI 0)).1 140 v1.toNatClampNeg) = (-(nI 1)) → (lN 0) ≤ v2.toInt64 → v2.toInt64 ≤ ((((zsI h 111 0 (nI 0)).1 141 v1.toNatClampNeg) - (nI 1)).toInt64) → ¬ ((zsI h 111 0 (nI 0)).1 140 v1.toNatClampNeg) = 0 → ¬ ((zsI h 111 0 (nI 0)).1 140 v1.toNatClampNeg) = (nI 1) → ¬ ((zsI h 111 0 (nI 0)).1 140 v1.toNatClampNeg) = (nI 2) → Q (some (.inr (.inl ((zsL (zsI h 111 0 (nI 0)) 142 (((nI 40) * v1) + v2).toNatClampNeg v3).2.1 142 (((nI 40) * v1) + v2).toNatClampNeg)))) (zsL (zsI h 111 0 (nI 0)) 142 (((nI 40) * v1) + v2).toNatClampNeg v3)) (K5 : (lN 0) ≤ v1.toInt64 → v1.toInt64 ≤ (3 : Int64) → ¬ ((zsI h 111 0 (nI 0)).1 140 v1.toNatClampNeg) = (-(nI 1)) → (lN 0) ≤ v2.toInt64 → v2.toInt64 ≤ ((((zsI h 111 0 (nI 0)).1 141 v1.toNatClampNeg) - (nI 1)).toInt64) → ¬ ((zsI h 111 0 (nI 0)).1 140 v1.toNatClampNeg) = 0 → ¬ ((zsI h 111 0 (nI 0)).1 140 v1.toNatClampNeg) = (nI 1) → ((zsI h 111 0 (nI 0)).1 140 v1.toNatClampNeg) = (nI 2) → Q (some (.inr (.inl ((zsL (zsI h 111 0 (nI 0)) 142 (((nI 40) * v1) + v2).toNatClampNeg v3.toInt32.toInt64).2.1 142 (((nI 40) * v1) + v2).toNatClampNeg)))) (zsL (zsI h 111 0 (nI 0)) 142 (((nI 40) * v1) + v2).toNatClampNeg v3.toInt32.toInt64)) (K6 : (lN 0) ≤ v1.toInt64 → v1.toInt64 ≤ (3 : Int64) → ¬ ((zsI h 111 0 (nI 0)).1 140 v1.toNatClampNeg) = (-(nI 1)) → (lN 0) ≤ v2.toInt64 → v2.toInt64 ≤ ((((zsI h 111 0 (nI 0)).1 141 v1.toNatClampNeg) - (nI 1)).toInt64) → ¬ ((zsI h 111 0 (nI 0)).1 140 v1.toNatClampNeg) = 0 → ((zsI h 111 0 (nI 0)).1 140 v1.toNatClampNeg) = (nI 1) → Q (some (.inr (.inl ((zsL (zsI h 111 0 (nI 0)) 142 (((nI 40) * v1) + v2).toNatClampNeg v3.toInt32.toInt16.toInt32.toInt64).2.1 142 (((nI 40) * v1) + v2).toNatClampNeg)))) (zsL (zsI h 111 0 (nI 0)) 142 (((nI 40) * v1) + v2).toNatClampNeg v3.toInt32.toInt16.toInt32.toInt64)) (K7 : (lN 0) ≤ v1.toInt64 → v1.toInt64 ≤ (3 : Int64) → ¬ ((zsI h 111 0 (nI 0)).1 140 v1.toNatClampNeg) = (-(nI 1)) → (lN 0) ≤ v2.toInt64 → v2.toInt64 ≤ ((((zsI h 111 0 (nI 0)).1 141 v1.toNatClampNeg) - (nI 1)).toInt64) → ((zsI h 111 0 (nI 0)).1 140 v1.toNatClampNeg) = 0 → Q (some (.inr (.inl ((zsL (zsI h 111 0 (nI 0)) 142 (((nI 40) * v1) + v2).toNatClampNeg v3.toInt32.toInt8.toInt32.toInt64).2.1 142 (((nI 40) * v1) + v2).toNatClampNeg)))) (zsL (zsI h 111 0 (nI 0)) 142 (((nI 40) * v1) + v2).toNatClampNeg v3.toInt32.toInt8.toInt32.toInt64)) (K8 : (lN 0) ≤ v1.toInt64 → v1.toInt64 ≤ (3 : Int64) → ((zsI h 111 0 (nI 0)).1 140 v1.toNatClampNeg) = (-(nI 1)) → Q (some (.inr (.inl (-6 : Int64)))) (zsI h 111 0 (nI 0))) : Con mX11_write d 0 0 [.inr (.inr 111), .inl v1, .inl v2, .inr (.inl v3)] h Q := by
  refine Con.intro rfl (Nat.le_of_ble_eq_true rfl) ?_
  show J mX11_write d 0 0 Q 0 0 0 [some (.inr (.inr 111)), some (.inl v1), some (.inl v2), some (.inr (.inl v3)), none] [] h
  refine bX11_write_0 (d' := 0) hr (by omega) ?_
  refine t_X11_within  ?_ ?_ ?_
  · intro p1
    refine bX11_write_14  (fun c => absurd c (by decide)) (fun _ => ?_)
    exact bX11_write_17  (K0 p1)
  · intro p2 p3
    refine bX11_write_14  (fun c => absurd c (by decide)) (fun _ => ?_)
    exact bX11_write_17  (K1 p2 p3)
  · intro p4 p5
    refine bX11_write_14  (fun _ => ?_) (fun c => absurd c (by decide))
    refine bX11_write_21 hr (G0 p4 p5) (fun p6 => ?_) (fun p6 => ?_)
    · refine bX11_write_35 (d' := 0) hr (G0 p4 p5) (by omega) ?_
      refine t_X11_within  ?_ ?_ ?_
      · intro p7
        refine bX11_write_50  (fun c => absurd c (by decide)) (fun _ => ?_)
        exact bX11_write_53  (K2 p4 p5 p6 p7)
      · intro p8 p9
        refine bX11_write_50  (fun c => absurd c (by decide)) (fun _ => ?_)
        exact bX11_write_53  (K3 p4 p5 p6 p8 p9)
      · intro p10 p11
        refine bX11_write_50  (fun _ => ?_) (fun c => absurd c (by decide))
        refine bX11_write_57 (d' := 0) hr (G0 p4 p5) (by omega) ?_
        refine t_X11_cut  ?_ ?_ ?_ ?_
        · intro p12 p13 p14
          exact bX11_write_77 hr (G1 p4 p5 p6 p10 p11 p12 p13 p14) (G2 p4 p5 p6 p10 p11 p12 p13 p14) (K4 p4 p5 p6 p10 p11 p12 p13 p14)
        · intro p15 p16 p17
          exact bX11_write_77 hr (G3 p4 p5 p6 p10 p11 p15 p16 p17) (G4 p4 p5 p6 p10 p11 p15 p16 p17) (K5 p4 p5 p6 p10 p11 p15 p16 p17)
        · intro p18 p19
          exact bX11_write_77 hr (G5 p4 p5 p6 p10 p11 p18 p19) (G6 p4 p5 p6 p10 p11 p18 p19) (K6 p4 p5 p6 p10 p11 p18 p19)
        · intro p20
          exact bX11_write_77 hr (G7 p4 p5 p6 p10 p11 p20) (G8 p4 p5 p6 p10 p11 p20) (K7 p4 p5 p6 p10 p11 p20)
    · exact bX11_write_31  (K8 p4 p5 p6)

set_option maxRecDepth 20000 in
theorem t_X11_copy {d d1' : Nat} {Q : Option MV → MH → Prop} {h : MH} {v1 v2 : Int32} (hr : zRf h) (hd : 2 ≤ d) (hd1' : d1' + 1 ≤ d) (G0 : (lN 0) ≤ v1.toInt64 → v1.toInt64 ≤ (3 : Int64) → (lN 0) ≤ v2.toInt64 → v2.toInt64 ≤ (3 : Int64) → vp_in v2 4) (K0 : ¬ (lN 0) ≤ v1.toInt64 → Q (some (.inl (-(nI 2)))) (zsI h 111 0 (nI 0))) (K1 : (lN 0) ≤ v1.toInt64 → ¬ v1.toInt64 ≤ (3 : Int64) → Q (some (.inl (-(nI 2)))) (zsI h 111 0 (nI 0))) (K2 : (lN 0) ≤ v1.toInt64 → v1.toInt64 ≤ (3 : Int64) → ¬ (lN 0) ≤ v2.toInt64 → Q (some (.inl (-(nI 2)))) (zsI h 111 0 (nI 0))) (K3 : (lN 0) ≤ v1.toInt64 → v1.toInt64 ≤ (3 : Int64) → (lN 0) ≤ v2.toInt64 → ¬ v2.toInt64 ≤ (3 : Int64) → Q (some (.inl (-(nI 2)))) (zsI h 111 0 (nI 0))) (K4 : (lN 0) ≤ v1.toInt64 → v1.toInt64 ≤ (3 : Int64) → (lN 0) ≤ v2.toInt64 → v2.toInt64 ≤ (3 : Int64) → ¬ ((zsI h 111 0 (nI 0)).1 140 v2.toNatClampNeg) = (-(nI 1)) → Con mX11_hears d1' 0 0 [.inr (.inr 111), .inl v1] (zsI h 111 0 (nI 0)) (zrv fun h' => J mX11_copy d 0 0 Q 0 0 45 [some (.inr (.inr 111)), some (.inl v1), some (.inl v2), none] [] h')) (K5 : (lN 0) ≤ v1.toInt64 → v1.toInt64 ≤ (3 : Int64) → (lN 0) ≤ v2.toInt64 → v2.toInt64 ≤ (3 : Int64) → ((zsI h 111 0 (nI 0)).1 140 v2.toNatClampNeg) = (-(nI 1)) → Q (some (.inl (-(nI 6)))) (zsI h 111 0 (nI 0))) : Con mX11_copy d 0 0 [.inr (.inr 111), .inl v1, .inl v2] h Q := by
  refine Con.intro rfl (Nat.le_of_ble_eq_true rfl) ?_
  show J mX11_copy d 0 0 Q 0 0 0 [some (.inr (.inr 111)), some (.inl v1), some (.inl v2), none] [] h
  refine bX11_copy_0 (d' := 1) hr (by omega) ?_
  refine t_X11_isPlan (Nat.le_refl _) ?_ ?_ ?_
  · intro p1
    refine bX11_copy_9  (fun _ => ?_) (fun c => absurd c (by decide))
    exact bX11_copy_24  (K0 p1)
  · intro p2 p3
    refine bX11_copy_9  (fun _ => ?_) (fun c => absurd c (by decide))
    exact bX11_copy_24  (K1 p2 p3)
  · intro p4 p5
    refine bX11_copy_9  (fun c => absurd c (by decide)) (fun _ => ?_)
    refine bX11_copy_12 (d' := 0)  (by omega) ?_
    refine t_X11_within  ?_ ?_ ?_
    · intro p6
      refine bX11_copy_21  (fun c => absurd c (by decide)) (fun _ => ?_)
      exact bX11_copy_24  (K2 p4 p5 p6)
    · intro p7 p8
      refine bX11_copy_21  (fun c => absurd c (by decide)) (fun _ => ?_)
      exact bX11_copy_24  (K3 p4 p5 p7 p8)
    · intro p9 p10
      refine bX11_copy_21  (fun _ => ?_) (fun c => absurd c (by decide))
      refine bX11_copy_27 hr (G0 p4 p5 p9 p10) (fun p11 => ?_) (fun p11 => ?_)
      · exact bX11_copy_40 hr hd1' (K4 p4 p5 p9 p10 p11)
      · exact bX11_copy_37  (K5 p4 p5 p9 p10 p11)

set_option maxRecDepth 20000 in
theorem t_X11_copy_45 {d  : Nat} {Q : Option MV → MH → Prop} {h : MH} {v1 v2 : Int32} (hr : zRf h) (G0 : vp_in v2 4) (K0 : (h.1 111 32) ≤ (h.1 141 v2.toNatClampNeg) → J mX11_copy d 0 0 Q 0 0 63 [some (.inr (.inr 111)), some (.inl v1), some (.inl v2), some (.inl (nI 0))] [] h) (K1 : ¬ (h.1 111 32) ≤ (h.1 141 v2.toNatClampNeg) → Q (some (.inl (-(nI 7)))) h) : J mX11_copy d 0 0 Q 0 0 45 [some (.inr (.inr 111)), some (.inl v1), some (.inl v2), none] [] h := by
  refine bX11_copy_45 hr (G0) (fun p1 => ?_) (fun p1 => ?_)
  · refine bX11_copy_61  ?_
    exact K0 p1
  · exact bX11_copy_58  (K1 p1)

set_option maxRecDepth 20000 in
theorem t_X11_copy_63 {d  : Nat} {Q : Option MV → MH → Prop} {h : MH} {v1 v2 v3 : Int32} (hr : zRf h) (hd : 1 ≤ d) (G0 : ¬ (h.1 111 32) ≤ v3 → vp_in v3 40) (G1 : ¬ (h.1 111 32) ≤ v3 → vp_in v2 4) (G2 : ¬ (h.1 111 32) ≤ v3 → ¬ (h.1 140 v2.toNatClampNeg) = 0 → ¬ (h.1 140 v2.toNatClampNeg) = (nI 1) → ¬ (h.1 140 v2.toNatClampNeg) = (nI 2) → zokA h 142 21 (((nI 40) * v2) + v3)) (G3 : ¬ (h.1 111 32) ≤ v3 → ¬ (h.1 140 v2.toNatClampNeg) = 0 → ¬ (h.1 140 v2.toNatClampNeg) = (nI 1) → (h.1 140 v2.toNatClampNeg) = (nI 2) → zokA h 142 21 (((nI 40) * v2) + v3)) (G4 : ¬ (h.1 111 32) ≤ v3 → ¬ (h.1 140 v2.toNatClampNeg) = 0 → (h.1 140 v2.toNatClampNeg) = (nI 1) → zokA h 142 21 (((nI 40) * v2) + v3)) (G5 : ¬ (h.1 111 32) ≤ v3 → (h.1 140 v2.toNatClampNeg) = 0 → zokA h 142 21 (((nI 40) * v2) + v3)) (K0 : (h.1 111 32) ≤ v3 → Q (some (.inl (h.1 111 32))) h) (K1 : ¬ (h.1 111 32) ≤ v3 → ¬ (h.1 140 v2.toNatClampNeg) = 0 → ¬ (h.1 140 v2.toNatClampNeg) = (nI 1) → ¬ (h.1 140 v2.toNatClampNeg) = (nI 2) → J mX11_copy d 0 0 Q 0 0 63 [some (.inr (.inr 111)), some (.inl v1), some (.inl v2), some (.inl (v3 + nI 1))] [] (zsL h 142 (((nI 40) * v2) + v3).toNatClampNeg ((h.1 126 v3.toNatClampNeg).toInt64))) (K2 : ¬ (h.1 111 32) ≤ v3 → ¬ (h.1 140 v2.toNatClampNeg) = 0 → ¬ (h.1 140 v2.toNatClampNeg) = (nI 1) → (h.1 140 v2.toNatClampNeg) = (nI 2) → J mX11_copy d 0 0 Q 0 0 63 [some (.inr (.inr 111)), some (.inl v1), some (.inl v2), some (.inl (v3 + nI 1))] [] (zsL h 142 (((nI 40) * v2) + v3).toNatClampNeg (((h.1 126 v3.toNatClampNeg).toInt64).toInt32.toInt64))) (K3 : ¬ (h.1 111 32) ≤ v3 → ¬ (h.1 140 v2.toNatClampNeg) = 0 → (h.1 140 v2.toNatClampNeg) = (nI 1) → J mX11_copy d 0 0 Q 0 0 63 [some (.inr (.inr 111)), some (.inl v1), some (.inl v2), some (.inl (v3 + nI 1))] [] (zsL h 142 (((nI 40) * v2) + v3).toNatClampNeg (((h.1 126 v3.toNatClampNeg).toInt64).toInt32.toInt16.toInt32.toInt64))) (K4 : ¬ (h.1 111 32) ≤ v3 → (h.1 140 v2.toNatClampNeg) = 0 → J mX11_copy d 0 0 Q 0 0 63 [some (.inr (.inr 111)), some (.inl v1), some (.inl v2), some (.inl (v3 + nI 1))] [] (zsL h 142 (((nI 40) * v2) + v3).toNatClampNeg (((h.1 126 v3.toNatClampNeg).toInt64).toInt32.toInt8.toInt32.toInt64))) : J mX11_copy d 0 0 Q 0 0 63 [some (.inr (.inr 111)), some (.inl v1), some (.inl v2), some (.inl v3)] [] h := by
  refine bX11_copy_63 hr (fun p1 => ?_) (fun p1 => ?_)
  · exact bX11_copy_104 hr (K0 p1)
  · refine bX11_copy_71 (d' := 0) hr (G0 p1) (G1 p1) (by omega) ?_
    refine t_X11_cut  ?_ ?_ ?_ ?_
    · intro p2 p3 p4
      refine bX11_copy_97 (G2 p1 p2 p3 p4) ?_
      exact K1 p1 p2 p3 p4
    · intro p5 p6 p7
      refine bX11_copy_97 (G3 p1 p5 p6 p7) ?_
      exact K2 p1 p5 p6 p7
    · intro p8 p9
      refine bX11_copy_97 (G4 p1 p8 p9) ?_
      exact K3 p1 p8 p9
    · intro p10
      refine bX11_copy_97 (G5 p1 p10) ?_
      exact K4 p1 p10

set_option maxRecDepth 20000 in
theorem t_X11_image {d  : Nat} {Q : Option MV → MH → Prop} {h : MH} {v1 : Int32} (hr : zRf h) (hd : 1 ≤ d) (K0 : ¬ (lN 0) ≤ v1.toInt64 → Q (some (.inl (-(nI 2)))) (zsI h 111 0 (nI 0))) (K1 : (lN 0) ≤ v1.toInt64 → ¬ v1.toInt64 ≤ (lN 1) → Q (some (.inl (-(nI 2)))) (zsI h 111 0 (nI 0))) (K2 : (lN 0) ≤ v1.toInt64 → v1.toInt64 ≤ (lN 1) → J mX11_image d 0 0 Q 0 0 20 [some (.inr (.inr 111)), some (.inl v1), some (.inl (nI 0))] [] (zsI h 111 0 (nI 0))) : Con mX11_image d 0 0 [.inr (.inr 111), .inl v1] h Q := by
  refine Con.intro rfl (Nat.le_of_ble_eq_true rfl) ?_
  show J mX11_image d 0 0 Q 0 0 0 [some (.inr (.inr 111)), some (.inl v1), none] [] h
  refine bX11_image_0 (d' := 0) hr (by omega) ?_
  refine t_X11_within  ?_ ?_ ?_
  · intro p1
    refine bX11_image_12  (fun c => absurd c (by decide)) (fun _ => ?_)
    exact bX11_image_15  (K0 p1)
  · intro p2 p3
    refine bX11_image_12  (fun c => absurd c (by decide)) (fun _ => ?_)
    exact bX11_image_15  (K1 p2 p3)
  · intro p4 p5
    refine bX11_image_12  (fun _ => ?_) (fun c => absurd c (by decide))
    refine bX11_image_18  ?_
    exact K2 p4 p5

set_option maxRecDepth 20000 in
theorem t_X11_image_20 {d  : Nat} {Q : Option MV → MH → Prop} {h : MH} {v1 v2 : Int32} (hr : zRf h) (G0 : (nI 722) ≤ v2 → vp_in v1 2) (G1 : ¬ (nI 722) ≤ v2 → vp_in v2 2166) (G2 : ¬ (nI 722) ≤ v2 → vp_in (((nI 722) * (v1 + (nI 1))) + v2) 2166) (K0 : (nI 722) ≤ v2 → Q (some (.inl (nI 0))) (zsI h 113 v1.toNatClampNeg (nI 1))) (K1 : ¬ (nI 722) ≤ v2 → J mX11_image d 0 0 Q 0 0 20 [some (.inr (.inr 111)), some (.inl v1), some (.inl (v2 + nI 1))] [] (zsI h 112 (((nI 722) * (v1 + (nI 1))) + v2).toNatClampNeg (h.1 112 v2.toNatClampNeg))) : J mX11_image d 0 0 Q 0 0 20 [some (.inr (.inr 111)), some (.inl v1), some (.inl v2)] [] h := by
  refine bX11_image_20  (fun p1 => ?_) (fun p1 => ?_)
  · exact bX11_image_53 hr (G0 p1) (K0 p1)
  · refine bX11_image_27 hr (G1 p1) (G2 p1) ?_
    exact K1 p1

set_option maxRecDepth 20000 in
theorem t_X11_restore {d  : Nat} {Q : Option MV → MH → Prop} {h : MH} {v1 : Int32} (hr : zRf h) (hd : 1 ≤ d) (G0 : (lN 0) ≤ v1.toInt64 → v1.toInt64 ≤ (lN 1) → vp_in v1 2) (K0 : ¬ (lN 0) ≤ v1.toInt64 → Q (some (.inl (-(nI 2)))) (zsI h 111 0 (nI 0))) (K1 : (lN 0) ≤ v1.toInt64 → ¬ v1.toInt64 ≤ (lN 1) → Q (some (.inl (-(nI 2)))) (zsI h 111 0 (nI 0))) (K2 : (lN 0) ≤ v1.toInt64 → v1.toInt64 ≤ (lN 1) → ¬ ((zsI h 111 0 (nI 0)).1 113 v1.toNatClampNeg) = 0 → J mX11_restore d 0 0 Q 0 0 32 [some (.inr (.inr 111)), some (.inl v1), some (.inl (nI 0))] [] (zsI h 111 0 (nI 0))) (K3 : (lN 0) ≤ v1.toInt64 → v1.toInt64 ≤ (lN 1) → ((zsI h 111 0 (nI 0)).1 113 v1.toNatClampNeg) = 0 → Q (some (.inl (-(nI 5)))) (zsI h 111 0 (nI 0))) : Con mX11_restore d 0 0 [.inr (.inr 111), .inl v1] h Q := by
  refine Con.intro rfl (Nat.le_of_ble_eq_true rfl) ?_
  show J mX11_restore d 0 0 Q 0 0 0 [some (.inr (.inr 111)), some (.inl v1), none] [] h
  refine bX11_restore_0 (d' := 0) hr (by omega) ?_
  refine t_X11_within  ?_ ?_ ?_
  · intro p1
    refine bX11_restore_12  (fun c => absurd c (by decide)) (fun _ => ?_)
    exact bX11_restore_15  (K0 p1)
  · intro p2 p3
    refine bX11_restore_12  (fun c => absurd c (by decide)) (fun _ => ?_)
    exact bX11_restore_15  (K1 p2 p3)
  · intro p4 p5
    refine bX11_restore_12  (fun _ => ?_) (fun c => absurd c (by decide))
    refine bX11_restore_18 hr (G0 p4 p5) (fun p6 => ?_) (fun p6 => ?_)
    · refine bX11_restore_30  ?_
      exact K2 p4 p5 p6
    · exact bX11_restore_27  (K3 p4 p5 p6)

set_option maxRecDepth 20000 in
theorem t_X11_restore_32 {d  : Nat} {Q : Option MV → MH → Prop} {h : MH} {v1 v2 : Int32} (hr : zRf h) (G0 : ¬ (nI 722) ≤ v2 → vp_in (((nI 722) * (v1 + (nI 1))) + v2) 2166) (G1 : ¬ (nI 722) ≤ v2 → vp_in v2 2166) (K0 : (nI 722) ≤ v2 → Q (some (.inl (nI 0))) h) (K1 : ¬ (nI 722) ≤ v2 → J mX11_restore d 0 0 Q 0 0 32 [some (.inr (.inr 111)), some (.inl v1), some (.inl (v2 + nI 1))] [] (zsI h 112 v2.toNatClampNeg (h.1 112 (((nI 722) * (v1 + (nI 1))) + v2).toNatClampNeg))) : J mX11_restore d 0 0 Q 0 0 32 [some (.inr (.inr 111)), some (.inl v1), some (.inl v2)] [] h := by
  refine bX11_restore_32  (fun p1 => ?_) (fun p1 => ?_)
  · exact bX11_restore_65  (K0 p1)
  · refine bX11_restore_39 hr (G0 p1) (G1 p1) ?_
    exact K1 p1

set_option maxRecDepth 20000 in
theorem t_X11_count {d  : Nat} {Q : Option MV → MH → Prop} {h : MH} {v1 : Int32} (hr : zRf h) (hd : 1 ≤ d) (G0 : (lN 1) ≤ v1.toInt64 → v1.toInt64 ≤ (4 : Int64) → zokA (zsI h 111 0 (nI 0)) 112 20 ((nI 74) + ((nI 162) * (v1 - (nI 1))))) (K0 : ¬ (lN 1) ≤ v1.toInt64 → J mX11_count d 0 0 Q 0 0 36 [some (.inr (.inr 111)), some (.inl v1), some (.inl (nI 0)), some (.inl (nI 0))] [] (zsI h 111 0 (nI 0))) (K1 : (lN 1) ≤ v1.toInt64 → ¬ v1.toInt64 ≤ (4 : Int64) → J mX11_count d 0 0 Q 0 0 36 [some (.inr (.inr 111)), some (.inl v1), some (.inl (nI 0)), some (.inl (nI 0))] [] (zsI h 111 0 (nI 0))) (K2 : (lN 1) ≤ v1.toInt64 → v1.toInt64 ≤ (4 : Int64) → Q (some (.inl ((zsI h 111 0 (nI 0)).1 112 ((nI 74) + ((nI 162) * (v1 - (nI 1)))).toNatClampNeg))) (zsI h 111 0 (nI 0))) : Con mX11_count d 0 0 [.inr (.inr 111), .inl v1] h Q := by
  refine Con.intro rfl (Nat.le_of_ble_eq_true rfl) ?_
  show J mX11_count d 0 0 Q 0 0 0 [some (.inr (.inr 111)), some (.inl v1), none, none] [] h
  refine bX11_count_0 (d' := 0) hr (by omega) ?_
  refine t_X11_within  ?_ ?_ ?_
  · intro p1
    refine bX11_count_14  (fun _ => ?_) (fun c => absurd c (by decide))
    refine bX11_count_32  ?_
    exact K0 p1
  · intro p2 p3
    refine bX11_count_14  (fun _ => ?_) (fun c => absurd c (by decide))
    refine bX11_count_32  ?_
    exact K1 p2 p3
  · intro p4 p5
    refine bX11_count_14  (fun c => absurd c (by decide)) (fun _ => ?_)
    refine bX11_count_17 (d' := 0) hr (by omega) ?_
    refine t_X11_planAt  ?_
    · exact bX11_count_29 (G0 p4 p5) (K2 p4 p5)

set_option maxRecDepth 20000 in
theorem t_X11_count_36 {d  : Nat} {Q : Option MV → MH → Prop} {h : MH} {v1 v2 v3 : Int32} (hr : zRf h) (G0 : ¬ (h.1 112 0) ≤ v3 → vp_in ((nI 57) + v3) 2166) (K0 : (h.1 112 0) ≤ v3 → J mX11_count d 0 0 Q 0 0 65 [some (.inr (.inr 111)), some (.inl v1), some (.inl v2), some (.inl v3)] [.inl v1] h) (K1 : ¬ (h.1 112 0) ≤ v3 → J mX11_count d 0 0 Q 0 0 36 [some (.inr (.inr 111)), some (.inl v1), some (.inl (v2 + (h.1 112 ((nI 57) + v3).toNatClampNeg))), some (.inl (v3 + nI 1))] [] h) : J mX11_count d 0 0 Q 0 0 36 [some (.inr (.inr 111)), some (.inl v1), some (.inl v2), some (.inl v3)] [] h := by
  refine bX11_count_36 hr (vp_in_nI (by decide) (by decide)) (fun p1 => ?_) (fun p1 => ?_)
  · refine bX11_count_64  ?_
    exact K0 p1
  · refine bX11_count_46 hr (G0 p1) ?_
    exact K1 p1

set_option maxRecDepth 20000 in
theorem t_X11_count_112 {d  : Nat} {Q : Option MV → MH → Prop} {h : MH} {v1 v2 v3 : Int32} (hr : zRf h) (K0 : Q (some (.inl (h.1 112 0))) h) : J mX11_count d 0 0 Q 0 0 112 [some (.inr (.inr 111)), some (.inl v1), some (.inl v2), some (.inl v3)] [] h := by
  exact bX11_count_112 hr (vp_in_nI (by decide) (by decide)) (K0)

set_option maxRecDepth 20000 in
theorem t_X11_count_119 {d  : Nat} {Q : Option MV → MH → Prop} {h : MH} {v1 v2 v3 : Int32} (hr : zRf h) (K0 : Q (some (.inl (h.1 111 5))) h) : J mX11_count d 0 0 Q 0 0 119 [some (.inr (.inr 111)), some (.inl v1), some (.inl v2), some (.inl v3)] [] h := by
  exact bX11_count_119 hr (K0)

set_option maxRecDepth 20000 in
theorem t_X11_count_124 {d  : Nat} {Q : Option MV → MH → Prop} {h : MH} {v1 v2 v3 : Int32} (hr : zRf h) (K0 : Q (some (.inl (h.1 112 73))) h) : J mX11_count d 0 0 Q 0 0 124 [some (.inr (.inr 111)), some (.inl v1), some (.inl v2), some (.inl v3)] [] h := by
  exact bX11_count_124 hr (vp_in_nI (by decide) (by decide)) (K0)

set_option maxRecDepth 20000 in
theorem t_X11_count_132 {d  : Nat} {Q : Option MV → MH → Prop} {h : MH} {v1 v2 v3 : Int32} (K0 : Q (some (.inl v2)) h) : J mX11_count d 0 0 Q 0 0 132 [some (.inr (.inr 111)), some (.inl v1), some (.inl v2), some (.inl v3)] [] h := by
  exact bX11_count_132  (K0)

set_option maxRecDepth 20000 in
theorem t_X11_count_134 {d  : Nat} {Q : Option MV → MH → Prop} {h : MH} {v1 v2 v3 : Int32} (K0 : Q (some (.inl (-(nI 1)))) h) : J mX11_count d 0 0 Q 0 0 134 [some (.inr (.inr 111)), some (.inl v1), some (.inl v2), some (.inl v3)] [] h := by
  exact bX11_count_134  (K0)
