theorem bX11_within_0 {d : Nat} {Q : Option MV → MH → Prop} {h : MH} {u1 u3 u4 u5 : Option MV} {v0 v2 : Int64} (k1 : (lg_cmp v0 v2) < 0 → J mX11_within d 0 0 Q 0 0 17 [some (.inr (.inl v0)), u1, some (.inr (.inl v2)), u3, u4, u5] [] h) (k2 : ¬ (lg_cmp v0 v2) < 0 → J mX11_within d 0 0 Q 0 0 6 [some (.inr (.inl v0)), u1, some (.inr (.inl v2)), u3, u4, u5] [] h) : J mX11_within d 0 0 Q 0 0 0 [some (.inr (.inl v0)), u1, some (.inr (.inl v2)), u3, u4, u5] [] h := by
  refine zrun 0 4 qX11_within (o := 11) rfl ?_
  show (((lg_cmp v0 v2) < 0 → J mX11_within d 0 0 Q 0 0 17 [some (.inr (.inl v0)), u1, some (.inr (.inl v2)), u3, u4, u5] [] h) ∧ (¬ (lg_cmp v0 v2) < 0 → J mX11_within d 0 0 Q 0 0 6 [some (.inr (.inl v0)), u1, some (.inr (.inl v2)), u3, u4, u5] [] h))
  exact ⟨k1, k2⟩

theorem bX11_within_6 {d : Nat} {Q : Option MV → MH → Prop} {h : MH} {u1 u2 u3 u5 : Option MV} {v0 v4 : Int64} (k1 : 0 < (lg_cmp v0 v4) → J mX11_within d 0 0 Q 0 0 17 [some (.inr (.inl v0)), u1, u2, u3, some (.inr (.inl v4)), u5] [] h) (k2 : ¬ 0 < (lg_cmp v0 v4) → J mX11_within d 0 0 Q 0 0 13 [some (.inr (.inl v0)), u1, u2, u3, some (.inr (.inl v4)), u5] [] h) : J mX11_within d 0 0 Q 0 0 6 [some (.inr (.inl v0)), u1, u2, u3, some (.inr (.inl v4)), u5] [] h := by
  refine zrun 4 4 qX11_within (o := 11) rfl ?_
  show ((0 < (lg_cmp v0 v4) → J mX11_within d 0 0 Q 0 0 17 [some (.inr (.inl v0)), u1, u2, u3, some (.inr (.inl v4)), u5] [] h) ∧ (¬ 0 < (lg_cmp v0 v4) → J mX11_within d 0 0 Q 0 0 13 [some (.inr (.inl v0)), u1, u2, u3, some (.inr (.inl v4)), u5] [] h))
  exact ⟨k1, k2⟩

theorem bX11_within_13 {d : Nat} {Q : Option MV → MH → Prop} {h : MH} {u0 u1 u2 u3 u4 u5 : Option MV} (k : J mX11_within d 0 0 Q 0 0 18 [u0, u1, u2, u3, u4, u5] [.inl (nI 1)] h) : J mX11_within d 0 0 Q 0 0 13 [u0, u1, u2, u3, u4, u5] [] h := by
  refine zrun 8 2 qX11_within (o := 11) rfl ?_
  show J mX11_within d 0 0 Q 0 0 18 [u0, u1, u2, u3, u4, u5] [.inl (nI 1)] h
  exact k

theorem bX11_within_17 {d : Nat} {Q : Option MV → MH → Prop} {h : MH} {u0 u1 u2 u3 u4 u5 : Option MV} (k : J mX11_within d 0 0 Q 0 0 18 [u0, u1, u2, u3, u4, u5] [.inl (nI 0)] h) : J mX11_within d 0 0 Q 0 0 17 [u0, u1, u2, u3, u4, u5] [] h := by
  refine zrun 10 1 qX11_within (o := 11) rfl ?_
  show J mX11_within d 0 0 Q 0 0 18 [u0, u1, u2, u3, u4, u5] [.inl (nI 0)] h
  exact k

theorem bX11_within_18 {d : Nat} {Q : Option MV → MH → Prop} {h : MH} {u0 u1 u2 u3 u4 u5 : Option MV} {vs0 : Int32} (gn : vs0 = 0 ∨ vs0 = 1) (k : Q (some (.inl vs0)) h) : J mX11_within d 0 0 Q 0 0 18 [u0, u1, u2, u3, u4, u5] [.inl vs0] h := by
  exact J_iret (ty := .boolean) (zat qX11_within 11 (by rfl)) rfl (znz gn) (Nat.le_refl 0) (Nat.le_refl 0) k

theorem bX11_init_4 {d mc ms cs ss : Nat} {Q : Option MV → MH → Prop} {h : MH} (hc : cs ≤ mc ∧ ss ≤ ms) (k : J mX11_init d mc ms Q cs ss 8 [some (.inr (.inr 111))] [.inl (nI 2166), .inr (.inr 111)] h) : J mX11_init d mc ms Q cs ss 4 [some (.inr (.inr 111))] [] h := by
  refine zrun 2 2 qX11_init (o := 11) rfl ?_
  show J mX11_init d mc ms Q cs ss 8 [some (.inr (.inr 111))] [.inl (nI 2166), .inr (.inr 111)] h
  exact k

theorem bX11_planAt_0 {d : Nat} {Q : Option MV → MH → Prop} {h : MH} {v0 : Int32} (k : Q (some (.inl ((nI 162) * v0))) h) : J mX11_planAt d 0 0 Q 0 0 0 [some (.inl v0)] [] h := by
  refine zrun 0 3 qX11_planAt (o := 11) rfl ?_
  show J mX11_planAt d 0 0 Q 0 0 5 [some (.inl v0)] [.inl ((nI 162) * v0)] h
  exact J_iret (ty := .int) (zat qX11_planAt 3 (by rfl)) rfl rfl (Nat.le_refl 0) (Nat.le_refl 0) k

theorem bX11_feed_0 {d : Nat} {Q : Option MV → MH → Prop} {h : MH} {u1 u2 u3 u4 u5 u6 u7 : Option MV} (hr : zRf h) (k1 : (((zsI h 111 0 (nI 0)).1 111 5) + (nI 20)) ≤ (nI 400) → J mX11_feed d 0 0 Q 0 0 21 [some (.inr (.inr 111)), u1, u2, u3, u4, u5, u6, u7] [] (zsI h 111 0 (nI 0))) (k2 : ¬ (((zsI h 111 0 (nI 0)).1 111 5) + (nI 20)) ≤ (nI 400) → J mX11_feed d 0 0 Q 0 0 18 [some (.inr (.inr 111)), u1, u2, u3, u4, u5, u6, u7] [] (zsI h 111 0 (nI 0))) : J mX11_feed d 0 0 Q 0 0 0 [some (.inr (.inr 111)), u1, u2, u3, u4, u5, u6, u7] [] h := by
  refine zrun 0 9 qX11_feed (o := 11) rfl ?_
  show zokO h 111 11 ∧ zokO (zsI h 111 0 (nI 0)) 111 11 ∧ (((((zsI h 111 0 (nI 0)).1 111 5) + (nI 20)) ≤ (nI 400) → J mX11_feed d 0 0 Q 0 0 21 [some (.inr (.inr 111)), u1, u2, u3, u4, u5, u6, u7] [] (zsI h 111 0 (nI 0))) ∧ (¬ (((zsI h 111 0 (nI 0)).1 111 5) + (nI 20)) ≤ (nI 400) → J mX11_feed d 0 0 Q 0 0 18 [some (.inr (.inr 111)), u1, u2, u3, u4, u5, u6, u7] [] (zsI h 111 0 (nI 0))))
  exact ⟨(zo hr (by decide) rfl), (zo hr (by decide) rfl), k1, k2⟩

theorem bX11_feed_18 {d : Nat} {Q : Option MV → MH → Prop} {h : MH} {u0 u1 u2 u3 u4 u5 u6 u7 : Option MV} (k : Q (some (.inl (-(nI 5)))) h) : J mX11_feed d 0 0 Q 0 0 18 [u0, u1, u2, u3, u4, u5, u6, u7] [] h := by
  refine zrun 9 1 qX11_feed (o := 11) rfl ?_
  show J mX11_feed d 0 0 Q 0 0 20 [u0, u1, u2, u3, u4, u5, u6, u7] [.inl (-(nI 5))] h
  exact J_iret (ty := .int) (zat qX11_feed 10 (by rfl)) rfl rfl (Nat.le_refl 0) (Nat.le_refl 0) k

theorem bX11_feed_21 {d : Nat} {Q : Option MV → MH → Prop} {h : MH} {u0 u1 u2 u3 u4 u6 u7 : Option MV} {v5 : Int32} (k : J mX11_feed d 0 0 Q 0 0 24 [u0, u1, u2, u3, u4, some (.inl v5), some (.inl (nI 0)), u7] [] h) : J mX11_feed d 0 0 Q 0 0 21 [u0, u1, u2, u3, u4, some (.inl v5), u6, u7] [] h := by
  refine zrun 11 2 qX11_feed (o := 11) rfl ?_
  show J mX11_feed d 0 0 Q 0 0 24 [u0, u1, u2, u3, u4, some (.inl v5), some (.inl (nI 0)), u7] [] h
  exact k

theorem bX11_feed_24 {d : Nat} {Q : Option MV → MH → Prop} {h : MH} {u0 u1 u2 u3 u4 u5 u7 : Option MV} {v6 : Int32} (k1 : (nI 20) ≤ v6 → J mX11_feed d 0 0 Q 0 0 121 [u0, u1, u2, u3, u4, u5, some (.inl v6), u7] [] h) (k2 : ¬ (nI 20) ≤ v6 → J mX11_feed d 0 0 Q 0 0 31 [u0, u1, u2, u3, u4, u5, some (.inl v6), u7] [] h) : J mX11_feed d 0 0 Q 0 0 24 [u0, u1, u2, u3, u4, u5, some (.inl v6), u7] [] h := by
  refine zrun 13 3 qX11_feed (o := 11) rfl ?_
  show (((nI 20) ≤ v6 → J mX11_feed d 0 0 Q 0 0 121 [u0, u1, u2, u3, u4, u5, some (.inl v6), u7] [] h) ∧ (¬ (nI 20) ≤ v6 → J mX11_feed d 0 0 Q 0 0 31 [u0, u1, u2, u3, u4, u5, some (.inl v6), u7] [] h))
  exact ⟨k1, k2⟩

theorem bX11_feed_31 {d : Nat} {Q : Option MV → MH → Prop} {h : MH} {u0 u1 u2 u3 u4 u5 u7 : Option MV} {v6 : Int32} (k1 : (nI 4) ≤ v6 → J mX11_feed d 0 0 Q 0 0 41 [u0, u1, u2, u3, u4, u5, some (.inl v6), u7] [] h) (k2 : ¬ (nI 4) ≤ v6 → J mX11_feed d 0 0 Q 0 0 37 [u0, u1, u2, u3, u4, u5, some (.inl v6), u7] [] h) : J mX11_feed d 0 0 Q 0 0 31 [u0, u1, u2, u3, u4, u5, some (.inl v6), u7] [] h := by
  refine zrun 16 3 qX11_feed (o := 11) rfl ?_
  show (((nI 4) ≤ v6 → J mX11_feed d 0 0 Q 0 0 41 [u0, u1, u2, u3, u4, u5, some (.inl v6), u7] [] h) ∧ (¬ (nI 4) ≤ v6 → J mX11_feed d 0 0 Q 0 0 37 [u0, u1, u2, u3, u4, u5, some (.inl v6), u7] [] h))
  exact ⟨k1, k2⟩

theorem bX11_feed_37 {d : Nat} {Q : Option MV → MH → Prop} {h : MH} {u0 u2 u3 u4 u5 u6 u7 : Option MV} {v1 : Int32} (k : J mX11_feed d 0 0 Q 0 0 77 [u0, some (.inl v1), u2, u3, u4, u5, u6, u7] [.inl v1] h) : J mX11_feed d 0 0 Q 0 0 37 [u0, some (.inl v1), u2, u3, u4, u5, u6, u7] [] h := by
  refine zrun 19 2 qX11_feed (o := 11) rfl ?_
  show J mX11_feed d 0 0 Q 0 0 77 [u0, some (.inl v1), u2, u3, u4, u5, u6, u7] [.inl v1] h
  exact k

theorem bX11_feed_41 {d : Nat} {Q : Option MV → MH → Prop} {h : MH} {u0 u1 u2 u3 u4 u5 u7 : Option MV} {v6 : Int32} (k1 : (nI 8) ≤ v6 → J mX11_feed d 0 0 Q 0 0 52 [u0, u1, u2, u3, u4, u5, some (.inl v6), u7] [] h) (k2 : ¬ (nI 8) ≤ v6 → J mX11_feed d 0 0 Q 0 0 48 [u0, u1, u2, u3, u4, u5, some (.inl v6), u7] [] h) : J mX11_feed d 0 0 Q 0 0 41 [u0, u1, u2, u3, u4, u5, some (.inl v6), u7] [] h := by
  refine zrun 21 3 qX11_feed (o := 11) rfl ?_
  show (((nI 8) ≤ v6 → J mX11_feed d 0 0 Q 0 0 52 [u0, u1, u2, u3, u4, u5, some (.inl v6), u7] [] h) ∧ (¬ (nI 8) ≤ v6 → J mX11_feed d 0 0 Q 0 0 48 [u0, u1, u2, u3, u4, u5, some (.inl v6), u7] [] h))
  exact ⟨k1, k2⟩

theorem bX11_feed_48 {d : Nat} {Q : Option MV → MH → Prop} {h : MH} {u0 u1 u3 u4 u5 u6 u7 : Option MV} {v2 : Int32} (k : J mX11_feed d 0 0 Q 0 0 77 [u0, u1, some (.inl v2), u3, u4, u5, u6, u7] [.inl v2] h) : J mX11_feed d 0 0 Q 0 0 48 [u0, u1, some (.inl v2), u3, u4, u5, u6, u7] [] h := by
  refine zrun 24 2 qX11_feed (o := 11) rfl ?_
  show J mX11_feed d 0 0 Q 0 0 77 [u0, u1, some (.inl v2), u3, u4, u5, u6, u7] [.inl v2] h
  exact k

theorem bX11_feed_52 {d : Nat} {Q : Option MV → MH → Prop} {h : MH} {u0 u1 u2 u3 u4 u5 u7 : Option MV} {v6 : Int32} (k1 : (nI 12) ≤ v6 → J mX11_feed d 0 0 Q 0 0 63 [u0, u1, u2, u3, u4, u5, some (.inl v6), u7] [] h) (k2 : ¬ (nI 12) ≤ v6 → J mX11_feed d 0 0 Q 0 0 59 [u0, u1, u2, u3, u4, u5, some (.inl v6), u7] [] h) : J mX11_feed d 0 0 Q 0 0 52 [u0, u1, u2, u3, u4, u5, some (.inl v6), u7] [] h := by
  refine zrun 26 3 qX11_feed (o := 11) rfl ?_
  show (((nI 12) ≤ v6 → J mX11_feed d 0 0 Q 0 0 63 [u0, u1, u2, u3, u4, u5, some (.inl v6), u7] [] h) ∧ (¬ (nI 12) ≤ v6 → J mX11_feed d 0 0 Q 0 0 59 [u0, u1, u2, u3, u4, u5, some (.inl v6), u7] [] h))
  exact ⟨k1, k2⟩

theorem bX11_feed_59 {d : Nat} {Q : Option MV → MH → Prop} {h : MH} {u0 u1 u2 u4 u5 u6 u7 : Option MV} {v3 : Int32} (k : J mX11_feed d 0 0 Q 0 0 77 [u0, u1, u2, some (.inl v3), u4, u5, u6, u7] [.inl v3] h) : J mX11_feed d 0 0 Q 0 0 59 [u0, u1, u2, some (.inl v3), u4, u5, u6, u7] [] h := by
  refine zrun 29 2 qX11_feed (o := 11) rfl ?_
  show J mX11_feed d 0 0 Q 0 0 77 [u0, u1, u2, some (.inl v3), u4, u5, u6, u7] [.inl v3] h
  exact k

theorem bX11_feed_63 {d : Nat} {Q : Option MV → MH → Prop} {h : MH} {u0 u1 u2 u3 u4 u5 u7 : Option MV} {v6 : Int32} (k1 : (nI 16) ≤ v6 → J mX11_feed d 0 0 Q 0 0 75 [u0, u1, u2, u3, u4, u5, some (.inl v6), u7] [] h) (k2 : ¬ (nI 16) ≤ v6 → J mX11_feed d 0 0 Q 0 0 70 [u0, u1, u2, u3, u4, u5, some (.inl v6), u7] [] h) : J mX11_feed d 0 0 Q 0 0 63 [u0, u1, u2, u3, u4, u5, some (.inl v6), u7] [] h := by
  refine zrun 31 3 qX11_feed (o := 11) rfl ?_
  show (((nI 16) ≤ v6 → J mX11_feed d 0 0 Q 0 0 75 [u0, u1, u2, u3, u4, u5, some (.inl v6), u7] [] h) ∧ (¬ (nI 16) ≤ v6 → J mX11_feed d 0 0 Q 0 0 70 [u0, u1, u2, u3, u4, u5, some (.inl v6), u7] [] h))
  exact ⟨k1, k2⟩

theorem bX11_feed_70 {d : Nat} {Q : Option MV → MH → Prop} {h : MH} {u0 u1 u2 u3 u5 u6 u7 : Option MV} {v4 : Int32} (k : J mX11_feed d 0 0 Q 0 0 77 [u0, u1, u2, u3, some (.inl v4), u5, u6, u7] [.inl v4] h) : J mX11_feed d 0 0 Q 0 0 70 [u0, u1, u2, u3, some (.inl v4), u5, u6, u7] [] h := by
  refine zrun 34 2 qX11_feed (o := 11) rfl ?_
  show J mX11_feed d 0 0 Q 0 0 77 [u0, u1, u2, u3, some (.inl v4), u5, u6, u7] [.inl v4] h
  exact k

theorem bX11_feed_75 {d : Nat} {Q : Option MV → MH → Prop} {h : MH} {u0 u1 u2 u3 u4 u6 u7 : Option MV} {v5 : Int32} (k : J mX11_feed d 0 0 Q 0 0 77 [u0, u1, u2, u3, u4, some (.inl v5), u6, u7] [.inl v5] h) : J mX11_feed d 0 0 Q 0 0 75 [u0, u1, u2, u3, u4, some (.inl v5), u6, u7] [] h := by
  refine zrun 36 1 qX11_feed (o := 11) rfl ?_
  show J mX11_feed d 0 0 Q 0 0 77 [u0, u1, u2, u3, u4, some (.inl v5), u6, u7] [.inl v5] h
  exact k

theorem bX11_feed_77 {d : Nat} {Q : Option MV → MH → Prop} {h : MH} {u1 u2 u3 u4 u7 : Option MV} {vs0 v6 v5 : Int32} (hr : zRf h) (g0 : vp_in (h.1 111 5) 400) (k : J mX11_feed d 0 0 Q 0 0 24 [some (.inr (.inr 111)), u1, u2, u3, u4, some (.inl v5), some (.inl (v6 + nI 1)), some (.inl vs0)] [] (zsI (zsI h 114 (h.1 111 5).toNatClampNeg ((vs0 >>> (((nI 24) - ((nI 8) * (v6 - v6 / (nI 4) * (nI 4)))) &&& 31)) &&& (nI 255))) 111 5 (((zsI h 114 (h.1 111 5).toNatClampNeg ((vs0 >>> (((nI 24) - ((nI 8) * (v6 - v6 / (nI 4) * (nI 4)))) &&& 31)) &&& (nI 255))).1 111 5) + (nI 1)))) : J mX11_feed d 0 0 Q 0 0 77 [some (.inr (.inr 111)), u1, u2, u3, u4, some (.inl v5), some (.inl v6), u7] [.inl vs0] h := by
  refine zrun 37 25 qX11_feed (o := 11) rfl ?_
  show zokO h 111 11 ∧ zokO h 111 11 ∧ ¬ (nI 4) = 0 ∧ zokA h (h.2.2.1 111 3) 20 (h.1 111 5) ∧ zokO (zsI h (h.2.2.1 111 3) (h.1 111 5).toNatClampNeg ((vs0 >>> (((nI 24) - ((nI 8) * (v6 - v6 / (nI 4) * (nI 4)))) &&& 31)) &&& (nI 255))) 111 11 ∧ zokO (zsI h (h.2.2.1 111 3) (h.1 111 5).toNatClampNeg ((vs0 >>> (((nI 24) - ((nI 8) * (v6 - v6 / (nI 4) * (nI 4)))) &&& 31)) &&& (nI 255))) 111 11 ∧ J mX11_feed d 0 0 Q 0 0 24 [some (.inr (.inr 111)), u1, u2, u3, u4, some (.inl v5), some (.inl (v6 + nI 1)), some (.inl vs0)] [] (zsI (zsI h (h.2.2.1 111 3) (h.1 111 5).toNatClampNeg ((vs0 >>> (((nI 24) - ((nI 8) * (v6 - v6 / (nI 4) * (nI 4)))) &&& 31)) &&& (nI 255))) 111 5 (((zsI h (h.2.2.1 111 3) (h.1 111 5).toNatClampNeg ((vs0 >>> (((nI 24) - ((nI 8) * (v6 - v6 / (nI 4) * (nI 4)))) &&& 31)) &&& (nI 255))).1 111 5) + (nI 1)))
  rw [(show h.2.2.1 111 3 = 114 from (hr.at (by decide) (by decide) (by rfl)))]
  exact ⟨(zo hr (by decide) rfl), (zo hr (by decide) rfl), (by decide), (zia hr (by decide) (by rfl) g0), (zo hr (by decide) rfl), (zo hr (by decide) rfl), k⟩

theorem bX11_feed_121 {d : Nat} {Q : Option MV → MH → Prop} {h : MH} {u1 u2 u3 u4 u5 u6 u7 : Option MV} (hr : zRf h) (k : Q (some (.inl (h.1 111 5))) h) : J mX11_feed d 0 0 Q 0 0 121 [some (.inr (.inr 111)), u1, u2, u3, u4, u5, u6, u7] [] h := by
  refine zrun 62 2 qX11_feed (o := 11) rfl ?_
  show zokO h 111 11 ∧ J mX11_feed d 0 0 Q 0 0 125 [some (.inr (.inr 111)), u1, u2, u3, u4, u5, u6, u7] [.inl (h.1 111 5)] h
  exact ⟨(zo hr (by decide) rfl), J_iret (ty := .int) (zat qX11_feed 64 (by rfl)) rfl rfl (Nat.le_refl 0) (Nat.le_refl 0) k⟩

theorem bX11_see_0 {d : Nat} {Q : Option MV → MH → Prop} {h : MH} {v1 : Int32} (hr : zRf h) (k1 : (h.1 111 8) ≤ v1 → J mX11_see d 0 0 Q 0 0 17 [some (.inr (.inr 111)), some (.inl v1)] [] h) (k2 : ¬ (h.1 111 8) ≤ v1 → J mX11_see d 0 0 Q 0 0 8 [some (.inr (.inr 111)), some (.inl v1)] [] h) : J mX11_see d 0 0 Q 0 0 0 [some (.inr (.inr 111)), some (.inl v1)] [] h := by
  refine zrun 0 4 qX11_see (o := 11) rfl ?_
  show zokO h 111 11 ∧ (((h.1 111 8) ≤ v1 → J mX11_see d 0 0 Q 0 0 17 [some (.inr (.inr 111)), some (.inl v1)] [] h) ∧ (¬ (h.1 111 8) ≤ v1 → J mX11_see d 0 0 Q 0 0 8 [some (.inr (.inr 111)), some (.inl v1)] [] h))
  exact ⟨(zo hr (by decide) rfl), k1, k2⟩

theorem bX11_see_8 {d : Nat} {Q : Option MV → MH → Prop} {h : MH} {v1 : Int32} (hr : zRf h) (g0 : vp_in v1 400) (k : J mX11_see d 0 0 Q 0 0 18 [some (.inr (.inr 111)), some (.inl v1)] [.inl (h.1 114 v1.toNatClampNeg)] h) : J mX11_see d 0 0 Q 0 0 8 [some (.inr (.inr 111)), some (.inl v1)] [] h := by
  refine zrun 4 5 qX11_see (o := 11) rfl ?_
  show zokO h 111 11 ∧ zokA h (h.2.2.1 111 3) 20 v1 ∧ J mX11_see d 0 0 Q 0 0 18 [some (.inr (.inr 111)), some (.inl v1)] [.inl (h.1 (h.2.2.1 111 3) v1.toNatClampNeg)] h
  rw [(show h.2.2.1 111 3 = 114 from (hr.at (by decide) (by decide) (by rfl)))]
  exact ⟨(zo hr (by decide) rfl), (zia hr (by decide) (by rfl) g0), k⟩

theorem bX11_see_17 {d : Nat} {Q : Option MV → MH → Prop} {h : MH} {u0 u1 : Option MV} (k : J mX11_see d 0 0 Q 0 0 18 [u0, u1] [.inl (-(nI 1))] h) : J mX11_see d 0 0 Q 0 0 17 [u0, u1] [] h := by
  refine zrun 9 1 qX11_see (o := 11) rfl ?_
  show J mX11_see d 0 0 Q 0 0 18 [u0, u1] [.inl (-(nI 1))] h
  exact k

theorem bX11_see_18 {d : Nat} {Q : Option MV → MH → Prop} {h : MH} {u0 u1 : Option MV} {vs0 : Int32} (k : Q (some (.inl vs0)) h) : J mX11_see d 0 0 Q 0 0 18 [u0, u1] [.inl vs0] h := by
  exact J_iret (ty := .int) (zat qX11_see 10 (by rfl)) rfl rfl (Nat.le_refl 0) (Nat.le_refl 0) k

theorem bX11_isSmall_0 {d : Nat} {Q : Option MV → MH → Prop} {h : MH} {v0 : Int32} (k1 : v0 < (nI 97) → J mX11_isSmall d 0 0 Q 0 0 16 [some (.inl v0)] [] h) (k2 : ¬ v0 < (nI 97) → J mX11_isSmall d 0 0 Q 0 0 6 [some (.inl v0)] [] h) : J mX11_isSmall d 0 0 Q 0 0 0 [some (.inl v0)] [] h := by
  refine zrun 0 3 qX11_isSmall (o := 11) rfl ?_
  show ((v0 < (nI 97) → J mX11_isSmall d 0 0 Q 0 0 16 [some (.inl v0)] [] h) ∧ (¬ v0 < (nI 97) → J mX11_isSmall d 0 0 Q 0 0 6 [some (.inl v0)] [] h))
  exact ⟨k1, k2⟩

theorem bX11_isSmall_6 {d : Nat} {Q : Option MV → MH → Prop} {h : MH} {v0 : Int32} (k1 : (nI 122) < v0 → J mX11_isSmall d 0 0 Q 0 0 16 [some (.inl v0)] [] h) (k2 : ¬ (nI 122) < v0 → J mX11_isSmall d 0 0 Q 0 0 12 [some (.inl v0)] [] h) : J mX11_isSmall d 0 0 Q 0 0 6 [some (.inl v0)] [] h := by
  refine zrun 3 3 qX11_isSmall (o := 11) rfl ?_
  show (((nI 122) < v0 → J mX11_isSmall d 0 0 Q 0 0 16 [some (.inl v0)] [] h) ∧ (¬ (nI 122) < v0 → J mX11_isSmall d 0 0 Q 0 0 12 [some (.inl v0)] [] h))
  exact ⟨k1, k2⟩

theorem bX11_isSmall_12 {d : Nat} {Q : Option MV → MH → Prop} {h : MH} {u0 : Option MV} (k : J mX11_isSmall d 0 0 Q 0 0 17 [u0] [.inl (nI 1)] h) : J mX11_isSmall d 0 0 Q 0 0 12 [u0] [] h := by
  refine zrun 6 2 qX11_isSmall (o := 11) rfl ?_
  show J mX11_isSmall d 0 0 Q 0 0 17 [u0] [.inl (nI 1)] h
  exact k

theorem bX11_isSmall_16 {d : Nat} {Q : Option MV → MH → Prop} {h : MH} {u0 : Option MV} (k : J mX11_isSmall d 0 0 Q 0 0 17 [u0] [.inl (nI 0)] h) : J mX11_isSmall d 0 0 Q 0 0 16 [u0] [] h := by
  refine zrun 8 1 qX11_isSmall (o := 11) rfl ?_
  show J mX11_isSmall d 0 0 Q 0 0 17 [u0] [.inl (nI 0)] h
  exact k

theorem bX11_isSmall_17 {d : Nat} {Q : Option MV → MH → Prop} {h : MH} {u0 : Option MV} {vs0 : Int32} (gn : vs0 = 0 ∨ vs0 = 1) (k : Q (some (.inl vs0)) h) : J mX11_isSmall d 0 0 Q 0 0 17 [u0] [.inl vs0] h := by
  exact J_iret (ty := .boolean) (zat qX11_isSmall 9 (by rfl)) rfl (znz gn) (Nat.le_refl 0) (Nat.le_refl 0) k

theorem bX11_isDigit_0 {d : Nat} {Q : Option MV → MH → Prop} {h : MH} {v0 : Int32} (k1 : v0 < (nI 48) → J mX11_isDigit d 0 0 Q 0 0 16 [some (.inl v0)] [] h) (k2 : ¬ v0 < (nI 48) → J mX11_isDigit d 0 0 Q 0 0 6 [some (.inl v0)] [] h) : J mX11_isDigit d 0 0 Q 0 0 0 [some (.inl v0)] [] h := by
  refine zrun 0 3 qX11_isDigit (o := 11) rfl ?_
  show ((v0 < (nI 48) → J mX11_isDigit d 0 0 Q 0 0 16 [some (.inl v0)] [] h) ∧ (¬ v0 < (nI 48) → J mX11_isDigit d 0 0 Q 0 0 6 [some (.inl v0)] [] h))
  exact ⟨k1, k2⟩

theorem bX11_isDigit_6 {d : Nat} {Q : Option MV → MH → Prop} {h : MH} {v0 : Int32} (k1 : (nI 57) < v0 → J mX11_isDigit d 0 0 Q 0 0 16 [some (.inl v0)] [] h) (k2 : ¬ (nI 57) < v0 → J mX11_isDigit d 0 0 Q 0 0 12 [some (.inl v0)] [] h) : J mX11_isDigit d 0 0 Q 0 0 6 [some (.inl v0)] [] h := by
  refine zrun 3 3 qX11_isDigit (o := 11) rfl ?_
  show (((nI 57) < v0 → J mX11_isDigit d 0 0 Q 0 0 16 [some (.inl v0)] [] h) ∧ (¬ (nI 57) < v0 → J mX11_isDigit d 0 0 Q 0 0 12 [some (.inl v0)] [] h))
  exact ⟨k1, k2⟩

theorem bX11_isDigit_12 {d : Nat} {Q : Option MV → MH → Prop} {h : MH} {u0 : Option MV} (k : J mX11_isDigit d 0 0 Q 0 0 17 [u0] [.inl (nI 1)] h) : J mX11_isDigit d 0 0 Q 0 0 12 [u0] [] h := by
  refine zrun 6 2 qX11_isDigit (o := 11) rfl ?_
  show J mX11_isDigit d 0 0 Q 0 0 17 [u0] [.inl (nI 1)] h
  exact k

theorem bX11_isDigit_16 {d : Nat} {Q : Option MV → MH → Prop} {h : MH} {u0 : Option MV} (k : J mX11_isDigit d 0 0 Q 0 0 17 [u0] [.inl (nI 0)] h) : J mX11_isDigit d 0 0 Q 0 0 16 [u0] [] h := by
  refine zrun 8 1 qX11_isDigit (o := 11) rfl ?_
  show J mX11_isDigit d 0 0 Q 0 0 17 [u0] [.inl (nI 0)] h
  exact k

theorem bX11_isDigit_17 {d : Nat} {Q : Option MV → MH → Prop} {h : MH} {u0 : Option MV} {vs0 : Int32} (gn : vs0 = 0 ∨ vs0 = 1) (k : Q (some (.inl vs0)) h) : J mX11_isDigit d 0 0 Q 0 0 17 [u0] [.inl vs0] h := by
  exact J_iret (ty := .boolean) (zat qX11_isDigit 9 (by rfl)) rfl (znz gn) (Nat.le_refl 0) (Nat.le_refl 0) k

theorem bX11_keyAt_0 {d : Nat} {Q : Option MV → MH → Prop} {h : MH} {u1 u2 u3 : Option MV} (k : J mX11_keyAt d 0 0 Q 0 0 4 [some (.inr (.inr 111)), some (.inl (nI 0)), some (.inl (nI 1)), u3] [] h) : J mX11_keyAt d 0 0 Q 0 0 0 [some (.inr (.inr 111)), u1, u2, u3] [] h := by
  refine zrun 0 4 qX11_keyAt (o := 11) rfl ?_
  show J mX11_keyAt d 0 0 Q 0 0 4 [some (.inr (.inr 111)), some (.inl (nI 0)), some (.inl (nI 1)), u3] [] h
  exact k

theorem bX11_keyAt_4 {d : Nat} {Q : Option MV → MH → Prop} {h : MH} {u0 u1 u3 : Option MV} {v2 : Int32} (k : J mX11_keyAt d 0 0 Q 0 0 5 [u0, u1, some (.inl v2), u3] [.inl v2] h) : J mX11_keyAt d 0 0 Q 0 0 4 [u0, u1, some (.inl v2), u3] [] h := by
  refine zrun 4 1 qX11_keyAt (o := 11) rfl ?_
  show J mX11_keyAt d 0 0 Q 0 0 5 [u0, u1, some (.inl v2), u3] [.inl v2] h
  exact k

theorem bX11_keyAt_5 {d : Nat} {Q : Option MV → MH → Prop} {h : MH} {u0 u1 u2 u3 : Option MV} {vs0 : Int32} (k : J mX11_keyAt d 0 0 Q 0 0 7 [u0, u1, u2, u3] [.inr (.inr 1011), .inl vs0] h) : J mX11_keyAt d 0 0 Q 0 0 5 [u0, u1, u2, u3] [.inl vs0] h := by
  exact s_ldcS (j := 11) (zat qX11_keyAt 5 (by rfl)) rfl k

theorem bX11_keyAt_7 {d d' : Nat} {Q : Option MV → MH → Prop} {h : MH} {u0 u1 u2 u3 : Option MV} {vs0 : Int32} {vs1 : Nat} (gs : ∃ j, vs1 = 1000 + j ∧ j < 12) (hd : d' + 1 ≤ d) (k : Con mJ0_length_8abf5 d' 0 0 [.inr (.inr vs1)] h (zri fun (x : Int32) h' => J mX11_keyAt d 0 0 Q 0 0 10 [u0, u1, u2, u3] [.inl x, .inl vs0] h')) : J mX11_keyAt d 0 0 Q 0 0 7 [u0, u1, u2, u3] [.inr (.inr vs1), .inl vs0] h := by
  exact zcTi (as := []) (zat qX11_keyAt 6 (by rfl)) l11_123 rfl hd rfl (Nat.le_of_ble_eq_true rfl) zle0 rfl gs k

theorem bX11_keyAt_10 {d : Nat} {Q : Option MV → MH → Prop} {h : MH} {u0 u1 u2 u3 : Option MV} {vs0 vs1 : Int32} (k1 : vs1 ≤ vs0 → J mX11_keyAt d 0 0 Q 0 0 123 [u0, u1, u2, u3] [] h) (k2 : ¬ vs1 ≤ vs0 → J mX11_keyAt d 0 0 Q 0 0 13 [u0, u1, u2, u3] [] h) : J mX11_keyAt d 0 0 Q 0 0 10 [u0, u1, u2, u3] [.inl vs1, .inl vs0] h := by
  refine zrun 7 1 qX11_keyAt (o := 11) rfl ?_
  show ((vs1 ≤ vs0 → J mX11_keyAt d 0 0 Q 0 0 123 [u0, u1, u2, u3] [] h) ∧ (¬ vs1 ≤ vs0 → J mX11_keyAt d 0 0 Q 0 0 13 [u0, u1, u2, u3] [] h))
  exact ⟨k1, k2⟩

theorem bX11_keyAt_13 {d : Nat} {Q : Option MV → MH → Prop} {h : MH} {u0 u1 u3 : Option MV} {v2 : Int32} (k : J mX11_keyAt d 0 0 Q 0 0 15 [u0, u1, some (.inl v2), some (.inl (nI 0))] [] h) : J mX11_keyAt d 0 0 Q 0 0 13 [u0, u1, some (.inl v2), u3] [] h := by
  refine zrun 8 2 qX11_keyAt (o := 11) rfl ?_
  show J mX11_keyAt d 0 0 Q 0 0 15 [u0, u1, some (.inl v2), some (.inl (nI 0))] [] h
  exact k

theorem bX11_keyAt_15 {d : Nat} {Q : Option MV → MH → Prop} {h : MH} {u0 u1 u2 u3 : Option MV} (k : J mX11_keyAt d 0 0 Q 0 0 17 [u0, u1, u2, u3] [.inr (.inr 1011)] h) : J mX11_keyAt d 0 0 Q 0 0 15 [u0, u1, u2, u3] [] h := by
  exact s_ldcS (j := 11) (zat qX11_keyAt 10 (by rfl)) rfl k

theorem bX11_keyAt_17 {d d' : Nat} {Q : Option MV → MH → Prop} {h : MH} {u0 u1 : Option MV} {v2 v3 : Int32} {vs0 : Nat} (gs : ∃ j, vs0 = 1000 + j ∧ j < 12) (hd : d' + 1 ≤ d) (k : Con mJ0_charAt_5068e d' 0 0 [.inr (.inr vs0), .inl (v2 + v3)] h (zri fun (x : Int32) h' => J mX11_keyAt d 0 0 Q 0 0 23 [u0, u1, some (.inl v2), some (.inl v3)] [.inl x] h')) : J mX11_keyAt d 0 0 Q 0 0 17 [u0, u1, some (.inl v2), some (.inl v3)] [.inr (.inr vs0)] h := by
  refine zrun 11 3 qX11_keyAt (o := 11) rfl ?_
  show J mX11_keyAt d 0 0 Q 0 0 20 [u0, u1, some (.inl v2), some (.inl v3)] [.inl (v2 + v3), .inr (.inr vs0)] h
  exact zcTi (as := [.inl (v2 + v3)]) (zat qX11_keyAt 14 (by rfl)) l11_129 rfl hd rfl (Nat.le_of_ble_eq_true rfl) zle0 rfl gs k

theorem bX11_keyAt_23 {d : Nat} {Q : Option MV → MH → Prop} {h : MH} {u0 u1 u2 u3 : Option MV} {vs0 : Int32} (k1 : vs0 = (nI 32) → J mX11_keyAt d 0 0 Q 0 0 69 [u0, u1, u2, u3] [] h) (k2 : ¬ vs0 = (nI 32) → J mX11_keyAt d 0 0 Q 0 0 28 [u0, u1, u2, u3] [] h) : J mX11_keyAt d 0 0 Q 0 0 23 [u0, u1, u2, u3] [.inl vs0] h := by
  refine zrun 15 2 qX11_keyAt (o := 11) rfl ?_
  show ((vs0 = (nI 32) → J mX11_keyAt d 0 0 Q 0 0 69 [u0, u1, u2, u3] [] h) ∧ (¬ vs0 = (nI 32) → J mX11_keyAt d 0 0 Q 0 0 28 [u0, u1, u2, u3] [] h))
  exact ⟨k1, k2⟩

theorem bX11_keyAt_28 {d : Nat} {Q : Option MV → MH → Prop} {h : MH} {u1 u2 : Option MV} {v3 : Int32} (hr : zRf h) (k1 : (h.1 111 7) ≤ ((h.1 111 6) + v3) → J mX11_keyAt d 0 0 Q 0 0 69 [some (.inr (.inr 111)), u1, u2, some (.inl v3)] [] h) (k2 : ¬ (h.1 111 7) ≤ ((h.1 111 6) + v3) → J mX11_keyAt d 0 0 Q 0 0 41 [some (.inr (.inr 111)), u1, u2, some (.inl v3)] [] h) : J mX11_keyAt d 0 0 Q 0 0 28 [some (.inr (.inr 111)), u1, u2, some (.inl v3)] [] h := by
  refine zrun 17 7 qX11_keyAt (o := 11) rfl ?_
  show zokO h 111 11 ∧ zokO h 111 11 ∧ (((h.1 111 7) ≤ ((h.1 111 6) + v3) → J mX11_keyAt d 0 0 Q 0 0 69 [some (.inr (.inr 111)), u1, u2, some (.inl v3)] [] h) ∧ (¬ (h.1 111 7) ≤ ((h.1 111 6) + v3) → J mX11_keyAt d 0 0 Q 0 0 41 [some (.inr (.inr 111)), u1, u2, some (.inl v3)] [] h))
  exact ⟨(zo hr (by decide) rfl), (zo hr (by decide) rfl), k1, k2⟩

theorem bX11_keyAt_41 {d : Nat} {Q : Option MV → MH → Prop} {h : MH} {u1 u2 : Option MV} {v3 : Int32} (hr : zRf h) (g0 : vp_in ((h.1 111 6) + v3) 400) (k : J mX11_keyAt d 0 0 Q 0 0 52 [some (.inr (.inr 111)), u1, u2, some (.inl v3)] [.inl (h.1 114 ((h.1 111 6) + v3).toNatClampNeg)] h) : J mX11_keyAt d 0 0 Q 0 0 41 [some (.inr (.inr 111)), u1, u2, some (.inl v3)] [] h := by
  refine zrun 24 7 qX11_keyAt (o := 11) rfl ?_
  show zokO h 111 11 ∧ zokO h 111 11 ∧ zokA h (h.2.2.1 111 3) 20 ((h.1 111 6) + v3) ∧ J mX11_keyAt d 0 0 Q 0 0 52 [some (.inr (.inr 111)), u1, u2, some (.inl v3)] [.inl (h.1 (h.2.2.1 111 3) ((h.1 111 6) + v3).toNatClampNeg)] h
  rw [(show h.2.2.1 111 3 = 114 from (hr.at (by decide) (by decide) (by rfl)))]
  exact ⟨(zo hr (by decide) rfl), (zo hr (by decide) rfl), (zia hr (by decide) (by rfl) g0), k⟩

theorem bX11_keyAt_52 {d : Nat} {Q : Option MV → MH → Prop} {h : MH} {u0 u1 u2 u3 : Option MV} {vs0 : Int32} (k : J mX11_keyAt d 0 0 Q 0 0 54 [u0, u1, u2, u3] [.inr (.inr 1011), .inl vs0] h) : J mX11_keyAt d 0 0 Q 0 0 52 [u0, u1, u2, u3] [.inl vs0] h := by
  exact s_ldcS (j := 11) (zat qX11_keyAt 31 (by rfl)) rfl k

theorem bX11_keyAt_54 {d d' : Nat} {Q : Option MV → MH → Prop} {h : MH} {u0 u1 : Option MV} {vs0 v2 v3 : Int32} {vs1 : Nat} (gs : ∃ j, vs1 = 1000 + j ∧ j < 12) (hd : d' + 1 ≤ d) (k : Con mJ0_charAt_5068e d' 0 0 [.inr (.inr vs1), .inl (v2 + v3)] h (zri fun (x : Int32) h' => J mX11_keyAt d 0 0 Q 0 0 60 [u0, u1, some (.inl v2), some (.inl v3)] [.inl x, .inl vs0] h')) : J mX11_keyAt d 0 0 Q 0 0 54 [u0, u1, some (.inl v2), some (.inl v3)] [.inr (.inr vs1), .inl vs0] h := by
  refine zrun 32 3 qX11_keyAt (o := 11) rfl ?_
  show J mX11_keyAt d 0 0 Q 0 0 57 [u0, u1, some (.inl v2), some (.inl v3)] [.inl (v2 + v3), .inr (.inr vs1), .inl vs0] h
  exact zcTi (as := [.inl (v2 + v3)]) (zat qX11_keyAt 35 (by rfl)) l11_129 rfl hd rfl (Nat.le_of_ble_eq_true rfl) zle0 rfl gs k

theorem bX11_keyAt_60 {d : Nat} {Q : Option MV → MH → Prop} {h : MH} {u0 u1 u2 u3 : Option MV} {vs0 vs1 : Int32} (k1 : ¬ vs0 = vs1 → J mX11_keyAt d 0 0 Q 0 0 69 [u0, u1, u2, u3] [] h) (k2 : vs0 = vs1 → J mX11_keyAt d 0 0 Q 0 0 63 [u0, u1, u2, u3] [] h) : J mX11_keyAt d 0 0 Q 0 0 60 [u0, u1, u2, u3] [.inl vs1, .inl vs0] h := by
  refine zrun 36 1 qX11_keyAt (o := 11) rfl ?_
  show ((¬ vs0 = vs1 → J mX11_keyAt d 0 0 Q 0 0 69 [u0, u1, u2, u3] [] h) ∧ (vs0 = vs1 → J mX11_keyAt d 0 0 Q 0 0 63 [u0, u1, u2, u3] [] h))
  exact ⟨k1, k2⟩

theorem bX11_keyAt_63 {d : Nat} {Q : Option MV → MH → Prop} {h : MH} {u0 u1 : Option MV} {v3 v2 : Int32} (k : J mX11_keyAt d 0 0 Q 0 0 15 [u0, u1, some (.inl v2), some (.inl (v3 + nI 1))] [] h) : J mX11_keyAt d 0 0 Q 0 0 63 [u0, u1, some (.inl v2), some (.inl v3)] [] h := by
  refine zrun 37 2 qX11_keyAt (o := 11) rfl ?_
  show J mX11_keyAt d 0 0 Q 0 0 15 [u0, u1, some (.inl v2), some (.inl (v3 + nI 1))] [] h
  exact k

theorem bX11_keyAt_69 {d : Nat} {Q : Option MV → MH → Prop} {h : MH} {u0 u1 u2 u3 : Option MV} (k : J mX11_keyAt d 0 0 Q 0 0 71 [u0, u1, u2, u3] [.inr (.inr 1011)] h) : J mX11_keyAt d 0 0 Q 0 0 69 [u0, u1, u2, u3] [] h := by
  exact s_ldcS (j := 11) (zat qX11_keyAt 39 (by rfl)) rfl k

theorem bX11_keyAt_71 {d d' : Nat} {Q : Option MV → MH → Prop} {h : MH} {u0 u1 : Option MV} {v2 v3 : Int32} {vs0 : Nat} (gs : ∃ j, vs0 = 1000 + j ∧ j < 12) (hd : d' + 1 ≤ d) (k : Con mJ0_charAt_5068e d' 0 0 [.inr (.inr vs0), .inl (v2 + v3)] h (zri fun (x : Int32) h' => J mX11_keyAt d 0 0 Q 0 0 77 [u0, u1, some (.inl v2), some (.inl v3)] [.inl x] h')) : J mX11_keyAt d 0 0 Q 0 0 71 [u0, u1, some (.inl v2), some (.inl v3)] [.inr (.inr vs0)] h := by
  refine zrun 40 3 qX11_keyAt (o := 11) rfl ?_
  show J mX11_keyAt d 0 0 Q 0 0 74 [u0, u1, some (.inl v2), some (.inl v3)] [.inl (v2 + v3), .inr (.inr vs0)] h
  exact zcTi (as := [.inl (v2 + v3)]) (zat qX11_keyAt 43 (by rfl)) l11_129 rfl hd rfl (Nat.le_of_ble_eq_true rfl) zle0 rfl gs k

theorem bX11_keyAt_77 {d : Nat} {Q : Option MV → MH → Prop} {h : MH} {u0 u1 u2 u3 : Option MV} {vs0 : Int32} (k1 : ¬ vs0 = (nI 32) → J mX11_keyAt d 0 0 Q 0 0 97 [u0, u1, u2, u3] [] h) (k2 : vs0 = (nI 32) → J mX11_keyAt d 0 0 Q 0 0 82 [u0, u1, u2, u3] [] h) : J mX11_keyAt d 0 0 Q 0 0 77 [u0, u1, u2, u3] [.inl vs0] h := by
  refine zrun 44 2 qX11_keyAt (o := 11) rfl ?_
  show ((¬ vs0 = (nI 32) → J mX11_keyAt d 0 0 Q 0 0 97 [u0, u1, u2, u3] [] h) ∧ (vs0 = (nI 32) → J mX11_keyAt d 0 0 Q 0 0 82 [u0, u1, u2, u3] [] h))
  exact ⟨k1, k2⟩

theorem bX11_keyAt_82 {d : Nat} {Q : Option MV → MH → Prop} {h : MH} {u1 u2 : Option MV} {v3 : Int32} (hr : zRf h) (k1 : ¬ ((h.1 111 6) + v3) = (h.1 111 7) → J mX11_keyAt d 0 0 Q 0 0 97 [some (.inr (.inr 111)), u1, u2, some (.inl v3)] [] h) (k2 : ((h.1 111 6) + v3) = (h.1 111 7) → J mX11_keyAt d 0 0 Q 0 0 95 [some (.inr (.inr 111)), u1, u2, some (.inl v3)] [] h) : J mX11_keyAt d 0 0 Q 0 0 82 [some (.inr (.inr 111)), u1, u2, some (.inl v3)] [] h := by
  refine zrun 46 7 qX11_keyAt (o := 11) rfl ?_
  show zokO h 111 11 ∧ zokO h 111 11 ∧ ((¬ ((h.1 111 6) + v3) = (h.1 111 7) → J mX11_keyAt d 0 0 Q 0 0 97 [some (.inr (.inr 111)), u1, u2, some (.inl v3)] [] h) ∧ (((h.1 111 6) + v3) = (h.1 111 7) → J mX11_keyAt d 0 0 Q 0 0 95 [some (.inr (.inr 111)), u1, u2, some (.inl v3)] [] h))
  exact ⟨(zo hr (by decide) rfl), (zo hr (by decide) rfl), k1, k2⟩

theorem bX11_keyAt_95 {d : Nat} {Q : Option MV → MH → Prop} {h : MH} {u0 u2 u3 : Option MV} {v1 : Int32} (k : Q (some (.inl v1)) h) : J mX11_keyAt d 0 0 Q 0 0 95 [u0, some (.inl v1), u2, u3] [] h := by
  refine zrun 53 1 qX11_keyAt (o := 11) rfl ?_
  show J mX11_keyAt d 0 0 Q 0 0 96 [u0, some (.inl v1), u2, u3] [.inl v1] h
  exact J_iret (ty := .int) (zat qX11_keyAt 54 (by rfl)) rfl rfl (Nat.le_refl 0) (Nat.le_refl 0) k

theorem bX11_keyAt_97 {d : Nat} {Q : Option MV → MH → Prop} {h : MH} {u0 u1 u2 u3 : Option MV} (k : J mX11_keyAt d 0 0 Q 0 0 99 [u0, u1, u2, u3] [.inr (.inr 1011)] h) : J mX11_keyAt d 0 0 Q 0 0 97 [u0, u1, u2, u3] [] h := by
  exact s_ldcS (j := 11) (zat qX11_keyAt 55 (by rfl)) rfl k

theorem bX11_keyAt_99 {d d' : Nat} {Q : Option MV → MH → Prop} {h : MH} {u0 u1 u3 : Option MV} {v2 : Int32} {vs0 : Nat} (gs : ∃ j, vs0 = 1000 + j ∧ j < 12) (hd : d' + 1 ≤ d) (k : Con mJ0_charAt_5068e d' 0 0 [.inr (.inr vs0), .inl v2] h (zri fun (x : Int32) h' => J mX11_keyAt d 0 0 Q 0 0 103 [u0, u1, some (.inl v2), u3] [.inl x] h')) : J mX11_keyAt d 0 0 Q 0 0 99 [u0, u1, some (.inl v2), u3] [.inr (.inr vs0)] h := by
  refine zrun 56 1 qX11_keyAt (o := 11) rfl ?_
  show J mX11_keyAt d 0 0 Q 0 0 100 [u0, u1, some (.inl v2), u3] [.inl v2, .inr (.inr vs0)] h
  exact zcTi (as := [.inl v2]) (zat qX11_keyAt 57 (by rfl)) l11_129 rfl hd rfl (Nat.le_of_ble_eq_true rfl) zle0 rfl gs k

theorem bX11_keyAt_103 {d : Nat} {Q : Option MV → MH → Prop} {h : MH} {u0 u1 u2 u3 : Option MV} {vs0 : Int32} (k1 : vs0 = (nI 32) → J mX11_keyAt d 0 0 Q 0 0 114 [u0, u1, u2, u3] [] h) (k2 : ¬ vs0 = (nI 32) → J mX11_keyAt d 0 0 Q 0 0 108 [u0, u1, u2, u3] [] h) : J mX11_keyAt d 0 0 Q 0 0 103 [u0, u1, u2, u3] [.inl vs0] h := by
  refine zrun 58 2 qX11_keyAt (o := 11) rfl ?_
  show ((vs0 = (nI 32) → J mX11_keyAt d 0 0 Q 0 0 114 [u0, u1, u2, u3] [] h) ∧ (¬ vs0 = (nI 32) → J mX11_keyAt d 0 0 Q 0 0 108 [u0, u1, u2, u3] [] h))
  exact ⟨k1, k2⟩

theorem bX11_keyAt_108 {d : Nat} {Q : Option MV → MH → Prop} {h : MH} {u0 u3 : Option MV} {v2 v1 : Int32} (k : J mX11_keyAt d 0 0 Q 0 0 97 [u0, some (.inl v1), some (.inl (v2 + nI 1)), u3] [] h) : J mX11_keyAt d 0 0 Q 0 0 108 [u0, some (.inl v1), some (.inl v2), u3] [] h := by
  refine zrun 60 2 qX11_keyAt (o := 11) rfl ?_
  show J mX11_keyAt d 0 0 Q 0 0 97 [u0, some (.inl v1), some (.inl (v2 + nI 1)), u3] [] h
  exact k

theorem bX11_keyAt_114 {d : Nat} {Q : Option MV → MH → Prop} {h : MH} {u3 : Option MV} {v2 v1 : Int32} (k : J mX11_keyAt d 0 0 Q 0 0 4 [some (.inr (.inr 111)), some (.inl (v1 + nI 1)), some (.inl (v2 + nI 1)), u3] [] h) : J mX11_keyAt d 0 0 Q 0 0 114 [some (.inr (.inr 111)), some (.inl v1), some (.inl v2), u3] [] h := by
  refine zrun 62 3 qX11_keyAt (o := 11) rfl ?_
  show J mX11_keyAt d 0 0 Q 0 0 4 [some (.inr (.inr 111)), some (.inl (v1 + nI 1)), some (.inl (v2 + nI 1)), u3] [] h
  exact k

theorem bX11_keyAt_123 {d : Nat} {Q : Option MV → MH → Prop} {h : MH} {u0 u1 u2 u3 : Option MV} (k : Q (some (.inl (nI 11))) h) : J mX11_keyAt d 0 0 Q 0 0 123 [u0, u1, u2, u3] [] h := by
  refine zrun 65 1 qX11_keyAt (o := 11) rfl ?_
  show J mX11_keyAt d 0 0 Q 0 0 125 [u0, u1, u2, u3] [.inl (nI 11)] h
  exact J_iret (ty := .int) (zat qX11_keyAt 66 (by rfl)) rfl rfl (Nat.le_refl 0) (Nat.le_refl 0) k

theorem bX11_next_0 {d : Nat} {Q : Option MV → MH → Prop} {h : MH} (hr : zRf h) (k : J mX11_next d 0 0 Q 0 0 8 [some (.inr (.inr 111))] [] (zsI h 111 6 (h.1 111 7))) : J mX11_next d 0 0 Q 0 0 0 [some (.inr (.inr 111))] [] h := by
  refine zrun 0 4 qX11_next (o := 11) rfl ?_
  show zokO h 111 11 ∧ zokO h 111 11 ∧ J mX11_next d 0 0 Q 0 0 8 [some (.inr (.inr 111))] [] (zsI h 111 6 (h.1 111 7))
  exact ⟨(zo hr (by decide) rfl), (zo hr (by decide) rfl), k⟩

theorem bX11_next_8 {d d' : Nat} {Q : Option MV → MH → Prop} {h : MH} (hr : zRf h) (hd : d' + 1 ≤ d) (k : Con mX11_see d' 0 0 [.inr (.inr 111), .inl (h.1 111 6)] h (zri fun (x : Int32) h' => J mX11_next d 0 0 Q 0 0 16 [some (.inr (.inr 111))] [.inl x] h')) : J mX11_next d 0 0 Q 0 0 8 [some (.inr (.inr 111))] [] h := by
  refine zrun 4 3 qX11_next (o := 11) rfl ?_
  show zokO h 111 11 ∧ J mX11_next d 0 0 Q 0 0 13 [some (.inr (.inr 111))] [.inl (h.1 111 6), .inr (.inr 111)] h
  exact ⟨(zo hr (by decide) rfl), zcVi (as := [.inl (h.1 111 6)]) (zat qX11_next 7 (by rfl)) l11_139 rfl hd rfl (Nat.le_of_ble_eq_true rfl) zle0 (ci := 11) (by decide) rfl (zo hr (by decide) rfl) k⟩

theorem bX11_next_16 {d : Nat} {Q : Option MV → MH → Prop} {h : MH} {u0 : Option MV} {vs0 : Int32} (k1 : vs0 = (nI 10) → J mX11_next d 0 0 Q 0 0 34 [u0] [] h) (k2 : ¬ vs0 = (nI 10) → J mX11_next d 0 0 Q 0 0 21 [u0] [] h) : J mX11_next d 0 0 Q 0 0 16 [u0] [.inl vs0] h := by
  refine zrun 8 2 qX11_next (o := 11) rfl ?_
  show ((vs0 = (nI 10) → J mX11_next d 0 0 Q 0 0 34 [u0] [] h) ∧ (¬ vs0 = (nI 10) → J mX11_next d 0 0 Q 0 0 21 [u0] [] h))
  exact ⟨k1, k2⟩

theorem bX11_next_21 {d d' : Nat} {Q : Option MV → MH → Prop} {h : MH} (hr : zRf h) (hd : d' + 1 ≤ d) (k : Con mX11_see d' 0 0 [.inr (.inr 111), .inl (h.1 111 6)] h (zri fun (x : Int32) h' => J mX11_next d 0 0 Q 0 0 29 [some (.inr (.inr 111))] [.inl x] h')) : J mX11_next d 0 0 Q 0 0 21 [some (.inr (.inr 111))] [] h := by
  refine zrun 10 3 qX11_next (o := 11) rfl ?_
  show zokO h 111 11 ∧ J mX11_next d 0 0 Q 0 0 26 [some (.inr (.inr 111))] [.inl (h.1 111 6), .inr (.inr 111)] h
  exact ⟨(zo hr (by decide) rfl), zcVi (as := [.inl (h.1 111 6)]) (zat qX11_next 13 (by rfl)) l11_139 rfl hd rfl (Nat.le_of_ble_eq_true rfl) zle0 (ci := 11) (by decide) rfl (zo hr (by decide) rfl) k⟩

theorem bX11_next_29 {d : Nat} {Q : Option MV → MH → Prop} {h : MH} {u0 : Option MV} {vs0 : Int32} (k1 : ¬ vs0 = (nI 32) → J mX11_next d 0 0 Q 0 0 47 [u0] [] h) (k2 : vs0 = (nI 32) → J mX11_next d 0 0 Q 0 0 34 [u0] [] h) : J mX11_next d 0 0 Q 0 0 29 [u0] [.inl vs0] h := by
  refine zrun 14 2 qX11_next (o := 11) rfl ?_
  show ((¬ vs0 = (nI 32) → J mX11_next d 0 0 Q 0 0 47 [u0] [] h) ∧ (vs0 = (nI 32) → J mX11_next d 0 0 Q 0 0 34 [u0] [] h))
  exact ⟨k1, k2⟩

theorem bX11_next_34 {d : Nat} {Q : Option MV → MH → Prop} {h : MH} (hr : zRf h) (k : J mX11_next d 0 0 Q 0 0 8 [some (.inr (.inr 111))] [] (zsI h 111 6 ((h.1 111 6) + (nI 1)))) : J mX11_next d 0 0 Q 0 0 34 [some (.inr (.inr 111))] [] h := by
  refine zrun 16 7 qX11_next (o := 11) rfl ?_
  show zokO h 111 11 ∧ zokO h 111 11 ∧ J mX11_next d 0 0 Q 0 0 8 [some (.inr (.inr 111))] [] (zsI h 111 6 ((h.1 111 6) + (nI 1)))
  exact ⟨(zo hr (by decide) rfl), (zo hr (by decide) rfl), k⟩

theorem bX11_next_47 {d : Nat} {Q : Option MV → MH → Prop} {h : MH} (hr : zRf h) (k1 : ((zsI h 111 7 (h.1 111 6)).1 111 6) < ((zsI h 111 7 (h.1 111 6)).1 111 8) → J mX11_next d 0 0 Q 0 0 75 [some (.inr (.inr 111))] [] (zsI h 111 7 (h.1 111 6))) (k2 : ¬ ((zsI h 111 7 (h.1 111 6)).1 111 6) < ((zsI h 111 7 (h.1 111 6)).1 111 8) → J mX11_next d 0 0 Q 0 0 66 [some (.inr (.inr 111))] [] (zsI h 111 7 (h.1 111 6))) : J mX11_next d 0 0 Q 0 0 47 [some (.inr (.inr 111))] [] h := by
  refine zrun 23 9 qX11_next (o := 11) rfl ?_
  show zokO h 111 11 ∧ zokO h 111 11 ∧ zokO (zsI h 111 7 (h.1 111 6)) 111 11 ∧ zokO (zsI h 111 7 (h.1 111 6)) 111 11 ∧ ((((zsI h 111 7 (h.1 111 6)).1 111 6) < ((zsI h 111 7 (h.1 111 6)).1 111 8) → J mX11_next d 0 0 Q 0 0 75 [some (.inr (.inr 111))] [] (zsI h 111 7 (h.1 111 6))) ∧ (¬ ((zsI h 111 7 (h.1 111 6)).1 111 6) < ((zsI h 111 7 (h.1 111 6)).1 111 8) → J mX11_next d 0 0 Q 0 0 66 [some (.inr (.inr 111))] [] (zsI h 111 7 (h.1 111 6))))
  exact ⟨(zo hr (by decide) rfl), (zo hr (by decide) rfl), (zo hr (by decide) rfl), (zo hr (by decide) rfl), k1, k2⟩

theorem bX11_next_66 {d : Nat} {Q : Option MV → MH → Prop} {h : MH} (hr : zRf h) (k : J mX11_next d 0 0 Q 0 0 270 [some (.inr (.inr 111))] [] (zsI h 111 9 (nI 14))) : J mX11_next d 0 0 Q 0 0 66 [some (.inr (.inr 111))] [] h := by
  refine zrun 32 4 qX11_next (o := 11) rfl ?_
  show zokO h 111 11 ∧ J mX11_next d 0 0 Q 0 0 270 [some (.inr (.inr 111))] [] (zsI h 111 9 (nI 14))
  exact ⟨(zo hr (by decide) rfl), k⟩

theorem bX11_next_75 {d d' : Nat} {Q : Option MV → MH → Prop} {h : MH} (hr : zRf h) (hd : d' + 1 ≤ d) (k : Con mX11_see d' 0 0 [.inr (.inr 111), .inl (h.1 111 6)] h (zri fun (x : Int32) h' => J mX11_next d 0 0 Q 0 0 83 [some (.inr (.inr 111))] [.inl x] h')) : J mX11_next d 0 0 Q 0 0 75 [some (.inr (.inr 111))] [] h := by
  refine zrun 36 3 qX11_next (o := 11) rfl ?_
  show zokO h 111 11 ∧ J mX11_next d 0 0 Q 0 0 80 [some (.inr (.inr 111))] [.inl (h.1 111 6), .inr (.inr 111)] h
  exact ⟨(zo hr (by decide) rfl), zcVi (as := [.inl (h.1 111 6)]) (zat qX11_next 39 (by rfl)) l11_139 rfl hd rfl (Nat.le_of_ble_eq_true rfl) zle0 (ci := 11) (by decide) rfl (zo hr (by decide) rfl) k⟩

theorem bX11_next_83 {d d' : Nat} {Q : Option MV → MH → Prop} {h : MH} {u0 : Option MV} {vs0 : Int32} (hd : d' + 1 ≤ d) (k : Con mX11_isSmall d' 0 0 [.inl vs0] h (zri fun (x : Int32) h' => J mX11_next d 0 0 Q 0 0 86 [u0] [.inl x] h')) : J mX11_next d 0 0 Q 0 0 83 [u0] [.inl vs0] h := by
  exact zcSi (as := [.inl vs0]) (zat qX11_next 40 (by rfl)) l11_146 rfl hd rfl (Nat.le_of_ble_eq_true rfl) zle0 k

theorem bX11_next_86 {d : Nat} {Q : Option MV → MH → Prop} {h : MH} {u0 : Option MV} {vs0 : Int32} (k1 : vs0 = 0 → J mX11_next d 0 0 Q 0 0 127 [u0] [] h) (k2 : ¬ vs0 = 0 → J mX11_next d 0 0 Q 0 0 89 [u0] [] h) : J mX11_next d 0 0 Q 0 0 86 [u0] [.inl vs0] h := by
  refine zrun 41 1 qX11_next (o := 11) rfl ?_
  show ((vs0 = 0 → J mX11_next d 0 0 Q 0 0 127 [u0] [] h) ∧ (¬ vs0 = 0 → J mX11_next d 0 0 Q 0 0 89 [u0] [] h))
  exact ⟨k1, k2⟩

theorem bX11_next_89 {d d' : Nat} {Q : Option MV → MH → Prop} {h : MH} (hr : zRf h) (hd : d' + 1 ≤ d) (k : Con mX11_see d' 0 0 [.inr (.inr 111), .inl (h.1 111 7)] h (zri fun (x : Int32) h' => J mX11_next d 0 0 Q 0 0 97 [some (.inr (.inr 111))] [.inl x] h')) : J mX11_next d 0 0 Q 0 0 89 [some (.inr (.inr 111))] [] h := by
  refine zrun 42 3 qX11_next (o := 11) rfl ?_
  show zokO h 111 11 ∧ J mX11_next d 0 0 Q 0 0 94 [some (.inr (.inr 111))] [.inl (h.1 111 7), .inr (.inr 111)] h
  exact ⟨(zo hr (by decide) rfl), zcVi (as := [.inl (h.1 111 7)]) (zat qX11_next 45 (by rfl)) l11_139 rfl hd rfl (Nat.le_of_ble_eq_true rfl) zle0 (ci := 11) (by decide) rfl (zo hr (by decide) rfl) k⟩

theorem bX11_next_97 {d d' : Nat} {Q : Option MV → MH → Prop} {h : MH} {u0 : Option MV} {vs0 : Int32} (hd : d' + 1 ≤ d) (k : Con mX11_isSmall d' 0 0 [.inl vs0] h (zri fun (x : Int32) h' => J mX11_next d 0 0 Q 0 0 100 [u0] [.inl x] h')) : J mX11_next d 0 0 Q 0 0 97 [u0] [.inl vs0] h := by
  exact zcSi (as := [.inl vs0]) (zat qX11_next 46 (by rfl)) l11_146 rfl hd rfl (Nat.le_of_ble_eq_true rfl) zle0 k

theorem bX11_next_100 {d : Nat} {Q : Option MV → MH → Prop} {h : MH} {u0 : Option MV} {vs0 : Int32} (k1 : vs0 = 0 → J mX11_next d 0 0 Q 0 0 116 [u0] [] h) (k2 : ¬ vs0 = 0 → J mX11_next d 0 0 Q 0 0 103 [u0] [] h) : J mX11_next d 0 0 Q 0 0 100 [u0] [.inl vs0] h := by
  refine zrun 47 1 qX11_next (o := 11) rfl ?_
  show ((vs0 = 0 → J mX11_next d 0 0 Q 0 0 116 [u0] [] h) ∧ (¬ vs0 = 0 → J mX11_next d 0 0 Q 0 0 103 [u0] [] h))
  exact ⟨k1, k2⟩

theorem bX11_next_103 {d : Nat} {Q : Option MV → MH → Prop} {h : MH} (hr : zRf h) (k : J mX11_next d 0 0 Q 0 0 89 [some (.inr (.inr 111))] [] (zsI h 111 7 ((h.1 111 7) + (nI 1)))) : J mX11_next d 0 0 Q 0 0 103 [some (.inr (.inr 111))] [] h := by
  refine zrun 48 7 qX11_next (o := 11) rfl ?_
  show zokO h 111 11 ∧ zokO h 111 11 ∧ J mX11_next d 0 0 Q 0 0 89 [some (.inr (.inr 111))] [] (zsI h 111 7 ((h.1 111 7) + (nI 1)))
  exact ⟨(zo hr (by decide) rfl), (zo hr (by decide) rfl), k⟩

theorem bX11_next_116 {d d' : Nat} {Q : Option MV → MH → Prop} {h : MH} (hr : zRf h) (hd : d' + 1 ≤ d) (k : Con mX11_keyAt d' 0 0 [.inr (.inr 111)] h (zri fun (x : Int32) h' => J mX11_next d 0 0 Q 0 0 121 [some (.inr (.inr 111))] [.inl x, .inr (.inr 111)] h')) : J mX11_next d 0 0 Q 0 0 116 [some (.inr (.inr 111))] [] h := by
  refine zrun 55 2 qX11_next (o := 11) rfl ?_
  show J mX11_next d 0 0 Q 0 0 118 [some (.inr (.inr 111))] [.inr (.inr 111), .inr (.inr 111)] h
  exact zcVi (as := []) (zat qX11_next 57 (by rfl)) l11_150 rfl hd rfl (Nat.le_of_ble_eq_true rfl) zle0 (ci := 11) (by decide) rfl (zo hr (by decide) rfl) k

theorem bX11_next_121 {d : Nat} {Q : Option MV → MH → Prop} {h : MH} {u0 : Option MV} {vs1 : Int32} (hr : zRf h) (k : J mX11_next d 0 0 Q 0 0 270 [u0] [] (zsI h 111 9 vs1)) : J mX11_next d 0 0 Q 0 0 121 [u0] [.inl vs1, .inr (.inr 111)] h := by
  refine zrun 58 2 qX11_next (o := 11) rfl ?_
  show zokO h 111 11 ∧ J mX11_next d 0 0 Q 0 0 270 [u0] [] (zsI h 111 9 vs1)
  exact ⟨(zo hr (by decide) rfl), k⟩

theorem bX11_next_127 {d d' : Nat} {Q : Option MV → MH → Prop} {h : MH} (hr : zRf h) (hd : d' + 1 ≤ d) (k : Con mX11_see d' 0 0 [.inr (.inr 111), .inl (h.1 111 6)] h (zri fun (x : Int32) h' => J mX11_next d 0 0 Q 0 0 135 [some (.inr (.inr 111))] [.inl x] h')) : J mX11_next d 0 0 Q 0 0 127 [some (.inr (.inr 111))] [] h := by
  refine zrun 60 3 qX11_next (o := 11) rfl ?_
  show zokO h 111 11 ∧ J mX11_next d 0 0 Q 0 0 132 [some (.inr (.inr 111))] [.inl (h.1 111 6), .inr (.inr 111)] h
  exact ⟨(zo hr (by decide) rfl), zcVi (as := [.inl (h.1 111 6)]) (zat qX11_next 63 (by rfl)) l11_139 rfl hd rfl (Nat.le_of_ble_eq_true rfl) zle0 (ci := 11) (by decide) rfl (zo hr (by decide) rfl) k⟩

theorem bX11_next_135 {d d' : Nat} {Q : Option MV → MH → Prop} {h : MH} {u0 : Option MV} {vs0 : Int32} (hd : d' + 1 ≤ d) (k : Con mX11_isDigit d' 0 0 [.inl vs0] h (zri fun (x : Int32) h' => J mX11_next d 0 0 Q 0 0 138 [u0] [.inl x] h')) : J mX11_next d 0 0 Q 0 0 135 [u0] [.inl vs0] h := by
  exact zcSi (as := [.inl vs0]) (zat qX11_next 64 (by rfl)) l11_153 rfl hd rfl (Nat.le_of_ble_eq_true rfl) zle0 k

theorem bX11_next_138 {d : Nat} {Q : Option MV → MH → Prop} {h : MH} {u0 : Option MV} {vs0 : Int32} (k1 : vs0 = 0 → J mX11_next d 0 0 Q 0 0 236 [u0] [] h) (k2 : ¬ vs0 = 0 → J mX11_next d 0 0 Q 0 0 141 [u0] [] h) : J mX11_next d 0 0 Q 0 0 138 [u0] [.inl vs0] h := by
  refine zrun 65 1 qX11_next (o := 11) rfl ?_
  show ((vs0 = 0 → J mX11_next d 0 0 Q 0 0 236 [u0] [] h) ∧ (¬ vs0 = 0 → J mX11_next d 0 0 Q 0 0 141 [u0] [] h))
  exact ⟨k1, k2⟩

theorem bX11_next_141 {d : Nat} {Q : Option MV → MH → Prop} {h : MH} (hr : zRf h) (k : J mX11_next d 0 0 Q 0 0 146 [some (.inr (.inr 111))] [] (zsI h 111 10 (nI 0))) : J mX11_next d 0 0 Q 0 0 141 [some (.inr (.inr 111))] [] h := by
  refine zrun 66 3 qX11_next (o := 11) rfl ?_
  show zokO h 111 11 ∧ J mX11_next d 0 0 Q 0 0 146 [some (.inr (.inr 111))] [] (zsI h 111 10 (nI 0))
  exact ⟨(zo hr (by decide) rfl), k⟩

theorem bX11_next_146 {d d' : Nat} {Q : Option MV → MH → Prop} {h : MH} (hr : zRf h) (hd : d' + 1 ≤ d) (k : Con mX11_see d' 0 0 [.inr (.inr 111), .inl (h.1 111 7)] h (zri fun (x : Int32) h' => J mX11_next d 0 0 Q 0 0 154 [some (.inr (.inr 111))] [.inl x] h')) : J mX11_next d 0 0 Q 0 0 146 [some (.inr (.inr 111))] [] h := by
  refine zrun 69 3 qX11_next (o := 11) rfl ?_
  show zokO h 111 11 ∧ J mX11_next d 0 0 Q 0 0 151 [some (.inr (.inr 111))] [.inl (h.1 111 7), .inr (.inr 111)] h
  exact ⟨(zo hr (by decide) rfl), zcVi (as := [.inl (h.1 111 7)]) (zat qX11_next 72 (by rfl)) l11_139 rfl hd rfl (Nat.le_of_ble_eq_true rfl) zle0 (ci := 11) (by decide) rfl (zo hr (by decide) rfl) k⟩

theorem bX11_next_154 {d d' : Nat} {Q : Option MV → MH → Prop} {h : MH} {u0 : Option MV} {vs0 : Int32} (hd : d' + 1 ≤ d) (k : Con mX11_isDigit d' 0 0 [.inl vs0] h (zri fun (x : Int32) h' => J mX11_next d 0 0 Q 0 0 157 [u0] [.inl x] h')) : J mX11_next d 0 0 Q 0 0 154 [u0] [.inl vs0] h := by
  exact zcSi (as := [.inl vs0]) (zat qX11_next 73 (by rfl)) l11_153 rfl hd rfl (Nat.le_of_ble_eq_true rfl) zle0 k

theorem bX11_next_157 {d : Nat} {Q : Option MV → MH → Prop} {h : MH} {u0 : Option MV} {vs0 : Int32} (k1 : vs0 = 0 → J mX11_next d 0 0 Q 0 0 209 [u0] [] h) (k2 : ¬ vs0 = 0 → J mX11_next d 0 0 Q 0 0 160 [u0] [] h) : J mX11_next d 0 0 Q 0 0 157 [u0] [.inl vs0] h := by
  refine zrun 74 1 qX11_next (o := 11) rfl ?_
  show ((vs0 = 0 → J mX11_next d 0 0 Q 0 0 209 [u0] [] h) ∧ (¬ vs0 = 0 → J mX11_next d 0 0 Q 0 0 160 [u0] [] h))
  exact ⟨k1, k2⟩

theorem bX11_next_160 {d : Nat} {Q : Option MV → MH → Prop} {h : MH} (hr : zRf h) (k1 : (nI 3) ≤ ((h.1 111 7) - (h.1 111 6)) → J mX11_next d 0 0 Q 0 0 196 [some (.inr (.inr 111))] [] h) (k2 : ¬ (nI 3) ≤ ((h.1 111 7) - (h.1 111 6)) → J mX11_next d 0 0 Q 0 0 173 [some (.inr (.inr 111))] [] h) : J mX11_next d 0 0 Q 0 0 160 [some (.inr (.inr 111))] [] h := by
  refine zrun 75 7 qX11_next (o := 11) rfl ?_
  show zokO h 111 11 ∧ zokO h 111 11 ∧ (((nI 3) ≤ ((h.1 111 7) - (h.1 111 6)) → J mX11_next d 0 0 Q 0 0 196 [some (.inr (.inr 111))] [] h) ∧ (¬ (nI 3) ≤ ((h.1 111 7) - (h.1 111 6)) → J mX11_next d 0 0 Q 0 0 173 [some (.inr (.inr 111))] [] h))
  exact ⟨(zo hr (by decide) rfl), (zo hr (by decide) rfl), k1, k2⟩

theorem bX11_next_173 {d d' : Nat} {Q : Option MV → MH → Prop} {h : MH} (hr : zRf h) (hd : d' + 1 ≤ d) (k : Con mX11_see d' 0 0 [.inr (.inr 111), .inl (h.1 111 7)] h (zri fun (x : Int32) h' => J mX11_next d 0 0 Q 0 0 189 [some (.inr (.inr 111))] [.inl x, .inl ((nI 10) * (h.1 111 10)), .inr (.inr 111)] h')) : J mX11_next d 0 0 Q 0 0 173 [some (.inr (.inr 111))] [] h := by
  refine zrun 82 8 qX11_next (o := 11) rfl ?_
  show zokO h 111 11 ∧ zokO h 111 11 ∧ J mX11_next d 0 0 Q 0 0 186 [some (.inr (.inr 111))] [.inl (h.1 111 7), .inr (.inr 111), .inl ((nI 10) * (h.1 111 10)), .inr (.inr 111)] h
  exact ⟨(zo hr (by decide) rfl), (zo hr (by decide) rfl), zcVi (as := [.inl (h.1 111 7)]) (zat qX11_next 90 (by rfl)) l11_139 rfl hd rfl (Nat.le_of_ble_eq_true rfl) zle0 (ci := 11) (by decide) rfl (zo hr (by decide) rfl) k⟩

theorem bX11_next_189 {d : Nat} {Q : Option MV → MH → Prop} {h : MH} {u0 : Option MV} {vs1 vs2 : Int32} (hr : zRf h) (k : J mX11_next d 0 0 Q 0 0 196 [u0] [] (zsI h 111 10 ((vs1 + vs2) - (nI 48)))) : J mX11_next d 0 0 Q 0 0 189 [u0] [.inl vs2, .inl vs1, .inr (.inr 111)] h := by
  refine zrun 91 4 qX11_next (o := 11) rfl ?_
  show zokO h 111 11 ∧ J mX11_next d 0 0 Q 0 0 196 [u0] [] (zsI h 111 10 ((vs1 + vs2) - (nI 48)))
  exact ⟨(zo hr (by decide) rfl), k⟩

theorem bX11_next_196 {d : Nat} {Q : Option MV → MH → Prop} {h : MH} (hr : zRf h) (k : J mX11_next d 0 0 Q 0 0 146 [some (.inr (.inr 111))] [] (zsI h 111 7 ((h.1 111 7) + (nI 1)))) : J mX11_next d 0 0 Q 0 0 196 [some (.inr (.inr 111))] [] h := by
  refine zrun 95 7 qX11_next (o := 11) rfl ?_
  show zokO h 111 11 ∧ zokO h 111 11 ∧ J mX11_next d 0 0 Q 0 0 146 [some (.inr (.inr 111))] [] (zsI h 111 7 ((h.1 111 7) + (nI 1)))
  exact ⟨(zo hr (by decide) rfl), (zo hr (by decide) rfl), k⟩

theorem bX11_next_209 {d : Nat} {Q : Option MV → MH → Prop} {h : MH} (hr : zRf h) (k1 : ((h.1 111 7) - (h.1 111 6)) ≤ (nI 3) → J mX11_next d 0 0 Q 0 0 228 [some (.inr (.inr 111))] [.inr (.inr 111)] h) (k2 : ¬ ((h.1 111 7) - (h.1 111 6)) ≤ (nI 3) → J mX11_next d 0 0 Q 0 0 223 [some (.inr (.inr 111))] [.inr (.inr 111)] h) : J mX11_next d 0 0 Q 0 0 209 [some (.inr (.inr 111))] [] h := by
  refine zrun 102 8 qX11_next (o := 11) rfl ?_
  show zokO h 111 11 ∧ zokO h 111 11 ∧ ((((h.1 111 7) - (h.1 111 6)) ≤ (nI 3) → J mX11_next d 0 0 Q 0 0 228 [some (.inr (.inr 111))] [.inr (.inr 111)] h) ∧ (¬ ((h.1 111 7) - (h.1 111 6)) ≤ (nI 3) → J mX11_next d 0 0 Q 0 0 223 [some (.inr (.inr 111))] [.inr (.inr 111)] h))
  exact ⟨(zo hr (by decide) rfl), (zo hr (by decide) rfl), k1, k2⟩

theorem bX11_next_223 {d : Nat} {Q : Option MV → MH → Prop} {h : MH} {u0 : Option MV} (k : J mX11_next d 0 0 Q 0 0 230 [u0] [.inl (nI 15), .inr (.inr 111)] h) : J mX11_next d 0 0 Q 0 0 223 [u0] [.inr (.inr 111)] h := by
  refine zrun 110 2 qX11_next (o := 11) rfl ?_
  show J mX11_next d 0 0 Q 0 0 230 [u0] [.inl (nI 15), .inr (.inr 111)] h
  exact k

theorem bX11_next_228 {d : Nat} {Q : Option MV → MH → Prop} {h : MH} {u0 : Option MV} (k : J mX11_next d 0 0 Q 0 0 230 [u0] [.inl (nI 12), .inr (.inr 111)] h) : J mX11_next d 0 0 Q 0 0 228 [u0] [.inr (.inr 111)] h := by
  refine zrun 112 1 qX11_next (o := 11) rfl ?_
  show J mX11_next d 0 0 Q 0 0 230 [u0] [.inl (nI 12), .inr (.inr 111)] h
  exact k

theorem bX11_next_230 {d : Nat} {Q : Option MV → MH → Prop} {h : MH} {u0 : Option MV} {vs1 : Int32} (hr : zRf h) (k : J mX11_next d 0 0 Q 0 0 270 [u0] [] (zsI h 111 9 vs1)) : J mX11_next d 0 0 Q 0 0 230 [u0] [.inl vs1, .inr (.inr 111)] h := by
  refine zrun 113 2 qX11_next (o := 11) rfl ?_
  show zokO h 111 11 ∧ J mX11_next d 0 0 Q 0 0 270 [u0] [] (zsI h 111 9 vs1)
  exact ⟨(zo hr (by decide) rfl), k⟩

theorem bX11_next_236 {d d' : Nat} {Q : Option MV → MH → Prop} {h : MH} (hr : zRf h) (hd : d' + 1 ≤ d) (k : Con mX11_see d' 0 0 [.inr (.inr 111), .inl ((zsI h 111 7 ((h.1 111 7) + (nI 1))).1 111 6)] (zsI h 111 7 ((h.1 111 7) + (nI 1))) (zri fun (x : Int32) h' => J mX11_next d 0 0 Q 0 0 255 [some (.inr (.inr 111))] [.inl x, .inr (.inr 111)] h')) : J mX11_next d 0 0 Q 0 0 236 [some (.inr (.inr 111))] [] h := by
  refine zrun 115 10 qX11_next (o := 11) rfl ?_
  show zokO h 111 11 ∧ zokO h 111 11 ∧ zokO (zsI h 111 7 ((h.1 111 7) + (nI 1))) 111 11 ∧ J mX11_next d 0 0 Q 0 0 252 [some (.inr (.inr 111))] [.inl ((zsI h 111 7 ((h.1 111 7) + (nI 1))).1 111 6), .inr (.inr 111), .inr (.inr 111)] (zsI h 111 7 ((h.1 111 7) + (nI 1)))
  exact ⟨(zo hr (by decide) rfl), (zo hr (by decide) rfl), (zo hr (by decide) rfl), zcVi (as := [.inl ((zsI h 111 7 ((h.1 111 7) + (nI 1))).1 111 6)]) (zat qX11_next 125 (by rfl)) l11_139 rfl hd rfl (Nat.le_of_ble_eq_true rfl) zle0 (ci := 11) (by decide) rfl (show zokO _ _ _ from (zo hr (by decide) rfl)) k⟩

theorem bX11_next_255 {d : Nat} {Q : Option MV → MH → Prop} {h : MH} {u0 : Option MV} {vs1 : Int32} (k1 : ¬ vs1 = (nI 59) → J mX11_next d 0 0 Q 0 0 265 [u0] [.inr (.inr 111)] h) (k2 : vs1 = (nI 59) → J mX11_next d 0 0 Q 0 0 260 [u0] [.inr (.inr 111)] h) : J mX11_next d 0 0 Q 0 0 255 [u0] [.inl vs1, .inr (.inr 111)] h := by
  refine zrun 126 2 qX11_next (o := 11) rfl ?_
  show ((¬ vs1 = (nI 59) → J mX11_next d 0 0 Q 0 0 265 [u0] [.inr (.inr 111)] h) ∧ (vs1 = (nI 59) → J mX11_next d 0 0 Q 0 0 260 [u0] [.inr (.inr 111)] h))
  exact ⟨k1, k2⟩

theorem bX11_next_260 {d : Nat} {Q : Option MV → MH → Prop} {h : MH} {u0 : Option MV} (k : J mX11_next d 0 0 Q 0 0 267 [u0] [.inl (nI 13), .inr (.inr 111)] h) : J mX11_next d 0 0 Q 0 0 260 [u0] [.inr (.inr 111)] h := by
  refine zrun 128 2 qX11_next (o := 11) rfl ?_
  show J mX11_next d 0 0 Q 0 0 267 [u0] [.inl (nI 13), .inr (.inr 111)] h
  exact k

theorem bX11_next_265 {d : Nat} {Q : Option MV → MH → Prop} {h : MH} {u0 : Option MV} (k : J mX11_next d 0 0 Q 0 0 267 [u0] [.inl (nI 15), .inr (.inr 111)] h) : J mX11_next d 0 0 Q 0 0 265 [u0] [.inr (.inr 111)] h := by
  refine zrun 130 1 qX11_next (o := 11) rfl ?_
  show J mX11_next d 0 0 Q 0 0 267 [u0] [.inl (nI 15), .inr (.inr 111)] h
  exact k

theorem bX11_next_267 {d : Nat} {Q : Option MV → MH → Prop} {h : MH} {u0 : Option MV} {vs1 : Int32} (hr : zRf h) (k : J mX11_next d 0 0 Q 0 0 270 [u0] [] (zsI h 111 9 vs1)) : J mX11_next d 0 0 Q 0 0 267 [u0] [.inl vs1, .inr (.inr 111)] h := by
  refine zrun 131 1 qX11_next (o := 11) rfl ?_
  show zokO h 111 11 ∧ J mX11_next d 0 0 Q 0 0 270 [u0] [] (zsI h 111 9 vs1)
  exact ⟨(zo hr (by decide) rfl), k⟩

theorem bX11_next_270 {d : Nat} {Q : Option MV → MH → Prop} {h : MH} {u0 : Option MV} (k : Q none h) : J mX11_next d 0 0 Q 0 0 270 [u0] [] h := by
  exact J_vret (zat qX11_next 132 (by rfl)) rfl (Nat.le_refl 0) (Nat.le_refl 0) k

theorem bX11_fails_0 {d : Nat} {Q : Option MV → MH → Prop} {h : MH} {u1 : Option MV} (hr : zRf h) (k1 : (h.1 111 11) = 0 → J mX11_fails d 0 0 Q 0 0 8 [some (.inr (.inr 111)), u1] [] h) (k2 : ¬ (h.1 111 11) = 0 → J mX11_fails d 0 0 Q 0 0 7 [some (.inr (.inr 111)), u1] [] h) : J mX11_fails d 0 0 Q 0 0 0 [some (.inr (.inr 111)), u1] [] h := by
  refine zrun 0 3 qX11_fails (o := 11) rfl ?_
  show zokO h 111 11 ∧ (((h.1 111 11) = 0 → J mX11_fails d 0 0 Q 0 0 8 [some (.inr (.inr 111)), u1] [] h) ∧ (¬ (h.1 111 11) = 0 → J mX11_fails d 0 0 Q 0 0 7 [some (.inr (.inr 111)), u1] [] h))
  exact ⟨(zo hr (by decide) rfl), k1, k2⟩

theorem bX11_fails_7 {d : Nat} {Q : Option MV → MH → Prop} {h : MH} {u0 u1 : Option MV} (k : Q none h) : J mX11_fails d 0 0 Q 0 0 7 [u0, u1] [] h := by
  exact J_vret (zat qX11_fails 3 (by rfl)) rfl (Nat.le_refl 0) (Nat.le_refl 0) k

theorem bX11_fails_8 {d : Nat} {Q : Option MV → MH → Prop} {h : MH} {u1 : Option MV} (hr : zRf h) (k1 : ¬ (h.1 111 9) = (nI 15) → J mX11_fails d 0 0 Q 0 0 22 [some (.inr (.inr 111)), u1] [.inr (.inr 111)] h) (k2 : (h.1 111 9) = (nI 15) → J mX11_fails d 0 0 Q 0 0 18 [some (.inr (.inr 111)), u1] [.inr (.inr 111)] h) : J mX11_fails d 0 0 Q 0 0 8 [some (.inr (.inr 111)), u1] [] h := by
  refine zrun 4 5 qX11_fails (o := 11) rfl ?_
  show zokO h 111 11 ∧ ((¬ (h.1 111 9) = (nI 15) → J mX11_fails d 0 0 Q 0 0 22 [some (.inr (.inr 111)), u1] [.inr (.inr 111)] h) ∧ ((h.1 111 9) = (nI 15) → J mX11_fails d 0 0 Q 0 0 18 [some (.inr (.inr 111)), u1] [.inr (.inr 111)] h))
  exact ⟨(zo hr (by decide) rfl), k1, k2⟩

theorem bX11_fails_18 {d : Nat} {Q : Option MV → MH → Prop} {h : MH} {u0 u1 : Option MV} (k : J mX11_fails d 0 0 Q 0 0 23 [u0, u1] [.inl (nI 1), .inr (.inr 111)] h) : J mX11_fails d 0 0 Q 0 0 18 [u0, u1] [.inr (.inr 111)] h := by
  refine zrun 9 2 qX11_fails (o := 11) rfl ?_
  show J mX11_fails d 0 0 Q 0 0 23 [u0, u1] [.inl (nI 1), .inr (.inr 111)] h
  exact k

theorem bX11_fails_22 {d : Nat} {Q : Option MV → MH → Prop} {h : MH} {u0 : Option MV} {v1 : Int32} (k : J mX11_fails d 0 0 Q 0 0 23 [u0, some (.inl v1)] [.inl v1, .inr (.inr 111)] h) : J mX11_fails d 0 0 Q 0 0 22 [u0, some (.inl v1)] [.inr (.inr 111)] h := by
  refine zrun 11 1 qX11_fails (o := 11) rfl ?_
  show J mX11_fails d 0 0 Q 0 0 23 [u0, some (.inl v1)] [.inl v1, .inr (.inr 111)] h
  exact k

theorem bX11_fails_23 {d : Nat} {Q : Option MV → MH → Prop} {h : MH} {u1 : Option MV} {vs1 : Int32} (hr : zRf h) (k : Q none (zsI (zsI h 111 11 vs1) 111 12 ((zsI h 111 11 vs1).1 111 6))) : J mX11_fails d 0 0 Q 0 0 23 [some (.inr (.inr 111)), u1] [.inl vs1, .inr (.inr 111)] h := by
  refine zrun 12 5 qX11_fails (o := 11) rfl ?_
  show zokO h 111 11 ∧ zokO (zsI h 111 11 vs1) 111 11 ∧ zokO (zsI h 111 11 vs1) 111 11 ∧ J mX11_fails d 0 0 Q 0 0 34 [some (.inr (.inr 111)), u1] [] (zsI (zsI h 111 11 vs1) 111 12 ((zsI h 111 11 vs1).1 111 6))
  exact ⟨(zo hr (by decide) rfl), (zo hr (by decide) rfl), (zo hr (by decide) rfl), J_vret (zat qX11_fails 17 (by rfl)) rfl (Nat.le_refl 0) (Nat.le_refl 0) k⟩

theorem bX11_is_0 {d : Nat} {Q : Option MV → MH → Prop} {h : MH} {u1 : Option MV} (hr : zRf h) (k1 : ¬ (h.1 111 11) = 0 → J mX11_is d 0 0 Q 0 0 19 [some (.inr (.inr 111)), u1] [] h) (k2 : (h.1 111 11) = 0 → J mX11_is d 0 0 Q 0 0 7 [some (.inr (.inr 111)), u1] [] h) : J mX11_is d 0 0 Q 0 0 0 [some (.inr (.inr 111)), u1] [] h := by
  refine zrun 0 3 qX11_is (o := 11) rfl ?_
  show zokO h 111 11 ∧ ((¬ (h.1 111 11) = 0 → J mX11_is d 0 0 Q 0 0 19 [some (.inr (.inr 111)), u1] [] h) ∧ ((h.1 111 11) = 0 → J mX11_is d 0 0 Q 0 0 7 [some (.inr (.inr 111)), u1] [] h))
  exact ⟨(zo hr (by decide) rfl), k1, k2⟩

theorem bX11_is_7 {d : Nat} {Q : Option MV → MH → Prop} {h : MH} {v1 : Int32} (hr : zRf h) (k1 : ¬ (h.1 111 9) = v1 → J mX11_is d 0 0 Q 0 0 19 [some (.inr (.inr 111)), some (.inl v1)] [] h) (k2 : (h.1 111 9) = v1 → J mX11_is d 0 0 Q 0 0 15 [some (.inr (.inr 111)), some (.inl v1)] [] h) : J mX11_is d 0 0 Q 0 0 7 [some (.inr (.inr 111)), some (.inl v1)] [] h := by
  refine zrun 3 4 qX11_is (o := 11) rfl ?_
  show zokO h 111 11 ∧ ((¬ (h.1 111 9) = v1 → J mX11_is d 0 0 Q 0 0 19 [some (.inr (.inr 111)), some (.inl v1)] [] h) ∧ ((h.1 111 9) = v1 → J mX11_is d 0 0 Q 0 0 15 [some (.inr (.inr 111)), some (.inl v1)] [] h))
  exact ⟨(zo hr (by decide) rfl), k1, k2⟩

theorem bX11_is_15 {d : Nat} {Q : Option MV → MH → Prop} {h : MH} {u0 u1 : Option MV} (k : J mX11_is d 0 0 Q 0 0 20 [u0, u1] [.inl (nI 1)] h) : J mX11_is d 0 0 Q 0 0 15 [u0, u1] [] h := by
  refine zrun 7 2 qX11_is (o := 11) rfl ?_
  show J mX11_is d 0 0 Q 0 0 20 [u0, u1] [.inl (nI 1)] h
  exact k

theorem bX11_is_19 {d : Nat} {Q : Option MV → MH → Prop} {h : MH} {u0 u1 : Option MV} (k : J mX11_is d 0 0 Q 0 0 20 [u0, u1] [.inl (nI 0)] h) : J mX11_is d 0 0 Q 0 0 19 [u0, u1] [] h := by
  refine zrun 9 1 qX11_is (o := 11) rfl ?_
  show J mX11_is d 0 0 Q 0 0 20 [u0, u1] [.inl (nI 0)] h
  exact k

theorem bX11_is_20 {d : Nat} {Q : Option MV → MH → Prop} {h : MH} {u0 u1 : Option MV} {vs0 : Int32} (gn : vs0 = 0 ∨ vs0 = 1) (k : Q (some (.inl vs0)) h) : J mX11_is d 0 0 Q 0 0 20 [u0, u1] [.inl vs0] h := by
  exact J_iret (ty := .boolean) (zat qX11_is 10 (by rfl)) rfl (znz gn) (Nat.le_refl 0) (Nat.le_refl 0) k

theorem bX11_eats_0 {d d' : Nat} {Q : Option MV → MH → Prop} {h : MH} {v1 : Int32} (hr : zRf h) (hd : d' + 1 ≤ d) (k : Con mX11_is d' 0 0 [.inr (.inr 111), .inl v1] h (zri fun (x : Int32) h' => J mX11_eats d 0 0 Q 0 0 5 [some (.inr (.inr 111)), some (.inl v1)] [.inl x] h')) : J mX11_eats d 0 0 Q 0 0 0 [some (.inr (.inr 111)), some (.inl v1)] [] h := by
  refine zrun 0 2 qX11_eats (o := 11) rfl ?_
  show J mX11_eats d 0 0 Q 0 0 2 [some (.inr (.inr 111)), some (.inl v1)] [.inl v1, .inr (.inr 111)] h
  exact zcVi (as := [.inl v1]) (zat qX11_eats 2 (by rfl)) l11_165 rfl hd rfl (Nat.le_of_ble_eq_true rfl) zle0 (ci := 11) (by decide) rfl (zo hr (by decide) rfl) k

theorem bX11_eats_5 {d : Nat} {Q : Option MV → MH → Prop} {h : MH} {u0 u1 : Option MV} {vs0 : Int32} (k1 : ¬ vs0 = 0 → J mX11_eats d 0 0 Q 0 0 10 [u0, u1] [] h) (k2 : vs0 = 0 → J mX11_eats d 0 0 Q 0 0 8 [u0, u1] [] h) : J mX11_eats d 0 0 Q 0 0 5 [u0, u1] [.inl vs0] h := by
  refine zrun 3 1 qX11_eats (o := 11) rfl ?_
  show ((¬ vs0 = 0 → J mX11_eats d 0 0 Q 0 0 10 [u0, u1] [] h) ∧ (vs0 = 0 → J mX11_eats d 0 0 Q 0 0 8 [u0, u1] [] h))
  exact ⟨k1, k2⟩

theorem bX11_eats_8 {d : Nat} {Q : Option MV → MH → Prop} {h : MH} {u0 u1 : Option MV} (k : Q (some (.inl (nI 0))) h) : J mX11_eats d 0 0 Q 0 0 8 [u0, u1] [] h := by
  refine zrun 4 1 qX11_eats (o := 11) rfl ?_
  show J mX11_eats d 0 0 Q 0 0 9 [u0, u1] [.inl (nI 0)] h
  exact J_iret (ty := .boolean) (zat qX11_eats 5 (by rfl)) rfl (by decide) (Nat.le_refl 0) (Nat.le_refl 0) k

theorem bX11_eats_10 {d d' : Nat} {Q : Option MV → MH → Prop} {h : MH} {u1 : Option MV} (hr : zRf h) (hd : d' + 1 ≤ d) (k : Con mX11_next d' 0 0 [.inr (.inr 111)] h (zrv fun h' => J mX11_eats d 0 0 Q 0 0 14 [some (.inr (.inr 111)), u1] [] h')) : J mX11_eats d 0 0 Q 0 0 10 [some (.inr (.inr 111)), u1] [] h := by
  refine zrun 6 1 qX11_eats (o := 11) rfl ?_
  show J mX11_eats d 0 0 Q 0 0 11 [some (.inr (.inr 111)), u1] [.inr (.inr 111)] h
  exact zcVv (as := []) (zat qX11_eats 7 (by rfl)) l11_168 rfl hd rfl (Nat.le_of_ble_eq_true rfl) zle0 (ci := 11) (by decide) rfl (zo hr (by decide) rfl) k

theorem bX11_eats_14 {d : Nat} {Q : Option MV → MH → Prop} {h : MH} {u0 u1 : Option MV} (k : Q (some (.inl (nI 1))) h) : J mX11_eats d 0 0 Q 0 0 14 [u0, u1] [] h := by
  refine zrun 8 1 qX11_eats (o := 11) rfl ?_
  show J mX11_eats d 0 0 Q 0 0 15 [u0, u1] [.inl (nI 1)] h
  exact J_iret (ty := .boolean) (zat qX11_eats 9 (by rfl)) rfl (by decide) (Nat.le_refl 0) (Nat.le_refl 0) k

theorem bX11_needs_0 {d d' : Nat} {Q : Option MV → MH → Prop} {h : MH} {v1 : Int32} (hr : zRf h) (hd : d' + 1 ≤ d) (k : Con mX11_eats d' 0 0 [.inr (.inr 111), .inl v1] h (zri fun (x : Int32) h' => J mX11_needs d 0 0 Q 0 0 5 [some (.inr (.inr 111)), some (.inl v1)] [.inl x] h')) : J mX11_needs d 0 0 Q 0 0 0 [some (.inr (.inr 111)), some (.inl v1)] [] h := by
  refine zrun 0 2 qX11_needs (o := 11) rfl ?_
  show J mX11_needs d 0 0 Q 0 0 2 [some (.inr (.inr 111)), some (.inl v1)] [.inl v1, .inr (.inr 111)] h
  exact zcVi (as := [.inl v1]) (zat qX11_needs 2 (by rfl)) l11_171 rfl hd rfl (Nat.le_of_ble_eq_true rfl) zle0 (ci := 11) (by decide) rfl (zo hr (by decide) rfl) k

theorem bX11_needs_5 {d : Nat} {Q : Option MV → MH → Prop} {h : MH} {u0 u1 : Option MV} {vs0 : Int32} (k1 : ¬ vs0 = 0 → J mX11_needs d 0 0 Q 0 0 13 [u0, u1] [] h) (k2 : vs0 = 0 → J mX11_needs d 0 0 Q 0 0 8 [u0, u1] [] h) : J mX11_needs d 0 0 Q 0 0 5 [u0, u1] [.inl vs0] h := by
  refine zrun 3 1 qX11_needs (o := 11) rfl ?_
  show ((¬ vs0 = 0 → J mX11_needs d 0 0 Q 0 0 13 [u0, u1] [] h) ∧ (vs0 = 0 → J mX11_needs d 0 0 Q 0 0 8 [u0, u1] [] h))
  exact ⟨k1, k2⟩

theorem bX11_needs_8 {d d' : Nat} {Q : Option MV → MH → Prop} {h : MH} {u1 : Option MV} (hr : zRf h) (hd : d' + 1 ≤ d) (k : Con mX11_fails d' 0 0 [.inr (.inr 111), .inl (nI 2)] h (zrv fun h' => J mX11_needs d 0 0 Q 0 0 13 [some (.inr (.inr 111)), u1] [] h')) : J mX11_needs d 0 0 Q 0 0 8 [some (.inr (.inr 111)), u1] [] h := by
  refine zrun 4 2 qX11_needs (o := 11) rfl ?_
  show J mX11_needs d 0 0 Q 0 0 10 [some (.inr (.inr 111)), u1] [.inl (nI 2), .inr (.inr 111)] h
  exact zcVv (as := [.inl (nI 2)]) (zat qX11_needs 6 (by rfl)) l11_174 rfl hd rfl (Nat.le_of_ble_eq_true rfl) zle0 (ci := 11) (by decide) rfl (zo hr (by decide) rfl) k

theorem bX11_needs_13 {d : Nat} {Q : Option MV → MH → Prop} {h : MH} {u0 u1 : Option MV} (k : Q none h) : J mX11_needs d 0 0 Q 0 0 13 [u0, u1] [] h := by
  exact J_vret (zat qX11_needs 7 (by rfl)) rfl (Nat.le_refl 0) (Nat.le_refl 0) k

theorem bX11_takes_0 {d d' : Nat} {Q : Option MV → MH → Prop} {h : MH} {u1 u2 u3 : Option MV} (hr : zRf h) (hd : d' + 1 ≤ d) (k : Con mX11_is d' 0 0 [.inr (.inr 111), .inl (nI 12)] h (zri fun (x : Int32) h' => J mX11_takes d 0 0 Q 0 0 6 [some (.inr (.inr 111)), u1, u2, u3] [.inl x] h')) : J mX11_takes d 0 0 Q 0 0 0 [some (.inr (.inr 111)), u1, u2, u3] [] h := by
  refine zrun 0 2 qX11_takes (o := 11) rfl ?_
  show J mX11_takes d 0 0 Q 0 0 3 [some (.inr (.inr 111)), u1, u2, u3] [.inl (nI 12), .inr (.inr 111)] h
  exact zcVi (as := [.inl (nI 12)]) (zat qX11_takes 2 (by rfl)) l11_165 rfl hd rfl (Nat.le_of_ble_eq_true rfl) zle0 (ci := 11) (by decide) rfl (zo hr (by decide) rfl) k

theorem bX11_takes_6 {d : Nat} {Q : Option MV → MH → Prop} {h : MH} {u0 u1 u2 u3 : Option MV} {vs0 : Int32} (k1 : ¬ vs0 = 0 → J mX11_takes d 0 0 Q 0 0 17 [u0, u1, u2, u3] [] h) (k2 : vs0 = 0 → J mX11_takes d 0 0 Q 0 0 9 [u0, u1, u2, u3] [] h) : J mX11_takes d 0 0 Q 0 0 6 [u0, u1, u2, u3] [.inl vs0] h := by
  refine zrun 3 1 qX11_takes (o := 11) rfl ?_
  show ((¬ vs0 = 0 → J mX11_takes d 0 0 Q 0 0 17 [u0, u1, u2, u3] [] h) ∧ (vs0 = 0 → J mX11_takes d 0 0 Q 0 0 9 [u0, u1, u2, u3] [] h))
  exact ⟨k1, k2⟩

theorem bX11_takes_9 {d d' : Nat} {Q : Option MV → MH → Prop} {h : MH} {u1 u2 u3 : Option MV} (hr : zRf h) (hd : d' + 1 ≤ d) (k : Con mX11_fails d' 0 0 [.inr (.inr 111), .inl (nI 2)] h (zrv fun h' => J mX11_takes d 0 0 Q 0 0 14 [some (.inr (.inr 111)), u1, u2, u3] [] h')) : J mX11_takes d 0 0 Q 0 0 9 [some (.inr (.inr 111)), u1, u2, u3] [] h := by
  refine zrun 4 2 qX11_takes (o := 11) rfl ?_
  show J mX11_takes d 0 0 Q 0 0 11 [some (.inr (.inr 111)), u1, u2, u3] [.inl (nI 2), .inr (.inr 111)] h
  exact zcVv (as := [.inl (nI 2)]) (zat qX11_takes 6 (by rfl)) l11_174 rfl hd rfl (Nat.le_of_ble_eq_true rfl) zle0 (ci := 11) (by decide) rfl (zo hr (by decide) rfl) k

theorem bX11_takes_14 {d : Nat} {Q : Option MV → MH → Prop} {h : MH} {u0 u1 u2 u3 : Option MV} (k : J mX11_takes d 0 0 Q 0 0 37 [u0, u1, u2, u3] [] h) : J mX11_takes d 0 0 Q 0 0 14 [u0, u1, u2, u3] [] h := by
  refine zrun 7 1 qX11_takes (o := 11) rfl ?_
  show J mX11_takes d 0 0 Q 0 0 37 [u0, u1, u2, u3] [] h
  exact k

theorem bX11_takes_17 {d d' : Nat} {Q : Option MV → MH → Prop} {h : MH} {u3 : Option MV} {v1 v2 : Int32} (hr : zRf h) (hd : d' + 1 ≤ d) (k : Con mX11_within d' 0 0 [.inr (.inl ((h.1 111 10).toInt64)), .inr (.inl v1.toInt64), .inr (.inl v2.toInt64)] h (zri fun (x : Int32) h' => J mX11_takes d 0 0 Q 0 0 29 [some (.inr (.inr 111)), some (.inl v1), some (.inl v2), u3] [.inl x] h')) : J mX11_takes d 0 0 Q 0 0 17 [some (.inr (.inr 111)), some (.inl v1), some (.inl v2), u3] [] h := by
  refine zrun 8 7 qX11_takes (o := 11) rfl ?_
  show zokO h 111 11 ∧ J mX11_takes d 0 0 Q 0 0 26 [some (.inr (.inr 111)), some (.inl v1), some (.inl v2), u3] [.inr (.inl v2.toInt64), .inr (.inl v1.toInt64), .inr (.inl ((h.1 111 10).toInt64))] h
  exact ⟨(zo hr (by decide) rfl), zcSi (as := [.inr (.inl ((h.1 111 10).toInt64)), .inr (.inl v1.toInt64), .inr (.inl v2.toInt64)]) (zat qX11_takes 15 (by rfl)) l11_178 rfl hd rfl (Nat.le_of_ble_eq_true rfl) zle0 k⟩

theorem bX11_takes_29 {d : Nat} {Q : Option MV → MH → Prop} {h : MH} {u0 u1 u2 u3 : Option MV} {vs0 : Int32} (k1 : ¬ vs0 = 0 → J mX11_takes d 0 0 Q 0 0 37 [u0, u1, u2, u3] [] h) (k2 : vs0 = 0 → J mX11_takes d 0 0 Q 0 0 32 [u0, u1, u2, u3] [] h) : J mX11_takes d 0 0 Q 0 0 29 [u0, u1, u2, u3] [.inl vs0] h := by
  refine zrun 16 1 qX11_takes (o := 11) rfl ?_
  show ((¬ vs0 = 0 → J mX11_takes d 0 0 Q 0 0 37 [u0, u1, u2, u3] [] h) ∧ (vs0 = 0 → J mX11_takes d 0 0 Q 0 0 32 [u0, u1, u2, u3] [] h))
  exact ⟨k1, k2⟩

theorem bX11_takes_32 {d d' : Nat} {Q : Option MV → MH → Prop} {h : MH} {u1 u2 u3 : Option MV} (hr : zRf h) (hd : d' + 1 ≤ d) (k : Con mX11_fails d' 0 0 [.inr (.inr 111), .inl (nI 3)] h (zrv fun h' => J mX11_takes d 0 0 Q 0 0 37 [some (.inr (.inr 111)), u1, u2, u3] [] h')) : J mX11_takes d 0 0 Q 0 0 32 [some (.inr (.inr 111)), u1, u2, u3] [] h := by
  refine zrun 17 2 qX11_takes (o := 11) rfl ?_
  show J mX11_takes d 0 0 Q 0 0 34 [some (.inr (.inr 111)), u1, u2, u3] [.inl (nI 3), .inr (.inr 111)] h
  exact zcVv (as := [.inl (nI 3)]) (zat qX11_takes 19 (by rfl)) l11_174 rfl hd rfl (Nat.le_of_ble_eq_true rfl) zle0 (ci := 11) (by decide) rfl (zo hr (by decide) rfl) k

theorem bX11_takes_37 {d : Nat} {Q : Option MV → MH → Prop} {h : MH} {u1 u3 : Option MV} {v2 : Int32} (hr : zRf h) (k1 : ¬ (h.1 111 11) = 0 → J mX11_takes d 0 0 Q 0 0 53 [some (.inr (.inr 111)), u1, some (.inl v2), some (.inl (h.1 111 10))] [] h) (k2 : (h.1 111 11) = 0 → J mX11_takes d 0 0 Q 0 0 49 [some (.inr (.inr 111)), u1, some (.inl v2), some (.inl (h.1 111 10))] [] h) : J mX11_takes d 0 0 Q 0 0 37 [some (.inr (.inr 111)), u1, some (.inl v2), u3] [] h := by
  refine zrun 20 6 qX11_takes (o := 11) rfl ?_
  show zokO h 111 11 ∧ zokO h 111 11 ∧ ((¬ (h.1 111 11) = 0 → J mX11_takes d 0 0 Q 0 0 53 [some (.inr (.inr 111)), u1, some (.inl v2), some (.inl (h.1 111 10))] [] h) ∧ ((h.1 111 11) = 0 → J mX11_takes d 0 0 Q 0 0 49 [some (.inr (.inr 111)), u1, some (.inl v2), some (.inl (h.1 111 10))] [] h))
  exact ⟨(zo hr (by decide) rfl), (zo hr (by decide) rfl), k1, k2⟩

theorem bX11_takes_49 {d d' : Nat} {Q : Option MV → MH → Prop} {h : MH} {u1 u2 u3 : Option MV} (hr : zRf h) (hd : d' + 1 ≤ d) (k : Con mX11_next d' 0 0 [.inr (.inr 111)] h (zrv fun h' => J mX11_takes d 0 0 Q 0 0 53 [some (.inr (.inr 111)), u1, u2, u3] [] h')) : J mX11_takes d 0 0 Q 0 0 49 [some (.inr (.inr 111)), u1, u2, u3] [] h := by
  refine zrun 26 1 qX11_takes (o := 11) rfl ?_
  show J mX11_takes d 0 0 Q 0 0 50 [some (.inr (.inr 111)), u1, u2, u3] [.inr (.inr 111)] h
  exact zcVv (as := []) (zat qX11_takes 27 (by rfl)) l11_168 rfl hd rfl (Nat.le_of_ble_eq_true rfl) zle0 (ci := 11) (by decide) rfl (zo hr (by decide) rfl) k

theorem bX11_takes_53 {d : Nat} {Q : Option MV → MH → Prop} {h : MH} {u0 u1 u2 : Option MV} {v3 : Int32} (k : Q (some (.inl v3)) h) : J mX11_takes d 0 0 Q 0 0 53 [u0, u1, u2, some (.inl v3)] [] h := by
  refine zrun 28 1 qX11_takes (o := 11) rfl ?_
  show J mX11_takes d 0 0 Q 0 0 54 [u0, u1, u2, some (.inl v3)] [.inl v3] h
  exact J_iret (ty := .int) (zat qX11_takes 29 (by rfl)) rfl rfl (Nat.le_refl 0) (Nat.le_refl 0) k

theorem bX11_begins_0 {d : Nat} {Q : Option MV → MH → Prop} {h : MH} {u2 : Option MV} {v1 : Int32} (hr : zRf h) (k : J mX11_begins d 0 0 Q 0 0 22 [some (.inr (.inr 111)), some (.inl v1), some (.inl (nI 0))] [] (zsI (zsI (zsI (zsI h 111 8 v1) 111 5 (nI 0)) 111 7 (nI 0)) 111 11 (nI 0))) : J mX11_begins d 0 0 Q 0 0 0 [some (.inr (.inr 111)), some (.inl v1), u2] [] h := by
  refine zrun 0 14 qX11_begins (o := 11) rfl ?_
  show zokO h 111 11 ∧ zokO (zsI h 111 8 v1) 111 11 ∧ zokO (zsI (zsI h 111 8 v1) 111 5 (nI 0)) 111 11 ∧ zokO (zsI (zsI (zsI h 111 8 v1) 111 5 (nI 0)) 111 7 (nI 0)) 111 11 ∧ J mX11_begins d 0 0 Q 0 0 22 [some (.inr (.inr 111)), some (.inl v1), some (.inl (nI 0))] [] (zsI (zsI (zsI (zsI h 111 8 v1) 111 5 (nI 0)) 111 7 (nI 0)) 111 11 (nI 0))
  exact ⟨(zo hr (by decide) rfl), (zo hr (by decide) rfl), (zo hr (by decide) rfl), (zo hr (by decide) rfl), k⟩

theorem bX11_begins_22 {d : Nat} {Q : Option MV → MH → Prop} {h : MH} {u1 : Option MV} {v2 : Int32} (hr : zRf h) (k1 : (nI 236) ≤ v2 → J mX11_begins d 0 0 Q 0 0 44 [some (.inr (.inr 111)), u1, some (.inl v2)] [] h) (k2 : ¬ (nI 236) ≤ v2 → J mX11_begins d 0 0 Q 0 0 31 [some (.inr (.inr 111)), u1, some (.inl v2)] [] h) : J mX11_begins d 0 0 Q 0 0 22 [some (.inr (.inr 111)), u1, some (.inl v2)] [] h := by
  refine zrun 14 5 qX11_begins (o := 11) rfl ?_
  show zokO h 111 11 ∧ (0 < h.2.2.1 111 4 ∧ (h.2.2.1 111 4) ≤ h.2.2.2 ∧ (zk (h.2.2.1 111 4)).1 = 20) ∧ (((nI (zk (h.2.2.1 111 4)).2) ≤ v2 → J mX11_begins d 0 0 Q 0 0 44 [some (.inr (.inr 111)), u1, some (.inl v2)] [] h) ∧ (¬ (nI (zk (h.2.2.1 111 4)).2) ≤ v2 → J mX11_begins d 0 0 Q 0 0 31 [some (.inr (.inr 111)), u1, some (.inl v2)] [] h))
  rw [(show h.2.2.1 111 4 = 115 from (hr.at (by decide) (by decide) (by rfl)))]
  exact ⟨(zo hr (by decide) rfl), ⟨by decide, by have := hr.n; omega, rfl⟩, k1, k2⟩

theorem bX11_begins_31 {d : Nat} {Q : Option MV → MH → Prop} {h : MH} {v2 v1 : Int32} (hr : zRf h) (g0 : vp_in v2 236) (k : J mX11_begins d 0 0 Q 0 0 22 [some (.inr (.inr 111)), some (.inl v1), some (.inl (v2 + nI 1))] [] (zsI h 115 v2.toNatClampNeg (nI 0))) : J mX11_begins d 0 0 Q 0 0 31 [some (.inr (.inr 111)), some (.inl v1), some (.inl v2)] [] h := by
  refine zrun 19 7 qX11_begins (o := 11) rfl ?_
  show zokO h 111 11 ∧ zokA h (h.2.2.1 111 4) 20 v2 ∧ J mX11_begins d 0 0 Q 0 0 22 [some (.inr (.inr 111)), some (.inl v1), some (.inl (v2 + nI 1))] [] (zsI h (h.2.2.1 111 4) v2.toNatClampNeg (nI 0))
  rw [(show h.2.2.1 111 4 = 115 from (hr.at (by decide) (by decide) (by rfl)))]
  exact ⟨(zo hr (by decide) rfl), (zia hr (by decide) (by rfl) g0), k⟩

theorem bX11_begins_44 {d d' : Nat} {Q : Option MV → MH → Prop} {h : MH} {u1 u2 : Option MV} (hr : zRf h) (hd : d' + 1 ≤ d) (k : Con mX11_next d' 0 0 [.inr (.inr 111)] h (zrv fun h' => J mX11_begins d 0 0 Q 0 0 48 [some (.inr (.inr 111)), u1, u2] [] h')) : J mX11_begins d 0 0 Q 0 0 44 [some (.inr (.inr 111)), u1, u2] [] h := by
  refine zrun 26 1 qX11_begins (o := 11) rfl ?_
  show J mX11_begins d 0 0 Q 0 0 45 [some (.inr (.inr 111)), u1, u2] [.inr (.inr 111)] h
  exact zcVv (as := []) (zat qX11_begins 27 (by rfl)) l11_168 rfl hd rfl (Nat.le_of_ble_eq_true rfl) zle0 (ci := 11) (by decide) rfl (zo hr (by decide) rfl) k

theorem bX11_begins_48 {d : Nat} {Q : Option MV → MH → Prop} {h : MH} {u0 u1 u2 : Option MV} (k : Q none h) : J mX11_begins d 0 0 Q 0 0 48 [u0, u1, u2] [] h := by
  exact J_vret (zat qX11_begins 28 (by rfl)) rfl (Nat.le_refl 0) (Nat.le_refl 0) k

theorem bX11_told_0 {d : Nat} {Q : Option MV → MH → Prop} {h : MH} (hr : zRf h) (k1 : ¬ ((zsI h 111 13 (h.1 111 11)).1 111 11) = 0 → J mX11_told d 0 0 Q 0 0 20 [some (.inr (.inr 111))] [.inr (.inr 111)] (zsI h 111 13 (h.1 111 11))) (k2 : ((zsI h 111 13 (h.1 111 11)).1 111 11) = 0 → J mX11_told d 0 0 Q 0 0 16 [some (.inr (.inr 111))] [.inr (.inr 111)] (zsI h 111 13 (h.1 111 11))) : J mX11_told d 0 0 Q 0 0 0 [some (.inr (.inr 111))] [] h := by
  refine zrun 0 8 qX11_told (o := 11) rfl ?_
  show zokO h 111 11 ∧ zokO h 111 11 ∧ zokO (zsI h 111 13 (h.1 111 11)) 111 11 ∧ ((¬ ((zsI h 111 13 (h.1 111 11)).1 111 11) = 0 → J mX11_told d 0 0 Q 0 0 20 [some (.inr (.inr 111))] [.inr (.inr 111)] (zsI h 111 13 (h.1 111 11))) ∧ (((zsI h 111 13 (h.1 111 11)).1 111 11) = 0 → J mX11_told d 0 0 Q 0 0 16 [some (.inr (.inr 111))] [.inr (.inr 111)] (zsI h 111 13 (h.1 111 11))))
  exact ⟨(zo hr (by decide) rfl), (zo hr (by decide) rfl), (zo hr (by decide) rfl), k1, k2⟩

theorem bX11_told_16 {d : Nat} {Q : Option MV → MH → Prop} {h : MH} {u0 : Option MV} (k : J mX11_told d 0 0 Q 0 0 24 [u0] [.inl (-(nI 1)), .inr (.inr 111)] h) : J mX11_told d 0 0 Q 0 0 16 [u0] [.inr (.inr 111)] h := by
  refine zrun 8 2 qX11_told (o := 11) rfl ?_
  show J mX11_told d 0 0 Q 0 0 24 [u0] [.inl (-(nI 1)), .inr (.inr 111)] h
  exact k

theorem bX11_told_20 {d : Nat} {Q : Option MV → MH → Prop} {h : MH} (hr : zRf h) (k : J mX11_told d 0 0 Q 0 0 24 [some (.inr (.inr 111))] [.inl (h.1 111 12), .inr (.inr 111)] h) : J mX11_told d 0 0 Q 0 0 20 [some (.inr (.inr 111))] [.inr (.inr 111)] h := by
  refine zrun 10 2 qX11_told (o := 11) rfl ?_
  show zokO h 111 11 ∧ J mX11_told d 0 0 Q 0 0 24 [some (.inr (.inr 111))] [.inl (h.1 111 12), .inr (.inr 111)] h
  exact ⟨(zo hr (by decide) rfl), k⟩

theorem bX11_told_24 {d : Nat} {Q : Option MV → MH → Prop} {h : MH} {vs1 : Int32} (hr : zRf h) (k1 : ¬ ((zsI h 111 14 vs1).1 111 11) = 0 → J mX11_told d 0 0 Q 0 0 38 [some (.inr (.inr 111))] [] (zsI h 111 14 vs1)) (k2 : ((zsI h 111 14 vs1).1 111 11) = 0 → J mX11_told d 0 0 Q 0 0 34 [some (.inr (.inr 111))] [] (zsI h 111 14 vs1)) : J mX11_told d 0 0 Q 0 0 24 [some (.inr (.inr 111))] [.inl vs1, .inr (.inr 111)] h := by
  refine zrun 12 4 qX11_told (o := 11) rfl ?_
  show zokO h 111 11 ∧ zokO (zsI h 111 14 vs1) 111 11 ∧ ((¬ ((zsI h 111 14 vs1).1 111 11) = 0 → J mX11_told d 0 0 Q 0 0 38 [some (.inr (.inr 111))] [] (zsI h 111 14 vs1)) ∧ (((zsI h 111 14 vs1).1 111 11) = 0 → J mX11_told d 0 0 Q 0 0 34 [some (.inr (.inr 111))] [] (zsI h 111 14 vs1)))
  exact ⟨(zo hr (by decide) rfl), (zo hr (by decide) rfl), k1, k2⟩

theorem bX11_told_34 {d : Nat} {Q : Option MV → MH → Prop} {h : MH} {u0 : Option MV} (k : J mX11_told d 0 0 Q 0 0 45 [u0] [.inl (nI 0)] h) : J mX11_told d 0 0 Q 0 0 34 [u0] [] h := by
  refine zrun 16 2 qX11_told (o := 11) rfl ?_
  show J mX11_told d 0 0 Q 0 0 45 [u0] [.inl (nI 0)] h
  exact k

theorem bX11_told_38 {d : Nat} {Q : Option MV → MH → Prop} {h : MH} (hr : zRf h) (k : J mX11_told d 0 0 Q 0 0 45 [some (.inr (.inr 111))] [.inl ((-(nI 30)) - (h.1 111 11))] h) : J mX11_told d 0 0 Q 0 0 38 [some (.inr (.inr 111))] [] h := by
  refine zrun 18 4 qX11_told (o := 11) rfl ?_
  show zokO h 111 11 ∧ J mX11_told d 0 0 Q 0 0 45 [some (.inr (.inr 111))] [.inl ((-(nI 30)) - (h.1 111 11))] h
  exact ⟨(zo hr (by decide) rfl), k⟩

theorem bX11_told_45 {d : Nat} {Q : Option MV → MH → Prop} {h : MH} {u0 : Option MV} {vs0 : Int32} (k : Q (some (.inl vs0)) h) : J mX11_told d 0 0 Q 0 0 45 [u0] [.inl vs0] h := by
  exact J_iret (ty := .int) (zat qX11_told 22 (by rfl)) rfl rfl (Nat.le_refl 0) (Nat.le_refl 0) k

theorem bX11_readCandle_0 {d d' : Nat} {Q : Option MV → MH → Prop} {h : MH} {u1 u2 u3 : Option MV} (hr : zRf h) (g0 : vp_in (nI 0) 236) (hd : d' + 1 ≤ d) (k : Con mX11_is d' 0 0 [.inr (.inr 111), .inl (nI 0)] h (zri fun (x : Int32) h' => J mX11_readCandle d 0 0 Q 0 0 12 [some (.inr (.inr 111)), some (.inl (h.1 115 0)), u2, u3] [.inl x] h')) : J mX11_readCandle d 0 0 Q 0 0 0 [some (.inr (.inr 111)), u1, u2, u3] [] h := by
  refine zrun 0 7 qX11_readCandle (o := 11) rfl ?_
  show zokO h 111 11 ∧ zokA h (h.2.2.1 111 4) 20 (nI 0) ∧ J mX11_readCandle d 0 0 Q 0 0 9 [some (.inr (.inr 111)), some (.inl (h.1 (h.2.2.1 111 4) 0)), u2, u3] [.inl (nI 0), .inr (.inr 111)] h
  rw [(show h.2.2.1 111 4 = 115 from (hr.at (by decide) (by decide) (by rfl)))]
  exact ⟨(zo hr (by decide) rfl), (zia hr (by decide) (by rfl) g0), zcVi (as := [.inl (nI 0)]) (zat qX11_readCandle 7 (by rfl)) l11_165 rfl hd rfl (Nat.le_of_ble_eq_true rfl) zle0 (ci := 11) (by decide) rfl (zo hr (by decide) rfl) k⟩

theorem bX11_readCandle_12 {d : Nat} {Q : Option MV → MH → Prop} {h : MH} {u0 u1 u2 u3 : Option MV} {vs0 : Int32} (k1 : ¬ vs0 = 0 → J mX11_readCandle d 0 0 Q 0 0 23 [u0, u1, u2, u3] [] h) (k2 : vs0 = 0 → J mX11_readCandle d 0 0 Q 0 0 15 [u0, u1, u2, u3] [] h) : J mX11_readCandle d 0 0 Q 0 0 12 [u0, u1, u2, u3] [.inl vs0] h := by
  refine zrun 8 1 qX11_readCandle (o := 11) rfl ?_
  show ((¬ vs0 = 0 → J mX11_readCandle d 0 0 Q 0 0 23 [u0, u1, u2, u3] [] h) ∧ (vs0 = 0 → J mX11_readCandle d 0 0 Q 0 0 15 [u0, u1, u2, u3] [] h))
  exact ⟨k1, k2⟩

theorem bX11_readCandle_15 {d d' : Nat} {Q : Option MV → MH → Prop} {h : MH} {u1 u2 u3 : Option MV} (hr : zRf h) (hd : d' + 1 ≤ d) (k : Con mX11_fails d' 0 0 [.inr (.inr 111), .inl (nI 2)] h (zrv fun h' => J mX11_readCandle d 0 0 Q 0 0 20 [some (.inr (.inr 111)), u1, u2, u3] [] h')) : J mX11_readCandle d 0 0 Q 0 0 15 [some (.inr (.inr 111)), u1, u2, u3] [] h := by
  refine zrun 9 2 qX11_readCandle (o := 11) rfl ?_
  show J mX11_readCandle d 0 0 Q 0 0 17 [some (.inr (.inr 111)), u1, u2, u3] [.inl (nI 2), .inr (.inr 111)] h
  exact zcVv (as := [.inl (nI 2)]) (zat qX11_readCandle 11 (by rfl)) l11_174 rfl hd rfl (Nat.le_of_ble_eq_true rfl) zle0 (ci := 11) (by decide) rfl (zo hr (by decide) rfl) k

theorem bX11_readCandle_20 {d : Nat} {Q : Option MV → MH → Prop} {h : MH} {u0 u1 u2 u3 : Option MV} (k : J mX11_readCandle d 0 0 Q 0 0 34 [u0, u1, u2, u3] [] h) : J mX11_readCandle d 0 0 Q 0 0 20 [u0, u1, u2, u3] [] h := by
  refine zrun 12 1 qX11_readCandle (o := 11) rfl ?_
  show J mX11_readCandle d 0 0 Q 0 0 34 [u0, u1, u2, u3] [] h
  exact k

theorem bX11_readCandle_23 {d : Nat} {Q : Option MV → MH → Prop} {h : MH} {u0 u2 u3 : Option MV} {v1 : Int32} (k1 : ¬ v1 = (nI 8) → J mX11_readCandle d 0 0 Q 0 0 34 [u0, some (.inl v1), u2, u3] [] h) (k2 : v1 = (nI 8) → J mX11_readCandle d 0 0 Q 0 0 29 [u0, some (.inl v1), u2, u3] [] h) : J mX11_readCandle d 0 0 Q 0 0 23 [u0, some (.inl v1), u2, u3] [] h := by
  refine zrun 13 3 qX11_readCandle (o := 11) rfl ?_
  show ((¬ v1 = (nI 8) → J mX11_readCandle d 0 0 Q 0 0 34 [u0, some (.inl v1), u2, u3] [] h) ∧ (v1 = (nI 8) → J mX11_readCandle d 0 0 Q 0 0 29 [u0, some (.inl v1), u2, u3] [] h))
  exact ⟨k1, k2⟩

theorem bX11_readCandle_29 {d d' : Nat} {Q : Option MV → MH → Prop} {h : MH} {u1 u2 u3 : Option MV} (hr : zRf h) (hd : d' + 1 ≤ d) (k : Con mX11_fails d' 0 0 [.inr (.inr 111), .inl (nI 4)] h (zrv fun h' => J mX11_readCandle d 0 0 Q 0 0 34 [some (.inr (.inr 111)), u1, u2, u3] [] h')) : J mX11_readCandle d 0 0 Q 0 0 29 [some (.inr (.inr 111)), u1, u2, u3] [] h := by
  refine zrun 16 2 qX11_readCandle (o := 11) rfl ?_
  show J mX11_readCandle d 0 0 Q 0 0 31 [some (.inr (.inr 111)), u1, u2, u3] [.inl (nI 4), .inr (.inr 111)] h
  exact zcVv (as := [.inl (nI 4)]) (zat qX11_readCandle 18 (by rfl)) l11_174 rfl hd rfl (Nat.le_of_ble_eq_true rfl) zle0 (ci := 11) (by decide) rfl (zo hr (by decide) rfl) k

theorem bX11_readCandle_34 {d : Nat} {Q : Option MV → MH → Prop} {h : MH} {u1 u2 u3 : Option MV} (hr : zRf h) (k1 : (h.1 111 11) = 0 → J mX11_readCandle d 0 0 Q 0 0 42 [some (.inr (.inr 111)), u1, u2, u3] [] h) (k2 : ¬ (h.1 111 11) = 0 → J mX11_readCandle d 0 0 Q 0 0 41 [some (.inr (.inr 111)), u1, u2, u3] [] h) : J mX11_readCandle d 0 0 Q 0 0 34 [some (.inr (.inr 111)), u1, u2, u3] [] h := by
  refine zrun 19 3 qX11_readCandle (o := 11) rfl ?_
  show zokO h 111 11 ∧ (((h.1 111 11) = 0 → J mX11_readCandle d 0 0 Q 0 0 42 [some (.inr (.inr 111)), u1, u2, u3] [] h) ∧ (¬ (h.1 111 11) = 0 → J mX11_readCandle d 0 0 Q 0 0 41 [some (.inr (.inr 111)), u1, u2, u3] [] h))
  exact ⟨(zo hr (by decide) rfl), k1, k2⟩

theorem bX11_readCandle_41 {d : Nat} {Q : Option MV → MH → Prop} {h : MH} {u0 u1 u2 u3 : Option MV} (k : Q none h) : J mX11_readCandle d 0 0 Q 0 0 41 [u0, u1, u2, u3] [] h := by
  exact J_vret (zat qX11_readCandle 22 (by rfl)) rfl (Nat.le_refl 0) (Nat.le_refl 0) k

theorem bX11_readCandle_42 {d d' : Nat} {Q : Option MV → MH → Prop} {h : MH} {u1 u2 u3 : Option MV} (hr : zRf h) (hd : d' + 1 ≤ d) (k : Con mX11_next d' 0 0 [.inr (.inr 111)] h (zrv fun h' => J mX11_readCandle d 0 0 Q 0 0 46 [some (.inr (.inr 111)), u1, u2, u3] [] h')) : J mX11_readCandle d 0 0 Q 0 0 42 [some (.inr (.inr 111)), u1, u2, u3] [] h := by
  refine zrun 23 1 qX11_readCandle (o := 11) rfl ?_
  show J mX11_readCandle d 0 0 Q 0 0 43 [some (.inr (.inr 111)), u1, u2, u3] [.inr (.inr 111)] h
  exact zcVv (as := []) (zat qX11_readCandle 24 (by rfl)) l11_168 rfl hd rfl (Nat.le_of_ble_eq_true rfl) zle0 (ci := 11) (by decide) rfl (zo hr (by decide) rfl) k

theorem bX11_readCandle_46 {d : Nat} {Q : Option MV → MH → Prop} {h : MH} {u0 u2 u3 : Option MV} {v1 : Int32} (k : J mX11_readCandle d 0 0 Q 0 0 48 [u0, some (.inl v1), some (.inl (nI 0)), u3] [] h) : J mX11_readCandle d 0 0 Q 0 0 46 [u0, some (.inl v1), u2, u3] [] h := by
  refine zrun 25 2 qX11_readCandle (o := 11) rfl ?_
  show J mX11_readCandle d 0 0 Q 0 0 48 [u0, some (.inl v1), some (.inl (nI 0)), u3] [] h
  exact k

theorem bX11_readCandle_48 {d : Nat} {Q : Option MV → MH → Prop} {h : MH} {u0 u1 u3 : Option MV} {v2 : Int32} (k1 : v2 = 0 → J mX11_readCandle d 0 0 Q 0 0 61 [u0, u1, some (.inl v2), u3] [] h) (k2 : ¬ v2 = 0 → J mX11_readCandle d 0 0 Q 0 0 52 [u0, u1, some (.inl v2), u3] [] h) : J mX11_readCandle d 0 0 Q 0 0 48 [u0, u1, some (.inl v2), u3] [] h := by
  refine zrun 27 2 qX11_readCandle (o := 11) rfl ?_
  show ((v2 = 0 → J mX11_readCandle d 0 0 Q 0 0 61 [u0, u1, some (.inl v2), u3] [] h) ∧ (¬ v2 = 0 → J mX11_readCandle d 0 0 Q 0 0 52 [u0, u1, some (.inl v2), u3] [] h))
  exact ⟨k1, k2⟩

theorem bX11_readCandle_52 {d d' : Nat} {Q : Option MV → MH → Prop} {h : MH} {u1 u2 u3 : Option MV} (hr : zRf h) (hd : d' + 1 ≤ d) (k : Con mX11_is d' 0 0 [.inr (.inr 111), .inl (nI 12)] h (zri fun (x : Int32) h' => J mX11_readCandle d 0 0 Q 0 0 58 [some (.inr (.inr 111)), u1, u2, u3] [.inl x] h')) : J mX11_readCandle d 0 0 Q 0 0 52 [some (.inr (.inr 111)), u1, u2, u3] [] h := by
  refine zrun 29 2 qX11_readCandle (o := 11) rfl ?_
  show J mX11_readCandle d 0 0 Q 0 0 55 [some (.inr (.inr 111)), u1, u2, u3] [.inl (nI 12), .inr (.inr 111)] h
  exact zcVi (as := [.inl (nI 12)]) (zat qX11_readCandle 31 (by rfl)) l11_165 rfl hd rfl (Nat.le_of_ble_eq_true rfl) zle0 (ci := 11) (by decide) rfl (zo hr (by decide) rfl) k

theorem bX11_readCandle_58 {d : Nat} {Q : Option MV → MH → Prop} {h : MH} {u0 u1 u2 u3 : Option MV} {vs0 : Int32} (k1 : vs0 = 0 → J mX11_readCandle d 0 0 Q 0 0 124 [u0, u1, u2, u3] [] h) (k2 : ¬ vs0 = 0 → J mX11_readCandle d 0 0 Q 0 0 61 [u0, u1, u2, u3] [] h) : J mX11_readCandle d 0 0 Q 0 0 58 [u0, u1, u2, u3] [.inl vs0] h := by
  refine zrun 32 1 qX11_readCandle (o := 11) rfl ?_
  show ((vs0 = 0 → J mX11_readCandle d 0 0 Q 0 0 124 [u0, u1, u2, u3] [] h) ∧ (¬ vs0 = 0 → J mX11_readCandle d 0 0 Q 0 0 61 [u0, u1, u2, u3] [] h))
  exact ⟨k1, k2⟩

theorem bX11_readCandle_61 {d : Nat} {Q : Option MV → MH → Prop} {h : MH} {u0 u1 u3 : Option MV} {v2 : Int32} (k1 : ¬ v2 = (nI 6) → J mX11_readCandle d 0 0 Q 0 0 87 [u0, u1, some (.inl v2), u3] [] h) (k2 : v2 = (nI 6) → J mX11_readCandle d 0 0 Q 0 0 67 [u0, u1, some (.inl v2), u3] [] h) : J mX11_readCandle d 0 0 Q 0 0 61 [u0, u1, some (.inl v2), u3] [] h := by
  refine zrun 33 3 qX11_readCandle (o := 11) rfl ?_
  show ((¬ v2 = (nI 6) → J mX11_readCandle d 0 0 Q 0 0 87 [u0, u1, some (.inl v2), u3] [] h) ∧ (v2 = (nI 6) → J mX11_readCandle d 0 0 Q 0 0 67 [u0, u1, some (.inl v2), u3] [] h))
  exact ⟨k1, k2⟩

theorem bX11_readCandle_67 {d d' : Nat} {Q : Option MV → MH → Prop} {h : MH} {u1 u2 u3 : Option MV} (hr : zRf h) (hd : d' + 1 ≤ d) (k : Con mX11_within d' 0 0 [.inr (.inl ((h.1 111 10).toInt64)), .inr (.inl (lN 1)), .inr (.inl (60 : Int64))] h (zri fun (x : Int32) h' => J mX11_readCandle d 0 0 Q 0 0 79 [some (.inr (.inr 111)), u1, u2, u3] [.inl x] h')) : J mX11_readCandle d 0 0 Q 0 0 67 [some (.inr (.inr 111)), u1, u2, u3] [] h := by
  refine zrun 36 5 qX11_readCandle (o := 11) rfl ?_
  show zokO h 111 11 ∧ J mX11_readCandle d 0 0 Q 0 0 76 [some (.inr (.inr 111)), u1, u2, u3] [.inr (.inl (60 : Int64)), .inr (.inl (lN 1)), .inr (.inl ((h.1 111 10).toInt64))] h
  exact ⟨(zo hr (by decide) rfl), zcSi (as := [.inr (.inl ((h.1 111 10).toInt64)), .inr (.inl (lN 1)), .inr (.inl (60 : Int64))]) (zat qX11_readCandle 41 (by rfl)) l11_178 rfl hd rfl (Nat.le_of_ble_eq_true rfl) zle0 k⟩

theorem bX11_readCandle_79 {d : Nat} {Q : Option MV → MH → Prop} {h : MH} {u0 u1 u2 u3 : Option MV} {vs0 : Int32} (k1 : vs0 = 0 → J mX11_readCandle d 0 0 Q 0 0 87 [u0, u1, u2, u3] [] h) (k2 : ¬ vs0 = 0 → J mX11_readCandle d 0 0 Q 0 0 82 [u0, u1, u2, u3] [] h) : J mX11_readCandle d 0 0 Q 0 0 79 [u0, u1, u2, u3] [.inl vs0] h := by
  refine zrun 42 1 qX11_readCandle (o := 11) rfl ?_
  show ((vs0 = 0 → J mX11_readCandle d 0 0 Q 0 0 87 [u0, u1, u2, u3] [] h) ∧ (¬ vs0 = 0 → J mX11_readCandle d 0 0 Q 0 0 82 [u0, u1, u2, u3] [] h))
  exact ⟨k1, k2⟩

theorem bX11_readCandle_82 {d d' : Nat} {Q : Option MV → MH → Prop} {h : MH} {u1 u2 u3 : Option MV} (hr : zRf h) (hd : d' + 1 ≤ d) (k : Con mX11_fails d' 0 0 [.inr (.inr 111), .inl (nI 4)] h (zrv fun h' => J mX11_readCandle d 0 0 Q 0 0 87 [some (.inr (.inr 111)), u1, u2, u3] [] h')) : J mX11_readCandle d 0 0 Q 0 0 82 [some (.inr (.inr 111)), u1, u2, u3] [] h := by
  refine zrun 43 2 qX11_readCandle (o := 11) rfl ?_
  show J mX11_readCandle d 0 0 Q 0 0 84 [some (.inr (.inr 111)), u1, u2, u3] [.inl (nI 4), .inr (.inr 111)] h
  exact zcVv (as := [.inl (nI 4)]) (zat qX11_readCandle 45 (by rfl)) l11_174 rfl hd rfl (Nat.le_of_ble_eq_true rfl) zle0 (ci := 11) (by decide) rfl (zo hr (by decide) rfl) k

theorem bX11_readCandle_87 {d d' : Nat} {Q : Option MV → MH → Prop} {h : MH} {u1 u2 u3 : Option MV} (hr : zRf h) (hd : d' + 1 ≤ d) (k : Con mX11_takes d' 0 0 [.inr (.inr 111), .inl (nI 1), .inl (nI 60)] h (zri fun (x : Int32) h' => J mX11_readCandle d 0 0 Q 0 0 94 [some (.inr (.inr 111)), u1, u2, u3] [.inl x] h')) : J mX11_readCandle d 0 0 Q 0 0 87 [some (.inr (.inr 111)), u1, u2, u3] [] h := by
  refine zrun 46 3 qX11_readCandle (o := 11) rfl ?_
  show J mX11_readCandle d 0 0 Q 0 0 91 [some (.inr (.inr 111)), u1, u2, u3] [.inl (nI 60), .inl (nI 1), .inr (.inr 111)] h
  exact zcVi (as := [.inl (nI 1), .inl (nI 60)]) (zat qX11_readCandle 49 (by rfl)) l11_187 rfl hd rfl (Nat.le_of_ble_eq_true rfl) zle0 (ci := 11) (by decide) rfl (zo hr (by decide) rfl) k

theorem bX11_readCandle_94 {d : Nat} {Q : Option MV → MH → Prop} {h : MH} {u1 u3 : Option MV} {vs0 v2 : Int32} (hr : zRf h) (k1 : (h.1 111 11) = 0 → J mX11_readCandle d 0 0 Q 0 0 103 [some (.inr (.inr 111)), u1, some (.inl v2), some (.inl vs0)] [] h) (k2 : ¬ (h.1 111 11) = 0 → J mX11_readCandle d 0 0 Q 0 0 102 [some (.inr (.inr 111)), u1, some (.inl v2), some (.inl vs0)] [] h) : J mX11_readCandle d 0 0 Q 0 0 94 [some (.inr (.inr 111)), u1, some (.inl v2), u3] [.inl vs0] h := by
  refine zrun 50 4 qX11_readCandle (o := 11) rfl ?_
  show zokO h 111 11 ∧ (((h.1 111 11) = 0 → J mX11_readCandle d 0 0 Q 0 0 103 [some (.inr (.inr 111)), u1, some (.inl v2), some (.inl vs0)] [] h) ∧ (¬ (h.1 111 11) = 0 → J mX11_readCandle d 0 0 Q 0 0 102 [some (.inr (.inr 111)), u1, some (.inl v2), some (.inl vs0)] [] h))
  exact ⟨(zo hr (by decide) rfl), k1, k2⟩

theorem bX11_readCandle_102 {d : Nat} {Q : Option MV → MH → Prop} {h : MH} {u0 u1 u2 u3 : Option MV} (k : Q none h) : J mX11_readCandle d 0 0 Q 0 0 102 [u0, u1, u2, u3] [] h := by
  exact J_vret (zat qX11_readCandle 54 (by rfl)) rfl (Nat.le_refl 0) (Nat.le_refl 0) k

theorem bX11_readCandle_103 {d : Nat} {Q : Option MV → MH → Prop} {h : MH} {v1 v2 v3 : Int32} (hr : zRf h) (g0 : vp_in (((nI 9) + ((nI 6) * v1)) + v2) 236) (k : J mX11_readCandle d 0 0 Q 0 0 48 [some (.inr (.inr 111)), some (.inl v1), some (.inl (v2 + nI 1)), some (.inl v3)] [] (zsI h 115 (((nI 9) + ((nI 6) * v1)) + v2).toNatClampNeg v3)) : J mX11_readCandle d 0 0 Q 0 0 103 [some (.inr (.inr 111)), some (.inl v1), some (.inl v2), some (.inl v3)] [] h := by
  refine zrun 55 13 qX11_readCandle (o := 11) rfl ?_
  show zokO h 111 11 ∧ zokA h (h.2.2.1 111 4) 20 (((nI 9) + ((nI 6) * v1)) + v2) ∧ J mX11_readCandle d 0 0 Q 0 0 48 [some (.inr (.inr 111)), some (.inl v1), some (.inl (v2 + nI 1)), some (.inl v3)] [] (zsI h (h.2.2.1 111 4) (((nI 9) + ((nI 6) * v1)) + v2).toNatClampNeg v3)
  rw [(show h.2.2.1 111 4 = 115 from (hr.at (by decide) (by decide) (by rfl)))]
  exact ⟨(zo hr (by decide) rfl), (zia hr (by decide) (by rfl) g0), k⟩

theorem bX11_readCandle_124 {d d' : Nat} {Q : Option MV → MH → Prop} {h : MH} {u3 : Option MV} {v1 v2 : Int32} (hr : zRf h) (g0 : vp_in ((nI 1) + v1) 236) (g1 : vp_in ((nI 57) + v1) 236) (hd : d' + 1 ≤ d) (k : Con mX11_eats d' 0 0 [.inr (.inr 111), .inl (nI 1)] (zsI (zsI h 115 ((nI 1) + v1).toNatClampNeg v2) 115 ((nI 57) + v1).toNatClampNeg (nI 60)) (zri fun (x : Int32) h' => J mX11_readCandle d 0 0 Q 0 0 149 [some (.inr (.inr 111)), some (.inl v1), some (.inl v2), u3] [.inl x] h')) : J mX11_readCandle d 0 0 Q 0 0 124 [some (.inr (.inr 111)), some (.inl v1), some (.inl v2), u3] [] h := by
  refine zrun 68 16 qX11_readCandle (o := 11) rfl ?_
  show zokO h 111 11 ∧ zokA h (h.2.2.1 111 4) 20 ((nI 1) + v1) ∧ zokO (zsI h (h.2.2.1 111 4) ((nI 1) + v1).toNatClampNeg v2) 111 11 ∧ zokA (zsI h (h.2.2.1 111 4) ((nI 1) + v1).toNatClampNeg v2) (h.2.2.1 111 4) 20 ((nI 57) + v1) ∧ J mX11_readCandle d 0 0 Q 0 0 146 [some (.inr (.inr 111)), some (.inl v1), some (.inl v2), u3] [.inl (nI 1), .inr (.inr 111)] (zsI (zsI h (h.2.2.1 111 4) ((nI 1) + v1).toNatClampNeg v2) (h.2.2.1 111 4) ((nI 57) + v1).toNatClampNeg (nI 60))
  rw [(show h.2.2.1 111 4 = 115 from (hr.at (by decide) (by decide) (by rfl)))]
  exact ⟨(zo hr (by decide) rfl), (zia hr (by decide) (by rfl) g0), (zo hr (by decide) rfl), (zia hr (by decide) (by rfl) g1), zcVi (as := [.inl (nI 1)]) (zat qX11_readCandle 84 (by rfl)) l11_171 rfl hd rfl (Nat.le_of_ble_eq_true rfl) zle0 (ci := 11) (by decide) rfl (show zokO _ _ _ from (zo hr (by decide) rfl)) k⟩

theorem bX11_readCandle_149 {d : Nat} {Q : Option MV → MH → Prop} {h : MH} {u0 u1 u2 u3 : Option MV} {vs0 : Int32} (k1 : vs0 = 0 → J mX11_readCandle d 0 0 Q 0 0 169 [u0, u1, u2, u3] [] h) (k2 : ¬ vs0 = 0 → J mX11_readCandle d 0 0 Q 0 0 152 [u0, u1, u2, u3] [] h) : J mX11_readCandle d 0 0 Q 0 0 149 [u0, u1, u2, u3] [.inl vs0] h := by
  refine zrun 85 1 qX11_readCandle (o := 11) rfl ?_
  show ((vs0 = 0 → J mX11_readCandle d 0 0 Q 0 0 169 [u0, u1, u2, u3] [] h) ∧ (¬ vs0 = 0 → J mX11_readCandle d 0 0 Q 0 0 152 [u0, u1, u2, u3] [] h))
  exact ⟨k1, k2⟩

theorem bX11_readCandle_152 {d d' : Nat} {Q : Option MV → MH → Prop} {h : MH} {u2 u3 : Option MV} {v1 : Int32} (hr : zRf h) (hd : d' + 1 ≤ d) (k : Con mX11_takes d' 0 0 [.inr (.inr 111), .inl (nI 1), .inl (nI 999)] h (zri fun (x : Int32) h' => J mX11_readCandle d 0 0 Q 0 0 168 [some (.inr (.inr 111)), some (.inl v1), u2, u3] [.inl x, .inl ((nI 57) + v1), .inr (.inr 115)] h')) : J mX11_readCandle d 0 0 Q 0 0 152 [some (.inr (.inr 111)), some (.inl v1), u2, u3] [] h := by
  refine zrun 86 8 qX11_readCandle (o := 11) rfl ?_
  show zokO h 111 11 ∧ J mX11_readCandle d 0 0 Q 0 0 165 [some (.inr (.inr 111)), some (.inl v1), u2, u3] [.inl (nI 999), .inl (nI 1), .inr (.inr 111), .inl ((nI 57) + v1), .inr (.inr (h.2.2.1 111 4))] h
  rw [(show h.2.2.1 111 4 = 115 from (hr.at (by decide) (by decide) (by rfl)))]
  exact ⟨(zo hr (by decide) rfl), zcVi (as := [.inl (nI 1), .inl (nI 999)]) (zat qX11_readCandle 94 (by rfl)) l11_187 rfl hd rfl (Nat.le_of_ble_eq_true rfl) zle0 (ci := 11) (by decide) rfl (zo hr (by decide) rfl) k⟩

theorem bX11_readCandle_168 {d : Nat} {Q : Option MV → MH → Prop} {h : MH} {u0 u1 u2 u3 : Option MV} {vs1 vs2 : Int32} {vs0 : Nat} (g0 : zokA h vs0 20 vs1) (k : J mX11_readCandle d 0 0 Q 0 0 169 [u0, u1, u2, u3] [] (zsI h vs0 vs1.toNatClampNeg vs2)) : J mX11_readCandle d 0 0 Q 0 0 168 [u0, u1, u2, u3] [.inl vs2, .inl vs1, .inr (.inr vs0)] h := by
  refine zrun 95 1 qX11_readCandle (o := 11) rfl ?_
  show zokA h vs0 20 vs1 ∧ J mX11_readCandle d 0 0 Q 0 0 169 [u0, u1, u2, u3] [] (zsI h vs0 vs1.toNatClampNeg vs2)
  exact ⟨g0, k⟩

theorem bX11_readCandle_169 {d d' : Nat} {Q : Option MV → MH → Prop} {h : MH} {u1 u2 u3 : Option MV} (hr : zRf h) (hd : d' + 1 ≤ d) (k : Con mX11_eats d' 0 0 [.inr (.inr 111), .inl (nI 2)] h (zri fun (x : Int32) h' => J mX11_readCandle d 0 0 Q 0 0 174 [some (.inr (.inr 111)), u1, u2, u3] [.inl x] h')) : J mX11_readCandle d 0 0 Q 0 0 169 [some (.inr (.inr 111)), u1, u2, u3] [] h := by
  refine zrun 96 2 qX11_readCandle (o := 11) rfl ?_
  show J mX11_readCandle d 0 0 Q 0 0 171 [some (.inr (.inr 111)), u1, u2, u3] [.inl (nI 2), .inr (.inr 111)] h
  exact zcVi (as := [.inl (nI 2)]) (zat qX11_readCandle 98 (by rfl)) l11_171 rfl hd rfl (Nat.le_of_ble_eq_true rfl) zle0 (ci := 11) (by decide) rfl (zo hr (by decide) rfl) k

theorem bX11_readCandle_174 {d : Nat} {Q : Option MV → MH → Prop} {h : MH} {u0 u1 u2 u3 : Option MV} {vs0 : Int32} (k1 : vs0 = 0 → J mX11_readCandle d 0 0 Q 0 0 193 [u0, u1, u2, u3] [] h) (k2 : ¬ vs0 = 0 → J mX11_readCandle d 0 0 Q 0 0 177 [u0, u1, u2, u3] [] h) : J mX11_readCandle d 0 0 Q 0 0 174 [u0, u1, u2, u3] [.inl vs0] h := by
  refine zrun 99 1 qX11_readCandle (o := 11) rfl ?_
  show ((vs0 = 0 → J mX11_readCandle d 0 0 Q 0 0 193 [u0, u1, u2, u3] [] h) ∧ (¬ vs0 = 0 → J mX11_readCandle d 0 0 Q 0 0 177 [u0, u1, u2, u3] [] h))
  exact ⟨k1, k2⟩

theorem bX11_readCandle_177 {d d' : Nat} {Q : Option MV → MH → Prop} {h : MH} {u2 u3 : Option MV} {v1 : Int32} (hr : zRf h) (hd : d' + 1 ≤ d) (k : Con mX11_takes d' 0 0 [.inr (.inr 111), .inl (nI 0), .inl (nI 50)] h (zri fun (x : Int32) h' => J mX11_readCandle d 0 0 Q 0 0 192 [some (.inr (.inr 111)), some (.inl v1), u2, u3] [.inl x, .inl ((nI 65) + v1), .inr (.inr 115)] h')) : J mX11_readCandle d 0 0 Q 0 0 177 [some (.inr (.inr 111)), some (.inl v1), u2, u3] [] h := by
  refine zrun 100 8 qX11_readCandle (o := 11) rfl ?_
  show zokO h 111 11 ∧ J mX11_readCandle d 0 0 Q 0 0 189 [some (.inr (.inr 111)), some (.inl v1), u2, u3] [.inl (nI 50), .inl (nI 0), .inr (.inr 111), .inl ((nI 65) + v1), .inr (.inr (h.2.2.1 111 4))] h
  rw [(show h.2.2.1 111 4 = 115 from (hr.at (by decide) (by decide) (by rfl)))]
  exact ⟨(zo hr (by decide) rfl), zcVi (as := [.inl (nI 0), .inl (nI 50)]) (zat qX11_readCandle 108 (by rfl)) l11_187 rfl hd rfl (Nat.le_of_ble_eq_true rfl) zle0 (ci := 11) (by decide) rfl (zo hr (by decide) rfl) k⟩

theorem bX11_readCandle_192 {d : Nat} {Q : Option MV → MH → Prop} {h : MH} {u0 u1 u2 u3 : Option MV} {vs1 vs2 : Int32} {vs0 : Nat} (g0 : zokA h vs0 20 vs1) (k : J mX11_readCandle d 0 0 Q 0 0 193 [u0, u1, u2, u3] [] (zsI h vs0 vs1.toNatClampNeg vs2)) : J mX11_readCandle d 0 0 Q 0 0 192 [u0, u1, u2, u3] [.inl vs2, .inl vs1, .inr (.inr vs0)] h := by
  refine zrun 109 1 qX11_readCandle (o := 11) rfl ?_
  show zokA h vs0 20 vs1 ∧ J mX11_readCandle d 0 0 Q 0 0 193 [u0, u1, u2, u3] [] (zsI h vs0 vs1.toNatClampNeg vs2)
  exact ⟨g0, k⟩

theorem bX11_readCandle_193 {d d' : Nat} {Q : Option MV → MH → Prop} {h : MH} {u1 u2 u3 : Option MV} (hr : zRf h) (hd : d' + 1 ≤ d) (k : Con mX11_needs d' 0 0 [.inr (.inr 111), .inl (nI 13)] h (zrv fun h' => J mX11_readCandle d 0 0 Q 0 0 199 [some (.inr (.inr 111)), u1, u2, u3] [] h')) : J mX11_readCandle d 0 0 Q 0 0 193 [some (.inr (.inr 111)), u1, u2, u3] [] h := by
  refine zrun 110 2 qX11_readCandle (o := 11) rfl ?_
  show J mX11_readCandle d 0 0 Q 0 0 196 [some (.inr (.inr 111)), u1, u2, u3] [.inl (nI 13), .inr (.inr 111)] h
  exact zcVv (as := [.inl (nI 13)]) (zat qX11_readCandle 112 (by rfl)) l11_191 rfl hd rfl (Nat.le_of_ble_eq_true rfl) zle0 (ci := 11) (by decide) rfl (zo hr (by decide) rfl) k

theorem bX11_readCandle_199 {d : Nat} {Q : Option MV → MH → Prop} {h : MH} {u1 u2 u3 : Option MV} (hr : zRf h) (g0 : vp_in (nI 0) 236) (g1 : vp_in (nI 73) 236) (k : Q none (zsI (zsI h 115 0 ((h.1 115 0) + (nI 1))) 115 73 (((zsI h 115 0 ((h.1 115 0) + (nI 1))).1 115 73) + (nI 1)))) : J mX11_readCandle d 0 0 Q 0 0 199 [some (.inr (.inr 111)), u1, u2, u3] [] h := by
  refine zrun 113 16 qX11_readCandle (o := 11) rfl ?_
  show zokO h 111 11 ∧ zokA h (h.2.2.1 111 4) 20 (nI 0) ∧ zokA h (h.2.2.1 111 4) 20 (nI 0) ∧ zokO (zsI h (h.2.2.1 111 4) 0 ((h.1 (h.2.2.1 111 4) 0) + (nI 1))) 111 11 ∧ zokA (zsI h (h.2.2.1 111 4) 0 ((h.1 (h.2.2.1 111 4) 0) + (nI 1))) (h.2.2.1 111 4) 20 (nI 73) ∧ zokA (zsI h (h.2.2.1 111 4) 0 ((h.1 (h.2.2.1 111 4) 0) + (nI 1))) (h.2.2.1 111 4) 20 (nI 73) ∧ J mX11_readCandle d 0 0 Q 0 0 220 [some (.inr (.inr 111)), u1, u2, u3] [] (zsI (zsI h (h.2.2.1 111 4) 0 ((h.1 (h.2.2.1 111 4) 0) + (nI 1))) (h.2.2.1 111 4) 73 (((zsI h (h.2.2.1 111 4) 0 ((h.1 (h.2.2.1 111 4) 0) + (nI 1))).1 (h.2.2.1 111 4) 73) + (nI 1)))
  rw [(show h.2.2.1 111 4 = 115 from (hr.at (by decide) (by decide) (by rfl)))]
  exact ⟨(zo hr (by decide) rfl), (zia hr (by decide) (by rfl) g0), (zia hr (by decide) (by rfl) g0), (zo hr (by decide) rfl), (zia hr (by decide) (by rfl) g1), (zia hr (by decide) (by rfl) g1), J_vret (zat qX11_readCandle 129 (by rfl)) rfl (Nat.le_refl 0) (Nat.le_refl 0) k⟩

theorem bX11_cellar_0 {d d' : Nat} {Q : Option MV → MH → Prop} {h : MH} {u2 : Option MV} {v1 : Int32} (hr : zRf h) (hd : d' + 1 ≤ d) (k : Con mX11_within d' 0 0 [.inr (.inl v1.toInt64), .inr (.inl (lN 0)), .inr (.inl (((zsI h 111 0 (nI 0)).1 111 5).toInt64))] (zsI h 111 0 (nI 0)) (zri fun (x : Int32) h' => J mX11_cellar d 0 0 Q 0 0 16 [some (.inr (.inr 111)), some (.inl v1), u2] [.inl x] h')) : J mX11_cellar d 0 0 Q 0 0 0 [some (.inr (.inr 111)), some (.inl v1), u2] [] h := by
  refine zrun 0 9 qX11_cellar (o := 11) rfl ?_
  show zokO h 111 11 ∧ zokO (zsI h 111 0 (nI 0)) 111 11 ∧ J mX11_cellar d 0 0 Q 0 0 13 [some (.inr (.inr 111)), some (.inl v1), u2] [.inr (.inl (((zsI h 111 0 (nI 0)).1 111 5).toInt64)), .inr (.inl (lN 0)), .inr (.inl v1.toInt64)] (zsI h 111 0 (nI 0))
  exact ⟨(zo hr (by decide) rfl), (zo hr (by decide) rfl), zcSi (as := [.inr (.inl v1.toInt64), .inr (.inl (lN 0)), .inr (.inl (((zsI h 111 0 (nI 0)).1 111 5).toInt64))]) (zat qX11_cellar 9 (by rfl)) l11_178 rfl hd rfl (Nat.le_of_ble_eq_true rfl) zle0 k⟩

theorem bX11_cellar_16 {d : Nat} {Q : Option MV → MH → Prop} {h : MH} {u0 u1 u2 : Option MV} {vs0 : Int32} (k1 : ¬ vs0 = 0 → J mX11_cellar d 0 0 Q 0 0 22 [u0, u1, u2] [] h) (k2 : vs0 = 0 → J mX11_cellar d 0 0 Q 0 0 19 [u0, u1, u2] [] h) : J mX11_cellar d 0 0 Q 0 0 16 [u0, u1, u2] [.inl vs0] h := by
  refine zrun 10 1 qX11_cellar (o := 11) rfl ?_
  show ((¬ vs0 = 0 → J mX11_cellar d 0 0 Q 0 0 22 [u0, u1, u2] [] h) ∧ (vs0 = 0 → J mX11_cellar d 0 0 Q 0 0 19 [u0, u1, u2] [] h))
  exact ⟨k1, k2⟩

theorem bX11_cellar_19 {d : Nat} {Q : Option MV → MH → Prop} {h : MH} {u0 u1 u2 : Option MV} (k : Q (some (.inl (-(nI 3)))) h) : J mX11_cellar d 0 0 Q 0 0 19 [u0, u1, u2] [] h := by
  refine zrun 11 1 qX11_cellar (o := 11) rfl ?_
  show J mX11_cellar d 0 0 Q 0 0 21 [u0, u1, u2] [.inl (-(nI 3))] h
  exact J_iret (ty := .int) (zat qX11_cellar 12 (by rfl)) rfl rfl (Nat.le_refl 0) (Nat.le_refl 0) k

theorem bX11_cellar_22 {d d' : Nat} {Q : Option MV → MH → Prop} {h : MH} {u2 : Option MV} {v1 : Int32} (hr : zRf h) (hd : d' + 1 ≤ d) (k : Con mX11_begins d' 0 0 [.inr (.inr 111), .inl v1] h (zrv fun h' => J mX11_cellar d 0 0 Q 0 0 27 [some (.inr (.inr 111)), some (.inl v1), u2] [] h')) : J mX11_cellar d 0 0 Q 0 0 22 [some (.inr (.inr 111)), some (.inl v1), u2] [] h := by
  refine zrun 13 2 qX11_cellar (o := 11) rfl ?_
  show J mX11_cellar d 0 0 Q 0 0 24 [some (.inr (.inr 111)), some (.inl v1), u2] [.inl v1, .inr (.inr 111)] h
  exact zcVv (as := [.inl v1]) (zat qX11_cellar 15 (by rfl)) l11_194 rfl hd rfl (Nat.le_of_ble_eq_true rfl) zle0 (ci := 11) (by decide) rfl (zo hr (by decide) rfl) k

theorem bX11_cellar_27 {d : Nat} {Q : Option MV → MH → Prop} {h : MH} {u1 u2 : Option MV} (hr : zRf h) (k1 : ¬ (h.1 111 11) = 0 → J mX11_cellar d 0 0 Q 0 0 50 [some (.inr (.inr 111)), u1, u2] [] h) (k2 : (h.1 111 11) = 0 → J mX11_cellar d 0 0 Q 0 0 34 [some (.inr (.inr 111)), u1, u2] [] h) : J mX11_cellar d 0 0 Q 0 0 27 [some (.inr (.inr 111)), u1, u2] [] h := by
  refine zrun 16 3 qX11_cellar (o := 11) rfl ?_
  show zokO h 111 11 ∧ ((¬ (h.1 111 11) = 0 → J mX11_cellar d 0 0 Q 0 0 50 [some (.inr (.inr 111)), u1, u2] [] h) ∧ ((h.1 111 11) = 0 → J mX11_cellar d 0 0 Q 0 0 34 [some (.inr (.inr 111)), u1, u2] [] h))
  exact ⟨(zo hr (by decide) rfl), k1, k2⟩

theorem bX11_cellar_34 {d : Nat} {Q : Option MV → MH → Prop} {h : MH} {u1 u2 : Option MV} (hr : zRf h) (k1 : (h.1 111 9) = (nI 14) → J mX11_cellar d 0 0 Q 0 0 50 [some (.inr (.inr 111)), u1, u2] [] h) (k2 : ¬ (h.1 111 9) = (nI 14) → J mX11_cellar d 0 0 Q 0 0 43 [some (.inr (.inr 111)), u1, u2] [] h) : J mX11_cellar d 0 0 Q 0 0 34 [some (.inr (.inr 111)), u1, u2] [] h := by
  refine zrun 19 4 qX11_cellar (o := 11) rfl ?_
  show zokO h 111 11 ∧ (((h.1 111 9) = (nI 14) → J mX11_cellar d 0 0 Q 0 0 50 [some (.inr (.inr 111)), u1, u2] [] h) ∧ (¬ (h.1 111 9) = (nI 14) → J mX11_cellar d 0 0 Q 0 0 43 [some (.inr (.inr 111)), u1, u2] [] h))
  exact ⟨(zo hr (by decide) rfl), k1, k2⟩

theorem bX11_cellar_43 {d d' : Nat} {Q : Option MV → MH → Prop} {h : MH} {u1 u2 : Option MV} (hr : zRf h) (hd : d' + 1 ≤ d) (k : Con mX11_readCandle d' 0 0 [.inr (.inr 111)] h (zrv fun h' => J mX11_cellar d 0 0 Q 0 0 47 [some (.inr (.inr 111)), u1, u2] [] h')) : J mX11_cellar d 0 0 Q 0 0 43 [some (.inr (.inr 111)), u1, u2] [] h := by
  refine zrun 23 1 qX11_cellar (o := 11) rfl ?_
  show J mX11_cellar d 0 0 Q 0 0 44 [some (.inr (.inr 111)), u1, u2] [.inr (.inr 111)] h
  exact zcVv (as := []) (zat qX11_cellar 24 (by rfl)) l11_197 rfl hd rfl (Nat.le_of_ble_eq_true rfl) zle0 (ci := 11) (by decide) rfl (zo hr (by decide) rfl) k

theorem bX11_cellar_47 {d : Nat} {Q : Option MV → MH → Prop} {h : MH} {u0 u1 u2 : Option MV} (k : J mX11_cellar d 0 0 Q 0 0 27 [u0, u1, u2] [] h) : J mX11_cellar d 0 0 Q 0 0 47 [u0, u1, u2] [] h := by
  refine zrun 25 1 qX11_cellar (o := 11) rfl ?_
  show J mX11_cellar d 0 0 Q 0 0 27 [u0, u1, u2] [] h
  exact k

theorem bX11_cellar_50 {d : Nat} {Q : Option MV → MH → Prop} {h : MH} {u1 u2 : Option MV} (hr : zRf h) (k1 : (h.1 111 11) = 0 → J mX11_cellar d 0 0 Q 0 0 62 [some (.inr (.inr 111)), u1, u2] [] h) (k2 : ¬ (h.1 111 11) = 0 → J mX11_cellar d 0 0 Q 0 0 57 [some (.inr (.inr 111)), u1, u2] [] h) : J mX11_cellar d 0 0 Q 0 0 50 [some (.inr (.inr 111)), u1, u2] [] h := by
  refine zrun 26 3 qX11_cellar (o := 11) rfl ?_
  show zokO h 111 11 ∧ (((h.1 111 11) = 0 → J mX11_cellar d 0 0 Q 0 0 62 [some (.inr (.inr 111)), u1, u2] [] h) ∧ (¬ (h.1 111 11) = 0 → J mX11_cellar d 0 0 Q 0 0 57 [some (.inr (.inr 111)), u1, u2] [] h))
  exact ⟨(zo hr (by decide) rfl), k1, k2⟩

theorem bX11_cellar_57 {d d' : Nat} {Q : Option MV → MH → Prop} {h : MH} {u1 u2 : Option MV} (hr : zRf h) (hd : d' + 1 ≤ d) (k : Con mX11_told d' 0 0 [.inr (.inr 111)] h (zri fun (x : Int32) h' => J mX11_cellar d 0 0 Q 0 0 61 [some (.inr (.inr 111)), u1, u2] [.inl x] h')) : J mX11_cellar d 0 0 Q 0 0 57 [some (.inr (.inr 111)), u1, u2] [] h := by
  refine zrun 29 1 qX11_cellar (o := 11) rfl ?_
  show J mX11_cellar d 0 0 Q 0 0 58 [some (.inr (.inr 111)), u1, u2] [.inr (.inr 111)] h
  exact zcVi (as := []) (zat qX11_cellar 30 (by rfl)) l11_200 rfl hd rfl (Nat.le_of_ble_eq_true rfl) zle0 (ci := 11) (by decide) rfl (zo hr (by decide) rfl) k

theorem bX11_cellar_61 {d : Nat} {Q : Option MV → MH → Prop} {h : MH} {u0 u1 u2 : Option MV} {vs0 : Int32} (k : Q (some (.inl vs0)) h) : J mX11_cellar d 0 0 Q 0 0 61 [u0, u1, u2] [.inl vs0] h := by
  exact J_iret (ty := .int) (zat qX11_cellar 31 (by rfl)) rfl rfl (Nat.le_refl 0) (Nat.le_refl 0) k

theorem bX11_cellar_62 {d d' : Nat} {Q : Option MV → MH → Prop} {h : MH} {u1 u2 : Option MV} (hr : zRf h) (hd : d' + 1 ≤ d) (k : Con mX11_told d' 0 0 [.inr (.inr 111)] h (zri fun (x : Int32) h' => J mX11_cellar d 0 0 Q 0 0 66 [some (.inr (.inr 111)), u1, u2] [.inl x] h')) : J mX11_cellar d 0 0 Q 0 0 62 [some (.inr (.inr 111)), u1, u2] [] h := by
  refine zrun 32 1 qX11_cellar (o := 11) rfl ?_
  show J mX11_cellar d 0 0 Q 0 0 63 [some (.inr (.inr 111)), u1, u2] [.inr (.inr 111)] h
  exact zcVi (as := []) (zat qX11_cellar 33 (by rfl)) l11_200 rfl hd rfl (Nat.le_of_ble_eq_true rfl) zle0 (ci := 11) (by decide) rfl (zo hr (by decide) rfl) k

theorem bX11_cellar_66 {d : Nat} {Q : Option MV → MH → Prop} {h : MH} {u0 u2 : Option MV} {vs0 v1 : Int32} (k : J mX11_cellar d 0 0 Q 0 0 69 [u0, some (.inl v1), some (.inl (nI 0))] [] h) : J mX11_cellar d 0 0 Q 0 0 66 [u0, some (.inl v1), u2] [.inl vs0] h := by
  refine zrun 34 3 qX11_cellar (o := 11) rfl ?_
  show J mX11_cellar d 0 0 Q 0 0 69 [u0, some (.inl v1), some (.inl (nI 0))] [] h
  exact k

theorem bX11_cellar_69 {d : Nat} {Q : Option MV → MH → Prop} {h : MH} {u0 u1 : Option MV} {v2 : Int32} (k1 : (nI 74) ≤ v2 → J mX11_cellar d 0 0 Q 0 0 93 [u0, u1, some (.inl v2)] [] h) (k2 : ¬ (nI 74) ≤ v2 → J mX11_cellar d 0 0 Q 0 0 75 [u0, u1, some (.inl v2)] [] h) : J mX11_cellar d 0 0 Q 0 0 69 [u0, u1, some (.inl v2)] [] h := by
  refine zrun 37 3 qX11_cellar (o := 11) rfl ?_
  show (((nI 74) ≤ v2 → J mX11_cellar d 0 0 Q 0 0 93 [u0, u1, some (.inl v2)] [] h) ∧ (¬ (nI 74) ≤ v2 → J mX11_cellar d 0 0 Q 0 0 75 [u0, u1, some (.inl v2)] [] h))
  exact ⟨k1, k2⟩

theorem bX11_cellar_75 {d : Nat} {Q : Option MV → MH → Prop} {h : MH} {v2 v1 : Int32} (hr : zRf h) (g0 : vp_in v2 236) (g1 : vp_in v2 2166) (k : J mX11_cellar d 0 0 Q 0 0 69 [some (.inr (.inr 111)), some (.inl v1), some (.inl (v2 + nI 1))] [] (zsI h 112 v2.toNatClampNeg (h.1 115 v2.toNatClampNeg))) : J mX11_cellar d 0 0 Q 0 0 75 [some (.inr (.inr 111)), some (.inl v1), some (.inl v2)] [] h := by
  refine zrun 40 10 qX11_cellar (o := 11) rfl ?_
  show zokO h 111 11 ∧ zokO h 111 11 ∧ zokA h (h.2.2.1 111 4) 20 v2 ∧ zokA h (h.2.2.1 111 1) 20 v2 ∧ J mX11_cellar d 0 0 Q 0 0 69 [some (.inr (.inr 111)), some (.inl v1), some (.inl (v2 + nI 1))] [] (zsI h (h.2.2.1 111 1) v2.toNatClampNeg (h.1 (h.2.2.1 111 4) v2.toNatClampNeg))
  rw [(show h.2.2.1 111 1 = 112 from (hr.at (by decide) (by decide) (by rfl))), (show h.2.2.1 111 4 = 115 from (hr.at (by decide) (by decide) (by rfl)))]
  exact ⟨(zo hr (by decide) rfl), (zo hr (by decide) rfl), (zia hr (by decide) (by rfl) g0), (zia hr (by decide) (by rfl) g1), k⟩

theorem bX11_cellar_93 {d : Nat} {Q : Option MV → MH → Prop} {h : MH} {u1 u2 : Option MV} (hr : zRf h) (g0 : vp_in (nI 73) 2166) (k : Q (some (.inl (h.1 112 73))) h) : J mX11_cellar d 0 0 Q 0 0 93 [some (.inr (.inr 111)), u1, u2] [] h := by
  refine zrun 50 4 qX11_cellar (o := 11) rfl ?_
  show zokO h 111 11 ∧ zokA h (h.2.2.1 111 1) 20 (nI 73) ∧ J mX11_cellar d 0 0 Q 0 0 100 [some (.inr (.inr 111)), u1, u2] [.inl (h.1 (h.2.2.1 111 1) 73)] h
  rw [(show h.2.2.1 111 1 = 112 from (hr.at (by decide) (by decide) (by rfl)))]
  exact ⟨(zo hr (by decide) rfl), (zia hr (by decide) (by rfl) g0), J_iret (ty := .int) (zat qX11_cellar 54 (by rfl)) rfl rfl (Nat.le_refl 0) (Nat.le_refl 0) k⟩

theorem bX11_readAct_0 {d : Nat} {Q : Option MV → MH → Prop} {h : MH} {u1 u2 u3 u4 : Option MV} (hr : zRf h) (g0 : vp_in (nI 75) 236) (k1 : (h.1 111 11) = 0 → J mX11_readAct d 0 0 Q 0 0 16 [some (.inr (.inr 111)), some (.inl (h.1 115 75)), u2, u3, u4] [] h) (k2 : ¬ (h.1 111 11) = 0 → J mX11_readAct d 0 0 Q 0 0 15 [some (.inr (.inr 111)), some (.inl (h.1 115 75)), u2, u3, u4] [] h) : J mX11_readAct d 0 0 Q 0 0 0 [some (.inr (.inr 111)), u1, u2, u3, u4] [] h := by
  refine zrun 0 8 qX11_readAct (o := 11) rfl ?_
  show zokO h 111 11 ∧ zokA h (h.2.2.1 111 4) 20 (nI 75) ∧ zokO h 111 11 ∧ (((h.1 111 11) = 0 → J mX11_readAct d 0 0 Q 0 0 16 [some (.inr (.inr 111)), some (.inl (h.1 (h.2.2.1 111 4) 75)), u2, u3, u4] [] h) ∧ (¬ (h.1 111 11) = 0 → J mX11_readAct d 0 0 Q 0 0 15 [some (.inr (.inr 111)), some (.inl (h.1 (h.2.2.1 111 4) 75)), u2, u3, u4] [] h))
  rw [(show h.2.2.1 111 4 = 115 from (hr.at (by decide) (by decide) (by rfl)))]
  exact ⟨(zo hr (by decide) rfl), (zia hr (by decide) (by rfl) g0), (zo hr (by decide) rfl), k1, k2⟩

theorem bX11_readAct_15 {d : Nat} {Q : Option MV → MH → Prop} {h : MH} {u0 u1 u2 u3 u4 : Option MV} (k : Q none h) : J mX11_readAct d 0 0 Q 0 0 15 [u0, u1, u2, u3, u4] [] h := by
  exact J_vret (zat qX11_readAct 8 (by rfl)) rfl (Nat.le_refl 0) (Nat.le_refl 0) k

theorem bX11_readAct_16 {d d' : Nat} {Q : Option MV → MH → Prop} {h : MH} {u1 u2 u3 u4 : Option MV} (hr : zRf h) (hd : d' + 1 ≤ d) (k : Con mX11_within d' 0 0 [.inr (.inl ((h.1 111 9).toInt64)), .inr (.inl (6 : Int64)), .inr (.inl (10 : Int64))] h (zri fun (x : Int32) h' => J mX11_readAct d 0 0 Q 0 0 30 [some (.inr (.inr 111)), u1, u2, u3, u4] [.inl x] h')) : J mX11_readAct d 0 0 Q 0 0 16 [some (.inr (.inr 111)), u1, u2, u3, u4] [] h := by
  refine zrun 9 5 qX11_readAct (o := 11) rfl ?_
  show zokO h 111 11 ∧ J mX11_readAct d 0 0 Q 0 0 27 [some (.inr (.inr 111)), u1, u2, u3, u4] [.inr (.inl (10 : Int64)), .inr (.inl (6 : Int64)), .inr (.inl ((h.1 111 9).toInt64))] h
  exact ⟨(zo hr (by decide) rfl), zcSi (as := [.inr (.inl ((h.1 111 9).toInt64)), .inr (.inl (6 : Int64)), .inr (.inl (10 : Int64))]) (zat qX11_readAct 14 (by rfl)) l11_178 rfl hd rfl (Nat.le_of_ble_eq_true rfl) zle0 k⟩

theorem bX11_readAct_30 {d : Nat} {Q : Option MV → MH → Prop} {h : MH} {u0 u1 u2 u3 u4 : Option MV} {vs0 : Int32} (k1 : ¬ vs0 = 0 → J mX11_readAct d 0 0 Q 0 0 41 [u0, u1, u2, u3, u4] [] h) (k2 : vs0 = 0 → J mX11_readAct d 0 0 Q 0 0 33 [u0, u1, u2, u3, u4] [] h) : J mX11_readAct d 0 0 Q 0 0 30 [u0, u1, u2, u3, u4] [.inl vs0] h := by
  refine zrun 15 1 qX11_readAct (o := 11) rfl ?_
  show ((¬ vs0 = 0 → J mX11_readAct d 0 0 Q 0 0 41 [u0, u1, u2, u3, u4] [] h) ∧ (vs0 = 0 → J mX11_readAct d 0 0 Q 0 0 33 [u0, u1, u2, u3, u4] [] h))
  exact ⟨k1, k2⟩

theorem bX11_readAct_33 {d d' : Nat} {Q : Option MV → MH → Prop} {h : MH} {u1 u2 u3 u4 : Option MV} (hr : zRf h) (hd : d' + 1 ≤ d) (k : Con mX11_fails d' 0 0 [.inr (.inr 111), .inl (nI 2)] h (zrv fun h' => J mX11_readAct d 0 0 Q 0 0 38 [some (.inr (.inr 111)), u1, u2, u3, u4] [] h')) : J mX11_readAct d 0 0 Q 0 0 33 [some (.inr (.inr 111)), u1, u2, u3, u4] [] h := by
  refine zrun 16 2 qX11_readAct (o := 11) rfl ?_
  show J mX11_readAct d 0 0 Q 0 0 35 [some (.inr (.inr 111)), u1, u2, u3, u4] [.inl (nI 2), .inr (.inr 111)] h
  exact zcVv (as := [.inl (nI 2)]) (zat qX11_readAct 18 (by rfl)) l11_174 rfl hd rfl (Nat.le_of_ble_eq_true rfl) zle0 (ci := 11) (by decide) rfl (zo hr (by decide) rfl) k

theorem bX11_readAct_38 {d : Nat} {Q : Option MV → MH → Prop} {h : MH} {u0 u1 u2 u3 u4 : Option MV} (k : J mX11_readAct d 0 0 Q 0 0 52 [u0, u1, u2, u3, u4] [] h) : J mX11_readAct d 0 0 Q 0 0 38 [u0, u1, u2, u3, u4] [] h := by
  refine zrun 19 1 qX11_readAct (o := 11) rfl ?_
  show J mX11_readAct d 0 0 Q 0 0 52 [u0, u1, u2, u3, u4] [] h
  exact k

theorem bX11_readAct_41 {d : Nat} {Q : Option MV → MH → Prop} {h : MH} {u0 u2 u3 u4 : Option MV} {v1 : Int32} (k1 : ¬ v1 = (nI 40) → J mX11_readAct d 0 0 Q 0 0 52 [u0, some (.inl v1), u2, u3, u4] [] h) (k2 : v1 = (nI 40) → J mX11_readAct d 0 0 Q 0 0 47 [u0, some (.inl v1), u2, u3, u4] [] h) : J mX11_readAct d 0 0 Q 0 0 41 [u0, some (.inl v1), u2, u3, u4] [] h := by
  refine zrun 20 3 qX11_readAct (o := 11) rfl ?_
  show ((¬ v1 = (nI 40) → J mX11_readAct d 0 0 Q 0 0 52 [u0, some (.inl v1), u2, u3, u4] [] h) ∧ (v1 = (nI 40) → J mX11_readAct d 0 0 Q 0 0 47 [u0, some (.inl v1), u2, u3, u4] [] h))
  exact ⟨k1, k2⟩

theorem bX11_readAct_47 {d d' : Nat} {Q : Option MV → MH → Prop} {h : MH} {u1 u2 u3 u4 : Option MV} (hr : zRf h) (hd : d' + 1 ≤ d) (k : Con mX11_fails d' 0 0 [.inr (.inr 111), .inl (nI 4)] h (zrv fun h' => J mX11_readAct d 0 0 Q 0 0 52 [some (.inr (.inr 111)), u1, u2, u3, u4] [] h')) : J mX11_readAct d 0 0 Q 0 0 47 [some (.inr (.inr 111)), u1, u2, u3, u4] [] h := by
  refine zrun 23 2 qX11_readAct (o := 11) rfl ?_
  show J mX11_readAct d 0 0 Q 0 0 49 [some (.inr (.inr 111)), u1, u2, u3, u4] [.inl (nI 4), .inr (.inr 111)] h
  exact zcVv (as := [.inl (nI 4)]) (zat qX11_readAct 25 (by rfl)) l11_174 rfl hd rfl (Nat.le_of_ble_eq_true rfl) zle0 (ci := 11) (by decide) rfl (zo hr (by decide) rfl) k

theorem bX11_readAct_52 {d : Nat} {Q : Option MV → MH → Prop} {h : MH} {u1 u2 u3 u4 : Option MV} (hr : zRf h) (k1 : (h.1 111 11) = 0 → J mX11_readAct d 0 0 Q 0 0 60 [some (.inr (.inr 111)), u1, u2, u3, u4] [] h) (k2 : ¬ (h.1 111 11) = 0 → J mX11_readAct d 0 0 Q 0 0 59 [some (.inr (.inr 111)), u1, u2, u3, u4] [] h) : J mX11_readAct d 0 0 Q 0 0 52 [some (.inr (.inr 111)), u1, u2, u3, u4] [] h := by
  refine zrun 26 3 qX11_readAct (o := 11) rfl ?_
  show zokO h 111 11 ∧ (((h.1 111 11) = 0 → J mX11_readAct d 0 0 Q 0 0 60 [some (.inr (.inr 111)), u1, u2, u3, u4] [] h) ∧ (¬ (h.1 111 11) = 0 → J mX11_readAct d 0 0 Q 0 0 59 [some (.inr (.inr 111)), u1, u2, u3, u4] [] h))
  exact ⟨(zo hr (by decide) rfl), k1, k2⟩

theorem bX11_readAct_59 {d : Nat} {Q : Option MV → MH → Prop} {h : MH} {u0 u1 u2 u3 u4 : Option MV} (k : Q none h) : J mX11_readAct d 0 0 Q 0 0 59 [u0, u1, u2, u3, u4] [] h := by
  exact J_vret (zat qX11_readAct 29 (by rfl)) rfl (Nat.le_refl 0) (Nat.le_refl 0) k

theorem bX11_readAct_60 {d d' : Nat} {Q : Option MV → MH → Prop} {h : MH} {u2 u3 u4 : Option MV} {v1 : Int32} (hr : zRf h) (hd : d' + 1 ≤ d) (k : Con mX11_next d' 0 0 [.inr (.inr 111)] h (zrv fun h' => J mX11_readAct d 0 0 Q 0 0 69 [some (.inr (.inr 111)), some (.inl v1), some (.inl (h.1 111 9)), u3, u4] [] h')) : J mX11_readAct d 0 0 Q 0 0 60 [some (.inr (.inr 111)), some (.inl v1), u2, u3, u4] [] h := by
  refine zrun 30 4 qX11_readAct (o := 11) rfl ?_
  show zokO h 111 11 ∧ J mX11_readAct d 0 0 Q 0 0 66 [some (.inr (.inr 111)), some (.inl v1), some (.inl (h.1 111 9)), u3, u4] [.inr (.inr 111)] h
  exact ⟨(zo hr (by decide) rfl), zcVv (as := []) (zat qX11_readAct 34 (by rfl)) l11_168 rfl hd rfl (Nat.le_of_ble_eq_true rfl) zle0 (ci := 11) (by decide) rfl (zo hr (by decide) rfl) k⟩

theorem bX11_readAct_69 {d : Nat} {Q : Option MV → MH → Prop} {h : MH} {u0 u1 u3 u4 : Option MV} {v2 : Int32} (k1 : ¬ v2 = (nI 10) → J mX11_readAct d 0 0 Q 0 0 79 [u0, u1, some (.inl v2), u3, u4] [] h) (k2 : v2 = (nI 10) → J mX11_readAct d 0 0 Q 0 0 75 [u0, u1, some (.inl v2), u3, u4] [] h) : J mX11_readAct d 0 0 Q 0 0 69 [u0, u1, some (.inl v2), u3, u4] [] h := by
  refine zrun 35 3 qX11_readAct (o := 11) rfl ?_
  show ((¬ v2 = (nI 10) → J mX11_readAct d 0 0 Q 0 0 79 [u0, u1, some (.inl v2), u3, u4] [] h) ∧ (v2 = (nI 10) → J mX11_readAct d 0 0 Q 0 0 75 [u0, u1, some (.inl v2), u3, u4] [] h))
  exact ⟨k1, k2⟩

theorem bX11_readAct_75 {d : Nat} {Q : Option MV → MH → Prop} {h : MH} {u0 u1 u2 u3 u4 : Option MV} (k : J mX11_readAct d 0 0 Q 0 0 86 [u0, u1, u2, u3, u4] [.inl (nI 0)] h) : J mX11_readAct d 0 0 Q 0 0 75 [u0, u1, u2, u3, u4] [] h := by
  refine zrun 38 2 qX11_readAct (o := 11) rfl ?_
  show J mX11_readAct d 0 0 Q 0 0 86 [u0, u1, u2, u3, u4] [.inl (nI 0)] h
  exact k

theorem bX11_readAct_79 {d d' : Nat} {Q : Option MV → MH → Prop} {h : MH} {u1 u2 u3 u4 : Option MV} (hr : zRf h) (hd : d' + 1 ≤ d) (k : Con mX11_takes d' 0 0 [.inr (.inr 111), .inl (nI 0), .inl (nI 7)] h (zri fun (x : Int32) h' => J mX11_readAct d 0 0 Q 0 0 86 [some (.inr (.inr 111)), u1, u2, u3, u4] [.inl x] h')) : J mX11_readAct d 0 0 Q 0 0 79 [some (.inr (.inr 111)), u1, u2, u3, u4] [] h := by
  refine zrun 40 3 qX11_readAct (o := 11) rfl ?_
  show J mX11_readAct d 0 0 Q 0 0 83 [some (.inr (.inr 111)), u1, u2, u3, u4] [.inl (nI 7), .inl (nI 0), .inr (.inr 111)] h
  exact zcVi (as := [.inl (nI 0), .inl (nI 7)]) (zat qX11_readAct 43 (by rfl)) l11_187 rfl hd rfl (Nat.le_of_ble_eq_true rfl) zle0 (ci := 11) (by decide) rfl (zo hr (by decide) rfl) k

theorem bX11_readAct_86 {d : Nat} {Q : Option MV → MH → Prop} {h : MH} {u0 u1 u3 u4 : Option MV} {vs0 v2 : Int32} (k1 : ¬ v2 = (nI 9) → J mX11_readAct d 0 0 Q 0 0 103 [u0, u1, some (.inl v2), some (.inl vs0), u4] [] h) (k2 : v2 = (nI 9) → J mX11_readAct d 0 0 Q 0 0 93 [u0, u1, some (.inl v2), some (.inl vs0), u4] [] h) : J mX11_readAct d 0 0 Q 0 0 86 [u0, u1, some (.inl v2), u3, u4] [.inl vs0] h := by
  refine zrun 44 4 qX11_readAct (o := 11) rfl ?_
  show ((¬ v2 = (nI 9) → J mX11_readAct d 0 0 Q 0 0 103 [u0, u1, some (.inl v2), some (.inl vs0), u4] [] h) ∧ (v2 = (nI 9) → J mX11_readAct d 0 0 Q 0 0 93 [u0, u1, some (.inl v2), some (.inl vs0), u4] [] h))
  exact ⟨k1, k2⟩

theorem bX11_readAct_93 {d d' : Nat} {Q : Option MV → MH → Prop} {h : MH} {u1 u2 u3 u4 : Option MV} (hr : zRf h) (hd : d' + 1 ≤ d) (k : Con mX11_takes d' 0 0 [.inr (.inr 111), .inl (nI 0), .inl (nI 7)] h (zri fun (x : Int32) h' => J mX11_readAct d 0 0 Q 0 0 100 [some (.inr (.inr 111)), u1, u2, u3, u4] [.inl x] h')) : J mX11_readAct d 0 0 Q 0 0 93 [some (.inr (.inr 111)), u1, u2, u3, u4] [] h := by
  refine zrun 48 3 qX11_readAct (o := 11) rfl ?_
  show J mX11_readAct d 0 0 Q 0 0 97 [some (.inr (.inr 111)), u1, u2, u3, u4] [.inl (nI 7), .inl (nI 0), .inr (.inr 111)] h
  exact zcVi (as := [.inl (nI 0), .inl (nI 7)]) (zat qX11_readAct 51 (by rfl)) l11_187 rfl hd rfl (Nat.le_of_ble_eq_true rfl) zle0 (ci := 11) (by decide) rfl (zo hr (by decide) rfl) k

theorem bX11_readAct_100 {d : Nat} {Q : Option MV → MH → Prop} {h : MH} {u0 u1 u2 u3 u4 : Option MV} {vs0 : Int32} (k : J mX11_readAct d 0 0 Q 0 0 104 [u0, u1, u2, u3, u4] [.inl vs0] h) : J mX11_readAct d 0 0 Q 0 0 100 [u0, u1, u2, u3, u4] [.inl vs0] h := by
  refine zrun 52 1 qX11_readAct (o := 11) rfl ?_
  show J mX11_readAct d 0 0 Q 0 0 104 [u0, u1, u2, u3, u4] [.inl vs0] h
  exact k

theorem bX11_readAct_103 {d : Nat} {Q : Option MV → MH → Prop} {h : MH} {u0 u1 u2 u3 u4 : Option MV} (k : J mX11_readAct d 0 0 Q 0 0 104 [u0, u1, u2, u3, u4] [.inl (nI 0)] h) : J mX11_readAct d 0 0 Q 0 0 103 [u0, u1, u2, u3, u4] [] h := by
  refine zrun 53 1 qX11_readAct (o := 11) rfl ?_
  show J mX11_readAct d 0 0 Q 0 0 104 [u0, u1, u2, u3, u4] [.inl (nI 0)] h
  exact k

theorem bX11_readAct_104 {d : Nat} {Q : Option MV → MH → Prop} {h : MH} {u1 u2 u4 : Option MV} {vs0 v3 : Int32} (hr : zRf h) (k1 : (h.1 111 11) = 0 → J mX11_readAct d 0 0 Q 0 0 114 [some (.inr (.inr 111)), u1, u2, some (.inl v3), some (.inl vs0)] [] h) (k2 : ¬ (h.1 111 11) = 0 → J mX11_readAct d 0 0 Q 0 0 113 [some (.inr (.inr 111)), u1, u2, some (.inl v3), some (.inl vs0)] [] h) : J mX11_readAct d 0 0 Q 0 0 104 [some (.inr (.inr 111)), u1, u2, some (.inl v3), u4] [.inl vs0] h := by
  refine zrun 54 4 qX11_readAct (o := 11) rfl ?_
  show zokO h 111 11 ∧ (((h.1 111 11) = 0 → J mX11_readAct d 0 0 Q 0 0 114 [some (.inr (.inr 111)), u1, u2, some (.inl v3), some (.inl vs0)] [] h) ∧ (¬ (h.1 111 11) = 0 → J mX11_readAct d 0 0 Q 0 0 113 [some (.inr (.inr 111)), u1, u2, some (.inl v3), some (.inl vs0)] [] h))
  exact ⟨(zo hr (by decide) rfl), k1, k2⟩

theorem bX11_readAct_113 {d : Nat} {Q : Option MV → MH → Prop} {h : MH} {u0 u1 u2 u3 u4 : Option MV} (k : Q none h) : J mX11_readAct d 0 0 Q 0 0 113 [u0, u1, u2, u3, u4] [] h := by
  exact J_vret (zat qX11_readAct 58 (by rfl)) rfl (Nat.le_refl 0) (Nat.le_refl 0) k

theorem bX11_readAct_114 {d : Nat} {Q : Option MV → MH → Prop} {h : MH} {v1 v2 v3 v4 : Int32} (hr : zRf h) (g0 : vp_in ((nI 116) + v1) 236) (g1 : vp_in (nI 75) 236) (k : Q none (zsI (zsI h 115 ((nI 116) + v1).toNatClampNeg (((v2 * (nI 100)) + ((nI 10) * v3)) + v4)) 115 75 (((zsI h 115 ((nI 116) + v1).toNatClampNeg (((v2 * (nI 100)) + ((nI 10) * v3)) + v4)).1 115 75) + (nI 1)))) : J mX11_readAct d 0 0 Q 0 0 114 [some (.inr (.inr 111)), some (.inl v1), some (.inl v2), some (.inl v3), some (.inl v4)] [] h := by
  refine zrun 59 23 qX11_readAct (o := 11) rfl ?_
  show zokO h 111 11 ∧ zokA h (h.2.2.1 111 4) 20 ((nI 116) + v1) ∧ zokO (zsI h (h.2.2.1 111 4) ((nI 116) + v1).toNatClampNeg (((v2 * (nI 100)) + ((nI 10) * v3)) + v4)) 111 11 ∧ zokA (zsI h (h.2.2.1 111 4) ((nI 116) + v1).toNatClampNeg (((v2 * (nI 100)) + ((nI 10) * v3)) + v4)) (h.2.2.1 111 4) 20 (nI 75) ∧ zokA (zsI h (h.2.2.1 111 4) ((nI 116) + v1).toNatClampNeg (((v2 * (nI 100)) + ((nI 10) * v3)) + v4)) (h.2.2.1 111 4) 20 (nI 75) ∧ J mX11_readAct d 0 0 Q 0 0 146 [some (.inr (.inr 111)), some (.inl v1), some (.inl v2), some (.inl v3), some (.inl v4)] [] (zsI (zsI h (h.2.2.1 111 4) ((nI 116) + v1).toNatClampNeg (((v2 * (nI 100)) + ((nI 10) * v3)) + v4)) (h.2.2.1 111 4) 75 (((zsI h (h.2.2.1 111 4) ((nI 116) + v1).toNatClampNeg (((v2 * (nI 100)) + ((nI 10) * v3)) + v4)).1 (h.2.2.1 111 4) 75) + (nI 1)))
  rw [(show h.2.2.1 111 4 = 115 from (hr.at (by decide) (by decide) (by rfl)))]
  exact ⟨(zo hr (by decide) rfl), (zia hr (by decide) (by rfl) g0), (zo hr (by decide) rfl), (zia hr (by decide) (by rfl) g1), (zia hr (by decide) (by rfl) g1), J_vret (zat qX11_readAct 82 (by rfl)) rfl (Nat.le_refl 0) (Nat.le_refl 0) k⟩

theorem bX11_readRule_0 {d d' : Nat} {Q : Option MV → MH → Prop} {h : MH} {u1 u2 : Option MV} (hr : zRf h) (g0 : vp_in (nI 74) 236) (hd : d' + 1 ≤ d) (k : Con mX11_is d' 0 0 [.inr (.inr 111), .inl (nI 3)] h (zri fun (x : Int32) h' => J mX11_readRule d 0 0 Q 0 0 13 [some (.inr (.inr 111)), some (.inl (h.1 115 74)), u2] [.inl x] h')) : J mX11_readRule d 0 0 Q 0 0 0 [some (.inr (.inr 111)), u1, u2] [] h := by
  refine zrun 0 7 qX11_readRule (o := 11) rfl ?_
  show zokO h 111 11 ∧ zokA h (h.2.2.1 111 4) 20 (nI 74) ∧ J mX11_readRule d 0 0 Q 0 0 10 [some (.inr (.inr 111)), some (.inl (h.1 (h.2.2.1 111 4) 74)), u2] [.inl (nI 3), .inr (.inr 111)] h
  rw [(show h.2.2.1 111 4 = 115 from (hr.at (by decide) (by decide) (by rfl)))]
  exact ⟨(zo hr (by decide) rfl), (zia hr (by decide) (by rfl) g0), zcVi (as := [.inl (nI 3)]) (zat qX11_readRule 7 (by rfl)) l11_165 rfl hd rfl (Nat.le_of_ble_eq_true rfl) zle0 (ci := 11) (by decide) rfl (zo hr (by decide) rfl) k⟩

theorem bX11_readRule_13 {d : Nat} {Q : Option MV → MH → Prop} {h : MH} {u0 u1 u2 : Option MV} {vs0 : Int32} (k1 : ¬ vs0 = 0 → J mX11_readRule d 0 0 Q 0 0 32 [u0, u1, u2] [] h) (k2 : vs0 = 0 → J mX11_readRule d 0 0 Q 0 0 16 [u0, u1, u2] [] h) : J mX11_readRule d 0 0 Q 0 0 13 [u0, u1, u2] [.inl vs0] h := by
  refine zrun 8 1 qX11_readRule (o := 11) rfl ?_
  show ((¬ vs0 = 0 → J mX11_readRule d 0 0 Q 0 0 32 [u0, u1, u2] [] h) ∧ (vs0 = 0 → J mX11_readRule d 0 0 Q 0 0 16 [u0, u1, u2] [] h))
  exact ⟨k1, k2⟩

theorem bX11_readRule_16 {d d' : Nat} {Q : Option MV → MH → Prop} {h : MH} {u1 u2 : Option MV} (hr : zRf h) (hd : d' + 1 ≤ d) (k : Con mX11_is d' 0 0 [.inr (.inr 111), .inl (nI 4)] h (zri fun (x : Int32) h' => J mX11_readRule d 0 0 Q 0 0 21 [some (.inr (.inr 111)), u1, u2] [.inl x] h')) : J mX11_readRule d 0 0 Q 0 0 16 [some (.inr (.inr 111)), u1, u2] [] h := by
  refine zrun 9 2 qX11_readRule (o := 11) rfl ?_
  show J mX11_readRule d 0 0 Q 0 0 18 [some (.inr (.inr 111)), u1, u2] [.inl (nI 4), .inr (.inr 111)] h
  exact zcVi (as := [.inl (nI 4)]) (zat qX11_readRule 11 (by rfl)) l11_165 rfl hd rfl (Nat.le_of_ble_eq_true rfl) zle0 (ci := 11) (by decide) rfl (zo hr (by decide) rfl) k

theorem bX11_readRule_21 {d : Nat} {Q : Option MV → MH → Prop} {h : MH} {u0 u1 u2 : Option MV} {vs0 : Int32} (k1 : ¬ vs0 = 0 → J mX11_readRule d 0 0 Q 0 0 32 [u0, u1, u2] [] h) (k2 : vs0 = 0 → J mX11_readRule d 0 0 Q 0 0 24 [u0, u1, u2] [] h) : J mX11_readRule d 0 0 Q 0 0 21 [u0, u1, u2] [.inl vs0] h := by
  refine zrun 12 1 qX11_readRule (o := 11) rfl ?_
  show ((¬ vs0 = 0 → J mX11_readRule d 0 0 Q 0 0 32 [u0, u1, u2] [] h) ∧ (vs0 = 0 → J mX11_readRule d 0 0 Q 0 0 24 [u0, u1, u2] [] h))
  exact ⟨k1, k2⟩

theorem bX11_readRule_24 {d d' : Nat} {Q : Option MV → MH → Prop} {h : MH} {u1 u2 : Option MV} (hr : zRf h) (hd : d' + 1 ≤ d) (k : Con mX11_fails d' 0 0 [.inr (.inr 111), .inl (nI 2)] h (zrv fun h' => J mX11_readRule d 0 0 Q 0 0 29 [some (.inr (.inr 111)), u1, u2] [] h')) : J mX11_readRule d 0 0 Q 0 0 24 [some (.inr (.inr 111)), u1, u2] [] h := by
  refine zrun 13 2 qX11_readRule (o := 11) rfl ?_
  show J mX11_readRule d 0 0 Q 0 0 26 [some (.inr (.inr 111)), u1, u2] [.inl (nI 2), .inr (.inr 111)] h
  exact zcVv (as := [.inl (nI 2)]) (zat qX11_readRule 15 (by rfl)) l11_174 rfl hd rfl (Nat.le_of_ble_eq_true rfl) zle0 (ci := 11) (by decide) rfl (zo hr (by decide) rfl) k

theorem bX11_readRule_29 {d : Nat} {Q : Option MV → MH → Prop} {h : MH} {u0 u1 u2 : Option MV} (k : J mX11_readRule d 0 0 Q 0 0 43 [u0, u1, u2] [] h) : J mX11_readRule d 0 0 Q 0 0 29 [u0, u1, u2] [] h := by
  refine zrun 16 1 qX11_readRule (o := 11) rfl ?_
  show J mX11_readRule d 0 0 Q 0 0 43 [u0, u1, u2] [] h
  exact k

theorem bX11_readRule_32 {d : Nat} {Q : Option MV → MH → Prop} {h : MH} {u0 u2 : Option MV} {v1 : Int32} (k1 : ¬ v1 = (nI 20) → J mX11_readRule d 0 0 Q 0 0 43 [u0, some (.inl v1), u2] [] h) (k2 : v1 = (nI 20) → J mX11_readRule d 0 0 Q 0 0 38 [u0, some (.inl v1), u2] [] h) : J mX11_readRule d 0 0 Q 0 0 32 [u0, some (.inl v1), u2] [] h := by
  refine zrun 17 3 qX11_readRule (o := 11) rfl ?_
  show ((¬ v1 = (nI 20) → J mX11_readRule d 0 0 Q 0 0 43 [u0, some (.inl v1), u2] [] h) ∧ (v1 = (nI 20) → J mX11_readRule d 0 0 Q 0 0 38 [u0, some (.inl v1), u2] [] h))
  exact ⟨k1, k2⟩

theorem bX11_readRule_38 {d d' : Nat} {Q : Option MV → MH → Prop} {h : MH} {u1 u2 : Option MV} (hr : zRf h) (hd : d' + 1 ≤ d) (k : Con mX11_fails d' 0 0 [.inr (.inr 111), .inl (nI 4)] h (zrv fun h' => J mX11_readRule d 0 0 Q 0 0 43 [some (.inr (.inr 111)), u1, u2] [] h')) : J mX11_readRule d 0 0 Q 0 0 38 [some (.inr (.inr 111)), u1, u2] [] h := by
  refine zrun 20 2 qX11_readRule (o := 11) rfl ?_
  show J mX11_readRule d 0 0 Q 0 0 40 [some (.inr (.inr 111)), u1, u2] [.inl (nI 4), .inr (.inr 111)] h
  exact zcVv (as := [.inl (nI 4)]) (zat qX11_readRule 22 (by rfl)) l11_174 rfl hd rfl (Nat.le_of_ble_eq_true rfl) zle0 (ci := 11) (by decide) rfl (zo hr (by decide) rfl) k

theorem bX11_readRule_43 {d : Nat} {Q : Option MV → MH → Prop} {h : MH} {u1 u2 : Option MV} (hr : zRf h) (k1 : (h.1 111 11) = 0 → J mX11_readRule d 0 0 Q 0 0 51 [some (.inr (.inr 111)), u1, u2] [] h) (k2 : ¬ (h.1 111 11) = 0 → J mX11_readRule d 0 0 Q 0 0 50 [some (.inr (.inr 111)), u1, u2] [] h) : J mX11_readRule d 0 0 Q 0 0 43 [some (.inr (.inr 111)), u1, u2] [] h := by
  refine zrun 23 3 qX11_readRule (o := 11) rfl ?_
  show zokO h 111 11 ∧ (((h.1 111 11) = 0 → J mX11_readRule d 0 0 Q 0 0 51 [some (.inr (.inr 111)), u1, u2] [] h) ∧ (¬ (h.1 111 11) = 0 → J mX11_readRule d 0 0 Q 0 0 50 [some (.inr (.inr 111)), u1, u2] [] h))
  exact ⟨(zo hr (by decide) rfl), k1, k2⟩

theorem bX11_readRule_50 {d : Nat} {Q : Option MV → MH → Prop} {h : MH} {u0 u1 u2 : Option MV} (k : Q none h) : J mX11_readRule d 0 0 Q 0 0 50 [u0, u1, u2] [] h := by
  exact J_vret (zat qX11_readRule 26 (by rfl)) rfl (Nat.le_refl 0) (Nat.le_refl 0) k

theorem bX11_readRule_51 {d : Nat} {Q : Option MV → MH → Prop} {h : MH} {u1 u2 : Option MV} (hr : zRf h) (k1 : ¬ (h.1 111 9) = (nI 3) → J mX11_readRule d 0 0 Q 0 0 63 [some (.inr (.inr 111)), u1, u2] [] h) (k2 : (h.1 111 9) = (nI 3) → J mX11_readRule d 0 0 Q 0 0 59 [some (.inr (.inr 111)), u1, u2] [] h) : J mX11_readRule d 0 0 Q 0 0 51 [some (.inr (.inr 111)), u1, u2] [] h := by
  refine zrun 27 4 qX11_readRule (o := 11) rfl ?_
  show zokO h 111 11 ∧ ((¬ (h.1 111 9) = (nI 3) → J mX11_readRule d 0 0 Q 0 0 63 [some (.inr (.inr 111)), u1, u2] [] h) ∧ ((h.1 111 9) = (nI 3) → J mX11_readRule d 0 0 Q 0 0 59 [some (.inr (.inr 111)), u1, u2] [] h))
  exact ⟨(zo hr (by decide) rfl), k1, k2⟩

theorem bX11_readRule_59 {d : Nat} {Q : Option MV → MH → Prop} {h : MH} {u0 u1 u2 : Option MV} (k : J mX11_readRule d 0 0 Q 0 0 64 [u0, u1, u2] [.inl (nI 1)] h) : J mX11_readRule d 0 0 Q 0 0 59 [u0, u1, u2] [] h := by
  refine zrun 31 2 qX11_readRule (o := 11) rfl ?_
  show J mX11_readRule d 0 0 Q 0 0 64 [u0, u1, u2] [.inl (nI 1)] h
  exact k

theorem bX11_readRule_63 {d : Nat} {Q : Option MV → MH → Prop} {h : MH} {u0 u1 u2 : Option MV} (k : J mX11_readRule d 0 0 Q 0 0 64 [u0, u1, u2] [.inl (nI 0)] h) : J mX11_readRule d 0 0 Q 0 0 63 [u0, u1, u2] [] h := by
  refine zrun 33 1 qX11_readRule (o := 11) rfl ?_
  show J mX11_readRule d 0 0 Q 0 0 64 [u0, u1, u2] [.inl (nI 0)] h
  exact k

theorem bX11_readRule_64 {d d' : Nat} {Q : Option MV → MH → Prop} {h : MH} {u2 : Option MV} {vs0 v1 : Int32} (hr : zRf h) (hd : d' + 1 ≤ d) (k : Con mX11_next d' 0 0 [.inr (.inr 111)] h (zrv fun h' => J mX11_readRule d 0 0 Q 0 0 69 [some (.inr (.inr 111)), some (.inl v1), some (.inl vs0)] [] h')) : J mX11_readRule d 0 0 Q 0 0 64 [some (.inr (.inr 111)), some (.inl v1), u2] [.inl vs0] h := by
  refine zrun 34 2 qX11_readRule (o := 11) rfl ?_
  show J mX11_readRule d 0 0 Q 0 0 66 [some (.inr (.inr 111)), some (.inl v1), some (.inl vs0)] [.inr (.inr 111)] h
  exact zcVv (as := []) (zat qX11_readRule 36 (by rfl)) l11_168 rfl hd rfl (Nat.le_of_ble_eq_true rfl) zle0 (ci := 11) (by decide) rfl (zo hr (by decide) rfl) k

theorem bX11_readRule_69 {d : Nat} {Q : Option MV → MH → Prop} {h : MH} {v1 v2 : Int32} (hr : zRf h) (k1 : v2 = 0 → J mX11_readRule d 0 0 Q 0 0 85 [some (.inr (.inr 111)), some (.inl v1), some (.inl v2)] [.inl ((nI 76) + v1), .inr (.inr 115)] h) (k2 : ¬ v2 = 0 → J mX11_readRule d 0 0 Q 0 0 81 [some (.inr (.inr 111)), some (.inl v1), some (.inl v2)] [.inl ((nI 76) + v1), .inr (.inr 115)] h) : J mX11_readRule d 0 0 Q 0 0 69 [some (.inr (.inr 111)), some (.inl v1), some (.inl v2)] [] h := by
  refine zrun 37 7 qX11_readRule (o := 11) rfl ?_
  show zokO h 111 11 ∧ ((v2 = 0 → J mX11_readRule d 0 0 Q 0 0 85 [some (.inr (.inr 111)), some (.inl v1), some (.inl v2)] [.inl ((nI 76) + v1), .inr (.inr (h.2.2.1 111 4))] h) ∧ (¬ v2 = 0 → J mX11_readRule d 0 0 Q 0 0 81 [some (.inr (.inr 111)), some (.inl v1), some (.inl v2)] [.inl ((nI 76) + v1), .inr (.inr (h.2.2.1 111 4))] h))
  rw [(show h.2.2.1 111 4 = 115 from (hr.at (by decide) (by decide) (by rfl)))]
  exact ⟨(zo hr (by decide) rfl), k1, k2⟩

theorem bX11_readRule_81 {d : Nat} {Q : Option MV → MH → Prop} {h : MH} {u0 u1 u2 : Option MV} {vs1 : Int32} {vs0 : Nat} (k : J mX11_readRule d 0 0 Q 0 0 92 [u0, u1, u2] [.inl (-(nI 1)), .inl vs1, .inr (.inr vs0)] h) : J mX11_readRule d 0 0 Q 0 0 81 [u0, u1, u2] [.inl vs1, .inr (.inr vs0)] h := by
  refine zrun 44 2 qX11_readRule (o := 11) rfl ?_
  show J mX11_readRule d 0 0 Q 0 0 92 [u0, u1, u2] [.inl (-(nI 1)), .inl vs1, .inr (.inr vs0)] h
  exact k

theorem bX11_readRule_85 {d d' : Nat} {Q : Option MV → MH → Prop} {h : MH} {u1 u2 : Option MV} {vs1 : Int32} {vs0 : Nat} (hr : zRf h) (hd : d' + 1 ≤ d) (k : Con mX11_takes d' 0 0 [.inr (.inr 111), .inl (nI 0), .inl (nI 7)] h (zri fun (x : Int32) h' => J mX11_readRule d 0 0 Q 0 0 92 [some (.inr (.inr 111)), u1, u2] [.inl x, .inl vs1, .inr (.inr vs0)] h')) : J mX11_readRule d 0 0 Q 0 0 85 [some (.inr (.inr 111)), u1, u2] [.inl vs1, .inr (.inr vs0)] h := by
  refine zrun 46 3 qX11_readRule (o := 11) rfl ?_
  show J mX11_readRule d 0 0 Q 0 0 89 [some (.inr (.inr 111)), u1, u2] [.inl (nI 7), .inl (nI 0), .inr (.inr 111), .inl vs1, .inr (.inr vs0)] h
  exact zcVi (as := [.inl (nI 0), .inl (nI 7)]) (zat qX11_readRule 49 (by rfl)) l11_187 rfl hd rfl (Nat.le_of_ble_eq_true rfl) zle0 (ci := 11) (by decide) rfl (zo hr (by decide) rfl) k

theorem bX11_readRule_92 {d d' : Nat} {Q : Option MV → MH → Prop} {h : MH} {u2 : Option MV} {vs1 vs2 v1 : Int32} {vs0 : Nat} (hr : zRf h) (g0 : zokA h vs0 20 vs1) (g1 : vp_in (nI 75) 236) (g2 : vp_in ((nI 96) + v1) 236) (hd : d' + 1 ≤ d) (k : Con mX11_readAct d' 0 0 [.inr (.inr 111)] (zsI (zsI h vs0 vs1.toNatClampNeg vs2) 115 ((nI 96) + v1).toNatClampNeg ((zsI h vs0 vs1.toNatClampNeg vs2).1 115 75)) (zrv fun h' => J mX11_readRule d 0 0 Q 0 0 113 [some (.inr (.inr 111)), some (.inl v1), u2] [] h')) : J mX11_readRule d 0 0 Q 0 0 92 [some (.inr (.inr 111)), some (.inl v1), u2] [.inl vs2, .inl vs1, .inr (.inr vs0)] h := by
  refine zrun 50 12 qX11_readRule (o := 11) rfl ?_
  show zokA h vs0 20 vs1 ∧ zokO (zsI h vs0 vs1.toNatClampNeg vs2) 111 11 ∧ zokO (zsI h vs0 vs1.toNatClampNeg vs2) 111 11 ∧ zokA (zsI h vs0 vs1.toNatClampNeg vs2) (h.2.2.1 111 4) 20 (nI 75) ∧ zokA (zsI h vs0 vs1.toNatClampNeg vs2) (h.2.2.1 111 4) 20 ((nI 96) + v1) ∧ J mX11_readRule d 0 0 Q 0 0 110 [some (.inr (.inr 111)), some (.inl v1), u2] [.inr (.inr 111)] (zsI (zsI h vs0 vs1.toNatClampNeg vs2) (h.2.2.1 111 4) ((nI 96) + v1).toNatClampNeg ((zsI h vs0 vs1.toNatClampNeg vs2).1 (h.2.2.1 111 4) 75))
  rw [(show h.2.2.1 111 4 = 115 from (hr.at (by decide) (by decide) (by rfl)))]
  exact ⟨g0, (zo hr (by decide) rfl), (zo hr (by decide) rfl), (zia hr (by decide) (by rfl) g1), (zia hr (by decide) (by rfl) g2), zcVv (as := []) (zat qX11_readRule 62 (by rfl)) l11_207 rfl hd rfl (Nat.le_of_ble_eq_true rfl) zle0 (ci := 11) (by decide) rfl (show zokO _ _ _ from (zo hr (by decide) rfl)) k⟩

theorem bX11_readRule_113 {d d' : Nat} {Q : Option MV → MH → Prop} {h : MH} {u1 u2 : Option MV} (hr : zRf h) (hd : d' + 1 ≤ d) (k : Con mX11_eats d' 0 0 [.inr (.inr 111), .inl (nI 5)] h (zri fun (x : Int32) h' => J mX11_readRule d 0 0 Q 0 0 118 [some (.inr (.inr 111)), u1, u2] [.inl x] h')) : J mX11_readRule d 0 0 Q 0 0 113 [some (.inr (.inr 111)), u1, u2] [] h := by
  refine zrun 63 2 qX11_readRule (o := 11) rfl ?_
  show J mX11_readRule d 0 0 Q 0 0 115 [some (.inr (.inr 111)), u1, u2] [.inl (nI 5), .inr (.inr 111)] h
  exact zcVi (as := [.inl (nI 5)]) (zat qX11_readRule 65 (by rfl)) l11_171 rfl hd rfl (Nat.le_of_ble_eq_true rfl) zle0 (ci := 11) (by decide) rfl (zo hr (by decide) rfl) k

theorem bX11_readRule_118 {d : Nat} {Q : Option MV → MH → Prop} {h : MH} {u0 u1 u2 : Option MV} {vs0 : Int32} (k1 : vs0 = 0 → J mX11_readRule d 0 0 Q 0 0 128 [u0, u1, u2] [] h) (k2 : ¬ vs0 = 0 → J mX11_readRule d 0 0 Q 0 0 121 [u0, u1, u2] [] h) : J mX11_readRule d 0 0 Q 0 0 118 [u0, u1, u2] [.inl vs0] h := by
  refine zrun 66 1 qX11_readRule (o := 11) rfl ?_
  show ((vs0 = 0 → J mX11_readRule d 0 0 Q 0 0 128 [u0, u1, u2] [] h) ∧ (¬ vs0 = 0 → J mX11_readRule d 0 0 Q 0 0 121 [u0, u1, u2] [] h))
  exact ⟨k1, k2⟩

theorem bX11_readRule_121 {d d' : Nat} {Q : Option MV → MH → Prop} {h : MH} {u1 u2 : Option MV} (hr : zRf h) (hd : d' + 1 ≤ d) (k : Con mX11_readAct d' 0 0 [.inr (.inr 111)] h (zrv fun h' => J mX11_readRule d 0 0 Q 0 0 125 [some (.inr (.inr 111)), u1, u2] [] h')) : J mX11_readRule d 0 0 Q 0 0 121 [some (.inr (.inr 111)), u1, u2] [] h := by
  refine zrun 67 1 qX11_readRule (o := 11) rfl ?_
  show J mX11_readRule d 0 0 Q 0 0 122 [some (.inr (.inr 111)), u1, u2] [.inr (.inr 111)] h
  exact zcVv (as := []) (zat qX11_readRule 68 (by rfl)) l11_207 rfl hd rfl (Nat.le_of_ble_eq_true rfl) zle0 (ci := 11) (by decide) rfl (zo hr (by decide) rfl) k

theorem bX11_readRule_125 {d : Nat} {Q : Option MV → MH → Prop} {h : MH} {u0 u1 u2 : Option MV} (k : J mX11_readRule d 0 0 Q 0 0 113 [u0, u1, u2] [] h) : J mX11_readRule d 0 0 Q 0 0 125 [u0, u1, u2] [] h := by
  refine zrun 69 1 qX11_readRule (o := 11) rfl ?_
  show J mX11_readRule d 0 0 Q 0 0 113 [u0, u1, u2] [] h
  exact k

theorem bX11_readRule_128 {d d' : Nat} {Q : Option MV → MH → Prop} {h : MH} {u1 u2 : Option MV} (hr : zRf h) (hd : d' + 1 ≤ d) (k : Con mX11_needs d' 0 0 [.inr (.inr 111), .inl (nI 13)] h (zrv fun h' => J mX11_readRule d 0 0 Q 0 0 134 [some (.inr (.inr 111)), u1, u2] [] h')) : J mX11_readRule d 0 0 Q 0 0 128 [some (.inr (.inr 111)), u1, u2] [] h := by
  refine zrun 70 2 qX11_readRule (o := 11) rfl ?_
  show J mX11_readRule d 0 0 Q 0 0 131 [some (.inr (.inr 111)), u1, u2] [.inl (nI 13), .inr (.inr 111)] h
  exact zcVv (as := [.inl (nI 13)]) (zat qX11_readRule 72 (by rfl)) l11_191 rfl hd rfl (Nat.le_of_ble_eq_true rfl) zle0 (ci := 11) (by decide) rfl (zo hr (by decide) rfl) k

theorem bX11_readRule_134 {d : Nat} {Q : Option MV → MH → Prop} {h : MH} {u1 u2 : Option MV} (hr : zRf h) (g0 : vp_in (nI 74) 236) (k : Q none (zsI h 115 74 ((h.1 115 74) + (nI 1)))) : J mX11_readRule d 0 0 Q 0 0 134 [some (.inr (.inr 111)), u1, u2] [] h := by
  refine zrun 73 8 qX11_readRule (o := 11) rfl ?_
  show zokO h 111 11 ∧ zokA h (h.2.2.1 111 4) 20 (nI 74) ∧ zokA h (h.2.2.1 111 4) 20 (nI 74) ∧ J mX11_readRule d 0 0 Q 0 0 145 [some (.inr (.inr 111)), u1, u2] [] (zsI h (h.2.2.1 111 4) 74 ((h.1 (h.2.2.1 111 4) 74) + (nI 1)))
  rw [(show h.2.2.1 111 4 = 115 from (hr.at (by decide) (by decide) (by rfl)))]
  exact ⟨(zo hr (by decide) rfl), (zia hr (by decide) (by rfl) g0), (zia hr (by decide) (by rfl) g0), J_vret (zat qX11_readRule 81 (by rfl)) rfl (Nat.le_refl 0) (Nat.le_refl 0) k⟩

theorem bX11_plan_0 {d d' : Nat} {Q : Option MV → MH → Prop} {h : MH} {u2 u3 : Option MV} {v1 : Int32} (hr : zRf h) (hd : d' + 1 ≤ d) (k : Con mX11_within d' 0 0 [.inr (.inl v1.toInt64), .inr (.inl (lN 0)), .inr (.inl (3 : Int64))] (zsI h 111 0 (nI 0)) (zri fun (x : Int32) h' => J mX11_plan d 0 0 Q 0 0 14 [some (.inr (.inr 111)), some (.inl v1), u2, u3] [.inl x] h')) : J mX11_plan d 0 0 Q 0 0 0 [some (.inr (.inr 111)), some (.inl v1), u2, u3] [] h := by
  refine zrun 0 7 qX11_plan (o := 11) rfl ?_
  show zokO h 111 11 ∧ J mX11_plan d 0 0 Q 0 0 11 [some (.inr (.inr 111)), some (.inl v1), u2, u3] [.inr (.inl (3 : Int64)), .inr (.inl (lN 0)), .inr (.inl v1.toInt64)] (zsI h 111 0 (nI 0))
  exact ⟨(zo hr (by decide) rfl), zcSi (as := [.inr (.inl v1.toInt64), .inr (.inl (lN 0)), .inr (.inl (3 : Int64))]) (zat qX11_plan 7 (by rfl)) l11_178 rfl hd rfl (Nat.le_of_ble_eq_true rfl) zle0 k⟩

theorem bX11_plan_14 {d : Nat} {Q : Option MV → MH → Prop} {h : MH} {u0 u1 u2 u3 : Option MV} {vs0 : Int32} (k1 : ¬ vs0 = 0 → J mX11_plan d 0 0 Q 0 0 20 [u0, u1, u2, u3] [] h) (k2 : vs0 = 0 → J mX11_plan d 0 0 Q 0 0 17 [u0, u1, u2, u3] [] h) : J mX11_plan d 0 0 Q 0 0 14 [u0, u1, u2, u3] [.inl vs0] h := by
  refine zrun 8 1 qX11_plan (o := 11) rfl ?_
  show ((¬ vs0 = 0 → J mX11_plan d 0 0 Q 0 0 20 [u0, u1, u2, u3] [] h) ∧ (vs0 = 0 → J mX11_plan d 0 0 Q 0 0 17 [u0, u1, u2, u3] [] h))
  exact ⟨k1, k2⟩

theorem bX11_plan_17 {d : Nat} {Q : Option MV → MH → Prop} {h : MH} {u0 u1 u2 u3 : Option MV} (k : Q (some (.inl (-(nI 2)))) h) : J mX11_plan d 0 0 Q 0 0 17 [u0, u1, u2, u3] [] h := by
  refine zrun 9 1 qX11_plan (o := 11) rfl ?_
  show J mX11_plan d 0 0 Q 0 0 19 [u0, u1, u2, u3] [.inl (-(nI 2))] h
  exact J_iret (ty := .int) (zat qX11_plan 10 (by rfl)) rfl rfl (Nat.le_refl 0) (Nat.le_refl 0) k

theorem bX11_plan_20 {d d' : Nat} {Q : Option MV → MH → Prop} {h : MH} {u1 u3 : Option MV} {v2 : Int32} (hr : zRf h) (hd : d' + 1 ≤ d) (k : Con mX11_within d' 0 0 [.inr (.inl v2.toInt64), .inr (.inl (lN 0)), .inr (.inl ((h.1 111 5).toInt64))] h (zri fun (x : Int32) h' => J mX11_plan d 0 0 Q 0 0 31 [some (.inr (.inr 111)), u1, some (.inl v2), u3] [.inl x] h')) : J mX11_plan d 0 0 Q 0 0 20 [some (.inr (.inr 111)), u1, some (.inl v2), u3] [] h := by
  refine zrun 11 6 qX11_plan (o := 11) rfl ?_
  show zokO h 111 11 ∧ J mX11_plan d 0 0 Q 0 0 28 [some (.inr (.inr 111)), u1, some (.inl v2), u3] [.inr (.inl ((h.1 111 5).toInt64)), .inr (.inl (lN 0)), .inr (.inl v2.toInt64)] h
  exact ⟨(zo hr (by decide) rfl), zcSi (as := [.inr (.inl v2.toInt64), .inr (.inl (lN 0)), .inr (.inl ((h.1 111 5).toInt64))]) (zat qX11_plan 17 (by rfl)) l11_178 rfl hd rfl (Nat.le_of_ble_eq_true rfl) zle0 k⟩

theorem bX11_plan_31 {d : Nat} {Q : Option MV → MH → Prop} {h : MH} {u0 u1 u2 u3 : Option MV} {vs0 : Int32} (k1 : ¬ vs0 = 0 → J mX11_plan d 0 0 Q 0 0 37 [u0, u1, u2, u3] [] h) (k2 : vs0 = 0 → J mX11_plan d 0 0 Q 0 0 34 [u0, u1, u2, u3] [] h) : J mX11_plan d 0 0 Q 0 0 31 [u0, u1, u2, u3] [.inl vs0] h := by
  refine zrun 18 1 qX11_plan (o := 11) rfl ?_
  show ((¬ vs0 = 0 → J mX11_plan d 0 0 Q 0 0 37 [u0, u1, u2, u3] [] h) ∧ (vs0 = 0 → J mX11_plan d 0 0 Q 0 0 34 [u0, u1, u2, u3] [] h))
  exact ⟨k1, k2⟩

theorem bX11_plan_34 {d : Nat} {Q : Option MV → MH → Prop} {h : MH} {u0 u1 u2 u3 : Option MV} (k : Q (some (.inl (-(nI 3)))) h) : J mX11_plan d 0 0 Q 0 0 34 [u0, u1, u2, u3] [] h := by
  refine zrun 19 1 qX11_plan (o := 11) rfl ?_
  show J mX11_plan d 0 0 Q 0 0 36 [u0, u1, u2, u3] [.inl (-(nI 3))] h
  exact J_iret (ty := .int) (zat qX11_plan 20 (by rfl)) rfl rfl (Nat.le_refl 0) (Nat.le_refl 0) k

theorem bX11_plan_37 {d d' : Nat} {Q : Option MV → MH → Prop} {h : MH} {u1 u3 : Option MV} {v2 : Int32} (hr : zRf h) (hd : d' + 1 ≤ d) (k : Con mX11_begins d' 0 0 [.inr (.inr 111), .inl v2] h (zrv fun h' => J mX11_plan d 0 0 Q 0 0 42 [some (.inr (.inr 111)), u1, some (.inl v2), u3] [] h')) : J mX11_plan d 0 0 Q 0 0 37 [some (.inr (.inr 111)), u1, some (.inl v2), u3] [] h := by
  refine zrun 21 2 qX11_plan (o := 11) rfl ?_
  show J mX11_plan d 0 0 Q 0 0 39 [some (.inr (.inr 111)), u1, some (.inl v2), u3] [.inl v2, .inr (.inr 111)] h
  exact zcVv (as := [.inl v2]) (zat qX11_plan 23 (by rfl)) l11_194 rfl hd rfl (Nat.le_of_ble_eq_true rfl) zle0 (ci := 11) (by decide) rfl (zo hr (by decide) rfl) k

theorem bX11_plan_42 {d : Nat} {Q : Option MV → MH → Prop} {h : MH} {u1 u2 u3 : Option MV} (hr : zRf h) (k1 : ¬ (h.1 111 11) = 0 → J mX11_plan d 0 0 Q 0 0 65 [some (.inr (.inr 111)), u1, u2, u3] [] h) (k2 : (h.1 111 11) = 0 → J mX11_plan d 0 0 Q 0 0 49 [some (.inr (.inr 111)), u1, u2, u3] [] h) : J mX11_plan d 0 0 Q 0 0 42 [some (.inr (.inr 111)), u1, u2, u3] [] h := by
  refine zrun 24 3 qX11_plan (o := 11) rfl ?_
  show zokO h 111 11 ∧ ((¬ (h.1 111 11) = 0 → J mX11_plan d 0 0 Q 0 0 65 [some (.inr (.inr 111)), u1, u2, u3] [] h) ∧ ((h.1 111 11) = 0 → J mX11_plan d 0 0 Q 0 0 49 [some (.inr (.inr 111)), u1, u2, u3] [] h))
  exact ⟨(zo hr (by decide) rfl), k1, k2⟩

theorem bX11_plan_49 {d : Nat} {Q : Option MV → MH → Prop} {h : MH} {u1 u2 u3 : Option MV} (hr : zRf h) (k1 : (h.1 111 9) = (nI 14) → J mX11_plan d 0 0 Q 0 0 65 [some (.inr (.inr 111)), u1, u2, u3] [] h) (k2 : ¬ (h.1 111 9) = (nI 14) → J mX11_plan d 0 0 Q 0 0 58 [some (.inr (.inr 111)), u1, u2, u3] [] h) : J mX11_plan d 0 0 Q 0 0 49 [some (.inr (.inr 111)), u1, u2, u3] [] h := by
  refine zrun 27 4 qX11_plan (o := 11) rfl ?_
  show zokO h 111 11 ∧ (((h.1 111 9) = (nI 14) → J mX11_plan d 0 0 Q 0 0 65 [some (.inr (.inr 111)), u1, u2, u3] [] h) ∧ (¬ (h.1 111 9) = (nI 14) → J mX11_plan d 0 0 Q 0 0 58 [some (.inr (.inr 111)), u1, u2, u3] [] h))
  exact ⟨(zo hr (by decide) rfl), k1, k2⟩

theorem bX11_plan_58 {d d' : Nat} {Q : Option MV → MH → Prop} {h : MH} {u1 u2 u3 : Option MV} (hr : zRf h) (hd : d' + 1 ≤ d) (k : Con mX11_readRule d' 0 0 [.inr (.inr 111)] h (zrv fun h' => J mX11_plan d 0 0 Q 0 0 62 [some (.inr (.inr 111)), u1, u2, u3] [] h')) : J mX11_plan d 0 0 Q 0 0 58 [some (.inr (.inr 111)), u1, u2, u3] [] h := by
  refine zrun 31 1 qX11_plan (o := 11) rfl ?_
  show J mX11_plan d 0 0 Q 0 0 59 [some (.inr (.inr 111)), u1, u2, u3] [.inr (.inr 111)] h
  exact zcVv (as := []) (zat qX11_plan 32 (by rfl)) l11_212 rfl hd rfl (Nat.le_of_ble_eq_true rfl) zle0 (ci := 11) (by decide) rfl (zo hr (by decide) rfl) k

theorem bX11_plan_62 {d : Nat} {Q : Option MV → MH → Prop} {h : MH} {u0 u1 u2 u3 : Option MV} (k : J mX11_plan d 0 0 Q 0 0 42 [u0, u1, u2, u3] [] h) : J mX11_plan d 0 0 Q 0 0 62 [u0, u1, u2, u3] [] h := by
  refine zrun 33 1 qX11_plan (o := 11) rfl ?_
  show J mX11_plan d 0 0 Q 0 0 42 [u0, u1, u2, u3] [] h
  exact k

theorem bX11_plan_65 {d : Nat} {Q : Option MV → MH → Prop} {h : MH} {u1 u2 u3 : Option MV} (hr : zRf h) (k1 : (h.1 111 11) = 0 → J mX11_plan d 0 0 Q 0 0 77 [some (.inr (.inr 111)), u1, u2, u3] [] h) (k2 : ¬ (h.1 111 11) = 0 → J mX11_plan d 0 0 Q 0 0 72 [some (.inr (.inr 111)), u1, u2, u3] [] h) : J mX11_plan d 0 0 Q 0 0 65 [some (.inr (.inr 111)), u1, u2, u3] [] h := by
  refine zrun 34 3 qX11_plan (o := 11) rfl ?_
  show zokO h 111 11 ∧ (((h.1 111 11) = 0 → J mX11_plan d 0 0 Q 0 0 77 [some (.inr (.inr 111)), u1, u2, u3] [] h) ∧ (¬ (h.1 111 11) = 0 → J mX11_plan d 0 0 Q 0 0 72 [some (.inr (.inr 111)), u1, u2, u3] [] h))
  exact ⟨(zo hr (by decide) rfl), k1, k2⟩

theorem bX11_plan_72 {d d' : Nat} {Q : Option MV → MH → Prop} {h : MH} {u1 u2 u3 : Option MV} (hr : zRf h) (hd : d' + 1 ≤ d) (k : Con mX11_told d' 0 0 [.inr (.inr 111)] h (zri fun (x : Int32) h' => J mX11_plan d 0 0 Q 0 0 76 [some (.inr (.inr 111)), u1, u2, u3] [.inl x] h')) : J mX11_plan d 0 0 Q 0 0 72 [some (.inr (.inr 111)), u1, u2, u3] [] h := by
  refine zrun 37 1 qX11_plan (o := 11) rfl ?_
  show J mX11_plan d 0 0 Q 0 0 73 [some (.inr (.inr 111)), u1, u2, u3] [.inr (.inr 111)] h
  exact zcVi (as := []) (zat qX11_plan 38 (by rfl)) l11_200 rfl hd rfl (Nat.le_of_ble_eq_true rfl) zle0 (ci := 11) (by decide) rfl (zo hr (by decide) rfl) k

theorem bX11_plan_76 {d : Nat} {Q : Option MV → MH → Prop} {h : MH} {u0 u1 u2 u3 : Option MV} {vs0 : Int32} (k : Q (some (.inl vs0)) h) : J mX11_plan d 0 0 Q 0 0 76 [u0, u1, u2, u3] [.inl vs0] h := by
  exact J_iret (ty := .int) (zat qX11_plan 39 (by rfl)) rfl rfl (Nat.le_refl 0) (Nat.le_refl 0) k

theorem bX11_plan_77 {d d' : Nat} {Q : Option MV → MH → Prop} {h : MH} {u1 u2 u3 : Option MV} (hr : zRf h) (hd : d' + 1 ≤ d) (k : Con mX11_told d' 0 0 [.inr (.inr 111)] h (zri fun (x : Int32) h' => J mX11_plan d 0 0 Q 0 0 81 [some (.inr (.inr 111)), u1, u2, u3] [.inl x] h')) : J mX11_plan d 0 0 Q 0 0 77 [some (.inr (.inr 111)), u1, u2, u3] [] h := by
  refine zrun 40 1 qX11_plan (o := 11) rfl ?_
  show J mX11_plan d 0 0 Q 0 0 78 [some (.inr (.inr 111)), u1, u2, u3] [.inr (.inr 111)] h
  exact zcVi (as := []) (zat qX11_plan 41 (by rfl)) l11_200 rfl hd rfl (Nat.le_of_ble_eq_true rfl) zle0 (ci := 11) (by decide) rfl (zo hr (by decide) rfl) k

theorem bX11_plan_81 {d : Nat} {Q : Option MV → MH → Prop} {h : MH} {u0 u1 u3 : Option MV} {vs0 v2 : Int32} (k : J mX11_plan d 0 0 Q 0 0 84 [u0, u1, some (.inl v2), some (.inl (nI 0))] [] h) : J mX11_plan d 0 0 Q 0 0 81 [u0, u1, some (.inl v2), u3] [.inl vs0] h := by
  refine zrun 42 3 qX11_plan (o := 11) rfl ?_
  show J mX11_plan d 0 0 Q 0 0 84 [u0, u1, some (.inl v2), some (.inl (nI 0))] [] h
  exact k

theorem bX11_plan_84 {d : Nat} {Q : Option MV → MH → Prop} {h : MH} {u0 u1 u2 : Option MV} {v3 : Int32} (k1 : (nI 162) ≤ v3 → J mX11_plan d 0 0 Q 0 0 120 [u0, u1, u2, some (.inl v3)] [] h) (k2 : ¬ (nI 162) ≤ v3 → J mX11_plan d 0 0 Q 0 0 91 [u0, u1, u2, some (.inl v3)] [] h) : J mX11_plan d 0 0 Q 0 0 84 [u0, u1, u2, some (.inl v3)] [] h := by
  refine zrun 45 3 qX11_plan (o := 11) rfl ?_
  show (((nI 162) ≤ v3 → J mX11_plan d 0 0 Q 0 0 120 [u0, u1, u2, some (.inl v3)] [] h) ∧ (¬ (nI 162) ≤ v3 → J mX11_plan d 0 0 Q 0 0 91 [u0, u1, u2, some (.inl v3)] [] h))
  exact ⟨k1, k2⟩

theorem bX11_plan_91 {d d' : Nat} {Q : Option MV → MH → Prop} {h : MH} {u2 u3 : Option MV} {v1 : Int32} (hr : zRf h) (hd : d' + 1 ≤ d) (k : Con mX11_planAt d' 0 0 [.inl v1] h (zri fun (x : Int32) h' => J mX11_plan d 0 0 Q 0 0 101 [some (.inr (.inr 111)), some (.inl v1), u2, u3] [.inl x, .inl (nI 74), .inr (.inr 112)] h')) : J mX11_plan d 0 0 Q 0 0 91 [some (.inr (.inr 111)), some (.inl v1), u2, u3] [] h := by
  refine zrun 48 4 qX11_plan (o := 11) rfl ?_
  show zokO h 111 11 ∧ J mX11_plan d 0 0 Q 0 0 98 [some (.inr (.inr 111)), some (.inl v1), u2, u3] [.inl v1, .inl (nI 74), .inr (.inr (h.2.2.1 111 1))] h
  rw [(show h.2.2.1 111 1 = 112 from (hr.at (by decide) (by decide) (by rfl)))]
  exact ⟨(zo hr (by decide) rfl), zcSi (as := [.inl v1]) (zat qX11_plan 52 (by rfl)) l11_215 rfl hd rfl (Nat.le_of_ble_eq_true rfl) zle0 k⟩

theorem bX11_plan_101 {d : Nat} {Q : Option MV → MH → Prop} {h : MH} {u1 : Option MV} {vs1 vs2 v3 v2 : Int32} {vs0 : Nat} (hr : zRf h) (g0 : vp_in ((nI 74) + v3) 236) (g1 : zokA h vs0 20 ((vs1 + vs2) + v3)) (k : J mX11_plan d 0 0 Q 0 0 84 [some (.inr (.inr 111)), u1, some (.inl v2), some (.inl (v3 + nI 1))] [] (zsI h vs0 ((vs1 + vs2) + v3).toNatClampNeg (h.1 115 ((nI 74) + v3).toNatClampNeg))) : J mX11_plan d 0 0 Q 0 0 101 [some (.inr (.inr 111)), u1, some (.inl v2), some (.inl v3)] [.inl vs2, .inl vs1, .inr (.inr vs0)] h := by
  refine zrun 53 12 qX11_plan (o := 11) rfl ?_
  show zokO h 111 11 ∧ zokA h (h.2.2.1 111 4) 20 ((nI 74) + v3) ∧ zokA h vs0 20 ((vs1 + vs2) + v3) ∧ J mX11_plan d 0 0 Q 0 0 84 [some (.inr (.inr 111)), u1, some (.inl v2), some (.inl (v3 + nI 1))] [] (zsI h vs0 ((vs1 + vs2) + v3).toNatClampNeg (h.1 (h.2.2.1 111 4) ((nI 74) + v3).toNatClampNeg))
  rw [(show h.2.2.1 111 4 = 115 from (hr.at (by decide) (by decide) (by rfl)))]
  exact ⟨(zo hr (by decide) rfl), (zia hr (by decide) (by rfl) g0), g1, k⟩

theorem bX11_plan_120 {d d' : Nat} {Q : Option MV → MH → Prop} {h : MH} {u2 u3 : Option MV} {v1 : Int32} (hr : zRf h) (hd : d' + 1 ≤ d) (k : Con mX11_planAt d' 0 0 [.inl v1] h (zri fun (x : Int32) h' => J mX11_plan d 0 0 Q 0 0 130 [some (.inr (.inr 111)), some (.inl v1), u2, u3] [.inl x, .inl (nI 74), .inr (.inr 112)] h')) : J mX11_plan d 0 0 Q 0 0 120 [some (.inr (.inr 111)), some (.inl v1), u2, u3] [] h := by
  refine zrun 65 4 qX11_plan (o := 11) rfl ?_
  show zokO h 111 11 ∧ J mX11_plan d 0 0 Q 0 0 127 [some (.inr (.inr 111)), some (.inl v1), u2, u3] [.inl v1, .inl (nI 74), .inr (.inr (h.2.2.1 111 1))] h
  rw [(show h.2.2.1 111 1 = 112 from (hr.at (by decide) (by decide) (by rfl)))]
  exact ⟨(zo hr (by decide) rfl), zcSi (as := [.inl v1]) (zat qX11_plan 69 (by rfl)) l11_215 rfl hd rfl (Nat.le_of_ble_eq_true rfl) zle0 k⟩

theorem bX11_plan_130 {d : Nat} {Q : Option MV → MH → Prop} {h : MH} {u0 u1 u2 u3 : Option MV} {vs1 vs2 : Int32} {vs0 : Nat} (g0 : zokA h vs0 20 (vs1 + vs2)) (k : Q (some (.inl (h.1 vs0 (vs1 + vs2).toNatClampNeg))) h) : J mX11_plan d 0 0 Q 0 0 130 [u0, u1, u2, u3] [.inl vs2, .inl vs1, .inr (.inr vs0)] h := by
  refine zrun 70 2 qX11_plan (o := 11) rfl ?_
  show zokA h vs0 20 (vs1 + vs2) ∧ J mX11_plan d 0 0 Q 0 0 132 [u0, u1, u2, u3] [.inl (h.1 vs0 (vs1 + vs2).toNatClampNeg)] h
  exact ⟨g0, J_iret (ty := .int) (zat qX11_plan 72 (by rfl)) rfl rfl (Nat.le_refl 0) (Nat.le_refl 0) k⟩

theorem bX11_fault_0 {d : Nat} {Q : Option MV → MH → Prop} {h : MH} {v1 : Int32} (hr : zRf h) (k1 : ¬ v1 = 0 → J mX11_fault d 0 0 Q 0 0 16 [some (.inr (.inr 111)), some (.inl v1)] [] (zsI h 111 0 (nI 0))) (k2 : v1 = 0 → J mX11_fault d 0 0 Q 0 0 9 [some (.inr (.inr 111)), some (.inl v1)] [] (zsI h 111 0 (nI 0))) : J mX11_fault d 0 0 Q 0 0 0 [some (.inr (.inr 111)), some (.inl v1)] [] h := by
  refine zrun 0 5 qX11_fault (o := 11) rfl ?_
  show zokO h 111 11 ∧ ((¬ v1 = 0 → J mX11_fault d 0 0 Q 0 0 16 [some (.inr (.inr 111)), some (.inl v1)] [] (zsI h 111 0 (nI 0))) ∧ (v1 = 0 → J mX11_fault d 0 0 Q 0 0 9 [some (.inr (.inr 111)), some (.inl v1)] [] (zsI h 111 0 (nI 0))))
  exact ⟨(zo hr (by decide) rfl), k1, k2⟩

theorem bX11_fault_9 {d : Nat} {Q : Option MV → MH → Prop} {h : MH} {u1 : Option MV} (hr : zRf h) (k : J mX11_fault d 0 0 Q 0 0 29 [some (.inr (.inr 111)), u1] [.inl (h.1 111 13)] h) : J mX11_fault d 0 0 Q 0 0 9 [some (.inr (.inr 111)), u1] [] h := by
  refine zrun 5 3 qX11_fault (o := 11) rfl ?_
  show zokO h 111 11 ∧ J mX11_fault d 0 0 Q 0 0 29 [some (.inr (.inr 111)), u1] [.inl (h.1 111 13)] h
  exact ⟨(zo hr (by decide) rfl), k⟩

theorem bX11_fault_16 {d : Nat} {Q : Option MV → MH → Prop} {h : MH} {u0 : Option MV} {v1 : Int32} (k1 : ¬ v1 = (nI 1) → J mX11_fault d 0 0 Q 0 0 28 [u0, some (.inl v1)] [] h) (k2 : v1 = (nI 1) → J mX11_fault d 0 0 Q 0 0 21 [u0, some (.inl v1)] [] h) : J mX11_fault d 0 0 Q 0 0 16 [u0, some (.inl v1)] [] h := by
  refine zrun 8 3 qX11_fault (o := 11) rfl ?_
  show ((¬ v1 = (nI 1) → J mX11_fault d 0 0 Q 0 0 28 [u0, some (.inl v1)] [] h) ∧ (v1 = (nI 1) → J mX11_fault d 0 0 Q 0 0 21 [u0, some (.inl v1)] [] h))
  exact ⟨k1, k2⟩

theorem bX11_fault_21 {d : Nat} {Q : Option MV → MH → Prop} {h : MH} {u1 : Option MV} (hr : zRf h) (k : J mX11_fault d 0 0 Q 0 0 29 [some (.inr (.inr 111)), u1] [.inl (h.1 111 14)] h) : J mX11_fault d 0 0 Q 0 0 21 [some (.inr (.inr 111)), u1] [] h := by
  refine zrun 11 3 qX11_fault (o := 11) rfl ?_
  show zokO h 111 11 ∧ J mX11_fault d 0 0 Q 0 0 29 [some (.inr (.inr 111)), u1] [.inl (h.1 111 14)] h
  exact ⟨(zo hr (by decide) rfl), k⟩

theorem bX11_fault_28 {d : Nat} {Q : Option MV → MH → Prop} {h : MH} {u0 u1 : Option MV} (k : J mX11_fault d 0 0 Q 0 0 29 [u0, u1] [.inl (-(nI 1))] h) : J mX11_fault d 0 0 Q 0 0 28 [u0, u1] [] h := by
  refine zrun 14 1 qX11_fault (o := 11) rfl ?_
  show J mX11_fault d 0 0 Q 0 0 29 [u0, u1] [.inl (-(nI 1))] h
  exact k

theorem bX11_fault_29 {d : Nat} {Q : Option MV → MH → Prop} {h : MH} {u0 u1 : Option MV} {vs0 : Int32} (k : Q (some (.inl vs0)) h) : J mX11_fault d 0 0 Q 0 0 29 [u0, u1] [.inl vs0] h := by
  exact J_iret (ty := .int) (zat qX11_fault 15 (by rfl)) rfl rfl (Nat.le_refl 0) (Nat.le_refl 0) k

theorem bX11_isCandle_0 {d d' : Nat} {Q : Option MV → MH → Prop} {h : MH} {v1 : Int32} (hr : zRf h) (g0 : vp_in (nI 0) 2166) (hd : d' + 1 ≤ d) (k : Con mX11_within d' 0 0 [.inr (.inl v1.toInt64), .inr (.inl (lN 0)), .inr (.inl (((h.1 112 0) - (nI 1)).toInt64))] h (zri fun (x : Int32) h' => J mX11_isCandle d 0 0 Q 0 0 15 [some (.inr (.inr 111)), some (.inl v1)] [.inl x] h')) : J mX11_isCandle d 0 0 Q 0 0 0 [some (.inr (.inr 111)), some (.inl v1)] [] h := by
  refine zrun 0 10 qX11_isCandle (o := 11) rfl ?_
  show zokO h 111 11 ∧ zokA h (h.2.2.1 111 1) 20 (nI 0) ∧ J mX11_isCandle d 0 0 Q 0 0 12 [some (.inr (.inr 111)), some (.inl v1)] [.inr (.inl (((h.1 (h.2.2.1 111 1) 0) - (nI 1)).toInt64)), .inr (.inl (lN 0)), .inr (.inl v1.toInt64)] h
  rw [(show h.2.2.1 111 1 = 112 from (hr.at (by decide) (by decide) (by rfl)))]
  exact ⟨(zo hr (by decide) rfl), (zia hr (by decide) (by rfl) g0), zcSi (as := [.inr (.inl v1.toInt64), .inr (.inl (lN 0)), .inr (.inl (((h.1 112 0) - (nI 1)).toInt64))]) (zat qX11_isCandle 10 (by rfl)) l11_178 rfl hd rfl (Nat.le_of_ble_eq_true rfl) zle0 k⟩

theorem bX11_isCandle_15 {d : Nat} {Q : Option MV → MH → Prop} {h : MH} {u0 u1 : Option MV} {vs0 : Int32} (gn : vs0 = 0 ∨ vs0 = 1) (k : Q (some (.inl vs0)) h) : J mX11_isCandle d 0 0 Q 0 0 15 [u0, u1] [.inl vs0] h := by
  exact J_iret (ty := .boolean) (zat qX11_isCandle 11 (by rfl)) rfl (znz gn) (Nat.le_refl 0) (Nat.le_refl 0) k

theorem bX11_isPlan_0 {d d' : Nat} {Q : Option MV → MH → Prop} {h : MH} {v0 : Int32} (hd : d' + 1 ≤ d) (k : Con mX11_within d' 0 0 [.inr (.inl v0.toInt64), .inr (.inl (lN 0)), .inr (.inl (3 : Int64))] h (zri fun (x : Int32) h' => J mX11_isPlan d 0 0 Q 0 0 9 [some (.inl v0)] [.inl x] h')) : J mX11_isPlan d 0 0 Q 0 0 0 [some (.inl v0)] [] h := by
  refine zrun 0 4 qX11_isPlan (o := 11) rfl ?_
  show J mX11_isPlan d 0 0 Q 0 0 6 [some (.inl v0)] [.inr (.inl (3 : Int64)), .inr (.inl (lN 0)), .inr (.inl v0.toInt64)] h
  exact zcSi (as := [.inr (.inl v0.toInt64), .inr (.inl (lN 0)), .inr (.inl (3 : Int64))]) (zat qX11_isPlan 4 (by rfl)) l11_178 rfl hd rfl (Nat.le_of_ble_eq_true rfl) zle0 k

theorem bX11_isPlan_9 {d : Nat} {Q : Option MV → MH → Prop} {h : MH} {u0 : Option MV} {vs0 : Int32} (gn : vs0 = 0 ∨ vs0 = 1) (k : Q (some (.inl vs0)) h) : J mX11_isPlan d 0 0 Q 0 0 9 [u0] [.inl vs0] h := by
  exact J_iret (ty := .boolean) (zat qX11_isPlan 5 (by rfl)) rfl (znz gn) (Nat.le_refl 0) (Nat.le_refl 0) k

theorem bX11_minuteOf_0 {d : Nat} {Q : Option MV → MH → Prop} {h : MH} {v1 v2 : Int32} (hr : zRf h) (g0 : vp_in (((nI 9) + ((nI 6) * v1)) + v2) 2166) (k : Q (some (.inl (h.1 112 (((nI 9) + ((nI 6) * v1)) + v2).toNatClampNeg))) h) : J mX11_minuteOf d 0 0 Q 0 0 0 [some (.inr (.inr 111)), some (.inl v1), some (.inl v2)] [] h := by
  refine zrun 0 10 qX11_minuteOf (o := 11) rfl ?_
  show zokO h 111 11 ∧ zokA h (h.2.2.1 111 1) 20 (((nI 9) + ((nI 6) * v1)) + v2) ∧ J mX11_minuteOf d 0 0 Q 0 0 14 [some (.inr (.inr 111)), some (.inl v1), some (.inl v2)] [.inl (h.1 (h.2.2.1 111 1) (((nI 9) + ((nI 6) * v1)) + v2).toNatClampNeg)] h
  rw [(show h.2.2.1 111 1 = 112 from (hr.at (by decide) (by decide) (by rfl)))]
  exact ⟨(zo hr (by decide) rfl), (zia hr (by decide) (by rfl) g0), J_iret (ty := .int) (zat qX11_minuteOf 10 (by rfl)) rfl rfl (Nat.le_refl 0) (Nat.le_refl 0) k⟩

theorem bX11_restOf_0 {d : Nat} {Q : Option MV → MH → Prop} {h : MH} {u0 u2 u3 : Option MV} {v1 : Int32} (k : J mX11_restOf d 0 0 Q 0 0 4 [u0, some (.inl v1), some (.inl (nI 0)), some (.inl (nI 0))] [] h) : J mX11_restOf d 0 0 Q 0 0 0 [u0, some (.inl v1), u2, u3] [] h := by
  refine zrun 0 4 qX11_restOf (o := 11) rfl ?_
  show J mX11_restOf d 0 0 Q 0 0 4 [u0, some (.inl v1), some (.inl (nI 0)), some (.inl (nI 0))] [] h
  exact k

theorem bX11_restOf_4 {d : Nat} {Q : Option MV → MH → Prop} {h : MH} {u2 : Option MV} {v3 v1 : Int32} (hr : zRf h) (g0 : vp_in ((nI 1) + v1) 2166) (k1 : (h.1 112 ((nI 1) + v1).toNatClampNeg) ≤ v3 → J mX11_restOf d 0 0 Q 0 0 31 [some (.inr (.inr 111)), some (.inl v1), u2, some (.inl v3)] [] h) (k2 : ¬ (h.1 112 ((nI 1) + v1).toNatClampNeg) ≤ v3 → J mX11_restOf d 0 0 Q 0 0 16 [some (.inr (.inr 111)), some (.inl v1), u2, some (.inl v3)] [] h) : J mX11_restOf d 0 0 Q 0 0 4 [some (.inr (.inr 111)), some (.inl v1), u2, some (.inl v3)] [] h := by
  refine zrun 4 8 qX11_restOf (o := 11) rfl ?_
  show zokO h 111 11 ∧ zokA h (h.2.2.1 111 1) 20 ((nI 1) + v1) ∧ (((h.1 (h.2.2.1 111 1) ((nI 1) + v1).toNatClampNeg) ≤ v3 → J mX11_restOf d 0 0 Q 0 0 31 [some (.inr (.inr 111)), some (.inl v1), u2, some (.inl v3)] [] h) ∧ (¬ (h.1 (h.2.2.1 111 1) ((nI 1) + v1).toNatClampNeg) ≤ v3 → J mX11_restOf d 0 0 Q 0 0 16 [some (.inr (.inr 111)), some (.inl v1), u2, some (.inl v3)] [] h))
  rw [(show h.2.2.1 111 1 = 112 from (hr.at (by decide) (by decide) (by rfl)))]
  exact ⟨(zo hr (by decide) rfl), (zia hr (by decide) (by rfl) g0), k1, k2⟩

theorem bX11_restOf_16 {d d' : Nat} {Q : Option MV → MH → Prop} {h : MH} {v2 v1 v3 : Int32} (hr : zRf h) (hd : d' + 1 ≤ d) (k : Con mX11_minuteOf d' 0 0 [.inr (.inr 111), .inl v1, .inl v3] h (zri fun (x : Int32) h' => J mX11_restOf d 0 0 Q 0 0 23 [some (.inr (.inr 111)), some (.inl v1), some (.inl v2), some (.inl v3)] [.inl x, .inl v2] h')) : J mX11_restOf d 0 0 Q 0 0 16 [some (.inr (.inr 111)), some (.inl v1), some (.inl v2), some (.inl v3)] [] h := by
  refine zrun 12 4 qX11_restOf (o := 11) rfl ?_
  show J mX11_restOf d 0 0 Q 0 0 20 [some (.inr (.inr 111)), some (.inl v1), some (.inl v2), some (.inl v3)] [.inl v3, .inl v1, .inr (.inr 111), .inl v2] h
  exact zcVi (as := [.inl v1, .inl v3]) (zat qX11_restOf 16 (by rfl)) l11_218 rfl hd rfl (Nat.le_of_ble_eq_true rfl) zle0 (ci := 11) (by decide) rfl (zo hr (by decide) rfl) k

theorem bX11_restOf_23 {d : Nat} {Q : Option MV → MH → Prop} {h : MH} {u0 u2 : Option MV} {vs0 vs1 v1 v3 : Int32} (k : J mX11_restOf d 0 0 Q 0 0 4 [u0, some (.inl v1), some (.inl (vs0 + vs1)), some (.inl (v3 + nI 1))] [] h) : J mX11_restOf d 0 0 Q 0 0 23 [u0, some (.inl v1), u2, some (.inl v3)] [.inl vs1, .inl vs0] h := by
  refine zrun 17 4 qX11_restOf (o := 11) rfl ?_
  show J mX11_restOf d 0 0 Q 0 0 4 [u0, some (.inl v1), some (.inl (vs0 + vs1)), some (.inl (v3 + nI 1))] [] h
  exact k

theorem bX11_restOf_31 {d : Nat} {Q : Option MV → MH → Prop} {h : MH} {u0 u1 u3 : Option MV} {v2 : Int32} (k : Q (some (.inl ((nI 256) * v2))) h) : J mX11_restOf d 0 0 Q 0 0 31 [u0, u1, some (.inl v2), u3] [] h := by
  refine zrun 21 3 qX11_restOf (o := 11) rfl ?_
  show J mX11_restOf d 0 0 Q 0 0 36 [u0, u1, some (.inl v2), u3] [.inl ((nI 256) * v2)] h
  exact J_iret (ty := .int) (zat qX11_restOf 24 (by rfl)) rfl rfl (Nat.le_refl 0) (Nat.le_refl 0) k

theorem bX11_candle_0 {d d' : Nat} {Q : Option MV → MH → Prop} {h : MH} {u2 : Option MV} {v1 : Int32} (hr : zRf h) (hd : d' + 1 ≤ d) (k : Con mX11_isCandle d' 0 0 [.inr (.inr 111), .inl v1] (zsI h 111 0 (nI 0)) (zri fun (x : Int32) h' => J mX11_candle d 0 0 Q 0 0 10 [some (.inr (.inr 111)), some (.inl v1), u2] [.inl x] h')) : J mX11_candle d 0 0 Q 0 0 0 [some (.inr (.inr 111)), some (.inl v1), u2] [] h := by
  refine zrun 0 5 qX11_candle (o := 11) rfl ?_
  show zokO h 111 11 ∧ J mX11_candle d 0 0 Q 0 0 7 [some (.inr (.inr 111)), some (.inl v1), u2] [.inl v1, .inr (.inr 111)] (zsI h 111 0 (nI 0))
  exact ⟨(zo hr (by decide) rfl), zcVi (as := [.inl v1]) (zat qX11_candle 5 (by rfl)) l11_221 rfl hd rfl (Nat.le_of_ble_eq_true rfl) zle0 (ci := 11) (by decide) rfl (show zokO _ _ _ from (zo hr (by decide) rfl)) k⟩

theorem bX11_candle_10 {d : Nat} {Q : Option MV → MH → Prop} {h : MH} {u0 u1 u2 : Option MV} {vs0 : Int32} (k1 : ¬ vs0 = 0 → J mX11_candle d 0 0 Q 0 0 16 [u0, u1, u2] [] h) (k2 : vs0 = 0 → J mX11_candle d 0 0 Q 0 0 13 [u0, u1, u2] [] h) : J mX11_candle d 0 0 Q 0 0 10 [u0, u1, u2] [.inl vs0] h := by
  refine zrun 6 1 qX11_candle (o := 11) rfl ?_
  show ((¬ vs0 = 0 → J mX11_candle d 0 0 Q 0 0 16 [u0, u1, u2] [] h) ∧ (vs0 = 0 → J mX11_candle d 0 0 Q 0 0 13 [u0, u1, u2] [] h))
  exact ⟨k1, k2⟩

theorem bX11_candle_13 {d : Nat} {Q : Option MV → MH → Prop} {h : MH} {u0 u1 u2 : Option MV} (k : Q (some (.inl (-(nI 2)))) h) : J mX11_candle d 0 0 Q 0 0 13 [u0, u1, u2] [] h := by
  refine zrun 7 1 qX11_candle (o := 11) rfl ?_
  show J mX11_candle d 0 0 Q 0 0 15 [u0, u1, u2] [.inl (-(nI 2))] h
  exact J_iret (ty := .int) (zat qX11_candle 8 (by rfl)) rfl rfl (Nat.le_refl 0) (Nat.le_refl 0) k

theorem bX11_candle_16 {d d' : Nat} {Q : Option MV → MH → Prop} {h : MH} {v2 v1 : Int32} (hr : zRf h) (g0 : vp_in ((nI 1) + v1) 2166) (hd : d' + 1 ≤ d) (k : Con mX11_within d' 0 0 [.inr (.inl v2.toInt64), .inr (.inl (10 : Int64)), .inr (.inl (((nI 9) + (h.1 112 ((nI 1) + v1).toNatClampNeg)).toInt64))] h (zri fun (x : Int32) h' => J mX11_candle d 0 0 Q 0 0 36 [some (.inr (.inr 111)), some (.inl v1), some (.inl v2)] [.inl x] h')) : J mX11_candle d 0 0 Q 0 0 16 [some (.inr (.inr 111)), some (.inl v1), some (.inl v2)] [] h := by
  refine zrun 9 12 qX11_candle (o := 11) rfl ?_
  show zokO h 111 11 ∧ zokA h (h.2.2.1 111 1) 20 ((nI 1) + v1) ∧ J mX11_candle d 0 0 Q 0 0 33 [some (.inr (.inr 111)), some (.inl v1), some (.inl v2)] [.inr (.inl (((nI 9) + (h.1 (h.2.2.1 111 1) ((nI 1) + v1).toNatClampNeg)).toInt64)), .inr (.inl (10 : Int64)), .inr (.inl v2.toInt64)] h
  rw [(show h.2.2.1 111 1 = 112 from (hr.at (by decide) (by decide) (by rfl)))]
  exact ⟨(zo hr (by decide) rfl), (zia hr (by decide) (by rfl) g0), zcSi (as := [.inr (.inl v2.toInt64), .inr (.inl (10 : Int64)), .inr (.inl (((nI 9) + (h.1 112 ((nI 1) + v1).toNatClampNeg)).toInt64))]) (zat qX11_candle 21 (by rfl)) l11_178 rfl hd rfl (Nat.le_of_ble_eq_true rfl) zle0 k⟩

theorem bX11_candle_36 {d : Nat} {Q : Option MV → MH → Prop} {h : MH} {u0 u1 u2 : Option MV} {vs0 : Int32} (k1 : vs0 = 0 → J mX11_candle d 0 0 Q 0 0 49 [u0, u1, u2] [] h) (k2 : ¬ vs0 = 0 → J mX11_candle d 0 0 Q 0 0 39 [u0, u1, u2] [] h) : J mX11_candle d 0 0 Q 0 0 36 [u0, u1, u2] [.inl vs0] h := by
  refine zrun 22 1 qX11_candle (o := 11) rfl ?_
  show ((vs0 = 0 → J mX11_candle d 0 0 Q 0 0 49 [u0, u1, u2] [] h) ∧ (¬ vs0 = 0 → J mX11_candle d 0 0 Q 0 0 39 [u0, u1, u2] [] h))
  exact ⟨k1, k2⟩

theorem bX11_candle_39 {d d' : Nat} {Q : Option MV → MH → Prop} {h : MH} {v1 v2 : Int32} (hr : zRf h) (hd : d' + 1 ≤ d) (k : Con mX11_minuteOf d' 0 0 [.inr (.inr 111), .inl v1, .inl (v2 - (nI 10))] h (zri fun (x : Int32) h' => J mX11_candle d 0 0 Q 0 0 48 [some (.inr (.inr 111)), some (.inl v1), some (.inl v2)] [.inl x] h')) : J mX11_candle d 0 0 Q 0 0 39 [some (.inr (.inr 111)), some (.inl v1), some (.inl v2)] [] h := by
  refine zrun 23 5 qX11_candle (o := 11) rfl ?_
  show J mX11_candle d 0 0 Q 0 0 45 [some (.inr (.inr 111)), some (.inl v1), some (.inl v2)] [.inl (v2 - (nI 10)), .inl v1, .inr (.inr 111)] h
  exact zcVi (as := [.inl v1, .inl (v2 - (nI 10))]) (zat qX11_candle 28 (by rfl)) l11_218 rfl hd rfl (Nat.le_of_ble_eq_true rfl) zle0 (ci := 11) (by decide) rfl (zo hr (by decide) rfl) k

theorem bX11_candle_48 {d : Nat} {Q : Option MV → MH → Prop} {h : MH} {u0 u1 u2 : Option MV} {vs0 : Int32} (k : Q (some (.inl vs0)) h) : J mX11_candle d 0 0 Q 0 0 48 [u0, u1, u2] [.inl vs0] h := by
  exact J_iret (ty := .int) (zat qX11_candle 29 (by rfl)) rfl rfl (Nat.le_refl 0) (Nat.le_refl 0) k

theorem bX11_candle_49 {d : Nat} {Q : Option MV → MH → Prop} {h : MH} {u0 u1 : Option MV} {v2 : Int32} (k : J mX11_candle d 0 0 Q 0 0 50 [u0, u1, some (.inl v2)] [.inl v2] h) : J mX11_candle d 0 0 Q 0 0 49 [u0, u1, some (.inl v2)] [] h := by
  refine zrun 30 1 qX11_candle (o := 11) rfl ?_
  show J mX11_candle d 0 0 Q 0 0 50 [u0, u1, some (.inl v2)] [.inl v2] h
  exact k

theorem bX11_candle_80 {d : Nat} {Q : Option MV → MH → Prop} {h : MH} {u2 : Option MV} {v1 : Int32} (hr : zRf h) (g0 : vp_in ((nI 1) + v1) 2166) (k : Q (some (.inl (h.1 112 ((nI 1) + v1).toNatClampNeg))) h) : J mX11_candle d 0 0 Q 0 0 80 [some (.inr (.inr 111)), some (.inl v1), u2] [] h := by
  refine zrun 31 6 qX11_candle (o := 11) rfl ?_
  show zokO h 111 11 ∧ zokA h (h.2.2.1 111 1) 20 ((nI 1) + v1) ∧ J mX11_candle d 0 0 Q 0 0 88 [some (.inr (.inr 111)), some (.inl v1), u2] [.inl (h.1 (h.2.2.1 111 1) ((nI 1) + v1).toNatClampNeg)] h
  rw [(show h.2.2.1 111 1 = 112 from (hr.at (by decide) (by decide) (by rfl)))]
  exact ⟨(zo hr (by decide) rfl), (zia hr (by decide) (by rfl) g0), J_iret (ty := .int) (zat qX11_candle 37 (by rfl)) rfl rfl (Nat.le_refl 0) (Nat.le_refl 0) k⟩

theorem bX11_candle_89 {d d' : Nat} {Q : Option MV → MH → Prop} {h : MH} {u2 : Option MV} {v1 : Int32} (hr : zRf h) (hd : d' + 1 ≤ d) (k : Con mX11_restOf d' 0 0 [.inr (.inr 111), .inl v1] h (zri fun (x : Int32) h' => J mX11_candle d 0 0 Q 0 0 94 [some (.inr (.inr 111)), some (.inl v1), u2] [.inl x] h')) : J mX11_candle d 0 0 Q 0 0 89 [some (.inr (.inr 111)), some (.inl v1), u2] [] h := by
  refine zrun 38 2 qX11_candle (o := 11) rfl ?_
  show J mX11_candle d 0 0 Q 0 0 91 [some (.inr (.inr 111)), some (.inl v1), u2] [.inl v1, .inr (.inr 111)] h
  exact zcVi (as := [.inl v1]) (zat qX11_candle 40 (by rfl)) l11_224 rfl hd rfl (Nat.le_of_ble_eq_true rfl) zle0 (ci := 11) (by decide) rfl (zo hr (by decide) rfl) k

theorem bX11_candle_94 {d : Nat} {Q : Option MV → MH → Prop} {h : MH} {u0 u1 u2 : Option MV} {vs0 : Int32} (k : Q (some (.inl (vs0 / (nI 256)))) h) : J mX11_candle d 0 0 Q 0 0 94 [u0, u1, u2] [.inl vs0] h := by
  refine zrun 41 2 qX11_candle (o := 11) rfl ?_
  show ¬ (nI 256) = 0 ∧ J mX11_candle d 0 0 Q 0 0 98 [u0, u1, u2] [.inl (vs0 / (nI 256))] h
  exact ⟨(by decide), J_iret (ty := .int) (zat qX11_candle 43 (by rfl)) rfl rfl (Nat.le_refl 0) (Nat.le_refl 0) k⟩

theorem bX11_candle_99 {d : Nat} {Q : Option MV → MH → Prop} {h : MH} {u2 : Option MV} {v1 : Int32} (hr : zRf h) (g0 : vp_in ((nI 57) + v1) 2166) (k : Q (some (.inl (h.1 112 ((nI 57) + v1).toNatClampNeg))) h) : J mX11_candle d 0 0 Q 0 0 99 [some (.inr (.inr 111)), some (.inl v1), u2] [] h := by
  refine zrun 44 6 qX11_candle (o := 11) rfl ?_
  show zokO h 111 11 ∧ zokA h (h.2.2.1 111 1) 20 ((nI 57) + v1) ∧ J mX11_candle d 0 0 Q 0 0 108 [some (.inr (.inr 111)), some (.inl v1), u2] [.inl (h.1 (h.2.2.1 111 1) ((nI 57) + v1).toNatClampNeg)] h
  rw [(show h.2.2.1 111 1 = 112 from (hr.at (by decide) (by decide) (by rfl)))]
  exact ⟨(zo hr (by decide) rfl), (zia hr (by decide) (by rfl) g0), J_iret (ty := .int) (zat qX11_candle 50 (by rfl)) rfl rfl (Nat.le_refl 0) (Nat.le_refl 0) k⟩

theorem bX11_candle_109 {d : Nat} {Q : Option MV → MH → Prop} {h : MH} {u2 : Option MV} {v1 : Int32} (hr : zRf h) (g0 : vp_in ((nI 65) + v1) 2166) (k : Q (some (.inl (h.1 112 ((nI 65) + v1).toNatClampNeg))) h) : J mX11_candle d 0 0 Q 0 0 109 [some (.inr (.inr 111)), some (.inl v1), u2] [] h := by
  refine zrun 51 6 qX11_candle (o := 11) rfl ?_
  show zokO h 111 11 ∧ zokA h (h.2.2.1 111 1) 20 ((nI 65) + v1) ∧ J mX11_candle d 0 0 Q 0 0 118 [some (.inr (.inr 111)), some (.inl v1), u2] [.inl (h.1 (h.2.2.1 111 1) ((nI 65) + v1).toNatClampNeg)] h
  rw [(show h.2.2.1 111 1 = 112 from (hr.at (by decide) (by decide) (by rfl)))]
  exact ⟨(zo hr (by decide) rfl), (zia hr (by decide) (by rfl) g0), J_iret (ty := .int) (zat qX11_candle 57 (by rfl)) rfl rfl (Nat.le_refl 0) (Nat.le_refl 0) k⟩

theorem bX11_candle_119 {d : Nat} {Q : Option MV → MH → Prop} {h : MH} {u0 u1 u2 : Option MV} (k : Q (some (.inl (-(nI 2)))) h) : J mX11_candle d 0 0 Q 0 0 119 [u0, u1, u2] [] h := by
  refine zrun 58 1 qX11_candle (o := 11) rfl ?_
  show J mX11_candle d 0 0 Q 0 0 121 [u0, u1, u2] [.inl (-(nI 2))] h
  exact J_iret (ty := .int) (zat qX11_candle 59 (by rfl)) rfl rfl (Nat.le_refl 0) (Nat.le_refl 0) k

theorem bX11_burntOf_0 {d : Nat} {Q : Option MV → MH → Prop} {h : MH} {u0 u1 u4 u5 u6 u7 u8 u9 u10 u11 : Option MV} {v2 v3 : Int32} (k : J mX11_burntOf d 0 0 Q 0 0 6 [u0, u1, some (.inl v2), some (.inl v3), some (.inl v2), some (.inl (nI 0)), u6, u7, u8, u9, u10, u11] [] h) : J mX11_burntOf d 0 0 Q 0 0 0 [u0, u1, some (.inl v2), some (.inl v3), u4, u5, u6, u7, u8, u9, u10, u11] [] h := by
  refine zrun 0 4 qX11_burntOf (o := 11) rfl ?_
  show J mX11_burntOf d 0 0 Q 0 0 6 [u0, u1, some (.inl v2), some (.inl v3), some (.inl v2), some (.inl (nI 0)), u6, u7, u8, u9, u10, u11] [] h
  exact k

theorem bX11_burntOf_6 {d : Nat} {Q : Option MV → MH → Prop} {h : MH} {u2 u3 u4 u6 u7 u8 u9 u10 u11 : Option MV} {v5 v1 : Int32} (hr : zRf h) (g0 : vp_in ((nI 1) + v1) 2166) (k1 : ((h.1 112 ((nI 1) + v1).toNatClampNeg) - (nI 1)) ≤ v5 → J mX11_burntOf d 0 0 Q 0 0 59 [some (.inr (.inr 111)), some (.inl v1), u2, u3, u4, some (.inl v5), u6, u7, u8, u9, u10, u11] [] h) (k2 : ¬ ((h.1 112 ((nI 1) + v1).toNatClampNeg) - (nI 1)) ≤ v5 → J mX11_burntOf d 0 0 Q 0 0 21 [some (.inr (.inr 111)), some (.inl v1), u2, u3, u4, some (.inl v5), u6, u7, u8, u9, u10, u11] [] h) : J mX11_burntOf d 0 0 Q 0 0 6 [some (.inr (.inr 111)), some (.inl v1), u2, u3, u4, some (.inl v5), u6, u7, u8, u9, u10, u11] [] h := by
  refine zrun 4 10 qX11_burntOf (o := 11) rfl ?_
  show zokO h 111 11 ∧ zokA h (h.2.2.1 111 1) 20 ((nI 1) + v1) ∧ ((((h.1 (h.2.2.1 111 1) ((nI 1) + v1).toNatClampNeg) - (nI 1)) ≤ v5 → J mX11_burntOf d 0 0 Q 0 0 59 [some (.inr (.inr 111)), some (.inl v1), u2, u3, u4, some (.inl v5), u6, u7, u8, u9, u10, u11] [] h) ∧ (¬ ((h.1 (h.2.2.1 111 1) ((nI 1) + v1).toNatClampNeg) - (nI 1)) ≤ v5 → J mX11_burntOf d 0 0 Q 0 0 21 [some (.inr (.inr 111)), some (.inl v1), u2, u3, u4, some (.inl v5), u6, u7, u8, u9, u10, u11] [] h))
  rw [(show h.2.2.1 111 1 = 112 from (hr.at (by decide) (by decide) (by rfl)))]
  exact ⟨(zo hr (by decide) rfl), (zia hr (by decide) (by rfl) g0), k1, k2⟩

theorem bX11_burntOf_21 {d d' : Nat} {Q : Option MV → MH → Prop} {h : MH} {u2 u3 u6 u7 u8 u9 u10 u11 : Option MV} {v4 v1 v5 : Int32} (hr : zRf h) (hd : d' + 1 ≤ d) (k : Con mX11_minuteOf d' 0 0 [.inr (.inr 111), .inl v1, .inl v5] h (zri fun (x : Int32) h' => J mX11_burntOf d 0 0 Q 0 0 33 [some (.inr (.inr 111)), some (.inl v1), u2, u3, some (.inl v4), some (.inl v5), u6, u7, u8, u9, u10, u11] [.inl x, .inl (nI 256), .inl v4] h')) : J mX11_burntOf d 0 0 Q 0 0 21 [some (.inr (.inr 111)), some (.inl v1), u2, u3, some (.inl v4), some (.inl v5), u6, u7, u8, u9, u10, u11] [] h := by
  refine zrun 14 5 qX11_burntOf (o := 11) rfl ?_
  show J mX11_burntOf d 0 0 Q 0 0 30 [some (.inr (.inr 111)), some (.inl v1), u2, u3, some (.inl v4), some (.inl v5), u6, u7, u8, u9, u10, u11] [.inl v5, .inl v1, .inr (.inr 111), .inl (nI 256), .inl v4] h
  exact zcVi (as := [.inl v1, .inl v5]) (zat qX11_burntOf 19 (by rfl)) l11_218 rfl hd rfl (Nat.le_of_ble_eq_true rfl) zle0 (ci := 11) (by decide) rfl (zo hr (by decide) rfl) k

theorem bX11_burntOf_33 {d : Nat} {Q : Option MV → MH → Prop} {h : MH} {u0 u1 u2 u3 u4 u5 u6 u7 u8 u9 u10 u11 : Option MV} {vs0 vs1 vs2 : Int32} (k1 : vs0 < (vs1 * vs2) → J mX11_burntOf d 0 0 Q 0 0 59 [u0, u1, u2, u3, u4, u5, u6, u7, u8, u9, u10, u11] [] h) (k2 : ¬ vs0 < (vs1 * vs2) → J mX11_burntOf d 0 0 Q 0 0 37 [u0, u1, u2, u3, u4, u5, u6, u7, u8, u9, u10, u11] [] h) : J mX11_burntOf d 0 0 Q 0 0 33 [u0, u1, u2, u3, u4, u5, u6, u7, u8, u9, u10, u11] [.inl vs2, .inl vs1, .inl vs0] h := by
  refine zrun 20 2 qX11_burntOf (o := 11) rfl ?_
  show ((vs0 < (vs1 * vs2) → J mX11_burntOf d 0 0 Q 0 0 59 [u0, u1, u2, u3, u4, u5, u6, u7, u8, u9, u10, u11] [] h) ∧ (¬ vs0 < (vs1 * vs2) → J mX11_burntOf d 0 0 Q 0 0 37 [u0, u1, u2, u3, u4, u5, u6, u7, u8, u9, u10, u11] [] h))
  exact ⟨k1, k2⟩

theorem bX11_burntOf_37 {d d' : Nat} {Q : Option MV → MH → Prop} {h : MH} {u2 u3 u6 u7 u8 u9 u10 u11 : Option MV} {v4 v1 v5 : Int32} (hr : zRf h) (hd : d' + 1 ≤ d) (k : Con mX11_minuteOf d' 0 0 [.inr (.inr 111), .inl v1, .inl v5] h (zri fun (x : Int32) h' => J mX11_burntOf d 0 0 Q 0 0 49 [some (.inr (.inr 111)), some (.inl v1), u2, u3, some (.inl v4), some (.inl v5), u6, u7, u8, u9, u10, u11] [.inl x, .inl (nI 256), .inl v4] h')) : J mX11_burntOf d 0 0 Q 0 0 37 [some (.inr (.inr 111)), some (.inl v1), u2, u3, some (.inl v4), some (.inl v5), u6, u7, u8, u9, u10, u11] [] h := by
  refine zrun 22 5 qX11_burntOf (o := 11) rfl ?_
  show J mX11_burntOf d 0 0 Q 0 0 46 [some (.inr (.inr 111)), some (.inl v1), u2, u3, some (.inl v4), some (.inl v5), u6, u7, u8, u9, u10, u11] [.inl v5, .inl v1, .inr (.inr 111), .inl (nI 256), .inl v4] h
  exact zcVi (as := [.inl v1, .inl v5]) (zat qX11_burntOf 27 (by rfl)) l11_218 rfl hd rfl (Nat.le_of_ble_eq_true rfl) zle0 (ci := 11) (by decide) rfl (zo hr (by decide) rfl) k

theorem bX11_burntOf_49 {d : Nat} {Q : Option MV → MH → Prop} {h : MH} {u0 u1 u2 u4 u6 u7 u8 u9 u10 u11 : Option MV} {vs0 vs1 vs2 v3 v5 : Int32} (k : J mX11_burntOf d 0 0 Q 0 0 6 [u0, u1, u2, some (.inl v3), some (.inl (vs0 - (vs1 * vs2))), some (.inl (v5 + nI 1)), u6, u7, u8, u9, u10, u11] [] h) : J mX11_burntOf d 0 0 Q 0 0 49 [u0, u1, u2, some (.inl v3), u4, some (.inl v5), u6, u7, u8, u9, u10, u11] [.inl vs2, .inl vs1, .inl vs0] h := by
  refine zrun 28 5 qX11_burntOf (o := 11) rfl ?_
  show J mX11_burntOf d 0 0 Q 0 0 6 [u0, u1, u2, some (.inl v3), some (.inl (vs0 - (vs1 * vs2))), some (.inl (v5 + nI 1)), u6, u7, u8, u9, u10, u11] [] h
  exact k

theorem bX11_burntOf_59 {d d' : Nat} {Q : Option MV → MH → Prop} {h : MH} {u2 u3 u4 u6 u7 u8 u9 u10 u11 : Option MV} {v1 v5 : Int32} (hr : zRf h) (hd : d' + 1 ≤ d) (k : Con mX11_minuteOf d' 0 0 [.inr (.inr 111), .inl v1, .inl v5] h (zri fun (x : Int32) h' => J mX11_burntOf d 0 0 Q 0 0 69 [some (.inr (.inr 111)), some (.inl v1), u2, u3, u4, some (.inl v5), u6, u7, u8, u9, u10, u11] [.inl x, .inl (nI 256)] h')) : J mX11_burntOf d 0 0 Q 0 0 59 [some (.inr (.inr 111)), some (.inl v1), u2, u3, u4, some (.inl v5), u6, u7, u8, u9, u10, u11] [] h := by
  refine zrun 33 4 qX11_burntOf (o := 11) rfl ?_
  show J mX11_burntOf d 0 0 Q 0 0 66 [some (.inr (.inr 111)), some (.inl v1), u2, u3, u4, some (.inl v5), u6, u7, u8, u9, u10, u11] [.inl v5, .inl v1, .inr (.inr 111), .inl (nI 256)] h
  exact zcVi (as := [.inl v1, .inl v5]) (zat qX11_burntOf 37 (by rfl)) l11_218 rfl hd rfl (Nat.le_of_ble_eq_true rfl) zle0 (ci := 11) (by decide) rfl (zo hr (by decide) rfl) k

theorem bX11_burntOf_69 {d : Nat} {Q : Option MV → MH → Prop} {h : MH} {u2 u6 u7 u8 u9 u10 u11 : Option MV} {vs0 vs1 v5 v4 v1 v3 : Int32} (hr : zRf h) (g0 : vp_in ((nI 1) + v1) 2166) (k1 : v3 = 0 → J mX11_burntOf d 0 0 Q 0 0 116 [some (.inr (.inr 111)), some (.inl v1), u2, some (.inl v3), some (.inl v4), some (.inl v5), some (.inr (.inl ((vs0 * vs1).toInt64))), none, some (.inr (.inl ((1000 : Int64) * ((v5.toInt64 * ((vs0 * vs1).toInt64)) + v4.toInt64)))), none, some (.inr (.inl (((h.1 112 ((nI 1) + v1).toNatClampNeg).toInt64) * ((vs0 * vs1).toInt64)))), none] [.inr (.inl ((1000 : Int64) * ((v5.toInt64 * ((vs0 * vs1).toInt64)) + v4.toInt64)))] h) (k2 : ¬ v3 = 0 → J mX11_burntOf d 0 0 Q 0 0 109 [some (.inr (.inr 111)), some (.inl v1), u2, some (.inl v3), some (.inl v4), some (.inl v5), some (.inr (.inl ((vs0 * vs1).toInt64))), none, some (.inr (.inl ((1000 : Int64) * ((v5.toInt64 * ((vs0 * vs1).toInt64)) + v4.toInt64)))), none, some (.inr (.inl (((h.1 112 ((nI 1) + v1).toNatClampNeg).toInt64) * ((vs0 * vs1).toInt64)))), none] [.inr (.inl ((1000 : Int64) * ((v5.toInt64 * ((vs0 * vs1).toInt64)) + v4.toInt64)))] h) : J mX11_burntOf d 0 0 Q 0 0 69 [some (.inr (.inr 111)), some (.inl v1), u2, some (.inl v3), some (.inl v4), some (.inl v5), u6, u7, u8, u9, u10, u11] [.inl vs1, .inl vs0] h := by
  refine zrun 38 26 qX11_burntOf (o := 11) rfl ?_
  show zokO h 111 11 ∧ zokA h (h.2.2.1 111 1) 20 ((nI 1) + v1) ∧ ((v3 = 0 → J mX11_burntOf d 0 0 Q 0 0 116 [some (.inr (.inr 111)), some (.inl v1), u2, some (.inl v3), some (.inl v4), some (.inl v5), some (.inr (.inl ((vs0 * vs1).toInt64))), none, some (.inr (.inl ((1000 : Int64) * ((v5.toInt64 * ((vs0 * vs1).toInt64)) + v4.toInt64)))), none, some (.inr (.inl (((h.1 (h.2.2.1 111 1) ((nI 1) + v1).toNatClampNeg).toInt64) * ((vs0 * vs1).toInt64)))), none] [.inr (.inl ((1000 : Int64) * ((v5.toInt64 * ((vs0 * vs1).toInt64)) + v4.toInt64)))] h) ∧ (¬ v3 = 0 → J mX11_burntOf d 0 0 Q 0 0 109 [some (.inr (.inr 111)), some (.inl v1), u2, some (.inl v3), some (.inl v4), some (.inl v5), some (.inr (.inl ((vs0 * vs1).toInt64))), none, some (.inr (.inl ((1000 : Int64) * ((v5.toInt64 * ((vs0 * vs1).toInt64)) + v4.toInt64)))), none, some (.inr (.inl (((h.1 (h.2.2.1 111 1) ((nI 1) + v1).toNatClampNeg).toInt64) * ((vs0 * vs1).toInt64)))), none] [.inr (.inl ((1000 : Int64) * ((v5.toInt64 * ((vs0 * vs1).toInt64)) + v4.toInt64)))] h))
  rw [(show h.2.2.1 111 1 = 112 from (hr.at (by decide) (by decide) (by rfl)))]
  exact ⟨(zo hr (by decide) rfl), (zia hr (by decide) (by rfl) g0), k1, k2⟩

theorem bX11_burntOf_109 {d : Nat} {Q : Option MV → MH → Prop} {h : MH} {u0 u1 u2 u3 u4 u5 u6 u7 u8 u9 u11 : Option MV} {vs0 v10 : Int64} (k : J mX11_burntOf d 0 0 Q 0 0 117 [u0, u1, u2, u3, u4, u5, u6, u7, u8, u9, some (.inr (.inl v10)), u11] [.inr (.inl (v10 - (lN 1))), .inr (.inl vs0)] h) : J mX11_burntOf d 0 0 Q 0 0 109 [u0, u1, u2, u3, u4, u5, u6, u7, u8, u9, some (.inr (.inl v10)), u11] [.inr (.inl vs0)] h := by
  refine zrun 64 4 qX11_burntOf (o := 11) rfl ?_
  show J mX11_burntOf d 0 0 Q 0 0 117 [u0, u1, u2, u3, u4, u5, u6, u7, u8, u9, some (.inr (.inl v10)), u11] [.inr (.inl (v10 - (lN 1))), .inr (.inl vs0)] h
  exact k

theorem bX11_burntOf_116 {d : Nat} {Q : Option MV → MH → Prop} {h : MH} {u0 u1 u2 u3 u4 u5 u6 u7 u8 u9 u10 u11 : Option MV} {vs0 : Int64} (k : J mX11_burntOf d 0 0 Q 0 0 117 [u0, u1, u2, u3, u4, u5, u6, u7, u8, u9, u10, u11] [.inr (.inl (lN 0)), .inr (.inl vs0)] h) : J mX11_burntOf d 0 0 Q 0 0 116 [u0, u1, u2, u3, u4, u5, u6, u7, u8, u9, u10, u11] [.inr (.inl vs0)] h := by
  refine zrun 68 1 qX11_burntOf (o := 11) rfl ?_
  show J mX11_burntOf d 0 0 Q 0 0 117 [u0, u1, u2, u3, u4, u5, u6, u7, u8, u9, u10, u11] [.inr (.inl (lN 0)), .inr (.inl vs0)] h
  exact k

theorem bX11_burntOf_117 {d : Nat} {Q : Option MV → MH → Prop} {h : MH} {u0 u1 u2 u3 u4 u5 u6 u7 u8 u9 u11 : Option MV} {vs0 vs1 v10 : Int64} (g0 : ¬ v10 = 0) (k : Q (some (.inl (((vs0 + vs1) / v10).toInt32))) h) : J mX11_burntOf d 0 0 Q 0 0 117 [u0, u1, u2, u3, u4, u5, u6, u7, u8, u9, some (.inr (.inl v10)), u11] [.inr (.inl vs1), .inr (.inl vs0)] h := by
  refine zrun 69 4 qX11_burntOf (o := 11) rfl ?_
  show ¬ v10 = 0 ∧ J mX11_burntOf d 0 0 Q 0 0 122 [u0, u1, u2, u3, u4, u5, u6, u7, u8, u9, some (.inr (.inl v10)), u11] [.inl (((vs0 + vs1) / v10).toInt32)] h
  exact ⟨g0, J_iret (ty := .int) (zat qX11_burntOf 73 (by rfl)) rfl rfl (Nat.le_refl 0) (Nat.le_refl 0) k⟩

theorem bX11_length_0 {d d' : Nat} {Q : Option MV → MH → Prop} {h : MH} {u2 : Option MV} {v1 : Int32} (hr : zRf h) (hd : d' + 1 ≤ d) (k : Con mX11_isCandle d' 0 0 [.inr (.inr 111), .inl v1] (zsI h 111 0 (nI 0)) (zri fun (x : Int32) h' => J mX11_length d 0 0 Q 0 0 10 [some (.inr (.inr 111)), some (.inl v1), u2] [.inl x] h')) : J mX11_length d 0 0 Q 0 0 0 [some (.inr (.inr 111)), some (.inl v1), u2] [] h := by
  refine zrun 0 5 qX11_length (o := 11) rfl ?_
  show zokO h 111 11 ∧ J mX11_length d 0 0 Q 0 0 7 [some (.inr (.inr 111)), some (.inl v1), u2] [.inl v1, .inr (.inr 111)] (zsI h 111 0 (nI 0))
  exact ⟨(zo hr (by decide) rfl), zcVi (as := [.inl v1]) (zat qX11_length 5 (by rfl)) l11_221 rfl hd rfl (Nat.le_of_ble_eq_true rfl) zle0 (ci := 11) (by decide) rfl (show zokO _ _ _ from (zo hr (by decide) rfl)) k⟩

theorem bX11_length_10 {d : Nat} {Q : Option MV → MH → Prop} {h : MH} {u0 u1 u2 : Option MV} {vs0 : Int32} (k1 : ¬ vs0 = 0 → J mX11_length d 0 0 Q 0 0 16 [u0, u1, u2] [] h) (k2 : vs0 = 0 → J mX11_length d 0 0 Q 0 0 13 [u0, u1, u2] [] h) : J mX11_length d 0 0 Q 0 0 10 [u0, u1, u2] [.inl vs0] h := by
  refine zrun 6 1 qX11_length (o := 11) rfl ?_
  show ((¬ vs0 = 0 → J mX11_length d 0 0 Q 0 0 16 [u0, u1, u2] [] h) ∧ (vs0 = 0 → J mX11_length d 0 0 Q 0 0 13 [u0, u1, u2] [] h))
  exact ⟨k1, k2⟩

theorem bX11_length_13 {d : Nat} {Q : Option MV → MH → Prop} {h : MH} {u0 u1 u2 : Option MV} (k : Q (some (.inl (-(nI 2)))) h) : J mX11_length d 0 0 Q 0 0 13 [u0, u1, u2] [] h := by
  refine zrun 7 1 qX11_length (o := 11) rfl ?_
  show J mX11_length d 0 0 Q 0 0 15 [u0, u1, u2] [.inl (-(nI 2))] h
  exact J_iret (ty := .int) (zat qX11_length 8 (by rfl)) rfl rfl (Nat.le_refl 0) (Nat.le_refl 0) k

theorem bX11_length_16 {d d' : Nat} {Q : Option MV → MH → Prop} {h : MH} {v2 v1 : Int32} (hr : zRf h) (hd : d' + 1 ≤ d) (k : Con mX11_restOf d' 0 0 [.inr (.inr 111), .inl v1] h (zri fun (x : Int32) h' => J mX11_length d 0 0 Q 0 0 24 [some (.inr (.inr 111)), some (.inl v1), some (.inl v2)] [.inl x, .inr (.inl (lN 0)), .inr (.inl v2.toInt64)] h')) : J mX11_length d 0 0 Q 0 0 16 [some (.inr (.inr 111)), some (.inl v1), some (.inl v2)] [] h := by
  refine zrun 9 5 qX11_length (o := 11) rfl ?_
  show J mX11_length d 0 0 Q 0 0 21 [some (.inr (.inr 111)), some (.inl v1), some (.inl v2)] [.inl v1, .inr (.inr 111), .inr (.inl (lN 0)), .inr (.inl v2.toInt64)] h
  exact zcVi (as := [.inl v1]) (zat qX11_length 14 (by rfl)) l11_224 rfl hd rfl (Nat.le_of_ble_eq_true rfl) zle0 (ci := 11) (by decide) rfl (zo hr (by decide) rfl) k

theorem bX11_length_24 {d d' : Nat} {Q : Option MV → MH → Prop} {h : MH} {u0 u1 u2 : Option MV} {vs2 : Int32} {vs0 vs1 : Int64} (hd : d' + 1 ≤ d) (k : Con mX11_within d' 0 0 [.inr (.inl vs0), .inr (.inl vs1), .inr (.inl vs2.toInt64)] h (zri fun (x : Int32) h' => J mX11_length d 0 0 Q 0 0 28 [u0, u1, u2] [.inl x] h')) : J mX11_length d 0 0 Q 0 0 24 [u0, u1, u2] [.inl vs2, .inr (.inl vs1), .inr (.inl vs0)] h := by
  refine zrun 15 1 qX11_length (o := 11) rfl ?_
  show J mX11_length d 0 0 Q 0 0 25 [u0, u1, u2] [.inr (.inl vs2.toInt64), .inr (.inl vs1), .inr (.inl vs0)] h
  exact zcSi (as := [.inr (.inl vs0), .inr (.inl vs1), .inr (.inl vs2.toInt64)]) (zat qX11_length 16 (by rfl)) l11_178 rfl hd rfl (Nat.le_of_ble_eq_true rfl) zle0 k

theorem bX11_length_28 {d : Nat} {Q : Option MV → MH → Prop} {h : MH} {u0 u1 u2 : Option MV} {vs0 : Int32} (k1 : ¬ vs0 = 0 → J mX11_length d 0 0 Q 0 0 34 [u0, u1, u2] [] h) (k2 : vs0 = 0 → J mX11_length d 0 0 Q 0 0 31 [u0, u1, u2] [] h) : J mX11_length d 0 0 Q 0 0 28 [u0, u1, u2] [.inl vs0] h := by
  refine zrun 17 1 qX11_length (o := 11) rfl ?_
  show ((¬ vs0 = 0 → J mX11_length d 0 0 Q 0 0 34 [u0, u1, u2] [] h) ∧ (vs0 = 0 → J mX11_length d 0 0 Q 0 0 31 [u0, u1, u2] [] h))
  exact ⟨k1, k2⟩

theorem bX11_length_31 {d : Nat} {Q : Option MV → MH → Prop} {h : MH} {u0 u1 u2 : Option MV} (k : Q (some (.inl (-(nI 3)))) h) : J mX11_length d 0 0 Q 0 0 31 [u0, u1, u2] [] h := by
  refine zrun 18 1 qX11_length (o := 11) rfl ?_
  show J mX11_length d 0 0 Q 0 0 33 [u0, u1, u2] [.inl (-(nI 3))] h
  exact J_iret (ty := .int) (zat qX11_length 19 (by rfl)) rfl rfl (Nat.le_refl 0) (Nat.le_refl 0) k

theorem bX11_length_34 {d d' : Nat} {Q : Option MV → MH → Prop} {h : MH} {v1 v2 : Int32} (hr : zRf h) (hd : d' + 1 ≤ d) (k : Con mX11_burntOf d' 0 0 [.inr (.inr 111), .inl v1, .inl v2, .inl (nI 1)] h (zri fun (x : Int32) h' => J mX11_length d 0 0 Q 0 0 44 [some (.inr (.inr 111)), some (.inl v1), some (.inl v2)] [.inl x, .inl (nI 1000)] h')) : J mX11_length d 0 0 Q 0 0 34 [some (.inr (.inr 111)), some (.inl v1), some (.inl v2)] [] h := by
  refine zrun 20 5 qX11_length (o := 11) rfl ?_
  show J mX11_length d 0 0 Q 0 0 41 [some (.inr (.inr 111)), some (.inl v1), some (.inl v2)] [.inl (nI 1), .inl v2, .inl v1, .inr (.inr 111), .inl (nI 1000)] h
  exact zcVi (as := [.inl v1, .inl v2, .inl (nI 1)]) (zat qX11_length 25 (by rfl)) l11_229 rfl hd rfl (Nat.le_of_ble_eq_true rfl) zle0 (ci := 11) (by decide) rfl (zo hr (by decide) rfl) k

theorem bX11_length_44 {d : Nat} {Q : Option MV → MH → Prop} {h : MH} {u0 u1 u2 : Option MV} {vs0 vs1 : Int32} (k : Q (some (.inl (vs0 - vs1))) h) : J mX11_length d 0 0 Q 0 0 44 [u0, u1, u2] [.inl vs1, .inl vs0] h := by
  refine zrun 26 1 qX11_length (o := 11) rfl ?_
  show J mX11_length d 0 0 Q 0 0 45 [u0, u1, u2] [.inl (vs0 - vs1)] h
  exact J_iret (ty := .int) (zat qX11_length 27 (by rfl)) rfl rfl (Nat.le_refl 0) (Nat.le_refl 0) k

theorem bX11_meet_0 {d d' : Nat} {Q : Option MV → MH → Prop} {h : MH} {v1 : Int32} (hr : zRf h) (hd : d' + 1 ≤ d) (k : Con mX11_isCandle d' 0 0 [.inr (.inr 111), .inl v1] (zsI h 111 0 (nI 0)) (zri fun (x : Int32) h' => J mX11_meet d 0 0 Q 0 0 10 [some (.inr (.inr 111)), some (.inl v1)] [.inl x] h')) : J mX11_meet d 0 0 Q 0 0 0 [some (.inr (.inr 111)), some (.inl v1)] [] h := by
  refine zrun 0 5 qX11_meet (o := 11) rfl ?_
  show zokO h 111 11 ∧ J mX11_meet d 0 0 Q 0 0 7 [some (.inr (.inr 111)), some (.inl v1)] [.inl v1, .inr (.inr 111)] (zsI h 111 0 (nI 0))
  exact ⟨(zo hr (by decide) rfl), zcVi (as := [.inl v1]) (zat qX11_meet 5 (by rfl)) l11_221 rfl hd rfl (Nat.le_of_ble_eq_true rfl) zle0 (ci := 11) (by decide) rfl (show zokO _ _ _ from (zo hr (by decide) rfl)) k⟩

theorem bX11_meet_10 {d : Nat} {Q : Option MV → MH → Prop} {h : MH} {u0 u1 : Option MV} {vs0 : Int32} (k1 : vs0 = 0 → J mX11_meet d 0 0 Q 0 0 29 [u0, u1] [] h) (k2 : ¬ vs0 = 0 → J mX11_meet d 0 0 Q 0 0 13 [u0, u1] [] h) : J mX11_meet d 0 0 Q 0 0 10 [u0, u1] [.inl vs0] h := by
  refine zrun 6 1 qX11_meet (o := 11) rfl ?_
  show ((vs0 = 0 → J mX11_meet d 0 0 Q 0 0 29 [u0, u1] [] h) ∧ (¬ vs0 = 0 → J mX11_meet d 0 0 Q 0 0 13 [u0, u1] [] h))
  exact ⟨k1, k2⟩

theorem bX11_meet_13 {d d' : Nat} {Q : Option MV → MH → Prop} {h : MH} {v1 : Int32} (hr : zRf h) (hd : d' + 1 ≤ d) (k : Con mX11_restOf d' 0 0 [.inr (.inr 111), .inl v1] h (zri fun (x : Int32) h' => J mX11_meet d 0 0 Q 0 0 20 [some (.inr (.inr 111)), some (.inl v1)] [.inl x, .inl v1, .inr (.inr 111)] h')) : J mX11_meet d 0 0 Q 0 0 13 [some (.inr (.inr 111)), some (.inl v1)] [] h := by
  refine zrun 7 4 qX11_meet (o := 11) rfl ?_
  show J mX11_meet d 0 0 Q 0 0 17 [some (.inr (.inr 111)), some (.inl v1)] [.inl v1, .inr (.inr 111), .inl v1, .inr (.inr 111)] h
  exact zcVi (as := [.inl v1]) (zat qX11_meet 11 (by rfl)) l11_224 rfl hd rfl (Nat.le_of_ble_eq_true rfl) zle0 (ci := 11) (by decide) rfl (zo hr (by decide) rfl) k

theorem bX11_meet_20 {d d' : Nat} {Q : Option MV → MH → Prop} {h : MH} {u0 u1 : Option MV} {vs1 vs2 : Int32} (hr : zRf h) (hd : d' + 1 ≤ d) (k : Con mX11_burntOf d' 0 0 [.inr (.inr 111), .inl vs1, .inl (vs2 / (nI 2)), .inl (nI 0)] h (zri fun (x : Int32) h' => J mX11_meet d 0 0 Q 0 0 26 [u0, u1] [.inl x] h')) : J mX11_meet d 0 0 Q 0 0 20 [u0, u1] [.inl vs2, .inl vs1, .inr (.inr 111)] h := by
  refine zrun 12 3 qX11_meet (o := 11) rfl ?_
  show ¬ (nI 2) = 0 ∧ J mX11_meet d 0 0 Q 0 0 23 [u0, u1] [.inl (nI 0), .inl (vs2 / (nI 2)), .inl vs1, .inr (.inr 111)] h
  exact ⟨(by decide), zcVi (as := [.inl vs1, .inl (vs2 / (nI 2)), .inl (nI 0)]) (zat qX11_meet 15 (by rfl)) l11_229 rfl hd rfl (Nat.le_of_ble_eq_true rfl) zle0 (ci := 11) (by decide) rfl (zo hr (by decide) rfl) k⟩

theorem bX11_meet_26 {d : Nat} {Q : Option MV → MH → Prop} {h : MH} {u0 u1 : Option MV} {vs0 : Int32} (k : J mX11_meet d 0 0 Q 0 0 31 [u0, u1] [.inl vs0] h) : J mX11_meet d 0 0 Q 0 0 26 [u0, u1] [.inl vs0] h := by
  refine zrun 16 1 qX11_meet (o := 11) rfl ?_
  show J mX11_meet d 0 0 Q 0 0 31 [u0, u1] [.inl vs0] h
  exact k

theorem bX11_meet_29 {d : Nat} {Q : Option MV → MH → Prop} {h : MH} {u0 u1 : Option MV} (k : J mX11_meet d 0 0 Q 0 0 31 [u0, u1] [.inl (-(nI 2))] h) : J mX11_meet d 0 0 Q 0 0 29 [u0, u1] [] h := by
  refine zrun 17 1 qX11_meet (o := 11) rfl ?_
  show J mX11_meet d 0 0 Q 0 0 31 [u0, u1] [.inl (-(nI 2))] h
  exact k

theorem bX11_meet_31 {d : Nat} {Q : Option MV → MH → Prop} {h : MH} {u0 u1 : Option MV} {vs0 : Int32} (k : Q (some (.inl vs0)) h) : J mX11_meet d 0 0 Q 0 0 31 [u0, u1] [.inl vs0] h := by
  exact J_iret (ty := .int) (zat qX11_meet 18 (by rfl)) rfl rfl (Nat.le_refl 0) (Nat.le_refl 0) k

theorem bX11_halves_0 {d d' : Nat} {Q : Option MV → MH → Prop} {h : MH} {u2 u3 : Option MV} {v1 : Int32} (hr : zRf h) (hd : d' + 1 ≤ d) (k : Con mX11_isCandle d' 0 0 [.inr (.inr 111), .inl v1] (zsI h 111 0 (nI 0)) (zri fun (x : Int32) h' => J mX11_halves d 0 0 Q 0 0 10 [some (.inr (.inr 111)), some (.inl v1), u2, u3] [.inl x] h')) : J mX11_halves d 0 0 Q 0 0 0 [some (.inr (.inr 111)), some (.inl v1), u2, u3] [] h := by
  refine zrun 0 5 qX11_halves (o := 11) rfl ?_
  show zokO h 111 11 ∧ J mX11_halves d 0 0 Q 0 0 7 [some (.inr (.inr 111)), some (.inl v1), u2, u3] [.inl v1, .inr (.inr 111)] (zsI h 111 0 (nI 0))
  exact ⟨(zo hr (by decide) rfl), zcVi (as := [.inl v1]) (zat qX11_halves 5 (by rfl)) l11_221 rfl hd rfl (Nat.le_of_ble_eq_true rfl) zle0 (ci := 11) (by decide) rfl (show zokO _ _ _ from (zo hr (by decide) rfl)) k⟩

theorem bX11_halves_10 {d : Nat} {Q : Option MV → MH → Prop} {h : MH} {u0 u1 u2 u3 : Option MV} {vs0 : Int32} (k1 : ¬ vs0 = 0 → J mX11_halves d 0 0 Q 0 0 16 [u0, u1, u2, u3] [] h) (k2 : vs0 = 0 → J mX11_halves d 0 0 Q 0 0 13 [u0, u1, u2, u3] [] h) : J mX11_halves d 0 0 Q 0 0 10 [u0, u1, u2, u3] [.inl vs0] h := by
  refine zrun 6 1 qX11_halves (o := 11) rfl ?_
  show ((¬ vs0 = 0 → J mX11_halves d 0 0 Q 0 0 16 [u0, u1, u2, u3] [] h) ∧ (vs0 = 0 → J mX11_halves d 0 0 Q 0 0 13 [u0, u1, u2, u3] [] h))
  exact ⟨k1, k2⟩

theorem bX11_halves_13 {d : Nat} {Q : Option MV → MH → Prop} {h : MH} {u0 u1 u2 u3 : Option MV} (k : Q (some (.inl (-(nI 2)))) h) : J mX11_halves d 0 0 Q 0 0 13 [u0, u1, u2, u3] [] h := by
  refine zrun 7 1 qX11_halves (o := 11) rfl ?_
  show J mX11_halves d 0 0 Q 0 0 15 [u0, u1, u2, u3] [.inl (-(nI 2))] h
  exact J_iret (ty := .int) (zat qX11_halves 8 (by rfl)) rfl rfl (Nat.le_refl 0) (Nat.le_refl 0) k

theorem bX11_halves_16 {d : Nat} {Q : Option MV → MH → Prop} {h : MH} {u0 u2 u3 : Option MV} {v1 : Int32} (k : J mX11_halves d 0 0 Q 0 0 20 [u0, some (.inl v1), some (.inl (nI 0)), some (.inl (nI 0))] [] h) : J mX11_halves d 0 0 Q 0 0 16 [u0, some (.inl v1), u2, u3] [] h := by
  refine zrun 9 4 qX11_halves (o := 11) rfl ?_
  show J mX11_halves d 0 0 Q 0 0 20 [u0, some (.inl v1), some (.inl (nI 0)), some (.inl (nI 0))] [] h
  exact k

theorem bX11_halves_20 {d : Nat} {Q : Option MV → MH → Prop} {h : MH} {u2 : Option MV} {v3 v1 : Int32} (hr : zRf h) (g0 : vp_in ((nI 1) + v1) 2166) (k1 : (h.1 112 ((nI 1) + v1).toNatClampNeg) ≤ v3 → J mX11_halves d 0 0 Q 0 0 94 [some (.inr (.inr 111)), some (.inl v1), u2, some (.inl v3)] [] h) (k2 : ¬ (h.1 112 ((nI 1) + v1).toNatClampNeg) ≤ v3 → J mX11_halves d 0 0 Q 0 0 32 [some (.inr (.inr 111)), some (.inl v1), u2, some (.inl v3)] [] h) : J mX11_halves d 0 0 Q 0 0 20 [some (.inr (.inr 111)), some (.inl v1), u2, some (.inl v3)] [] h := by
  refine zrun 13 8 qX11_halves (o := 11) rfl ?_
  show zokO h 111 11 ∧ zokA h (h.2.2.1 111 1) 20 ((nI 1) + v1) ∧ (((h.1 (h.2.2.1 111 1) ((nI 1) + v1).toNatClampNeg) ≤ v3 → J mX11_halves d 0 0 Q 0 0 94 [some (.inr (.inr 111)), some (.inl v1), u2, some (.inl v3)] [] h) ∧ (¬ (h.1 (h.2.2.1 111 1) ((nI 1) + v1).toNatClampNeg) ≤ v3 → J mX11_halves d 0 0 Q 0 0 32 [some (.inr (.inr 111)), some (.inl v1), u2, some (.inl v3)] [] h))
  rw [(show h.2.2.1 111 1 = 112 from (hr.at (by decide) (by decide) (by rfl)))]
  exact ⟨(zo hr (by decide) rfl), (zia hr (by decide) (by rfl) g0), k1, k2⟩

theorem bX11_halves_32 {d : Nat} {Q : Option MV → MH → Prop} {h : MH} {v2 v3 v1 : Int32} (hr : zRf h) (g0 : vp_in ((nI 1) + v1) 2166) (k1 : (h.1 112 ((nI 1) + v1).toNatClampNeg) < (((nI 2) * v3) + (nI 2)) → J mX11_halves d 0 0 Q 0 0 60 [some (.inr (.inr 111)), some (.inl v1), some (.inl v2), some (.inl v3)] [.inl v2] h) (k2 : ¬ (h.1 112 ((nI 1) + v1).toNatClampNeg) < (((nI 2) * v3) + (nI 2)) → J mX11_halves d 0 0 Q 0 0 49 [some (.inr (.inr 111)), some (.inl v1), some (.inl v2), some (.inl v3)] [.inl v2] h) : J mX11_halves d 0 0 Q 0 0 32 [some (.inr (.inr 111)), some (.inl v1), some (.inl v2), some (.inl v3)] [] h := by
  refine zrun 21 13 qX11_halves (o := 11) rfl ?_
  show zokO h 111 11 ∧ zokA h (h.2.2.1 111 1) 20 ((nI 1) + v1) ∧ (((h.1 (h.2.2.1 111 1) ((nI 1) + v1).toNatClampNeg) < (((nI 2) * v3) + (nI 2)) → J mX11_halves d 0 0 Q 0 0 60 [some (.inr (.inr 111)), some (.inl v1), some (.inl v2), some (.inl v3)] [.inl v2] h) ∧ (¬ (h.1 (h.2.2.1 111 1) ((nI 1) + v1).toNatClampNeg) < (((nI 2) * v3) + (nI 2)) → J mX11_halves d 0 0 Q 0 0 49 [some (.inr (.inr 111)), some (.inl v1), some (.inl v2), some (.inl v3)] [.inl v2] h))
  rw [(show h.2.2.1 111 1 = 112 from (hr.at (by decide) (by decide) (by rfl)))]
  exact ⟨(zo hr (by decide) rfl), (zia hr (by decide) (by rfl) g0), k1, k2⟩

theorem bX11_halves_49 {d d' : Nat} {Q : Option MV → MH → Prop} {h : MH} {u2 : Option MV} {vs0 v1 v3 : Int32} (hr : zRf h) (hd : d' + 1 ≤ d) (k : Con mX11_minuteOf d' 0 0 [.inr (.inr 111), .inl v1, .inl v3] h (zri fun (x : Int32) h' => J mX11_halves d 0 0 Q 0 0 56 [some (.inr (.inr 111)), some (.inl v1), u2, some (.inl v3)] [.inl x, .inl (nI 2), .inl vs0] h')) : J mX11_halves d 0 0 Q 0 0 49 [some (.inr (.inr 111)), some (.inl v1), u2, some (.inl v3)] [.inl vs0] h := by
  refine zrun 34 4 qX11_halves (o := 11) rfl ?_
  show J mX11_halves d 0 0 Q 0 0 53 [some (.inr (.inr 111)), some (.inl v1), u2, some (.inl v3)] [.inl v3, .inl v1, .inr (.inr 111), .inl (nI 2), .inl vs0] h
  exact zcVi (as := [.inl v1, .inl v3]) (zat qX11_halves 38 (by rfl)) l11_218 rfl hd rfl (Nat.le_of_ble_eq_true rfl) zle0 (ci := 11) (by decide) rfl (zo hr (by decide) rfl) k

theorem bX11_halves_56 {d : Nat} {Q : Option MV → MH → Prop} {h : MH} {u0 u1 u2 u3 : Option MV} {vs0 vs1 vs2 : Int32} (k : J mX11_halves d 0 0 Q 0 0 86 [u0, u1, u2, u3] [.inl (vs1 * vs2), .inl vs0] h) : J mX11_halves d 0 0 Q 0 0 56 [u0, u1, u2, u3] [.inl vs2, .inl vs1, .inl vs0] h := by
  refine zrun 39 2 qX11_halves (o := 11) rfl ?_
  show J mX11_halves d 0 0 Q 0 0 86 [u0, u1, u2, u3] [.inl (vs1 * vs2), .inl vs0] h
  exact k

theorem bX11_halves_60 {d : Nat} {Q : Option MV → MH → Prop} {h : MH} {u2 : Option MV} {vs0 v3 v1 : Int32} (hr : zRf h) (g0 : vp_in ((nI 1) + v1) 2166) (k1 : ¬ (((nI 2) * v3) + (nI 1)) = (h.1 112 ((nI 1) + v1).toNatClampNeg) → J mX11_halves d 0 0 Q 0 0 85 [some (.inr (.inr 111)), some (.inl v1), u2, some (.inl v3)] [.inl vs0] h) (k2 : (((nI 2) * v3) + (nI 1)) = (h.1 112 ((nI 1) + v1).toNatClampNeg) → J mX11_halves d 0 0 Q 0 0 76 [some (.inr (.inr 111)), some (.inl v1), u2, some (.inl v3)] [.inl vs0] h) : J mX11_halves d 0 0 Q 0 0 60 [some (.inr (.inr 111)), some (.inl v1), u2, some (.inl v3)] [.inl vs0] h := by
  refine zrun 41 12 qX11_halves (o := 11) rfl ?_
  show zokO h 111 11 ∧ zokA h (h.2.2.1 111 1) 20 ((nI 1) + v1) ∧ ((¬ (((nI 2) * v3) + (nI 1)) = (h.1 (h.2.2.1 111 1) ((nI 1) + v1).toNatClampNeg) → J mX11_halves d 0 0 Q 0 0 85 [some (.inr (.inr 111)), some (.inl v1), u2, some (.inl v3)] [.inl vs0] h) ∧ ((((nI 2) * v3) + (nI 1)) = (h.1 (h.2.2.1 111 1) ((nI 1) + v1).toNatClampNeg) → J mX11_halves d 0 0 Q 0 0 76 [some (.inr (.inr 111)), some (.inl v1), u2, some (.inl v3)] [.inl vs0] h))
  rw [(show h.2.2.1 111 1 = 112 from (hr.at (by decide) (by decide) (by rfl)))]
  exact ⟨(zo hr (by decide) rfl), (zia hr (by decide) (by rfl) g0), k1, k2⟩

theorem bX11_halves_76 {d d' : Nat} {Q : Option MV → MH → Prop} {h : MH} {u2 : Option MV} {vs0 v1 v3 : Int32} (hr : zRf h) (hd : d' + 1 ≤ d) (k : Con mX11_minuteOf d' 0 0 [.inr (.inr 111), .inl v1, .inl v3] h (zri fun (x : Int32) h' => J mX11_halves d 0 0 Q 0 0 82 [some (.inr (.inr 111)), some (.inl v1), u2, some (.inl v3)] [.inl x, .inl vs0] h')) : J mX11_halves d 0 0 Q 0 0 76 [some (.inr (.inr 111)), some (.inl v1), u2, some (.inl v3)] [.inl vs0] h := by
  refine zrun 53 3 qX11_halves (o := 11) rfl ?_
  show J mX11_halves d 0 0 Q 0 0 79 [some (.inr (.inr 111)), some (.inl v1), u2, some (.inl v3)] [.inl v3, .inl v1, .inr (.inr 111), .inl vs0] h
  exact zcVi (as := [.inl v1, .inl v3]) (zat qX11_halves 56 (by rfl)) l11_218 rfl hd rfl (Nat.le_of_ble_eq_true rfl) zle0 (ci := 11) (by decide) rfl (zo hr (by decide) rfl) k

theorem bX11_halves_82 {d : Nat} {Q : Option MV → MH → Prop} {h : MH} {u0 u1 u2 u3 : Option MV} {vs0 vs1 : Int32} (k : J mX11_halves d 0 0 Q 0 0 86 [u0, u1, u2, u3] [.inl vs1, .inl vs0] h) : J mX11_halves d 0 0 Q 0 0 82 [u0, u1, u2, u3] [.inl vs1, .inl vs0] h := by
  refine zrun 57 1 qX11_halves (o := 11) rfl ?_
  show J mX11_halves d 0 0 Q 0 0 86 [u0, u1, u2, u3] [.inl vs1, .inl vs0] h
  exact k

theorem bX11_halves_85 {d : Nat} {Q : Option MV → MH → Prop} {h : MH} {u0 u1 u2 u3 : Option MV} {vs0 : Int32} (k : J mX11_halves d 0 0 Q 0 0 86 [u0, u1, u2, u3] [.inl (nI 0), .inl vs0] h) : J mX11_halves d 0 0 Q 0 0 85 [u0, u1, u2, u3] [.inl vs0] h := by
  refine zrun 58 1 qX11_halves (o := 11) rfl ?_
  show J mX11_halves d 0 0 Q 0 0 86 [u0, u1, u2, u3] [.inl (nI 0), .inl vs0] h
  exact k

theorem bX11_halves_86 {d : Nat} {Q : Option MV → MH → Prop} {h : MH} {u0 u2 : Option MV} {vs0 vs1 v1 v3 : Int32} (k : J mX11_halves d 0 0 Q 0 0 20 [u0, some (.inl v1), some (.inl (vs0 + vs1)), some (.inl (v3 + nI 1))] [] h) : J mX11_halves d 0 0 Q 0 0 86 [u0, some (.inl v1), u2, some (.inl v3)] [.inl vs1, .inl vs0] h := by
  refine zrun 59 4 qX11_halves (o := 11) rfl ?_
  show J mX11_halves d 0 0 Q 0 0 20 [u0, some (.inl v1), some (.inl (vs0 + vs1)), some (.inl (v3 + nI 1))] [] h
  exact k

theorem bX11_halves_94 {d : Nat} {Q : Option MV → MH → Prop} {h : MH} {u0 u1 u3 : Option MV} {v2 : Int32} (k : Q (some (.inl ((nI 128) * v2))) h) : J mX11_halves d 0 0 Q 0 0 94 [u0, u1, some (.inl v2), u3] [] h := by
  refine zrun 63 3 qX11_halves (o := 11) rfl ?_
  show J mX11_halves d 0 0 Q 0 0 99 [u0, u1, some (.inl v2), u3] [.inl ((nI 128) * v2)] h
  exact J_iret (ty := .int) (zat qX11_halves 66 (by rfl)) rfl rfl (Nat.le_refl 0) (Nat.le_refl 0) k

theorem bX11_piece_0 {d d' : Nat} {Q : Option MV → MH → Prop} {h : MH} {u2 u3 u4 u5 u6 : Option MV} {v1 : Int32} (hr : zRf h) (hd : d' + 1 ≤ d) (k : Con mX11_isCandle d' 0 0 [.inr (.inr 111), .inl v1] (zsI h 111 0 (nI 0)) (zri fun (x : Int32) h' => J mX11_piece d 0 0 Q 0 0 10 [some (.inr (.inr 111)), some (.inl v1), u2, u3, u4, u5, u6] [.inl x] h')) : J mX11_piece d 0 0 Q 0 0 0 [some (.inr (.inr 111)), some (.inl v1), u2, u3, u4, u5, u6] [] h := by
  refine zrun 0 5 qX11_piece (o := 11) rfl ?_
  show zokO h 111 11 ∧ J mX11_piece d 0 0 Q 0 0 7 [some (.inr (.inr 111)), some (.inl v1), u2, u3, u4, u5, u6] [.inl v1, .inr (.inr 111)] (zsI h 111 0 (nI 0))
  exact ⟨(zo hr (by decide) rfl), zcVi (as := [.inl v1]) (zat qX11_piece 5 (by rfl)) l11_221 rfl hd rfl (Nat.le_of_ble_eq_true rfl) zle0 (ci := 11) (by decide) rfl (show zokO _ _ _ from (zo hr (by decide) rfl)) k⟩

theorem bX11_piece_10 {d : Nat} {Q : Option MV → MH → Prop} {h : MH} {u0 u1 u2 u3 u4 u5 u6 : Option MV} {vs0 : Int32} (k1 : ¬ vs0 = 0 → J mX11_piece d 0 0 Q 0 0 16 [u0, u1, u2, u3, u4, u5, u6] [] h) (k2 : vs0 = 0 → J mX11_piece d 0 0 Q 0 0 13 [u0, u1, u2, u3, u4, u5, u6] [] h) : J mX11_piece d 0 0 Q 0 0 10 [u0, u1, u2, u3, u4, u5, u6] [.inl vs0] h := by
  refine zrun 6 1 qX11_piece (o := 11) rfl ?_
  show ((¬ vs0 = 0 → J mX11_piece d 0 0 Q 0 0 16 [u0, u1, u2, u3, u4, u5, u6] [] h) ∧ (vs0 = 0 → J mX11_piece d 0 0 Q 0 0 13 [u0, u1, u2, u3, u4, u5, u6] [] h))
  exact ⟨k1, k2⟩

theorem bX11_piece_13 {d : Nat} {Q : Option MV → MH → Prop} {h : MH} {u0 u1 u2 u3 u4 u5 u6 : Option MV} (k : Q (some (.inl (-(nI 2)))) h) : J mX11_piece d 0 0 Q 0 0 13 [u0, u1, u2, u3, u4, u5, u6] [] h := by
  refine zrun 7 1 qX11_piece (o := 11) rfl ?_
  show J mX11_piece d 0 0 Q 0 0 15 [u0, u1, u2, u3, u4, u5, u6] [.inl (-(nI 2))] h
  exact J_iret (ty := .int) (zat qX11_piece 8 (by rfl)) rfl rfl (Nat.le_refl 0) (Nat.le_refl 0) k

theorem bX11_piece_16 {d d' : Nat} {Q : Option MV → MH → Prop} {h : MH} {u3 u4 u5 u6 : Option MV} {v2 v1 : Int32} (hr : zRf h) (hd : d' + 1 ≤ d) (k : Con mX11_restOf d' 0 0 [.inr (.inr 111), .inl v1] h (zri fun (x : Int32) h' => J mX11_piece d 0 0 Q 0 0 24 [some (.inr (.inr 111)), some (.inl v1), some (.inl v2), u3, u4, u5, u6] [.inl x, .inr (.inl (lN 0)), .inr (.inl v2.toInt64)] h')) : J mX11_piece d 0 0 Q 0 0 16 [some (.inr (.inr 111)), some (.inl v1), some (.inl v2), u3, u4, u5, u6] [] h := by
  refine zrun 9 5 qX11_piece (o := 11) rfl ?_
  show J mX11_piece d 0 0 Q 0 0 21 [some (.inr (.inr 111)), some (.inl v1), some (.inl v2), u3, u4, u5, u6] [.inl v1, .inr (.inr 111), .inr (.inl (lN 0)), .inr (.inl v2.toInt64)] h
  exact zcVi (as := [.inl v1]) (zat qX11_piece 14 (by rfl)) l11_224 rfl hd rfl (Nat.le_of_ble_eq_true rfl) zle0 (ci := 11) (by decide) rfl (zo hr (by decide) rfl) k

theorem bX11_piece_24 {d d' : Nat} {Q : Option MV → MH → Prop} {h : MH} {u0 u1 u2 u3 u4 u5 u6 : Option MV} {vs2 : Int32} {vs0 vs1 : Int64} (hd : d' + 1 ≤ d) (k : Con mX11_within d' 0 0 [.inr (.inl vs0), .inr (.inl vs1), .inr (.inl vs2.toInt64)] h (zri fun (x : Int32) h' => J mX11_piece d 0 0 Q 0 0 28 [u0, u1, u2, u3, u4, u5, u6] [.inl x] h')) : J mX11_piece d 0 0 Q 0 0 24 [u0, u1, u2, u3, u4, u5, u6] [.inl vs2, .inr (.inl vs1), .inr (.inl vs0)] h := by
  refine zrun 15 1 qX11_piece (o := 11) rfl ?_
  show J mX11_piece d 0 0 Q 0 0 25 [u0, u1, u2, u3, u4, u5, u6] [.inr (.inl vs2.toInt64), .inr (.inl vs1), .inr (.inl vs0)] h
  exact zcSi (as := [.inr (.inl vs0), .inr (.inl vs1), .inr (.inl vs2.toInt64)]) (zat qX11_piece 16 (by rfl)) l11_178 rfl hd rfl (Nat.le_of_ble_eq_true rfl) zle0 k

theorem bX11_piece_28 {d : Nat} {Q : Option MV → MH → Prop} {h : MH} {u0 u1 u2 u3 u4 u5 u6 : Option MV} {vs0 : Int32} (k1 : ¬ vs0 = 0 → J mX11_piece d 0 0 Q 0 0 34 [u0, u1, u2, u3, u4, u5, u6] [] h) (k2 : vs0 = 0 → J mX11_piece d 0 0 Q 0 0 31 [u0, u1, u2, u3, u4, u5, u6] [] h) : J mX11_piece d 0 0 Q 0 0 28 [u0, u1, u2, u3, u4, u5, u6] [.inl vs0] h := by
  refine zrun 17 1 qX11_piece (o := 11) rfl ?_
  show ((¬ vs0 = 0 → J mX11_piece d 0 0 Q 0 0 34 [u0, u1, u2, u3, u4, u5, u6] [] h) ∧ (vs0 = 0 → J mX11_piece d 0 0 Q 0 0 31 [u0, u1, u2, u3, u4, u5, u6] [] h))
  exact ⟨k1, k2⟩

theorem bX11_piece_31 {d : Nat} {Q : Option MV → MH → Prop} {h : MH} {u0 u1 u2 u3 u4 u5 u6 : Option MV} (k : Q (some (.inl (-(nI 3)))) h) : J mX11_piece d 0 0 Q 0 0 31 [u0, u1, u2, u3, u4, u5, u6] [] h := by
  refine zrun 18 1 qX11_piece (o := 11) rfl ?_
  show J mX11_piece d 0 0 Q 0 0 33 [u0, u1, u2, u3, u4, u5, u6] [.inl (-(nI 3))] h
  exact J_iret (ty := .int) (zat qX11_piece 19 (by rfl)) rfl rfl (Nat.le_refl 0) (Nat.le_refl 0) k

theorem bX11_piece_34 {d : Nat} {Q : Option MV → MH → Prop} {h : MH} {u0 u1 u4 u5 u6 : Option MV} {v2 v3 : Int32} (k : J mX11_piece d 0 0 Q 0 0 40 [u0, u1, some (.inl v2), some (.inl v3), some (.inl v2), some (.inl (nI 0)), u6] [] h) : J mX11_piece d 0 0 Q 0 0 34 [u0, u1, some (.inl v2), some (.inl v3), u4, u5, u6] [] h := by
  refine zrun 20 4 qX11_piece (o := 11) rfl ?_
  show J mX11_piece d 0 0 Q 0 0 40 [u0, u1, some (.inl v2), some (.inl v3), some (.inl v2), some (.inl (nI 0)), u6] [] h
  exact k

theorem bX11_piece_40 {d : Nat} {Q : Option MV → MH → Prop} {h : MH} {u2 u3 u4 u6 : Option MV} {v5 v1 : Int32} (hr : zRf h) (g0 : vp_in ((nI 1) + v1) 2166) (k1 : (h.1 112 ((nI 1) + v1).toNatClampNeg) ≤ v5 → J mX11_piece d 0 0 Q 0 0 107 [some (.inr (.inr 111)), some (.inl v1), u2, u3, u4, some (.inl v5), u6] [] h) (k2 : ¬ (h.1 112 ((nI 1) + v1).toNatClampNeg) ≤ v5 → J mX11_piece d 0 0 Q 0 0 53 [some (.inr (.inr 111)), some (.inl v1), u2, u3, u4, some (.inl v5), u6] [] h) : J mX11_piece d 0 0 Q 0 0 40 [some (.inr (.inr 111)), some (.inl v1), u2, u3, u4, some (.inl v5), u6] [] h := by
  refine zrun 24 8 qX11_piece (o := 11) rfl ?_
  show zokO h 111 11 ∧ zokA h (h.2.2.1 111 1) 20 ((nI 1) + v1) ∧ (((h.1 (h.2.2.1 111 1) ((nI 1) + v1).toNatClampNeg) ≤ v5 → J mX11_piece d 0 0 Q 0 0 107 [some (.inr (.inr 111)), some (.inl v1), u2, u3, u4, some (.inl v5), u6] [] h) ∧ (¬ (h.1 (h.2.2.1 111 1) ((nI 1) + v1).toNatClampNeg) ≤ v5 → J mX11_piece d 0 0 Q 0 0 53 [some (.inr (.inr 111)), some (.inl v1), u2, u3, u4, some (.inl v5), u6] [] h))
  rw [(show h.2.2.1 111 1 = 112 from (hr.at (by decide) (by decide) (by rfl)))]
  exact ⟨(zo hr (by decide) rfl), (zia hr (by decide) (by rfl) g0), k1, k2⟩

theorem bX11_piece_53 {d : Nat} {Q : Option MV → MH → Prop} {h : MH} {u0 u1 u2 u4 u5 u6 : Option MV} {v3 : Int32} (k1 : v3 = 0 → J mX11_piece d 0 0 Q 0 0 73 [u0, u1, u2, some (.inl v3), u4, u5, u6] [] h) (k2 : ¬ v3 = 0 → J mX11_piece d 0 0 Q 0 0 57 [u0, u1, u2, some (.inl v3), u4, u5, u6] [] h) : J mX11_piece d 0 0 Q 0 0 53 [u0, u1, u2, some (.inl v3), u4, u5, u6] [] h := by
  refine zrun 32 2 qX11_piece (o := 11) rfl ?_
  show ((v3 = 0 → J mX11_piece d 0 0 Q 0 0 73 [u0, u1, u2, some (.inl v3), u4, u5, u6] [] h) ∧ (¬ v3 = 0 → J mX11_piece d 0 0 Q 0 0 57 [u0, u1, u2, some (.inl v3), u4, u5, u6] [] h))
  exact ⟨k1, k2⟩

theorem bX11_piece_57 {d : Nat} {Q : Option MV → MH → Prop} {h : MH} {u2 u3 u4 u6 : Option MV} {v1 v5 : Int32} (hr : zRf h) (g0 : vp_in ((nI 1) + v1) 2166) (k : J mX11_piece d 0 0 Q 0 0 75 [some (.inr (.inr 111)), some (.inl v1), u2, u3, u4, some (.inl v5), u6] [.inl (((h.1 112 ((nI 1) + v1).toNatClampNeg) - (nI 1)) - v5)] h) : J mX11_piece d 0 0 Q 0 0 57 [some (.inr (.inr 111)), some (.inl v1), u2, u3, u4, some (.inl v5), u6] [] h := by
  refine zrun 34 11 qX11_piece (o := 11) rfl ?_
  show zokO h 111 11 ∧ zokA h (h.2.2.1 111 1) 20 ((nI 1) + v1) ∧ J mX11_piece d 0 0 Q 0 0 75 [some (.inr (.inr 111)), some (.inl v1), u2, u3, u4, some (.inl v5), u6] [.inl (((h.1 (h.2.2.1 111 1) ((nI 1) + v1).toNatClampNeg) - (nI 1)) - v5)] h
  rw [(show h.2.2.1 111 1 = 112 from (hr.at (by decide) (by decide) (by rfl)))]
  exact ⟨(zo hr (by decide) rfl), (zia hr (by decide) (by rfl) g0), k⟩

theorem bX11_piece_73 {d : Nat} {Q : Option MV → MH → Prop} {h : MH} {u0 u1 u2 u3 u4 u6 : Option MV} {v5 : Int32} (k : J mX11_piece d 0 0 Q 0 0 75 [u0, u1, u2, u3, u4, some (.inl v5), u6] [.inl v5] h) : J mX11_piece d 0 0 Q 0 0 73 [u0, u1, u2, u3, u4, some (.inl v5), u6] [] h := by
  refine zrun 45 1 qX11_piece (o := 11) rfl ?_
  show J mX11_piece d 0 0 Q 0 0 75 [u0, u1, u2, u3, u4, some (.inl v5), u6] [.inl v5] h
  exact k

theorem bX11_piece_75 {d d' : Nat} {Q : Option MV → MH → Prop} {h : MH} {u2 u3 u6 : Option MV} {vs0 v5 v4 v1 : Int32} (hr : zRf h) (hd : d' + 1 ≤ d) (k : Con mX11_minuteOf d' 0 0 [.inr (.inr 111), .inl v1, .inl vs0] h (zri fun (x : Int32) h' => J mX11_piece d 0 0 Q 0 0 89 [some (.inr (.inr 111)), some (.inl v1), u2, u3, some (.inl v4), some (.inl v5), some (.inl vs0)] [.inl x, .inl (nI 256), .inl v4] h')) : J mX11_piece d 0 0 Q 0 0 75 [some (.inr (.inr 111)), some (.inl v1), u2, u3, some (.inl v4), some (.inl v5), u6] [.inl vs0] h := by
  refine zrun 46 6 qX11_piece (o := 11) rfl ?_
  show J mX11_piece d 0 0 Q 0 0 86 [some (.inr (.inr 111)), some (.inl v1), u2, u3, some (.inl v4), some (.inl v5), some (.inl vs0)] [.inl vs0, .inl v1, .inr (.inr 111), .inl (nI 256), .inl v4] h
  exact zcVi (as := [.inl v1, .inl vs0]) (zat qX11_piece 52 (by rfl)) l11_218 rfl hd rfl (Nat.le_of_ble_eq_true rfl) zle0 (ci := 11) (by decide) rfl (zo hr (by decide) rfl) k

theorem bX11_piece_89 {d : Nat} {Q : Option MV → MH → Prop} {h : MH} {u0 u1 u2 u4 u5 u6 : Option MV} {vs0 vs1 vs2 v3 : Int32} (k1 : 0 ≤ (vs0 - (vs1 * vs2)) → J mX11_piece d 0 0 Q 0 0 101 [u0, u1, u2, some (.inl v3), some (.inl (vs0 - (vs1 * vs2))), u5, u6] [] h) (k2 : ¬ 0 ≤ (vs0 - (vs1 * vs2)) → J mX11_piece d 0 0 Q 0 0 98 [u0, u1, u2, some (.inl v3), some (.inl (vs0 - (vs1 * vs2))), u5, u6] [] h) : J mX11_piece d 0 0 Q 0 0 89 [u0, u1, u2, some (.inl v3), u4, u5, u6] [.inl vs2, .inl vs1, .inl vs0] h := by
  refine zrun 53 5 qX11_piece (o := 11) rfl ?_
  show ((0 ≤ (vs0 - (vs1 * vs2)) → J mX11_piece d 0 0 Q 0 0 101 [u0, u1, u2, some (.inl v3), some (.inl (vs0 - (vs1 * vs2))), u5, u6] [] h) ∧ (¬ 0 ≤ (vs0 - (vs1 * vs2)) → J mX11_piece d 0 0 Q 0 0 98 [u0, u1, u2, some (.inl v3), some (.inl (vs0 - (vs1 * vs2))), u5, u6] [] h))
  exact ⟨k1, k2⟩

theorem bX11_piece_98 {d : Nat} {Q : Option MV → MH → Prop} {h : MH} {u0 u1 u2 u3 u4 u5 : Option MV} {v6 : Int32} (k : Q (some (.inl v6)) h) : J mX11_piece d 0 0 Q 0 0 98 [u0, u1, u2, u3, u4, u5, some (.inl v6)] [] h := by
  refine zrun 58 1 qX11_piece (o := 11) rfl ?_
  show J mX11_piece d 0 0 Q 0 0 100 [u0, u1, u2, u3, u4, u5, some (.inl v6)] [.inl v6] h
  exact J_iret (ty := .int) (zat qX11_piece 59 (by rfl)) rfl rfl (Nat.le_refl 0) (Nat.le_refl 0) k

theorem bX11_piece_101 {d : Nat} {Q : Option MV → MH → Prop} {h : MH} {u0 u1 u2 u3 u6 : Option MV} {v5 v4 : Int32} (k : J mX11_piece d 0 0 Q 0 0 40 [u0, u1, u2, u3, some (.inl v4), some (.inl (v5 + nI 1)), u6] [] h) : J mX11_piece d 0 0 Q 0 0 101 [u0, u1, u2, u3, some (.inl v4), some (.inl v5), u6] [] h := by
  refine zrun 60 2 qX11_piece (o := 11) rfl ?_
  show J mX11_piece d 0 0 Q 0 0 40 [u0, u1, u2, u3, some (.inl v4), some (.inl (v5 + nI 1)), u6] [] h
  exact k

theorem bX11_piece_107 {d : Nat} {Q : Option MV → MH → Prop} {h : MH} {u0 u1 u2 u3 u4 u5 u6 : Option MV} (k : Q (some (.inl (-(nI 1)))) h) : J mX11_piece d 0 0 Q 0 0 107 [u0, u1, u2, u3, u4, u5, u6] [] h := by
  refine zrun 62 1 qX11_piece (o := 11) rfl ?_
  show J mX11_piece d 0 0 Q 0 0 108 [u0, u1, u2, u3, u4, u5, u6] [.inl (-(nI 1))] h
  exact J_iret (ty := .int) (zat qX11_piece 63 (by rfl)) rfl rfl (Nat.le_refl 0) (Nat.le_refl 0) k

theorem bX11_asTold_0 {d : Nat} {Q : Option MV → MH → Prop} {h : MH} {u1 : Option MV} (k : J mX11_asTold d 0 0 Q 0 0 2 [some (.inr (.inr 111)), some (.inl (nI 0))] [] h) : J mX11_asTold d 0 0 Q 0 0 0 [some (.inr (.inr 111)), u1] [] h := by
  refine zrun 0 2 qX11_asTold (o := 11) rfl ?_
  show J mX11_asTold d 0 0 Q 0 0 2 [some (.inr (.inr 111)), some (.inl (nI 0))] [] h
  exact k

theorem bX11_asTold_2 {d : Nat} {Q : Option MV → MH → Prop} {h : MH} {u0 : Option MV} {v1 : Int32} (k1 : (nI 8) ≤ v1 → J mX11_asTold d 0 0 Q 0 0 43 [u0, some (.inl v1)] [] h) (k2 : ¬ (nI 8) ≤ v1 → J mX11_asTold d 0 0 Q 0 0 8 [u0, some (.inl v1)] [] h) : J mX11_asTold d 0 0 Q 0 0 2 [u0, some (.inl v1)] [] h := by
  refine zrun 2 3 qX11_asTold (o := 11) rfl ?_
  show (((nI 8) ≤ v1 → J mX11_asTold d 0 0 Q 0 0 43 [u0, some (.inl v1)] [] h) ∧ (¬ (nI 8) ≤ v1 → J mX11_asTold d 0 0 Q 0 0 8 [u0, some (.inl v1)] [] h))
  exact ⟨k1, k2⟩

theorem bX11_asTold_8 {d : Nat} {Q : Option MV → MH → Prop} {h : MH} {v1 : Int32} (hr : zRf h) (g0 : vp_in (nI 0) 2166) (k1 : (h.1 112 0) ≤ v1 → J mX11_asTold d 0 0 Q 0 0 35 [some (.inr (.inr 111)), some (.inl v1)] [.inl v1, .inr (.inr 116)] h) (k2 : ¬ (h.1 112 0) ≤ v1 → J mX11_asTold d 0 0 Q 0 0 23 [some (.inr (.inr 111)), some (.inl v1)] [.inl v1, .inr (.inr 116)] h) : J mX11_asTold d 0 0 Q 0 0 8 [some (.inr (.inr 111)), some (.inl v1)] [] h := by
  refine zrun 5 9 qX11_asTold (o := 11) rfl ?_
  show zokO h 111 11 ∧ zokO h 111 11 ∧ zokA h (h.2.2.1 111 1) 20 (nI 0) ∧ (((h.1 (h.2.2.1 111 1) 0) ≤ v1 → J mX11_asTold d 0 0 Q 0 0 35 [some (.inr (.inr 111)), some (.inl v1)] [.inl v1, .inr (.inr (h.2.2.1 111 15))] h) ∧ (¬ (h.1 (h.2.2.1 111 1) 0) ≤ v1 → J mX11_asTold d 0 0 Q 0 0 23 [some (.inr (.inr 111)), some (.inl v1)] [.inl v1, .inr (.inr (h.2.2.1 111 15))] h))
  rw [(show h.2.2.1 111 15 = 116 from (hr.at (by decide) (by decide) (by rfl))), (show h.2.2.1 111 1 = 112 from (hr.at (by decide) (by decide) (by rfl)))]
  exact ⟨(zo hr (by decide) rfl), (zo hr (by decide) rfl), (zia hr (by decide) (by rfl) g0), k1, k2⟩

theorem bX11_asTold_23 {d d' : Nat} {Q : Option MV → MH → Prop} {h : MH} {vs1 v1 : Int32} {vs0 : Nat} (hr : zRf h) (hd : d' + 1 ≤ d) (k : Con mX11_restOf d' 0 0 [.inr (.inr 111), .inl v1] h (zri fun (x : Int32) h' => J mX11_asTold d 0 0 Q 0 0 28 [some (.inr (.inr 111)), some (.inl v1)] [.inl x, .inl vs1, .inr (.inr vs0)] h')) : J mX11_asTold d 0 0 Q 0 0 23 [some (.inr (.inr 111)), some (.inl v1)] [.inl vs1, .inr (.inr vs0)] h := by
  refine zrun 14 2 qX11_asTold (o := 11) rfl ?_
  show J mX11_asTold d 0 0 Q 0 0 25 [some (.inr (.inr 111)), some (.inl v1)] [.inl v1, .inr (.inr 111), .inl vs1, .inr (.inr vs0)] h
  exact zcVi (as := [.inl v1]) (zat qX11_asTold 16 (by rfl)) l11_224 rfl hd rfl (Nat.le_of_ble_eq_true rfl) zle0 (ci := 11) (by decide) rfl (zo hr (by decide) rfl) k

theorem bX11_asTold_28 {d : Nat} {Q : Option MV → MH → Prop} {h : MH} {u0 u1 : Option MV} {vs1 vs2 : Int32} {vs0 : Nat} (k : J mX11_asTold d 0 0 Q 0 0 36 [u0, u1] [.inl (vs2 * (nI 256)), .inl vs1, .inr (.inr vs0)] h) : J mX11_asTold d 0 0 Q 0 0 28 [u0, u1] [.inl vs2, .inl vs1, .inr (.inr vs0)] h := by
  refine zrun 17 3 qX11_asTold (o := 11) rfl ?_
  show J mX11_asTold d 0 0 Q 0 0 36 [u0, u1] [.inl (vs2 * (nI 256)), .inl vs1, .inr (.inr vs0)] h
  exact k

theorem bX11_asTold_35 {d : Nat} {Q : Option MV → MH → Prop} {h : MH} {u0 u1 : Option MV} {vs1 : Int32} {vs0 : Nat} (k : J mX11_asTold d 0 0 Q 0 0 36 [u0, u1] [.inl (nI 0), .inl vs1, .inr (.inr vs0)] h) : J mX11_asTold d 0 0 Q 0 0 35 [u0, u1] [.inl vs1, .inr (.inr vs0)] h := by
  refine zrun 20 1 qX11_asTold (o := 11) rfl ?_
  show J mX11_asTold d 0 0 Q 0 0 36 [u0, u1] [.inl (nI 0), .inl vs1, .inr (.inr vs0)] h
  exact k

theorem bX11_asTold_36 {d : Nat} {Q : Option MV → MH → Prop} {h : MH} {vs1 vs2 v1 : Int32} {vs0 : Nat} (g0 : zokA h vs0 20 vs1) (k : J mX11_asTold d 0 0 Q 0 0 2 [some (.inr (.inr 111)), some (.inl (v1 + nI 1))] [] (zsI h vs0 vs1.toNatClampNeg vs2)) : J mX11_asTold d 0 0 Q 0 0 36 [some (.inr (.inr 111)), some (.inl v1)] [.inl vs2, .inl vs1, .inr (.inr vs0)] h := by
  refine zrun 21 3 qX11_asTold (o := 11) rfl ?_
  show zokA h vs0 20 vs1 ∧ J mX11_asTold d 0 0 Q 0 0 2 [some (.inr (.inr 111)), some (.inl (v1 + nI 1))] [] (zsI h vs0 vs1.toNatClampNeg vs2)
  exact ⟨g0, k⟩

theorem bX11_asTold_43 {d : Nat} {Q : Option MV → MH → Prop} {h : MH} {u0 u1 : Option MV} (k : Q none h) : J mX11_asTold d 0 0 Q 0 0 43 [u0, u1] [] h := by
  exact J_vret (zat qX11_asTold 24 (by rfl)) rfl (Nat.le_refl 0) (Nat.le_refl 0) k

theorem bX11_doesAct_0 {d : Nat} {Q : Option MV → MH → Prop} {h : MH} {u0 u1 u3 u4 u5 u6 u7 : Option MV} {v2 : Int32} (k1 : ¬ (v2 / (nI 100)) = (nI 10) → J mX11_doesAct d 0 0 Q 0 0 50 [u0, u1, some (.inl v2), some (.inl (v2 / (nI 100))), some (.inl ((v2 / (nI 10)) - (v2 / (nI 10)) / (nI 10) * (nI 10))), some (.inl (v2 - v2 / (nI 10) * (nI 10))), u6, u7] [] h) (k2 : (v2 / (nI 100)) = (nI 10) → J mX11_doesAct d 0 0 Q 0 0 26 [u0, u1, some (.inl v2), some (.inl (v2 / (nI 100))), some (.inl ((v2 / (nI 10)) - (v2 / (nI 10)) / (nI 10) * (nI 10))), some (.inl (v2 - v2 / (nI 10) * (nI 10))), u6, u7] [] h) : J mX11_doesAct d 0 0 Q 0 0 0 [u0, u1, some (.inl v2), u3, u4, u5, u6, u7] [] h := by
  refine zrun 0 17 qX11_doesAct (o := 11) rfl ?_
  show ¬ (nI 100) = 0 ∧ ¬ (nI 10) = 0 ∧ ¬ (nI 10) = 0 ∧ ¬ (nI 10) = 0 ∧ ((¬ (v2 / (nI 100)) = (nI 10) → J mX11_doesAct d 0 0 Q 0 0 50 [u0, u1, some (.inl v2), some (.inl (v2 / (nI 100))), some (.inl ((v2 / (nI 10)) - (v2 / (nI 10)) / (nI 10) * (nI 10))), some (.inl (v2 - v2 / (nI 10) * (nI 10))), u6, u7] [] h) ∧ ((v2 / (nI 100)) = (nI 10) → J mX11_doesAct d 0 0 Q 0 0 26 [u0, u1, some (.inl v2), some (.inl (v2 / (nI 100))), some (.inl ((v2 / (nI 10)) - (v2 / (nI 10)) / (nI 10) * (nI 10))), some (.inl (v2 - v2 / (nI 10) * (nI 10))), u6, u7] [] h))
  exact ⟨(by decide), (by decide), (by decide), (by decide), k1, k2⟩

theorem bX11_doesAct_26 {d : Nat} {Q : Option MV → MH → Prop} {h : MH} {u1 u2 u3 u4 u5 u6 u7 : Option MV} (hr : zRf h) (g0 : vp_in (h.1 111 25) 40) (k : Q none (zsI (zsI h 124 (h.1 111 25).toNatClampNeg (h.1 111 24)) 111 25 (((zsI h 124 (h.1 111 25).toNatClampNeg (h.1 111 24)).1 111 25) + (nI 1)))) : J mX11_doesAct d 0 0 Q 0 0 26 [some (.inr (.inr 111)), u1, u2, u3, u4, u5, u6, u7] [] h := by
  refine zrun 17 13 qX11_doesAct (o := 11) rfl ?_
  show zokO h 111 11 ∧ zokO h 111 11 ∧ zokO h 111 11 ∧ zokA h (h.2.2.1 111 23) 20 (h.1 111 25) ∧ zokO (zsI h (h.2.2.1 111 23) (h.1 111 25).toNatClampNeg (h.1 111 24)) 111 11 ∧ zokO (zsI h (h.2.2.1 111 23) (h.1 111 25).toNatClampNeg (h.1 111 24)) 111 11 ∧ J mX11_doesAct d 0 0 Q 0 0 49 [some (.inr (.inr 111)), u1, u2, u3, u4, u5, u6, u7] [] (zsI (zsI h (h.2.2.1 111 23) (h.1 111 25).toNatClampNeg (h.1 111 24)) 111 25 (((zsI h (h.2.2.1 111 23) (h.1 111 25).toNatClampNeg (h.1 111 24)).1 111 25) + (nI 1)))
  rw [(show h.2.2.1 111 23 = 124 from (hr.at (by decide) (by decide) (by rfl)))]
  exact ⟨(zo hr (by decide) rfl), (zo hr (by decide) rfl), (zo hr (by decide) rfl), (zia hr (by decide) (by rfl) g0), (zo hr (by decide) rfl), (zo hr (by decide) rfl), J_vret (zat qX11_doesAct 30 (by rfl)) rfl (Nat.le_refl 0) (Nat.le_refl 0) k⟩

theorem bX11_doesAct_50 {d d' : Nat} {Q : Option MV → MH → Prop} {h : MH} {u1 u2 u3 u5 u6 u7 : Option MV} {v4 : Int32} (hr : zRf h) (hd : d' + 1 ≤ d) (k : Con mX11_isCandle d' 0 0 [.inr (.inr 111), .inl v4] h (zri fun (x : Int32) h' => J mX11_doesAct d 0 0 Q 0 0 56 [some (.inr (.inr 111)), u1, u2, u3, some (.inl v4), u5, u6, u7] [.inl x] h')) : J mX11_doesAct d 0 0 Q 0 0 50 [some (.inr (.inr 111)), u1, u2, u3, some (.inl v4), u5, u6, u7] [] h := by
  refine zrun 31 2 qX11_doesAct (o := 11) rfl ?_
  show J mX11_doesAct d 0 0 Q 0 0 53 [some (.inr (.inr 111)), u1, u2, u3, some (.inl v4), u5, u6, u7] [.inl v4, .inr (.inr 111)] h
  exact zcVi (as := [.inl v4]) (zat qX11_doesAct 33 (by rfl)) l11_221 rfl hd rfl (Nat.le_of_ble_eq_true rfl) zle0 (ci := 11) (by decide) rfl (zo hr (by decide) rfl) k

theorem bX11_doesAct_56 {d : Nat} {Q : Option MV → MH → Prop} {h : MH} {u0 u1 u2 u3 u4 u5 u6 u7 : Option MV} {vs0 : Int32} (k1 : vs0 = 0 → J mX11_doesAct d 0 0 Q 0 0 73 [u0, u1, u2, u3, u4, u5, u6, u7] [] h) (k2 : ¬ vs0 = 0 → J mX11_doesAct d 0 0 Q 0 0 59 [u0, u1, u2, u3, u4, u5, u6, u7] [] h) : J mX11_doesAct d 0 0 Q 0 0 56 [u0, u1, u2, u3, u4, u5, u6, u7] [.inl vs0] h := by
  refine zrun 34 1 qX11_doesAct (o := 11) rfl ?_
  show ((vs0 = 0 → J mX11_doesAct d 0 0 Q 0 0 73 [u0, u1, u2, u3, u4, u5, u6, u7] [] h) ∧ (¬ vs0 = 0 → J mX11_doesAct d 0 0 Q 0 0 59 [u0, u1, u2, u3, u4, u5, u6, u7] [] h))
  exact ⟨k1, k2⟩

theorem bX11_doesAct_59 {d : Nat} {Q : Option MV → MH → Prop} {h : MH} {u1 u2 u3 u5 u6 u7 : Option MV} {v4 : Int32} (hr : zRf h) (g0 : vp_in v4 8) (k1 : ¬ (h.1 119 v4.toNatClampNeg) = 0 → J mX11_doesAct d 0 0 Q 0 0 73 [some (.inr (.inr 111)), u1, u2, u3, some (.inl v4), u5, u6, u7] [] h) (k2 : (h.1 119 v4.toNatClampNeg) = 0 → J mX11_doesAct d 0 0 Q 0 0 69 [some (.inr (.inr 111)), u1, u2, u3, some (.inl v4), u5, u6, u7] [] h) : J mX11_doesAct d 0 0 Q 0 0 59 [some (.inr (.inr 111)), u1, u2, u3, some (.inl v4), u5, u6, u7] [] h := by
  refine zrun 35 5 qX11_doesAct (o := 11) rfl ?_
  show zokO h 111 11 ∧ zokA h (h.2.2.1 111 18) 20 v4 ∧ ((¬ (h.1 (h.2.2.1 111 18) v4.toNatClampNeg) = 0 → J mX11_doesAct d 0 0 Q 0 0 73 [some (.inr (.inr 111)), u1, u2, u3, some (.inl v4), u5, u6, u7] [] h) ∧ ((h.1 (h.2.2.1 111 18) v4.toNatClampNeg) = 0 → J mX11_doesAct d 0 0 Q 0 0 69 [some (.inr (.inr 111)), u1, u2, u3, some (.inl v4), u5, u6, u7] [] h))
  rw [(show h.2.2.1 111 18 = 119 from (hr.at (by decide) (by decide) (by rfl)))]
  exact ⟨(zo hr (by decide) rfl), (zia hr (by decide) (by rfl) g0), k1, k2⟩

theorem bX11_doesAct_69 {d : Nat} {Q : Option MV → MH → Prop} {h : MH} {u0 u1 u2 u3 u4 u5 u6 u7 : Option MV} (k : J mX11_doesAct d 0 0 Q 0 0 74 [u0, u1, u2, u3, u4, u5, u6, u7] [.inl (nI 1)] h) : J mX11_doesAct d 0 0 Q 0 0 69 [u0, u1, u2, u3, u4, u5, u6, u7] [] h := by
  refine zrun 40 2 qX11_doesAct (o := 11) rfl ?_
  show J mX11_doesAct d 0 0 Q 0 0 74 [u0, u1, u2, u3, u4, u5, u6, u7] [.inl (nI 1)] h
  exact k

theorem bX11_doesAct_73 {d : Nat} {Q : Option MV → MH → Prop} {h : MH} {u0 u1 u2 u3 u4 u5 u6 u7 : Option MV} (k : J mX11_doesAct d 0 0 Q 0 0 74 [u0, u1, u2, u3, u4, u5, u6, u7] [.inl (nI 0)] h) : J mX11_doesAct d 0 0 Q 0 0 73 [u0, u1, u2, u3, u4, u5, u6, u7] [] h := by
  refine zrun 42 1 qX11_doesAct (o := 11) rfl ?_
  show J mX11_doesAct d 0 0 Q 0 0 74 [u0, u1, u2, u3, u4, u5, u6, u7] [.inl (nI 0)] h
  exact k

theorem bX11_doesAct_74 {d : Nat} {Q : Option MV → MH → Prop} {h : MH} {u0 u1 u2 u4 u6 u7 : Option MV} {vs0 v5 v3 : Int32} (k1 : ¬ v3 = (nI 9) → J mX11_doesAct d 0 0 Q 0 0 143 [u0, u1, u2, some (.inl v3), u4, some (.inl v5), some (.inl vs0), u7] [] h) (k2 : v3 = (nI 9) → J mX11_doesAct d 0 0 Q 0 0 82 [u0, u1, u2, some (.inl v3), u4, some (.inl v5), some (.inl vs0), u7] [] h) : J mX11_doesAct d 0 0 Q 0 0 74 [u0, u1, u2, some (.inl v3), u4, some (.inl v5), u6, u7] [.inl vs0] h := by
  refine zrun 43 4 qX11_doesAct (o := 11) rfl ?_
  show ((¬ v3 = (nI 9) → J mX11_doesAct d 0 0 Q 0 0 143 [u0, u1, u2, some (.inl v3), u4, some (.inl v5), some (.inl vs0), u7] [] h) ∧ (v3 = (nI 9) → J mX11_doesAct d 0 0 Q 0 0 82 [u0, u1, u2, some (.inl v3), u4, some (.inl v5), some (.inl vs0), u7] [] h))
  exact ⟨k1, k2⟩

theorem bX11_doesAct_82 {d : Nat} {Q : Option MV → MH → Prop} {h : MH} {u0 u1 u2 u3 u4 u5 u7 : Option MV} {v6 : Int32} (k1 : v6 = 0 → J mX11_doesAct d 0 0 Q 0 0 137 [u0, u1, u2, u3, u4, u5, some (.inl v6), u7] [] h) (k2 : ¬ v6 = 0 → J mX11_doesAct d 0 0 Q 0 0 87 [u0, u1, u2, u3, u4, u5, some (.inl v6), u7] [] h) : J mX11_doesAct d 0 0 Q 0 0 82 [u0, u1, u2, u3, u4, u5, some (.inl v6), u7] [] h := by
  refine zrun 47 2 qX11_doesAct (o := 11) rfl ?_
  show ((v6 = 0 → J mX11_doesAct d 0 0 Q 0 0 137 [u0, u1, u2, u3, u4, u5, some (.inl v6), u7] [] h) ∧ (¬ v6 = 0 → J mX11_doesAct d 0 0 Q 0 0 87 [u0, u1, u2, u3, u4, u5, some (.inl v6), u7] [] h))
  exact ⟨k1, k2⟩

theorem bX11_doesAct_87 {d d' : Nat} {Q : Option MV → MH → Prop} {h : MH} {u1 u2 u3 u4 u6 u7 : Option MV} {v5 : Int32} (hr : zRf h) (hd : d' + 1 ≤ d) (k : Con mX11_isCandle d' 0 0 [.inr (.inr 111), .inl v5] h (zri fun (x : Int32) h' => J mX11_doesAct d 0 0 Q 0 0 93 [some (.inr (.inr 111)), u1, u2, u3, u4, some (.inl v5), u6, u7] [.inl x] h')) : J mX11_doesAct d 0 0 Q 0 0 87 [some (.inr (.inr 111)), u1, u2, u3, u4, some (.inl v5), u6, u7] [] h := by
  refine zrun 49 2 qX11_doesAct (o := 11) rfl ?_
  show J mX11_doesAct d 0 0 Q 0 0 90 [some (.inr (.inr 111)), u1, u2, u3, u4, some (.inl v5), u6, u7] [.inl v5, .inr (.inr 111)] h
  exact zcVi (as := [.inl v5]) (zat qX11_doesAct 51 (by rfl)) l11_221 rfl hd rfl (Nat.le_of_ble_eq_true rfl) zle0 (ci := 11) (by decide) rfl (zo hr (by decide) rfl) k

theorem bX11_doesAct_93 {d : Nat} {Q : Option MV → MH → Prop} {h : MH} {u0 u1 u2 u3 u4 u5 u6 u7 : Option MV} {vs0 : Int32} (k1 : vs0 = 0 → J mX11_doesAct d 0 0 Q 0 0 137 [u0, u1, u2, u3, u4, u5, u6, u7] [] h) (k2 : ¬ vs0 = 0 → J mX11_doesAct d 0 0 Q 0 0 96 [u0, u1, u2, u3, u4, u5, u6, u7] [] h) : J mX11_doesAct d 0 0 Q 0 0 93 [u0, u1, u2, u3, u4, u5, u6, u7] [.inl vs0] h := by
  refine zrun 52 1 qX11_doesAct (o := 11) rfl ?_
  show ((vs0 = 0 → J mX11_doesAct d 0 0 Q 0 0 137 [u0, u1, u2, u3, u4, u5, u6, u7] [] h) ∧ (¬ vs0 = 0 → J mX11_doesAct d 0 0 Q 0 0 96 [u0, u1, u2, u3, u4, u5, u6, u7] [] h))
  exact ⟨k1, k2⟩

theorem bX11_doesAct_96 {d : Nat} {Q : Option MV → MH → Prop} {h : MH} {u1 u2 u3 u4 u6 u7 : Option MV} {v5 : Int32} (hr : zRf h) (g0 : vp_in v5 8) (k1 : ¬ (h.1 119 v5.toNatClampNeg) = 0 → J mX11_doesAct d 0 0 Q 0 0 137 [some (.inr (.inr 111)), u1, u2, u3, u4, some (.inl v5), u6, u7] [] h) (k2 : (h.1 119 v5.toNatClampNeg) = 0 → J mX11_doesAct d 0 0 Q 0 0 106 [some (.inr (.inr 111)), u1, u2, u3, u4, some (.inl v5), u6, u7] [] h) : J mX11_doesAct d 0 0 Q 0 0 96 [some (.inr (.inr 111)), u1, u2, u3, u4, some (.inl v5), u6, u7] [] h := by
  refine zrun 53 5 qX11_doesAct (o := 11) rfl ?_
  show zokO h 111 11 ∧ zokA h (h.2.2.1 111 18) 20 v5 ∧ ((¬ (h.1 (h.2.2.1 111 18) v5.toNatClampNeg) = 0 → J mX11_doesAct d 0 0 Q 0 0 137 [some (.inr (.inr 111)), u1, u2, u3, u4, some (.inl v5), u6, u7] [] h) ∧ ((h.1 (h.2.2.1 111 18) v5.toNatClampNeg) = 0 → J mX11_doesAct d 0 0 Q 0 0 106 [some (.inr (.inr 111)), u1, u2, u3, u4, some (.inl v5), u6, u7] [] h))
  rw [(show h.2.2.1 111 18 = 119 from (hr.at (by decide) (by decide) (by rfl)))]
  exact ⟨(zo hr (by decide) rfl), (zia hr (by decide) (by rfl) g0), k1, k2⟩

theorem bX11_doesAct_106 {d : Nat} {Q : Option MV → MH → Prop} {h : MH} {u0 u1 u2 u3 u6 u7 : Option MV} {v4 v5 : Int32} (k1 : v4 = v5 → J mX11_doesAct d 0 0 Q 0 0 137 [u0, u1, u2, u3, some (.inl v4), some (.inl v5), u6, u7] [] h) (k2 : ¬ v4 = v5 → J mX11_doesAct d 0 0 Q 0 0 113 [u0, u1, u2, u3, some (.inl v4), some (.inl v5), u6, u7] [] h) : J mX11_doesAct d 0 0 Q 0 0 106 [u0, u1, u2, u3, some (.inl v4), some (.inl v5), u6, u7] [] h := by
  refine zrun 58 3 qX11_doesAct (o := 11) rfl ?_
  show ((v4 = v5 → J mX11_doesAct d 0 0 Q 0 0 137 [u0, u1, u2, u3, some (.inl v4), some (.inl v5), u6, u7] [] h) ∧ (¬ v4 = v5 → J mX11_doesAct d 0 0 Q 0 0 113 [u0, u1, u2, u3, some (.inl v4), some (.inl v5), u6, u7] [] h))
  exact ⟨k1, k2⟩

theorem bX11_doesAct_113 {d : Nat} {Q : Option MV → MH → Prop} {h : MH} {u1 u2 u3 u5 u6 u7 : Option MV} {v4 : Int32} (hr : zRf h) (g0 : vp_in v4 8) (k1 : ¬ (h.1 118 v4.toNatClampNeg) = 0 → J mX11_doesAct d 0 0 Q 0 0 137 [some (.inr (.inr 111)), u1, u2, u3, some (.inl v4), u5, u6, u7] [] h) (k2 : (h.1 118 v4.toNatClampNeg) = 0 → J mX11_doesAct d 0 0 Q 0 0 123 [some (.inr (.inr 111)), u1, u2, u3, some (.inl v4), u5, u6, u7] [] h) : J mX11_doesAct d 0 0 Q 0 0 113 [some (.inr (.inr 111)), u1, u2, u3, some (.inl v4), u5, u6, u7] [] h := by
  refine zrun 61 5 qX11_doesAct (o := 11) rfl ?_
  show zokO h 111 11 ∧ zokA h (h.2.2.1 111 17) 20 v4 ∧ ((¬ (h.1 (h.2.2.1 111 17) v4.toNatClampNeg) = 0 → J mX11_doesAct d 0 0 Q 0 0 137 [some (.inr (.inr 111)), u1, u2, u3, some (.inl v4), u5, u6, u7] [] h) ∧ ((h.1 (h.2.2.1 111 17) v4.toNatClampNeg) = 0 → J mX11_doesAct d 0 0 Q 0 0 123 [some (.inr (.inr 111)), u1, u2, u3, some (.inl v4), u5, u6, u7] [] h))
  rw [(show h.2.2.1 111 17 = 118 from (hr.at (by decide) (by decide) (by rfl)))]
  exact ⟨(zo hr (by decide) rfl), (zia hr (by decide) (by rfl) g0), k1, k2⟩

theorem bX11_doesAct_123 {d : Nat} {Q : Option MV → MH → Prop} {h : MH} {u1 u2 u3 u4 u6 u7 : Option MV} {v5 : Int32} (hr : zRf h) (g0 : vp_in v5 8) (k1 : ¬ (h.1 118 v5.toNatClampNeg) = 0 → J mX11_doesAct d 0 0 Q 0 0 137 [some (.inr (.inr 111)), u1, u2, u3, u4, some (.inl v5), u6, u7] [] h) (k2 : (h.1 118 v5.toNatClampNeg) = 0 → J mX11_doesAct d 0 0 Q 0 0 133 [some (.inr (.inr 111)), u1, u2, u3, u4, some (.inl v5), u6, u7] [] h) : J mX11_doesAct d 0 0 Q 0 0 123 [some (.inr (.inr 111)), u1, u2, u3, u4, some (.inl v5), u6, u7] [] h := by
  refine zrun 66 5 qX11_doesAct (o := 11) rfl ?_
  show zokO h 111 11 ∧ zokA h (h.2.2.1 111 17) 20 v5 ∧ ((¬ (h.1 (h.2.2.1 111 17) v5.toNatClampNeg) = 0 → J mX11_doesAct d 0 0 Q 0 0 137 [some (.inr (.inr 111)), u1, u2, u3, u4, some (.inl v5), u6, u7] [] h) ∧ ((h.1 (h.2.2.1 111 17) v5.toNatClampNeg) = 0 → J mX11_doesAct d 0 0 Q 0 0 133 [some (.inr (.inr 111)), u1, u2, u3, u4, some (.inl v5), u6, u7] [] h))
  rw [(show h.2.2.1 111 17 = 118 from (hr.at (by decide) (by decide) (by rfl)))]
  exact ⟨(zo hr (by decide) rfl), (zia hr (by decide) (by rfl) g0), k1, k2⟩

theorem bX11_doesAct_133 {d : Nat} {Q : Option MV → MH → Prop} {h : MH} {u0 u1 u2 u3 u4 u5 u6 u7 : Option MV} (k : J mX11_doesAct d 0 0 Q 0 0 138 [u0, u1, u2, u3, u4, u5, u6, u7] [.inl (nI 1)] h) : J mX11_doesAct d 0 0 Q 0 0 133 [u0, u1, u2, u3, u4, u5, u6, u7] [] h := by
  refine zrun 71 2 qX11_doesAct (o := 11) rfl ?_
  show J mX11_doesAct d 0 0 Q 0 0 138 [u0, u1, u2, u3, u4, u5, u6, u7] [.inl (nI 1)] h
  exact k

theorem bX11_doesAct_137 {d : Nat} {Q : Option MV → MH → Prop} {h : MH} {u0 u1 u2 u3 u4 u5 u6 u7 : Option MV} (k : J mX11_doesAct d 0 0 Q 0 0 138 [u0, u1, u2, u3, u4, u5, u6, u7] [.inl (nI 0)] h) : J mX11_doesAct d 0 0 Q 0 0 137 [u0, u1, u2, u3, u4, u5, u6, u7] [] h := by
  refine zrun 73 1 qX11_doesAct (o := 11) rfl ?_
  show J mX11_doesAct d 0 0 Q 0 0 138 [u0, u1, u2, u3, u4, u5, u6, u7] [.inl (nI 0)] h
  exact k

theorem bX11_doesAct_138 {d : Nat} {Q : Option MV → MH → Prop} {h : MH} {u0 u1 u2 u3 u4 u6 u7 : Option MV} {vs0 v5 : Int32} (k : J mX11_doesAct d 0 0 Q 0 0 185 [u0, u1, u2, u3, u4, some (.inl v5), some (.inl vs0), u7] [] h) : J mX11_doesAct d 0 0 Q 0 0 138 [u0, u1, u2, u3, u4, some (.inl v5), u6, u7] [.inl vs0] h := by
  refine zrun 74 2 qX11_doesAct (o := 11) rfl ?_
  show J mX11_doesAct d 0 0 Q 0 0 185 [u0, u1, u2, u3, u4, some (.inl v5), some (.inl vs0), u7] [] h
  exact k

theorem bX11_doesAct_143 {d : Nat} {Q : Option MV → MH → Prop} {h : MH} {u0 u1 u2 u3 u4 u5 u7 : Option MV} {v6 : Int32} (k1 : v6 = 0 → J mX11_doesAct d 0 0 Q 0 0 182 [u0, u1, u2, u3, u4, u5, some (.inl v6), u7] [] h) (k2 : ¬ v6 = 0 → J mX11_doesAct d 0 0 Q 0 0 148 [u0, u1, u2, u3, u4, u5, some (.inl v6), u7] [] h) : J mX11_doesAct d 0 0 Q 0 0 143 [u0, u1, u2, u3, u4, u5, some (.inl v6), u7] [] h := by
  refine zrun 76 2 qX11_doesAct (o := 11) rfl ?_
  show ((v6 = 0 → J mX11_doesAct d 0 0 Q 0 0 182 [u0, u1, u2, u3, u4, u5, some (.inl v6), u7] [] h) ∧ (¬ v6 = 0 → J mX11_doesAct d 0 0 Q 0 0 148 [u0, u1, u2, u3, u4, u5, some (.inl v6), u7] [] h))
  exact ⟨k1, k2⟩

theorem bX11_doesAct_148 {d : Nat} {Q : Option MV → MH → Prop} {h : MH} {u0 u1 u2 u4 u5 u6 u7 : Option MV} {v3 : Int32} (k1 : ¬ v3 = (nI 8) → J mX11_doesAct d 0 0 Q 0 0 167 [u0, u1, u2, some (.inl v3), u4, u5, u6, u7] [] h) (k2 : v3 = (nI 8) → J mX11_doesAct d 0 0 Q 0 0 154 [u0, u1, u2, some (.inl v3), u4, u5, u6, u7] [] h) : J mX11_doesAct d 0 0 Q 0 0 148 [u0, u1, u2, some (.inl v3), u4, u5, u6, u7] [] h := by
  refine zrun 78 3 qX11_doesAct (o := 11) rfl ?_
  show ((¬ v3 = (nI 8) → J mX11_doesAct d 0 0 Q 0 0 167 [u0, u1, u2, some (.inl v3), u4, u5, u6, u7] [] h) ∧ (v3 = (nI 8) → J mX11_doesAct d 0 0 Q 0 0 154 [u0, u1, u2, some (.inl v3), u4, u5, u6, u7] [] h))
  exact ⟨k1, k2⟩

theorem bX11_doesAct_154 {d : Nat} {Q : Option MV → MH → Prop} {h : MH} {u1 u2 u3 u5 u6 u7 : Option MV} {v4 : Int32} (hr : zRf h) (g0 : vp_in v4 8) (k1 : (h.1 118 v4.toNatClampNeg) ≤ 0 → J mX11_doesAct d 0 0 Q 0 0 182 [some (.inr (.inr 111)), u1, u2, u3, some (.inl v4), u5, u6, u7] [] h) (k2 : ¬ (h.1 118 v4.toNatClampNeg) ≤ 0 → J mX11_doesAct d 0 0 Q 0 0 164 [some (.inr (.inr 111)), u1, u2, u3, some (.inl v4), u5, u6, u7] [] h) : J mX11_doesAct d 0 0 Q 0 0 154 [some (.inr (.inr 111)), u1, u2, u3, some (.inl v4), u5, u6, u7] [] h := by
  refine zrun 81 5 qX11_doesAct (o := 11) rfl ?_
  show zokO h 111 11 ∧ zokA h (h.2.2.1 111 17) 20 v4 ∧ (((h.1 (h.2.2.1 111 17) v4.toNatClampNeg) ≤ 0 → J mX11_doesAct d 0 0 Q 0 0 182 [some (.inr (.inr 111)), u1, u2, u3, some (.inl v4), u5, u6, u7] [] h) ∧ (¬ (h.1 (h.2.2.1 111 17) v4.toNatClampNeg) ≤ 0 → J mX11_doesAct d 0 0 Q 0 0 164 [some (.inr (.inr 111)), u1, u2, u3, some (.inl v4), u5, u6, u7] [] h))
  rw [(show h.2.2.1 111 17 = 118 from (hr.at (by decide) (by decide) (by rfl)))]
  exact ⟨(zo hr (by decide) rfl), (zia hr (by decide) (by rfl) g0), k1, k2⟩

theorem bX11_doesAct_164 {d : Nat} {Q : Option MV → MH → Prop} {h : MH} {u0 u1 u2 u3 u4 u5 u6 u7 : Option MV} (k : J mX11_doesAct d 0 0 Q 0 0 178 [u0, u1, u2, u3, u4, u5, u6, u7] [] h) : J mX11_doesAct d 0 0 Q 0 0 164 [u0, u1, u2, u3, u4, u5, u6, u7] [] h := by
  refine zrun 86 1 qX11_doesAct (o := 11) rfl ?_
  show J mX11_doesAct d 0 0 Q 0 0 178 [u0, u1, u2, u3, u4, u5, u6, u7] [] h
  exact k

theorem bX11_doesAct_167 {d : Nat} {Q : Option MV → MH → Prop} {h : MH} {u1 u2 u3 u5 u6 u7 : Option MV} {v4 : Int32} (hr : zRf h) (g0 : vp_in v4 8) (k1 : (nI 2) ≤ (h.1 118 v4.toNatClampNeg) → J mX11_doesAct d 0 0 Q 0 0 182 [some (.inr (.inr 111)), u1, u2, u3, some (.inl v4), u5, u6, u7] [] h) (k2 : ¬ (nI 2) ≤ (h.1 118 v4.toNatClampNeg) → J mX11_doesAct d 0 0 Q 0 0 178 [some (.inr (.inr 111)), u1, u2, u3, some (.inl v4), u5, u6, u7] [] h) : J mX11_doesAct d 0 0 Q 0 0 167 [some (.inr (.inr 111)), u1, u2, u3, some (.inl v4), u5, u6, u7] [] h := by
  refine zrun 87 6 qX11_doesAct (o := 11) rfl ?_
  show zokO h 111 11 ∧ zokA h (h.2.2.1 111 17) 20 v4 ∧ (((nI 2) ≤ (h.1 (h.2.2.1 111 17) v4.toNatClampNeg) → J mX11_doesAct d 0 0 Q 0 0 182 [some (.inr (.inr 111)), u1, u2, u3, some (.inl v4), u5, u6, u7] [] h) ∧ (¬ (nI 2) ≤ (h.1 (h.2.2.1 111 17) v4.toNatClampNeg) → J mX11_doesAct d 0 0 Q 0 0 178 [some (.inr (.inr 111)), u1, u2, u3, some (.inl v4), u5, u6, u7] [] h))
  rw [(show h.2.2.1 111 17 = 118 from (hr.at (by decide) (by decide) (by rfl)))]
  exact ⟨(zo hr (by decide) rfl), (zia hr (by decide) (by rfl) g0), k1, k2⟩

theorem bX11_doesAct_178 {d : Nat} {Q : Option MV → MH → Prop} {h : MH} {u0 u1 u2 u3 u4 u5 u6 u7 : Option MV} (k : J mX11_doesAct d 0 0 Q 0 0 183 [u0, u1, u2, u3, u4, u5, u6, u7] [.inl (nI 1)] h) : J mX11_doesAct d 0 0 Q 0 0 178 [u0, u1, u2, u3, u4, u5, u6, u7] [] h := by
  refine zrun 93 2 qX11_doesAct (o := 11) rfl ?_
  show J mX11_doesAct d 0 0 Q 0 0 183 [u0, u1, u2, u3, u4, u5, u6, u7] [.inl (nI 1)] h
  exact k

theorem bX11_doesAct_182 {d : Nat} {Q : Option MV → MH → Prop} {h : MH} {u0 u1 u2 u3 u4 u5 u6 u7 : Option MV} (k : J mX11_doesAct d 0 0 Q 0 0 183 [u0, u1, u2, u3, u4, u5, u6, u7] [.inl (nI 0)] h) : J mX11_doesAct d 0 0 Q 0 0 182 [u0, u1, u2, u3, u4, u5, u6, u7] [] h := by
  refine zrun 95 1 qX11_doesAct (o := 11) rfl ?_
  show J mX11_doesAct d 0 0 Q 0 0 183 [u0, u1, u2, u3, u4, u5, u6, u7] [.inl (nI 0)] h
  exact k

theorem bX11_doesAct_183 {d : Nat} {Q : Option MV → MH → Prop} {h : MH} {u0 u1 u2 u3 u4 u6 u7 : Option MV} {vs0 v5 : Int32} (k : J mX11_doesAct d 0 0 Q 0 0 185 [u0, u1, u2, u3, u4, some (.inl v5), some (.inl vs0), u7] [] h) : J mX11_doesAct d 0 0 Q 0 0 183 [u0, u1, u2, u3, u4, some (.inl v5), u6, u7] [.inl vs0] h := by
  refine zrun 96 1 qX11_doesAct (o := 11) rfl ?_
  show J mX11_doesAct d 0 0 Q 0 0 185 [u0, u1, u2, u3, u4, some (.inl v5), some (.inl vs0), u7] [] h
  exact k

theorem bX11_doesAct_185 {d : Nat} {Q : Option MV → MH → Prop} {h : MH} {u0 u1 u2 u3 u4 u5 u7 : Option MV} {v6 : Int32} (k1 : ¬ v6 = 0 → J mX11_doesAct d 0 0 Q 0 0 208 [u0, u1, u2, u3, u4, u5, some (.inl v6), u7] [] h) (k2 : v6 = 0 → J mX11_doesAct d 0 0 Q 0 0 190 [u0, u1, u2, u3, u4, u5, some (.inl v6), u7] [] h) : J mX11_doesAct d 0 0 Q 0 0 185 [u0, u1, u2, u3, u4, u5, some (.inl v6), u7] [] h := by
  refine zrun 97 2 qX11_doesAct (o := 11) rfl ?_
  show ((¬ v6 = 0 → J mX11_doesAct d 0 0 Q 0 0 208 [u0, u1, u2, u3, u4, u5, some (.inl v6), u7] [] h) ∧ (v6 = 0 → J mX11_doesAct d 0 0 Q 0 0 190 [u0, u1, u2, u3, u4, u5, some (.inl v6), u7] [] h))
  exact ⟨k1, k2⟩

theorem bX11_doesAct_190 {d : Nat} {Q : Option MV → MH → Prop} {h : MH} {u2 u3 u4 u5 u6 u7 : Option MV} {v1 : Int32} (hr : zRf h) (g0 : vp_in v1 40) (k : Q none (zsI (zsI h 111 26 ((h.1 111 26) + (nI 1))) 125 v1.toNatClampNeg (nI 1))) : J mX11_doesAct d 0 0 Q 0 0 190 [some (.inr (.inr 111)), some (.inl v1), u2, u3, u4, u5, u6, u7] [] h := by
  refine zrun 99 11 qX11_doesAct (o := 11) rfl ?_
  show zokO h 111 11 ∧ zokO h 111 11 ∧ zokO (zsI h 111 26 ((h.1 111 26) + (nI 1))) 111 11 ∧ (zokA (zsI h 111 26 ((h.1 111 26) + (nI 1))) (h.2.2.1 111 30) 22 v1 ∧ ((nI 1) = 0 ∨ (nI 1) = 1)) ∧ J mX11_doesAct d 0 0 Q 0 0 207 [some (.inr (.inr 111)), some (.inl v1), u2, u3, u4, u5, u6, u7] [] (zsI (zsI h 111 26 ((h.1 111 26) + (nI 1))) (h.2.2.1 111 30) v1.toNatClampNeg (nI 1))
  rw [(show h.2.2.1 111 30 = 125 from (hr.at (by decide) (by decide) (by rfl)))]
  exact ⟨(zo hr (by decide) rfl), (zo hr (by decide) rfl), (zo hr (by decide) rfl), ⟨(zia hr (by decide) (by rfl) g0), Or.inr rfl⟩, J_vret (zat qX11_doesAct 110 (by rfl)) rfl (Nat.le_refl 0) (Nat.le_refl 0) k⟩

theorem bX11_doesAct_208 {d : Nat} {Q : Option MV → MH → Prop} {h : MH} {u0 u1 u2 u4 u5 u6 u7 : Option MV} {v3 : Int32} (k1 : ¬ v3 = (nI 9) → J mX11_doesAct d 0 0 Q 0 0 311 [u0, u1, u2, some (.inl v3), u4, u5, u6, u7] [] h) (k2 : v3 = (nI 9) → J mX11_doesAct d 0 0 Q 0 0 214 [u0, u1, u2, some (.inl v3), u4, u5, u6, u7] [] h) : J mX11_doesAct d 0 0 Q 0 0 208 [u0, u1, u2, some (.inl v3), u4, u5, u6, u7] [] h := by
  refine zrun 111 3 qX11_doesAct (o := 11) rfl ?_
  show ((¬ v3 = (nI 9) → J mX11_doesAct d 0 0 Q 0 0 311 [u0, u1, u2, some (.inl v3), u4, u5, u6, u7] [] h) ∧ (v3 = (nI 9) → J mX11_doesAct d 0 0 Q 0 0 214 [u0, u1, u2, some (.inl v3), u4, u5, u6, u7] [] h))
  exact ⟨k1, k2⟩

theorem bX11_doesAct_214 {d : Nat} {Q : Option MV → MH → Prop} {h : MH} {u1 u2 u3 u7 : Option MV} {v4 v5 v6 : Int32} (hr : zRf h) (g0 : vp_in v4 8) (g1 : vp_in v5 8) (k : J mX11_doesAct d 0 0 Q 0 0 250 [some (.inr (.inr 111)), u1, u2, u3, some (.inl v4), some (.inl v5), some (.inl v6), some (.inl (nI 0))] [] (zsI (zsI (zsI h 117 v4.toNatClampNeg ((h.1 117 v4.toNatClampNeg) + (h.1 117 v5.toNatClampNeg))) 117 v5.toNatClampNeg (nI 0)) 119 v5.toNatClampNeg (nI 2))) : J mX11_doesAct d 0 0 Q 0 0 214 [some (.inr (.inr 111)), u1, u2, u3, some (.inl v4), some (.inl v5), some (.inl v6), u7] [] h := by
  refine zrun 114 23 qX11_doesAct (o := 11) rfl ?_
  show zokO h 111 11 ∧ zokA h (h.2.2.1 111 16) 20 v4 ∧ zokO h 111 11 ∧ zokA h (h.2.2.1 111 16) 20 v5 ∧ zokA h (h.2.2.1 111 16) 20 v4 ∧ zokO (zsI h (h.2.2.1 111 16) v4.toNatClampNeg ((h.1 (h.2.2.1 111 16) v4.toNatClampNeg) + (h.1 (h.2.2.1 111 16) v5.toNatClampNeg))) 111 11 ∧ zokA (zsI h (h.2.2.1 111 16) v4.toNatClampNeg ((h.1 (h.2.2.1 111 16) v4.toNatClampNeg) + (h.1 (h.2.2.1 111 16) v5.toNatClampNeg))) (h.2.2.1 111 16) 20 v5 ∧ zokO (zsI (zsI h (h.2.2.1 111 16) v4.toNatClampNeg ((h.1 (h.2.2.1 111 16) v4.toNatClampNeg) + (h.1 (h.2.2.1 111 16) v5.toNatClampNeg))) (h.2.2.1 111 16) v5.toNatClampNeg (nI 0)) 111 11 ∧ zokA (zsI (zsI h (h.2.2.1 111 16) v4.toNatClampNeg ((h.1 (h.2.2.1 111 16) v4.toNatClampNeg) + (h.1 (h.2.2.1 111 16) v5.toNatClampNeg))) (h.2.2.1 111 16) v5.toNatClampNeg (nI 0)) (h.2.2.1 111 18) 20 v5 ∧ J mX11_doesAct d 0 0 Q 0 0 250 [some (.inr (.inr 111)), u1, u2, u3, some (.inl v4), some (.inl v5), some (.inl v6), some (.inl (nI 0))] [] (zsI (zsI (zsI h (h.2.2.1 111 16) v4.toNatClampNeg ((h.1 (h.2.2.1 111 16) v4.toNatClampNeg) + (h.1 (h.2.2.1 111 16) v5.toNatClampNeg))) (h.2.2.1 111 16) v5.toNatClampNeg (nI 0)) (h.2.2.1 111 18) v5.toNatClampNeg (nI 2))
  rw [(show h.2.2.1 111 16 = 117 from (hr.at (by decide) (by decide) (by rfl))), (show h.2.2.1 111 18 = 119 from (hr.at (by decide) (by decide) (by rfl)))]
  exact ⟨(zo hr (by decide) rfl), (zia hr (by decide) (by rfl) g0), (zo hr (by decide) rfl), (zia hr (by decide) (by rfl) g1), (zia hr (by decide) (by rfl) g0), (zo hr (by decide) rfl), (zia hr (by decide) (by rfl) g1), (zo hr (by decide) rfl), (zia hr (by decide) (by rfl) g1), k⟩

theorem bX11_doesAct_250 {d : Nat} {Q : Option MV → MH → Prop} {h : MH} {u1 u2 u3 u4 u6 : Option MV} {v7 v5 : Int32} (hr : zRf h) (g0 : vp_in v5 8) (k1 : (h.1 123 v5.toNatClampNeg) ≤ v7 → J mX11_doesAct d 0 0 Q 0 0 310 [some (.inr (.inr 111)), u1, u2, u3, u4, some (.inl v5), u6, some (.inl v7)] [] h) (k2 : ¬ (h.1 123 v5.toNatClampNeg) ≤ v7 → J mX11_doesAct d 0 0 Q 0 0 262 [some (.inr (.inr 111)), u1, u2, u3, u4, some (.inl v5), u6, some (.inl v7)] [] h) : J mX11_doesAct d 0 0 Q 0 0 250 [some (.inr (.inr 111)), u1, u2, u3, u4, some (.inl v5), u6, some (.inl v7)] [] h := by
  refine zrun 137 6 qX11_doesAct (o := 11) rfl ?_
  show zokO h 111 11 ∧ zokA h (h.2.2.1 111 22) 20 v5 ∧ (((h.1 (h.2.2.1 111 22) v5.toNatClampNeg) ≤ v7 → J mX11_doesAct d 0 0 Q 0 0 310 [some (.inr (.inr 111)), u1, u2, u3, u4, some (.inl v5), u6, some (.inl v7)] [] h) ∧ (¬ (h.1 (h.2.2.1 111 22) v5.toNatClampNeg) ≤ v7 → J mX11_doesAct d 0 0 Q 0 0 262 [some (.inr (.inr 111)), u1, u2, u3, u4, some (.inl v5), u6, some (.inl v7)] [] h))
  rw [(show h.2.2.1 111 22 = 123 from (hr.at (by decide) (by decide) (by rfl)))]
  exact ⟨(zo hr (by decide) rfl), (zia hr (by decide) (by rfl) g0), k1, k2⟩

theorem bX11_doesAct_262 {d : Nat} {Q : Option MV → MH → Prop} {h : MH} {u1 u2 u3 : Option MV} {v4 v5 v7 v6 : Int32} (hr : zRf h) (g0 : vp_in v4 8) (g1 : vp_in (((nI 8) * v5) + v7) 64) (g2 : vp_in (((nI 8) * v4) + (h.1 123 v4.toNatClampNeg)) 64) (k : J mX11_doesAct d 0 0 Q 0 0 250 [some (.inr (.inr 111)), u1, u2, u3, some (.inl v4), some (.inl v5), some (.inl v6), some (.inl (v7 + nI 1))] [] (zsI (zsI h 122 (((nI 8) * v4) + (h.1 123 v4.toNatClampNeg)).toNatClampNeg (h.1 122 (((nI 8) * v5) + v7).toNatClampNeg)) 123 v4.toNatClampNeg (((zsI h 122 (((nI 8) * v4) + (h.1 123 v4.toNatClampNeg)).toNatClampNeg (h.1 122 (((nI 8) * v5) + v7).toNatClampNeg)).1 123 v4.toNatClampNeg) + (nI 1)))) : J mX11_doesAct d 0 0 Q 0 0 262 [some (.inr (.inr 111)), u1, u2, u3, some (.inl v4), some (.inl v5), some (.inl v6), some (.inl v7)] [] h := by
  refine zrun 143 29 qX11_doesAct (o := 11) rfl ?_
  show zokO h 111 11 ∧ zokO h 111 11 ∧ zokA h (h.2.2.1 111 22) 20 v4 ∧ zokO h 111 11 ∧ zokA h (h.2.2.1 111 21) 20 (((nI 8) * v5) + v7) ∧ zokA h (h.2.2.1 111 21) 20 (((nI 8) * v4) + (h.1 (h.2.2.1 111 22) v4.toNatClampNeg)) ∧ zokO (zsI h (h.2.2.1 111 21) (((nI 8) * v4) + (h.1 (h.2.2.1 111 22) v4.toNatClampNeg)).toNatClampNeg (h.1 (h.2.2.1 111 21) (((nI 8) * v5) + v7).toNatClampNeg)) 111 11 ∧ zokA (zsI h (h.2.2.1 111 21) (((nI 8) * v4) + (h.1 (h.2.2.1 111 22) v4.toNatClampNeg)).toNatClampNeg (h.1 (h.2.2.1 111 21) (((nI 8) * v5) + v7).toNatClampNeg)) (h.2.2.1 111 22) 20 v4 ∧ zokA (zsI h (h.2.2.1 111 21) (((nI 8) * v4) + (h.1 (h.2.2.1 111 22) v4.toNatClampNeg)).toNatClampNeg (h.1 (h.2.2.1 111 21) (((nI 8) * v5) + v7).toNatClampNeg)) (h.2.2.1 111 22) 20 v4 ∧ J mX11_doesAct d 0 0 Q 0 0 250 [some (.inr (.inr 111)), u1, u2, u3, some (.inl v4), some (.inl v5), some (.inl v6), some (.inl (v7 + nI 1))] [] (zsI (zsI h (h.2.2.1 111 21) (((nI 8) * v4) + (h.1 (h.2.2.1 111 22) v4.toNatClampNeg)).toNatClampNeg (h.1 (h.2.2.1 111 21) (((nI 8) * v5) + v7).toNatClampNeg)) (h.2.2.1 111 22) v4.toNatClampNeg (((zsI h (h.2.2.1 111 21) (((nI 8) * v4) + (h.1 (h.2.2.1 111 22) v4.toNatClampNeg)).toNatClampNeg (h.1 (h.2.2.1 111 21) (((nI 8) * v5) + v7).toNatClampNeg)).1 (h.2.2.1 111 22) v4.toNatClampNeg) + (nI 1)))
  rw [(show h.2.2.1 111 21 = 122 from (hr.at (by decide) (by decide) (by rfl))), (show h.2.2.1 111 22 = 123 from (hr.at (by decide) (by decide) (by rfl)))]
  exact ⟨(zo hr (by decide) rfl), (zo hr (by decide) rfl), (zia hr (by decide) (by rfl) g0), (zo hr (by decide) rfl), (zia hr (by decide) (by rfl) g1), (zia hr (by decide) (by rfl) g2), (zo hr (by decide) rfl), (zia hr (by decide) (by rfl) g0), (zia hr (by decide) (by rfl) g0), k⟩

theorem bX11_doesAct_310 {d : Nat} {Q : Option MV → MH → Prop} {h : MH} {u0 u1 u2 u3 u4 u5 u6 u7 : Option MV} (k : Q none h) : J mX11_doesAct d 0 0 Q 0 0 310 [u0, u1, u2, u3, u4, u5, u6, u7] [] h := by
  exact J_vret (zat qX11_doesAct 172 (by rfl)) rfl (Nat.le_refl 0) (Nat.le_refl 0) k

theorem bX11_doesAct_311 {d : Nat} {Q : Option MV → MH → Prop} {h : MH} {u0 u1 u2 u4 u5 u6 u7 : Option MV} {v3 : Int32} (k1 : ¬ v3 = (nI 8) → J mX11_doesAct d 0 0 Q 0 0 321 [u0, u1, u2, some (.inl v3), u4, u5, u6, u7] [] h) (k2 : v3 = (nI 8) → J mX11_doesAct d 0 0 Q 0 0 317 [u0, u1, u2, some (.inl v3), u4, u5, u6, u7] [] h) : J mX11_doesAct d 0 0 Q 0 0 311 [u0, u1, u2, some (.inl v3), u4, u5, u6, u7] [] h := by
  refine zrun 173 3 qX11_doesAct (o := 11) rfl ?_
  show ((¬ v3 = (nI 8) → J mX11_doesAct d 0 0 Q 0 0 321 [u0, u1, u2, some (.inl v3), u4, u5, u6, u7] [] h) ∧ (v3 = (nI 8) → J mX11_doesAct d 0 0 Q 0 0 317 [u0, u1, u2, some (.inl v3), u4, u5, u6, u7] [] h))
  exact ⟨k1, k2⟩

theorem bX11_doesAct_317 {d : Nat} {Q : Option MV → MH → Prop} {h : MH} {u0 u1 u2 u3 u4 u5 u6 u7 : Option MV} (k : J mX11_doesAct d 0 0 Q 0 0 340 [u0, u1, u2, u3, u4, u5, u6, u7] [.inl (nI 0)] h) : J mX11_doesAct d 0 0 Q 0 0 317 [u0, u1, u2, u3, u4, u5, u6, u7] [] h := by
  refine zrun 176 2 qX11_doesAct (o := 11) rfl ?_
  show J mX11_doesAct d 0 0 Q 0 0 340 [u0, u1, u2, u3, u4, u5, u6, u7] [.inl (nI 0)] h
  exact k

theorem bX11_doesAct_321 {d : Nat} {Q : Option MV → MH → Prop} {h : MH} {u0 u1 u2 u4 u5 u6 u7 : Option MV} {v3 : Int32} (k1 : ¬ v3 = (nI 7) → J mX11_doesAct d 0 0 Q 0 0 331 [u0, u1, u2, some (.inl v3), u4, u5, u6, u7] [] h) (k2 : v3 = (nI 7) → J mX11_doesAct d 0 0 Q 0 0 327 [u0, u1, u2, some (.inl v3), u4, u5, u6, u7] [] h) : J mX11_doesAct d 0 0 Q 0 0 321 [u0, u1, u2, some (.inl v3), u4, u5, u6, u7] [] h := by
  refine zrun 178 3 qX11_doesAct (o := 11) rfl ?_
  show ((¬ v3 = (nI 7) → J mX11_doesAct d 0 0 Q 0 0 331 [u0, u1, u2, some (.inl v3), u4, u5, u6, u7] [] h) ∧ (v3 = (nI 7) → J mX11_doesAct d 0 0 Q 0 0 327 [u0, u1, u2, some (.inl v3), u4, u5, u6, u7] [] h))
  exact ⟨k1, k2⟩

theorem bX11_doesAct_327 {d : Nat} {Q : Option MV → MH → Prop} {h : MH} {u0 u1 u2 u3 u4 u5 u6 u7 : Option MV} (k : J mX11_doesAct d 0 0 Q 0 0 340 [u0, u1, u2, u3, u4, u5, u6, u7] [.inl (nI 2)] h) : J mX11_doesAct d 0 0 Q 0 0 327 [u0, u1, u2, u3, u4, u5, u6, u7] [] h := by
  refine zrun 181 2 qX11_doesAct (o := 11) rfl ?_
  show J mX11_doesAct d 0 0 Q 0 0 340 [u0, u1, u2, u3, u4, u5, u6, u7] [.inl (nI 2)] h
  exact k

theorem bX11_doesAct_331 {d : Nat} {Q : Option MV → MH → Prop} {h : MH} {u1 u2 u3 u5 u6 u7 : Option MV} {v4 : Int32} (hr : zRf h) (g0 : vp_in v4 8) (k : J mX11_doesAct d 0 0 Q 0 0 340 [some (.inr (.inr 111)), u1, u2, u3, some (.inl v4), u5, u6, u7] [.inl ((h.1 118 v4.toNatClampNeg) + (nI 1))] h) : J mX11_doesAct d 0 0 Q 0 0 331 [some (.inr (.inr 111)), u1, u2, u3, some (.inl v4), u5, u6, u7] [] h := by
  refine zrun 183 6 qX11_doesAct (o := 11) rfl ?_
  show zokO h 111 11 ∧ zokA h (h.2.2.1 111 17) 20 v4 ∧ J mX11_doesAct d 0 0 Q 0 0 340 [some (.inr (.inr 111)), u1, u2, u3, some (.inl v4), u5, u6, u7] [.inl ((h.1 (h.2.2.1 111 17) v4.toNatClampNeg) + (nI 1))] h
  rw [(show h.2.2.1 111 17 = 118 from (hr.at (by decide) (by decide) (by rfl)))]
  exact ⟨(zo hr (by decide) rfl), (zia hr (by decide) (by rfl) g0), k⟩

theorem bX11_doesAct_340 {d : Nat} {Q : Option MV → MH → Prop} {h : MH} {u1 u2 u3 u5 u7 : Option MV} {vs0 v6 v4 : Int32} (hr : zRf h) (g0 : vp_in v4 8) (k1 : vs0 ≤ (h.1 118 v4.toNatClampNeg) → J mX11_doesAct d 0 0 Q 0 0 372 [some (.inr (.inr 111)), u1, u2, u3, some (.inl v4), u5, some (.inl v6), some (.inl vs0)] [.inl (h.1 111 27), .inr (.inr 111)] h) (k2 : ¬ vs0 ≤ (h.1 118 v4.toNatClampNeg) → J mX11_doesAct d 0 0 Q 0 0 359 [some (.inr (.inr 111)), u1, u2, u3, some (.inl v4), u5, some (.inl v6), some (.inl vs0)] [.inl (h.1 111 27), .inr (.inr 111)] h) : J mX11_doesAct d 0 0 Q 0 0 340 [some (.inr (.inr 111)), u1, u2, u3, some (.inl v4), u5, some (.inl v6), u7] [.inl vs0] h := by
  refine zrun 189 10 qX11_doesAct (o := 11) rfl ?_
  show zokO h 111 11 ∧ zokO h 111 11 ∧ zokA h (h.2.2.1 111 17) 20 v4 ∧ ((vs0 ≤ (h.1 (h.2.2.1 111 17) v4.toNatClampNeg) → J mX11_doesAct d 0 0 Q 0 0 372 [some (.inr (.inr 111)), u1, u2, u3, some (.inl v4), u5, some (.inl v6), some (.inl vs0)] [.inl (h.1 111 27), .inr (.inr 111)] h) ∧ (¬ vs0 ≤ (h.1 (h.2.2.1 111 17) v4.toNatClampNeg) → J mX11_doesAct d 0 0 Q 0 0 359 [some (.inr (.inr 111)), u1, u2, u3, some (.inl v4), u5, some (.inl v6), some (.inl vs0)] [.inl (h.1 111 27), .inr (.inr 111)] h))
  rw [(show h.2.2.1 111 17 = 118 from (hr.at (by decide) (by decide) (by rfl)))]
  exact ⟨(zo hr (by decide) rfl), (zo hr (by decide) rfl), (zia hr (by decide) (by rfl) g0), k1, k2⟩

theorem bX11_doesAct_359 {d : Nat} {Q : Option MV → MH → Prop} {h : MH} {u1 u2 u3 u5 u6 : Option MV} {vs1 v7 v4 : Int32} (hr : zRf h) (g0 : vp_in v4 8) (k : J mX11_doesAct d 0 0 Q 0 0 373 [some (.inr (.inr 111)), u1, u2, u3, some (.inl v4), u5, u6, some (.inl v7)] [.inl (v7 - (h.1 118 v4.toNatClampNeg)), .inl vs1, .inr (.inr 111)] h) : J mX11_doesAct d 0 0 Q 0 0 359 [some (.inr (.inr 111)), u1, u2, u3, some (.inl v4), u5, u6, some (.inl v7)] [.inl vs1, .inr (.inr 111)] h := by
  refine zrun 199 7 qX11_doesAct (o := 11) rfl ?_
  show zokO h 111 11 ∧ zokA h (h.2.2.1 111 17) 20 v4 ∧ J mX11_doesAct d 0 0 Q 0 0 373 [some (.inr (.inr 111)), u1, u2, u3, some (.inl v4), u5, u6, some (.inl v7)] [.inl (v7 - (h.1 (h.2.2.1 111 17) v4.toNatClampNeg)), .inl vs1, .inr (.inr 111)] h
  rw [(show h.2.2.1 111 17 = 118 from (hr.at (by decide) (by decide) (by rfl)))]
  exact ⟨(zo hr (by decide) rfl), (zia hr (by decide) (by rfl) g0), k⟩

theorem bX11_doesAct_372 {d : Nat} {Q : Option MV → MH → Prop} {h : MH} {u0 u1 u2 u3 u4 u5 u6 u7 : Option MV} {vs1 : Int32} (k : J mX11_doesAct d 0 0 Q 0 0 373 [u0, u1, u2, u3, u4, u5, u6, u7] [.inl (nI 0), .inl vs1, .inr (.inr 111)] h) : J mX11_doesAct d 0 0 Q 0 0 372 [u0, u1, u2, u3, u4, u5, u6, u7] [.inl vs1, .inr (.inr 111)] h := by
  refine zrun 206 1 qX11_doesAct (o := 11) rfl ?_
  show J mX11_doesAct d 0 0 Q 0 0 373 [u0, u1, u2, u3, u4, u5, u6, u7] [.inl (nI 0), .inl vs1, .inr (.inr 111)] h
  exact k

theorem bX11_doesAct_373 {d : Nat} {Q : Option MV → MH → Prop} {h : MH} {u1 u2 u3 u5 u6 : Option MV} {vs1 vs2 v4 v7 : Int32} (hr : zRf h) (g0 : vp_in v4 8) (k : Q none (zsI (zsI h 111 27 (vs1 + vs2)) 118 v4.toNatClampNeg v7)) : J mX11_doesAct d 0 0 Q 0 0 373 [some (.inr (.inr 111)), u1, u2, u3, some (.inl v4), u5, u6, some (.inl v7)] [.inl vs2, .inl vs1, .inr (.inr 111)] h := by
  refine zrun 207 7 qX11_doesAct (o := 11) rfl ?_
  show zokO h 111 11 ∧ zokO (zsI h 111 27 (vs1 + vs2)) 111 11 ∧ zokA (zsI h 111 27 (vs1 + vs2)) (h.2.2.1 111 17) 20 v4 ∧ J mX11_doesAct d 0 0 Q 0 0 386 [some (.inr (.inr 111)), u1, u2, u3, some (.inl v4), u5, u6, some (.inl v7)] [] (zsI (zsI h 111 27 (vs1 + vs2)) (h.2.2.1 111 17) v4.toNatClampNeg v7)
  rw [(show h.2.2.1 111 17 = 118 from (hr.at (by decide) (by decide) (by rfl)))]
  exact ⟨(zo hr (by decide) rfl), (zo hr (by decide) rfl), (zia hr (by decide) (by rfl) g0), J_vret (zat qX11_doesAct 214 (by rfl)) rfl (Nat.le_refl 0) (Nat.le_refl 0) k⟩

theorem bX11_doesRules_0 {d d' : Nat} {Q : Option MV → MH → Prop} {h : MH} {u0 u2 u3 u4 u5 u6 : Option MV} {v1 : Int32} (hd : d' + 1 ≤ d) (k : Con mX11_planAt d' 0 0 [.inl v1] h (zri fun (x : Int32) h' => J mX11_doesRules d 0 0 Q 0 0 4 [u0, some (.inl v1), u2, u3, u4, u5, u6] [.inl x] h')) : J mX11_doesRules d 0 0 Q 0 0 0 [u0, some (.inl v1), u2, u3, u4, u5, u6] [] h := by
  refine zrun 0 1 qX11_doesRules (o := 11) rfl ?_
  show J mX11_doesRules d 0 0 Q 0 0 1 [u0, some (.inl v1), u2, u3, u4, u5, u6] [.inl v1] h
  exact zcSi (as := [.inl v1]) (zat qX11_doesRules 1 (by rfl)) l11_215 rfl hd rfl (Nat.le_of_ble_eq_true rfl) zle0 k

theorem bX11_doesRules_4 {d : Nat} {Q : Option MV → MH → Prop} {h : MH} {u0 u1 u3 u4 u5 u6 : Option MV} {vs0 v2 : Int32} (k : J mX11_doesRules d 0 0 Q 0 0 8 [u0, u1, some (.inl v2), some (.inl vs0), some (.inl (nI 0)), u5, u6] [] h) : J mX11_doesRules d 0 0 Q 0 0 4 [u0, u1, some (.inl v2), u3, u4, u5, u6] [.inl vs0] h := by
  refine zrun 2 3 qX11_doesRules (o := 11) rfl ?_
  show J mX11_doesRules d 0 0 Q 0 0 8 [u0, u1, some (.inl v2), some (.inl vs0), some (.inl (nI 0)), u5, u6] [] h
  exact k

theorem bX11_doesRules_8 {d : Nat} {Q : Option MV → MH → Prop} {h : MH} {u1 u2 u5 u6 : Option MV} {v4 v3 : Int32} (hr : zRf h) (g0 : vp_in ((nI 74) + v3) 2166) (k1 : (h.1 112 ((nI 74) + v3).toNatClampNeg) ≤ v4 → J mX11_doesRules d 0 0 Q 0 0 158 [some (.inr (.inr 111)), u1, u2, some (.inl v3), some (.inl v4), u5, u6] [] h) (k2 : ¬ (h.1 112 ((nI 74) + v3).toNatClampNeg) ≤ v4 → J mX11_doesRules d 0 0 Q 0 0 22 [some (.inr (.inr 111)), u1, u2, some (.inl v3), some (.inl v4), u5, u6] [] h) : J mX11_doesRules d 0 0 Q 0 0 8 [some (.inr (.inr 111)), u1, u2, some (.inl v3), some (.inl v4), u5, u6] [] h := by
  refine zrun 5 8 qX11_doesRules (o := 11) rfl ?_
  show zokO h 111 11 ∧ zokA h (h.2.2.1 111 1) 20 ((nI 74) + v3) ∧ (((h.1 (h.2.2.1 111 1) ((nI 74) + v3).toNatClampNeg) ≤ v4 → J mX11_doesRules d 0 0 Q 0 0 158 [some (.inr (.inr 111)), u1, u2, some (.inl v3), some (.inl v4), u5, u6] [] h) ∧ (¬ (h.1 (h.2.2.1 111 1) ((nI 74) + v3).toNatClampNeg) ≤ v4 → J mX11_doesRules d 0 0 Q 0 0 22 [some (.inr (.inr 111)), u1, u2, some (.inl v3), some (.inl v4), u5, u6] [] h))
  rw [(show h.2.2.1 111 1 = 112 from (hr.at (by decide) (by decide) (by rfl)))]
  exact ⟨(zo hr (by decide) rfl), (zia hr (by decide) (by rfl) g0), k1, k2⟩

theorem bX11_doesRules_22 {d : Nat} {Q : Option MV → MH → Prop} {h : MH} {u1 u5 u6 : Option MV} {v3 v4 v2 : Int32} (hr : zRf h) (g0 : vp_in (((nI 76) + v3) + v4) 2166) (k1 : (h.1 112 (((nI 76) + v3) + v4).toNatClampNeg) = v2 → J mX11_doesRules d 0 0 Q 0 0 41 [some (.inr (.inr 111)), u1, some (.inl v2), some (.inl v3), some (.inl v4), u5, u6] [] h) (k2 : ¬ (h.1 112 (((nI 76) + v3) + v4).toNatClampNeg) = v2 → J mX11_doesRules d 0 0 Q 0 0 38 [some (.inr (.inr 111)), u1, some (.inl v2), some (.inl v3), some (.inl v4), u5, u6] [] h) : J mX11_doesRules d 0 0 Q 0 0 22 [some (.inr (.inr 111)), u1, some (.inl v2), some (.inl v3), some (.inl v4), u5, u6] [] h := by
  refine zrun 13 10 qX11_doesRules (o := 11) rfl ?_
  show zokO h 111 11 ∧ zokA h (h.2.2.1 111 1) 20 (((nI 76) + v3) + v4) ∧ (((h.1 (h.2.2.1 111 1) (((nI 76) + v3) + v4).toNatClampNeg) = v2 → J mX11_doesRules d 0 0 Q 0 0 41 [some (.inr (.inr 111)), u1, some (.inl v2), some (.inl v3), some (.inl v4), u5, u6] [] h) ∧ (¬ (h.1 (h.2.2.1 111 1) (((nI 76) + v3) + v4).toNatClampNeg) = v2 → J mX11_doesRules d 0 0 Q 0 0 38 [some (.inr (.inr 111)), u1, some (.inl v2), some (.inl v3), some (.inl v4), u5, u6] [] h))
  rw [(show h.2.2.1 111 1 = 112 from (hr.at (by decide) (by decide) (by rfl)))]
  exact ⟨(zo hr (by decide) rfl), (zia hr (by decide) (by rfl) g0), k1, k2⟩

theorem bX11_doesRules_38 {d : Nat} {Q : Option MV → MH → Prop} {h : MH} {u0 u1 u2 u3 u4 u5 u6 : Option MV} (k : J mX11_doesRules d 0 0 Q 0 0 152 [u0, u1, u2, u3, u4, u5, u6] [] h) : J mX11_doesRules d 0 0 Q 0 0 38 [u0, u1, u2, u3, u4, u5, u6] [] h := by
  refine zrun 23 1 qX11_doesRules (o := 11) rfl ?_
  show J mX11_doesRules d 0 0 Q 0 0 152 [u0, u1, u2, u3, u4, u5, u6] [] h
  exact k

theorem bX11_doesRules_41 {d : Nat} {Q : Option MV → MH → Prop} {h : MH} {u1 u2 u5 u6 : Option MV} {v4 v3 : Int32} (hr : zRf h) (g0 : vp_in ((nI 74) + v3) 2166) (k1 : (h.1 112 ((nI 74) + v3).toNatClampNeg) ≤ (v4 + (nI 1)) → J mX11_doesRules d 0 0 Q 0 0 74 [some (.inr (.inr 111)), u1, u2, some (.inl v3), some (.inl v4), u5, u6] [] h) (k2 : ¬ (h.1 112 ((nI 74) + v3).toNatClampNeg) ≤ (v4 + (nI 1)) → J mX11_doesRules d 0 0 Q 0 0 57 [some (.inr (.inr 111)), u1, u2, some (.inl v3), some (.inl v4), u5, u6] [] h) : J mX11_doesRules d 0 0 Q 0 0 41 [some (.inr (.inr 111)), u1, u2, some (.inl v3), some (.inl v4), u5, u6] [] h := by
  refine zrun 24 10 qX11_doesRules (o := 11) rfl ?_
  show zokO h 111 11 ∧ zokA h (h.2.2.1 111 1) 20 ((nI 74) + v3) ∧ (((h.1 (h.2.2.1 111 1) ((nI 74) + v3).toNatClampNeg) ≤ (v4 + (nI 1)) → J mX11_doesRules d 0 0 Q 0 0 74 [some (.inr (.inr 111)), u1, u2, some (.inl v3), some (.inl v4), u5, u6] [] h) ∧ (¬ (h.1 (h.2.2.1 111 1) ((nI 74) + v3).toNatClampNeg) ≤ (v4 + (nI 1)) → J mX11_doesRules d 0 0 Q 0 0 57 [some (.inr (.inr 111)), u1, u2, some (.inl v3), some (.inl v4), u5, u6] [] h))
  rw [(show h.2.2.1 111 1 = 112 from (hr.at (by decide) (by decide) (by rfl)))]
  exact ⟨(zo hr (by decide) rfl), (zia hr (by decide) (by rfl) g0), k1, k2⟩

theorem bX11_doesRules_57 {d : Nat} {Q : Option MV → MH → Prop} {h : MH} {u1 u2 u5 u6 : Option MV} {v3 v4 : Int32} (hr : zRf h) (g0 : vp_in ((((nI 96) + v3) + v4) + (nI 1)) 2166) (k : J mX11_doesRules d 0 0 Q 0 0 83 [some (.inr (.inr 111)), u1, u2, some (.inl v3), some (.inl v4), u5, u6] [.inl (h.1 112 ((((nI 96) + v3) + v4) + (nI 1)).toNatClampNeg)] h) : J mX11_doesRules d 0 0 Q 0 0 57 [some (.inr (.inr 111)), u1, u2, some (.inl v3), some (.inl v4), u5, u6] [] h := by
  refine zrun 34 11 qX11_doesRules (o := 11) rfl ?_
  show zokO h 111 11 ∧ zokA h (h.2.2.1 111 1) 20 ((((nI 96) + v3) + v4) + (nI 1)) ∧ J mX11_doesRules d 0 0 Q 0 0 83 [some (.inr (.inr 111)), u1, u2, some (.inl v3), some (.inl v4), u5, u6] [.inl (h.1 (h.2.2.1 111 1) ((((nI 96) + v3) + v4) + (nI 1)).toNatClampNeg)] h
  rw [(show h.2.2.1 111 1 = 112 from (hr.at (by decide) (by decide) (by rfl)))]
  exact ⟨(zo hr (by decide) rfl), (zia hr (by decide) (by rfl) g0), k⟩

theorem bX11_doesRules_74 {d : Nat} {Q : Option MV → MH → Prop} {h : MH} {u1 u2 u4 u5 u6 : Option MV} {v3 : Int32} (hr : zRf h) (g0 : vp_in ((nI 75) + v3) 2166) (k : J mX11_doesRules d 0 0 Q 0 0 83 [some (.inr (.inr 111)), u1, u2, some (.inl v3), u4, u5, u6] [.inl (h.1 112 ((nI 75) + v3).toNatClampNeg)] h) : J mX11_doesRules d 0 0 Q 0 0 74 [some (.inr (.inr 111)), u1, u2, some (.inl v3), u4, u5, u6] [] h := by
  refine zrun 45 6 qX11_doesRules (o := 11) rfl ?_
  show zokO h 111 11 ∧ zokA h (h.2.2.1 111 1) 20 ((nI 75) + v3) ∧ J mX11_doesRules d 0 0 Q 0 0 83 [some (.inr (.inr 111)), u1, u2, some (.inl v3), u4, u5, u6] [.inl (h.1 (h.2.2.1 111 1) ((nI 75) + v3).toNatClampNeg)] h
  rw [(show h.2.2.1 111 1 = 112 from (hr.at (by decide) (by decide) (by rfl)))]
  exact ⟨(zo hr (by decide) rfl), (zia hr (by decide) (by rfl) g0), k⟩

theorem bX11_doesRules_83 {d : Nat} {Q : Option MV → MH → Prop} {h : MH} {u1 u2 u5 u6 : Option MV} {vs0 v4 v3 : Int32} (hr : zRf h) (g0 : vp_in (((nI 96) + v3) + v4) 2166) (k : J mX11_doesRules d 0 0 Q 0 0 112 [some (.inr (.inr 111)), u1, u2, some (.inl v3), some (.inl v4), some (.inl vs0), some (.inl ((zsI h 111 29 ((h.1 111 29) ||| ((nI 1) <<< (v4 &&& 31)))).1 112 (((nI 96) + v3) + v4).toNatClampNeg))] [] (zsI h 111 29 ((h.1 111 29) ||| ((nI 1) <<< (v4 &&& 31))))) : J mX11_doesRules d 0 0 Q 0 0 83 [some (.inr (.inr 111)), u1, u2, some (.inl v3), some (.inl v4), u5, u6] [.inl vs0] h := by
  refine zrun 51 18 qX11_doesRules (o := 11) rfl ?_
  show zokO h 111 11 ∧ zokO h 111 11 ∧ zokO (zsI h 111 29 ((h.1 111 29) ||| ((nI 1) <<< (v4 &&& 31)))) 111 11 ∧ zokA (zsI h 111 29 ((h.1 111 29) ||| ((nI 1) <<< (v4 &&& 31)))) (h.2.2.1 111 1) 20 (((nI 96) + v3) + v4) ∧ J mX11_doesRules d 0 0 Q 0 0 112 [some (.inr (.inr 111)), u1, u2, some (.inl v3), some (.inl v4), some (.inl vs0), some (.inl ((zsI h 111 29 ((h.1 111 29) ||| ((nI 1) <<< (v4 &&& 31)))).1 (h.2.2.1 111 1) (((nI 96) + v3) + v4).toNatClampNeg))] [] (zsI h 111 29 ((h.1 111 29) ||| ((nI 1) <<< (v4 &&& 31))))
  rw [(show h.2.2.1 111 1 = 112 from (hr.at (by decide) (by decide) (by rfl)))]
  exact ⟨(zo hr (by decide) rfl), (zo hr (by decide) rfl), (zo hr (by decide) rfl), (zia hr (by decide) (by rfl) g0), k⟩

theorem bX11_doesRules_112 {d : Nat} {Q : Option MV → MH → Prop} {h : MH} {u0 u1 u2 u3 u4 : Option MV} {v6 v5 : Int32} (k1 : v5 ≤ v6 → J mX11_doesRules d 0 0 Q 0 0 152 [u0, u1, u2, u3, u4, some (.inl v5), some (.inl v6)] [] h) (k2 : ¬ v5 ≤ v6 → J mX11_doesRules d 0 0 Q 0 0 119 [u0, u1, u2, u3, u4, some (.inl v5), some (.inl v6)] [] h) : J mX11_doesRules d 0 0 Q 0 0 112 [u0, u1, u2, u3, u4, some (.inl v5), some (.inl v6)] [] h := by
  refine zrun 69 3 qX11_doesRules (o := 11) rfl ?_
  show ((v5 ≤ v6 → J mX11_doesRules d 0 0 Q 0 0 152 [u0, u1, u2, u3, u4, some (.inl v5), some (.inl v6)] [] h) ∧ (¬ v5 ≤ v6 → J mX11_doesRules d 0 0 Q 0 0 119 [u0, u1, u2, u3, u4, some (.inl v5), some (.inl v6)] [] h))
  exact ⟨k1, k2⟩

theorem bX11_doesRules_119 {d : Nat} {Q : Option MV → MH → Prop} {h : MH} {u1 u2 u3 u4 u5 : Option MV} {v6 : Int32} (hr : zRf h) (k1 : v6 = (h.1 111 28) → J mX11_doesRules d 0 0 Q 0 0 146 [some (.inr (.inr 111)), u1, u2, u3, u4, u5, some (.inl v6)] [] h) (k2 : ¬ v6 = (h.1 111 28) → J mX11_doesRules d 0 0 Q 0 0 128 [some (.inr (.inr 111)), u1, u2, u3, u4, u5, some (.inl v6)] [] h) : J mX11_doesRules d 0 0 Q 0 0 119 [some (.inr (.inr 111)), u1, u2, u3, u4, u5, some (.inl v6)] [] h := by
  refine zrun 72 4 qX11_doesRules (o := 11) rfl ?_
  show zokO h 111 11 ∧ ((v6 = (h.1 111 28) → J mX11_doesRules d 0 0 Q 0 0 146 [some (.inr (.inr 111)), u1, u2, u3, u4, u5, some (.inl v6)] [] h) ∧ (¬ v6 = (h.1 111 28) → J mX11_doesRules d 0 0 Q 0 0 128 [some (.inr (.inr 111)), u1, u2, u3, u4, u5, some (.inl v6)] [] h))
  exact ⟨(zo hr (by decide) rfl), k1, k2⟩

theorem bX11_doesRules_128 {d d' : Nat} {Q : Option MV → MH → Prop} {h : MH} {u1 u2 u4 u5 : Option MV} {v6 v3 : Int32} (hr : zRf h) (g0 : vp_in (((nI 116) + v3) + v6) 2166) (hd : d' + 1 ≤ d) (k : Con mX11_doesAct d' 0 0 [.inr (.inr 111), .inl v6, .inl (h.1 112 (((nI 116) + v3) + v6).toNatClampNeg)] h (zrv fun h' => J mX11_doesRules d 0 0 Q 0 0 146 [some (.inr (.inr 111)), u1, u2, some (.inl v3), u4, u5, some (.inl v6)] [] h')) : J mX11_doesRules d 0 0 Q 0 0 128 [some (.inr (.inr 111)), u1, u2, some (.inl v3), u4, u5, some (.inl v6)] [] h := by
  refine zrun 76 10 qX11_doesRules (o := 11) rfl ?_
  show zokO h 111 11 ∧ zokA h (h.2.2.1 111 1) 20 (((nI 116) + v3) + v6) ∧ J mX11_doesRules d 0 0 Q 0 0 143 [some (.inr (.inr 111)), u1, u2, some (.inl v3), u4, u5, some (.inl v6)] [.inl (h.1 (h.2.2.1 111 1) (((nI 116) + v3) + v6).toNatClampNeg), .inl v6, .inr (.inr 111)] h
  rw [(show h.2.2.1 111 1 = 112 from (hr.at (by decide) (by decide) (by rfl)))]
  exact ⟨(zo hr (by decide) rfl), (zia hr (by decide) (by rfl) g0), zcVv (as := [.inl v6, .inl (h.1 112 (((nI 116) + v3) + v6).toNatClampNeg)]) (zat qX11_doesRules 86 (by rfl)) l11_248 rfl hd rfl (Nat.le_of_ble_eq_true rfl) zle0 (ci := 11) (by decide) rfl (zo hr (by decide) rfl) k⟩

theorem bX11_doesRules_146 {d : Nat} {Q : Option MV → MH → Prop} {h : MH} {u0 u1 u2 u3 u4 : Option MV} {v6 v5 : Int32} (k : J mX11_doesRules d 0 0 Q 0 0 112 [u0, u1, u2, u3, u4, some (.inl v5), some (.inl (v6 + nI 1))] [] h) : J mX11_doesRules d 0 0 Q 0 0 146 [u0, u1, u2, u3, u4, some (.inl v5), some (.inl v6)] [] h := by
  refine zrun 87 2 qX11_doesRules (o := 11) rfl ?_
  show J mX11_doesRules d 0 0 Q 0 0 112 [u0, u1, u2, u3, u4, some (.inl v5), some (.inl (v6 + nI 1))] [] h
  exact k

theorem bX11_doesRules_152 {d : Nat} {Q : Option MV → MH → Prop} {h : MH} {u0 u1 u2 u5 u6 : Option MV} {v4 v3 : Int32} (k : J mX11_doesRules d 0 0 Q 0 0 8 [u0, u1, u2, some (.inl v3), some (.inl (v4 + nI 1)), u5, u6] [] h) : J mX11_doesRules d 0 0 Q 0 0 152 [u0, u1, u2, some (.inl v3), some (.inl v4), u5, u6] [] h := by
  refine zrun 89 2 qX11_doesRules (o := 11) rfl ?_
  show J mX11_doesRules d 0 0 Q 0 0 8 [u0, u1, u2, some (.inl v3), some (.inl (v4 + nI 1)), u5, u6] [] h
  exact k

theorem bX11_doesRules_158 {d : Nat} {Q : Option MV → MH → Prop} {h : MH} {u0 u1 u2 u3 u4 u5 u6 : Option MV} (k : Q none h) : J mX11_doesRules d 0 0 Q 0 0 158 [u0, u1, u2, u3, u4, u5, u6] [] h := by
  exact J_vret (zat qX11_doesRules 91 (by rfl)) rfl (Nat.le_refl 0) (Nat.le_refl 0) k

theorem bX11_tillNext_0 {d : Nat} {Q : Option MV → MH → Prop} {h : MH} {u1 u2 : Option MV} (k : J mX11_tillNext d 0 0 Q 0 0 4 [some (.inr (.inr 111)), some (.inl (-(nI 1))), some (.inl (nI 0))] [] h) : J mX11_tillNext d 0 0 Q 0 0 0 [some (.inr (.inr 111)), u1, u2] [] h := by
  refine zrun 0 4 qX11_tillNext (o := 11) rfl ?_
  show J mX11_tillNext d 0 0 Q 0 0 4 [some (.inr (.inr 111)), some (.inl (-(nI 1))), some (.inl (nI 0))] [] h
  exact k

theorem bX11_tillNext_4 {d : Nat} {Q : Option MV → MH → Prop} {h : MH} {u0 u1 : Option MV} {v2 : Int32} (k1 : (nI 8) ≤ v2 → J mX11_tillNext d 0 0 Q 0 0 61 [u0, u1, some (.inl v2)] [] h) (k2 : ¬ (nI 8) ≤ v2 → J mX11_tillNext d 0 0 Q 0 0 10 [u0, u1, some (.inl v2)] [] h) : J mX11_tillNext d 0 0 Q 0 0 4 [u0, u1, some (.inl v2)] [] h := by
  refine zrun 4 3 qX11_tillNext (o := 11) rfl ?_
  show (((nI 8) ≤ v2 → J mX11_tillNext d 0 0 Q 0 0 61 [u0, u1, some (.inl v2)] [] h) ∧ (¬ (nI 8) ≤ v2 → J mX11_tillNext d 0 0 Q 0 0 10 [u0, u1, some (.inl v2)] [] h))
  exact ⟨k1, k2⟩

theorem bX11_tillNext_10 {d : Nat} {Q : Option MV → MH → Prop} {h : MH} {u1 : Option MV} {v2 : Int32} (hr : zRf h) (g0 : vp_in v2 8) (k1 : (h.1 118 v2.toNatClampNeg) ≤ 0 → J mX11_tillNext d 0 0 Q 0 0 55 [some (.inr (.inr 111)), u1, some (.inl v2)] [] h) (k2 : ¬ (h.1 118 v2.toNatClampNeg) ≤ 0 → J mX11_tillNext d 0 0 Q 0 0 19 [some (.inr (.inr 111)), u1, some (.inl v2)] [] h) : J mX11_tillNext d 0 0 Q 0 0 10 [some (.inr (.inr 111)), u1, some (.inl v2)] [] h := by
  refine zrun 7 5 qX11_tillNext (o := 11) rfl ?_
  show zokO h 111 11 ∧ zokA h (h.2.2.1 111 17) 20 v2 ∧ (((h.1 (h.2.2.1 111 17) v2.toNatClampNeg) ≤ 0 → J mX11_tillNext d 0 0 Q 0 0 55 [some (.inr (.inr 111)), u1, some (.inl v2)] [] h) ∧ (¬ (h.1 (h.2.2.1 111 17) v2.toNatClampNeg) ≤ 0 → J mX11_tillNext d 0 0 Q 0 0 19 [some (.inr (.inr 111)), u1, some (.inl v2)] [] h))
  rw [(show h.2.2.1 111 17 = 118 from (hr.at (by decide) (by decide) (by rfl)))]
  exact ⟨(zo hr (by decide) rfl), (zia hr (by decide) (by rfl) g0), k1, k2⟩

theorem bX11_tillNext_19 {d : Nat} {Q : Option MV → MH → Prop} {h : MH} {u0 u2 : Option MV} {v1 : Int32} (k1 : v1 = (-(nI 1)) → J mX11_tillNext d 0 0 Q 0 0 41 [u0, some (.inl v1), u2] [] h) (k2 : ¬ v1 = (-(nI 1)) → J mX11_tillNext d 0 0 Q 0 0 24 [u0, some (.inl v1), u2] [] h) : J mX11_tillNext d 0 0 Q 0 0 19 [u0, some (.inl v1), u2] [] h := by
  refine zrun 12 3 qX11_tillNext (o := 11) rfl ?_
  show ((v1 = (-(nI 1)) → J mX11_tillNext d 0 0 Q 0 0 41 [u0, some (.inl v1), u2] [] h) ∧ (¬ v1 = (-(nI 1)) → J mX11_tillNext d 0 0 Q 0 0 24 [u0, some (.inl v1), u2] [] h))
  exact ⟨k1, k2⟩

theorem bX11_tillNext_24 {d : Nat} {Q : Option MV → MH → Prop} {h : MH} {v2 v1 : Int32} (hr : zRf h) (g0 : vp_in v2 8) (g1 : ¬ (h.1 118 v2.toNatClampNeg) = 0) (k1 : v1 ≤ ((h.1 117 v2.toNatClampNeg) / (h.1 118 v2.toNatClampNeg)) → J mX11_tillNext d 0 0 Q 0 0 55 [some (.inr (.inr 111)), some (.inl v1), some (.inl v2)] [] h) (k2 : ¬ v1 ≤ ((h.1 117 v2.toNatClampNeg) / (h.1 118 v2.toNatClampNeg)) → J mX11_tillNext d 0 0 Q 0 0 41 [some (.inr (.inr 111)), some (.inl v1), some (.inl v2)] [] h) : J mX11_tillNext d 0 0 Q 0 0 24 [some (.inr (.inr 111)), some (.inl v1), some (.inl v2)] [] h := by
  refine zrun 15 11 qX11_tillNext (o := 11) rfl ?_
  show zokO h 111 11 ∧ zokA h (h.2.2.1 111 16) 20 v2 ∧ zokO h 111 11 ∧ zokA h (h.2.2.1 111 17) 20 v2 ∧ ¬ (h.1 (h.2.2.1 111 17) v2.toNatClampNeg) = 0 ∧ ((v1 ≤ ((h.1 (h.2.2.1 111 16) v2.toNatClampNeg) / (h.1 (h.2.2.1 111 17) v2.toNatClampNeg)) → J mX11_tillNext d 0 0 Q 0 0 55 [some (.inr (.inr 111)), some (.inl v1), some (.inl v2)] [] h) ∧ (¬ v1 ≤ ((h.1 (h.2.2.1 111 16) v2.toNatClampNeg) / (h.1 (h.2.2.1 111 17) v2.toNatClampNeg)) → J mX11_tillNext d 0 0 Q 0 0 41 [some (.inr (.inr 111)), some (.inl v1), some (.inl v2)] [] h))
  rw [(show h.2.2.1 111 16 = 117 from (hr.at (by decide) (by decide) (by rfl))), (show h.2.2.1 111 17 = 118 from (hr.at (by decide) (by decide) (by rfl)))]
  exact ⟨(zo hr (by decide) rfl), (zia hr (by decide) (by rfl) g0), (zo hr (by decide) rfl), (zia hr (by decide) (by rfl) g0), g1, k1, k2⟩

theorem bX11_tillNext_41 {d : Nat} {Q : Option MV → MH → Prop} {h : MH} {u1 : Option MV} {v2 : Int32} (hr : zRf h) (g0 : vp_in v2 8) (g1 : ¬ (h.1 118 v2.toNatClampNeg) = 0) (k : J mX11_tillNext d 0 0 Q 0 0 55 [some (.inr (.inr 111)), some (.inl ((h.1 117 v2.toNatClampNeg) / (h.1 118 v2.toNatClampNeg))), some (.inl v2)] [] h) : J mX11_tillNext d 0 0 Q 0 0 41 [some (.inr (.inr 111)), u1, some (.inl v2)] [] h := by
  refine zrun 26 10 qX11_tillNext (o := 11) rfl ?_
  show zokO h 111 11 ∧ zokA h (h.2.2.1 111 16) 20 v2 ∧ zokO h 111 11 ∧ zokA h (h.2.2.1 111 17) 20 v2 ∧ ¬ (h.1 (h.2.2.1 111 17) v2.toNatClampNeg) = 0 ∧ J mX11_tillNext d 0 0 Q 0 0 55 [some (.inr (.inr 111)), some (.inl ((h.1 (h.2.2.1 111 16) v2.toNatClampNeg) / (h.1 (h.2.2.1 111 17) v2.toNatClampNeg))), some (.inl v2)] [] h
  rw [(show h.2.2.1 111 16 = 117 from (hr.at (by decide) (by decide) (by rfl))), (show h.2.2.1 111 17 = 118 from (hr.at (by decide) (by decide) (by rfl)))]
  exact ⟨(zo hr (by decide) rfl), (zia hr (by decide) (by rfl) g0), (zo hr (by decide) rfl), (zia hr (by decide) (by rfl) g0), g1, k⟩

theorem bX11_tillNext_55 {d : Nat} {Q : Option MV → MH → Prop} {h : MH} {u0 : Option MV} {v2 v1 : Int32} (k : J mX11_tillNext d 0 0 Q 0 0 4 [u0, some (.inl v1), some (.inl (v2 + nI 1))] [] h) : J mX11_tillNext d 0 0 Q 0 0 55 [u0, some (.inl v1), some (.inl v2)] [] h := by
  refine zrun 36 2 qX11_tillNext (o := 11) rfl ?_
  show J mX11_tillNext d 0 0 Q 0 0 4 [u0, some (.inl v1), some (.inl (v2 + nI 1))] [] h
  exact k

theorem bX11_tillNext_61 {d : Nat} {Q : Option MV → MH → Prop} {h : MH} {u0 u2 : Option MV} {v1 : Int32} (k : Q (some (.inl v1)) h) : J mX11_tillNext d 0 0 Q 0 0 61 [u0, some (.inl v1), u2] [] h := by
  refine zrun 38 1 qX11_tillNext (o := 11) rfl ?_
  show J mX11_tillNext d 0 0 Q 0 0 62 [u0, some (.inl v1), u2] [.inl v1] h
  exact J_iret (ty := .int) (zat qX11_tillNext 39 (by rfl)) rfl rfl (Nat.le_refl 0) (Nat.le_refl 0) k

theorem bX11_burns_0 {d : Nat} {Q : Option MV → MH → Prop} {h : MH} {u0 u2 u3 u4 u5 u6 : Option MV} {v1 : Int32} (k : J mX11_burns d 0 0 Q 0 0 2 [u0, some (.inl v1), some (.inl (nI 0)), u3, u4, u5, u6] [] h) : J mX11_burns d 0 0 Q 0 0 0 [u0, some (.inl v1), u2, u3, u4, u5, u6] [] h := by
  refine zrun 0 2 qX11_burns (o := 11) rfl ?_
  show J mX11_burns d 0 0 Q 0 0 2 [u0, some (.inl v1), some (.inl (nI 0)), u3, u4, u5, u6] [] h
  exact k

theorem bX11_burns_2 {d : Nat} {Q : Option MV → MH → Prop} {h : MH} {u0 u1 u3 u4 u5 u6 : Option MV} {v2 : Int32} (k1 : (nI 8) ≤ v2 → J mX11_burns d 0 0 Q 0 0 112 [u0, u1, some (.inl v2), u3, u4, u5, u6] [] h) (k2 : ¬ (nI 8) ≤ v2 → J mX11_burns d 0 0 Q 0 0 8 [u0, u1, some (.inl v2), u3, u4, u5, u6] [] h) : J mX11_burns d 0 0 Q 0 0 2 [u0, u1, some (.inl v2), u3, u4, u5, u6] [] h := by
  refine zrun 2 3 qX11_burns (o := 11) rfl ?_
  show (((nI 8) ≤ v2 → J mX11_burns d 0 0 Q 0 0 112 [u0, u1, some (.inl v2), u3, u4, u5, u6] [] h) ∧ (¬ (nI 8) ≤ v2 → J mX11_burns d 0 0 Q 0 0 8 [u0, u1, some (.inl v2), u3, u4, u5, u6] [] h))
  exact ⟨k1, k2⟩

theorem bX11_burns_8 {d : Nat} {Q : Option MV → MH → Prop} {h : MH} {u3 u4 u5 u6 : Option MV} {v2 v1 : Int32} (hr : zRf h) (g0 : vp_in v2 8) (k : J mX11_burns d 0 0 Q 0 0 30 [some (.inr (.inr 111)), some (.inl v1), some (.inl v2), some (.inl ((h.1 118 v2.toNatClampNeg) * v1)), some (.inl (nI 0)), u5, u6] [] (zsI h 117 v2.toNatClampNeg ((h.1 117 v2.toNatClampNeg) - ((h.1 118 v2.toNatClampNeg) * v1)))) : J mX11_burns d 0 0 Q 0 0 8 [some (.inr (.inr 111)), some (.inl v1), some (.inl v2), u3, u4, u5, u6] [] h := by
  refine zrun 5 17 qX11_burns (o := 11) rfl ?_
  show zokO h 111 11 ∧ zokA h (h.2.2.1 111 17) 20 v2 ∧ zokO h 111 11 ∧ zokA h (h.2.2.1 111 16) 20 v2 ∧ zokA h (h.2.2.1 111 16) 20 v2 ∧ J mX11_burns d 0 0 Q 0 0 30 [some (.inr (.inr 111)), some (.inl v1), some (.inl v2), some (.inl ((h.1 (h.2.2.1 111 17) v2.toNatClampNeg) * v1)), some (.inl (nI 0)), u5, u6] [] (zsI h (h.2.2.1 111 16) v2.toNatClampNeg ((h.1 (h.2.2.1 111 16) v2.toNatClampNeg) - ((h.1 (h.2.2.1 111 17) v2.toNatClampNeg) * v1)))
  rw [(show h.2.2.1 111 17 = 118 from (hr.at (by decide) (by decide) (by rfl))), (show h.2.2.1 111 16 = 117 from (hr.at (by decide) (by decide) (by rfl)))]
  exact ⟨(zo hr (by decide) rfl), (zia hr (by decide) (by rfl) g0), (zo hr (by decide) rfl), (zia hr (by decide) (by rfl) g0), (zia hr (by decide) (by rfl) g0), k⟩

theorem bX11_burns_30 {d : Nat} {Q : Option MV → MH → Prop} {h : MH} {u1 u3 u5 u6 : Option MV} {v4 v2 : Int32} (hr : zRf h) (g0 : vp_in v2 8) (k1 : (h.1 123 v2.toNatClampNeg) ≤ v4 → J mX11_burns d 0 0 Q 0 0 106 [some (.inr (.inr 111)), u1, some (.inl v2), u3, some (.inl v4), u5, u6] [] h) (k2 : ¬ (h.1 123 v2.toNatClampNeg) ≤ v4 → J mX11_burns d 0 0 Q 0 0 41 [some (.inr (.inr 111)), u1, some (.inl v2), u3, some (.inl v4), u5, u6] [] h) : J mX11_burns d 0 0 Q 0 0 30 [some (.inr (.inr 111)), u1, some (.inl v2), u3, some (.inl v4), u5, u6] [] h := by
  refine zrun 22 6 qX11_burns (o := 11) rfl ?_
  show zokO h 111 11 ∧ zokA h (h.2.2.1 111 22) 20 v2 ∧ (((h.1 (h.2.2.1 111 22) v2.toNatClampNeg) ≤ v4 → J mX11_burns d 0 0 Q 0 0 106 [some (.inr (.inr 111)), u1, some (.inl v2), u3, some (.inl v4), u5, u6] [] h) ∧ (¬ (h.1 (h.2.2.1 111 22) v2.toNatClampNeg) ≤ v4 → J mX11_burns d 0 0 Q 0 0 41 [some (.inr (.inr 111)), u1, some (.inl v2), u3, some (.inl v4), u5, u6] [] h))
  rw [(show h.2.2.1 111 22 = 123 from (hr.at (by decide) (by decide) (by rfl)))]
  exact ⟨(zo hr (by decide) rfl), (zia hr (by decide) (by rfl) g0), k1, k2⟩

theorem bX11_burns_41 {d : Nat} {Q : Option MV → MH → Prop} {h : MH} {u0 u1 u2 u4 u5 u6 : Option MV} {v3 : Int32} (k1 : v3 ≤ 0 → J mX11_burns d 0 0 Q 0 0 106 [u0, u1, u2, some (.inl v3), u4, u5, u6] [] h) (k2 : ¬ v3 ≤ 0 → J mX11_burns d 0 0 Q 0 0 45 [u0, u1, u2, some (.inl v3), u4, u5, u6] [] h) : J mX11_burns d 0 0 Q 0 0 41 [u0, u1, u2, some (.inl v3), u4, u5, u6] [] h := by
  refine zrun 28 2 qX11_burns (o := 11) rfl ?_
  show ((v3 ≤ 0 → J mX11_burns d 0 0 Q 0 0 106 [u0, u1, u2, some (.inl v3), u4, u5, u6] [] h) ∧ (¬ v3 ≤ 0 → J mX11_burns d 0 0 Q 0 0 45 [u0, u1, u2, some (.inl v3), u4, u5, u6] [] h))
  exact ⟨k1, k2⟩

theorem bX11_burns_45 {d : Nat} {Q : Option MV → MH → Prop} {h : MH} {u1 u5 u6 : Option MV} {v2 v4 v3 : Int32} (hr : zRf h) (g0 : vp_in (((nI 8) * v2) + v4) 64) (g1 : vp_in (h.1 122 (((nI 8) * v2) + v4).toNatClampNeg) 8) (k1 : v3 ≤ (h.1 121 (h.1 122 (((nI 8) * v2) + v4).toNatClampNeg).toNatClampNeg) → J mX11_burns d 0 0 Q 0 0 80 [some (.inr (.inr 111)), u1, some (.inl v2), some (.inl v3), some (.inl v4), some (.inl (h.1 122 (((nI 8) * v2) + v4).toNatClampNeg)), u6] [] h) (k2 : ¬ v3 ≤ (h.1 121 (h.1 122 (((nI 8) * v2) + v4).toNatClampNeg).toNatClampNeg) → J mX11_burns d 0 0 Q 0 0 70 [some (.inr (.inr 111)), u1, some (.inl v2), some (.inl v3), some (.inl v4), some (.inl (h.1 122 (((nI 8) * v2) + v4).toNatClampNeg)), u6] [] h) : J mX11_burns d 0 0 Q 0 0 45 [some (.inr (.inr 111)), u1, some (.inl v2), some (.inl v3), some (.inl v4), u5, u6] [] h := by
  refine zrun 30 15 qX11_burns (o := 11) rfl ?_
  show zokO h 111 11 ∧ zokA h (h.2.2.1 111 21) 20 (((nI 8) * v2) + v4) ∧ zokO h 111 11 ∧ zokA h (h.2.2.1 111 20) 20 (h.1 (h.2.2.1 111 21) (((nI 8) * v2) + v4).toNatClampNeg) ∧ ((v3 ≤ (h.1 (h.2.2.1 111 20) (h.1 (h.2.2.1 111 21) (((nI 8) * v2) + v4).toNatClampNeg).toNatClampNeg) → J mX11_burns d 0 0 Q 0 0 80 [some (.inr (.inr 111)), u1, some (.inl v2), some (.inl v3), some (.inl v4), some (.inl (h.1 (h.2.2.1 111 21) (((nI 8) * v2) + v4).toNatClampNeg)), u6] [] h) ∧ (¬ v3 ≤ (h.1 (h.2.2.1 111 20) (h.1 (h.2.2.1 111 21) (((nI 8) * v2) + v4).toNatClampNeg).toNatClampNeg) → J mX11_burns d 0 0 Q 0 0 70 [some (.inr (.inr 111)), u1, some (.inl v2), some (.inl v3), some (.inl v4), some (.inl (h.1 (h.2.2.1 111 21) (((nI 8) * v2) + v4).toNatClampNeg)), u6] [] h))
  rw [(show h.2.2.1 111 21 = 122 from (hr.at (by decide) (by decide) (by rfl))), (show h.2.2.1 111 20 = 121 from (hr.at (by decide) (by decide) (by rfl)))]
  exact ⟨(zo hr (by decide) rfl), (zia hr (by decide) (by rfl) g0), (zo hr (by decide) rfl), (zia hr (by decide) (by rfl) g1), k1, k2⟩

theorem bX11_burns_70 {d : Nat} {Q : Option MV → MH → Prop} {h : MH} {u1 u2 u3 u4 u6 : Option MV} {v5 : Int32} (hr : zRf h) (g0 : vp_in v5 8) (k : J mX11_burns d 0 0 Q 0 0 81 [some (.inr (.inr 111)), u1, u2, u3, u4, some (.inl v5), u6] [.inl (h.1 121 v5.toNatClampNeg)] h) : J mX11_burns d 0 0 Q 0 0 70 [some (.inr (.inr 111)), u1, u2, u3, u4, some (.inl v5), u6] [] h := by
  refine zrun 45 5 qX11_burns (o := 11) rfl ?_
  show zokO h 111 11 ∧ zokA h (h.2.2.1 111 20) 20 v5 ∧ J mX11_burns d 0 0 Q 0 0 81 [some (.inr (.inr 111)), u1, u2, u3, u4, some (.inl v5), u6] [.inl (h.1 (h.2.2.1 111 20) v5.toNatClampNeg)] h
  rw [(show h.2.2.1 111 20 = 121 from (hr.at (by decide) (by decide) (by rfl)))]
  exact ⟨(zo hr (by decide) rfl), (zia hr (by decide) (by rfl) g0), k⟩

theorem bX11_burns_80 {d : Nat} {Q : Option MV → MH → Prop} {h : MH} {u0 u1 u2 u4 u5 u6 : Option MV} {v3 : Int32} (k : J mX11_burns d 0 0 Q 0 0 81 [u0, u1, u2, some (.inl v3), u4, u5, u6] [.inl v3] h) : J mX11_burns d 0 0 Q 0 0 80 [u0, u1, u2, some (.inl v3), u4, u5, u6] [] h := by
  refine zrun 50 1 qX11_burns (o := 11) rfl ?_
  show J mX11_burns d 0 0 Q 0 0 81 [u0, u1, u2, some (.inl v3), u4, u5, u6] [.inl v3] h
  exact k

theorem bX11_burns_81 {d : Nat} {Q : Option MV → MH → Prop} {h : MH} {u1 u6 : Option MV} {vs0 v5 v3 v2 v4 : Int32} (hr : zRf h) (g0 : vp_in v5 8) (k : J mX11_burns d 0 0 Q 0 0 30 [some (.inr (.inr 111)), u1, some (.inl v2), some (.inl (v3 - vs0)), some (.inl (v4 + nI 1)), some (.inl v5), some (.inl vs0)] [] (zsI h 121 v5.toNatClampNeg ((h.1 121 v5.toNatClampNeg) - vs0))) : J mX11_burns d 0 0 Q 0 0 81 [some (.inr (.inr 111)), u1, some (.inl v2), some (.inl v3), some (.inl v4), some (.inl v5), u6] [.inl vs0] h := by
  refine zrun 51 15 qX11_burns (o := 11) rfl ?_
  show zokO h 111 11 ∧ zokA h (h.2.2.1 111 20) 20 v5 ∧ zokA h (h.2.2.1 111 20) 20 v5 ∧ J mX11_burns d 0 0 Q 0 0 30 [some (.inr (.inr 111)), u1, some (.inl v2), some (.inl (v3 - vs0)), some (.inl (v4 + nI 1)), some (.inl v5), some (.inl vs0)] [] (zsI h (h.2.2.1 111 20) v5.toNatClampNeg ((h.1 (h.2.2.1 111 20) v5.toNatClampNeg) - vs0))
  rw [(show h.2.2.1 111 20 = 121 from (hr.at (by decide) (by decide) (by rfl)))]
  exact ⟨(zo hr (by decide) rfl), (zia hr (by decide) (by rfl) g0), (zia hr (by decide) (by rfl) g0), k⟩

theorem bX11_burns_106 {d : Nat} {Q : Option MV → MH → Prop} {h : MH} {u0 u3 u4 u5 u6 : Option MV} {v2 v1 : Int32} (k : J mX11_burns d 0 0 Q 0 0 2 [u0, some (.inl v1), some (.inl (v2 + nI 1)), u3, u4, u5, u6] [] h) : J mX11_burns d 0 0 Q 0 0 106 [u0, some (.inl v1), some (.inl v2), u3, u4, u5, u6] [] h := by
  refine zrun 66 2 qX11_burns (o := 11) rfl ?_
  show J mX11_burns d 0 0 Q 0 0 2 [u0, some (.inl v1), some (.inl (v2 + nI 1)), u3, u4, u5, u6] [] h
  exact k

theorem bX11_burns_112 {d : Nat} {Q : Option MV → MH → Prop} {h : MH} {u2 u3 u4 u5 u6 : Option MV} {v1 : Int32} (hr : zRf h) (k : Q none (zsI h 111 24 ((h.1 111 24) + v1))) : J mX11_burns d 0 0 Q 0 0 112 [some (.inr (.inr 111)), some (.inl v1), u2, u3, u4, u5, u6] [] h := by
  refine zrun 68 6 qX11_burns (o := 11) rfl ?_
  show zokO h 111 11 ∧ zokO h 111 11 ∧ J mX11_burns d 0 0 Q 0 0 122 [some (.inr (.inr 111)), some (.inl v1), u2, u3, u4, u5, u6] [] (zsI h 111 24 ((h.1 111 24) + v1))
  exact ⟨(zo hr (by decide) rfl), (zo hr (by decide) rfl), J_vret (zat qX11_burns 74 (by rfl)) rfl (Nat.le_refl 0) (Nat.le_refl 0) k⟩

theorem bX11_runs_0 {d : Nat} {Q : Option MV → MH → Prop} {h : MH} {u1 u3 u4 u5 : Option MV} {v2 : Int32} (hr : zRf h) (k : J mX11_runs d 0 0 Q 0 0 27 [some (.inr (.inr 111)), u1, some (.inl v2), some (.inl (nI 0)), u4, u5] [] (zsI (zsI (zsI (zsI (zsI h 111 24 (nI 0)) 111 25 (nI 0)) 111 26 (nI 0)) 111 27 (nI 0)) 111 29 (nI 0))) : J mX11_runs d 0 0 Q 0 0 0 [some (.inr (.inr 111)), u1, some (.inl v2), u3, u4, u5] [] h := by
  refine zrun 0 17 qX11_runs (o := 11) rfl ?_
  show zokO h 111 11 ∧ zokO (zsI h 111 24 (nI 0)) 111 11 ∧ zokO (zsI (zsI h 111 24 (nI 0)) 111 25 (nI 0)) 111 11 ∧ zokO (zsI (zsI (zsI h 111 24 (nI 0)) 111 25 (nI 0)) 111 26 (nI 0)) 111 11 ∧ zokO (zsI (zsI (zsI (zsI h 111 24 (nI 0)) 111 25 (nI 0)) 111 26 (nI 0)) 111 27 (nI 0)) 111 11 ∧ J mX11_runs d 0 0 Q 0 0 27 [some (.inr (.inr 111)), u1, some (.inl v2), some (.inl (nI 0)), u4, u5] [] (zsI (zsI (zsI (zsI (zsI h 111 24 (nI 0)) 111 25 (nI 0)) 111 26 (nI 0)) 111 27 (nI 0)) 111 29 (nI 0))
  exact ⟨(zo hr (by decide) rfl), (zo hr (by decide) rfl), (zo hr (by decide) rfl), (zo hr (by decide) rfl), (zo hr (by decide) rfl), k⟩

theorem bX11_runs_27 {d : Nat} {Q : Option MV → MH → Prop} {h : MH} {u0 u1 u2 u4 u5 : Option MV} {v3 : Int32} (k1 : (nI 40) ≤ v3 → J mX11_runs d 0 0 Q 0 0 46 [u0, u1, u2, some (.inl v3), u4, u5] [] h) (k2 : ¬ (nI 40) ≤ v3 → J mX11_runs d 0 0 Q 0 0 33 [u0, u1, u2, some (.inl v3), u4, u5] [] h) : J mX11_runs d 0 0 Q 0 0 27 [u0, u1, u2, some (.inl v3), u4, u5] [] h := by
  refine zrun 17 3 qX11_runs (o := 11) rfl ?_
  show (((nI 40) ≤ v3 → J mX11_runs d 0 0 Q 0 0 46 [u0, u1, u2, some (.inl v3), u4, u5] [] h) ∧ (¬ (nI 40) ≤ v3 → J mX11_runs d 0 0 Q 0 0 33 [u0, u1, u2, some (.inl v3), u4, u5] [] h))
  exact ⟨k1, k2⟩

theorem bX11_runs_33 {d : Nat} {Q : Option MV → MH → Prop} {h : MH} {u1 u4 u5 : Option MV} {v3 v2 : Int32} (hr : zRf h) (g0 : vp_in v3 40) (k : J mX11_runs d 0 0 Q 0 0 27 [some (.inr (.inr 111)), u1, some (.inl v2), some (.inl (v3 + nI 1)), u4, u5] [] (zsI h 125 v3.toNatClampNeg (nI 0))) : J mX11_runs d 0 0 Q 0 0 33 [some (.inr (.inr 111)), u1, some (.inl v2), some (.inl v3), u4, u5] [] h := by
  refine zrun 20 7 qX11_runs (o := 11) rfl ?_
  show zokO h 111 11 ∧ (zokA h (h.2.2.1 111 30) 22 v3 ∧ ((nI 0) = 0 ∨ (nI 0) = 1)) ∧ J mX11_runs d 0 0 Q 0 0 27 [some (.inr (.inr 111)), u1, some (.inl v2), some (.inl (v3 + nI 1)), u4, u5] [] (zsI h (h.2.2.1 111 30) v3.toNatClampNeg (nI 0))
  rw [(show h.2.2.1 111 30 = 125 from (hr.at (by decide) (by decide) (by rfl)))]
  exact ⟨(zo hr (by decide) rfl), ⟨(zia hr (by decide) (by rfl) g0), Or.inl rfl⟩, k⟩

theorem bX11_runs_46 {d : Nat} {Q : Option MV → MH → Prop} {h : MH} {u0 u1 u3 u4 u5 : Option MV} {v2 : Int32} (k : J mX11_runs d 0 0 Q 0 0 48 [u0, u1, some (.inl v2), some (.inl (nI 0)), u4, u5] [] h) : J mX11_runs d 0 0 Q 0 0 46 [u0, u1, some (.inl v2), u3, u4, u5] [] h := by
  refine zrun 27 2 qX11_runs (o := 11) rfl ?_
  show J mX11_runs d 0 0 Q 0 0 48 [u0, u1, some (.inl v2), some (.inl (nI 0)), u4, u5] [] h
  exact k

theorem bX11_runs_48 {d : Nat} {Q : Option MV → MH → Prop} {h : MH} {u0 u1 u2 u4 u5 : Option MV} {v3 : Int32} (k1 : (nI 8) ≤ v3 → J mX11_runs d 0 0 Q 0 0 122 [u0, u1, u2, some (.inl v3), u4, u5] [] h) (k2 : ¬ (nI 8) ≤ v3 → J mX11_runs d 0 0 Q 0 0 54 [u0, u1, u2, some (.inl v3), u4, u5] [] h) : J mX11_runs d 0 0 Q 0 0 48 [u0, u1, u2, some (.inl v3), u4, u5] [] h := by
  refine zrun 29 3 qX11_runs (o := 11) rfl ?_
  show (((nI 8) ≤ v3 → J mX11_runs d 0 0 Q 0 0 122 [u0, u1, u2, some (.inl v3), u4, u5] [] h) ∧ (¬ (nI 8) ≤ v3 → J mX11_runs d 0 0 Q 0 0 54 [u0, u1, u2, some (.inl v3), u4, u5] [] h))
  exact ⟨k1, k2⟩

theorem bX11_runs_54 {d : Nat} {Q : Option MV → MH → Prop} {h : MH} {u1 u4 u5 : Option MV} {v3 v2 : Int32} (hr : zRf h) (g0 : vp_in v3 8) (g1 : vp_in ((nI 8) * v3) 64) (k : J mX11_runs d 0 0 Q 0 0 48 [some (.inr (.inr 111)), u1, some (.inl v2), some (.inl (v3 + nI 1)), u4, u5] [] (zsI (zsI (zsI (zsI (zsI (zsI (zsI h 117 v3.toNatClampNeg (h.1 116 v3.toNatClampNeg)) 121 v3.toNatClampNeg ((zsI h 117 v3.toNatClampNeg (h.1 116 v3.toNatClampNeg)).1 116 v3.toNatClampNeg)) 118 v3.toNatClampNeg (nI 0)) 119 v3.toNatClampNeg (nI 0)) 120 v3.toNatClampNeg (-(nI 1))) 122 ((nI 8) * v3).toNatClampNeg v3) 123 v3.toNatClampNeg (nI 1))) : J mX11_runs d 0 0 Q 0 0 54 [some (.inr (.inr 111)), u1, some (.inl v2), some (.inl v3), u4, u5] [] h := by
  refine zrun 32 45 qX11_runs (o := 11) rfl ?_
  show zokO h 111 11 ∧ zokO h 111 11 ∧ zokA h (h.2.2.1 111 15) 20 v3 ∧ zokA h (h.2.2.1 111 16) 20 v3 ∧ zokO (zsI h (h.2.2.1 111 16) v3.toNatClampNeg (h.1 (h.2.2.1 111 15) v3.toNatClampNeg)) 111 11 ∧ zokO (zsI h (h.2.2.1 111 16) v3.toNatClampNeg (h.1 (h.2.2.1 111 15) v3.toNatClampNeg)) 111 11 ∧ zokA (zsI h (h.2.2.1 111 16) v3.toNatClampNeg (h.1 (h.2.2.1 111 15) v3.toNatClampNeg)) (h.2.2.1 111 15) 20 v3 ∧ zokA (zsI h (h.2.2.1 111 16) v3.toNatClampNeg (h.1 (h.2.2.1 111 15) v3.toNatClampNeg)) (h.2.2.1 111 20) 20 v3 ∧ zokO (zsI (zsI h (h.2.2.1 111 16) v3.toNatClampNeg (h.1 (h.2.2.1 111 15) v3.toNatClampNeg)) (h.2.2.1 111 20) v3.toNatClampNeg ((zsI h (h.2.2.1 111 16) v3.toNatClampNeg (h.1 (h.2.2.1 111 15) v3.toNatClampNeg)).1 (h.2.2.1 111 15) v3.toNatClampNeg)) 111 11 ∧ zokA (zsI (zsI h (h.2.2.1 111 16) v3.toNatClampNeg (h.1 (h.2.2.1 111 15) v3.toNatClampNeg)) (h.2.2.1 111 20) v3.toNatClampNeg ((zsI h (h.2.2.1 111 16) v3.toNatClampNeg (h.1 (h.2.2.1 111 15) v3.toNatClampNeg)).1 (h.2.2.1 111 15) v3.toNatClampNeg)) (h.2.2.1 111 17) 20 v3 ∧ zokO (zsI (zsI (zsI h (h.2.2.1 111 16) v3.toNatClampNeg (h.1 (h.2.2.1 111 15) v3.toNatClampNeg)) (h.2.2.1 111 20) v3.toNatClampNeg ((zsI h (h.2.2.1 111 16) v3.toNatClampNeg (h.1 (h.2.2.1 111 15) v3.toNatClampNeg)).1 (h.2.2.1 111 15) v3.toNatClampNeg)) (h.2.2.1 111 17) v3.toNatClampNeg (nI 0)) 111 11 ∧ zokA (zsI (zsI (zsI h (h.2.2.1 111 16) v3.toNatClampNeg (h.1 (h.2.2.1 111 15) v3.toNatClampNeg)) (h.2.2.1 111 20) v3.toNatClampNeg ((zsI h (h.2.2.1 111 16) v3.toNatClampNeg (h.1 (h.2.2.1 111 15) v3.toNatClampNeg)).1 (h.2.2.1 111 15) v3.toNatClampNeg)) (h.2.2.1 111 17) v3.toNatClampNeg (nI 0)) (h.2.2.1 111 18) 20 v3 ∧ zokO (zsI (zsI (zsI (zsI h (h.2.2.1 111 16) v3.toNatClampNeg (h.1 (h.2.2.1 111 15) v3.toNatClampNeg)) (h.2.2.1 111 20) v3.toNatClampNeg ((zsI h (h.2.2.1 111 16) v3.toNatClampNeg (h.1 (h.2.2.1 111 15) v3.toNatClampNeg)).1 (h.2.2.1 111 15) v3.toNatClampNeg)) (h.2.2.1 111 17) v3.toNatClampNeg (nI 0)) (h.2.2.1 111 18) v3.toNatClampNeg (nI 0)) 111 11 ∧ zokA (zsI (zsI (zsI (zsI h (h.2.2.1 111 16) v3.toNatClampNeg (h.1 (h.2.2.1 111 15) v3.toNatClampNeg)) (h.2.2.1 111 20) v3.toNatClampNeg ((zsI h (h.2.2.1 111 16) v3.toNatClampNeg (h.1 (h.2.2.1 111 15) v3.toNatClampNeg)).1 (h.2.2.1 111 15) v3.toNatClampNeg)) (h.2.2.1 111 17) v3.toNatClampNeg (nI 0)) (h.2.2.1 111 18) v3.toNatClampNeg (nI 0)) (h.2.2.1 111 19) 20 v3 ∧ zokO (zsI (zsI (zsI (zsI (zsI h (h.2.2.1 111 16) v3.toNatClampNeg (h.1 (h.2.2.1 111 15) v3.toNatClampNeg)) (h.2.2.1 111 20) v3.toNatClampNeg ((zsI h (h.2.2.1 111 16) v3.toNatClampNeg (h.1 (h.2.2.1 111 15) v3.toNatClampNeg)).1 (h.2.2.1 111 15) v3.toNatClampNeg)) (h.2.2.1 111 17) v3.toNatClampNeg (nI 0)) (h.2.2.1 111 18) v3.toNatClampNeg (nI 0)) (h.2.2.1 111 19) v3.toNatClampNeg (-(nI 1))) 111 11 ∧ zokA (zsI (zsI (zsI (zsI (zsI h (h.2.2.1 111 16) v3.toNatClampNeg (h.1 (h.2.2.1 111 15) v3.toNatClampNeg)) (h.2.2.1 111 20) v3.toNatClampNeg ((zsI h (h.2.2.1 111 16) v3.toNatClampNeg (h.1 (h.2.2.1 111 15) v3.toNatClampNeg)).1 (h.2.2.1 111 15) v3.toNatClampNeg)) (h.2.2.1 111 17) v3.toNatClampNeg (nI 0)) (h.2.2.1 111 18) v3.toNatClampNeg (nI 0)) (h.2.2.1 111 19) v3.toNatClampNeg (-(nI 1))) (h.2.2.1 111 21) 20 ((nI 8) * v3) ∧ zokO (zsI (zsI (zsI (zsI (zsI (zsI h (h.2.2.1 111 16) v3.toNatClampNeg (h.1 (h.2.2.1 111 15) v3.toNatClampNeg)) (h.2.2.1 111 20) v3.toNatClampNeg ((zsI h (h.2.2.1 111 16) v3.toNatClampNeg (h.1 (h.2.2.1 111 15) v3.toNatClampNeg)).1 (h.2.2.1 111 15) v3.toNatClampNeg)) (h.2.2.1 111 17) v3.toNatClampNeg (nI 0)) (h.2.2.1 111 18) v3.toNatClampNeg (nI 0)) (h.2.2.1 111 19) v3.toNatClampNeg (-(nI 1))) (h.2.2.1 111 21) ((nI 8) * v3).toNatClampNeg v3) 111 11 ∧ zokA (zsI (zsI (zsI (zsI (zsI (zsI h (h.2.2.1 111 16) v3.toNatClampNeg (h.1 (h.2.2.1 111 15) v3.toNatClampNeg)) (h.2.2.1 111 20) v3.toNatClampNeg ((zsI h (h.2.2.1 111 16) v3.toNatClampNeg (h.1 (h.2.2.1 111 15) v3.toNatClampNeg)).1 (h.2.2.1 111 15) v3.toNatClampNeg)) (h.2.2.1 111 17) v3.toNatClampNeg (nI 0)) (h.2.2.1 111 18) v3.toNatClampNeg (nI 0)) (h.2.2.1 111 19) v3.toNatClampNeg (-(nI 1))) (h.2.2.1 111 21) ((nI 8) * v3).toNatClampNeg v3) (h.2.2.1 111 22) 20 v3 ∧ J mX11_runs d 0 0 Q 0 0 48 [some (.inr (.inr 111)), u1, some (.inl v2), some (.inl (v3 + nI 1)), u4, u5] [] (zsI (zsI (zsI (zsI (zsI (zsI (zsI h (h.2.2.1 111 16) v3.toNatClampNeg (h.1 (h.2.2.1 111 15) v3.toNatClampNeg)) (h.2.2.1 111 20) v3.toNatClampNeg ((zsI h (h.2.2.1 111 16) v3.toNatClampNeg (h.1 (h.2.2.1 111 15) v3.toNatClampNeg)).1 (h.2.2.1 111 15) v3.toNatClampNeg)) (h.2.2.1 111 17) v3.toNatClampNeg (nI 0)) (h.2.2.1 111 18) v3.toNatClampNeg (nI 0)) (h.2.2.1 111 19) v3.toNatClampNeg (-(nI 1))) (h.2.2.1 111 21) ((nI 8) * v3).toNatClampNeg v3) (h.2.2.1 111 22) v3.toNatClampNeg (nI 1))
  rw [(show h.2.2.1 111 16 = 117 from (hr.at (by decide) (by decide) (by rfl))), (show h.2.2.1 111 15 = 116 from (hr.at (by decide) (by decide) (by rfl))), (show h.2.2.1 111 20 = 121 from (hr.at (by decide) (by decide) (by rfl))), (show h.2.2.1 111 17 = 118 from (hr.at (by decide) (by decide) (by rfl))), (show h.2.2.1 111 18 = 119 from (hr.at (by decide) (by decide) (by rfl))), (show h.2.2.1 111 19 = 120 from (hr.at (by decide) (by decide) (by rfl))), (show h.2.2.1 111 21 = 122 from (hr.at (by decide) (by decide) (by rfl))), (show h.2.2.1 111 22 = 123 from (hr.at (by decide) (by decide) (by rfl)))]
  exact ⟨(zo hr (by decide) rfl), (zo hr (by decide) rfl), (zia hr (by decide) (by rfl) g0), (zia hr (by decide) (by rfl) g0), (zo hr (by decide) rfl), (zo hr (by decide) rfl), (zia hr (by decide) (by rfl) g0), (zia hr (by decide) (by rfl) g0), (zo hr (by decide) rfl), (zia hr (by decide) (by rfl) g0), (zo hr (by decide) rfl), (zia hr (by decide) (by rfl) g0), (zo hr (by decide) rfl), (zia hr (by decide) (by rfl) g0), (zo hr (by decide) rfl), (zia hr (by decide) (by rfl) g1), (zo hr (by decide) rfl), (zia hr (by decide) (by rfl) g0), k⟩

theorem bX11_runs_122 {d d' : Nat} {Q : Option MV → MH → Prop} {h : MH} {u2 u3 u4 u5 : Option MV} {v1 : Int32} (hr : zRf h) (hd : d' + 1 ≤ d) (k : Con mX11_doesRules d' 0 0 [.inr (.inr 111), .inl v1, .inl (-(nI 1))] h (zrv fun h' => J mX11_runs d 0 0 Q 0 0 128 [some (.inr (.inr 111)), some (.inl v1), u2, u3, u4, u5] [] h')) : J mX11_runs d 0 0 Q 0 0 122 [some (.inr (.inr 111)), some (.inl v1), u2, u3, u4, u5] [] h := by
  refine zrun 77 3 qX11_runs (o := 11) rfl ?_
  show J mX11_runs d 0 0 Q 0 0 125 [some (.inr (.inr 111)), some (.inl v1), u2, u3, u4, u5] [.inl (-(nI 1)), .inl v1, .inr (.inr 111)] h
  exact zcVv (as := [.inl v1, .inl (-(nI 1))]) (zat qX11_runs 80 (by rfl)) l11_252 rfl hd rfl (Nat.le_of_ble_eq_true rfl) zle0 (ci := 11) (by decide) rfl (zo hr (by decide) rfl) k

theorem bX11_runs_128 {d d' : Nat} {Q : Option MV → MH → Prop} {h : MH} {u1 u2 u3 u4 u5 : Option MV} (hr : zRf h) (hd : d' + 1 ≤ d) (k : Con mX11_tillNext d' 0 0 [.inr (.inr 111)] h (zri fun (x : Int32) h' => J mX11_runs d 0 0 Q 0 0 132 [some (.inr (.inr 111)), u1, u2, u3, u4, u5] [.inl x] h')) : J mX11_runs d 0 0 Q 0 0 128 [some (.inr (.inr 111)), u1, u2, u3, u4, u5] [] h := by
  refine zrun 81 1 qX11_runs (o := 11) rfl ?_
  show J mX11_runs d 0 0 Q 0 0 129 [some (.inr (.inr 111)), u1, u2, u3, u4, u5] [.inr (.inr 111)] h
  exact zcVi (as := []) (zat qX11_runs 82 (by rfl)) l11_255 rfl hd rfl (Nat.le_of_ble_eq_true rfl) zle0 (ci := 11) (by decide) rfl (zo hr (by decide) rfl) k

theorem bX11_runs_132 {d : Nat} {Q : Option MV → MH → Prop} {h : MH} {u0 u1 u3 u4 u5 : Option MV} {vs0 v2 : Int32} (k : J mX11_runs d 0 0 Q 0 0 133 [u0, u1, some (.inl v2), some (.inl vs0), u4, u5] [] h) : J mX11_runs d 0 0 Q 0 0 132 [u0, u1, some (.inl v2), u3, u4, u5] [.inl vs0] h := by
  refine zrun 83 1 qX11_runs (o := 11) rfl ?_
  show J mX11_runs d 0 0 Q 0 0 133 [u0, u1, some (.inl v2), some (.inl vs0), u4, u5] [] h
  exact k

theorem bX11_runs_133 {d : Nat} {Q : Option MV → MH → Prop} {h : MH} {u0 u1 u2 u4 u5 : Option MV} {v3 : Int32} (k1 : v3 = (-(nI 1)) → J mX11_runs d 0 0 Q 0 0 278 [u0, u1, u2, some (.inl v3), u4, u5] [] h) (k2 : ¬ v3 = (-(nI 1)) → J mX11_runs d 0 0 Q 0 0 138 [u0, u1, u2, some (.inl v3), u4, u5] [] h) : J mX11_runs d 0 0 Q 0 0 133 [u0, u1, u2, some (.inl v3), u4, u5] [] h := by
  refine zrun 84 3 qX11_runs (o := 11) rfl ?_
  show ((v3 = (-(nI 1)) → J mX11_runs d 0 0 Q 0 0 278 [u0, u1, u2, some (.inl v3), u4, u5] [] h) ∧ (¬ v3 = (-(nI 1)) → J mX11_runs d 0 0 Q 0 0 138 [u0, u1, u2, some (.inl v3), u4, u5] [] h))
  exact ⟨k1, k2⟩

theorem bX11_runs_138 {d : Nat} {Q : Option MV → MH → Prop} {h : MH} {u0 u1 u3 u4 u5 : Option MV} {v2 : Int32} (k1 : v2 = (-(nI 1)) → J mX11_runs d 0 0 Q 0 0 153 [u0, u1, some (.inl v2), u3, u4, u5] [] h) (k2 : ¬ v2 = (-(nI 1)) → J mX11_runs d 0 0 Q 0 0 143 [u0, u1, some (.inl v2), u3, u4, u5] [] h) : J mX11_runs d 0 0 Q 0 0 138 [u0, u1, some (.inl v2), u3, u4, u5] [] h := by
  refine zrun 87 3 qX11_runs (o := 11) rfl ?_
  show ((v2 = (-(nI 1)) → J mX11_runs d 0 0 Q 0 0 153 [u0, u1, some (.inl v2), u3, u4, u5] [] h) ∧ (¬ v2 = (-(nI 1)) → J mX11_runs d 0 0 Q 0 0 143 [u0, u1, some (.inl v2), u3, u4, u5] [] h))
  exact ⟨k1, k2⟩

theorem bX11_runs_143 {d : Nat} {Q : Option MV → MH → Prop} {h : MH} {u1 u4 u5 : Option MV} {v3 v2 : Int32} (hr : zRf h) (k1 : v2 < ((h.1 111 24) + v3) → J mX11_runs d 0 0 Q 0 0 278 [some (.inr (.inr 111)), u1, some (.inl v2), some (.inl v3), u4, u5] [] h) (k2 : ¬ v2 < ((h.1 111 24) + v3) → J mX11_runs d 0 0 Q 0 0 153 [some (.inr (.inr 111)), u1, some (.inl v2), some (.inl v3), u4, u5] [] h) : J mX11_runs d 0 0 Q 0 0 143 [some (.inr (.inr 111)), u1, some (.inl v2), some (.inl v3), u4, u5] [] h := by
  refine zrun 90 6 qX11_runs (o := 11) rfl ?_
  show zokO h 111 11 ∧ ((v2 < ((h.1 111 24) + v3) → J mX11_runs d 0 0 Q 0 0 278 [some (.inr (.inr 111)), u1, some (.inl v2), some (.inl v3), u4, u5] [] h) ∧ (¬ v2 < ((h.1 111 24) + v3) → J mX11_runs d 0 0 Q 0 0 153 [some (.inr (.inr 111)), u1, some (.inl v2), some (.inl v3), u4, u5] [] h))
  exact ⟨(zo hr (by decide) rfl), k1, k2⟩

theorem bX11_runs_153 {d d' : Nat} {Q : Option MV → MH → Prop} {h : MH} {u1 u2 u4 u5 : Option MV} {v3 : Int32} (hr : zRf h) (hd : d' + 1 ≤ d) (k : Con mX11_burns d' 0 0 [.inr (.inr 111), .inl v3] h (zrv fun h' => J mX11_runs d 0 0 Q 0 0 158 [some (.inr (.inr 111)), u1, u2, some (.inl v3), u4, u5] [] h')) : J mX11_runs d 0 0 Q 0 0 153 [some (.inr (.inr 111)), u1, u2, some (.inl v3), u4, u5] [] h := by
  refine zrun 96 2 qX11_runs (o := 11) rfl ?_
  show J mX11_runs d 0 0 Q 0 0 155 [some (.inr (.inr 111)), u1, u2, some (.inl v3), u4, u5] [.inl v3, .inr (.inr 111)] h
  exact zcVv (as := [.inl v3]) (zat qX11_runs 98 (by rfl)) l11_258 rfl hd rfl (Nat.le_of_ble_eq_true rfl) zle0 (ci := 11) (by decide) rfl (zo hr (by decide) rfl) k

theorem bX11_runs_158 {d : Nat} {Q : Option MV → MH → Prop} {h : MH} {u0 u1 u2 u4 u5 : Option MV} {v3 : Int32} (k : J mX11_runs d 0 0 Q 0 0 164 [u0, u1, u2, some (.inl v3), some (.inl (nI 0)), some (.inl (nI 0))] [] h) : J mX11_runs d 0 0 Q 0 0 158 [u0, u1, u2, some (.inl v3), u4, u5] [] h := by
  refine zrun 99 4 qX11_runs (o := 11) rfl ?_
  show J mX11_runs d 0 0 Q 0 0 164 [u0, u1, u2, some (.inl v3), some (.inl (nI 0)), some (.inl (nI 0))] [] h
  exact k

theorem bX11_runs_164 {d : Nat} {Q : Option MV → MH → Prop} {h : MH} {u0 u1 u2 u3 u4 : Option MV} {v5 : Int32} (k1 : (nI 8) ≤ v5 → J mX11_runs d 0 0 Q 0 0 236 [u0, u1, u2, u3, u4, some (.inl v5)] [] h) (k2 : ¬ (nI 8) ≤ v5 → J mX11_runs d 0 0 Q 0 0 171 [u0, u1, u2, u3, u4, some (.inl v5)] [] h) : J mX11_runs d 0 0 Q 0 0 164 [u0, u1, u2, u3, u4, some (.inl v5)] [] h := by
  refine zrun 103 3 qX11_runs (o := 11) rfl ?_
  show (((nI 8) ≤ v5 → J mX11_runs d 0 0 Q 0 0 236 [u0, u1, u2, u3, u4, some (.inl v5)] [] h) ∧ (¬ (nI 8) ≤ v5 → J mX11_runs d 0 0 Q 0 0 171 [u0, u1, u2, u3, u4, some (.inl v5)] [] h))
  exact ⟨k1, k2⟩

theorem bX11_runs_171 {d : Nat} {Q : Option MV → MH → Prop} {h : MH} {u1 u2 u3 u4 : Option MV} {v5 : Int32} (hr : zRf h) (g0 : vp_in v5 8) (k1 : (h.1 118 v5.toNatClampNeg) = 0 → J mX11_runs d 0 0 Q 0 0 230 [some (.inr (.inr 111)), u1, u2, u3, u4, some (.inl v5)] [] h) (k2 : ¬ (h.1 118 v5.toNatClampNeg) = 0 → J mX11_runs d 0 0 Q 0 0 181 [some (.inr (.inr 111)), u1, u2, u3, u4, some (.inl v5)] [] h) : J mX11_runs d 0 0 Q 0 0 171 [some (.inr (.inr 111)), u1, u2, u3, u4, some (.inl v5)] [] h := by
  refine zrun 106 5 qX11_runs (o := 11) rfl ?_
  show zokO h 111 11 ∧ zokA h (h.2.2.1 111 17) 20 v5 ∧ (((h.1 (h.2.2.1 111 17) v5.toNatClampNeg) = 0 → J mX11_runs d 0 0 Q 0 0 230 [some (.inr (.inr 111)), u1, u2, u3, u4, some (.inl v5)] [] h) ∧ (¬ (h.1 (h.2.2.1 111 17) v5.toNatClampNeg) = 0 → J mX11_runs d 0 0 Q 0 0 181 [some (.inr (.inr 111)), u1, u2, u3, u4, some (.inl v5)] [] h))
  rw [(show h.2.2.1 111 17 = 118 from (hr.at (by decide) (by decide) (by rfl)))]
  exact ⟨(zo hr (by decide) rfl), (zia hr (by decide) (by rfl) g0), k1, k2⟩

theorem bX11_runs_181 {d : Nat} {Q : Option MV → MH → Prop} {h : MH} {u1 u2 u3 u4 : Option MV} {v5 : Int32} (hr : zRf h) (g0 : vp_in v5 8) (k1 : (h.1 117 v5.toNatClampNeg) ≤ 0 → J mX11_runs d 0 0 Q 0 0 194 [some (.inr (.inr 111)), u1, u2, u3, u4, some (.inl v5)] [] h) (k2 : ¬ (h.1 117 v5.toNatClampNeg) ≤ 0 → J mX11_runs d 0 0 Q 0 0 191 [some (.inr (.inr 111)), u1, u2, u3, u4, some (.inl v5)] [] h) : J mX11_runs d 0 0 Q 0 0 181 [some (.inr (.inr 111)), u1, u2, u3, u4, some (.inl v5)] [] h := by
  refine zrun 111 5 qX11_runs (o := 11) rfl ?_
  show zokO h 111 11 ∧ zokA h (h.2.2.1 111 16) 20 v5 ∧ (((h.1 (h.2.2.1 111 16) v5.toNatClampNeg) ≤ 0 → J mX11_runs d 0 0 Q 0 0 194 [some (.inr (.inr 111)), u1, u2, u3, u4, some (.inl v5)] [] h) ∧ (¬ (h.1 (h.2.2.1 111 16) v5.toNatClampNeg) ≤ 0 → J mX11_runs d 0 0 Q 0 0 191 [some (.inr (.inr 111)), u1, u2, u3, u4, some (.inl v5)] [] h))
  rw [(show h.2.2.1 111 16 = 117 from (hr.at (by decide) (by decide) (by rfl)))]
  exact ⟨(zo hr (by decide) rfl), (zia hr (by decide) (by rfl) g0), k1, k2⟩

theorem bX11_runs_191 {d : Nat} {Q : Option MV → MH → Prop} {h : MH} {u0 u1 u2 u3 u4 u5 : Option MV} (k : J mX11_runs d 0 0 Q 0 0 230 [u0, u1, u2, u3, u4, u5] [] h) : J mX11_runs d 0 0 Q 0 0 191 [u0, u1, u2, u3, u4, u5] [] h := by
  refine zrun 116 1 qX11_runs (o := 11) rfl ?_
  show J mX11_runs d 0 0 Q 0 0 230 [u0, u1, u2, u3, u4, u5] [] h
  exact k

theorem bX11_runs_194 {d : Nat} {Q : Option MV → MH → Prop} {h : MH} {u1 u2 : Option MV} {v4 v5 v3 : Int32} (hr : zRf h) (g0 : vp_in v5 8) (k : J mX11_runs d 0 0 Q 0 0 230 [some (.inr (.inr 111)), u1, u2, some (.inl v3), some (.inl (v4 ||| ((nI 1) <<< (v5 &&& 31)))), some (.inl v5)] [] (zsI (zsI (zsI h 118 v5.toNatClampNeg (nI 0)) 119 v5.toNatClampNeg (nI 1)) 120 v5.toNatClampNeg ((zsI (zsI h 118 v5.toNatClampNeg (nI 0)) 119 v5.toNatClampNeg (nI 1)).1 111 24))) : J mX11_runs d 0 0 Q 0 0 194 [some (.inr (.inr 111)), u1, u2, some (.inl v3), some (.inl v4), some (.inl v5)] [] h := by
  refine zrun 117 22 qX11_runs (o := 11) rfl ?_
  show zokO h 111 11 ∧ zokA h (h.2.2.1 111 17) 20 v5 ∧ zokO (zsI h (h.2.2.1 111 17) v5.toNatClampNeg (nI 0)) 111 11 ∧ zokA (zsI h (h.2.2.1 111 17) v5.toNatClampNeg (nI 0)) (h.2.2.1 111 18) 20 v5 ∧ zokO (zsI (zsI h (h.2.2.1 111 17) v5.toNatClampNeg (nI 0)) (h.2.2.1 111 18) v5.toNatClampNeg (nI 1)) 111 11 ∧ zokO (zsI (zsI h (h.2.2.1 111 17) v5.toNatClampNeg (nI 0)) (h.2.2.1 111 18) v5.toNatClampNeg (nI 1)) 111 11 ∧ zokA (zsI (zsI h (h.2.2.1 111 17) v5.toNatClampNeg (nI 0)) (h.2.2.1 111 18) v5.toNatClampNeg (nI 1)) (h.2.2.1 111 19) 20 v5 ∧ J mX11_runs d 0 0 Q 0 0 230 [some (.inr (.inr 111)), u1, u2, some (.inl v3), some (.inl (v4 ||| ((nI 1) <<< (v5 &&& 31)))), some (.inl v5)] [] (zsI (zsI (zsI h (h.2.2.1 111 17) v5.toNatClampNeg (nI 0)) (h.2.2.1 111 18) v5.toNatClampNeg (nI 1)) (h.2.2.1 111 19) v5.toNatClampNeg ((zsI (zsI h (h.2.2.1 111 17) v5.toNatClampNeg (nI 0)) (h.2.2.1 111 18) v5.toNatClampNeg (nI 1)).1 111 24))
  rw [(show h.2.2.1 111 17 = 118 from (hr.at (by decide) (by decide) (by rfl))), (show h.2.2.1 111 18 = 119 from (hr.at (by decide) (by decide) (by rfl))), (show h.2.2.1 111 19 = 120 from (hr.at (by decide) (by decide) (by rfl)))]
  exact ⟨(zo hr (by decide) rfl), (zia hr (by decide) (by rfl) g0), (zo hr (by decide) rfl), (zia hr (by decide) (by rfl) g0), (zo hr (by decide) rfl), (zo hr (by decide) rfl), (zia hr (by decide) (by rfl) g0), k⟩

theorem bX11_runs_230 {d : Nat} {Q : Option MV → MH → Prop} {h : MH} {u0 u1 u2 u3 : Option MV} {v5 v4 : Int32} (k : J mX11_runs d 0 0 Q 0 0 164 [u0, u1, u2, u3, some (.inl v4), some (.inl (v5 + nI 1))] [] h) : J mX11_runs d 0 0 Q 0 0 230 [u0, u1, u2, u3, some (.inl v4), some (.inl v5)] [] h := by
  refine zrun 139 2 qX11_runs (o := 11) rfl ?_
  show J mX11_runs d 0 0 Q 0 0 164 [u0, u1, u2, u3, some (.inl v4), some (.inl (v5 + nI 1))] [] h
  exact k

theorem bX11_runs_236 {d : Nat} {Q : Option MV → MH → Prop} {h : MH} {u0 u1 u2 u3 u5 : Option MV} {v4 : Int32} (k : J mX11_runs d 0 0 Q 0 0 239 [u0, u1, u2, u3, some (.inl v4), some (.inl (nI 0))] [] h) : J mX11_runs d 0 0 Q 0 0 236 [u0, u1, u2, u3, some (.inl v4), u5] [] h := by
  refine zrun 141 2 qX11_runs (o := 11) rfl ?_
  show J mX11_runs d 0 0 Q 0 0 239 [u0, u1, u2, u3, some (.inl v4), some (.inl (nI 0))] [] h
  exact k

theorem bX11_runs_239 {d : Nat} {Q : Option MV → MH → Prop} {h : MH} {u0 u1 u2 u3 u4 : Option MV} {v5 : Int32} (k1 : (nI 8) ≤ v5 → J mX11_runs d 0 0 Q 0 0 270 [u0, u1, u2, u3, u4, some (.inl v5)] [] h) (k2 : ¬ (nI 8) ≤ v5 → J mX11_runs d 0 0 Q 0 0 246 [u0, u1, u2, u3, u4, some (.inl v5)] [] h) : J mX11_runs d 0 0 Q 0 0 239 [u0, u1, u2, u3, u4, some (.inl v5)] [] h := by
  refine zrun 143 3 qX11_runs (o := 11) rfl ?_
  show (((nI 8) ≤ v5 → J mX11_runs d 0 0 Q 0 0 270 [u0, u1, u2, u3, u4, some (.inl v5)] [] h) ∧ (¬ (nI 8) ≤ v5 → J mX11_runs d 0 0 Q 0 0 246 [u0, u1, u2, u3, u4, some (.inl v5)] [] h))
  exact ⟨k1, k2⟩

theorem bX11_runs_246 {d : Nat} {Q : Option MV → MH → Prop} {h : MH} {u0 u1 u2 u3 : Option MV} {v4 v5 : Int32} (k1 : ¬ ((v4 >>> (v5 &&& 31)) &&& (nI 1)) = (nI 1) → J mX11_runs d 0 0 Q 0 0 264 [u0, u1, u2, u3, some (.inl v4), some (.inl v5)] [] h) (k2 : ((v4 >>> (v5 &&& 31)) &&& (nI 1)) = (nI 1) → J mX11_runs d 0 0 Q 0 0 257 [u0, u1, u2, u3, some (.inl v4), some (.inl v5)] [] h) : J mX11_runs d 0 0 Q 0 0 246 [u0, u1, u2, u3, some (.inl v4), some (.inl v5)] [] h := by
  refine zrun 146 7 qX11_runs (o := 11) rfl ?_
  show ((¬ ((v4 >>> (v5 &&& 31)) &&& (nI 1)) = (nI 1) → J mX11_runs d 0 0 Q 0 0 264 [u0, u1, u2, u3, some (.inl v4), some (.inl v5)] [] h) ∧ (((v4 >>> (v5 &&& 31)) &&& (nI 1)) = (nI 1) → J mX11_runs d 0 0 Q 0 0 257 [u0, u1, u2, u3, some (.inl v4), some (.inl v5)] [] h))
  exact ⟨k1, k2⟩

theorem bX11_runs_257 {d d' : Nat} {Q : Option MV → MH → Prop} {h : MH} {u2 u3 u4 : Option MV} {v1 v5 : Int32} (hr : zRf h) (hd : d' + 1 ≤ d) (k : Con mX11_doesRules d' 0 0 [.inr (.inr 111), .inl v1, .inl v5] h (zrv fun h' => J mX11_runs d 0 0 Q 0 0 264 [some (.inr (.inr 111)), some (.inl v1), u2, u3, u4, some (.inl v5)] [] h')) : J mX11_runs d 0 0 Q 0 0 257 [some (.inr (.inr 111)), some (.inl v1), u2, u3, u4, some (.inl v5)] [] h := by
  refine zrun 153 3 qX11_runs (o := 11) rfl ?_
  show J mX11_runs d 0 0 Q 0 0 261 [some (.inr (.inr 111)), some (.inl v1), u2, u3, u4, some (.inl v5)] [.inl v5, .inl v1, .inr (.inr 111)] h
  exact zcVv (as := [.inl v1, .inl v5]) (zat qX11_runs 156 (by rfl)) l11_252 rfl hd rfl (Nat.le_of_ble_eq_true rfl) zle0 (ci := 11) (by decide) rfl (zo hr (by decide) rfl) k

theorem bX11_runs_264 {d : Nat} {Q : Option MV → MH → Prop} {h : MH} {u0 u1 u2 u3 : Option MV} {v5 v4 : Int32} (k : J mX11_runs d 0 0 Q 0 0 239 [u0, u1, u2, u3, some (.inl v4), some (.inl (v5 + nI 1))] [] h) : J mX11_runs d 0 0 Q 0 0 264 [u0, u1, u2, u3, some (.inl v4), some (.inl v5)] [] h := by
  refine zrun 157 2 qX11_runs (o := 11) rfl ?_
  show J mX11_runs d 0 0 Q 0 0 239 [u0, u1, u2, u3, some (.inl v4), some (.inl (v5 + nI 1))] [] h
  exact k

theorem bX11_runs_270 {d d' : Nat} {Q : Option MV → MH → Prop} {h : MH} {u1 u2 u3 u4 u5 : Option MV} (hr : zRf h) (hd : d' + 1 ≤ d) (k : Con mX11_tillNext d' 0 0 [.inr (.inr 111)] h (zri fun (x : Int32) h' => J mX11_runs d 0 0 Q 0 0 274 [some (.inr (.inr 111)), u1, u2, u3, u4, u5] [.inl x] h')) : J mX11_runs d 0 0 Q 0 0 270 [some (.inr (.inr 111)), u1, u2, u3, u4, u5] [] h := by
  refine zrun 159 1 qX11_runs (o := 11) rfl ?_
  show J mX11_runs d 0 0 Q 0 0 271 [some (.inr (.inr 111)), u1, u2, u3, u4, u5] [.inr (.inr 111)] h
  exact zcVi (as := []) (zat qX11_runs 160 (by rfl)) l11_255 rfl hd rfl (Nat.le_of_ble_eq_true rfl) zle0 (ci := 11) (by decide) rfl (zo hr (by decide) rfl) k

theorem bX11_runs_274 {d : Nat} {Q : Option MV → MH → Prop} {h : MH} {u0 u1 u3 u4 u5 : Option MV} {vs0 v2 : Int32} (k : J mX11_runs d 0 0 Q 0 0 133 [u0, u1, some (.inl v2), some (.inl vs0), u4, u5] [] h) : J mX11_runs d 0 0 Q 0 0 274 [u0, u1, some (.inl v2), u3, u4, u5] [.inl vs0] h := by
  refine zrun 161 2 qX11_runs (o := 11) rfl ?_
  show J mX11_runs d 0 0 Q 0 0 133 [u0, u1, some (.inl v2), some (.inl vs0), u4, u5] [] h
  exact k

theorem bX11_runs_278 {d : Nat} {Q : Option MV → MH → Prop} {h : MH} {u0 u1 u2 u4 u5 : Option MV} {v3 : Int32} (k1 : v3 = (-(nI 1)) → J mX11_runs d 0 0 Q 0 0 298 [u0, u1, u2, some (.inl v3), u4, u5] [] h) (k2 : ¬ v3 = (-(nI 1)) → J mX11_runs d 0 0 Q 0 0 283 [u0, u1, u2, some (.inl v3), u4, u5] [] h) : J mX11_runs d 0 0 Q 0 0 278 [u0, u1, u2, some (.inl v3), u4, u5] [] h := by
  refine zrun 163 3 qX11_runs (o := 11) rfl ?_
  show ((v3 = (-(nI 1)) → J mX11_runs d 0 0 Q 0 0 298 [u0, u1, u2, some (.inl v3), u4, u5] [] h) ∧ (¬ v3 = (-(nI 1)) → J mX11_runs d 0 0 Q 0 0 283 [u0, u1, u2, some (.inl v3), u4, u5] [] h))
  exact ⟨k1, k2⟩

theorem bX11_runs_283 {d : Nat} {Q : Option MV → MH → Prop} {h : MH} {u0 u1 u3 u4 u5 : Option MV} {v2 : Int32} (k1 : v2 = (-(nI 1)) → J mX11_runs d 0 0 Q 0 0 298 [u0, u1, some (.inl v2), u3, u4, u5] [] h) (k2 : ¬ v2 = (-(nI 1)) → J mX11_runs d 0 0 Q 0 0 288 [u0, u1, some (.inl v2), u3, u4, u5] [] h) : J mX11_runs d 0 0 Q 0 0 283 [u0, u1, some (.inl v2), u3, u4, u5] [] h := by
  refine zrun 166 3 qX11_runs (o := 11) rfl ?_
  show ((v2 = (-(nI 1)) → J mX11_runs d 0 0 Q 0 0 298 [u0, u1, some (.inl v2), u3, u4, u5] [] h) ∧ (¬ v2 = (-(nI 1)) → J mX11_runs d 0 0 Q 0 0 288 [u0, u1, some (.inl v2), u3, u4, u5] [] h))
  exact ⟨k1, k2⟩

theorem bX11_runs_288 {d d' : Nat} {Q : Option MV → MH → Prop} {h : MH} {u1 u3 u4 u5 : Option MV} {v2 : Int32} (hr : zRf h) (hd : d' + 1 ≤ d) (k : Con mX11_burns d' 0 0 [.inr (.inr 111), .inl (v2 - (h.1 111 24))] h (zrv fun h' => J mX11_runs d 0 0 Q 0 0 298 [some (.inr (.inr 111)), u1, some (.inl v2), u3, u4, u5] [] h')) : J mX11_runs d 0 0 Q 0 0 288 [some (.inr (.inr 111)), u1, some (.inl v2), u3, u4, u5] [] h := by
  refine zrun 169 5 qX11_runs (o := 11) rfl ?_
  show zokO h 111 11 ∧ J mX11_runs d 0 0 Q 0 0 295 [some (.inr (.inr 111)), u1, some (.inl v2), u3, u4, u5] [.inl (v2 - (h.1 111 24)), .inr (.inr 111)] h
  exact ⟨(zo hr (by decide) rfl), zcVv (as := [.inl (v2 - (h.1 111 24))]) (zat qX11_runs 174 (by rfl)) l11_258 rfl hd rfl (Nat.le_of_ble_eq_true rfl) zle0 (ci := 11) (by decide) rfl (zo hr (by decide) rfl) k⟩

theorem bX11_runs_298 {d : Nat} {Q : Option MV → MH → Prop} {h : MH} {u0 u1 u2 u3 u4 u5 : Option MV} (k : Q none h) : J mX11_runs d 0 0 Q 0 0 298 [u0, u1, u2, u3, u4, u5] [] h := by
  exact J_vret (zat qX11_runs 175 (by rfl)) rfl (Nat.le_refl 0) (Nat.le_refl 0) k

theorem bX11_waxBurnt_0 {d : Nat} {Q : Option MV → MH → Prop} {h : MH} {u1 u2 : Option MV} (k : J mX11_waxBurnt d 0 0 Q 0 0 4 [some (.inr (.inr 111)), some (.inl (nI 0)), some (.inl (nI 0))] [] h) : J mX11_waxBurnt d 0 0 Q 0 0 0 [some (.inr (.inr 111)), u1, u2] [] h := by
  refine zrun 0 4 qX11_waxBurnt (o := 11) rfl ?_
  show J mX11_waxBurnt d 0 0 Q 0 0 4 [some (.inr (.inr 111)), some (.inl (nI 0)), some (.inl (nI 0))] [] h
  exact k

theorem bX11_waxBurnt_4 {d : Nat} {Q : Option MV → MH → Prop} {h : MH} {u1 : Option MV} {v2 : Int32} (hr : zRf h) (g0 : vp_in (nI 0) 2166) (k1 : (h.1 112 0) ≤ v2 → J mX11_waxBurnt d 0 0 Q 0 0 57 [some (.inr (.inr 111)), u1, some (.inl v2)] [] h) (k2 : ¬ (h.1 112 0) ≤ v2 → J mX11_waxBurnt d 0 0 Q 0 0 14 [some (.inr (.inr 111)), u1, some (.inl v2)] [] h) : J mX11_waxBurnt d 0 0 Q 0 0 4 [some (.inr (.inr 111)), u1, some (.inl v2)] [] h := by
  refine zrun 4 6 qX11_waxBurnt (o := 11) rfl ?_
  show zokO h 111 11 ∧ zokA h (h.2.2.1 111 1) 20 (nI 0) ∧ (((h.1 (h.2.2.1 111 1) 0) ≤ v2 → J mX11_waxBurnt d 0 0 Q 0 0 57 [some (.inr (.inr 111)), u1, some (.inl v2)] [] h) ∧ (¬ (h.1 (h.2.2.1 111 1) 0) ≤ v2 → J mX11_waxBurnt d 0 0 Q 0 0 14 [some (.inr (.inr 111)), u1, some (.inl v2)] [] h))
  rw [(show h.2.2.1 111 1 = 112 from (hr.at (by decide) (by decide) (by rfl)))]
  exact ⟨(zo hr (by decide) rfl), (zia hr (by decide) (by rfl) g0), k1, k2⟩

theorem bX11_waxBurnt_14 {d : Nat} {Q : Option MV → MH → Prop} {h : MH} {v1 v2 : Int32} (hr : zRf h) (g0 : vp_in ((nI 57) + v2) 2166) (g1 : vp_in v2 8) (g2 : ¬ ((h.1 116 v2.toNatClampNeg).toInt64) = 0) (k : J mX11_waxBurnt d 0 0 Q 0 0 4 [some (.inr (.inr 111)), some (.inl (v1 + (((((h.1 112 ((nI 57) + v2).toNatClampNeg).toInt64) * (((h.1 116 v2.toNatClampNeg) - (h.1 121 v2.toNatClampNeg)).toInt64)) / ((h.1 116 v2.toNatClampNeg).toInt64)).toInt32))), some (.inl (v2 + nI 1))] [] h) : J mX11_waxBurnt d 0 0 Q 0 0 14 [some (.inr (.inr 111)), some (.inl v1), some (.inl v2)] [] h := by
  refine zrun 10 30 qX11_waxBurnt (o := 11) rfl ?_
  show zokO h 111 11 ∧ zokA h (h.2.2.1 111 1) 20 ((nI 57) + v2) ∧ zokO h 111 11 ∧ zokA h (h.2.2.1 111 15) 20 v2 ∧ zokO h 111 11 ∧ zokA h (h.2.2.1 111 20) 20 v2 ∧ zokO h 111 11 ∧ zokA h (h.2.2.1 111 15) 20 v2 ∧ ¬ ((h.1 (h.2.2.1 111 15) v2.toNatClampNeg).toInt64) = 0 ∧ J mX11_waxBurnt d 0 0 Q 0 0 4 [some (.inr (.inr 111)), some (.inl (v1 + (((((h.1 (h.2.2.1 111 1) ((nI 57) + v2).toNatClampNeg).toInt64) * (((h.1 (h.2.2.1 111 15) v2.toNatClampNeg) - (h.1 (h.2.2.1 111 20) v2.toNatClampNeg)).toInt64)) / ((h.1 (h.2.2.1 111 15) v2.toNatClampNeg).toInt64)).toInt32))), some (.inl (v2 + nI 1))] [] h
  rw [(show h.2.2.1 111 1 = 112 from (hr.at (by decide) (by decide) (by rfl))), (show h.2.2.1 111 15 = 116 from (hr.at (by decide) (by decide) (by rfl))), (show h.2.2.1 111 20 = 121 from (hr.at (by decide) (by decide) (by rfl)))]
  exact ⟨(zo hr (by decide) rfl), (zia hr (by decide) (by rfl) g0), (zo hr (by decide) rfl), (zia hr (by decide) (by rfl) g1), (zo hr (by decide) rfl), (zia hr (by decide) (by rfl) g1), (zo hr (by decide) rfl), (zia hr (by decide) (by rfl) g1), g2, k⟩

theorem bX11_waxBurnt_57 {d : Nat} {Q : Option MV → MH → Prop} {h : MH} {u0 u2 : Option MV} {v1 : Int32} (k : Q (some (.inl v1)) h) : J mX11_waxBurnt d 0 0 Q 0 0 57 [u0, some (.inl v1), u2] [] h := by
  refine zrun 40 1 qX11_waxBurnt (o := 11) rfl ?_
  show J mX11_waxBurnt d 0 0 Q 0 0 58 [u0, some (.inl v1), u2] [.inl v1] h
  exact J_iret (ty := .int) (zat qX11_waxBurnt 41 (by rfl)) rfl rfl (Nat.le_refl 0) (Nat.le_refl 0) k

theorem bX11_run_0 {d d' : Nat} {Q : Option MV → MH → Prop} {h : MH} {u2 : Option MV} {v1 : Int32} (hr : zRf h) (hd : d' + 1 ≤ d) (k : Con mX11_isPlan d' 0 0 [.inl v1] (zsI h 111 0 (nI 0)) (zri fun (x : Int32) h' => J mX11_run d 0 0 Q 0 0 9 [some (.inr (.inr 111)), some (.inl v1), u2] [.inl x] h')) : J mX11_run d 0 0 Q 0 0 0 [some (.inr (.inr 111)), some (.inl v1), u2] [] h := by
  refine zrun 0 4 qX11_run (o := 11) rfl ?_
  show zokO h 111 11 ∧ J mX11_run d 0 0 Q 0 0 6 [some (.inr (.inr 111)), some (.inl v1), u2] [.inl v1] (zsI h 111 0 (nI 0))
  exact ⟨(zo hr (by decide) rfl), zcSi (as := [.inl v1]) (zat qX11_run 4 (by rfl)) l11_261 rfl hd rfl (Nat.le_of_ble_eq_true rfl) zle0 k⟩

theorem bX11_run_9 {d : Nat} {Q : Option MV → MH → Prop} {h : MH} {u0 u1 u2 : Option MV} {vs0 : Int32} (k1 : vs0 = 0 → J mX11_run d 0 0 Q 0 0 24 [u0, u1, u2] [] h) (k2 : ¬ vs0 = 0 → J mX11_run d 0 0 Q 0 0 12 [u0, u1, u2] [] h) : J mX11_run d 0 0 Q 0 0 9 [u0, u1, u2] [.inl vs0] h := by
  refine zrun 5 1 qX11_run (o := 11) rfl ?_
  show ((vs0 = 0 → J mX11_run d 0 0 Q 0 0 24 [u0, u1, u2] [] h) ∧ (¬ vs0 = 0 → J mX11_run d 0 0 Q 0 0 12 [u0, u1, u2] [] h))
  exact ⟨k1, k2⟩

theorem bX11_run_12 {d d' : Nat} {Q : Option MV → MH → Prop} {h : MH} {u0 u1 : Option MV} {v2 : Int32} (hd : d' + 1 ≤ d) (k : Con mX11_within d' 0 0 [.inr (.inl v2.toInt64), .inr (.inl (lN 0)), .inr (.inl (4 : Int64))] h (zri fun (x : Int32) h' => J mX11_run d 0 0 Q 0 0 21 [u0, u1, some (.inl v2)] [.inl x] h')) : J mX11_run d 0 0 Q 0 0 12 [u0, u1, some (.inl v2)] [] h := by
  refine zrun 6 4 qX11_run (o := 11) rfl ?_
  show J mX11_run d 0 0 Q 0 0 18 [u0, u1, some (.inl v2)] [.inr (.inl (4 : Int64)), .inr (.inl (lN 0)), .inr (.inl v2.toInt64)] h
  exact zcSi (as := [.inr (.inl v2.toInt64), .inr (.inl (lN 0)), .inr (.inl (4 : Int64))]) (zat qX11_run 10 (by rfl)) l11_178 rfl hd rfl (Nat.le_of_ble_eq_true rfl) zle0 k

theorem bX11_run_21 {d : Nat} {Q : Option MV → MH → Prop} {h : MH} {u0 u1 u2 : Option MV} {vs0 : Int32} (k1 : ¬ vs0 = 0 → J mX11_run d 0 0 Q 0 0 27 [u0, u1, u2] [] h) (k2 : vs0 = 0 → J mX11_run d 0 0 Q 0 0 24 [u0, u1, u2] [] h) : J mX11_run d 0 0 Q 0 0 21 [u0, u1, u2] [.inl vs0] h := by
  refine zrun 11 1 qX11_run (o := 11) rfl ?_
  show ((¬ vs0 = 0 → J mX11_run d 0 0 Q 0 0 27 [u0, u1, u2] [] h) ∧ (vs0 = 0 → J mX11_run d 0 0 Q 0 0 24 [u0, u1, u2] [] h))
  exact ⟨k1, k2⟩

theorem bX11_run_24 {d : Nat} {Q : Option MV → MH → Prop} {h : MH} {u0 u1 u2 : Option MV} (k : Q (some (.inl (-(nI 2)))) h) : J mX11_run d 0 0 Q 0 0 24 [u0, u1, u2] [] h := by
  refine zrun 12 1 qX11_run (o := 11) rfl ?_
  show J mX11_run d 0 0 Q 0 0 26 [u0, u1, u2] [.inl (-(nI 2))] h
  exact J_iret (ty := .int) (zat qX11_run 13 (by rfl)) rfl rfl (Nat.le_refl 0) (Nat.le_refl 0) k

theorem bX11_run_27 {d d' : Nat} {Q : Option MV → MH → Prop} {h : MH} {u1 u2 : Option MV} (hr : zRf h) (hd : d' + 1 ≤ d) (k : Con mX11_asTold d' 0 0 [.inr (.inr 111)] h (zrv fun h' => J mX11_run d 0 0 Q 0 0 31 [some (.inr (.inr 111)), u1, u2] [] h')) : J mX11_run d 0 0 Q 0 0 27 [some (.inr (.inr 111)), u1, u2] [] h := by
  refine zrun 14 1 qX11_run (o := 11) rfl ?_
  show J mX11_run d 0 0 Q 0 0 28 [some (.inr (.inr 111)), u1, u2] [.inr (.inr 111)] h
  exact zcVv (as := []) (zat qX11_run 15 (by rfl)) l11_266 rfl hd rfl (Nat.le_of_ble_eq_true rfl) zle0 (ci := 11) (by decide) rfl (zo hr (by decide) rfl) k

theorem bX11_run_31 {d d' : Nat} {Q : Option MV → MH → Prop} {h : MH} {u2 : Option MV} {v1 : Int32} (hr : zRf h) (hd : d' + 1 ≤ d) (k : Con mX11_runs d' 0 0 [.inr (.inr 111), .inl v1, .inl (-(nI 1))] h (zrv fun h' => J mX11_run d 0 0 Q 0 0 37 [some (.inr (.inr 111)), some (.inl v1), u2] [] h')) : J mX11_run d 0 0 Q 0 0 31 [some (.inr (.inr 111)), some (.inl v1), u2] [] h := by
  refine zrun 16 3 qX11_run (o := 11) rfl ?_
  show J mX11_run d 0 0 Q 0 0 34 [some (.inr (.inr 111)), some (.inl v1), u2] [.inl (-(nI 1)), .inl v1, .inr (.inr 111)] h
  exact zcVv (as := [.inl v1, .inl (-(nI 1))]) (zat qX11_run 19 (by rfl)) l11_269 rfl hd rfl (Nat.le_of_ble_eq_true rfl) zle0 (ci := 11) (by decide) rfl (zo hr (by decide) rfl) k

theorem bX11_run_37 {d : Nat} {Q : Option MV → MH → Prop} {h : MH} {u0 u1 : Option MV} {v2 : Int32} (k1 : ¬ v2 = 0 → J mX11_run d 0 0 Q 0 0 48 [u0, u1, some (.inl v2)] [] h) (k2 : v2 = 0 → J mX11_run d 0 0 Q 0 0 41 [u0, u1, some (.inl v2)] [] h) : J mX11_run d 0 0 Q 0 0 37 [u0, u1, some (.inl v2)] [] h := by
  refine zrun 20 2 qX11_run (o := 11) rfl ?_
  show ((¬ v2 = 0 → J mX11_run d 0 0 Q 0 0 48 [u0, u1, some (.inl v2)] [] h) ∧ (v2 = 0 → J mX11_run d 0 0 Q 0 0 41 [u0, u1, some (.inl v2)] [] h))
  exact ⟨k1, k2⟩

theorem bX11_run_41 {d : Nat} {Q : Option MV → MH → Prop} {h : MH} {u1 u2 : Option MV} (hr : zRf h) (k : J mX11_run d 0 0 Q 0 0 92 [some (.inr (.inr 111)), u1, u2] [.inl (h.1 111 25)] h) : J mX11_run d 0 0 Q 0 0 41 [some (.inr (.inr 111)), u1, u2] [] h := by
  refine zrun 22 3 qX11_run (o := 11) rfl ?_
  show zokO h 111 11 ∧ J mX11_run d 0 0 Q 0 0 92 [some (.inr (.inr 111)), u1, u2] [.inl (h.1 111 25)] h
  exact ⟨(zo hr (by decide) rfl), k⟩

theorem bX11_run_48 {d : Nat} {Q : Option MV → MH → Prop} {h : MH} {u0 u1 : Option MV} {v2 : Int32} (k1 : ¬ v2 = (nI 1) → J mX11_run d 0 0 Q 0 0 64 [u0, u1, some (.inl v2)] [] h) (k2 : v2 = (nI 1) → J mX11_run d 0 0 Q 0 0 53 [u0, u1, some (.inl v2)] [] h) : J mX11_run d 0 0 Q 0 0 48 [u0, u1, some (.inl v2)] [] h := by
  refine zrun 25 3 qX11_run (o := 11) rfl ?_
  show ((¬ v2 = (nI 1) → J mX11_run d 0 0 Q 0 0 64 [u0, u1, some (.inl v2)] [] h) ∧ (v2 = (nI 1) → J mX11_run d 0 0 Q 0 0 53 [u0, u1, some (.inl v2)] [] h))
  exact ⟨k1, k2⟩

theorem bX11_run_53 {d : Nat} {Q : Option MV → MH → Prop} {h : MH} {u1 u2 : Option MV} (hr : zRf h) (k : J mX11_run d 0 0 Q 0 0 92 [some (.inr (.inr 111)), u1, u2] [.inl ((h.1 111 24) / (nI 256))] h) : J mX11_run d 0 0 Q 0 0 53 [some (.inr (.inr 111)), u1, u2] [] h := by
  refine zrun 28 5 qX11_run (o := 11) rfl ?_
  show zokO h 111 11 ∧ ¬ (nI 256) = 0 ∧ J mX11_run d 0 0 Q 0 0 92 [some (.inr (.inr 111)), u1, u2] [.inl ((h.1 111 24) / (nI 256))] h
  exact ⟨(zo hr (by decide) rfl), (by decide), k⟩

theorem bX11_run_64 {d : Nat} {Q : Option MV → MH → Prop} {h : MH} {u0 u1 : Option MV} {v2 : Int32} (k1 : ¬ v2 = (nI 2) → J mX11_run d 0 0 Q 0 0 76 [u0, u1, some (.inl v2)] [] h) (k2 : v2 = (nI 2) → J mX11_run d 0 0 Q 0 0 69 [u0, u1, some (.inl v2)] [] h) : J mX11_run d 0 0 Q 0 0 64 [u0, u1, some (.inl v2)] [] h := by
  refine zrun 33 3 qX11_run (o := 11) rfl ?_
  show ((¬ v2 = (nI 2) → J mX11_run d 0 0 Q 0 0 76 [u0, u1, some (.inl v2)] [] h) ∧ (v2 = (nI 2) → J mX11_run d 0 0 Q 0 0 69 [u0, u1, some (.inl v2)] [] h))
  exact ⟨k1, k2⟩

theorem bX11_run_69 {d : Nat} {Q : Option MV → MH → Prop} {h : MH} {u1 u2 : Option MV} (hr : zRf h) (k : J mX11_run d 0 0 Q 0 0 92 [some (.inr (.inr 111)), u1, u2] [.inl (h.1 111 26)] h) : J mX11_run d 0 0 Q 0 0 69 [some (.inr (.inr 111)), u1, u2] [] h := by
  refine zrun 36 3 qX11_run (o := 11) rfl ?_
  show zokO h 111 11 ∧ J mX11_run d 0 0 Q 0 0 92 [some (.inr (.inr 111)), u1, u2] [.inl (h.1 111 26)] h
  exact ⟨(zo hr (by decide) rfl), k⟩

theorem bX11_run_76 {d : Nat} {Q : Option MV → MH → Prop} {h : MH} {u0 u1 : Option MV} {v2 : Int32} (k1 : ¬ v2 = (nI 3) → J mX11_run d 0 0 Q 0 0 88 [u0, u1, some (.inl v2)] [] h) (k2 : v2 = (nI 3) → J mX11_run d 0 0 Q 0 0 81 [u0, u1, some (.inl v2)] [] h) : J mX11_run d 0 0 Q 0 0 76 [u0, u1, some (.inl v2)] [] h := by
  refine zrun 39 3 qX11_run (o := 11) rfl ?_
  show ((¬ v2 = (nI 3) → J mX11_run d 0 0 Q 0 0 88 [u0, u1, some (.inl v2)] [] h) ∧ (v2 = (nI 3) → J mX11_run d 0 0 Q 0 0 81 [u0, u1, some (.inl v2)] [] h))
  exact ⟨k1, k2⟩

theorem bX11_run_81 {d : Nat} {Q : Option MV → MH → Prop} {h : MH} {u1 u2 : Option MV} (hr : zRf h) (k : J mX11_run d 0 0 Q 0 0 92 [some (.inr (.inr 111)), u1, u2] [.inl (h.1 111 27)] h) : J mX11_run d 0 0 Q 0 0 81 [some (.inr (.inr 111)), u1, u2] [] h := by
  refine zrun 42 3 qX11_run (o := 11) rfl ?_
  show zokO h 111 11 ∧ J mX11_run d 0 0 Q 0 0 92 [some (.inr (.inr 111)), u1, u2] [.inl (h.1 111 27)] h
  exact ⟨(zo hr (by decide) rfl), k⟩

theorem bX11_run_88 {d d' : Nat} {Q : Option MV → MH → Prop} {h : MH} {u1 u2 : Option MV} (hr : zRf h) (hd : d' + 1 ≤ d) (k : Con mX11_waxBurnt d' 0 0 [.inr (.inr 111)] h (zri fun (x : Int32) h' => J mX11_run d 0 0 Q 0 0 92 [some (.inr (.inr 111)), u1, u2] [.inl x] h')) : J mX11_run d 0 0 Q 0 0 88 [some (.inr (.inr 111)), u1, u2] [] h := by
  refine zrun 45 1 qX11_run (o := 11) rfl ?_
  show J mX11_run d 0 0 Q 0 0 89 [some (.inr (.inr 111)), u1, u2] [.inr (.inr 111)] h
  exact zcVi (as := []) (zat qX11_run 46 (by rfl)) l11_272 rfl hd rfl (Nat.le_of_ble_eq_true rfl) zle0 (ci := 11) (by decide) rfl (zo hr (by decide) rfl) k

theorem bX11_run_92 {d : Nat} {Q : Option MV → MH → Prop} {h : MH} {u0 u1 u2 : Option MV} {vs0 : Int32} (k : Q (some (.inl vs0)) h) : J mX11_run d 0 0 Q 0 0 92 [u0, u1, u2] [.inl vs0] h := by
  exact J_iret (ty := .int) (zat qX11_run 47 (by rfl)) rfl rfl (Nat.le_refl 0) (Nat.le_refl 0) k

theorem bX11_bell_0 {d d' : Nat} {Q : Option MV → MH → Prop} {h : MH} {u2 : Option MV} {v1 : Int32} (hr : zRf h) (hd : d' + 1 ≤ d) (k : Con mX11_isPlan d' 0 0 [.inl v1] (zsI h 111 0 (nI 0)) (zri fun (x : Int32) h' => J mX11_bell d 0 0 Q 0 0 9 [some (.inr (.inr 111)), some (.inl v1), u2] [.inl x] h')) : J mX11_bell d 0 0 Q 0 0 0 [some (.inr (.inr 111)), some (.inl v1), u2] [] h := by
  refine zrun 0 4 qX11_bell (o := 11) rfl ?_
  show zokO h 111 11 ∧ J mX11_bell d 0 0 Q 0 0 6 [some (.inr (.inr 111)), some (.inl v1), u2] [.inl v1] (zsI h 111 0 (nI 0))
  exact ⟨(zo hr (by decide) rfl), zcSi (as := [.inl v1]) (zat qX11_bell 4 (by rfl)) l11_261 rfl hd rfl (Nat.le_of_ble_eq_true rfl) zle0 k⟩

theorem bX11_bell_9 {d : Nat} {Q : Option MV → MH → Prop} {h : MH} {u0 u1 u2 : Option MV} {vs0 : Int32} (k1 : ¬ vs0 = 0 → J mX11_bell d 0 0 Q 0 0 15 [u0, u1, u2] [] h) (k2 : vs0 = 0 → J mX11_bell d 0 0 Q 0 0 12 [u0, u1, u2] [] h) : J mX11_bell d 0 0 Q 0 0 9 [u0, u1, u2] [.inl vs0] h := by
  refine zrun 5 1 qX11_bell (o := 11) rfl ?_
  show ((¬ vs0 = 0 → J mX11_bell d 0 0 Q 0 0 15 [u0, u1, u2] [] h) ∧ (vs0 = 0 → J mX11_bell d 0 0 Q 0 0 12 [u0, u1, u2] [] h))
  exact ⟨k1, k2⟩

theorem bX11_bell_12 {d : Nat} {Q : Option MV → MH → Prop} {h : MH} {u0 u1 u2 : Option MV} (k : Q (some (.inl (-(nI 2)))) h) : J mX11_bell d 0 0 Q 0 0 12 [u0, u1, u2] [] h := by
  refine zrun 6 1 qX11_bell (o := 11) rfl ?_
  show J mX11_bell d 0 0 Q 0 0 14 [u0, u1, u2] [.inl (-(nI 2))] h
  exact J_iret (ty := .int) (zat qX11_bell 7 (by rfl)) rfl rfl (Nat.le_refl 0) (Nat.le_refl 0) k

theorem bX11_bell_15 {d d' : Nat} {Q : Option MV → MH → Prop} {h : MH} {u1 u2 : Option MV} (hr : zRf h) (hd : d' + 1 ≤ d) (k : Con mX11_asTold d' 0 0 [.inr (.inr 111)] h (zrv fun h' => J mX11_bell d 0 0 Q 0 0 19 [some (.inr (.inr 111)), u1, u2] [] h')) : J mX11_bell d 0 0 Q 0 0 15 [some (.inr (.inr 111)), u1, u2] [] h := by
  refine zrun 8 1 qX11_bell (o := 11) rfl ?_
  show J mX11_bell d 0 0 Q 0 0 16 [some (.inr (.inr 111)), u1, u2] [.inr (.inr 111)] h
  exact zcVv (as := []) (zat qX11_bell 9 (by rfl)) l11_266 rfl hd rfl (Nat.le_of_ble_eq_true rfl) zle0 (ci := 11) (by decide) rfl (zo hr (by decide) rfl) k

theorem bX11_bell_19 {d d' : Nat} {Q : Option MV → MH → Prop} {h : MH} {u2 : Option MV} {v1 : Int32} (hr : zRf h) (hd : d' + 1 ≤ d) (k : Con mX11_runs d' 0 0 [.inr (.inr 111), .inl v1, .inl (-(nI 1))] h (zrv fun h' => J mX11_bell d 0 0 Q 0 0 25 [some (.inr (.inr 111)), some (.inl v1), u2] [] h')) : J mX11_bell d 0 0 Q 0 0 19 [some (.inr (.inr 111)), some (.inl v1), u2] [] h := by
  refine zrun 10 3 qX11_bell (o := 11) rfl ?_
  show J mX11_bell d 0 0 Q 0 0 22 [some (.inr (.inr 111)), some (.inl v1), u2] [.inl (-(nI 1)), .inl v1, .inr (.inr 111)] h
  exact zcVv (as := [.inl v1, .inl (-(nI 1))]) (zat qX11_bell 13 (by rfl)) l11_269 rfl hd rfl (Nat.le_of_ble_eq_true rfl) zle0 (ci := 11) (by decide) rfl (zo hr (by decide) rfl) k

theorem bX11_bell_25 {d d' : Nat} {Q : Option MV → MH → Prop} {h : MH} {u1 : Option MV} {v2 : Int32} (hr : zRf h) (hd : d' + 1 ≤ d) (k : Con mX11_within d' 0 0 [.inr (.inl v2.toInt64), .inr (.inl (lN 0)), .inr (.inl (((h.1 111 25) - (nI 1)).toInt64))] h (zri fun (x : Int32) h' => J mX11_bell d 0 0 Q 0 0 38 [some (.inr (.inr 111)), u1, some (.inl v2)] [.inl x] h')) : J mX11_bell d 0 0 Q 0 0 25 [some (.inr (.inr 111)), u1, some (.inl v2)] [] h := by
  refine zrun 14 8 qX11_bell (o := 11) rfl ?_
  show zokO h 111 11 ∧ J mX11_bell d 0 0 Q 0 0 35 [some (.inr (.inr 111)), u1, some (.inl v2)] [.inr (.inl (((h.1 111 25) - (nI 1)).toInt64)), .inr (.inl (lN 0)), .inr (.inl v2.toInt64)] h
  exact ⟨(zo hr (by decide) rfl), zcSi (as := [.inr (.inl v2.toInt64), .inr (.inl (lN 0)), .inr (.inl (((h.1 111 25) - (nI 1)).toInt64))]) (zat qX11_bell 22 (by rfl)) l11_178 rfl hd rfl (Nat.le_of_ble_eq_true rfl) zle0 k⟩

theorem bX11_bell_38 {d : Nat} {Q : Option MV → MH → Prop} {h : MH} {u0 u1 u2 : Option MV} {vs0 : Int32} (k1 : vs0 = 0 → J mX11_bell d 0 0 Q 0 0 54 [u0, u1, u2] [] h) (k2 : ¬ vs0 = 0 → J mX11_bell d 0 0 Q 0 0 41 [u0, u1, u2] [] h) : J mX11_bell d 0 0 Q 0 0 38 [u0, u1, u2] [.inl vs0] h := by
  refine zrun 23 1 qX11_bell (o := 11) rfl ?_
  show ((vs0 = 0 → J mX11_bell d 0 0 Q 0 0 54 [u0, u1, u2] [] h) ∧ (¬ vs0 = 0 → J mX11_bell d 0 0 Q 0 0 41 [u0, u1, u2] [] h))
  exact ⟨k1, k2⟩

theorem bX11_bell_41 {d : Nat} {Q : Option MV → MH → Prop} {h : MH} {u1 : Option MV} {v2 : Int32} (hr : zRf h) (g0 : vp_in v2 40) (k : J mX11_bell d 0 0 Q 0 0 55 [some (.inr (.inr 111)), u1, some (.inl v2)] [.inl ((h.1 124 v2.toNatClampNeg) / (nI 256))] h) : J mX11_bell d 0 0 Q 0 0 41 [some (.inr (.inr 111)), u1, some (.inl v2)] [] h := by
  refine zrun 24 7 qX11_bell (o := 11) rfl ?_
  show zokO h 111 11 ∧ zokA h (h.2.2.1 111 23) 20 v2 ∧ ¬ (nI 256) = 0 ∧ J mX11_bell d 0 0 Q 0 0 55 [some (.inr (.inr 111)), u1, some (.inl v2)] [.inl ((h.1 (h.2.2.1 111 23) v2.toNatClampNeg) / (nI 256))] h
  rw [(show h.2.2.1 111 23 = 124 from (hr.at (by decide) (by decide) (by rfl)))]
  exact ⟨(zo hr (by decide) rfl), (zia hr (by decide) (by rfl) g0), (by decide), k⟩

theorem bX11_bell_54 {d : Nat} {Q : Option MV → MH → Prop} {h : MH} {u0 u1 u2 : Option MV} (k : J mX11_bell d 0 0 Q 0 0 55 [u0, u1, u2] [.inl (-(nI 1))] h) : J mX11_bell d 0 0 Q 0 0 54 [u0, u1, u2] [] h := by
  refine zrun 31 1 qX11_bell (o := 11) rfl ?_
  show J mX11_bell d 0 0 Q 0 0 55 [u0, u1, u2] [.inl (-(nI 1))] h
  exact k

theorem bX11_bell_55 {d : Nat} {Q : Option MV → MH → Prop} {h : MH} {u0 u1 u2 : Option MV} {vs0 : Int32} (k : Q (some (.inl vs0)) h) : J mX11_bell d 0 0 Q 0 0 55 [u0, u1, u2] [.inl vs0] h := by
  exact J_iret (ty := .int) (zat qX11_bell 32 (by rfl)) rfl rfl (Nat.le_refl 0) (Nat.le_refl 0) k

theorem bX11_ends_0 {d d' : Nat} {Q : Option MV → MH → Prop} {h : MH} {u2 : Option MV} {v1 : Int32} (hr : zRf h) (hd : d' + 1 ≤ d) (k : Con mX11_isPlan d' 0 0 [.inl v1] (zsI h 111 0 (nI 0)) (zri fun (x : Int32) h' => J mX11_ends d 0 0 Q 0 0 9 [some (.inr (.inr 111)), some (.inl v1), u2] [.inl x] h')) : J mX11_ends d 0 0 Q 0 0 0 [some (.inr (.inr 111)), some (.inl v1), u2] [] h := by
  refine zrun 0 4 qX11_ends (o := 11) rfl ?_
  show zokO h 111 11 ∧ J mX11_ends d 0 0 Q 0 0 6 [some (.inr (.inr 111)), some (.inl v1), u2] [.inl v1] (zsI h 111 0 (nI 0))
  exact ⟨(zo hr (by decide) rfl), zcSi (as := [.inl v1]) (zat qX11_ends 4 (by rfl)) l11_261 rfl hd rfl (Nat.le_of_ble_eq_true rfl) zle0 k⟩

theorem bX11_ends_9 {d : Nat} {Q : Option MV → MH → Prop} {h : MH} {u0 u1 u2 : Option MV} {vs0 : Int32} (k1 : vs0 = 0 → J mX11_ends d 0 0 Q 0 0 20 [u0, u1, u2] [] h) (k2 : ¬ vs0 = 0 → J mX11_ends d 0 0 Q 0 0 12 [u0, u1, u2] [] h) : J mX11_ends d 0 0 Q 0 0 9 [u0, u1, u2] [.inl vs0] h := by
  refine zrun 5 1 qX11_ends (o := 11) rfl ?_
  show ((vs0 = 0 → J mX11_ends d 0 0 Q 0 0 20 [u0, u1, u2] [] h) ∧ (¬ vs0 = 0 → J mX11_ends d 0 0 Q 0 0 12 [u0, u1, u2] [] h))
  exact ⟨k1, k2⟩

theorem bX11_ends_12 {d d' : Nat} {Q : Option MV → MH → Prop} {h : MH} {u1 : Option MV} {v2 : Int32} (hr : zRf h) (hd : d' + 1 ≤ d) (k : Con mX11_isCandle d' 0 0 [.inr (.inr 111), .inl v2] h (zri fun (x : Int32) h' => J mX11_ends d 0 0 Q 0 0 17 [some (.inr (.inr 111)), u1, some (.inl v2)] [.inl x] h')) : J mX11_ends d 0 0 Q 0 0 12 [some (.inr (.inr 111)), u1, some (.inl v2)] [] h := by
  refine zrun 6 2 qX11_ends (o := 11) rfl ?_
  show J mX11_ends d 0 0 Q 0 0 14 [some (.inr (.inr 111)), u1, some (.inl v2)] [.inl v2, .inr (.inr 111)] h
  exact zcVi (as := [.inl v2]) (zat qX11_ends 8 (by rfl)) l11_221 rfl hd rfl (Nat.le_of_ble_eq_true rfl) zle0 (ci := 11) (by decide) rfl (zo hr (by decide) rfl) k

theorem bX11_ends_17 {d : Nat} {Q : Option MV → MH → Prop} {h : MH} {u0 u1 u2 : Option MV} {vs0 : Int32} (k1 : ¬ vs0 = 0 → J mX11_ends d 0 0 Q 0 0 23 [u0, u1, u2] [] h) (k2 : vs0 = 0 → J mX11_ends d 0 0 Q 0 0 20 [u0, u1, u2] [] h) : J mX11_ends d 0 0 Q 0 0 17 [u0, u1, u2] [.inl vs0] h := by
  refine zrun 9 1 qX11_ends (o := 11) rfl ?_
  show ((¬ vs0 = 0 → J mX11_ends d 0 0 Q 0 0 23 [u0, u1, u2] [] h) ∧ (vs0 = 0 → J mX11_ends d 0 0 Q 0 0 20 [u0, u1, u2] [] h))
  exact ⟨k1, k2⟩

theorem bX11_ends_20 {d : Nat} {Q : Option MV → MH → Prop} {h : MH} {u0 u1 u2 : Option MV} (k : Q (some (.inl (-(nI 2)))) h) : J mX11_ends d 0 0 Q 0 0 20 [u0, u1, u2] [] h := by
  refine zrun 10 1 qX11_ends (o := 11) rfl ?_
  show J mX11_ends d 0 0 Q 0 0 22 [u0, u1, u2] [.inl (-(nI 2))] h
  exact J_iret (ty := .int) (zat qX11_ends 11 (by rfl)) rfl rfl (Nat.le_refl 0) (Nat.le_refl 0) k

theorem bX11_ends_23 {d d' : Nat} {Q : Option MV → MH → Prop} {h : MH} {u1 u2 : Option MV} (hr : zRf h) (hd : d' + 1 ≤ d) (k : Con mX11_asTold d' 0 0 [.inr (.inr 111)] h (zrv fun h' => J mX11_ends d 0 0 Q 0 0 27 [some (.inr (.inr 111)), u1, u2] [] h')) : J mX11_ends d 0 0 Q 0 0 23 [some (.inr (.inr 111)), u1, u2] [] h := by
  refine zrun 12 1 qX11_ends (o := 11) rfl ?_
  show J mX11_ends d 0 0 Q 0 0 24 [some (.inr (.inr 111)), u1, u2] [.inr (.inr 111)] h
  exact zcVv (as := []) (zat qX11_ends 13 (by rfl)) l11_266 rfl hd rfl (Nat.le_of_ble_eq_true rfl) zle0 (ci := 11) (by decide) rfl (zo hr (by decide) rfl) k

theorem bX11_ends_27 {d d' : Nat} {Q : Option MV → MH → Prop} {h : MH} {u2 : Option MV} {v1 : Int32} (hr : zRf h) (hd : d' + 1 ≤ d) (k : Con mX11_runs d' 0 0 [.inr (.inr 111), .inl v1, .inl (-(nI 1))] h (zrv fun h' => J mX11_ends d 0 0 Q 0 0 33 [some (.inr (.inr 111)), some (.inl v1), u2] [] h')) : J mX11_ends d 0 0 Q 0 0 27 [some (.inr (.inr 111)), some (.inl v1), u2] [] h := by
  refine zrun 14 3 qX11_ends (o := 11) rfl ?_
  show J mX11_ends d 0 0 Q 0 0 30 [some (.inr (.inr 111)), some (.inl v1), u2] [.inl (-(nI 1)), .inl v1, .inr (.inr 111)] h
  exact zcVv (as := [.inl v1, .inl (-(nI 1))]) (zat qX11_ends 17 (by rfl)) l11_269 rfl hd rfl (Nat.le_of_ble_eq_true rfl) zle0 (ci := 11) (by decide) rfl (zo hr (by decide) rfl) k

theorem bX11_ends_33 {d : Nat} {Q : Option MV → MH → Prop} {h : MH} {u1 : Option MV} {v2 : Int32} (hr : zRf h) (g0 : vp_in v2 8) (k1 : ¬ (h.1 120 v2.toNatClampNeg) = (-(nI 1)) → J mX11_ends d 0 0 Q 0 0 47 [some (.inr (.inr 111)), u1, some (.inl v2)] [] h) (k2 : (h.1 120 v2.toNatClampNeg) = (-(nI 1)) → J mX11_ends d 0 0 Q 0 0 43 [some (.inr (.inr 111)), u1, some (.inl v2)] [] h) : J mX11_ends d 0 0 Q 0 0 33 [some (.inr (.inr 111)), u1, some (.inl v2)] [] h := by
  refine zrun 18 6 qX11_ends (o := 11) rfl ?_
  show zokO h 111 11 ∧ zokA h (h.2.2.1 111 19) 20 v2 ∧ ((¬ (h.1 (h.2.2.1 111 19) v2.toNatClampNeg) = (-(nI 1)) → J mX11_ends d 0 0 Q 0 0 47 [some (.inr (.inr 111)), u1, some (.inl v2)] [] h) ∧ ((h.1 (h.2.2.1 111 19) v2.toNatClampNeg) = (-(nI 1)) → J mX11_ends d 0 0 Q 0 0 43 [some (.inr (.inr 111)), u1, some (.inl v2)] [] h))
  rw [(show h.2.2.1 111 19 = 120 from (hr.at (by decide) (by decide) (by rfl)))]
  exact ⟨(zo hr (by decide) rfl), (zia hr (by decide) (by rfl) g0), k1, k2⟩

theorem bX11_ends_43 {d : Nat} {Q : Option MV → MH → Prop} {h : MH} {u0 u1 u2 : Option MV} (k : J mX11_ends d 0 0 Q 0 0 57 [u0, u1, u2] [.inl (-(nI 1))] h) : J mX11_ends d 0 0 Q 0 0 43 [u0, u1, u2] [] h := by
  refine zrun 24 2 qX11_ends (o := 11) rfl ?_
  show J mX11_ends d 0 0 Q 0 0 57 [u0, u1, u2] [.inl (-(nI 1))] h
  exact k

theorem bX11_ends_47 {d : Nat} {Q : Option MV → MH → Prop} {h : MH} {u1 : Option MV} {v2 : Int32} (hr : zRf h) (g0 : vp_in v2 8) (k : J mX11_ends d 0 0 Q 0 0 57 [some (.inr (.inr 111)), u1, some (.inl v2)] [.inl ((h.1 120 v2.toNatClampNeg) / (nI 256))] h) : J mX11_ends d 0 0 Q 0 0 47 [some (.inr (.inr 111)), u1, some (.inl v2)] [] h := by
  refine zrun 26 6 qX11_ends (o := 11) rfl ?_
  show zokO h 111 11 ∧ zokA h (h.2.2.1 111 19) 20 v2 ∧ ¬ (nI 256) = 0 ∧ J mX11_ends d 0 0 Q 0 0 57 [some (.inr (.inr 111)), u1, some (.inl v2)] [.inl ((h.1 (h.2.2.1 111 19) v2.toNatClampNeg) / (nI 256))] h
  rw [(show h.2.2.1 111 19 = 120 from (hr.at (by decide) (by decide) (by rfl)))]
  exact ⟨(zo hr (by decide) rfl), (zia hr (by decide) (by rfl) g0), (by decide), k⟩

theorem bX11_ends_57 {d : Nat} {Q : Option MV → MH → Prop} {h : MH} {u0 u1 u2 : Option MV} {vs0 : Int32} (k : Q (some (.inl vs0)) h) : J mX11_ends d 0 0 Q 0 0 57 [u0, u1, u2] [.inl vs0] h := by
  exact J_iret (ty := .int) (zat qX11_ends 32 (by rfl)) rfl rfl (Nat.le_refl 0) (Nat.le_refl 0) k

theorem bX11_runsTo_0 {d d' : Nat} {Q : Option MV → MH → Prop} {h : MH} {u1 u2 u3 : Option MV} (hr : zRf h) (hd : d' + 1 ≤ d) (k : Con mX11_asTold d' 0 0 [.inr (.inr 111)] h (zrv fun h' => J mX11_runsTo d 0 0 Q 0 0 4 [some (.inr (.inr 111)), u1, u2, u3] [] h')) : J mX11_runsTo d 0 0 Q 0 0 0 [some (.inr (.inr 111)), u1, u2, u3] [] h := by
  refine zrun 0 1 qX11_runsTo (o := 11) rfl ?_
  show J mX11_runsTo d 0 0 Q 0 0 1 [some (.inr (.inr 111)), u1, u2, u3] [.inr (.inr 111)] h
  exact zcVv (as := []) (zat qX11_runsTo 1 (by rfl)) l11_266 rfl hd rfl (Nat.le_of_ble_eq_true rfl) zle0 (ci := 11) (by decide) rfl (zo hr (by decide) rfl) k

theorem bX11_runsTo_4 {d d' : Nat} {Q : Option MV → MH → Prop} {h : MH} {u2 u3 : Option MV} {v1 : Int32} (hr : zRf h) (hd : d' + 1 ≤ d) (k : Con mX11_runs d' 0 0 [.inr (.inr 111), .inl v1, .inl (-(nI 1))] h (zrv fun h' => J mX11_runsTo d 0 0 Q 0 0 10 [some (.inr (.inr 111)), some (.inl v1), u2, u3] [] h')) : J mX11_runsTo d 0 0 Q 0 0 4 [some (.inr (.inr 111)), some (.inl v1), u2, u3] [] h := by
  refine zrun 2 3 qX11_runsTo (o := 11) rfl ?_
  show J mX11_runsTo d 0 0 Q 0 0 7 [some (.inr (.inr 111)), some (.inl v1), u2, u3] [.inl (-(nI 1)), .inl v1, .inr (.inr 111)] h
  exact zcVv (as := [.inl v1, .inl (-(nI 1))]) (zat qX11_runsTo 5 (by rfl)) l11_269 rfl hd rfl (Nat.le_of_ble_eq_true rfl) zle0 (ci := 11) (by decide) rfl (zo hr (by decide) rfl) k

theorem bX11_runsTo_10 {d : Nat} {Q : Option MV → MH → Prop} {h : MH} {u1 u3 : Option MV} {v2 : Int32} (hr : zRf h) (k1 : ((h.1 111 24) / (nI 256)) ≤ v2 → J mX11_runsTo d 0 0 Q 0 0 34 [some (.inr (.inr 111)), u1, some (.inl v2), some (.inl (h.1 111 24))] [] h) (k2 : ¬ ((h.1 111 24) / (nI 256)) ≤ v2 → J mX11_runsTo d 0 0 Q 0 0 24 [some (.inr (.inr 111)), u1, some (.inl v2), some (.inl (h.1 111 24))] [] h) : J mX11_runsTo d 0 0 Q 0 0 10 [some (.inr (.inr 111)), u1, some (.inl v2), u3] [] h := by
  refine zrun 6 8 qX11_runsTo (o := 11) rfl ?_
  show zokO h 111 11 ∧ ¬ (nI 256) = 0 ∧ ((((h.1 111 24) / (nI 256)) ≤ v2 → J mX11_runsTo d 0 0 Q 0 0 34 [some (.inr (.inr 111)), u1, some (.inl v2), some (.inl (h.1 111 24))] [] h) ∧ (¬ ((h.1 111 24) / (nI 256)) ≤ v2 → J mX11_runsTo d 0 0 Q 0 0 24 [some (.inr (.inr 111)), u1, some (.inl v2), some (.inl (h.1 111 24))] [] h))
  exact ⟨(zo hr (by decide) rfl), (by decide), k1, k2⟩

theorem bX11_runsTo_24 {d d' : Nat} {Q : Option MV → MH → Prop} {h : MH} {u3 : Option MV} {v1 v2 : Int32} (hr : zRf h) (hd : d' + 1 ≤ d) (k : Con mX11_runs d' 0 0 [.inr (.inr 111), .inl v1, .inl (v2 * (nI 256))] h (zrv fun h' => J mX11_runsTo d 0 0 Q 0 0 34 [some (.inr (.inr 111)), some (.inl v1), some (.inl v2), u3] [] h')) : J mX11_runsTo d 0 0 Q 0 0 24 [some (.inr (.inr 111)), some (.inl v1), some (.inl v2), u3] [] h := by
  refine zrun 14 5 qX11_runsTo (o := 11) rfl ?_
  show J mX11_runsTo d 0 0 Q 0 0 31 [some (.inr (.inr 111)), some (.inl v1), some (.inl v2), u3] [.inl (v2 * (nI 256)), .inl v1, .inr (.inr 111)] h
  exact zcVv (as := [.inl v1, .inl (v2 * (nI 256))]) (zat qX11_runsTo 19 (by rfl)) l11_269 rfl hd rfl (Nat.le_of_ble_eq_true rfl) zle0 (ci := 11) (by decide) rfl (zo hr (by decide) rfl) k

theorem bX11_runsTo_34 {d : Nat} {Q : Option MV → MH → Prop} {h : MH} {u0 u1 u2 u3 : Option MV} (k : Q none h) : J mX11_runsTo d 0 0 Q 0 0 34 [u0, u1, u2, u3] [] h := by
  exact J_vret (zat qX11_runsTo 20 (by rfl)) rfl (Nat.le_refl 0) (Nat.le_refl 0) k

theorem bX11_rest_0 {d d' : Nat} {Q : Option MV → MH → Prop} {h : MH} {u2 u3 : Option MV} {v1 : Int32} (hr : zRf h) (hd : d' + 1 ≤ d) (k : Con mX11_isPlan d' 0 0 [.inl v1] (zsI h 111 0 (nI 0)) (zri fun (x : Int32) h' => J mX11_rest d 0 0 Q 0 0 9 [some (.inr (.inr 111)), some (.inl v1), u2, u3] [.inl x] h')) : J mX11_rest d 0 0 Q 0 0 0 [some (.inr (.inr 111)), some (.inl v1), u2, u3] [] h := by
  refine zrun 0 4 qX11_rest (o := 11) rfl ?_
  show zokO h 111 11 ∧ J mX11_rest d 0 0 Q 0 0 6 [some (.inr (.inr 111)), some (.inl v1), u2, u3] [.inl v1] (zsI h 111 0 (nI 0))
  exact ⟨(zo hr (by decide) rfl), zcSi (as := [.inl v1]) (zat qX11_rest 4 (by rfl)) l11_261 rfl hd rfl (Nat.le_of_ble_eq_true rfl) zle0 k⟩

theorem bX11_rest_9 {d : Nat} {Q : Option MV → MH → Prop} {h : MH} {u0 u1 u2 u3 : Option MV} {vs0 : Int32} (k1 : vs0 = 0 → J mX11_rest d 0 0 Q 0 0 20 [u0, u1, u2, u3] [] h) (k2 : ¬ vs0 = 0 → J mX11_rest d 0 0 Q 0 0 12 [u0, u1, u2, u3] [] h) : J mX11_rest d 0 0 Q 0 0 9 [u0, u1, u2, u3] [.inl vs0] h := by
  refine zrun 5 1 qX11_rest (o := 11) rfl ?_
  show ((vs0 = 0 → J mX11_rest d 0 0 Q 0 0 20 [u0, u1, u2, u3] [] h) ∧ (¬ vs0 = 0 → J mX11_rest d 0 0 Q 0 0 12 [u0, u1, u2, u3] [] h))
  exact ⟨k1, k2⟩

theorem bX11_rest_12 {d d' : Nat} {Q : Option MV → MH → Prop} {h : MH} {u1 u3 : Option MV} {v2 : Int32} (hr : zRf h) (hd : d' + 1 ≤ d) (k : Con mX11_isCandle d' 0 0 [.inr (.inr 111), .inl v2] h (zri fun (x : Int32) h' => J mX11_rest d 0 0 Q 0 0 17 [some (.inr (.inr 111)), u1, some (.inl v2), u3] [.inl x] h')) : J mX11_rest d 0 0 Q 0 0 12 [some (.inr (.inr 111)), u1, some (.inl v2), u3] [] h := by
  refine zrun 6 2 qX11_rest (o := 11) rfl ?_
  show J mX11_rest d 0 0 Q 0 0 14 [some (.inr (.inr 111)), u1, some (.inl v2), u3] [.inl v2, .inr (.inr 111)] h
  exact zcVi (as := [.inl v2]) (zat qX11_rest 8 (by rfl)) l11_221 rfl hd rfl (Nat.le_of_ble_eq_true rfl) zle0 (ci := 11) (by decide) rfl (zo hr (by decide) rfl) k

theorem bX11_rest_17 {d : Nat} {Q : Option MV → MH → Prop} {h : MH} {u0 u1 u2 u3 : Option MV} {vs0 : Int32} (k1 : ¬ vs0 = 0 → J mX11_rest d 0 0 Q 0 0 23 [u0, u1, u2, u3] [] h) (k2 : vs0 = 0 → J mX11_rest d 0 0 Q 0 0 20 [u0, u1, u2, u3] [] h) : J mX11_rest d 0 0 Q 0 0 17 [u0, u1, u2, u3] [.inl vs0] h := by
  refine zrun 9 1 qX11_rest (o := 11) rfl ?_
  show ((¬ vs0 = 0 → J mX11_rest d 0 0 Q 0 0 23 [u0, u1, u2, u3] [] h) ∧ (vs0 = 0 → J mX11_rest d 0 0 Q 0 0 20 [u0, u1, u2, u3] [] h))
  exact ⟨k1, k2⟩

theorem bX11_rest_20 {d : Nat} {Q : Option MV → MH → Prop} {h : MH} {u0 u1 u2 u3 : Option MV} (k : Q (some (.inl (-(nI 2)))) h) : J mX11_rest d 0 0 Q 0 0 20 [u0, u1, u2, u3] [] h := by
  refine zrun 10 1 qX11_rest (o := 11) rfl ?_
  show J mX11_rest d 0 0 Q 0 0 22 [u0, u1, u2, u3] [.inl (-(nI 2))] h
  exact J_iret (ty := .int) (zat qX11_rest 11 (by rfl)) rfl rfl (Nat.le_refl 0) (Nat.le_refl 0) k

theorem bX11_rest_23 {d : Nat} {Q : Option MV → MH → Prop} {h : MH} {u0 u1 u2 : Option MV} {v3 : Int32} (k1 : 0 ≤ v3 → J mX11_rest d 0 0 Q 0 0 30 [u0, u1, u2, some (.inl v3)] [] h) (k2 : ¬ 0 ≤ v3 → J mX11_rest d 0 0 Q 0 0 27 [u0, u1, u2, some (.inl v3)] [] h) : J mX11_rest d 0 0 Q 0 0 23 [u0, u1, u2, some (.inl v3)] [] h := by
  refine zrun 12 2 qX11_rest (o := 11) rfl ?_
  show ((0 ≤ v3 → J mX11_rest d 0 0 Q 0 0 30 [u0, u1, u2, some (.inl v3)] [] h) ∧ (¬ 0 ≤ v3 → J mX11_rest d 0 0 Q 0 0 27 [u0, u1, u2, some (.inl v3)] [] h))
  exact ⟨k1, k2⟩

theorem bX11_rest_27 {d : Nat} {Q : Option MV → MH → Prop} {h : MH} {u0 u1 u2 u3 : Option MV} (k : Q (some (.inl (-(nI 3)))) h) : J mX11_rest d 0 0 Q 0 0 27 [u0, u1, u2, u3] [] h := by
  refine zrun 14 1 qX11_rest (o := 11) rfl ?_
  show J mX11_rest d 0 0 Q 0 0 29 [u0, u1, u2, u3] [.inl (-(nI 3))] h
  exact J_iret (ty := .int) (zat qX11_rest 15 (by rfl)) rfl rfl (Nat.le_refl 0) (Nat.le_refl 0) k

theorem bX11_rest_30 {d d' : Nat} {Q : Option MV → MH → Prop} {h : MH} {u2 : Option MV} {v1 v3 : Int32} (hr : zRf h) (hd : d' + 1 ≤ d) (k : Con mX11_runsTo d' 0 0 [.inr (.inr 111), .inl v1, .inl v3] h (zrv fun h' => J mX11_rest d 0 0 Q 0 0 36 [some (.inr (.inr 111)), some (.inl v1), u2, some (.inl v3)] [] h')) : J mX11_rest d 0 0 Q 0 0 30 [some (.inr (.inr 111)), some (.inl v1), u2, some (.inl v3)] [] h := by
  refine zrun 16 3 qX11_rest (o := 11) rfl ?_
  show J mX11_rest d 0 0 Q 0 0 33 [some (.inr (.inr 111)), some (.inl v1), u2, some (.inl v3)] [.inl v3, .inl v1, .inr (.inr 111)] h
  exact zcVv (as := [.inl v1, .inl v3]) (zat qX11_rest 19 (by rfl)) l11_275 rfl hd rfl (Nat.le_of_ble_eq_true rfl) zle0 (ci := 11) (by decide) rfl (zo hr (by decide) rfl) k

theorem bX11_rest_36 {d : Nat} {Q : Option MV → MH → Prop} {h : MH} {u1 u3 : Option MV} {v2 : Int32} (hr : zRf h) (g0 : vp_in v2 8) (k : Q (some (.inl ((h.1 117 v2.toNatClampNeg) / (nI 256)))) h) : J mX11_rest d 0 0 Q 0 0 36 [some (.inr (.inr 111)), u1, some (.inl v2), u3] [] h := by
  refine zrun 20 6 qX11_rest (o := 11) rfl ?_
  show zokO h 111 11 ∧ zokA h (h.2.2.1 111 16) 20 v2 ∧ ¬ (nI 256) = 0 ∧ J mX11_rest d 0 0 Q 0 0 46 [some (.inr (.inr 111)), u1, some (.inl v2), u3] [.inl ((h.1 (h.2.2.1 111 16) v2.toNatClampNeg) / (nI 256))] h
  rw [(show h.2.2.1 111 16 = 117 from (hr.at (by decide) (by decide) (by rfl)))]
  exact ⟨(zo hr (by decide) rfl), (zia hr (by decide) (by rfl) g0), (by decide), J_iret (ty := .int) (zat qX11_rest 26 (by rfl)) rfl rfl (Nat.le_refl 0) (Nat.le_refl 0) k⟩

theorem bX11_flames_0 {d d' : Nat} {Q : Option MV → MH → Prop} {h : MH} {u2 u3 : Option MV} {v1 : Int32} (hr : zRf h) (hd : d' + 1 ≤ d) (k : Con mX11_isPlan d' 0 0 [.inl v1] (zsI h 111 0 (nI 0)) (zri fun (x : Int32) h' => J mX11_flames d 0 0 Q 0 0 9 [some (.inr (.inr 111)), some (.inl v1), u2, u3] [.inl x] h')) : J mX11_flames d 0 0 Q 0 0 0 [some (.inr (.inr 111)), some (.inl v1), u2, u3] [] h := by
  refine zrun 0 4 qX11_flames (o := 11) rfl ?_
  show zokO h 111 11 ∧ J mX11_flames d 0 0 Q 0 0 6 [some (.inr (.inr 111)), some (.inl v1), u2, u3] [.inl v1] (zsI h 111 0 (nI 0))
  exact ⟨(zo hr (by decide) rfl), zcSi (as := [.inl v1]) (zat qX11_flames 4 (by rfl)) l11_261 rfl hd rfl (Nat.le_of_ble_eq_true rfl) zle0 k⟩

theorem bX11_flames_9 {d : Nat} {Q : Option MV → MH → Prop} {h : MH} {u0 u1 u2 u3 : Option MV} {vs0 : Int32} (k1 : vs0 = 0 → J mX11_flames d 0 0 Q 0 0 20 [u0, u1, u2, u3] [] h) (k2 : ¬ vs0 = 0 → J mX11_flames d 0 0 Q 0 0 12 [u0, u1, u2, u3] [] h) : J mX11_flames d 0 0 Q 0 0 9 [u0, u1, u2, u3] [.inl vs0] h := by
  refine zrun 5 1 qX11_flames (o := 11) rfl ?_
  show ((vs0 = 0 → J mX11_flames d 0 0 Q 0 0 20 [u0, u1, u2, u3] [] h) ∧ (¬ vs0 = 0 → J mX11_flames d 0 0 Q 0 0 12 [u0, u1, u2, u3] [] h))
  exact ⟨k1, k2⟩

theorem bX11_flames_12 {d d' : Nat} {Q : Option MV → MH → Prop} {h : MH} {u1 u3 : Option MV} {v2 : Int32} (hr : zRf h) (hd : d' + 1 ≤ d) (k : Con mX11_isCandle d' 0 0 [.inr (.inr 111), .inl v2] h (zri fun (x : Int32) h' => J mX11_flames d 0 0 Q 0 0 17 [some (.inr (.inr 111)), u1, some (.inl v2), u3] [.inl x] h')) : J mX11_flames d 0 0 Q 0 0 12 [some (.inr (.inr 111)), u1, some (.inl v2), u3] [] h := by
  refine zrun 6 2 qX11_flames (o := 11) rfl ?_
  show J mX11_flames d 0 0 Q 0 0 14 [some (.inr (.inr 111)), u1, some (.inl v2), u3] [.inl v2, .inr (.inr 111)] h
  exact zcVi (as := [.inl v2]) (zat qX11_flames 8 (by rfl)) l11_221 rfl hd rfl (Nat.le_of_ble_eq_true rfl) zle0 (ci := 11) (by decide) rfl (zo hr (by decide) rfl) k

theorem bX11_flames_17 {d : Nat} {Q : Option MV → MH → Prop} {h : MH} {u0 u1 u2 u3 : Option MV} {vs0 : Int32} (k1 : ¬ vs0 = 0 → J mX11_flames d 0 0 Q 0 0 23 [u0, u1, u2, u3] [] h) (k2 : vs0 = 0 → J mX11_flames d 0 0 Q 0 0 20 [u0, u1, u2, u3] [] h) : J mX11_flames d 0 0 Q 0 0 17 [u0, u1, u2, u3] [.inl vs0] h := by
  refine zrun 9 1 qX11_flames (o := 11) rfl ?_
  show ((¬ vs0 = 0 → J mX11_flames d 0 0 Q 0 0 23 [u0, u1, u2, u3] [] h) ∧ (vs0 = 0 → J mX11_flames d 0 0 Q 0 0 20 [u0, u1, u2, u3] [] h))
  exact ⟨k1, k2⟩

theorem bX11_flames_20 {d : Nat} {Q : Option MV → MH → Prop} {h : MH} {u0 u1 u2 u3 : Option MV} (k : Q (some (.inl (-(nI 2)))) h) : J mX11_flames d 0 0 Q 0 0 20 [u0, u1, u2, u3] [] h := by
  refine zrun 10 1 qX11_flames (o := 11) rfl ?_
  show J mX11_flames d 0 0 Q 0 0 22 [u0, u1, u2, u3] [.inl (-(nI 2))] h
  exact J_iret (ty := .int) (zat qX11_flames 11 (by rfl)) rfl rfl (Nat.le_refl 0) (Nat.le_refl 0) k

theorem bX11_flames_23 {d : Nat} {Q : Option MV → MH → Prop} {h : MH} {u0 u1 u2 : Option MV} {v3 : Int32} (k1 : 0 ≤ v3 → J mX11_flames d 0 0 Q 0 0 30 [u0, u1, u2, some (.inl v3)] [] h) (k2 : ¬ 0 ≤ v3 → J mX11_flames d 0 0 Q 0 0 27 [u0, u1, u2, some (.inl v3)] [] h) : J mX11_flames d 0 0 Q 0 0 23 [u0, u1, u2, some (.inl v3)] [] h := by
  refine zrun 12 2 qX11_flames (o := 11) rfl ?_
  show ((0 ≤ v3 → J mX11_flames d 0 0 Q 0 0 30 [u0, u1, u2, some (.inl v3)] [] h) ∧ (¬ 0 ≤ v3 → J mX11_flames d 0 0 Q 0 0 27 [u0, u1, u2, some (.inl v3)] [] h))
  exact ⟨k1, k2⟩

theorem bX11_flames_27 {d : Nat} {Q : Option MV → MH → Prop} {h : MH} {u0 u1 u2 u3 : Option MV} (k : Q (some (.inl (-(nI 3)))) h) : J mX11_flames d 0 0 Q 0 0 27 [u0, u1, u2, u3] [] h := by
  refine zrun 14 1 qX11_flames (o := 11) rfl ?_
  show J mX11_flames d 0 0 Q 0 0 29 [u0, u1, u2, u3] [.inl (-(nI 3))] h
  exact J_iret (ty := .int) (zat qX11_flames 15 (by rfl)) rfl rfl (Nat.le_refl 0) (Nat.le_refl 0) k

theorem bX11_flames_30 {d d' : Nat} {Q : Option MV → MH → Prop} {h : MH} {u2 : Option MV} {v1 v3 : Int32} (hr : zRf h) (hd : d' + 1 ≤ d) (k : Con mX11_runsTo d' 0 0 [.inr (.inr 111), .inl v1, .inl v3] h (zrv fun h' => J mX11_flames d 0 0 Q 0 0 36 [some (.inr (.inr 111)), some (.inl v1), u2, some (.inl v3)] [] h')) : J mX11_flames d 0 0 Q 0 0 30 [some (.inr (.inr 111)), some (.inl v1), u2, some (.inl v3)] [] h := by
  refine zrun 16 3 qX11_flames (o := 11) rfl ?_
  show J mX11_flames d 0 0 Q 0 0 33 [some (.inr (.inr 111)), some (.inl v1), u2, some (.inl v3)] [.inl v3, .inl v1, .inr (.inr 111)] h
  exact zcVv (as := [.inl v1, .inl v3]) (zat qX11_flames 19 (by rfl)) l11_275 rfl hd rfl (Nat.le_of_ble_eq_true rfl) zle0 (ci := 11) (by decide) rfl (zo hr (by decide) rfl) k

theorem bX11_flames_36 {d : Nat} {Q : Option MV → MH → Prop} {h : MH} {u1 u3 : Option MV} {v2 : Int32} (hr : zRf h) (g0 : vp_in v2 8) (k : Q (some (.inl (h.1 118 v2.toNatClampNeg))) h) : J mX11_flames d 0 0 Q 0 0 36 [some (.inr (.inr 111)), u1, some (.inl v2), u3] [] h := by
  refine zrun 20 4 qX11_flames (o := 11) rfl ?_
  show zokO h 111 11 ∧ zokA h (h.2.2.1 111 17) 20 v2 ∧ J mX11_flames d 0 0 Q 0 0 42 [some (.inr (.inr 111)), u1, some (.inl v2), u3] [.inl (h.1 (h.2.2.1 111 17) v2.toNatClampNeg)] h
  rw [(show h.2.2.1 111 17 = 118 from (hr.at (by decide) (by decide) (by rfl)))]
  exact ⟨(zo hr (by decide) rfl), (zia hr (by decide) (by rfl) g0), J_iret (ty := .int) (zat qX11_flames 24 (by rfl)) rfl rfl (Nat.le_refl 0) (Nat.le_refl 0) k⟩

theorem bX11_idle_0 {d d' : Nat} {Q : Option MV → MH → Prop} {h : MH} {v1 : Int32} (hr : zRf h) (hd : d' + 1 ≤ d) (k : Con mX11_isPlan d' 0 0 [.inl v1] (zsI h 111 0 (nI 0)) (zri fun (x : Int32) h' => J mX11_idle d 0 0 Q 0 0 9 [some (.inr (.inr 111)), some (.inl v1)] [.inl x] h')) : J mX11_idle d 0 0 Q 0 0 0 [some (.inr (.inr 111)), some (.inl v1)] [] h := by
  refine zrun 0 4 qX11_idle (o := 11) rfl ?_
  show zokO h 111 11 ∧ J mX11_idle d 0 0 Q 0 0 6 [some (.inr (.inr 111)), some (.inl v1)] [.inl v1] (zsI h 111 0 (nI 0))
  exact ⟨(zo hr (by decide) rfl), zcSi (as := [.inl v1]) (zat qX11_idle 4 (by rfl)) l11_261 rfl hd rfl (Nat.le_of_ble_eq_true rfl) zle0 k⟩

theorem bX11_idle_9 {d : Nat} {Q : Option MV → MH → Prop} {h : MH} {u0 u1 : Option MV} {vs0 : Int32} (k1 : ¬ vs0 = 0 → J mX11_idle d 0 0 Q 0 0 15 [u0, u1] [] h) (k2 : vs0 = 0 → J mX11_idle d 0 0 Q 0 0 12 [u0, u1] [] h) : J mX11_idle d 0 0 Q 0 0 9 [u0, u1] [.inl vs0] h := by
  refine zrun 5 1 qX11_idle (o := 11) rfl ?_
  show ((¬ vs0 = 0 → J mX11_idle d 0 0 Q 0 0 15 [u0, u1] [] h) ∧ (vs0 = 0 → J mX11_idle d 0 0 Q 0 0 12 [u0, u1] [] h))
  exact ⟨k1, k2⟩

theorem bX11_idle_12 {d : Nat} {Q : Option MV → MH → Prop} {h : MH} {u0 u1 : Option MV} (k : Q (some (.inl (-(nI 2)))) h) : J mX11_idle d 0 0 Q 0 0 12 [u0, u1] [] h := by
  refine zrun 6 1 qX11_idle (o := 11) rfl ?_
  show J mX11_idle d 0 0 Q 0 0 14 [u0, u1] [.inl (-(nI 2))] h
  exact J_iret (ty := .int) (zat qX11_idle 7 (by rfl)) rfl rfl (Nat.le_refl 0) (Nat.le_refl 0) k

theorem bX11_idle_15 {d d' : Nat} {Q : Option MV → MH → Prop} {h : MH} {u1 : Option MV} (hr : zRf h) (hd : d' + 1 ≤ d) (k : Con mX11_asTold d' 0 0 [.inr (.inr 111)] h (zrv fun h' => J mX11_idle d 0 0 Q 0 0 19 [some (.inr (.inr 111)), u1] [] h')) : J mX11_idle d 0 0 Q 0 0 15 [some (.inr (.inr 111)), u1] [] h := by
  refine zrun 8 1 qX11_idle (o := 11) rfl ?_
  show J mX11_idle d 0 0 Q 0 0 16 [some (.inr (.inr 111)), u1] [.inr (.inr 111)] h
  exact zcVv (as := []) (zat qX11_idle 9 (by rfl)) l11_266 rfl hd rfl (Nat.le_of_ble_eq_true rfl) zle0 (ci := 11) (by decide) rfl (zo hr (by decide) rfl) k

theorem bX11_idle_19 {d d' : Nat} {Q : Option MV → MH → Prop} {h : MH} {v1 : Int32} (hr : zRf h) (hd : d' + 1 ≤ d) (k : Con mX11_runs d' 0 0 [.inr (.inr 111), .inl v1, .inl (-(nI 1))] h (zrv fun h' => J mX11_idle d 0 0 Q 0 0 25 [some (.inr (.inr 111)), some (.inl v1)] [] h')) : J mX11_idle d 0 0 Q 0 0 19 [some (.inr (.inr 111)), some (.inl v1)] [] h := by
  refine zrun 10 3 qX11_idle (o := 11) rfl ?_
  show J mX11_idle d 0 0 Q 0 0 22 [some (.inr (.inr 111)), some (.inl v1)] [.inl (-(nI 1)), .inl v1, .inr (.inr 111)] h
  exact zcVv (as := [.inl v1, .inl (-(nI 1))]) (zat qX11_idle 13 (by rfl)) l11_269 rfl hd rfl (Nat.le_of_ble_eq_true rfl) zle0 (ci := 11) (by decide) rfl (zo hr (by decide) rfl) k

theorem bX11_idle_25 {d d' : Nat} {Q : Option MV → MH → Prop} {h : MH} {v1 : Int32} (hr : zRf h) (hd : d' + 1 ≤ d) (k : Con mX11_planAt d' 0 0 [.inl v1] h (zri fun (x : Int32) h' => J mX11_idle d 0 0 Q 0 0 42 [some (.inr (.inr 111)), some (.inl v1)] [.inl x, .inl (nI 74), .inr (.inr 112), .inl (nI 1), .inl ((h.1 111 29) ^^^ (-(nI 1)))] h')) : J mX11_idle d 0 0 Q 0 0 25 [some (.inr (.inr 111)), some (.inl v1)] [] h := by
  refine zrun 14 9 qX11_idle (o := 11) rfl ?_
  show zokO h 111 11 ∧ zokO h 111 11 ∧ J mX11_idle d 0 0 Q 0 0 39 [some (.inr (.inr 111)), some (.inl v1)] [.inl v1, .inl (nI 74), .inr (.inr (h.2.2.1 111 1)), .inl (nI 1), .inl ((h.1 111 29) ^^^ (-(nI 1)))] h
  rw [(show h.2.2.1 111 1 = 112 from (hr.at (by decide) (by decide) (by rfl)))]
  exact ⟨(zo hr (by decide) rfl), (zo hr (by decide) rfl), zcSi (as := [.inl v1]) (zat qX11_idle 23 (by rfl)) l11_215 rfl hd rfl (Nat.le_of_ble_eq_true rfl) zle0 k⟩

theorem bX11_idle_42 {d : Nat} {Q : Option MV → MH → Prop} {h : MH} {u0 u1 : Option MV} {vs0 vs1 vs3 vs4 : Int32} {vs2 : Nat} (g0 : zokA h vs2 20 (vs3 + vs4)) (k : Q (some (.inl (vs0 &&& ((vs1 <<< ((h.1 vs2 (vs3 + vs4).toNatClampNeg) &&& 31)) - (nI 1))))) h) : J mX11_idle d 0 0 Q 0 0 42 [u0, u1] [.inl vs4, .inl vs3, .inr (.inr vs2), .inl vs1, .inl vs0] h := by
  refine zrun 24 6 qX11_idle (o := 11) rfl ?_
  show zokA h vs2 20 (vs3 + vs4) ∧ J mX11_idle d 0 0 Q 0 0 48 [u0, u1] [.inl (vs0 &&& ((vs1 <<< ((h.1 vs2 (vs3 + vs4).toNatClampNeg) &&& 31)) - (nI 1)))] h
  exact ⟨g0, J_iret (ty := .int) (zat qX11_idle 30 (by rfl)) rfl rfl (Nat.le_refl 0) (Nat.le_refl 0) k⟩

theorem bX11_vain_0 {d d' : Nat} {Q : Option MV → MH → Prop} {h : MH} {u2 u3 u4 : Option MV} {v1 : Int32} (hr : zRf h) (hd : d' + 1 ≤ d) (k : Con mX11_isPlan d' 0 0 [.inl v1] (zsI h 111 0 (nI 0)) (zri fun (x : Int32) h' => J mX11_vain d 0 0 Q 0 0 9 [some (.inr (.inr 111)), some (.inl v1), u2, u3, u4] [.inl x] h')) : J mX11_vain d 0 0 Q 0 0 0 [some (.inr (.inr 111)), some (.inl v1), u2, u3, u4] [] h := by
  refine zrun 0 4 qX11_vain (o := 11) rfl ?_
  show zokO h 111 11 ∧ J mX11_vain d 0 0 Q 0 0 6 [some (.inr (.inr 111)), some (.inl v1), u2, u3, u4] [.inl v1] (zsI h 111 0 (nI 0))
  exact ⟨(zo hr (by decide) rfl), zcSi (as := [.inl v1]) (zat qX11_vain 4 (by rfl)) l11_261 rfl hd rfl (Nat.le_of_ble_eq_true rfl) zle0 k⟩

theorem bX11_vain_9 {d : Nat} {Q : Option MV → MH → Prop} {h : MH} {u0 u1 u2 u3 u4 : Option MV} {vs0 : Int32} (k1 : ¬ vs0 = 0 → J mX11_vain d 0 0 Q 0 0 15 [u0, u1, u2, u3, u4] [] h) (k2 : vs0 = 0 → J mX11_vain d 0 0 Q 0 0 12 [u0, u1, u2, u3, u4] [] h) : J mX11_vain d 0 0 Q 0 0 9 [u0, u1, u2, u3, u4] [.inl vs0] h := by
  refine zrun 5 1 qX11_vain (o := 11) rfl ?_
  show ((¬ vs0 = 0 → J mX11_vain d 0 0 Q 0 0 15 [u0, u1, u2, u3, u4] [] h) ∧ (vs0 = 0 → J mX11_vain d 0 0 Q 0 0 12 [u0, u1, u2, u3, u4] [] h))
  exact ⟨k1, k2⟩

theorem bX11_vain_12 {d : Nat} {Q : Option MV → MH → Prop} {h : MH} {u0 u1 u2 u3 u4 : Option MV} (k : Q (some (.inl (-(nI 2)))) h) : J mX11_vain d 0 0 Q 0 0 12 [u0, u1, u2, u3, u4] [] h := by
  refine zrun 6 1 qX11_vain (o := 11) rfl ?_
  show J mX11_vain d 0 0 Q 0 0 14 [u0, u1, u2, u3, u4] [.inl (-(nI 2))] h
  exact J_iret (ty := .int) (zat qX11_vain 7 (by rfl)) rfl rfl (Nat.le_refl 0) (Nat.le_refl 0) k

theorem bX11_vain_15 {d d' : Nat} {Q : Option MV → MH → Prop} {h : MH} {u1 u2 u3 u4 : Option MV} (hr : zRf h) (hd : d' + 1 ≤ d) (k : Con mX11_asTold d' 0 0 [.inr (.inr 111)] h (zrv fun h' => J mX11_vain d 0 0 Q 0 0 19 [some (.inr (.inr 111)), u1, u2, u3, u4] [] h')) : J mX11_vain d 0 0 Q 0 0 15 [some (.inr (.inr 111)), u1, u2, u3, u4] [] h := by
  refine zrun 8 1 qX11_vain (o := 11) rfl ?_
  show J mX11_vain d 0 0 Q 0 0 16 [some (.inr (.inr 111)), u1, u2, u3, u4] [.inr (.inr 111)] h
  exact zcVv (as := []) (zat qX11_vain 9 (by rfl)) l11_266 rfl hd rfl (Nat.le_of_ble_eq_true rfl) zle0 (ci := 11) (by decide) rfl (zo hr (by decide) rfl) k

theorem bX11_vain_19 {d d' : Nat} {Q : Option MV → MH → Prop} {h : MH} {u2 u3 u4 : Option MV} {v1 : Int32} (hr : zRf h) (hd : d' + 1 ≤ d) (k : Con mX11_runs d' 0 0 [.inr (.inr 111), .inl v1, .inl (-(nI 1))] h (zrv fun h' => J mX11_vain d 0 0 Q 0 0 25 [some (.inr (.inr 111)), some (.inl v1), u2, u3, u4] [] h')) : J mX11_vain d 0 0 Q 0 0 19 [some (.inr (.inr 111)), some (.inl v1), u2, u3, u4] [] h := by
  refine zrun 10 3 qX11_vain (o := 11) rfl ?_
  show J mX11_vain d 0 0 Q 0 0 22 [some (.inr (.inr 111)), some (.inl v1), u2, u3, u4] [.inl (-(nI 1)), .inl v1, .inr (.inr 111)] h
  exact zcVv (as := [.inl v1, .inl (-(nI 1))]) (zat qX11_vain 13 (by rfl)) l11_269 rfl hd rfl (Nat.le_of_ble_eq_true rfl) zle0 (ci := 11) (by decide) rfl (zo hr (by decide) rfl) k

theorem bX11_vain_25 {d : Nat} {Q : Option MV → MH → Prop} {h : MH} {u0 u1 u3 u4 : Option MV} {v2 : Int32} (k : J mX11_vain d 0 0 Q 0 0 30 [u0, u1, some (.inl v2), some (.inl (nI 0)), some (.inl (nI 0))] [] h) : J mX11_vain d 0 0 Q 0 0 25 [u0, u1, some (.inl v2), u3, u4] [] h := by
  refine zrun 14 4 qX11_vain (o := 11) rfl ?_
  show J mX11_vain d 0 0 Q 0 0 30 [u0, u1, some (.inl v2), some (.inl (nI 0)), some (.inl (nI 0))] [] h
  exact k

theorem bX11_vain_30 {d d' : Nat} {Q : Option MV → MH → Prop} {h : MH} {u2 u3 : Option MV} {v4 v1 : Int32} (hr : zRf h) (hd : d' + 1 ≤ d) (k : Con mX11_planAt d' 0 0 [.inl v1] h (zri fun (x : Int32) h' => J mX11_vain d 0 0 Q 0 0 42 [some (.inr (.inr 111)), some (.inl v1), u2, u3, some (.inl v4)] [.inl x, .inl (nI 75), .inr (.inr 112), .inl v4] h')) : J mX11_vain d 0 0 Q 0 0 30 [some (.inr (.inr 111)), some (.inl v1), u2, u3, some (.inl v4)] [] h := by
  refine zrun 18 5 qX11_vain (o := 11) rfl ?_
  show zokO h 111 11 ∧ J mX11_vain d 0 0 Q 0 0 39 [some (.inr (.inr 111)), some (.inl v1), u2, u3, some (.inl v4)] [.inl v1, .inl (nI 75), .inr (.inr (h.2.2.1 111 1)), .inl v4] h
  rw [(show h.2.2.1 111 1 = 112 from (hr.at (by decide) (by decide) (by rfl)))]
  exact ⟨(zo hr (by decide) rfl), zcSi (as := [.inl v1]) (zat qX11_vain 23 (by rfl)) l11_215 rfl hd rfl (Nat.le_of_ble_eq_true rfl) zle0 k⟩

theorem bX11_vain_42 {d : Nat} {Q : Option MV → MH → Prop} {h : MH} {u0 u1 u2 u3 u4 : Option MV} {vs0 vs2 vs3 : Int32} {vs1 : Nat} (g0 : zokA h vs1 20 (vs2 + vs3)) (k1 : (h.1 vs1 (vs2 + vs3).toNatClampNeg) ≤ vs0 → J mX11_vain d 0 0 Q 0 0 77 [u0, u1, u2, u3, u4] [] h) (k2 : ¬ (h.1 vs1 (vs2 + vs3).toNatClampNeg) ≤ vs0 → J mX11_vain d 0 0 Q 0 0 47 [u0, u1, u2, u3, u4] [] h) : J mX11_vain d 0 0 Q 0 0 42 [u0, u1, u2, u3, u4] [.inl vs3, .inl vs2, .inr (.inr vs1), .inl vs0] h := by
  refine zrun 24 3 qX11_vain (o := 11) rfl ?_
  show zokA h vs1 20 (vs2 + vs3) ∧ (((h.1 vs1 (vs2 + vs3).toNatClampNeg) ≤ vs0 → J mX11_vain d 0 0 Q 0 0 77 [u0, u1, u2, u3, u4] [] h) ∧ (¬ (h.1 vs1 (vs2 + vs3).toNatClampNeg) ≤ vs0 → J mX11_vain d 0 0 Q 0 0 47 [u0, u1, u2, u3, u4] [] h))
  exact ⟨g0, k1, k2⟩

theorem bX11_vain_47 {d : Nat} {Q : Option MV → MH → Prop} {h : MH} {u1 u2 u3 : Option MV} {v4 : Int32} (hr : zRf h) (g0 : vp_in v4 40) (k1 : ¬ (h.1 125 v4.toNatClampNeg) = 0 → J mX11_vain d 0 0 Q 0 0 60 [some (.inr (.inr 111)), u1, u2, u3, some (.inl v4)] [] h) (k2 : (h.1 125 v4.toNatClampNeg) = 0 → J mX11_vain d 0 0 Q 0 0 57 [some (.inr (.inr 111)), u1, u2, u3, some (.inl v4)] [] h) : J mX11_vain d 0 0 Q 0 0 47 [some (.inr (.inr 111)), u1, u2, u3, some (.inl v4)] [] h := by
  refine zrun 27 5 qX11_vain (o := 11) rfl ?_
  show zokO h 111 11 ∧ zokA h (h.2.2.1 111 30) 22 v4 ∧ ((¬ (h.1 (h.2.2.1 111 30) v4.toNatClampNeg) = 0 → J mX11_vain d 0 0 Q 0 0 60 [some (.inr (.inr 111)), u1, u2, u3, some (.inl v4)] [] h) ∧ ((h.1 (h.2.2.1 111 30) v4.toNatClampNeg) = 0 → J mX11_vain d 0 0 Q 0 0 57 [some (.inr (.inr 111)), u1, u2, u3, some (.inl v4)] [] h))
  rw [(show h.2.2.1 111 30 = 125 from (hr.at (by decide) (by decide) (by rfl)))]
  exact ⟨(zo hr (by decide) rfl), (zia hr (by decide) (by rfl) g0), k1, k2⟩

theorem bX11_vain_57 {d : Nat} {Q : Option MV → MH → Prop} {h : MH} {u0 u1 u2 u3 u4 : Option MV} (k : J mX11_vain d 0 0 Q 0 0 71 [u0, u1, u2, u3, u4] [] h) : J mX11_vain d 0 0 Q 0 0 57 [u0, u1, u2, u3, u4] [] h := by
  refine zrun 32 1 qX11_vain (o := 11) rfl ?_
  show J mX11_vain d 0 0 Q 0 0 71 [u0, u1, u2, u3, u4] [] h
  exact k

theorem bX11_vain_60 {d : Nat} {Q : Option MV → MH → Prop} {h : MH} {u0 u1 u4 : Option MV} {v3 v2 : Int32} (k1 : ¬ v3 = v2 → J mX11_vain d 0 0 Q 0 0 68 [u0, u1, some (.inl v2), some (.inl v3), u4] [] h) (k2 : v3 = v2 → J mX11_vain d 0 0 Q 0 0 65 [u0, u1, some (.inl v2), some (.inl v3), u4] [] h) : J mX11_vain d 0 0 Q 0 0 60 [u0, u1, some (.inl v2), some (.inl v3), u4] [] h := by
  refine zrun 33 3 qX11_vain (o := 11) rfl ?_
  show ((¬ v3 = v2 → J mX11_vain d 0 0 Q 0 0 68 [u0, u1, some (.inl v2), some (.inl v3), u4] [] h) ∧ (v3 = v2 → J mX11_vain d 0 0 Q 0 0 65 [u0, u1, some (.inl v2), some (.inl v3), u4] [] h))
  exact ⟨k1, k2⟩

theorem bX11_vain_65 {d : Nat} {Q : Option MV → MH → Prop} {h : MH} {u0 u1 u2 u3 : Option MV} {v4 : Int32} (k : Q (some (.inl v4)) h) : J mX11_vain d 0 0 Q 0 0 65 [u0, u1, u2, u3, some (.inl v4)] [] h := by
  refine zrun 36 1 qX11_vain (o := 11) rfl ?_
  show J mX11_vain d 0 0 Q 0 0 67 [u0, u1, u2, u3, some (.inl v4)] [.inl v4] h
  exact J_iret (ty := .int) (zat qX11_vain 37 (by rfl)) rfl rfl (Nat.le_refl 0) (Nat.le_refl 0) k

theorem bX11_vain_68 {d : Nat} {Q : Option MV → MH → Prop} {h : MH} {u0 u1 u4 : Option MV} {v3 v2 : Int32} (k : J mX11_vain d 0 0 Q 0 0 71 [u0, u1, some (.inl v2), some (.inl (v3 + nI 1)), u4] [] h) : J mX11_vain d 0 0 Q 0 0 68 [u0, u1, some (.inl v2), some (.inl v3), u4] [] h := by
  refine zrun 38 1 qX11_vain (o := 11) rfl ?_
  show J mX11_vain d 0 0 Q 0 0 71 [u0, u1, some (.inl v2), some (.inl (v3 + nI 1)), u4] [] h
  exact k

theorem bX11_vain_71 {d : Nat} {Q : Option MV → MH → Prop} {h : MH} {u0 u1 u2 : Option MV} {v4 v3 : Int32} (k : J mX11_vain d 0 0 Q 0 0 30 [u0, u1, u2, some (.inl v3), some (.inl (v4 + nI 1))] [] h) : J mX11_vain d 0 0 Q 0 0 71 [u0, u1, u2, some (.inl v3), some (.inl v4)] [] h := by
  refine zrun 39 2 qX11_vain (o := 11) rfl ?_
  show J mX11_vain d 0 0 Q 0 0 30 [u0, u1, u2, some (.inl v3), some (.inl (v4 + nI 1))] [] h
  exact k

theorem bX11_vain_77 {d : Nat} {Q : Option MV → MH → Prop} {h : MH} {u0 u1 u2 u3 u4 : Option MV} (k : Q (some (.inl (-(nI 1)))) h) : J mX11_vain d 0 0 Q 0 0 77 [u0, u1, u2, u3, u4] [] h := by
  refine zrun 41 1 qX11_vain (o := 11) rfl ?_
  show J mX11_vain d 0 0 Q 0 0 78 [u0, u1, u2, u3, u4] [.inl (-(nI 1))] h
  exact J_iret (ty := .int) (zat qX11_vain 42 (by rfl)) rfl rfl (Nat.le_refl 0) (Nat.le_refl 0) k

theorem bX11_isSpare_0 {d d' : Nat} {Q : Option MV → MH → Prop} {h : MH} {u1 u3 : Option MV} {v2 : Int32} (hr : zRf h) (hd : d' + 1 ≤ d) (k : Con mX11_asTold d' 0 0 [.inr (.inr 111)] (zsI h 111 28 v2) (zrv fun h' => J mX11_isSpare d 0 0 Q 0 0 9 [some (.inr (.inr 111)), u1, some (.inl v2), u3] [] h')) : J mX11_isSpare d 0 0 Q 0 0 0 [some (.inr (.inr 111)), u1, some (.inl v2), u3] [] h := by
  refine zrun 0 4 qX11_isSpare (o := 11) rfl ?_
  show zokO h 111 11 ∧ J mX11_isSpare d 0 0 Q 0 0 6 [some (.inr (.inr 111)), u1, some (.inl v2), u3] [.inr (.inr 111)] (zsI h 111 28 v2)
  exact ⟨(zo hr (by decide) rfl), zcVv (as := []) (zat qX11_isSpare 4 (by rfl)) l11_266 rfl hd rfl (Nat.le_of_ble_eq_true rfl) zle0 (ci := 11) (by decide) rfl (show zokO _ _ _ from (zo hr (by decide) rfl)) k⟩

theorem bX11_isSpare_9 {d d' : Nat} {Q : Option MV → MH → Prop} {h : MH} {u2 u3 : Option MV} {v1 : Int32} (hr : zRf h) (hd : d' + 1 ≤ d) (k : Con mX11_runs d' 0 0 [.inr (.inr 111), .inl v1, .inl (-(nI 1))] h (zrv fun h' => J mX11_isSpare d 0 0 Q 0 0 15 [some (.inr (.inr 111)), some (.inl v1), u2, u3] [] h')) : J mX11_isSpare d 0 0 Q 0 0 9 [some (.inr (.inr 111)), some (.inl v1), u2, u3] [] h := by
  refine zrun 5 3 qX11_isSpare (o := 11) rfl ?_
  show J mX11_isSpare d 0 0 Q 0 0 12 [some (.inr (.inr 111)), some (.inl v1), u2, u3] [.inl (-(nI 1)), .inl v1, .inr (.inr 111)] h
  exact zcVv (as := [.inl v1, .inl (-(nI 1))]) (zat qX11_isSpare 8 (by rfl)) l11_269 rfl hd rfl (Nat.le_of_ble_eq_true rfl) zle0 (ci := 11) (by decide) rfl (zo hr (by decide) rfl) k

theorem bX11_isSpare_15 {d : Nat} {Q : Option MV → MH → Prop} {h : MH} {u1 u2 u3 : Option MV} (hr : zRf h) (k1 : ((zsI h 111 28 (-(nI 1))).1 111 25) = ((zsI h 111 28 (-(nI 1))).1 111 32) → J mX11_isSpare d 0 0 Q 0 0 33 [some (.inr (.inr 111)), u1, u2, u3] [] (zsI h 111 28 (-(nI 1)))) (k2 : ¬ ((zsI h 111 28 (-(nI 1))).1 111 25) = ((zsI h 111 28 (-(nI 1))).1 111 32) → J mX11_isSpare d 0 0 Q 0 0 31 [some (.inr (.inr 111)), u1, u2, u3] [] (zsI h 111 28 (-(nI 1)))) : J mX11_isSpare d 0 0 Q 0 0 15 [some (.inr (.inr 111)), u1, u2, u3] [] h := by
  refine zrun 9 8 qX11_isSpare (o := 11) rfl ?_
  show zokO h 111 11 ∧ zokO (zsI h 111 28 (-(nI 1))) 111 11 ∧ zokO (zsI h 111 28 (-(nI 1))) 111 11 ∧ ((((zsI h 111 28 (-(nI 1))).1 111 25) = ((zsI h 111 28 (-(nI 1))).1 111 32) → J mX11_isSpare d 0 0 Q 0 0 33 [some (.inr (.inr 111)), u1, u2, u3] [] (zsI h 111 28 (-(nI 1)))) ∧ (¬ ((zsI h 111 28 (-(nI 1))).1 111 25) = ((zsI h 111 28 (-(nI 1))).1 111 32) → J mX11_isSpare d 0 0 Q 0 0 31 [some (.inr (.inr 111)), u1, u2, u3] [] (zsI h 111 28 (-(nI 1)))))
  exact ⟨(zo hr (by decide) rfl), (zo hr (by decide) rfl), (zo hr (by decide) rfl), k1, k2⟩

theorem bX11_isSpare_31 {d : Nat} {Q : Option MV → MH → Prop} {h : MH} {u0 u1 u2 u3 : Option MV} (k : Q (some (.inl (nI 0))) h) : J mX11_isSpare d 0 0 Q 0 0 31 [u0, u1, u2, u3] [] h := by
  refine zrun 17 1 qX11_isSpare (o := 11) rfl ?_
  show J mX11_isSpare d 0 0 Q 0 0 32 [u0, u1, u2, u3] [.inl (nI 0)] h
  exact J_iret (ty := .boolean) (zat qX11_isSpare 18 (by rfl)) rfl (by decide) (Nat.le_refl 0) (Nat.le_refl 0) k

theorem bX11_isSpare_33 {d : Nat} {Q : Option MV → MH → Prop} {h : MH} {u0 u1 u3 : Option MV} {v2 : Int32} (k : J mX11_isSpare d 0 0 Q 0 0 35 [u0, u1, some (.inl v2), some (.inl (nI 0))] [] h) : J mX11_isSpare d 0 0 Q 0 0 33 [u0, u1, some (.inl v2), u3] [] h := by
  refine zrun 19 2 qX11_isSpare (o := 11) rfl ?_
  show J mX11_isSpare d 0 0 Q 0 0 35 [u0, u1, some (.inl v2), some (.inl (nI 0))] [] h
  exact k

theorem bX11_isSpare_35 {d : Nat} {Q : Option MV → MH → Prop} {h : MH} {u1 u2 : Option MV} {v3 : Int32} (hr : zRf h) (k1 : (h.1 111 25) ≤ v3 → J mX11_isSpare d 0 0 Q 0 0 70 [some (.inr (.inr 111)), u1, u2, some (.inl v3)] [] h) (k2 : ¬ (h.1 111 25) ≤ v3 → J mX11_isSpare d 0 0 Q 0 0 43 [some (.inr (.inr 111)), u1, u2, some (.inl v3)] [] h) : J mX11_isSpare d 0 0 Q 0 0 35 [some (.inr (.inr 111)), u1, u2, some (.inl v3)] [] h := by
  refine zrun 21 4 qX11_isSpare (o := 11) rfl ?_
  show zokO h 111 11 ∧ (((h.1 111 25) ≤ v3 → J mX11_isSpare d 0 0 Q 0 0 70 [some (.inr (.inr 111)), u1, u2, some (.inl v3)] [] h) ∧ (¬ (h.1 111 25) ≤ v3 → J mX11_isSpare d 0 0 Q 0 0 43 [some (.inr (.inr 111)), u1, u2, some (.inl v3)] [] h))
  exact ⟨(zo hr (by decide) rfl), k1, k2⟩

theorem bX11_isSpare_43 {d : Nat} {Q : Option MV → MH → Prop} {h : MH} {u1 u2 : Option MV} {v3 : Int32} (hr : zRf h) (g0 : vp_in v3 40) (k1 : ((h.1 124 v3.toNatClampNeg) / (nI 256)) = (h.1 126 v3.toNatClampNeg) → J mX11_isSpare d 0 0 Q 0 0 64 [some (.inr (.inr 111)), u1, u2, some (.inl v3)] [] h) (k2 : ¬ ((h.1 124 v3.toNatClampNeg) / (nI 256)) = (h.1 126 v3.toNatClampNeg) → J mX11_isSpare d 0 0 Q 0 0 62 [some (.inr (.inr 111)), u1, u2, some (.inl v3)] [] h) : J mX11_isSpare d 0 0 Q 0 0 43 [some (.inr (.inr 111)), u1, u2, some (.inl v3)] [] h := by
  refine zrun 25 11 qX11_isSpare (o := 11) rfl ?_
  show zokO h 111 11 ∧ zokA h (h.2.2.1 111 23) 20 v3 ∧ ¬ (nI 256) = 0 ∧ zokO h 111 11 ∧ zokA h (h.2.2.1 111 31) 20 v3 ∧ ((((h.1 (h.2.2.1 111 23) v3.toNatClampNeg) / (nI 256)) = (h.1 (h.2.2.1 111 31) v3.toNatClampNeg) → J mX11_isSpare d 0 0 Q 0 0 64 [some (.inr (.inr 111)), u1, u2, some (.inl v3)] [] h) ∧ (¬ ((h.1 (h.2.2.1 111 23) v3.toNatClampNeg) / (nI 256)) = (h.1 (h.2.2.1 111 31) v3.toNatClampNeg) → J mX11_isSpare d 0 0 Q 0 0 62 [some (.inr (.inr 111)), u1, u2, some (.inl v3)] [] h))
  rw [(show h.2.2.1 111 23 = 124 from (hr.at (by decide) (by decide) (by rfl))), (show h.2.2.1 111 31 = 126 from (hr.at (by decide) (by decide) (by rfl)))]
  exact ⟨(zo hr (by decide) rfl), (zia hr (by decide) (by rfl) g0), (by decide), (zo hr (by decide) rfl), (zia hr (by decide) (by rfl) g0), k1, k2⟩

theorem bX11_isSpare_62 {d : Nat} {Q : Option MV → MH → Prop} {h : MH} {u0 u1 u2 u3 : Option MV} (k : Q (some (.inl (nI 0))) h) : J mX11_isSpare d 0 0 Q 0 0 62 [u0, u1, u2, u3] [] h := by
  refine zrun 36 1 qX11_isSpare (o := 11) rfl ?_
  show J mX11_isSpare d 0 0 Q 0 0 63 [u0, u1, u2, u3] [.inl (nI 0)] h
  exact J_iret (ty := .boolean) (zat qX11_isSpare 37 (by rfl)) rfl (by decide) (Nat.le_refl 0) (Nat.le_refl 0) k

theorem bX11_isSpare_64 {d : Nat} {Q : Option MV → MH → Prop} {h : MH} {u0 u1 : Option MV} {v3 v2 : Int32} (k : J mX11_isSpare d 0 0 Q 0 0 35 [u0, u1, some (.inl v2), some (.inl (v3 + nI 1))] [] h) : J mX11_isSpare d 0 0 Q 0 0 64 [u0, u1, some (.inl v2), some (.inl v3)] [] h := by
  refine zrun 38 2 qX11_isSpare (o := 11) rfl ?_
  show J mX11_isSpare d 0 0 Q 0 0 35 [u0, u1, some (.inl v2), some (.inl (v3 + nI 1))] [] h
  exact k

theorem bX11_isSpare_70 {d : Nat} {Q : Option MV → MH → Prop} {h : MH} {u0 u1 u2 u3 : Option MV} (k : Q (some (.inl (nI 1))) h) : J mX11_isSpare d 0 0 Q 0 0 70 [u0, u1, u2, u3] [] h := by
  refine zrun 40 1 qX11_isSpare (o := 11) rfl ?_
  show J mX11_isSpare d 0 0 Q 0 0 71 [u0, u1, u2, u3] [.inl (nI 1)] h
  exact J_iret (ty := .boolean) (zat qX11_isSpare 41 (by rfl)) rfl (by decide) (Nat.le_refl 0) (Nat.le_refl 0) k

theorem bX11_spare_0 {d d' : Nat} {Q : Option MV → MH → Prop} {h : MH} {u2 u3 u4 : Option MV} {v1 : Int32} (hr : zRf h) (hd : d' + 1 ≤ d) (k : Con mX11_isPlan d' 0 0 [.inl v1] (zsI h 111 0 (nI 0)) (zri fun (x : Int32) h' => J mX11_spare d 0 0 Q 0 0 9 [some (.inr (.inr 111)), some (.inl v1), u2, u3, u4] [.inl x] h')) : J mX11_spare d 0 0 Q 0 0 0 [some (.inr (.inr 111)), some (.inl v1), u2, u3, u4] [] h := by
  refine zrun 0 4 qX11_spare (o := 11) rfl ?_
  show zokO h 111 11 ∧ J mX11_spare d 0 0 Q 0 0 6 [some (.inr (.inr 111)), some (.inl v1), u2, u3, u4] [.inl v1] (zsI h 111 0 (nI 0))
  exact ⟨(zo hr (by decide) rfl), zcSi (as := [.inl v1]) (zat qX11_spare 4 (by rfl)) l11_261 rfl hd rfl (Nat.le_of_ble_eq_true rfl) zle0 k⟩

theorem bX11_spare_9 {d : Nat} {Q : Option MV → MH → Prop} {h : MH} {u0 u1 u2 u3 u4 : Option MV} {vs0 : Int32} (k1 : ¬ vs0 = 0 → J mX11_spare d 0 0 Q 0 0 15 [u0, u1, u2, u3, u4] [] h) (k2 : vs0 = 0 → J mX11_spare d 0 0 Q 0 0 12 [u0, u1, u2, u3, u4] [] h) : J mX11_spare d 0 0 Q 0 0 9 [u0, u1, u2, u3, u4] [.inl vs0] h := by
  refine zrun 5 1 qX11_spare (o := 11) rfl ?_
  show ((¬ vs0 = 0 → J mX11_spare d 0 0 Q 0 0 15 [u0, u1, u2, u3, u4] [] h) ∧ (vs0 = 0 → J mX11_spare d 0 0 Q 0 0 12 [u0, u1, u2, u3, u4] [] h))
  exact ⟨k1, k2⟩

theorem bX11_spare_12 {d : Nat} {Q : Option MV → MH → Prop} {h : MH} {u0 u1 u2 u3 u4 : Option MV} (k : Q (some (.inl (-(nI 2)))) h) : J mX11_spare d 0 0 Q 0 0 12 [u0, u1, u2, u3, u4] [] h := by
  refine zrun 6 1 qX11_spare (o := 11) rfl ?_
  show J mX11_spare d 0 0 Q 0 0 14 [u0, u1, u2, u3, u4] [.inl (-(nI 2))] h
  exact J_iret (ty := .int) (zat qX11_spare 7 (by rfl)) rfl rfl (Nat.le_refl 0) (Nat.le_refl 0) k

theorem bX11_spare_15 {d d' : Nat} {Q : Option MV → MH → Prop} {h : MH} {u2 u3 u4 : Option MV} {v1 : Int32} (hr : zRf h) (hd : d' + 1 ≤ d) (k : Con mX11_hears d' 0 0 [.inr (.inr 111), .inl v1] h (zrv fun h' => J mX11_spare d 0 0 Q 0 0 20 [some (.inr (.inr 111)), some (.inl v1), u2, u3, u4] [] h')) : J mX11_spare d 0 0 Q 0 0 15 [some (.inr (.inr 111)), some (.inl v1), u2, u3, u4] [] h := by
  refine zrun 8 2 qX11_spare (o := 11) rfl ?_
  show J mX11_spare d 0 0 Q 0 0 17 [some (.inr (.inr 111)), some (.inl v1), u2, u3, u4] [.inl v1, .inr (.inr 111)] h
  exact zcVv (as := [.inl v1]) (zat qX11_spare 10 (by rfl)) l11_281 rfl hd rfl (Nat.le_of_ble_eq_true rfl) zle0 (ci := 11) (by decide) rfl (zo hr (by decide) rfl) k

theorem bX11_spare_20 {d : Nat} {Q : Option MV → MH → Prop} {h : MH} {u0 u1 u3 u4 : Option MV} {v2 : Int32} (k : J mX11_spare d 0 0 Q 0 0 25 [u0, u1, some (.inl v2), some (.inl (nI 0)), some (.inl (nI 0))] [] h) : J mX11_spare d 0 0 Q 0 0 20 [u0, u1, some (.inl v2), u3, u4] [] h := by
  refine zrun 11 4 qX11_spare (o := 11) rfl ?_
  show J mX11_spare d 0 0 Q 0 0 25 [u0, u1, some (.inl v2), some (.inl (nI 0)), some (.inl (nI 0))] [] h
  exact k

theorem bX11_spare_25 {d d' : Nat} {Q : Option MV → MH → Prop} {h : MH} {u2 u3 : Option MV} {v4 v1 : Int32} (hr : zRf h) (hd : d' + 1 ≤ d) (k : Con mX11_planAt d' 0 0 [.inl v1] h (zri fun (x : Int32) h' => J mX11_spare d 0 0 Q 0 0 37 [some (.inr (.inr 111)), some (.inl v1), u2, u3, some (.inl v4)] [.inl x, .inl (nI 75), .inr (.inr 112), .inl v4] h')) : J mX11_spare d 0 0 Q 0 0 25 [some (.inr (.inr 111)), some (.inl v1), u2, u3, some (.inl v4)] [] h := by
  refine zrun 15 5 qX11_spare (o := 11) rfl ?_
  show zokO h 111 11 ∧ J mX11_spare d 0 0 Q 0 0 34 [some (.inr (.inr 111)), some (.inl v1), u2, u3, some (.inl v4)] [.inl v1, .inl (nI 75), .inr (.inr (h.2.2.1 111 1)), .inl v4] h
  rw [(show h.2.2.1 111 1 = 112 from (hr.at (by decide) (by decide) (by rfl)))]
  exact ⟨(zo hr (by decide) rfl), zcSi (as := [.inl v1]) (zat qX11_spare 20 (by rfl)) l11_215 rfl hd rfl (Nat.le_of_ble_eq_true rfl) zle0 k⟩

theorem bX11_spare_37 {d : Nat} {Q : Option MV → MH → Prop} {h : MH} {u0 u1 u2 u3 u4 : Option MV} {vs0 vs2 vs3 : Int32} {vs1 : Nat} (g0 : zokA h vs1 20 (vs2 + vs3)) (k1 : (h.1 vs1 (vs2 + vs3).toNatClampNeg) ≤ vs0 → J mX11_spare d 0 0 Q 0 0 72 [u0, u1, u2, u3, u4] [] h) (k2 : ¬ (h.1 vs1 (vs2 + vs3).toNatClampNeg) ≤ vs0 → J mX11_spare d 0 0 Q 0 0 42 [u0, u1, u2, u3, u4] [] h) : J mX11_spare d 0 0 Q 0 0 37 [u0, u1, u2, u3, u4] [.inl vs3, .inl vs2, .inr (.inr vs1), .inl vs0] h := by
  refine zrun 21 3 qX11_spare (o := 11) rfl ?_
  show zokA h vs1 20 (vs2 + vs3) ∧ (((h.1 vs1 (vs2 + vs3).toNatClampNeg) ≤ vs0 → J mX11_spare d 0 0 Q 0 0 72 [u0, u1, u2, u3, u4] [] h) ∧ (¬ (h.1 vs1 (vs2 + vs3).toNatClampNeg) ≤ vs0 → J mX11_spare d 0 0 Q 0 0 42 [u0, u1, u2, u3, u4] [] h))
  exact ⟨g0, k1, k2⟩

theorem bX11_spare_42 {d d' : Nat} {Q : Option MV → MH → Prop} {h : MH} {u2 u3 : Option MV} {v1 v4 : Int32} (hr : zRf h) (hd : d' + 1 ≤ d) (k : Con mX11_isSpare d' 0 0 [.inr (.inr 111), .inl v1, .inl v4] h (zri fun (x : Int32) h' => J mX11_spare d 0 0 Q 0 0 49 [some (.inr (.inr 111)), some (.inl v1), u2, u3, some (.inl v4)] [.inl x] h')) : J mX11_spare d 0 0 Q 0 0 42 [some (.inr (.inr 111)), some (.inl v1), u2, u3, some (.inl v4)] [] h := by
  refine zrun 24 3 qX11_spare (o := 11) rfl ?_
  show J mX11_spare d 0 0 Q 0 0 46 [some (.inr (.inr 111)), some (.inl v1), u2, u3, some (.inl v4)] [.inl v4, .inl v1, .inr (.inr 111)] h
  exact zcVi (as := [.inl v1, .inl v4]) (zat qX11_spare 27 (by rfl)) l11_284 rfl hd rfl (Nat.le_of_ble_eq_true rfl) zle0 (ci := 11) (by decide) rfl (zo hr (by decide) rfl) k

theorem bX11_spare_49 {d : Nat} {Q : Option MV → MH → Prop} {h : MH} {u0 u1 u2 u3 u4 : Option MV} {vs0 : Int32} (k1 : ¬ vs0 = 0 → J mX11_spare d 0 0 Q 0 0 55 [u0, u1, u2, u3, u4] [] h) (k2 : vs0 = 0 → J mX11_spare d 0 0 Q 0 0 52 [u0, u1, u2, u3, u4] [] h) : J mX11_spare d 0 0 Q 0 0 49 [u0, u1, u2, u3, u4] [.inl vs0] h := by
  refine zrun 28 1 qX11_spare (o := 11) rfl ?_
  show ((¬ vs0 = 0 → J mX11_spare d 0 0 Q 0 0 55 [u0, u1, u2, u3, u4] [] h) ∧ (vs0 = 0 → J mX11_spare d 0 0 Q 0 0 52 [u0, u1, u2, u3, u4] [] h))
  exact ⟨k1, k2⟩

theorem bX11_spare_52 {d : Nat} {Q : Option MV → MH → Prop} {h : MH} {u0 u1 u2 u3 u4 : Option MV} (k : J mX11_spare d 0 0 Q 0 0 66 [u0, u1, u2, u3, u4] [] h) : J mX11_spare d 0 0 Q 0 0 52 [u0, u1, u2, u3, u4] [] h := by
  refine zrun 29 1 qX11_spare (o := 11) rfl ?_
  show J mX11_spare d 0 0 Q 0 0 66 [u0, u1, u2, u3, u4] [] h
  exact k

theorem bX11_spare_55 {d : Nat} {Q : Option MV → MH → Prop} {h : MH} {u0 u1 u4 : Option MV} {v3 v2 : Int32} (k1 : ¬ v3 = v2 → J mX11_spare d 0 0 Q 0 0 63 [u0, u1, some (.inl v2), some (.inl v3), u4] [] h) (k2 : v3 = v2 → J mX11_spare d 0 0 Q 0 0 60 [u0, u1, some (.inl v2), some (.inl v3), u4] [] h) : J mX11_spare d 0 0 Q 0 0 55 [u0, u1, some (.inl v2), some (.inl v3), u4] [] h := by
  refine zrun 30 3 qX11_spare (o := 11) rfl ?_
  show ((¬ v3 = v2 → J mX11_spare d 0 0 Q 0 0 63 [u0, u1, some (.inl v2), some (.inl v3), u4] [] h) ∧ (v3 = v2 → J mX11_spare d 0 0 Q 0 0 60 [u0, u1, some (.inl v2), some (.inl v3), u4] [] h))
  exact ⟨k1, k2⟩

theorem bX11_spare_60 {d : Nat} {Q : Option MV → MH → Prop} {h : MH} {u0 u1 u2 u3 : Option MV} {v4 : Int32} (k : Q (some (.inl v4)) h) : J mX11_spare d 0 0 Q 0 0 60 [u0, u1, u2, u3, some (.inl v4)] [] h := by
  refine zrun 33 1 qX11_spare (o := 11) rfl ?_
  show J mX11_spare d 0 0 Q 0 0 62 [u0, u1, u2, u3, some (.inl v4)] [.inl v4] h
  exact J_iret (ty := .int) (zat qX11_spare 34 (by rfl)) rfl rfl (Nat.le_refl 0) (Nat.le_refl 0) k

theorem bX11_spare_63 {d : Nat} {Q : Option MV → MH → Prop} {h : MH} {u0 u1 u4 : Option MV} {v3 v2 : Int32} (k : J mX11_spare d 0 0 Q 0 0 66 [u0, u1, some (.inl v2), some (.inl (v3 + nI 1)), u4] [] h) : J mX11_spare d 0 0 Q 0 0 63 [u0, u1, some (.inl v2), some (.inl v3), u4] [] h := by
  refine zrun 35 1 qX11_spare (o := 11) rfl ?_
  show J mX11_spare d 0 0 Q 0 0 66 [u0, u1, some (.inl v2), some (.inl (v3 + nI 1)), u4] [] h
  exact k

theorem bX11_spare_66 {d : Nat} {Q : Option MV → MH → Prop} {h : MH} {u0 u1 u2 : Option MV} {v4 v3 : Int32} (k : J mX11_spare d 0 0 Q 0 0 25 [u0, u1, u2, some (.inl v3), some (.inl (v4 + nI 1))] [] h) : J mX11_spare d 0 0 Q 0 0 66 [u0, u1, u2, some (.inl v3), some (.inl v4)] [] h := by
  refine zrun 36 2 qX11_spare (o := 11) rfl ?_
  show J mX11_spare d 0 0 Q 0 0 25 [u0, u1, u2, some (.inl v3), some (.inl (v4 + nI 1))] [] h
  exact k

theorem bX11_spare_72 {d : Nat} {Q : Option MV → MH → Prop} {h : MH} {u0 u1 u2 u3 u4 : Option MV} (k : Q (some (.inl (-(nI 1)))) h) : J mX11_spare d 0 0 Q 0 0 72 [u0, u1, u2, u3, u4] [] h := by
  refine zrun 38 1 qX11_spare (o := 11) rfl ?_
  show J mX11_spare d 0 0 Q 0 0 73 [u0, u1, u2, u3, u4] [.inl (-(nI 1))] h
  exact J_iret (ty := .int) (zat qX11_spare 39 (by rfl)) rfl rfl (Nat.le_refl 0) (Nat.le_refl 0) k

theorem bX11_would_0 {d d' : Nat} {Q : Option MV → MH → Prop} {h : MH} {u2 u3 u4 : Option MV} {v1 : Int32} (hr : zRf h) (hd : d' + 1 ≤ d) (k : Con mX11_isPlan d' 0 0 [.inl v1] (zsI h 111 0 (nI 0)) (zri fun (x : Int32) h' => J mX11_would d 0 0 Q 0 0 9 [some (.inr (.inr 111)), some (.inl v1), u2, u3, u4] [.inl x] h')) : J mX11_would d 0 0 Q 0 0 0 [some (.inr (.inr 111)), some (.inl v1), u2, u3, u4] [] h := by
  refine zrun 0 4 qX11_would (o := 11) rfl ?_
  show zokO h 111 11 ∧ J mX11_would d 0 0 Q 0 0 6 [some (.inr (.inr 111)), some (.inl v1), u2, u3, u4] [.inl v1] (zsI h 111 0 (nI 0))
  exact ⟨(zo hr (by decide) rfl), zcSi (as := [.inl v1]) (zat qX11_would 4 (by rfl)) l11_261 rfl hd rfl (Nat.le_of_ble_eq_true rfl) zle0 k⟩

theorem bX11_would_9 {d : Nat} {Q : Option MV → MH → Prop} {h : MH} {u0 u1 u2 u3 u4 : Option MV} {vs0 : Int32} (k1 : vs0 = 0 → J mX11_would d 0 0 Q 0 0 20 [u0, u1, u2, u3, u4] [] h) (k2 : ¬ vs0 = 0 → J mX11_would d 0 0 Q 0 0 12 [u0, u1, u2, u3, u4] [] h) : J mX11_would d 0 0 Q 0 0 9 [u0, u1, u2, u3, u4] [.inl vs0] h := by
  refine zrun 5 1 qX11_would (o := 11) rfl ?_
  show ((vs0 = 0 → J mX11_would d 0 0 Q 0 0 20 [u0, u1, u2, u3, u4] [] h) ∧ (¬ vs0 = 0 → J mX11_would d 0 0 Q 0 0 12 [u0, u1, u2, u3, u4] [] h))
  exact ⟨k1, k2⟩

theorem bX11_would_12 {d d' : Nat} {Q : Option MV → MH → Prop} {h : MH} {u1 u2 u4 : Option MV} {v3 : Int32} (hr : zRf h) (hd : d' + 1 ≤ d) (k : Con mX11_isCandle d' 0 0 [.inr (.inr 111), .inl v3] h (zri fun (x : Int32) h' => J mX11_would d 0 0 Q 0 0 17 [some (.inr (.inr 111)), u1, u2, some (.inl v3), u4] [.inl x] h')) : J mX11_would d 0 0 Q 0 0 12 [some (.inr (.inr 111)), u1, u2, some (.inl v3), u4] [] h := by
  refine zrun 6 2 qX11_would (o := 11) rfl ?_
  show J mX11_would d 0 0 Q 0 0 14 [some (.inr (.inr 111)), u1, u2, some (.inl v3), u4] [.inl v3, .inr (.inr 111)] h
  exact zcVi (as := [.inl v3]) (zat qX11_would 8 (by rfl)) l11_221 rfl hd rfl (Nat.le_of_ble_eq_true rfl) zle0 (ci := 11) (by decide) rfl (zo hr (by decide) rfl) k

theorem bX11_would_17 {d : Nat} {Q : Option MV → MH → Prop} {h : MH} {u0 u1 u2 u3 u4 : Option MV} {vs0 : Int32} (k1 : ¬ vs0 = 0 → J mX11_would d 0 0 Q 0 0 23 [u0, u1, u2, u3, u4] [] h) (k2 : vs0 = 0 → J mX11_would d 0 0 Q 0 0 20 [u0, u1, u2, u3, u4] [] h) : J mX11_would d 0 0 Q 0 0 17 [u0, u1, u2, u3, u4] [.inl vs0] h := by
  refine zrun 9 1 qX11_would (o := 11) rfl ?_
  show ((¬ vs0 = 0 → J mX11_would d 0 0 Q 0 0 23 [u0, u1, u2, u3, u4] [] h) ∧ (vs0 = 0 → J mX11_would d 0 0 Q 0 0 20 [u0, u1, u2, u3, u4] [] h))
  exact ⟨k1, k2⟩

theorem bX11_would_20 {d : Nat} {Q : Option MV → MH → Prop} {h : MH} {u0 u1 u2 u3 u4 : Option MV} (k : Q (some (.inl (-(nI 2)))) h) : J mX11_would d 0 0 Q 0 0 20 [u0, u1, u2, u3, u4] [] h := by
  refine zrun 10 1 qX11_would (o := 11) rfl ?_
  show J mX11_would d 0 0 Q 0 0 22 [u0, u1, u2, u3, u4] [.inl (-(nI 2))] h
  exact J_iret (ty := .int) (zat qX11_would 11 (by rfl)) rfl rfl (Nat.le_refl 0) (Nat.le_refl 0) k

theorem bX11_would_23 {d d' : Nat} {Q : Option MV → MH → Prop} {h : MH} {u1 u2 u4 : Option MV} {v3 : Int32} (hr : zRf h) (hd : d' + 1 ≤ d) (k : Con mX11_restOf d' 0 0 [.inr (.inr 111), .inl v3] h (zri fun (x : Int32) h' => J mX11_would d 0 0 Q 0 0 28 [some (.inr (.inr 111)), u1, u2, some (.inl v3), u4] [.inl x] h')) : J mX11_would d 0 0 Q 0 0 23 [some (.inr (.inr 111)), u1, u2, some (.inl v3), u4] [] h := by
  refine zrun 12 2 qX11_would (o := 11) rfl ?_
  show J mX11_would d 0 0 Q 0 0 25 [some (.inr (.inr 111)), u1, u2, some (.inl v3), u4] [.inl v3, .inr (.inr 111)] h
  exact zcVi (as := [.inl v3]) (zat qX11_would 14 (by rfl)) l11_224 rfl hd rfl (Nat.le_of_ble_eq_true rfl) zle0 (ci := 11) (by decide) rfl (zo hr (by decide) rfl) k

theorem bX11_would_28 {d d' : Nat} {Q : Option MV → MH → Prop} {h : MH} {u0 u1 u2 u3 : Option MV} {vs0 v4 : Int32} (hd : d' + 1 ≤ d) (k : Con mX11_within d' 0 0 [.inr (.inl (vs0.toInt64 + v4.toInt64)), .inr (.inl (lN 1)), .inr (.inl (200000 : Int64))] h (zri fun (x : Int32) h' => J mX11_would d 0 0 Q 0 0 40 [u0, u1, u2, u3, some (.inl v4)] [.inl x] h')) : J mX11_would d 0 0 Q 0 0 28 [u0, u1, u2, u3, some (.inl v4)] [.inl vs0] h := by
  refine zrun 15 6 qX11_would (o := 11) rfl ?_
  show J mX11_would d 0 0 Q 0 0 37 [u0, u1, u2, u3, some (.inl v4)] [.inr (.inl (200000 : Int64)), .inr (.inl (lN 1)), .inr (.inl (vs0.toInt64 + v4.toInt64))] h
  exact zcSi (as := [.inr (.inl (vs0.toInt64 + v4.toInt64)), .inr (.inl (lN 1)), .inr (.inl (200000 : Int64))]) (zat qX11_would 21 (by rfl)) l11_178 rfl hd rfl (Nat.le_of_ble_eq_true rfl) zle0 k

theorem bX11_would_40 {d : Nat} {Q : Option MV → MH → Prop} {h : MH} {u0 u1 u2 u3 u4 : Option MV} {vs0 : Int32} (k1 : ¬ vs0 = 0 → J mX11_would d 0 0 Q 0 0 46 [u0, u1, u2, u3, u4] [] h) (k2 : vs0 = 0 → J mX11_would d 0 0 Q 0 0 43 [u0, u1, u2, u3, u4] [] h) : J mX11_would d 0 0 Q 0 0 40 [u0, u1, u2, u3, u4] [.inl vs0] h := by
  refine zrun 22 1 qX11_would (o := 11) rfl ?_
  show ((¬ vs0 = 0 → J mX11_would d 0 0 Q 0 0 46 [u0, u1, u2, u3, u4] [] h) ∧ (vs0 = 0 → J mX11_would d 0 0 Q 0 0 43 [u0, u1, u2, u3, u4] [] h))
  exact ⟨k1, k2⟩

theorem bX11_would_43 {d : Nat} {Q : Option MV → MH → Prop} {h : MH} {u0 u1 u2 u3 u4 : Option MV} (k : Q (some (.inl (-(nI 3)))) h) : J mX11_would d 0 0 Q 0 0 43 [u0, u1, u2, u3, u4] [] h := by
  refine zrun 23 1 qX11_would (o := 11) rfl ?_
  show J mX11_would d 0 0 Q 0 0 45 [u0, u1, u2, u3, u4] [.inl (-(nI 3))] h
  exact J_iret (ty := .int) (zat qX11_would 24 (by rfl)) rfl rfl (Nat.le_refl 0) (Nat.le_refl 0) k

theorem bX11_would_46 {d d' : Nat} {Q : Option MV → MH → Prop} {h : MH} {u1 u2 u3 u4 : Option MV} (hr : zRf h) (hd : d' + 1 ≤ d) (k : Con mX11_asTold d' 0 0 [.inr (.inr 111)] h (zrv fun h' => J mX11_would d 0 0 Q 0 0 50 [some (.inr (.inr 111)), u1, u2, u3, u4] [] h')) : J mX11_would d 0 0 Q 0 0 46 [some (.inr (.inr 111)), u1, u2, u3, u4] [] h := by
  refine zrun 25 1 qX11_would (o := 11) rfl ?_
  show J mX11_would d 0 0 Q 0 0 47 [some (.inr (.inr 111)), u1, u2, u3, u4] [.inr (.inr 111)] h
  exact zcVv (as := []) (zat qX11_would 26 (by rfl)) l11_266 rfl hd rfl (Nat.le_of_ble_eq_true rfl) zle0 (ci := 11) (by decide) rfl (zo hr (by decide) rfl) k

theorem bX11_would_50 {d d' : Nat} {Q : Option MV → MH → Prop} {h : MH} {u2 : Option MV} {v3 v4 v1 : Int32} (hr : zRf h) (g0 : vp_in v3 8) (hd : d' + 1 ≤ d) (k : Con mX11_runs d' 0 0 [.inr (.inr 111), .inl v1, .inl (-(nI 1))] (zsI h 116 v3.toNatClampNeg ((h.1 116 v3.toNatClampNeg) + (v4 * (nI 256)))) (zrv fun h' => J mX11_would d 0 0 Q 0 0 71 [some (.inr (.inr 111)), some (.inl v1), u2, some (.inl v3), some (.inl v4)] [] h')) : J mX11_would d 0 0 Q 0 0 50 [some (.inr (.inr 111)), some (.inl v1), u2, some (.inl v3), some (.inl v4)] [] h := by
  refine zrun 27 13 qX11_would (o := 11) rfl ?_
  show zokO h 111 11 ∧ zokA h (h.2.2.1 111 15) 20 v3 ∧ zokA h (h.2.2.1 111 15) 20 v3 ∧ J mX11_would d 0 0 Q 0 0 68 [some (.inr (.inr 111)), some (.inl v1), u2, some (.inl v3), some (.inl v4)] [.inl (-(nI 1)), .inl v1, .inr (.inr 111)] (zsI h (h.2.2.1 111 15) v3.toNatClampNeg ((h.1 (h.2.2.1 111 15) v3.toNatClampNeg) + (v4 * (nI 256))))
  rw [(show h.2.2.1 111 15 = 116 from (hr.at (by decide) (by decide) (by rfl)))]
  exact ⟨(zo hr (by decide) rfl), (zia hr (by decide) (by rfl) g0), (zia hr (by decide) (by rfl) g0), zcVv (as := [.inl v1, .inl (-(nI 1))]) (zat qX11_would 40 (by rfl)) l11_269 rfl hd rfl (Nat.le_of_ble_eq_true rfl) zle0 (ci := 11) (by decide) rfl (show zokO _ _ _ from (zo hr (by decide) rfl)) k⟩

theorem bX11_would_71 {d d' : Nat} {Q : Option MV → MH → Prop} {h : MH} {u1 u3 u4 : Option MV} {v2 : Int32} (hr : zRf h) (hd : d' + 1 ≤ d) (k : Con mX11_within d' 0 0 [.inr (.inl v2.toInt64), .inr (.inl (lN 0)), .inr (.inl (((h.1 111 25) - (nI 1)).toInt64))] h (zri fun (x : Int32) h' => J mX11_would d 0 0 Q 0 0 84 [some (.inr (.inr 111)), u1, some (.inl v2), u3, u4] [.inl x] h')) : J mX11_would d 0 0 Q 0 0 71 [some (.inr (.inr 111)), u1, some (.inl v2), u3, u4] [] h := by
  refine zrun 41 8 qX11_would (o := 11) rfl ?_
  show zokO h 111 11 ∧ J mX11_would d 0 0 Q 0 0 81 [some (.inr (.inr 111)), u1, some (.inl v2), u3, u4] [.inr (.inl (((h.1 111 25) - (nI 1)).toInt64)), .inr (.inl (lN 0)), .inr (.inl v2.toInt64)] h
  exact ⟨(zo hr (by decide) rfl), zcSi (as := [.inr (.inl v2.toInt64), .inr (.inl (lN 0)), .inr (.inl (((h.1 111 25) - (nI 1)).toInt64))]) (zat qX11_would 49 (by rfl)) l11_178 rfl hd rfl (Nat.le_of_ble_eq_true rfl) zle0 k⟩

theorem bX11_would_84 {d : Nat} {Q : Option MV → MH → Prop} {h : MH} {u0 u1 u2 u3 u4 : Option MV} {vs0 : Int32} (k1 : vs0 = 0 → J mX11_would d 0 0 Q 0 0 100 [u0, u1, u2, u3, u4] [] h) (k2 : ¬ vs0 = 0 → J mX11_would d 0 0 Q 0 0 87 [u0, u1, u2, u3, u4] [] h) : J mX11_would d 0 0 Q 0 0 84 [u0, u1, u2, u3, u4] [.inl vs0] h := by
  refine zrun 50 1 qX11_would (o := 11) rfl ?_
  show ((vs0 = 0 → J mX11_would d 0 0 Q 0 0 100 [u0, u1, u2, u3, u4] [] h) ∧ (¬ vs0 = 0 → J mX11_would d 0 0 Q 0 0 87 [u0, u1, u2, u3, u4] [] h))
  exact ⟨k1, k2⟩

theorem bX11_would_87 {d : Nat} {Q : Option MV → MH → Prop} {h : MH} {u1 u3 u4 : Option MV} {v2 : Int32} (hr : zRf h) (g0 : vp_in v2 40) (k : J mX11_would d 0 0 Q 0 0 101 [some (.inr (.inr 111)), u1, some (.inl v2), u3, u4] [.inl ((h.1 124 v2.toNatClampNeg) / (nI 256))] h) : J mX11_would d 0 0 Q 0 0 87 [some (.inr (.inr 111)), u1, some (.inl v2), u3, u4] [] h := by
  refine zrun 51 7 qX11_would (o := 11) rfl ?_
  show zokO h 111 11 ∧ zokA h (h.2.2.1 111 23) 20 v2 ∧ ¬ (nI 256) = 0 ∧ J mX11_would d 0 0 Q 0 0 101 [some (.inr (.inr 111)), u1, some (.inl v2), u3, u4] [.inl ((h.1 (h.2.2.1 111 23) v2.toNatClampNeg) / (nI 256))] h
  rw [(show h.2.2.1 111 23 = 124 from (hr.at (by decide) (by decide) (by rfl)))]
  exact ⟨(zo hr (by decide) rfl), (zia hr (by decide) (by rfl) g0), (by decide), k⟩

theorem bX11_would_100 {d : Nat} {Q : Option MV → MH → Prop} {h : MH} {u0 u1 u2 u3 u4 : Option MV} (k : J mX11_would d 0 0 Q 0 0 101 [u0, u1, u2, u3, u4] [.inl (-(nI 1))] h) : J mX11_would d 0 0 Q 0 0 100 [u0, u1, u2, u3, u4] [] h := by
  refine zrun 58 1 qX11_would (o := 11) rfl ?_
  show J mX11_would d 0 0 Q 0 0 101 [u0, u1, u2, u3, u4] [.inl (-(nI 1))] h
  exact k

theorem bX11_would_101 {d : Nat} {Q : Option MV → MH → Prop} {h : MH} {u0 u1 u2 u3 u4 : Option MV} {vs0 : Int32} (k : Q (some (.inl vs0)) h) : J mX11_would d 0 0 Q 0 0 101 [u0, u1, u2, u3, u4] [.inl vs0] h := by
  exact J_iret (ty := .int) (zat qX11_would 59 (by rfl)) rfl rfl (Nat.le_refl 0) (Nat.le_refl 0) k

theorem bX11_off_0 {d d' : Nat} {Q : Option MV → MH → Prop} {h : MH} {u2 u3 u4 u5 u6 u7 u8 : Option MV} {v1 : Int32} (hr : zRf h) (hd : d' + 1 ≤ d) (k : Con mX11_isPlan d' 0 0 [.inl v1] (zsI h 111 0 (nI 0)) (zri fun (x : Int32) h' => J mX11_off d 0 0 Q 0 0 9 [some (.inr (.inr 111)), some (.inl v1), u2, u3, u4, u5, u6, u7, u8] [.inl x] h')) : J mX11_off d 0 0 Q 0 0 0 [some (.inr (.inr 111)), some (.inl v1), u2, u3, u4, u5, u6, u7, u8] [] h := by
  refine zrun 0 4 qX11_off (o := 11) rfl ?_
  show zokO h 111 11 ∧ J mX11_off d 0 0 Q 0 0 6 [some (.inr (.inr 111)), some (.inl v1), u2, u3, u4, u5, u6, u7, u8] [.inl v1] (zsI h 111 0 (nI 0))
  exact ⟨(zo hr (by decide) rfl), zcSi (as := [.inl v1]) (zat qX11_off 4 (by rfl)) l11_261 rfl hd rfl (Nat.le_of_ble_eq_true rfl) zle0 k⟩

theorem bX11_off_9 {d : Nat} {Q : Option MV → MH → Prop} {h : MH} {u0 u1 u2 u3 u4 u5 u6 u7 u8 : Option MV} {vs0 : Int32} (k1 : vs0 = 0 → J mX11_off d 0 0 Q 0 0 22 [u0, u1, u2, u3, u4, u5, u6, u7, u8] [] h) (k2 : ¬ vs0 = 0 → J mX11_off d 0 0 Q 0 0 12 [u0, u1, u2, u3, u4, u5, u6, u7, u8] [] h) : J mX11_off d 0 0 Q 0 0 9 [u0, u1, u2, u3, u4, u5, u6, u7, u8] [.inl vs0] h := by
  refine zrun 5 1 qX11_off (o := 11) rfl ?_
  show ((vs0 = 0 → J mX11_off d 0 0 Q 0 0 22 [u0, u1, u2, u3, u4, u5, u6, u7, u8] [] h) ∧ (¬ vs0 = 0 → J mX11_off d 0 0 Q 0 0 12 [u0, u1, u2, u3, u4, u5, u6, u7, u8] [] h))
  exact ⟨k1, k2⟩

theorem bX11_off_12 {d d' : Nat} {Q : Option MV → MH → Prop} {h : MH} {u0 u1 u2 u4 u5 u6 u7 u8 : Option MV} {v3 : Int32} (hd : d' + 1 ≤ d) (k : Con mX11_within d' 0 0 [.inr (.inl v3.toInt64), .inr (.inl (lN 0)), .inr (.inl (lN 1))] h (zri fun (x : Int32) h' => J mX11_off d 0 0 Q 0 0 19 [u0, u1, u2, some (.inl v3), u4, u5, u6, u7, u8] [.inl x] h')) : J mX11_off d 0 0 Q 0 0 12 [u0, u1, u2, some (.inl v3), u4, u5, u6, u7, u8] [] h := by
  refine zrun 6 4 qX11_off (o := 11) rfl ?_
  show J mX11_off d 0 0 Q 0 0 16 [u0, u1, u2, some (.inl v3), u4, u5, u6, u7, u8] [.inr (.inl (lN 1)), .inr (.inl (lN 0)), .inr (.inl v3.toInt64)] h
  exact zcSi (as := [.inr (.inl v3.toInt64), .inr (.inl (lN 0)), .inr (.inl (lN 1))]) (zat qX11_off 10 (by rfl)) l11_178 rfl hd rfl (Nat.le_of_ble_eq_true rfl) zle0 k

theorem bX11_off_19 {d : Nat} {Q : Option MV → MH → Prop} {h : MH} {u0 u1 u2 u3 u4 u5 u6 u7 u8 : Option MV} {vs0 : Int32} (k1 : ¬ vs0 = 0 → J mX11_off d 0 0 Q 0 0 25 [u0, u1, u2, u3, u4, u5, u6, u7, u8] [] h) (k2 : vs0 = 0 → J mX11_off d 0 0 Q 0 0 22 [u0, u1, u2, u3, u4, u5, u6, u7, u8] [] h) : J mX11_off d 0 0 Q 0 0 19 [u0, u1, u2, u3, u4, u5, u6, u7, u8] [.inl vs0] h := by
  refine zrun 11 1 qX11_off (o := 11) rfl ?_
  show ((¬ vs0 = 0 → J mX11_off d 0 0 Q 0 0 25 [u0, u1, u2, u3, u4, u5, u6, u7, u8] [] h) ∧ (vs0 = 0 → J mX11_off d 0 0 Q 0 0 22 [u0, u1, u2, u3, u4, u5, u6, u7, u8] [] h))
  exact ⟨k1, k2⟩

theorem bX11_off_22 {d : Nat} {Q : Option MV → MH → Prop} {h : MH} {u0 u1 u2 u3 u4 u5 u6 u7 u8 : Option MV} (k : Q (some (.inl (-(nI 2)))) h) : J mX11_off d 0 0 Q 0 0 22 [u0, u1, u2, u3, u4, u5, u6, u7, u8] [] h := by
  refine zrun 12 1 qX11_off (o := 11) rfl ?_
  show J mX11_off d 0 0 Q 0 0 24 [u0, u1, u2, u3, u4, u5, u6, u7, u8] [.inl (-(nI 2))] h
  exact J_iret (ty := .int) (zat qX11_off 13 (by rfl)) rfl rfl (Nat.le_refl 0) (Nat.le_refl 0) k

theorem bX11_off_25 {d : Nat} {Q : Option MV → MH → Prop} {h : MH} {u0 u1 u3 u4 u5 u6 u7 u8 : Option MV} {v2 : Int32} (k1 : 0 ≤ v2 → J mX11_off d 0 0 Q 0 0 32 [u0, u1, some (.inl v2), u3, u4, u5, u6, u7, u8] [] h) (k2 : ¬ 0 ≤ v2 → J mX11_off d 0 0 Q 0 0 29 [u0, u1, some (.inl v2), u3, u4, u5, u6, u7, u8] [] h) : J mX11_off d 0 0 Q 0 0 25 [u0, u1, some (.inl v2), u3, u4, u5, u6, u7, u8] [] h := by
  refine zrun 14 2 qX11_off (o := 11) rfl ?_
  show ((0 ≤ v2 → J mX11_off d 0 0 Q 0 0 32 [u0, u1, some (.inl v2), u3, u4, u5, u6, u7, u8] [] h) ∧ (¬ 0 ≤ v2 → J mX11_off d 0 0 Q 0 0 29 [u0, u1, some (.inl v2), u3, u4, u5, u6, u7, u8] [] h))
  exact ⟨k1, k2⟩

theorem bX11_off_29 {d : Nat} {Q : Option MV → MH → Prop} {h : MH} {u0 u1 u2 u3 u4 u5 u6 u7 u8 : Option MV} (k : Q (some (.inl (-(nI 3)))) h) : J mX11_off d 0 0 Q 0 0 29 [u0, u1, u2, u3, u4, u5, u6, u7, u8] [] h := by
  refine zrun 16 1 qX11_off (o := 11) rfl ?_
  show J mX11_off d 0 0 Q 0 0 31 [u0, u1, u2, u3, u4, u5, u6, u7, u8] [.inl (-(nI 3))] h
  exact J_iret (ty := .int) (zat qX11_off 17 (by rfl)) rfl rfl (Nat.le_refl 0) (Nat.le_refl 0) k

theorem bX11_off_32 {d : Nat} {Q : Option MV → MH → Prop} {h : MH} {u0 u1 u2 u4 u5 u6 u7 u8 : Option MV} {v3 : Int32} (k : J mX11_off d 0 0 Q 0 0 38 [u0, u1, u2, some (.inl v3), some (.inl (nI 1)), some (.inl (nI 0)), u6, u7, u8] [] h) : J mX11_off d 0 0 Q 0 0 32 [u0, u1, u2, some (.inl v3), u4, u5, u6, u7, u8] [] h := by
  refine zrun 18 4 qX11_off (o := 11) rfl ?_
  show J mX11_off d 0 0 Q 0 0 38 [u0, u1, u2, some (.inl v3), some (.inl (nI 1)), some (.inl (nI 0)), u6, u7, u8] [] h
  exact k

theorem bX11_off_38 {d : Nat} {Q : Option MV → MH → Prop} {h : MH} {u1 u2 u3 u4 u6 u7 u8 : Option MV} {v5 : Int32} (hr : zRf h) (g0 : vp_in (nI 0) 2166) (k1 : (h.1 112 0) ≤ v5 → J mX11_off d 0 0 Q 0 0 61 [some (.inr (.inr 111)), u1, u2, u3, u4, some (.inl v5), u6, u7, u8] [] h) (k2 : ¬ (h.1 112 0) ≤ v5 → J mX11_off d 0 0 Q 0 0 49 [some (.inr (.inr 111)), u1, u2, u3, u4, some (.inl v5), u6, u7, u8] [] h) : J mX11_off d 0 0 Q 0 0 38 [some (.inr (.inr 111)), u1, u2, u3, u4, some (.inl v5), u6, u7, u8] [] h := by
  refine zrun 22 6 qX11_off (o := 11) rfl ?_
  show zokO h 111 11 ∧ zokA h (h.2.2.1 111 1) 20 (nI 0) ∧ (((h.1 (h.2.2.1 111 1) 0) ≤ v5 → J mX11_off d 0 0 Q 0 0 61 [some (.inr (.inr 111)), u1, u2, u3, u4, some (.inl v5), u6, u7, u8] [] h) ∧ (¬ (h.1 (h.2.2.1 111 1) 0) ≤ v5 → J mX11_off d 0 0 Q 0 0 49 [some (.inr (.inr 111)), u1, u2, u3, u4, some (.inl v5), u6, u7, u8] [] h))
  rw [(show h.2.2.1 111 1 = 112 from (hr.at (by decide) (by decide) (by rfl)))]
  exact ⟨(zo hr (by decide) rfl), (zia hr (by decide) (by rfl) g0), k1, k2⟩

theorem bX11_off_49 {d : Nat} {Q : Option MV → MH → Prop} {h : MH} {u0 u1 u2 u6 u7 u8 : Option MV} {v4 v3 v5 : Int32} (k : J mX11_off d 0 0 Q 0 0 38 [u0, u1, u2, some (.inl v3), some (.inl (v4 * (nI 3))), some (.inl (v5 + nI 1)), u6, u7, u8] [] h) : J mX11_off d 0 0 Q 0 0 49 [u0, u1, u2, some (.inl v3), some (.inl v4), some (.inl v5), u6, u7, u8] [] h := by
  refine zrun 28 6 qX11_off (o := 11) rfl ?_
  show J mX11_off d 0 0 Q 0 0 38 [u0, u1, u2, some (.inl v3), some (.inl (v4 * (nI 3))), some (.inl (v5 + nI 1)), u6, u7, u8] [] h
  exact k

theorem bX11_off_61 {d : Nat} {Q : Option MV → MH → Prop} {h : MH} {u0 u1 u2 u3 u5 u6 u7 u8 : Option MV} {v4 : Int32} (k : J mX11_off d 0 0 Q 0 0 67 [u0, u1, u2, u3, some (.inl v4), some (.inl (-(nI 1))), some (.inl (nI 0)), u7, u8] [] h) : J mX11_off d 0 0 Q 0 0 61 [u0, u1, u2, u3, some (.inl v4), u5, u6, u7, u8] [] h := by
  refine zrun 34 4 qX11_off (o := 11) rfl ?_
  show J mX11_off d 0 0 Q 0 0 67 [u0, u1, u2, u3, some (.inl v4), some (.inl (-(nI 1))), some (.inl (nI 0)), u7, u8] [] h
  exact k

theorem bX11_off_67 {d : Nat} {Q : Option MV → MH → Prop} {h : MH} {u0 u1 u2 u3 u5 u7 u8 : Option MV} {v6 v4 : Int32} (k1 : v4 ≤ v6 → J mX11_off d 0 0 Q 0 0 232 [u0, u1, u2, u3, some (.inl v4), u5, some (.inl v6), u7, u8] [] h) (k2 : ¬ v4 ≤ v6 → J mX11_off d 0 0 Q 0 0 74 [u0, u1, u2, u3, some (.inl v4), u5, some (.inl v6), u7, u8] [] h) : J mX11_off d 0 0 Q 0 0 67 [u0, u1, u2, u3, some (.inl v4), u5, some (.inl v6), u7, u8] [] h := by
  refine zrun 38 3 qX11_off (o := 11) rfl ?_
  show ((v4 ≤ v6 → J mX11_off d 0 0 Q 0 0 232 [u0, u1, u2, u3, some (.inl v4), u5, some (.inl v6), u7, u8] [] h) ∧ (¬ v4 ≤ v6 → J mX11_off d 0 0 Q 0 0 74 [u0, u1, u2, u3, some (.inl v4), u5, some (.inl v6), u7, u8] [] h))
  exact ⟨k1, k2⟩

theorem bX11_off_74 {d d' : Nat} {Q : Option MV → MH → Prop} {h : MH} {u1 u2 u3 u4 u5 u6 u7 u8 : Option MV} (hr : zRf h) (hd : d' + 1 ≤ d) (k : Con mX11_asTold d' 0 0 [.inr (.inr 111)] h (zrv fun h' => J mX11_off d 0 0 Q 0 0 78 [some (.inr (.inr 111)), u1, u2, u3, u4, u5, u6, u7, u8] [] h')) : J mX11_off d 0 0 Q 0 0 74 [some (.inr (.inr 111)), u1, u2, u3, u4, u5, u6, u7, u8] [] h := by
  refine zrun 41 1 qX11_off (o := 11) rfl ?_
  show J mX11_off d 0 0 Q 0 0 75 [some (.inr (.inr 111)), u1, u2, u3, u4, u5, u6, u7, u8] [.inr (.inr 111)] h
  exact zcVv (as := []) (zat qX11_off 42 (by rfl)) l11_266 rfl hd rfl (Nat.le_of_ble_eq_true rfl) zle0 (ci := 11) (by decide) rfl (zo hr (by decide) rfl) k

theorem bX11_off_78 {d : Nat} {Q : Option MV → MH → Prop} {h : MH} {u0 u1 u2 u3 u4 u5 u7 u8 : Option MV} {v6 : Int32} (k : J mX11_off d 0 0 Q 0 0 85 [u0, u1, u2, u3, u4, u5, some (.inl v6), some (.inl v6), some (.inl (nI 0))] [] h) : J mX11_off d 0 0 Q 0 0 78 [u0, u1, u2, u3, u4, u5, some (.inl v6), u7, u8] [] h := by
  refine zrun 43 4 qX11_off (o := 11) rfl ?_
  show J mX11_off d 0 0 Q 0 0 85 [u0, u1, u2, u3, u4, u5, some (.inl v6), some (.inl v6), some (.inl (nI 0))] [] h
  exact k

theorem bX11_off_85 {d : Nat} {Q : Option MV → MH → Prop} {h : MH} {u1 u2 u3 u4 u5 u6 u7 : Option MV} {v8 : Int32} (hr : zRf h) (g0 : vp_in (nI 0) 2166) (k1 : (h.1 112 0) ≤ v8 → J mX11_off d 0 0 Q 0 0 149 [some (.inr (.inr 111)), u1, u2, u3, u4, u5, u6, u7, some (.inl v8)] [] h) (k2 : ¬ (h.1 112 0) ≤ v8 → J mX11_off d 0 0 Q 0 0 96 [some (.inr (.inr 111)), u1, u2, u3, u4, u5, u6, u7, some (.inl v8)] [] h) : J mX11_off d 0 0 Q 0 0 85 [some (.inr (.inr 111)), u1, u2, u3, u4, u5, u6, u7, some (.inl v8)] [] h := by
  refine zrun 47 6 qX11_off (o := 11) rfl ?_
  show zokO h 111 11 ∧ zokA h (h.2.2.1 111 1) 20 (nI 0) ∧ (((h.1 (h.2.2.1 111 1) 0) ≤ v8 → J mX11_off d 0 0 Q 0 0 149 [some (.inr (.inr 111)), u1, u2, u3, u4, u5, u6, u7, some (.inl v8)] [] h) ∧ (¬ (h.1 (h.2.2.1 111 1) 0) ≤ v8 → J mX11_off d 0 0 Q 0 0 96 [some (.inr (.inr 111)), u1, u2, u3, u4, u5, u6, u7, some (.inl v8)] [] h))
  rw [(show h.2.2.1 111 1 = 112 from (hr.at (by decide) (by decide) (by rfl)))]
  exact ⟨(zo hr (by decide) rfl), (zia hr (by decide) (by rfl) g0), k1, k2⟩

theorem bX11_off_96 {d d' : Nat} {Q : Option MV → MH → Prop} {h : MH} {u1 u2 u3 u4 u5 u6 u7 : Option MV} {v8 : Int32} (hr : zRf h) (hd : d' + 1 ≤ d) (k : Con mX11_restOf d' 0 0 [.inr (.inr 111), .inl v8] h (zri fun (x : Int32) h' => J mX11_off d 0 0 Q 0 0 108 [some (.inr (.inr 111)), u1, u2, u3, u4, u5, u6, u7, some (.inl v8)] [.inl x, .inl v8, .inr (.inr 116)] h')) : J mX11_off d 0 0 Q 0 0 96 [some (.inr (.inr 111)), u1, u2, u3, u4, u5, u6, u7, some (.inl v8)] [] h := by
  refine zrun 53 5 qX11_off (o := 11) rfl ?_
  show zokO h 111 11 ∧ J mX11_off d 0 0 Q 0 0 105 [some (.inr (.inr 111)), u1, u2, u3, u4, u5, u6, u7, some (.inl v8)] [.inl v8, .inr (.inr 111), .inl v8, .inr (.inr (h.2.2.1 111 15))] h
  rw [(show h.2.2.1 111 15 = 116 from (hr.at (by decide) (by decide) (by rfl)))]
  exact ⟨(zo hr (by decide) rfl), zcVi (as := [.inl v8]) (zat qX11_off 58 (by rfl)) l11_224 rfl hd rfl (Nat.le_of_ble_eq_true rfl) zle0 (ci := 11) (by decide) rfl (zo hr (by decide) rfl) k⟩

theorem bX11_off_108 {d : Nat} {Q : Option MV → MH → Prop} {h : MH} {u1 u2 u3 u4 u5 : Option MV} {vs1 vs2 v7 v8 v6 : Int32} {vs0 : Nat} (hr : zRf h) (g0 : vp_in ((nI 65) + v8) 2166) (g1 : zokA h vs0 20 vs1) (k : J mX11_off d 0 0 Q 0 0 85 [some (.inr (.inr 111)), u1, u2, u3, u4, u5, some (.inl v6), some (.inl (v7 / (nI 3))), some (.inl (v8 + nI 1))] [] (zsI h vs0 vs1.toNatClampNeg (((vs2 * ((nI 100) + (((v7 - v7 / (nI 3) * (nI 3)) - (nI 1)) * (h.1 112 ((nI 65) + v8).toNatClampNeg)))) / (nI 100)) * (nI 256)))) : J mX11_off d 0 0 Q 0 0 108 [some (.inr (.inr 111)), u1, u2, u3, u4, u5, some (.inl v6), some (.inl v7), some (.inl v8)] [.inl vs2, .inl vs1, .inr (.inr vs0)] h := by
  refine zrun 59 26 qX11_off (o := 11) rfl ?_
  show ¬ (nI 3) = 0 ∧ zokO h 111 11 ∧ zokA h (h.2.2.1 111 1) 20 ((nI 65) + v8) ∧ ¬ (nI 100) = 0 ∧ zokA h vs0 20 vs1 ∧ ¬ (nI 3) = 0 ∧ J mX11_off d 0 0 Q 0 0 85 [some (.inr (.inr 111)), u1, u2, u3, u4, u5, some (.inl v6), some (.inl (v7 / (nI 3))), some (.inl (v8 + nI 1))] [] (zsI h vs0 vs1.toNatClampNeg (((vs2 * ((nI 100) + (((v7 - v7 / (nI 3) * (nI 3)) - (nI 1)) * (h.1 (h.2.2.1 111 1) ((nI 65) + v8).toNatClampNeg)))) / (nI 100)) * (nI 256)))
  rw [(show h.2.2.1 111 1 = 112 from (hr.at (by decide) (by decide) (by rfl)))]
  exact ⟨(by decide), (zo hr (by decide) rfl), (zia hr (by decide) (by rfl) g0), (by decide), g1, (by decide), k⟩

theorem bX11_off_149 {d d' : Nat} {Q : Option MV → MH → Prop} {h : MH} {u2 u3 u4 u5 u6 u7 u8 : Option MV} {v1 : Int32} (hr : zRf h) (hd : d' + 1 ≤ d) (k : Con mX11_runs d' 0 0 [.inr (.inr 111), .inl v1, .inl (-(nI 1))] h (zrv fun h' => J mX11_off d 0 0 Q 0 0 155 [some (.inr (.inr 111)), some (.inl v1), u2, u3, u4, u5, u6, u7, u8] [] h')) : J mX11_off d 0 0 Q 0 0 149 [some (.inr (.inr 111)), some (.inl v1), u2, u3, u4, u5, u6, u7, u8] [] h := by
  refine zrun 85 3 qX11_off (o := 11) rfl ?_
  show J mX11_off d 0 0 Q 0 0 152 [some (.inr (.inr 111)), some (.inl v1), u2, u3, u4, u5, u6, u7, u8] [.inl (-(nI 1)), .inl v1, .inr (.inr 111)] h
  exact zcVv (as := [.inl v1, .inl (-(nI 1))]) (zat qX11_off 88 (by rfl)) l11_269 rfl hd rfl (Nat.le_of_ble_eq_true rfl) zle0 (ci := 11) (by decide) rfl (zo hr (by decide) rfl) k

theorem bX11_off_155 {d : Nat} {Q : Option MV → MH → Prop} {h : MH} {u1 u3 u4 u5 u6 u7 u8 : Option MV} {v2 : Int32} (hr : zRf h) (k1 : v2 < (h.1 111 25) → J mX11_off d 0 0 Q 0 0 166 [some (.inr (.inr 111)), u1, some (.inl v2), u3, u4, u5, u6, u7, u8] [] h) (k2 : ¬ v2 < (h.1 111 25) → J mX11_off d 0 0 Q 0 0 163 [some (.inr (.inr 111)), u1, some (.inl v2), u3, u4, u5, u6, u7, u8] [] h) : J mX11_off d 0 0 Q 0 0 155 [some (.inr (.inr 111)), u1, some (.inl v2), u3, u4, u5, u6, u7, u8] [] h := by
  refine zrun 89 4 qX11_off (o := 11) rfl ?_
  show zokO h 111 11 ∧ ((v2 < (h.1 111 25) → J mX11_off d 0 0 Q 0 0 166 [some (.inr (.inr 111)), u1, some (.inl v2), u3, u4, u5, u6, u7, u8] [] h) ∧ (¬ v2 < (h.1 111 25) → J mX11_off d 0 0 Q 0 0 163 [some (.inr (.inr 111)), u1, some (.inl v2), u3, u4, u5, u6, u7, u8] [] h))
  exact ⟨(zo hr (by decide) rfl), k1, k2⟩

theorem bX11_off_163 {d : Nat} {Q : Option MV → MH → Prop} {h : MH} {u0 u1 u2 u3 u4 u5 u6 u7 u8 : Option MV} (k : J mX11_off d 0 0 Q 0 0 226 [u0, u1, u2, u3, u4, u5, u6, u7, u8] [] h) : J mX11_off d 0 0 Q 0 0 163 [u0, u1, u2, u3, u4, u5, u6, u7, u8] [] h := by
  refine zrun 93 1 qX11_off (o := 11) rfl ?_
  show J mX11_off d 0 0 Q 0 0 226 [u0, u1, u2, u3, u4, u5, u6, u7, u8] [] h
  exact k

theorem bX11_off_166 {d : Nat} {Q : Option MV → MH → Prop} {h : MH} {u0 u1 u2 u3 u4 u6 u7 u8 : Option MV} {v5 : Int32} (k1 : v5 = (-(nI 1)) → J mX11_off d 0 0 Q 0 0 201 [u0, u1, u2, u3, u4, some (.inl v5), u6, u7, u8] [] h) (k2 : ¬ v5 = (-(nI 1)) → J mX11_off d 0 0 Q 0 0 172 [u0, u1, u2, u3, u4, some (.inl v5), u6, u7, u8] [] h) : J mX11_off d 0 0 Q 0 0 166 [u0, u1, u2, u3, u4, some (.inl v5), u6, u7, u8] [] h := by
  refine zrun 94 3 qX11_off (o := 11) rfl ?_
  show ((v5 = (-(nI 1)) → J mX11_off d 0 0 Q 0 0 201 [u0, u1, u2, u3, u4, some (.inl v5), u6, u7, u8] [] h) ∧ (¬ v5 = (-(nI 1)) → J mX11_off d 0 0 Q 0 0 172 [u0, u1, u2, u3, u4, some (.inl v5), u6, u7, u8] [] h))
  exact ⟨k1, k2⟩

theorem bX11_off_172 {d : Nat} {Q : Option MV → MH → Prop} {h : MH} {u0 u1 u2 u4 u5 u6 u7 u8 : Option MV} {v3 : Int32} (k1 : ¬ v3 = 0 → J mX11_off d 0 0 Q 0 0 190 [u0, u1, u2, some (.inl v3), u4, u5, u6, u7, u8] [] h) (k2 : v3 = 0 → J mX11_off d 0 0 Q 0 0 176 [u0, u1, u2, some (.inl v3), u4, u5, u6, u7, u8] [] h) : J mX11_off d 0 0 Q 0 0 172 [u0, u1, u2, some (.inl v3), u4, u5, u6, u7, u8] [] h := by
  refine zrun 97 2 qX11_off (o := 11) rfl ?_
  show ((¬ v3 = 0 → J mX11_off d 0 0 Q 0 0 190 [u0, u1, u2, some (.inl v3), u4, u5, u6, u7, u8] [] h) ∧ (v3 = 0 → J mX11_off d 0 0 Q 0 0 176 [u0, u1, u2, some (.inl v3), u4, u5, u6, u7, u8] [] h))
  exact ⟨k1, k2⟩

theorem bX11_off_176 {d : Nat} {Q : Option MV → MH → Prop} {h : MH} {u1 u3 u4 u6 u7 u8 : Option MV} {v2 v5 : Int32} (hr : zRf h) (g0 : vp_in v2 40) (k1 : v5 ≤ (h.1 124 v2.toNatClampNeg) → J mX11_off d 0 0 Q 0 0 205 [some (.inr (.inr 111)), u1, some (.inl v2), u3, u4, some (.inl v5), u6, u7, u8] [] h) (k2 : ¬ v5 ≤ (h.1 124 v2.toNatClampNeg) → J mX11_off d 0 0 Q 0 0 187 [some (.inr (.inr 111)), u1, some (.inl v2), u3, u4, some (.inl v5), u6, u7, u8] [] h) : J mX11_off d 0 0 Q 0 0 176 [some (.inr (.inr 111)), u1, some (.inl v2), u3, u4, some (.inl v5), u6, u7, u8] [] h := by
  refine zrun 99 6 qX11_off (o := 11) rfl ?_
  show zokO h 111 11 ∧ zokA h (h.2.2.1 111 23) 20 v2 ∧ ((v5 ≤ (h.1 (h.2.2.1 111 23) v2.toNatClampNeg) → J mX11_off d 0 0 Q 0 0 205 [some (.inr (.inr 111)), u1, some (.inl v2), u3, u4, some (.inl v5), u6, u7, u8] [] h) ∧ (¬ v5 ≤ (h.1 (h.2.2.1 111 23) v2.toNatClampNeg) → J mX11_off d 0 0 Q 0 0 187 [some (.inr (.inr 111)), u1, some (.inl v2), u3, u4, some (.inl v5), u6, u7, u8] [] h))
  rw [(show h.2.2.1 111 23 = 124 from (hr.at (by decide) (by decide) (by rfl)))]
  exact ⟨(zo hr (by decide) rfl), (zia hr (by decide) (by rfl) g0), k1, k2⟩

theorem bX11_off_187 {d : Nat} {Q : Option MV → MH → Prop} {h : MH} {u0 u1 u2 u3 u4 u5 u6 u7 u8 : Option MV} (k : J mX11_off d 0 0 Q 0 0 201 [u0, u1, u2, u3, u4, u5, u6, u7, u8] [] h) : J mX11_off d 0 0 Q 0 0 187 [u0, u1, u2, u3, u4, u5, u6, u7, u8] [] h := by
  refine zrun 105 1 qX11_off (o := 11) rfl ?_
  show J mX11_off d 0 0 Q 0 0 201 [u0, u1, u2, u3, u4, u5, u6, u7, u8] [] h
  exact k

theorem bX11_off_190 {d : Nat} {Q : Option MV → MH → Prop} {h : MH} {u1 u3 u4 u6 u7 u8 : Option MV} {v2 v5 : Int32} (hr : zRf h) (g0 : vp_in v2 40) (k1 : (h.1 124 v2.toNatClampNeg) ≤ v5 → J mX11_off d 0 0 Q 0 0 205 [some (.inr (.inr 111)), u1, some (.inl v2), u3, u4, some (.inl v5), u6, u7, u8] [] h) (k2 : ¬ (h.1 124 v2.toNatClampNeg) ≤ v5 → J mX11_off d 0 0 Q 0 0 201 [some (.inr (.inr 111)), u1, some (.inl v2), u3, u4, some (.inl v5), u6, u7, u8] [] h) : J mX11_off d 0 0 Q 0 0 190 [some (.inr (.inr 111)), u1, some (.inl v2), u3, u4, some (.inl v5), u6, u7, u8] [] h := by
  refine zrun 106 6 qX11_off (o := 11) rfl ?_
  show zokO h 111 11 ∧ zokA h (h.2.2.1 111 23) 20 v2 ∧ (((h.1 (h.2.2.1 111 23) v2.toNatClampNeg) ≤ v5 → J mX11_off d 0 0 Q 0 0 205 [some (.inr (.inr 111)), u1, some (.inl v2), u3, u4, some (.inl v5), u6, u7, u8] [] h) ∧ (¬ (h.1 (h.2.2.1 111 23) v2.toNatClampNeg) ≤ v5 → J mX11_off d 0 0 Q 0 0 201 [some (.inr (.inr 111)), u1, some (.inl v2), u3, u4, some (.inl v5), u6, u7, u8] [] h))
  rw [(show h.2.2.1 111 23 = 124 from (hr.at (by decide) (by decide) (by rfl)))]
  exact ⟨(zo hr (by decide) rfl), (zia hr (by decide) (by rfl) g0), k1, k2⟩

theorem bX11_off_201 {d : Nat} {Q : Option MV → MH → Prop} {h : MH} {u0 u1 u2 u3 u4 u5 u6 u7 u8 : Option MV} (k : J mX11_off d 0 0 Q 0 0 206 [u0, u1, u2, u3, u4, u5, u6, u7, u8] [.inl (nI 1)] h) : J mX11_off d 0 0 Q 0 0 201 [u0, u1, u2, u3, u4, u5, u6, u7, u8] [] h := by
  refine zrun 112 2 qX11_off (o := 11) rfl ?_
  show J mX11_off d 0 0 Q 0 0 206 [u0, u1, u2, u3, u4, u5, u6, u7, u8] [.inl (nI 1)] h
  exact k

theorem bX11_off_205 {d : Nat} {Q : Option MV → MH → Prop} {h : MH} {u0 u1 u2 u3 u4 u5 u6 u7 u8 : Option MV} (k : J mX11_off d 0 0 Q 0 0 206 [u0, u1, u2, u3, u4, u5, u6, u7, u8] [.inl (nI 0)] h) : J mX11_off d 0 0 Q 0 0 205 [u0, u1, u2, u3, u4, u5, u6, u7, u8] [] h := by
  refine zrun 114 1 qX11_off (o := 11) rfl ?_
  show J mX11_off d 0 0 Q 0 0 206 [u0, u1, u2, u3, u4, u5, u6, u7, u8] [.inl (nI 0)] h
  exact k

theorem bX11_off_206 {d : Nat} {Q : Option MV → MH → Prop} {h : MH} {u0 u1 u2 u3 u4 u5 u6 u8 : Option MV} {vs0 v7 : Int32} (k1 : vs0 = 0 → J mX11_off d 0 0 Q 0 0 222 [u0, u1, u2, u3, u4, u5, u6, some (.inl v7), some (.inl vs0)] [] h) (k2 : ¬ vs0 = 0 → J mX11_off d 0 0 Q 0 0 213 [u0, u1, u2, u3, u4, u5, u6, some (.inl v7), some (.inl vs0)] [] h) : J mX11_off d 0 0 Q 0 0 206 [u0, u1, u2, u3, u4, u5, u6, some (.inl v7), u8] [.inl vs0] h := by
  refine zrun 115 3 qX11_off (o := 11) rfl ?_
  show ((vs0 = 0 → J mX11_off d 0 0 Q 0 0 222 [u0, u1, u2, u3, u4, u5, u6, some (.inl v7), some (.inl vs0)] [] h) ∧ (¬ vs0 = 0 → J mX11_off d 0 0 Q 0 0 213 [u0, u1, u2, u3, u4, u5, u6, some (.inl v7), some (.inl vs0)] [] h))
  exact ⟨k1, k2⟩

theorem bX11_off_213 {d : Nat} {Q : Option MV → MH → Prop} {h : MH} {u1 u3 u4 u5 u6 u7 u8 : Option MV} {v2 : Int32} (hr : zRf h) (g0 : vp_in v2 40) (k : J mX11_off d 0 0 Q 0 0 224 [some (.inr (.inr 111)), u1, some (.inl v2), u3, u4, u5, u6, u7, u8] [.inl (h.1 124 v2.toNatClampNeg)] h) : J mX11_off d 0 0 Q 0 0 213 [some (.inr (.inr 111)), u1, some (.inl v2), u3, u4, u5, u6, u7, u8] [] h := by
  refine zrun 118 5 qX11_off (o := 11) rfl ?_
  show zokO h 111 11 ∧ zokA h (h.2.2.1 111 23) 20 v2 ∧ J mX11_off d 0 0 Q 0 0 224 [some (.inr (.inr 111)), u1, some (.inl v2), u3, u4, u5, u6, u7, u8] [.inl (h.1 (h.2.2.1 111 23) v2.toNatClampNeg)] h
  rw [(show h.2.2.1 111 23 = 124 from (hr.at (by decide) (by decide) (by rfl)))]
  exact ⟨(zo hr (by decide) rfl), (zia hr (by decide) (by rfl) g0), k⟩

theorem bX11_off_222 {d : Nat} {Q : Option MV → MH → Prop} {h : MH} {u0 u1 u2 u3 u4 u6 u7 u8 : Option MV} {v5 : Int32} (k : J mX11_off d 0 0 Q 0 0 224 [u0, u1, u2, u3, u4, some (.inl v5), u6, u7, u8] [.inl v5] h) : J mX11_off d 0 0 Q 0 0 222 [u0, u1, u2, u3, u4, some (.inl v5), u6, u7, u8] [] h := by
  refine zrun 123 1 qX11_off (o := 11) rfl ?_
  show J mX11_off d 0 0 Q 0 0 224 [u0, u1, u2, u3, u4, some (.inl v5), u6, u7, u8] [.inl v5] h
  exact k

theorem bX11_off_224 {d : Nat} {Q : Option MV → MH → Prop} {h : MH} {u0 u1 u2 u3 u5 u6 u7 u8 : Option MV} {vs0 v4 : Int32} (k : J mX11_off d 0 0 Q 0 0 226 [u0, u1, u2, u3, some (.inl v4), some (.inl vs0), u6, u7, u8] [] h) : J mX11_off d 0 0 Q 0 0 224 [u0, u1, u2, u3, some (.inl v4), u5, u6, u7, u8] [.inl vs0] h := by
  refine zrun 124 1 qX11_off (o := 11) rfl ?_
  show J mX11_off d 0 0 Q 0 0 226 [u0, u1, u2, u3, some (.inl v4), some (.inl vs0), u6, u7, u8] [] h
  exact k

theorem bX11_off_226 {d : Nat} {Q : Option MV → MH → Prop} {h : MH} {u0 u1 u2 u3 u4 u7 u8 : Option MV} {v6 v5 : Int32} (k : J mX11_off d 0 0 Q 0 0 67 [u0, u1, u2, u3, u4, some (.inl v5), some (.inl (v6 + nI 1)), u7, u8] [] h) : J mX11_off d 0 0 Q 0 0 226 [u0, u1, u2, u3, u4, some (.inl v5), some (.inl v6), u7, u8] [] h := by
  refine zrun 125 2 qX11_off (o := 11) rfl ?_
  show J mX11_off d 0 0 Q 0 0 67 [u0, u1, u2, u3, u4, some (.inl v5), some (.inl (v6 + nI 1)), u7, u8] [] h
  exact k

theorem bX11_off_232 {d : Nat} {Q : Option MV → MH → Prop} {h : MH} {u0 u1 u2 u3 u4 u6 u7 u8 : Option MV} {v5 : Int32} (k1 : ¬ v5 = (-(nI 1)) → J mX11_off d 0 0 Q 0 0 242 [u0, u1, u2, u3, u4, some (.inl v5), u6, u7, u8] [] h) (k2 : v5 = (-(nI 1)) → J mX11_off d 0 0 Q 0 0 238 [u0, u1, u2, u3, u4, some (.inl v5), u6, u7, u8] [] h) : J mX11_off d 0 0 Q 0 0 232 [u0, u1, u2, u3, u4, some (.inl v5), u6, u7, u8] [] h := by
  refine zrun 127 3 qX11_off (o := 11) rfl ?_
  show ((¬ v5 = (-(nI 1)) → J mX11_off d 0 0 Q 0 0 242 [u0, u1, u2, u3, u4, some (.inl v5), u6, u7, u8] [] h) ∧ (v5 = (-(nI 1)) → J mX11_off d 0 0 Q 0 0 238 [u0, u1, u2, u3, u4, some (.inl v5), u6, u7, u8] [] h))
  exact ⟨k1, k2⟩

theorem bX11_off_238 {d : Nat} {Q : Option MV → MH → Prop} {h : MH} {u0 u1 u2 u3 u4 u5 u6 u7 u8 : Option MV} (k : J mX11_off d 0 0 Q 0 0 248 [u0, u1, u2, u3, u4, u5, u6, u7, u8] [.inl (-(nI 1))] h) : J mX11_off d 0 0 Q 0 0 238 [u0, u1, u2, u3, u4, u5, u6, u7, u8] [] h := by
  refine zrun 130 2 qX11_off (o := 11) rfl ?_
  show J mX11_off d 0 0 Q 0 0 248 [u0, u1, u2, u3, u4, u5, u6, u7, u8] [.inl (-(nI 1))] h
  exact k

theorem bX11_off_242 {d : Nat} {Q : Option MV → MH → Prop} {h : MH} {u0 u1 u2 u3 u4 u6 u7 u8 : Option MV} {v5 : Int32} (k : J mX11_off d 0 0 Q 0 0 248 [u0, u1, u2, u3, u4, some (.inl v5), u6, u7, u8] [.inl (v5 / (nI 256))] h) : J mX11_off d 0 0 Q 0 0 242 [u0, u1, u2, u3, u4, some (.inl v5), u6, u7, u8] [] h := by
  refine zrun 132 3 qX11_off (o := 11) rfl ?_
  show ¬ (nI 256) = 0 ∧ J mX11_off d 0 0 Q 0 0 248 [u0, u1, u2, u3, u4, some (.inl v5), u6, u7, u8] [.inl (v5 / (nI 256))] h
  exact ⟨(by decide), k⟩

theorem bX11_off_248 {d : Nat} {Q : Option MV → MH → Prop} {h : MH} {u0 u1 u2 u3 u4 u5 u6 u7 u8 : Option MV} {vs0 : Int32} (k : Q (some (.inl vs0)) h) : J mX11_off d 0 0 Q 0 0 248 [u0, u1, u2, u3, u4, u5, u6, u7, u8] [.inl vs0] h := by
  exact J_iret (ty := .int) (zat qX11_off 135 (by rfl)) rfl rfl (Nat.le_refl 0) (Nat.le_refl 0) k

theorem bX11_night_0 {d d' : Nat} {Q : Option MV → MH → Prop} {h : MH} {u2 u3 u4 u5 u6 : Option MV} {v1 : Int32} (hr : zRf h) (hd : d' + 1 ≤ d) (k : Con mX11_isPlan d' 0 0 [.inl v1] (zsI h 111 0 (nI 0)) (zri fun (x : Int32) h' => J mX11_night d 0 0 Q 0 0 9 [some (.inr (.inr 111)), some (.inl v1), u2, u3, u4, u5, u6] [.inl x] h')) : J mX11_night d 0 0 Q 0 0 0 [some (.inr (.inr 111)), some (.inl v1), u2, u3, u4, u5, u6] [] h := by
  refine zrun 0 4 qX11_night (o := 11) rfl ?_
  show zokO h 111 11 ∧ J mX11_night d 0 0 Q 0 0 6 [some (.inr (.inr 111)), some (.inl v1), u2, u3, u4, u5, u6] [.inl v1] (zsI h 111 0 (nI 0))
  exact ⟨(zo hr (by decide) rfl), zcSi (as := [.inl v1]) (zat qX11_night 4 (by rfl)) l11_261 rfl hd rfl (Nat.le_of_ble_eq_true rfl) zle0 k⟩

theorem bX11_night_9 {d : Nat} {Q : Option MV → MH → Prop} {h : MH} {u0 u1 u2 u3 u4 u5 u6 : Option MV} {vs0 : Int32} (k1 : ¬ vs0 = 0 → J mX11_night d 0 0 Q 0 0 15 [u0, u1, u2, u3, u4, u5, u6] [] h) (k2 : vs0 = 0 → J mX11_night d 0 0 Q 0 0 12 [u0, u1, u2, u3, u4, u5, u6] [] h) : J mX11_night d 0 0 Q 0 0 9 [u0, u1, u2, u3, u4, u5, u6] [.inl vs0] h := by
  refine zrun 5 1 qX11_night (o := 11) rfl ?_
  show ((¬ vs0 = 0 → J mX11_night d 0 0 Q 0 0 15 [u0, u1, u2, u3, u4, u5, u6] [] h) ∧ (vs0 = 0 → J mX11_night d 0 0 Q 0 0 12 [u0, u1, u2, u3, u4, u5, u6] [] h))
  exact ⟨k1, k2⟩

theorem bX11_night_12 {d : Nat} {Q : Option MV → MH → Prop} {h : MH} {u0 u1 u2 u3 u4 u5 u6 : Option MV} (k : Q (some (.inl (-(nI 2)))) h) : J mX11_night d 0 0 Q 0 0 12 [u0, u1, u2, u3, u4, u5, u6] [] h := by
  refine zrun 6 1 qX11_night (o := 11) rfl ?_
  show J mX11_night d 0 0 Q 0 0 14 [u0, u1, u2, u3, u4, u5, u6] [.inl (-(nI 2))] h
  exact J_iret (ty := .int) (zat qX11_night 7 (by rfl)) rfl rfl (Nat.le_refl 0) (Nat.le_refl 0) k

theorem bX11_night_15 {d d' : Nat} {Q : Option MV → MH → Prop} {h : MH} {u1 u2 u3 u4 u5 u6 : Option MV} (hr : zRf h) (hd : d' + 1 ≤ d) (k : Con mX11_asTold d' 0 0 [.inr (.inr 111)] h (zrv fun h' => J mX11_night d 0 0 Q 0 0 19 [some (.inr (.inr 111)), u1, u2, u3, u4, u5, u6] [] h')) : J mX11_night d 0 0 Q 0 0 15 [some (.inr (.inr 111)), u1, u2, u3, u4, u5, u6] [] h := by
  refine zrun 8 1 qX11_night (o := 11) rfl ?_
  show J mX11_night d 0 0 Q 0 0 16 [some (.inr (.inr 111)), u1, u2, u3, u4, u5, u6] [.inr (.inr 111)] h
  exact zcVv (as := []) (zat qX11_night 9 (by rfl)) l11_266 rfl hd rfl (Nat.le_of_ble_eq_true rfl) zle0 (ci := 11) (by decide) rfl (zo hr (by decide) rfl) k

theorem bX11_night_19 {d : Nat} {Q : Option MV → MH → Prop} {h : MH} {u0 u1 u4 u5 u6 : Option MV} {v2 v3 : Int32} (k : J mX11_night d 0 0 Q 0 0 25 [u0, u1, some (.inl v2), some (.inl v3), some (.inl v2), some (.inl (nI 0)), u6] [] h) : J mX11_night d 0 0 Q 0 0 19 [u0, u1, some (.inl v2), some (.inl v3), u4, u5, u6] [] h := by
  refine zrun 10 4 qX11_night (o := 11) rfl ?_
  show J mX11_night d 0 0 Q 0 0 25 [u0, u1, some (.inl v2), some (.inl v3), some (.inl v2), some (.inl (nI 0)), u6] [] h
  exact k

theorem bX11_night_25 {d : Nat} {Q : Option MV → MH → Prop} {h : MH} {u1 u2 u3 u4 u6 : Option MV} {v5 : Int32} (hr : zRf h) (g0 : vp_in (nI 0) 2166) (k1 : (h.1 112 0) ≤ v5 → J mX11_night d 0 0 Q 0 0 105 [some (.inr (.inr 111)), u1, u2, u3, u4, some (.inl v5), u6] [] h) (k2 : ¬ (h.1 112 0) ≤ v5 → J mX11_night d 0 0 Q 0 0 36 [some (.inr (.inr 111)), u1, u2, u3, u4, some (.inl v5), u6] [] h) : J mX11_night d 0 0 Q 0 0 25 [some (.inr (.inr 111)), u1, u2, u3, u4, some (.inl v5), u6] [] h := by
  refine zrun 14 6 qX11_night (o := 11) rfl ?_
  show zokO h 111 11 ∧ zokA h (h.2.2.1 111 1) 20 (nI 0) ∧ (((h.1 (h.2.2.1 111 1) 0) ≤ v5 → J mX11_night d 0 0 Q 0 0 105 [some (.inr (.inr 111)), u1, u2, u3, u4, some (.inl v5), u6] [] h) ∧ (¬ (h.1 (h.2.2.1 111 1) 0) ≤ v5 → J mX11_night d 0 0 Q 0 0 36 [some (.inr (.inr 111)), u1, u2, u3, u4, some (.inl v5), u6] [] h))
  rw [(show h.2.2.1 111 1 = 112 from (hr.at (by decide) (by decide) (by rfl)))]
  exact ⟨(zo hr (by decide) rfl), (zia hr (by decide) (by rfl) g0), k1, k2⟩

theorem bX11_night_36 {d d' : Nat} {Q : Option MV → MH → Prop} {h : MH} {u1 u2 u6 : Option MV} {v4 v3 v5 : Int32} (hr : zRf h) (g0 : vp_in ((nI 65) + v5) 2166) (hd : d' + 1 ≤ d) (k : Con mX11_restOf d' 0 0 [.inr (.inr 111), .inl v5] h (zri fun (x : Int32) h' => J mX11_night d 0 0 Q 0 0 72 [some (.inr (.inr 111)), u1, u2, some (.inl v3), some (.inl (((1103515245 : Int32) * v4) + (nI 12345))), some (.inl v5), some (.inl (h.1 112 ((nI 65) + v5).toNatClampNeg))] [.inl x, .inl v5, .inr (.inr 116)] h')) : J mX11_night d 0 0 Q 0 0 36 [some (.inr (.inr 111)), u1, u2, some (.inl v3), some (.inl v4), some (.inl v5), u6] [] h := by
  refine zrun 20 18 qX11_night (o := 11) rfl ?_
  show zokO h 111 11 ∧ zokA h (h.2.2.1 111 1) 20 ((nI 65) + v5) ∧ zokO h 111 11 ∧ J mX11_night d 0 0 Q 0 0 69 [some (.inr (.inr 111)), u1, u2, some (.inl v3), some (.inl (((1103515245 : Int32) * v4) + (nI 12345))), some (.inl v5), some (.inl (h.1 (h.2.2.1 111 1) ((nI 65) + v5).toNatClampNeg))] [.inl v5, .inr (.inr 111), .inl v5, .inr (.inr (h.2.2.1 111 15))] h
  rw [(show h.2.2.1 111 1 = 112 from (hr.at (by decide) (by decide) (by rfl))), (show h.2.2.1 111 15 = 116 from (hr.at (by decide) (by decide) (by rfl)))]
  exact ⟨(zo hr (by decide) rfl), (zia hr (by decide) (by rfl) g0), (zo hr (by decide) rfl), zcVi (as := [.inl v5]) (zat qX11_night 38 (by rfl)) l11_224 rfl hd rfl (Nat.le_of_ble_eq_true rfl) zle0 (ci := 11) (by decide) rfl (zo hr (by decide) rfl) k⟩

theorem bX11_night_72 {d : Nat} {Q : Option MV → MH → Prop} {h : MH} {u0 u1 u2 u3 : Option MV} {vs1 vs2 v4 v6 v5 : Int32} {vs0 : Nat} (g0 : ¬ (((nI 2) * v6) + (nI 1)) = 0) (g1 : zokA h vs0 20 vs1) (k : J mX11_night d 0 0 Q 0 0 25 [u0, u1, u2, u3, some (.inl v4), some (.inl (v5 + nI 1)), some (.inl v6)] [] (zsI h vs0 vs1.toNatClampNeg (((vs2 * (((nI 100) + (((v4.toUInt32 >>> ((nI 16).toUInt32 &&& Int32.toUInt32 31)).toInt32) - ((v4.toUInt32 >>> ((nI 16).toUInt32 &&& Int32.toUInt32 31)).toInt32) / (((nI 2) * v6) + (nI 1)) * (((nI 2) * v6) + (nI 1)))) - v6)) / (nI 100)) * (nI 256)))) : J mX11_night d 0 0 Q 0 0 72 [u0, u1, u2, u3, some (.inl v4), some (.inl v5), some (.inl v6)] [.inl vs2, .inl vs1, .inr (.inr vs0)] h := by
  refine zrun 39 21 qX11_night (o := 11) rfl ?_
  show ¬ (((nI 2) * v6) + (nI 1)) = 0 ∧ ¬ (nI 100) = 0 ∧ zokA h vs0 20 vs1 ∧ J mX11_night d 0 0 Q 0 0 25 [u0, u1, u2, u3, some (.inl v4), some (.inl (v5 + nI 1)), some (.inl v6)] [] (zsI h vs0 vs1.toNatClampNeg (((vs2 * (((nI 100) + (((v4.toUInt32 >>> ((nI 16).toUInt32 &&& Int32.toUInt32 31)).toInt32) - ((v4.toUInt32 >>> ((nI 16).toUInt32 &&& Int32.toUInt32 31)).toInt32) / (((nI 2) * v6) + (nI 1)) * (((nI 2) * v6) + (nI 1)))) - v6)) / (nI 100)) * (nI 256)))
  exact ⟨g0, (by decide), g1, k⟩

theorem bX11_night_105 {d d' : Nat} {Q : Option MV → MH → Prop} {h : MH} {u2 u3 u4 u5 u6 : Option MV} {v1 : Int32} (hr : zRf h) (hd : d' + 1 ≤ d) (k : Con mX11_runs d' 0 0 [.inr (.inr 111), .inl v1, .inl (-(nI 1))] h (zrv fun h' => J mX11_night d 0 0 Q 0 0 111 [some (.inr (.inr 111)), some (.inl v1), u2, u3, u4, u5, u6] [] h')) : J mX11_night d 0 0 Q 0 0 105 [some (.inr (.inr 111)), some (.inl v1), u2, u3, u4, u5, u6] [] h := by
  refine zrun 60 3 qX11_night (o := 11) rfl ?_
  show J mX11_night d 0 0 Q 0 0 108 [some (.inr (.inr 111)), some (.inl v1), u2, u3, u4, u5, u6] [.inl (-(nI 1)), .inl v1, .inr (.inr 111)] h
  exact zcVv (as := [.inl v1, .inl (-(nI 1))]) (zat qX11_night 63 (by rfl)) l11_269 rfl hd rfl (Nat.le_of_ble_eq_true rfl) zle0 (ci := 11) (by decide) rfl (zo hr (by decide) rfl) k

theorem bX11_night_111 {d d' : Nat} {Q : Option MV → MH → Prop} {h : MH} {u1 u2 u4 u5 u6 : Option MV} {v3 : Int32} (hr : zRf h) (hd : d' + 1 ≤ d) (k : Con mX11_within d' 0 0 [.inr (.inl v3.toInt64), .inr (.inl (lN 0)), .inr (.inl (((h.1 111 25) - (nI 1)).toInt64))] h (zri fun (x : Int32) h' => J mX11_night d 0 0 Q 0 0 124 [some (.inr (.inr 111)), u1, u2, some (.inl v3), u4, u5, u6] [.inl x] h')) : J mX11_night d 0 0 Q 0 0 111 [some (.inr (.inr 111)), u1, u2, some (.inl v3), u4, u5, u6] [] h := by
  refine zrun 64 8 qX11_night (o := 11) rfl ?_
  show zokO h 111 11 ∧ J mX11_night d 0 0 Q 0 0 121 [some (.inr (.inr 111)), u1, u2, some (.inl v3), u4, u5, u6] [.inr (.inl (((h.1 111 25) - (nI 1)).toInt64)), .inr (.inl (lN 0)), .inr (.inl v3.toInt64)] h
  exact ⟨(zo hr (by decide) rfl), zcSi (as := [.inr (.inl v3.toInt64), .inr (.inl (lN 0)), .inr (.inl (((h.1 111 25) - (nI 1)).toInt64))]) (zat qX11_night 72 (by rfl)) l11_178 rfl hd rfl (Nat.le_of_ble_eq_true rfl) zle0 k⟩

theorem bX11_night_124 {d : Nat} {Q : Option MV → MH → Prop} {h : MH} {u0 u1 u2 u3 u4 u5 u6 : Option MV} {vs0 : Int32} (k1 : vs0 = 0 → J mX11_night d 0 0 Q 0 0 140 [u0, u1, u2, u3, u4, u5, u6] [] h) (k2 : ¬ vs0 = 0 → J mX11_night d 0 0 Q 0 0 127 [u0, u1, u2, u3, u4, u5, u6] [] h) : J mX11_night d 0 0 Q 0 0 124 [u0, u1, u2, u3, u4, u5, u6] [.inl vs0] h := by
  refine zrun 73 1 qX11_night (o := 11) rfl ?_
  show ((vs0 = 0 → J mX11_night d 0 0 Q 0 0 140 [u0, u1, u2, u3, u4, u5, u6] [] h) ∧ (¬ vs0 = 0 → J mX11_night d 0 0 Q 0 0 127 [u0, u1, u2, u3, u4, u5, u6] [] h))
  exact ⟨k1, k2⟩

theorem bX11_night_127 {d : Nat} {Q : Option MV → MH → Prop} {h : MH} {u1 u2 u4 u5 u6 : Option MV} {v3 : Int32} (hr : zRf h) (g0 : vp_in v3 40) (k : J mX11_night d 0 0 Q 0 0 141 [some (.inr (.inr 111)), u1, u2, some (.inl v3), u4, u5, u6] [.inl ((h.1 124 v3.toNatClampNeg) / (nI 256))] h) : J mX11_night d 0 0 Q 0 0 127 [some (.inr (.inr 111)), u1, u2, some (.inl v3), u4, u5, u6] [] h := by
  refine zrun 74 7 qX11_night (o := 11) rfl ?_
  show zokO h 111 11 ∧ zokA h (h.2.2.1 111 23) 20 v3 ∧ ¬ (nI 256) = 0 ∧ J mX11_night d 0 0 Q 0 0 141 [some (.inr (.inr 111)), u1, u2, some (.inl v3), u4, u5, u6] [.inl ((h.1 (h.2.2.1 111 23) v3.toNatClampNeg) / (nI 256))] h
  rw [(show h.2.2.1 111 23 = 124 from (hr.at (by decide) (by decide) (by rfl)))]
  exact ⟨(zo hr (by decide) rfl), (zia hr (by decide) (by rfl) g0), (by decide), k⟩

theorem bX11_night_140 {d : Nat} {Q : Option MV → MH → Prop} {h : MH} {u0 u1 u2 u3 u4 u5 u6 : Option MV} (k : J mX11_night d 0 0 Q 0 0 141 [u0, u1, u2, u3, u4, u5, u6] [.inl (-(nI 1))] h) : J mX11_night d 0 0 Q 0 0 140 [u0, u1, u2, u3, u4, u5, u6] [] h := by
  refine zrun 81 1 qX11_night (o := 11) rfl ?_
  show J mX11_night d 0 0 Q 0 0 141 [u0, u1, u2, u3, u4, u5, u6] [.inl (-(nI 1))] h
  exact k

theorem bX11_night_141 {d : Nat} {Q : Option MV → MH → Prop} {h : MH} {u0 u1 u2 u3 u4 u5 u6 : Option MV} {vs0 : Int32} (k : Q (some (.inl vs0)) h) : J mX11_night d 0 0 Q 0 0 141 [u0, u1, u2, u3, u4, u5, u6] [.inl vs0] h := by
  exact J_iret (ty := .int) (zat qX11_night 82 (by rfl)) rfl rfl (Nat.le_refl 0) (Nat.le_refl 0) k

theorem bX11_hears_0 {d d' : Nat} {Q : Option MV → MH → Prop} {h : MH} {u1 u2 : Option MV} (hr : zRf h) (hd : d' + 1 ≤ d) (k : Con mX11_asTold d' 0 0 [.inr (.inr 111)] h (zrv fun h' => J mX11_hears d 0 0 Q 0 0 4 [some (.inr (.inr 111)), u1, u2] [] h')) : J mX11_hears d 0 0 Q 0 0 0 [some (.inr (.inr 111)), u1, u2] [] h := by
  refine zrun 0 1 qX11_hears (o := 11) rfl ?_
  show J mX11_hears d 0 0 Q 0 0 1 [some (.inr (.inr 111)), u1, u2] [.inr (.inr 111)] h
  exact zcVv (as := []) (zat qX11_hears 1 (by rfl)) l11_266 rfl hd rfl (Nat.le_of_ble_eq_true rfl) zle0 (ci := 11) (by decide) rfl (zo hr (by decide) rfl) k

theorem bX11_hears_4 {d d' : Nat} {Q : Option MV → MH → Prop} {h : MH} {u2 : Option MV} {v1 : Int32} (hr : zRf h) (hd : d' + 1 ≤ d) (k : Con mX11_runs d' 0 0 [.inr (.inr 111), .inl v1, .inl (-(nI 1))] h (zrv fun h' => J mX11_hears d 0 0 Q 0 0 10 [some (.inr (.inr 111)), some (.inl v1), u2] [] h')) : J mX11_hears d 0 0 Q 0 0 4 [some (.inr (.inr 111)), some (.inl v1), u2] [] h := by
  refine zrun 2 3 qX11_hears (o := 11) rfl ?_
  show J mX11_hears d 0 0 Q 0 0 7 [some (.inr (.inr 111)), some (.inl v1), u2] [.inl (-(nI 1)), .inl v1, .inr (.inr 111)] h
  exact zcVv (as := [.inl v1, .inl (-(nI 1))]) (zat qX11_hears 5 (by rfl)) l11_269 rfl hd rfl (Nat.le_of_ble_eq_true rfl) zle0 (ci := 11) (by decide) rfl (zo hr (by decide) rfl) k

theorem bX11_hears_10 {d : Nat} {Q : Option MV → MH → Prop} {h : MH} {u2 : Option MV} {v1 : Int32} (hr : zRf h) (k : J mX11_hears d 0 0 Q 0 0 20 [some (.inr (.inr 111)), some (.inl v1), some (.inl (nI 0))] [] (zsI h 111 32 (h.1 111 25))) : J mX11_hears d 0 0 Q 0 0 10 [some (.inr (.inr 111)), some (.inl v1), u2] [] h := by
  refine zrun 6 6 qX11_hears (o := 11) rfl ?_
  show zokO h 111 11 ∧ zokO h 111 11 ∧ J mX11_hears d 0 0 Q 0 0 20 [some (.inr (.inr 111)), some (.inl v1), some (.inl (nI 0))] [] (zsI h 111 32 (h.1 111 25))
  exact ⟨(zo hr (by decide) rfl), (zo hr (by decide) rfl), k⟩

theorem bX11_hears_20 {d : Nat} {Q : Option MV → MH → Prop} {h : MH} {u1 : Option MV} {v2 : Int32} (hr : zRf h) (k1 : (h.1 111 25) ≤ v2 → J mX11_hears d 0 0 Q 0 0 50 [some (.inr (.inr 111)), u1, some (.inl v2)] [] h) (k2 : ¬ (h.1 111 25) ≤ v2 → J mX11_hears d 0 0 Q 0 0 28 [some (.inr (.inr 111)), u1, some (.inl v2)] [] h) : J mX11_hears d 0 0 Q 0 0 20 [some (.inr (.inr 111)), u1, some (.inl v2)] [] h := by
  refine zrun 12 4 qX11_hears (o := 11) rfl ?_
  show zokO h 111 11 ∧ (((h.1 111 25) ≤ v2 → J mX11_hears d 0 0 Q 0 0 50 [some (.inr (.inr 111)), u1, some (.inl v2)] [] h) ∧ (¬ (h.1 111 25) ≤ v2 → J mX11_hears d 0 0 Q 0 0 28 [some (.inr (.inr 111)), u1, some (.inl v2)] [] h))
  exact ⟨(zo hr (by decide) rfl), k1, k2⟩

theorem bX11_hears_28 {d : Nat} {Q : Option MV → MH → Prop} {h : MH} {v2 v1 : Int32} (hr : zRf h) (g0 : vp_in v2 40) (k : J mX11_hears d 0 0 Q 0 0 20 [some (.inr (.inr 111)), some (.inl v1), some (.inl (v2 + nI 1))] [] (zsI h 126 v2.toNatClampNeg ((h.1 124 v2.toNatClampNeg) / (nI 256)))) : J mX11_hears d 0 0 Q 0 0 28 [some (.inr (.inr 111)), some (.inl v1), some (.inl v2)] [] h := by
  refine zrun 16 12 qX11_hears (o := 11) rfl ?_
  show zokO h 111 11 ∧ zokO h 111 11 ∧ zokA h (h.2.2.1 111 23) 20 v2 ∧ ¬ (nI 256) = 0 ∧ zokA h (h.2.2.1 111 31) 20 v2 ∧ J mX11_hears d 0 0 Q 0 0 20 [some (.inr (.inr 111)), some (.inl v1), some (.inl (v2 + nI 1))] [] (zsI h (h.2.2.1 111 31) v2.toNatClampNeg ((h.1 (h.2.2.1 111 23) v2.toNatClampNeg) / (nI 256)))
  rw [(show h.2.2.1 111 31 = 126 from (hr.at (by decide) (by decide) (by rfl))), (show h.2.2.1 111 23 = 124 from (hr.at (by decide) (by decide) (by rfl)))]
  exact ⟨(zo hr (by decide) rfl), (zo hr (by decide) rfl), (zia hr (by decide) (by rfl) g0), (by decide), (zia hr (by decide) (by rfl) g0), k⟩

theorem bX11_hears_50 {d : Nat} {Q : Option MV → MH → Prop} {h : MH} {u0 u1 u2 : Option MV} (k : Q none h) : J mX11_hears d 0 0 Q 0 0 50 [u0, u1, u2] [] h := by
  exact J_vret (zat qX11_hears 28 (by rfl)) rfl (Nat.le_refl 0) (Nat.le_refl 0) k

theorem bX11_chime_0 {d d' : Nat} {Q : Option MV → MH → Prop} {h : MH} {u2 u3 u4 u5 : Option MV} {v1 : Int32} (hr : zRf h) (hd : d' + 1 ≤ d) (k : Con mX11_isPlan d' 0 0 [.inl v1] (zsI h 111 0 (nI 0)) (zri fun (x : Int32) h' => J mX11_chime d 0 0 Q 0 0 9 [some (.inr (.inr 111)), some (.inl v1), u2, u3, u4, u5] [.inl x] h')) : J mX11_chime d 0 0 Q 0 0 0 [some (.inr (.inr 111)), some (.inl v1), u2, u3, u4, u5] [] h := by
  refine zrun 0 4 qX11_chime (o := 11) rfl ?_
  show zokO h 111 11 ∧ J mX11_chime d 0 0 Q 0 0 6 [some (.inr (.inr 111)), some (.inl v1), u2, u3, u4, u5] [.inl v1] (zsI h 111 0 (nI 0))
  exact ⟨(zo hr (by decide) rfl), zcSi (as := [.inl v1]) (zat qX11_chime 4 (by rfl)) l11_261 rfl hd rfl (Nat.le_of_ble_eq_true rfl) zle0 k⟩

theorem bX11_chime_9 {d : Nat} {Q : Option MV → MH → Prop} {h : MH} {u0 u1 u2 u3 u4 u5 : Option MV} {vs0 : Int32} (k1 : vs0 = 0 → J mX11_chime d 0 0 Q 0 0 19 [u0, u1, u2, u3, u4, u5] [] h) (k2 : ¬ vs0 = 0 → J mX11_chime d 0 0 Q 0 0 12 [u0, u1, u2, u3, u4, u5] [] h) : J mX11_chime d 0 0 Q 0 0 9 [u0, u1, u2, u3, u4, u5] [.inl vs0] h := by
  refine zrun 5 1 qX11_chime (o := 11) rfl ?_
  show ((vs0 = 0 → J mX11_chime d 0 0 Q 0 0 19 [u0, u1, u2, u3, u4, u5] [] h) ∧ (¬ vs0 = 0 → J mX11_chime d 0 0 Q 0 0 12 [u0, u1, u2, u3, u4, u5] [] h))
  exact ⟨k1, k2⟩

theorem bX11_chime_12 {d d' : Nat} {Q : Option MV → MH → Prop} {h : MH} {u0 u1 u3 u4 u5 : Option MV} {v2 : Int32} (hd : d' + 1 ≤ d) (k : Con mX11_isPlan d' 0 0 [.inl v2] h (zri fun (x : Int32) h' => J mX11_chime d 0 0 Q 0 0 16 [u0, u1, some (.inl v2), u3, u4, u5] [.inl x] h')) : J mX11_chime d 0 0 Q 0 0 12 [u0, u1, some (.inl v2), u3, u4, u5] [] h := by
  refine zrun 6 1 qX11_chime (o := 11) rfl ?_
  show J mX11_chime d 0 0 Q 0 0 13 [u0, u1, some (.inl v2), u3, u4, u5] [.inl v2] h
  exact zcSi (as := [.inl v2]) (zat qX11_chime 7 (by rfl)) l11_261 rfl hd rfl (Nat.le_of_ble_eq_true rfl) zle0 k

theorem bX11_chime_16 {d : Nat} {Q : Option MV → MH → Prop} {h : MH} {u0 u1 u2 u3 u4 u5 : Option MV} {vs0 : Int32} (k1 : ¬ vs0 = 0 → J mX11_chime d 0 0 Q 0 0 22 [u0, u1, u2, u3, u4, u5] [] h) (k2 : vs0 = 0 → J mX11_chime d 0 0 Q 0 0 19 [u0, u1, u2, u3, u4, u5] [] h) : J mX11_chime d 0 0 Q 0 0 16 [u0, u1, u2, u3, u4, u5] [.inl vs0] h := by
  refine zrun 8 1 qX11_chime (o := 11) rfl ?_
  show ((¬ vs0 = 0 → J mX11_chime d 0 0 Q 0 0 22 [u0, u1, u2, u3, u4, u5] [] h) ∧ (vs0 = 0 → J mX11_chime d 0 0 Q 0 0 19 [u0, u1, u2, u3, u4, u5] [] h))
  exact ⟨k1, k2⟩

theorem bX11_chime_19 {d : Nat} {Q : Option MV → MH → Prop} {h : MH} {u0 u1 u2 u3 u4 u5 : Option MV} (k : Q (some (.inl (-(nI 2)))) h) : J mX11_chime d 0 0 Q 0 0 19 [u0, u1, u2, u3, u4, u5] [] h := by
  refine zrun 9 1 qX11_chime (o := 11) rfl ?_
  show J mX11_chime d 0 0 Q 0 0 21 [u0, u1, u2, u3, u4, u5] [.inl (-(nI 2))] h
  exact J_iret (ty := .int) (zat qX11_chime 10 (by rfl)) rfl rfl (Nat.le_refl 0) (Nat.le_refl 0) k

theorem bX11_chime_22 {d d' : Nat} {Q : Option MV → MH → Prop} {h : MH} {u2 u3 u4 u5 : Option MV} {v1 : Int32} (hr : zRf h) (hd : d' + 1 ≤ d) (k : Con mX11_hears d' 0 0 [.inr (.inr 111), .inl v1] h (zrv fun h' => J mX11_chime d 0 0 Q 0 0 27 [some (.inr (.inr 111)), some (.inl v1), u2, u3, u4, u5] [] h')) : J mX11_chime d 0 0 Q 0 0 22 [some (.inr (.inr 111)), some (.inl v1), u2, u3, u4, u5] [] h := by
  refine zrun 11 2 qX11_chime (o := 11) rfl ?_
  show J mX11_chime d 0 0 Q 0 0 24 [some (.inr (.inr 111)), some (.inl v1), u2, u3, u4, u5] [.inl v1, .inr (.inr 111)] h
  exact zcVv (as := [.inl v1]) (zat qX11_chime 13 (by rfl)) l11_281 rfl hd rfl (Nat.le_of_ble_eq_true rfl) zle0 (ci := 11) (by decide) rfl (zo hr (by decide) rfl) k

theorem bX11_chime_27 {d d' : Nat} {Q : Option MV → MH → Prop} {h : MH} {u1 u2 u3 u4 u5 : Option MV} (hr : zRf h) (hd : d' + 1 ≤ d) (k : Con mX11_asTold d' 0 0 [.inr (.inr 111)] h (zrv fun h' => J mX11_chime d 0 0 Q 0 0 31 [some (.inr (.inr 111)), u1, u2, u3, u4, u5] [] h')) : J mX11_chime d 0 0 Q 0 0 27 [some (.inr (.inr 111)), u1, u2, u3, u4, u5] [] h := by
  refine zrun 14 1 qX11_chime (o := 11) rfl ?_
  show J mX11_chime d 0 0 Q 0 0 28 [some (.inr (.inr 111)), u1, u2, u3, u4, u5] [.inr (.inr 111)] h
  exact zcVv (as := []) (zat qX11_chime 15 (by rfl)) l11_266 rfl hd rfl (Nat.le_of_ble_eq_true rfl) zle0 (ci := 11) (by decide) rfl (zo hr (by decide) rfl) k

theorem bX11_chime_31 {d d' : Nat} {Q : Option MV → MH → Prop} {h : MH} {u1 u3 u4 u5 : Option MV} {v2 : Int32} (hr : zRf h) (hd : d' + 1 ≤ d) (k : Con mX11_runs d' 0 0 [.inr (.inr 111), .inl v2, .inl (-(nI 1))] h (zrv fun h' => J mX11_chime d 0 0 Q 0 0 37 [some (.inr (.inr 111)), u1, some (.inl v2), u3, u4, u5] [] h')) : J mX11_chime d 0 0 Q 0 0 31 [some (.inr (.inr 111)), u1, some (.inl v2), u3, u4, u5] [] h := by
  refine zrun 16 3 qX11_chime (o := 11) rfl ?_
  show J mX11_chime d 0 0 Q 0 0 34 [some (.inr (.inr 111)), u1, some (.inl v2), u3, u4, u5] [.inl (-(nI 1)), .inl v2, .inr (.inr 111)] h
  exact zcVv (as := [.inl v2, .inl (-(nI 1))]) (zat qX11_chime 19 (by rfl)) l11_269 rfl hd rfl (Nat.le_of_ble_eq_true rfl) zle0 (ci := 11) (by decide) rfl (zo hr (by decide) rfl) k

theorem bX11_chime_37 {d : Nat} {Q : Option MV → MH → Prop} {h : MH} {u0 u1 u3 u4 u5 : Option MV} {v2 : Int32} (k : J mX11_chime d 0 0 Q 0 0 42 [u0, u1, some (.inl v2), some (.inl (nI 0)), some (.inl (nI 0)), u5] [] h) : J mX11_chime d 0 0 Q 0 0 37 [u0, u1, some (.inl v2), u3, u4, u5] [] h := by
  refine zrun 20 4 qX11_chime (o := 11) rfl ?_
  show J mX11_chime d 0 0 Q 0 0 42 [u0, u1, some (.inl v2), some (.inl (nI 0)), some (.inl (nI 0)), u5] [] h
  exact k

theorem bX11_chime_42 {d : Nat} {Q : Option MV → MH → Prop} {h : MH} {u1 u2 u3 u5 : Option MV} {v4 : Int32} (hr : zRf h) (k1 : (h.1 111 32) ≤ v4 → J mX11_chime d 0 0 Q 0 0 104 [some (.inr (.inr 111)), u1, u2, u3, some (.inl v4), u5] [] h) (k2 : ¬ (h.1 111 32) ≤ v4 → J mX11_chime d 0 0 Q 0 0 51 [some (.inr (.inr 111)), u1, u2, u3, some (.inl v4), u5] [] h) : J mX11_chime d 0 0 Q 0 0 42 [some (.inr (.inr 111)), u1, u2, u3, some (.inl v4), u5] [] h := by
  refine zrun 24 4 qX11_chime (o := 11) rfl ?_
  show zokO h 111 11 ∧ (((h.1 111 32) ≤ v4 → J mX11_chime d 0 0 Q 0 0 104 [some (.inr (.inr 111)), u1, u2, u3, some (.inl v4), u5] [] h) ∧ (¬ (h.1 111 32) ≤ v4 → J mX11_chime d 0 0 Q 0 0 51 [some (.inr (.inr 111)), u1, u2, u3, some (.inl v4), u5] [] h))
  exact ⟨(zo hr (by decide) rfl), k1, k2⟩

theorem bX11_chime_51 {d : Nat} {Q : Option MV → MH → Prop} {h : MH} {u0 u1 u2 u3 u5 : Option MV} {v4 : Int32} (k : J mX11_chime d 0 0 Q 0 0 54 [u0, u1, u2, u3, some (.inl v4), some (.inl (nI 0))] [] h) : J mX11_chime d 0 0 Q 0 0 51 [u0, u1, u2, u3, some (.inl v4), u5] [] h := by
  refine zrun 28 2 qX11_chime (o := 11) rfl ?_
  show J mX11_chime d 0 0 Q 0 0 54 [u0, u1, u2, u3, some (.inl v4), some (.inl (nI 0))] [] h
  exact k

theorem bX11_chime_54 {d : Nat} {Q : Option MV → MH → Prop} {h : MH} {u1 u2 u3 u4 : Option MV} {v5 : Int32} (hr : zRf h) (k1 : (h.1 111 25) ≤ v5 → J mX11_chime d 0 0 Q 0 0 98 [some (.inr (.inr 111)), u1, u2, u3, u4, some (.inl v5)] [] h) (k2 : ¬ (h.1 111 25) ≤ v5 → J mX11_chime d 0 0 Q 0 0 63 [some (.inr (.inr 111)), u1, u2, u3, u4, some (.inl v5)] [] h) : J mX11_chime d 0 0 Q 0 0 54 [some (.inr (.inr 111)), u1, u2, u3, u4, some (.inl v5)] [] h := by
  refine zrun 30 4 qX11_chime (o := 11) rfl ?_
  show zokO h 111 11 ∧ (((h.1 111 25) ≤ v5 → J mX11_chime d 0 0 Q 0 0 98 [some (.inr (.inr 111)), u1, u2, u3, u4, some (.inl v5)] [] h) ∧ (¬ (h.1 111 25) ≤ v5 → J mX11_chime d 0 0 Q 0 0 63 [some (.inr (.inr 111)), u1, u2, u3, u4, some (.inl v5)] [] h))
  exact ⟨(zo hr (by decide) rfl), k1, k2⟩

theorem bX11_chime_63 {d : Nat} {Q : Option MV → MH → Prop} {h : MH} {u1 u2 : Option MV} {v3 v4 v5 : Int32} (hr : zRf h) (g0 : vp_in v4 40) (g1 : vp_in v5 40) (k1 : ¬ (h.1 126 v4.toNatClampNeg) = ((h.1 124 v5.toNatClampNeg) / (nI 256)) → J mX11_chime d 0 0 Q 0 0 89 [some (.inr (.inr 111)), u1, u2, some (.inl v3), some (.inl v4), some (.inl v5)] [.inl v3] h) (k2 : (h.1 126 v4.toNatClampNeg) = ((h.1 124 v5.toNatClampNeg) / (nI 256)) → J mX11_chime d 0 0 Q 0 0 85 [some (.inr (.inr 111)), u1, u2, some (.inl v3), some (.inl v4), some (.inl v5)] [.inl v3] h) : J mX11_chime d 0 0 Q 0 0 63 [some (.inr (.inr 111)), u1, u2, some (.inl v3), some (.inl v4), some (.inl v5)] [] h := by
  refine zrun 34 12 qX11_chime (o := 11) rfl ?_
  show zokO h 111 11 ∧ zokA h (h.2.2.1 111 31) 20 v4 ∧ zokO h 111 11 ∧ zokA h (h.2.2.1 111 23) 20 v5 ∧ ¬ (nI 256) = 0 ∧ ((¬ (h.1 (h.2.2.1 111 31) v4.toNatClampNeg) = ((h.1 (h.2.2.1 111 23) v5.toNatClampNeg) / (nI 256)) → J mX11_chime d 0 0 Q 0 0 89 [some (.inr (.inr 111)), u1, u2, some (.inl v3), some (.inl v4), some (.inl v5)] [.inl v3] h) ∧ ((h.1 (h.2.2.1 111 31) v4.toNatClampNeg) = ((h.1 (h.2.2.1 111 23) v5.toNatClampNeg) / (nI 256)) → J mX11_chime d 0 0 Q 0 0 85 [some (.inr (.inr 111)), u1, u2, some (.inl v3), some (.inl v4), some (.inl v5)] [.inl v3] h))
  rw [(show h.2.2.1 111 31 = 126 from (hr.at (by decide) (by decide) (by rfl))), (show h.2.2.1 111 23 = 124 from (hr.at (by decide) (by decide) (by rfl)))]
  exact ⟨(zo hr (by decide) rfl), (zia hr (by decide) (by rfl) g0), (zo hr (by decide) rfl), (zia hr (by decide) (by rfl) g1), (by decide), k1, k2⟩

theorem bX11_chime_85 {d : Nat} {Q : Option MV → MH → Prop} {h : MH} {u0 u1 u2 u3 u4 u5 : Option MV} {vs0 : Int32} (k : J mX11_chime d 0 0 Q 0 0 90 [u0, u1, u2, u3, u4, u5] [.inl (nI 1), .inl vs0] h) : J mX11_chime d 0 0 Q 0 0 85 [u0, u1, u2, u3, u4, u5] [.inl vs0] h := by
  refine zrun 46 2 qX11_chime (o := 11) rfl ?_
  show J mX11_chime d 0 0 Q 0 0 90 [u0, u1, u2, u3, u4, u5] [.inl (nI 1), .inl vs0] h
  exact k

theorem bX11_chime_89 {d : Nat} {Q : Option MV → MH → Prop} {h : MH} {u0 u1 u2 u3 u4 u5 : Option MV} {vs0 : Int32} (k : J mX11_chime d 0 0 Q 0 0 90 [u0, u1, u2, u3, u4, u5] [.inl (nI 0), .inl vs0] h) : J mX11_chime d 0 0 Q 0 0 89 [u0, u1, u2, u3, u4, u5] [.inl vs0] h := by
  refine zrun 48 1 qX11_chime (o := 11) rfl ?_
  show J mX11_chime d 0 0 Q 0 0 90 [u0, u1, u2, u3, u4, u5] [.inl (nI 0), .inl vs0] h
  exact k

theorem bX11_chime_90 {d : Nat} {Q : Option MV → MH → Prop} {h : MH} {u0 u1 u3 : Option MV} {vs0 vs1 v2 v5 v4 : Int32} (k : J mX11_chime d 0 0 Q 0 0 54 [u0, u1, some (.inl v2), some (.inl (vs0 + vs1)), some (.inl v4), some (.inl (v5 + nI 1))] [] h) : J mX11_chime d 0 0 Q 0 0 90 [u0, u1, some (.inl v2), u3, some (.inl v4), some (.inl v5)] [.inl vs1, .inl vs0] h := by
  refine zrun 49 4 qX11_chime (o := 11) rfl ?_
  show J mX11_chime d 0 0 Q 0 0 54 [u0, u1, some (.inl v2), some (.inl (vs0 + vs1)), some (.inl v4), some (.inl (v5 + nI 1))] [] h
  exact k

theorem bX11_chime_98 {d : Nat} {Q : Option MV → MH → Prop} {h : MH} {u0 u1 u2 u5 : Option MV} {v4 v3 : Int32} (k : J mX11_chime d 0 0 Q 0 0 42 [u0, u1, u2, some (.inl v3), some (.inl (v4 + nI 1)), u5] [] h) : J mX11_chime d 0 0 Q 0 0 98 [u0, u1, u2, some (.inl v3), some (.inl v4), u5] [] h := by
  refine zrun 53 2 qX11_chime (o := 11) rfl ?_
  show J mX11_chime d 0 0 Q 0 0 42 [u0, u1, u2, some (.inl v3), some (.inl (v4 + nI 1)), u5] [] h
  exact k

theorem bX11_chime_104 {d : Nat} {Q : Option MV → MH → Prop} {h : MH} {u0 u1 u2 u4 u5 : Option MV} {v3 : Int32} (k : Q (some (.inl v3)) h) : J mX11_chime d 0 0 Q 0 0 104 [u0, u1, u2, some (.inl v3), u4, u5] [] h := by
  refine zrun 55 1 qX11_chime (o := 11) rfl ?_
  show J mX11_chime d 0 0 Q 0 0 105 [u0, u1, u2, some (.inl v3), u4, u5] [.inl v3] h
  exact J_iret (ty := .int) (zat qX11_chime 56 (by rfl)) rfl rfl (Nat.le_refl 0) (Nat.le_refl 0) k

theorem bX11_days_0 {d d' : Nat} {Q : Option MV → MH → Prop} {h : MH} {u2 u3 : Option MV} {v1 : Int32} (hr : zRf h) (hd : d' + 1 ≤ d) (k : Con mX11_isPlan d' 0 0 [.inl v1] (zsI h 111 0 (nI 0)) (zri fun (x : Int32) h' => J mX11_days d 0 0 Q 0 0 9 [some (.inr (.inr 111)), some (.inl v1), u2, u3] [.inl x] h')) : J mX11_days d 0 0 Q 0 0 0 [some (.inr (.inr 111)), some (.inl v1), u2, u3] [] h := by
  refine zrun 0 4 qX11_days (o := 11) rfl ?_
  show zokO h 111 11 ∧ J mX11_days d 0 0 Q 0 0 6 [some (.inr (.inr 111)), some (.inl v1), u2, u3] [.inl v1] (zsI h 111 0 (nI 0))
  exact ⟨(zo hr (by decide) rfl), zcSi (as := [.inl v1]) (zat qX11_days 4 (by rfl)) l11_261 rfl hd rfl (Nat.le_of_ble_eq_true rfl) zle0 k⟩

theorem bX11_days_9 {d : Nat} {Q : Option MV → MH → Prop} {h : MH} {u0 u1 u2 u3 : Option MV} {vs0 : Int32} (k1 : vs0 = 0 → J mX11_days d 0 0 Q 0 0 25 [u0, u1, u2, u3] [] h) (k2 : ¬ vs0 = 0 → J mX11_days d 0 0 Q 0 0 12 [u0, u1, u2, u3] [] h) : J mX11_days d 0 0 Q 0 0 9 [u0, u1, u2, u3] [.inl vs0] h := by
  refine zrun 5 1 qX11_days (o := 11) rfl ?_
  show ((vs0 = 0 → J mX11_days d 0 0 Q 0 0 25 [u0, u1, u2, u3] [] h) ∧ (¬ vs0 = 0 → J mX11_days d 0 0 Q 0 0 12 [u0, u1, u2, u3] [] h))
  exact ⟨k1, k2⟩

theorem bX11_days_12 {d : Nat} {Q : Option MV → MH → Prop} {h : MH} {u0 u1 u2 : Option MV} {v3 : Int32} (k1 : v3 = (-(nI 1)) → J mX11_days d 0 0 Q 0 0 28 [u0, u1, u2, some (.inl v3)] [] h) (k2 : ¬ v3 = (-(nI 1)) → J mX11_days d 0 0 Q 0 0 17 [u0, u1, u2, some (.inl v3)] [] h) : J mX11_days d 0 0 Q 0 0 12 [u0, u1, u2, some (.inl v3)] [] h := by
  refine zrun 6 3 qX11_days (o := 11) rfl ?_
  show ((v3 = (-(nI 1)) → J mX11_days d 0 0 Q 0 0 28 [u0, u1, u2, some (.inl v3)] [] h) ∧ (¬ v3 = (-(nI 1)) → J mX11_days d 0 0 Q 0 0 17 [u0, u1, u2, some (.inl v3)] [] h))
  exact ⟨k1, k2⟩

theorem bX11_days_17 {d d' : Nat} {Q : Option MV → MH → Prop} {h : MH} {u1 u2 : Option MV} {v3 : Int32} (hr : zRf h) (hd : d' + 1 ≤ d) (k : Con mX11_isCandle d' 0 0 [.inr (.inr 111), .inl v3] h (zri fun (x : Int32) h' => J mX11_days d 0 0 Q 0 0 22 [some (.inr (.inr 111)), u1, u2, some (.inl v3)] [.inl x] h')) : J mX11_days d 0 0 Q 0 0 17 [some (.inr (.inr 111)), u1, u2, some (.inl v3)] [] h := by
  refine zrun 9 2 qX11_days (o := 11) rfl ?_
  show J mX11_days d 0 0 Q 0 0 19 [some (.inr (.inr 111)), u1, u2, some (.inl v3)] [.inl v3, .inr (.inr 111)] h
  exact zcVi (as := [.inl v3]) (zat qX11_days 11 (by rfl)) l11_221 rfl hd rfl (Nat.le_of_ble_eq_true rfl) zle0 (ci := 11) (by decide) rfl (zo hr (by decide) rfl) k

theorem bX11_days_22 {d : Nat} {Q : Option MV → MH → Prop} {h : MH} {u0 u1 u2 u3 : Option MV} {vs0 : Int32} (k1 : ¬ vs0 = 0 → J mX11_days d 0 0 Q 0 0 28 [u0, u1, u2, u3] [] h) (k2 : vs0 = 0 → J mX11_days d 0 0 Q 0 0 25 [u0, u1, u2, u3] [] h) : J mX11_days d 0 0 Q 0 0 22 [u0, u1, u2, u3] [.inl vs0] h := by
  refine zrun 12 1 qX11_days (o := 11) rfl ?_
  show ((¬ vs0 = 0 → J mX11_days d 0 0 Q 0 0 28 [u0, u1, u2, u3] [] h) ∧ (vs0 = 0 → J mX11_days d 0 0 Q 0 0 25 [u0, u1, u2, u3] [] h))
  exact ⟨k1, k2⟩

theorem bX11_days_25 {d : Nat} {Q : Option MV → MH → Prop} {h : MH} {u0 u1 u2 u3 : Option MV} (k : Q (some (.inl (-(nI 2)))) h) : J mX11_days d 0 0 Q 0 0 25 [u0, u1, u2, u3] [] h := by
  refine zrun 13 1 qX11_days (o := 11) rfl ?_
  show J mX11_days d 0 0 Q 0 0 27 [u0, u1, u2, u3] [.inl (-(nI 2))] h
  exact J_iret (ty := .int) (zat qX11_days 14 (by rfl)) rfl rfl (Nat.le_refl 0) (Nat.le_refl 0) k

theorem bX11_days_28 {d d' : Nat} {Q : Option MV → MH → Prop} {h : MH} {u0 u1 u3 : Option MV} {v2 : Int32} (hd : d' + 1 ≤ d) (k : Con mX11_within d' 0 0 [.inr (.inl v2.toInt64), .inr (.inl (lN 1)), .inr (.inl (400 : Int64))] h (zri fun (x : Int32) h' => J mX11_days d 0 0 Q 0 0 37 [u0, u1, some (.inl v2), u3] [.inl x] h')) : J mX11_days d 0 0 Q 0 0 28 [u0, u1, some (.inl v2), u3] [] h := by
  refine zrun 15 4 qX11_days (o := 11) rfl ?_
  show J mX11_days d 0 0 Q 0 0 34 [u0, u1, some (.inl v2), u3] [.inr (.inl (400 : Int64)), .inr (.inl (lN 1)), .inr (.inl v2.toInt64)] h
  exact zcSi (as := [.inr (.inl v2.toInt64), .inr (.inl (lN 1)), .inr (.inl (400 : Int64))]) (zat qX11_days 19 (by rfl)) l11_178 rfl hd rfl (Nat.le_of_ble_eq_true rfl) zle0 k

theorem bX11_days_37 {d : Nat} {Q : Option MV → MH → Prop} {h : MH} {u0 u1 u2 u3 : Option MV} {vs0 : Int32} (k1 : ¬ vs0 = 0 → J mX11_days d 0 0 Q 0 0 43 [u0, u1, u2, u3] [] h) (k2 : vs0 = 0 → J mX11_days d 0 0 Q 0 0 40 [u0, u1, u2, u3] [] h) : J mX11_days d 0 0 Q 0 0 37 [u0, u1, u2, u3] [.inl vs0] h := by
  refine zrun 20 1 qX11_days (o := 11) rfl ?_
  show ((¬ vs0 = 0 → J mX11_days d 0 0 Q 0 0 43 [u0, u1, u2, u3] [] h) ∧ (vs0 = 0 → J mX11_days d 0 0 Q 0 0 40 [u0, u1, u2, u3] [] h))
  exact ⟨k1, k2⟩

theorem bX11_days_40 {d : Nat} {Q : Option MV → MH → Prop} {h : MH} {u0 u1 u2 u3 : Option MV} (k : Q (some (.inl (-(nI 3)))) h) : J mX11_days d 0 0 Q 0 0 40 [u0, u1, u2, u3] [] h := by
  refine zrun 21 1 qX11_days (o := 11) rfl ?_
  show J mX11_days d 0 0 Q 0 0 42 [u0, u1, u2, u3] [.inl (-(nI 3))] h
  exact J_iret (ty := .int) (zat qX11_days 22 (by rfl)) rfl rfl (Nat.le_refl 0) (Nat.le_refl 0) k

theorem bX11_days_43 {d d' : Nat} {Q : Option MV → MH → Prop} {h : MH} {u1 u2 u3 : Option MV} (hr : zRf h) (hd : d' + 1 ≤ d) (k : Con mX11_asTold d' 0 0 [.inr (.inr 111)] h (zrv fun h' => J mX11_days d 0 0 Q 0 0 47 [some (.inr (.inr 111)), u1, u2, u3] [] h')) : J mX11_days d 0 0 Q 0 0 43 [some (.inr (.inr 111)), u1, u2, u3] [] h := by
  refine zrun 23 1 qX11_days (o := 11) rfl ?_
  show J mX11_days d 0 0 Q 0 0 44 [some (.inr (.inr 111)), u1, u2, u3] [.inr (.inr 111)] h
  exact zcVv (as := []) (zat qX11_days 24 (by rfl)) l11_266 rfl hd rfl (Nat.le_of_ble_eq_true rfl) zle0 (ci := 11) (by decide) rfl (zo hr (by decide) rfl) k

theorem bX11_days_47 {d d' : Nat} {Q : Option MV → MH → Prop} {h : MH} {u2 u3 : Option MV} {v1 : Int32} (hr : zRf h) (hd : d' + 1 ≤ d) (k : Con mX11_runs d' 0 0 [.inr (.inr 111), .inl v1, .inl (-(nI 1))] h (zrv fun h' => J mX11_days d 0 0 Q 0 0 53 [some (.inr (.inr 111)), some (.inl v1), u2, u3] [] h')) : J mX11_days d 0 0 Q 0 0 47 [some (.inr (.inr 111)), some (.inl v1), u2, u3] [] h := by
  refine zrun 25 3 qX11_days (o := 11) rfl ?_
  show J mX11_days d 0 0 Q 0 0 50 [some (.inr (.inr 111)), some (.inl v1), u2, u3] [.inl (-(nI 1)), .inl v1, .inr (.inr 111)] h
  exact zcVv (as := [.inl v1, .inl (-(nI 1))]) (zat qX11_days 28 (by rfl)) l11_269 rfl hd rfl (Nat.le_of_ble_eq_true rfl) zle0 (ci := 11) (by decide) rfl (zo hr (by decide) rfl) k

theorem bX11_days_53 {d : Nat} {Q : Option MV → MH → Prop} {h : MH} {u0 u1 u2 : Option MV} {v3 : Int32} (k1 : ¬ v3 = (-(nI 1)) → J mX11_days d 0 0 Q 0 0 65 [u0, u1, u2, some (.inl v3)] [] h) (k2 : v3 = (-(nI 1)) → J mX11_days d 0 0 Q 0 0 58 [u0, u1, u2, some (.inl v3)] [] h) : J mX11_days d 0 0 Q 0 0 53 [u0, u1, u2, some (.inl v3)] [] h := by
  refine zrun 29 3 qX11_days (o := 11) rfl ?_
  show ((¬ v3 = (-(nI 1)) → J mX11_days d 0 0 Q 0 0 65 [u0, u1, u2, some (.inl v3)] [] h) ∧ (v3 = (-(nI 1)) → J mX11_days d 0 0 Q 0 0 58 [u0, u1, u2, some (.inl v3)] [] h))
  exact ⟨k1, k2⟩

theorem bX11_days_58 {d d' : Nat} {Q : Option MV → MH → Prop} {h : MH} {u1 u2 u3 : Option MV} (hr : zRf h) (hd : d' + 1 ≤ d) (k : Con mX11_waxBurnt d' 0 0 [.inr (.inr 111)] h (zri fun (x : Int32) h' => J mX11_days d 0 0 Q 0 0 62 [some (.inr (.inr 111)), u1, u2, u3] [.inl x] h')) : J mX11_days d 0 0 Q 0 0 58 [some (.inr (.inr 111)), u1, u2, u3] [] h := by
  refine zrun 32 1 qX11_days (o := 11) rfl ?_
  show J mX11_days d 0 0 Q 0 0 59 [some (.inr (.inr 111)), u1, u2, u3] [.inr (.inr 111)] h
  exact zcVi (as := []) (zat qX11_days 33 (by rfl)) l11_272 rfl hd rfl (Nat.le_of_ble_eq_true rfl) zle0 (ci := 11) (by decide) rfl (zo hr (by decide) rfl) k

theorem bX11_days_62 {d : Nat} {Q : Option MV → MH → Prop} {h : MH} {u0 u1 u3 : Option MV} {vs0 v2 : Int32} (k : Q (some (.inl (vs0 * v2))) h) : J mX11_days d 0 0 Q 0 0 62 [u0, u1, some (.inl v2), u3] [.inl vs0] h := by
  refine zrun 34 2 qX11_days (o := 11) rfl ?_
  show J mX11_days d 0 0 Q 0 0 64 [u0, u1, some (.inl v2), u3] [.inl (vs0 * v2)] h
  exact J_iret (ty := .int) (zat qX11_days 36 (by rfl)) rfl rfl (Nat.le_refl 0) (Nat.le_refl 0) k

theorem bX11_days_65 {d : Nat} {Q : Option MV → MH → Prop} {h : MH} {u1 u2 : Option MV} {v3 : Int32} (hr : zRf h) (g0 : vp_in v3 8) (k1 : (h.1 116 v3.toNatClampNeg) ≤ (h.1 121 v3.toNatClampNeg) → J mX11_days d 0 0 Q 0 0 84 [some (.inr (.inr 111)), u1, u2, some (.inl v3)] [] h) (k2 : ¬ (h.1 116 v3.toNatClampNeg) ≤ (h.1 121 v3.toNatClampNeg) → J mX11_days d 0 0 Q 0 0 80 [some (.inr (.inr 111)), u1, u2, some (.inl v3)] [] h) : J mX11_days d 0 0 Q 0 0 65 [some (.inr (.inr 111)), u1, u2, some (.inl v3)] [] h := by
  refine zrun 37 9 qX11_days (o := 11) rfl ?_
  show zokO h 111 11 ∧ zokA h (h.2.2.1 111 20) 20 v3 ∧ zokO h 111 11 ∧ zokA h (h.2.2.1 111 15) 20 v3 ∧ (((h.1 (h.2.2.1 111 15) v3.toNatClampNeg) ≤ (h.1 (h.2.2.1 111 20) v3.toNatClampNeg) → J mX11_days d 0 0 Q 0 0 84 [some (.inr (.inr 111)), u1, u2, some (.inl v3)] [] h) ∧ (¬ (h.1 (h.2.2.1 111 15) v3.toNatClampNeg) ≤ (h.1 (h.2.2.1 111 20) v3.toNatClampNeg) → J mX11_days d 0 0 Q 0 0 80 [some (.inr (.inr 111)), u1, u2, some (.inl v3)] [] h))
  rw [(show h.2.2.1 111 20 = 121 from (hr.at (by decide) (by decide) (by rfl))), (show h.2.2.1 111 15 = 116 from (hr.at (by decide) (by decide) (by rfl)))]
  exact ⟨(zo hr (by decide) rfl), (zia hr (by decide) (by rfl) g0), (zo hr (by decide) rfl), (zia hr (by decide) (by rfl) g0), k1, k2⟩

theorem bX11_days_80 {d : Nat} {Q : Option MV → MH → Prop} {h : MH} {u0 u1 u3 : Option MV} {v2 : Int32} (k : J mX11_days d 0 0 Q 0 0 85 [u0, u1, some (.inl v2), u3] [.inl v2] h) : J mX11_days d 0 0 Q 0 0 80 [u0, u1, some (.inl v2), u3] [] h := by
  refine zrun 46 2 qX11_days (o := 11) rfl ?_
  show J mX11_days d 0 0 Q 0 0 85 [u0, u1, some (.inl v2), u3] [.inl v2] h
  exact k

theorem bX11_days_84 {d : Nat} {Q : Option MV → MH → Prop} {h : MH} {u0 u1 u2 u3 : Option MV} (k : J mX11_days d 0 0 Q 0 0 85 [u0, u1, u2, u3] [.inl (nI 0)] h) : J mX11_days d 0 0 Q 0 0 84 [u0, u1, u2, u3] [] h := by
  refine zrun 48 1 qX11_days (o := 11) rfl ?_
  show J mX11_days d 0 0 Q 0 0 85 [u0, u1, u2, u3] [.inl (nI 0)] h
  exact k

theorem bX11_days_85 {d : Nat} {Q : Option MV → MH → Prop} {h : MH} {u0 u1 u2 u3 : Option MV} {vs0 : Int32} (k : Q (some (.inl vs0)) h) : J mX11_days d 0 0 Q 0 0 85 [u0, u1, u2, u3] [.inl vs0] h := by
  exact J_iret (ty := .int) (zat qX11_days 49 (by rfl)) rfl rfl (Nat.le_refl 0) (Nat.le_refl 0) k

theorem bX11_isSet_0 {d : Nat} {Q : Option MV → MH → Prop} {h : MH} {u0 u2 u3 : Option MV} {v1 : Int32} (k : J mX11_isSet d 0 0 Q 0 0 4 [u0, some (.inl v1), some (.inl (nI 0)), some (.inl (nI 0))] [] h) : J mX11_isSet d 0 0 Q 0 0 0 [u0, some (.inl v1), u2, u3] [] h := by
  refine zrun 0 4 qX11_isSet (o := 11) rfl ?_
  show J mX11_isSet d 0 0 Q 0 0 4 [u0, some (.inl v1), some (.inl (nI 0)), some (.inl (nI 0))] [] h
  exact k

theorem bX11_isSet_4 {d : Nat} {Q : Option MV → MH → Prop} {h : MH} {u0 u1 u2 : Option MV} {v3 : Int32} (k1 : (nI 8) ≤ v3 → J mX11_isSet d 0 0 Q 0 0 24 [u0, u1, u2, some (.inl v3)] [] h) (k2 : ¬ (nI 8) ≤ v3 → J mX11_isSet d 0 0 Q 0 0 10 [u0, u1, u2, some (.inl v3)] [] h) : J mX11_isSet d 0 0 Q 0 0 4 [u0, u1, u2, some (.inl v3)] [] h := by
  refine zrun 4 3 qX11_isSet (o := 11) rfl ?_
  show (((nI 8) ≤ v3 → J mX11_isSet d 0 0 Q 0 0 24 [u0, u1, u2, some (.inl v3)] [] h) ∧ (¬ (nI 8) ≤ v3 → J mX11_isSet d 0 0 Q 0 0 10 [u0, u1, u2, some (.inl v3)] [] h))
  exact ⟨k1, k2⟩

theorem bX11_isSet_10 {d : Nat} {Q : Option MV → MH → Prop} {h : MH} {u0 : Option MV} {v2 v1 v3 : Int32} (k : J mX11_isSet d 0 0 Q 0 0 4 [u0, some (.inl v1), some (.inl (v2 + ((v1 >>> (v3 &&& 31)) &&& (nI 1)))), some (.inl (v3 + nI 1))] [] h) : J mX11_isSet d 0 0 Q 0 0 10 [u0, some (.inl v1), some (.inl v2), some (.inl v3)] [] h := by
  refine zrun 7 10 qX11_isSet (o := 11) rfl ?_
  show J mX11_isSet d 0 0 Q 0 0 4 [u0, some (.inl v1), some (.inl (v2 + ((v1 >>> (v3 &&& 31)) &&& (nI 1)))), some (.inl (v3 + nI 1))] [] h
  exact k

theorem bX11_isSet_24 {d d' : Nat} {Q : Option MV → MH → Prop} {h : MH} {u2 u3 : Option MV} {v1 : Int32} (hr : zRf h) (g0 : vp_in (nI 0) 2166) (hd : d' + 1 ≤ d) (k : Con mX11_within d' 0 0 [.inr (.inl v1.toInt64), .inr (.inl (lN 1)), .inr (.inl ((((nI 1) <<< ((h.1 112 0) &&& 31)) - (nI 1)).toInt64))] h (zri fun (x : Int32) h' => J mX11_isSet d 0 0 Q 0 0 41 [some (.inr (.inr 111)), some (.inl v1), u2, u3] [.inl x] h')) : J mX11_isSet d 0 0 Q 0 0 24 [some (.inr (.inr 111)), some (.inl v1), u2, u3] [] h := by
  refine zrun 17 12 qX11_isSet (o := 11) rfl ?_
  show zokO h 111 11 ∧ zokA h (h.2.2.1 111 1) 20 (nI 0) ∧ J mX11_isSet d 0 0 Q 0 0 38 [some (.inr (.inr 111)), some (.inl v1), u2, u3] [.inr (.inl ((((nI 1) <<< ((h.1 (h.2.2.1 111 1) 0) &&& 31)) - (nI 1)).toInt64)), .inr (.inl (lN 1)), .inr (.inl v1.toInt64)] h
  rw [(show h.2.2.1 111 1 = 112 from (hr.at (by decide) (by decide) (by rfl)))]
  exact ⟨(zo hr (by decide) rfl), (zia hr (by decide) (by rfl) g0), zcSi (as := [.inr (.inl v1.toInt64), .inr (.inl (lN 1)), .inr (.inl ((((nI 1) <<< ((h.1 112 0) &&& 31)) - (nI 1)).toInt64))]) (zat qX11_isSet 29 (by rfl)) l11_178 rfl hd rfl (Nat.le_of_ble_eq_true rfl) zle0 k⟩

theorem bX11_isSet_41 {d : Nat} {Q : Option MV → MH → Prop} {h : MH} {u0 u1 u2 u3 : Option MV} {vs0 : Int32} (k1 : vs0 = 0 → J mX11_isSet d 0 0 Q 0 0 53 [u0, u1, u2, u3] [] h) (k2 : ¬ vs0 = 0 → J mX11_isSet d 0 0 Q 0 0 44 [u0, u1, u2, u3] [] h) : J mX11_isSet d 0 0 Q 0 0 41 [u0, u1, u2, u3] [.inl vs0] h := by
  refine zrun 30 1 qX11_isSet (o := 11) rfl ?_
  show ((vs0 = 0 → J mX11_isSet d 0 0 Q 0 0 53 [u0, u1, u2, u3] [] h) ∧ (¬ vs0 = 0 → J mX11_isSet d 0 0 Q 0 0 44 [u0, u1, u2, u3] [] h))
  exact ⟨k1, k2⟩

theorem bX11_isSet_44 {d : Nat} {Q : Option MV → MH → Prop} {h : MH} {u0 u1 u3 : Option MV} {v2 : Int32} (k1 : (nI 4) < v2 → J mX11_isSet d 0 0 Q 0 0 53 [u0, u1, some (.inl v2), u3] [] h) (k2 : ¬ (nI 4) < v2 → J mX11_isSet d 0 0 Q 0 0 49 [u0, u1, some (.inl v2), u3] [] h) : J mX11_isSet d 0 0 Q 0 0 44 [u0, u1, some (.inl v2), u3] [] h := by
  refine zrun 31 3 qX11_isSet (o := 11) rfl ?_
  show (((nI 4) < v2 → J mX11_isSet d 0 0 Q 0 0 53 [u0, u1, some (.inl v2), u3] [] h) ∧ (¬ (nI 4) < v2 → J mX11_isSet d 0 0 Q 0 0 49 [u0, u1, some (.inl v2), u3] [] h))
  exact ⟨k1, k2⟩

theorem bX11_isSet_49 {d : Nat} {Q : Option MV → MH → Prop} {h : MH} {u0 u1 u2 u3 : Option MV} (k : J mX11_isSet d 0 0 Q 0 0 54 [u0, u1, u2, u3] [.inl (nI 1)] h) : J mX11_isSet d 0 0 Q 0 0 49 [u0, u1, u2, u3] [] h := by
  refine zrun 34 2 qX11_isSet (o := 11) rfl ?_
  show J mX11_isSet d 0 0 Q 0 0 54 [u0, u1, u2, u3] [.inl (nI 1)] h
  exact k

theorem bX11_isSet_53 {d : Nat} {Q : Option MV → MH → Prop} {h : MH} {u0 u1 u2 u3 : Option MV} (k : J mX11_isSet d 0 0 Q 0 0 54 [u0, u1, u2, u3] [.inl (nI 0)] h) : J mX11_isSet d 0 0 Q 0 0 53 [u0, u1, u2, u3] [] h := by
  refine zrun 36 1 qX11_isSet (o := 11) rfl ?_
  show J mX11_isSet d 0 0 Q 0 0 54 [u0, u1, u2, u3] [.inl (nI 0)] h
  exact k

theorem bX11_isSet_54 {d : Nat} {Q : Option MV → MH → Prop} {h : MH} {u0 u1 u2 u3 : Option MV} {vs0 : Int32} (gn : vs0 = 0 ∨ vs0 = 1) (k : Q (some (.inl vs0)) h) : J mX11_isSet d 0 0 Q 0 0 54 [u0, u1, u2, u3] [.inl vs0] h := by
  exact J_iret (ty := .boolean) (zat qX11_isSet 37 (by rfl)) rfl (znz gn) (Nat.le_refl 0) (Nat.le_refl 0) k

theorem bX11_seeks_0 {d : Nat} {Q : Option MV → MH → Prop} {h : MH} {u1 u2 u4 : Option MV} {v3 : Int32} (hr : zRf h) (k : J mX11_seeks d 0 0 Q 0 0 8 [some (.inr (.inr 111)), u1, u2, some (.inl v3), some (.inl (nI 0))] [] (zsI h 111 38 (nI 0))) : J mX11_seeks d 0 0 Q 0 0 0 [some (.inr (.inr 111)), u1, u2, some (.inl v3), u4] [] h := by
  refine zrun 0 5 qX11_seeks (o := 11) rfl ?_
  show zokO h 111 11 ∧ J mX11_seeks d 0 0 Q 0 0 8 [some (.inr (.inr 111)), u1, u2, some (.inl v3), some (.inl (nI 0))] [] (zsI h 111 38 (nI 0))
  exact ⟨(zo hr (by decide) rfl), k⟩

theorem bX11_seeks_8 {d : Nat} {Q : Option MV → MH → Prop} {h : MH} {u0 u1 u2 u3 : Option MV} {v4 : Int32} (k1 : (nI 8) ≤ v4 → J mX11_seeks d 0 0 Q 0 0 79 [u0, u1, u2, u3, some (.inl v4)] [] h) (k2 : ¬ (nI 8) ≤ v4 → J mX11_seeks d 0 0 Q 0 0 15 [u0, u1, u2, u3, some (.inl v4)] [] h) : J mX11_seeks d 0 0 Q 0 0 8 [u0, u1, u2, u3, some (.inl v4)] [] h := by
  refine zrun 5 3 qX11_seeks (o := 11) rfl ?_
  show (((nI 8) ≤ v4 → J mX11_seeks d 0 0 Q 0 0 79 [u0, u1, u2, u3, some (.inl v4)] [] h) ∧ (¬ (nI 8) ≤ v4 → J mX11_seeks d 0 0 Q 0 0 15 [u0, u1, u2, u3, some (.inl v4)] [] h))
  exact ⟨k1, k2⟩

theorem bX11_seeks_15 {d : Nat} {Q : Option MV → MH → Prop} {h : MH} {u0 u2 u3 : Option MV} {v1 v4 : Int32} (k1 : ¬ ((v1 >>> (v4 &&& 31)) &&& (nI 1)) = 0 → J mX11_seeks d 0 0 Q 0 0 27 [u0, some (.inl v1), u2, u3, some (.inl v4)] [] h) (k2 : ((v1 >>> (v4 &&& 31)) &&& (nI 1)) = 0 → J mX11_seeks d 0 0 Q 0 0 24 [u0, some (.inl v1), u2, u3, some (.inl v4)] [] h) : J mX11_seeks d 0 0 Q 0 0 15 [u0, some (.inl v1), u2, u3, some (.inl v4)] [] h := by
  refine zrun 8 6 qX11_seeks (o := 11) rfl ?_
  show ((¬ ((v1 >>> (v4 &&& 31)) &&& (nI 1)) = 0 → J mX11_seeks d 0 0 Q 0 0 27 [u0, some (.inl v1), u2, u3, some (.inl v4)] [] h) ∧ (((v1 >>> (v4 &&& 31)) &&& (nI 1)) = 0 → J mX11_seeks d 0 0 Q 0 0 24 [u0, some (.inl v1), u2, u3, some (.inl v4)] [] h))
  exact ⟨k1, k2⟩

theorem bX11_seeks_24 {d : Nat} {Q : Option MV → MH → Prop} {h : MH} {u0 u1 u2 u3 u4 : Option MV} (k : J mX11_seeks d 0 0 Q 0 0 73 [u0, u1, u2, u3, u4] [] h) : J mX11_seeks d 0 0 Q 0 0 24 [u0, u1, u2, u3, u4] [] h := by
  refine zrun 14 1 qX11_seeks (o := 11) rfl ?_
  show J mX11_seeks d 0 0 Q 0 0 73 [u0, u1, u2, u3, u4] [] h
  exact k

theorem bX11_seeks_27 {d d' : Nat} {Q : Option MV → MH → Prop} {h : MH} {u1 u2 u3 : Option MV} {v4 : Int32} (hr : zRf h) (g0 : vp_in (h.1 111 38) 4) (hd : d' + 1 ≤ d) (k : Con mX11_restOf d' 0 0 [.inr (.inr 111), .inl v4] (zsI h 127 (h.1 111 38).toNatClampNeg v4) (zri fun (x : Int32) h' => J mX11_seeks d 0 0 Q 0 0 52 [some (.inr (.inr 111)), u1, u2, u3, some (.inl v4)] [.inl x, .inl ((zsI h 127 (h.1 111 38).toNatClampNeg v4).1 111 38), .inr (.inr 128)] h')) : J mX11_seeks d 0 0 Q 0 0 27 [some (.inr (.inr 111)), u1, u2, u3, some (.inl v4)] [] h := by
  refine zrun 15 12 qX11_seeks (o := 11) rfl ?_
  show zokO h 111 11 ∧ zokO h 111 11 ∧ zokA h (h.2.2.1 111 33) 20 (h.1 111 38) ∧ zokO (zsI h (h.2.2.1 111 33) (h.1 111 38).toNatClampNeg v4) 111 11 ∧ zokO (zsI h (h.2.2.1 111 33) (h.1 111 38).toNatClampNeg v4) 111 11 ∧ J mX11_seeks d 0 0 Q 0 0 49 [some (.inr (.inr 111)), u1, u2, u3, some (.inl v4)] [.inl v4, .inr (.inr 111), .inl ((zsI h (h.2.2.1 111 33) (h.1 111 38).toNatClampNeg v4).1 111 38), .inr (.inr (h.2.2.1 111 34))] (zsI h (h.2.2.1 111 33) (h.1 111 38).toNatClampNeg v4)
  rw [(show h.2.2.1 111 33 = 127 from (hr.at (by decide) (by decide) (by rfl))), (show h.2.2.1 111 34 = 128 from (hr.at (by decide) (by decide) (by rfl)))]
  exact ⟨(zo hr (by decide) rfl), (zo hr (by decide) rfl), (zia hr (by decide) (by rfl) g0), (zo hr (by decide) rfl), (zo hr (by decide) rfl), zcVi (as := [.inl v4]) (zat qX11_seeks 27 (by rfl)) l11_224 rfl hd rfl (Nat.le_of_ble_eq_true rfl) zle0 (ci := 11) (by decide) rfl (show zokO _ _ _ from (zo hr (by decide) rfl)) k⟩

theorem bX11_seeks_52 {d : Nat} {Q : Option MV → MH → Prop} {h : MH} {u1 u2 u3 u4 : Option MV} {vs1 vs2 : Int32} {vs0 : Nat} (hr : zRf h) (g0 : zokA h vs0 20 vs1) (g1 : vp_in ((zsI h vs0 vs1.toNatClampNeg vs2).1 111 38) 20) (k : J mX11_seeks d 0 0 Q 0 0 73 [some (.inr (.inr 111)), u1, u2, u3, u4] [] (zsI (zsI (zsI h vs0 vs1.toNatClampNeg vs2) 129 ((zsI h vs0 vs1.toNatClampNeg vs2).1 111 38).toNatClampNeg (nI 0)) 111 38 (((zsI (zsI h vs0 vs1.toNatClampNeg vs2) 129 ((zsI h vs0 vs1.toNatClampNeg vs2).1 111 38).toNatClampNeg (nI 0)).1 111 38) + (nI 1)))) : J mX11_seeks d 0 0 Q 0 0 52 [some (.inr (.inr 111)), u1, u2, u3, u4] [.inl vs2, .inl vs1, .inr (.inr vs0)] h := by
  refine zrun 28 13 qX11_seeks (o := 11) rfl ?_
  show zokA h vs0 20 vs1 ∧ zokO (zsI h vs0 vs1.toNatClampNeg vs2) 111 11 ∧ zokO (zsI h vs0 vs1.toNatClampNeg vs2) 111 11 ∧ zokA (zsI h vs0 vs1.toNatClampNeg vs2) (h.2.2.1 111 35) 20 ((zsI h vs0 vs1.toNatClampNeg vs2).1 111 38) ∧ zokO (zsI (zsI h vs0 vs1.toNatClampNeg vs2) (h.2.2.1 111 35) ((zsI h vs0 vs1.toNatClampNeg vs2).1 111 38).toNatClampNeg (nI 0)) 111 11 ∧ zokO (zsI (zsI h vs0 vs1.toNatClampNeg vs2) (h.2.2.1 111 35) ((zsI h vs0 vs1.toNatClampNeg vs2).1 111 38).toNatClampNeg (nI 0)) 111 11 ∧ J mX11_seeks d 0 0 Q 0 0 73 [some (.inr (.inr 111)), u1, u2, u3, u4] [] (zsI (zsI (zsI h vs0 vs1.toNatClampNeg vs2) (h.2.2.1 111 35) ((zsI h vs0 vs1.toNatClampNeg vs2).1 111 38).toNatClampNeg (nI 0)) 111 38 (((zsI (zsI h vs0 vs1.toNatClampNeg vs2) (h.2.2.1 111 35) ((zsI h vs0 vs1.toNatClampNeg vs2).1 111 38).toNatClampNeg (nI 0)).1 111 38) + (nI 1)))
  rw [(show h.2.2.1 111 35 = 129 from (hr.at (by decide) (by decide) (by rfl)))]
  exact ⟨g0, (zo hr (by decide) rfl), (zo hr (by decide) rfl), (zia hr (by decide) (by rfl) g1), (zo hr (by decide) rfl), (zo hr (by decide) rfl), k⟩

theorem bX11_seeks_73 {d : Nat} {Q : Option MV → MH → Prop} {h : MH} {u0 u1 u2 : Option MV} {v4 v3 : Int32} (k : J mX11_seeks d 0 0 Q 0 0 8 [u0, u1, u2, some (.inl v3), some (.inl (v4 + nI 1))] [] h) : J mX11_seeks d 0 0 Q 0 0 73 [u0, u1, u2, some (.inl v3), some (.inl v4)] [] h := by
  refine zrun 41 2 qX11_seeks (o := 11) rfl ?_
  show J mX11_seeks d 0 0 Q 0 0 8 [u0, u1, u2, some (.inl v3), some (.inl (v4 + nI 1))] [] h
  exact k

theorem bX11_seeks_79 {d d' : Nat} {Q : Option MV → MH → Prop} {h : MH} {u1 u4 : Option MV} {v2 v3 : Int32} (hr : zRf h) (g0 : v2 = 0 ∨ v2 = 1) (g1 : vp_in (nI 0) 5) (hd : d' + 1 ≤ d) (k : Con mX11_goes d' 0 0 [.inr (.inr 111), .inl (nI 0)] (zsI (zsI (zsI (zsI h 111 42 v2) 111 40 v3) 130 0 (nI 0)) 131 0 (nI 0)) (zrv fun h' => J mX11_seeks d 0 0 Q 0 0 108 [some (.inr (.inr 111)), u1, some (.inl v2), some (.inl v3), u4] [] h')) : J mX11_seeks d 0 0 Q 0 0 79 [some (.inr (.inr 111)), u1, some (.inl v2), some (.inl v3), u4] [] h := by
  refine zrun 43 18 qX11_seeks (o := 11) rfl ?_
  show (zokO h 111 11 ∧ ((.inl v2 : MV) = .inl 0 ∨ (.inl v2 : MV) = .inl 1)) ∧ zokO (zsI h 111 42 v2) 111 11 ∧ zokO (zsI (zsI h 111 42 v2) 111 40 v3) 111 11 ∧ zokA (zsI (zsI h 111 42 v2) 111 40 v3) (h.2.2.1 111 36) 20 (nI 0) ∧ zokO (zsI (zsI (zsI h 111 42 v2) 111 40 v3) (h.2.2.1 111 36) 0 (nI 0)) 111 11 ∧ zokA (zsI (zsI (zsI h 111 42 v2) 111 40 v3) (h.2.2.1 111 36) 0 (nI 0)) (h.2.2.1 111 37) 20 (nI 0) ∧ J mX11_seeks d 0 0 Q 0 0 105 [some (.inr (.inr 111)), u1, some (.inl v2), some (.inl v3), u4] [.inl (nI 0), .inr (.inr 111)] (zsI (zsI (zsI (zsI h 111 42 v2) 111 40 v3) (h.2.2.1 111 36) 0 (nI 0)) (h.2.2.1 111 37) 0 (nI 0))
  rw [(show h.2.2.1 111 36 = 130 from (hr.at (by decide) (by decide) (by rfl))), (show h.2.2.1 111 37 = 131 from (hr.at (by decide) (by decide) (by rfl)))]
  exact ⟨⟨zo hr (by decide) rfl, zbo g0⟩, (zo hr (by decide) rfl), (zo hr (by decide) rfl), (zia hr (by decide) (by rfl) g1), (zo hr (by decide) rfl), (zia hr (by decide) (by rfl) g1), zcVv (as := [.inl (nI 0)]) (zat qX11_seeks 61 (by rfl)) l11_303 rfl hd rfl (Nat.le_of_ble_eq_true rfl) zle0 (ci := 11) (by decide) rfl (show zokO _ _ _ from (zo hr (by decide) rfl)) k⟩

theorem bX11_seeks_108 {d : Nat} {Q : Option MV → MH → Prop} {h : MH} {u0 u1 u2 u3 u4 : Option MV} (k : Q none h) : J mX11_seeks d 0 0 Q 0 0 108 [u0, u1, u2, u3, u4] [] h := by
  exact J_vret (zat qX11_seeks 62 (by rfl)) rfl (Nat.le_refl 0) (Nat.le_refl 0) k

theorem bX11_meets_0 {d : Nat} {Q : Option MV → MH → Prop} {h : MH} {u2 u3 u4 : Option MV} {v1 : Int32} (hr : zRf h) (g0 : vp_in v1 5) (k1 : ¬ (h.1 111 40) = 0 → J mX11_meets d 0 0 Q 0 0 22 [some (.inr (.inr 111)), some (.inl v1), some (.inl (h.1 130 v1.toNatClampNeg)), u3, u4] [] h) (k2 : (h.1 111 40) = 0 → J mX11_meets d 0 0 Q 0 0 14 [some (.inr (.inr 111)), some (.inl v1), some (.inl (h.1 130 v1.toNatClampNeg)), u3, u4] [] h) : J mX11_meets d 0 0 Q 0 0 0 [some (.inr (.inr 111)), some (.inl v1), u2, u3, u4] [] h := by
  refine zrun 0 8 qX11_meets (o := 11) rfl ?_
  show zokO h 111 11 ∧ zokA h (h.2.2.1 111 36) 20 v1 ∧ zokO h 111 11 ∧ ((¬ (h.1 111 40) = 0 → J mX11_meets d 0 0 Q 0 0 22 [some (.inr (.inr 111)), some (.inl v1), some (.inl (h.1 (h.2.2.1 111 36) v1.toNatClampNeg)), u3, u4] [] h) ∧ ((h.1 111 40) = 0 → J mX11_meets d 0 0 Q 0 0 14 [some (.inr (.inr 111)), some (.inl v1), some (.inl (h.1 (h.2.2.1 111 36) v1.toNatClampNeg)), u3, u4] [] h))
  rw [(show h.2.2.1 111 36 = 130 from (hr.at (by decide) (by decide) (by rfl)))]
  exact ⟨(zo hr (by decide) rfl), (zia hr (by decide) (by rfl) g0), (zo hr (by decide) rfl), k1, k2⟩

theorem bX11_meets_14 {d d' : Nat} {Q : Option MV → MH → Prop} {h : MH} {u1 u3 u4 : Option MV} {v2 : Int32} (hr : zRf h) (hd : d' + 1 ≤ d) (k : Con mX11_adds d' 0 0 [.inr (.inr 111), .inl v2] h (zrv fun h' => J mX11_meets d 0 0 Q 0 0 19 [some (.inr (.inr 111)), u1, some (.inl v2), u3, u4] [] h')) : J mX11_meets d 0 0 Q 0 0 14 [some (.inr (.inr 111)), u1, some (.inl v2), u3, u4] [] h := by
  refine zrun 8 2 qX11_meets (o := 11) rfl ?_
  show J mX11_meets d 0 0 Q 0 0 16 [some (.inr (.inr 111)), u1, some (.inl v2), u3, u4] [.inl v2, .inr (.inr 111)] h
  exact zcVv (as := [.inl v2]) (zat qX11_meets 10 (by rfl)) l11_306 rfl hd rfl (Nat.le_of_ble_eq_true rfl) zle0 (ci := 11) (by decide) rfl (zo hr (by decide) rfl) k

theorem bX11_meets_19 {d : Nat} {Q : Option MV → MH → Prop} {h : MH} {u0 u1 u2 u3 u4 : Option MV} (k : J mX11_meets d 0 0 Q 0 0 314 [u0, u1, u2, u3, u4] [] h) : J mX11_meets d 0 0 Q 0 0 19 [u0, u1, u2, u3, u4] [] h := by
  refine zrun 11 1 qX11_meets (o := 11) rfl ?_
  show J mX11_meets d 0 0 Q 0 0 314 [u0, u1, u2, u3, u4] [] h
  exact k

theorem bX11_meets_22 {d : Nat} {Q : Option MV → MH → Prop} {h : MH} {u1 u2 u3 u4 : Option MV} (hr : zRf h) (k1 : ¬ (h.1 111 40) = (nI 4) → J mX11_meets d 0 0 Q 0 0 53 [some (.inr (.inr 111)), u1, u2, u3, u4] [] h) (k2 : (h.1 111 40) = (nI 4) → J mX11_meets d 0 0 Q 0 0 30 [some (.inr (.inr 111)), u1, u2, u3, u4] [] h) : J mX11_meets d 0 0 Q 0 0 22 [some (.inr (.inr 111)), u1, u2, u3, u4] [] h := by
  refine zrun 12 4 qX11_meets (o := 11) rfl ?_
  show zokO h 111 11 ∧ ((¬ (h.1 111 40) = (nI 4) → J mX11_meets d 0 0 Q 0 0 53 [some (.inr (.inr 111)), u1, u2, u3, u4] [] h) ∧ ((h.1 111 40) = (nI 4) → J mX11_meets d 0 0 Q 0 0 30 [some (.inr (.inr 111)), u1, u2, u3, u4] [] h))
  exact ⟨(zo hr (by decide) rfl), k1, k2⟩

theorem bX11_meets_30 {d : Nat} {Q : Option MV → MH → Prop} {h : MH} {u1 u3 u4 : Option MV} {v2 : Int32} (hr : zRf h) (k1 : ¬ v2 = (h.1 111 39) → J mX11_meets d 0 0 Q 0 0 43 [some (.inr (.inr 111)), u1, some (.inl v2), u3, u4] [.inr (.inr 111)] h) (k2 : v2 = (h.1 111 39) → J mX11_meets d 0 0 Q 0 0 39 [some (.inr (.inr 111)), u1, some (.inl v2), u3, u4] [.inr (.inr 111)] h) : J mX11_meets d 0 0 Q 0 0 30 [some (.inr (.inr 111)), u1, some (.inl v2), u3, u4] [] h := by
  refine zrun 16 5 qX11_meets (o := 11) rfl ?_
  show zokO h 111 11 ∧ ((¬ v2 = (h.1 111 39) → J mX11_meets d 0 0 Q 0 0 43 [some (.inr (.inr 111)), u1, some (.inl v2), u3, u4] [.inr (.inr 111)] h) ∧ (v2 = (h.1 111 39) → J mX11_meets d 0 0 Q 0 0 39 [some (.inr (.inr 111)), u1, some (.inl v2), u3, u4] [.inr (.inr 111)] h))
  exact ⟨(zo hr (by decide) rfl), k1, k2⟩

theorem bX11_meets_39 {d : Nat} {Q : Option MV → MH → Prop} {h : MH} {u0 u1 u2 u3 u4 : Option MV} (k : J mX11_meets d 0 0 Q 0 0 47 [u0, u1, u2, u3, u4] [.inl (nI 1), .inr (.inr 111)] h) : J mX11_meets d 0 0 Q 0 0 39 [u0, u1, u2, u3, u4] [.inr (.inr 111)] h := by
  refine zrun 21 2 qX11_meets (o := 11) rfl ?_
  show J mX11_meets d 0 0 Q 0 0 47 [u0, u1, u2, u3, u4] [.inl (nI 1), .inr (.inr 111)] h
  exact k

theorem bX11_meets_43 {d : Nat} {Q : Option MV → MH → Prop} {h : MH} {u1 u2 u3 u4 : Option MV} (hr : zRf h) (k : J mX11_meets d 0 0 Q 0 0 47 [some (.inr (.inr 111)), u1, u2, u3, u4] [.inl (h.1 111 41), .inr (.inr 111)] h) : J mX11_meets d 0 0 Q 0 0 43 [some (.inr (.inr 111)), u1, u2, u3, u4] [.inr (.inr 111)] h := by
  refine zrun 23 2 qX11_meets (o := 11) rfl ?_
  show zokO h 111 11 ∧ J mX11_meets d 0 0 Q 0 0 47 [some (.inr (.inr 111)), u1, u2, u3, u4] [.inl (h.1 111 41), .inr (.inr 111)] h
  exact ⟨(zo hr (by decide) rfl), k⟩

theorem bX11_meets_47 {d : Nat} {Q : Option MV → MH → Prop} {h : MH} {u0 u1 u2 u3 u4 : Option MV} {vs1 : Int32} (hr : zRf h) (k : J mX11_meets d 0 0 Q 0 0 314 [u0, u1, u2, u3, u4] [] (zsI h 111 41 vs1)) : J mX11_meets d 0 0 Q 0 0 47 [u0, u1, u2, u3, u4] [.inl vs1, .inr (.inr 111)] h := by
  refine zrun 25 2 qX11_meets (o := 11) rfl ?_
  show zokO h 111 11 ∧ J mX11_meets d 0 0 Q 0 0 314 [u0, u1, u2, u3, u4] [] (zsI h 111 41 vs1)
  exact ⟨(zo hr (by decide) rfl), k⟩

theorem bX11_meets_53 {d : Nat} {Q : Option MV → MH → Prop} {h : MH} {u1 u2 u3 u4 : Option MV} (hr : zRf h) (k1 : ¬ (h.1 111 40) = (nI 1) → J mX11_meets d 0 0 Q 0 0 104 [some (.inr (.inr 111)), u1, u2, u3, u4] [] h) (k2 : (h.1 111 40) = (nI 1) → J mX11_meets d 0 0 Q 0 0 61 [some (.inr (.inr 111)), u1, u2, u3, u4] [] h) : J mX11_meets d 0 0 Q 0 0 53 [some (.inr (.inr 111)), u1, u2, u3, u4] [] h := by
  refine zrun 27 4 qX11_meets (o := 11) rfl ?_
  show zokO h 111 11 ∧ ((¬ (h.1 111 40) = (nI 1) → J mX11_meets d 0 0 Q 0 0 104 [some (.inr (.inr 111)), u1, u2, u3, u4] [] h) ∧ ((h.1 111 40) = (nI 1) → J mX11_meets d 0 0 Q 0 0 61 [some (.inr (.inr 111)), u1, u2, u3, u4] [] h))
  exact ⟨(zo hr (by decide) rfl), k1, k2⟩

theorem bX11_meets_61 {d : Nat} {Q : Option MV → MH → Prop} {h : MH} {u0 u1 u3 u4 : Option MV} {v2 : Int32} (k : J mX11_meets d 0 0 Q 0 0 63 [u0, u1, some (.inl v2), some (.inl (nI 0)), u4] [] h) : J mX11_meets d 0 0 Q 0 0 61 [u0, u1, some (.inl v2), u3, u4] [] h := by
  refine zrun 31 2 qX11_meets (o := 11) rfl ?_
  show J mX11_meets d 0 0 Q 0 0 63 [u0, u1, some (.inl v2), some (.inl (nI 0)), u4] [] h
  exact k

theorem bX11_meets_63 {d : Nat} {Q : Option MV → MH → Prop} {h : MH} {u0 u2 u4 : Option MV} {v3 v1 : Int32} (k1 : v1 ≤ v3 → J mX11_meets d 0 0 Q 0 0 101 [u0, some (.inl v1), u2, some (.inl v3), u4] [] h) (k2 : ¬ v1 ≤ v3 → J mX11_meets d 0 0 Q 0 0 68 [u0, some (.inl v1), u2, some (.inl v3), u4] [] h) : J mX11_meets d 0 0 Q 0 0 63 [u0, some (.inl v1), u2, some (.inl v3), u4] [] h := by
  refine zrun 33 3 qX11_meets (o := 11) rfl ?_
  show ((v1 ≤ v3 → J mX11_meets d 0 0 Q 0 0 101 [u0, some (.inl v1), u2, some (.inl v3), u4] [] h) ∧ (¬ v1 ≤ v3 → J mX11_meets d 0 0 Q 0 0 68 [u0, some (.inl v1), u2, some (.inl v3), u4] [] h))
  exact ⟨k1, k2⟩

theorem bX11_meets_68 {d : Nat} {Q : Option MV → MH → Prop} {h : MH} {u1 u4 : Option MV} {v2 v3 : Int32} (hr : zRf h) (g0 : vp_in v3 5) (k1 : ¬ (v2 - (h.1 130 v3.toNatClampNeg)) = (h.1 111 39) → J mX11_meets d 0 0 Q 0 0 88 [some (.inr (.inr 111)), u1, some (.inl v2), some (.inl v3), u4] [.inr (.inr 111)] h) (k2 : (v2 - (h.1 130 v3.toNatClampNeg)) = (h.1 111 39) → J mX11_meets d 0 0 Q 0 0 84 [some (.inr (.inr 111)), u1, some (.inl v2), some (.inl v3), u4] [.inr (.inr 111)] h) : J mX11_meets d 0 0 Q 0 0 68 [some (.inr (.inr 111)), u1, some (.inl v2), some (.inl v3), u4] [] h := by
  refine zrun 36 10 qX11_meets (o := 11) rfl ?_
  show zokO h 111 11 ∧ zokA h (h.2.2.1 111 36) 20 v3 ∧ zokO h 111 11 ∧ ((¬ (v2 - (h.1 (h.2.2.1 111 36) v3.toNatClampNeg)) = (h.1 111 39) → J mX11_meets d 0 0 Q 0 0 88 [some (.inr (.inr 111)), u1, some (.inl v2), some (.inl v3), u4] [.inr (.inr 111)] h) ∧ ((v2 - (h.1 (h.2.2.1 111 36) v3.toNatClampNeg)) = (h.1 111 39) → J mX11_meets d 0 0 Q 0 0 84 [some (.inr (.inr 111)), u1, some (.inl v2), some (.inl v3), u4] [.inr (.inr 111)] h))
  rw [(show h.2.2.1 111 36 = 130 from (hr.at (by decide) (by decide) (by rfl)))]
  exact ⟨(zo hr (by decide) rfl), (zia hr (by decide) (by rfl) g0), (zo hr (by decide) rfl), k1, k2⟩

theorem bX11_meets_84 {d : Nat} {Q : Option MV → MH → Prop} {h : MH} {u0 u1 u2 u3 u4 : Option MV} (k : J mX11_meets d 0 0 Q 0 0 92 [u0, u1, u2, u3, u4] [.inl (nI 1), .inr (.inr 111)] h) : J mX11_meets d 0 0 Q 0 0 84 [u0, u1, u2, u3, u4] [.inr (.inr 111)] h := by
  refine zrun 46 2 qX11_meets (o := 11) rfl ?_
  show J mX11_meets d 0 0 Q 0 0 92 [u0, u1, u2, u3, u4] [.inl (nI 1), .inr (.inr 111)] h
  exact k

theorem bX11_meets_88 {d : Nat} {Q : Option MV → MH → Prop} {h : MH} {u1 u2 u3 u4 : Option MV} (hr : zRf h) (k : J mX11_meets d 0 0 Q 0 0 92 [some (.inr (.inr 111)), u1, u2, u3, u4] [.inl (h.1 111 41), .inr (.inr 111)] h) : J mX11_meets d 0 0 Q 0 0 88 [some (.inr (.inr 111)), u1, u2, u3, u4] [.inr (.inr 111)] h := by
  refine zrun 48 2 qX11_meets (o := 11) rfl ?_
  show zokO h 111 11 ∧ J mX11_meets d 0 0 Q 0 0 92 [some (.inr (.inr 111)), u1, u2, u3, u4] [.inl (h.1 111 41), .inr (.inr 111)] h
  exact ⟨(zo hr (by decide) rfl), k⟩

theorem bX11_meets_92 {d : Nat} {Q : Option MV → MH → Prop} {h : MH} {u0 u1 u4 : Option MV} {vs1 v3 v2 : Int32} (hr : zRf h) (k : J mX11_meets d 0 0 Q 0 0 63 [u0, u1, some (.inl v2), some (.inl (v3 + nI 1)), u4] [] (zsI h 111 41 vs1)) : J mX11_meets d 0 0 Q 0 0 92 [u0, u1, some (.inl v2), some (.inl v3), u4] [.inl vs1, .inr (.inr 111)] h := by
  refine zrun 50 3 qX11_meets (o := 11) rfl ?_
  show zokO h 111 11 ∧ J mX11_meets d 0 0 Q 0 0 63 [u0, u1, some (.inl v2), some (.inl (v3 + nI 1)), u4] [] (zsI h 111 41 vs1)
  exact ⟨(zo hr (by decide) rfl), k⟩

theorem bX11_meets_101 {d : Nat} {Q : Option MV → MH → Prop} {h : MH} {u0 u1 u2 u3 u4 : Option MV} (k : J mX11_meets d 0 0 Q 0 0 314 [u0, u1, u2, u3, u4] [] h) : J mX11_meets d 0 0 Q 0 0 101 [u0, u1, u2, u3, u4] [] h := by
  refine zrun 53 1 qX11_meets (o := 11) rfl ?_
  show J mX11_meets d 0 0 Q 0 0 314 [u0, u1, u2, u3, u4] [] h
  exact k

theorem bX11_meets_104 {d : Nat} {Q : Option MV → MH → Prop} {h : MH} {u1 u2 u3 u4 : Option MV} (hr : zRf h) (k1 : ¬ (h.1 111 40) = (nI 2) → J mX11_meets d 0 0 Q 0 0 154 [some (.inr (.inr 111)), u1, u2, u3, u4] [] h) (k2 : (h.1 111 40) = (nI 2) → J mX11_meets d 0 0 Q 0 0 112 [some (.inr (.inr 111)), u1, u2, u3, u4] [] h) : J mX11_meets d 0 0 Q 0 0 104 [some (.inr (.inr 111)), u1, u2, u3, u4] [] h := by
  refine zrun 54 4 qX11_meets (o := 11) rfl ?_
  show zokO h 111 11 ∧ ((¬ (h.1 111 40) = (nI 2) → J mX11_meets d 0 0 Q 0 0 154 [some (.inr (.inr 111)), u1, u2, u3, u4] [] h) ∧ ((h.1 111 40) = (nI 2) → J mX11_meets d 0 0 Q 0 0 112 [some (.inr (.inr 111)), u1, u2, u3, u4] [] h))
  exact ⟨(zo hr (by decide) rfl), k1, k2⟩

theorem bX11_meets_112 {d : Nat} {Q : Option MV → MH → Prop} {h : MH} {u1 u3 u4 : Option MV} {v2 : Int32} (hr : zRf h) (k1 : ¬ v2 = (h.1 111 39) → J mX11_meets d 0 0 Q 0 0 314 [some (.inr (.inr 111)), u1, some (.inl v2), u3, u4] [] h) (k2 : v2 = (h.1 111 39) → J mX11_meets d 0 0 Q 0 0 120 [some (.inr (.inr 111)), u1, some (.inl v2), u3, u4] [] h) : J mX11_meets d 0 0 Q 0 0 112 [some (.inr (.inr 111)), u1, some (.inl v2), u3, u4] [] h := by
  refine zrun 58 4 qX11_meets (o := 11) rfl ?_
  show zokO h 111 11 ∧ ((¬ v2 = (h.1 111 39) → J mX11_meets d 0 0 Q 0 0 314 [some (.inr (.inr 111)), u1, some (.inl v2), u3, u4] [] h) ∧ (v2 = (h.1 111 39) → J mX11_meets d 0 0 Q 0 0 120 [some (.inr (.inr 111)), u1, some (.inl v2), u3, u4] [] h))
  exact ⟨(zo hr (by decide) rfl), k1, k2⟩

theorem bX11_meets_120 {d : Nat} {Q : Option MV → MH → Prop} {h : MH} {u1 u2 u3 u4 : Option MV} (hr : zRf h) (k1 : (h.1 111 41) = (-(nI 1)) → J mX11_meets d 0 0 Q 0 0 141 [some (.inr (.inr 111)), u1, u2, u3, u4] [] h) (k2 : ¬ (h.1 111 41) = (-(nI 1)) → J mX11_meets d 0 0 Q 0 0 128 [some (.inr (.inr 111)), u1, u2, u3, u4] [] h) : J mX11_meets d 0 0 Q 0 0 120 [some (.inr (.inr 111)), u1, u2, u3, u4] [] h := by
  refine zrun 62 4 qX11_meets (o := 11) rfl ?_
  show zokO h 111 11 ∧ (((h.1 111 41) = (-(nI 1)) → J mX11_meets d 0 0 Q 0 0 141 [some (.inr (.inr 111)), u1, u2, u3, u4] [] h) ∧ (¬ (h.1 111 41) = (-(nI 1)) → J mX11_meets d 0 0 Q 0 0 128 [some (.inr (.inr 111)), u1, u2, u3, u4] [] h))
  exact ⟨(zo hr (by decide) rfl), k1, k2⟩

theorem bX11_meets_128 {d : Nat} {Q : Option MV → MH → Prop} {h : MH} {u2 u3 u4 : Option MV} {v1 : Int32} (hr : zRf h) (g0 : vp_in v1 5) (k1 : (h.1 111 41) ≤ (h.1 131 v1.toNatClampNeg) → J mX11_meets d 0 0 Q 0 0 314 [some (.inr (.inr 111)), some (.inl v1), u2, u3, u4] [] h) (k2 : ¬ (h.1 111 41) ≤ (h.1 131 v1.toNatClampNeg) → J mX11_meets d 0 0 Q 0 0 141 [some (.inr (.inr 111)), some (.inl v1), u2, u3, u4] [] h) : J mX11_meets d 0 0 Q 0 0 128 [some (.inr (.inr 111)), some (.inl v1), u2, u3, u4] [] h := by
  refine zrun 66 7 qX11_meets (o := 11) rfl ?_
  show zokO h 111 11 ∧ zokA h (h.2.2.1 111 37) 20 v1 ∧ zokO h 111 11 ∧ (((h.1 111 41) ≤ (h.1 (h.2.2.1 111 37) v1.toNatClampNeg) → J mX11_meets d 0 0 Q 0 0 314 [some (.inr (.inr 111)), some (.inl v1), u2, u3, u4] [] h) ∧ (¬ (h.1 111 41) ≤ (h.1 (h.2.2.1 111 37) v1.toNatClampNeg) → J mX11_meets d 0 0 Q 0 0 141 [some (.inr (.inr 111)), some (.inl v1), u2, u3, u4] [] h))
  rw [(show h.2.2.1 111 37 = 131 from (hr.at (by decide) (by decide) (by rfl)))]
  exact ⟨(zo hr (by decide) rfl), (zia hr (by decide) (by rfl) g0), (zo hr (by decide) rfl), k1, k2⟩

theorem bX11_meets_141 {d : Nat} {Q : Option MV → MH → Prop} {h : MH} {u2 u3 u4 : Option MV} {v1 : Int32} (hr : zRf h) (g0 : vp_in v1 5) (k : J mX11_meets d 0 0 Q 0 0 314 [some (.inr (.inr 111)), some (.inl v1), u2, u3, u4] [] (zsI h 111 41 (h.1 131 v1.toNatClampNeg))) : J mX11_meets d 0 0 Q 0 0 141 [some (.inr (.inr 111)), some (.inl v1), u2, u3, u4] [] h := by
  refine zrun 73 7 qX11_meets (o := 11) rfl ?_
  show zokO h 111 11 ∧ zokA h (h.2.2.1 111 37) 20 v1 ∧ zokO h 111 11 ∧ J mX11_meets d 0 0 Q 0 0 314 [some (.inr (.inr 111)), some (.inl v1), u2, u3, u4] [] (zsI h 111 41 (h.1 (h.2.2.1 111 37) v1.toNatClampNeg))
  rw [(show h.2.2.1 111 37 = 131 from (hr.at (by decide) (by decide) (by rfl)))]
  exact ⟨(zo hr (by decide) rfl), (zia hr (by decide) (by rfl) g0), (zo hr (by decide) rfl), k⟩

theorem bX11_meets_154 {d : Nat} {Q : Option MV → MH → Prop} {h : MH} {u1 u2 u3 u4 : Option MV} (hr : zRf h) (k1 : ¬ (h.1 111 40) = (nI 5) → J mX11_meets d 0 0 Q 0 0 236 [some (.inr (.inr 111)), u1, u2, u3, u4] [] h) (k2 : (h.1 111 40) = (nI 5) → J mX11_meets d 0 0 Q 0 0 162 [some (.inr (.inr 111)), u1, u2, u3, u4] [] h) : J mX11_meets d 0 0 Q 0 0 154 [some (.inr (.inr 111)), u1, u2, u3, u4] [] h := by
  refine zrun 80 4 qX11_meets (o := 11) rfl ?_
  show zokO h 111 11 ∧ ((¬ (h.1 111 40) = (nI 5) → J mX11_meets d 0 0 Q 0 0 236 [some (.inr (.inr 111)), u1, u2, u3, u4] [] h) ∧ ((h.1 111 40) = (nI 5) → J mX11_meets d 0 0 Q 0 0 162 [some (.inr (.inr 111)), u1, u2, u3, u4] [] h))
  exact ⟨(zo hr (by decide) rfl), k1, k2⟩

theorem bX11_meets_162 {d : Nat} {Q : Option MV → MH → Prop} {h : MH} {u0 u1 u3 u4 : Option MV} {v2 : Int32} (k : J mX11_meets d 0 0 Q 0 0 167 [u0, u1, some (.inl v2), some (.inl (nI 0)), some (.inl (nI 0))] [] h) : J mX11_meets d 0 0 Q 0 0 162 [u0, u1, some (.inl v2), u3, u4] [] h := by
  refine zrun 84 4 qX11_meets (o := 11) rfl ?_
  show J mX11_meets d 0 0 Q 0 0 167 [u0, u1, some (.inl v2), some (.inl (nI 0)), some (.inl (nI 0))] [] h
  exact k

theorem bX11_meets_167 {d : Nat} {Q : Option MV → MH → Prop} {h : MH} {u1 u2 u3 : Option MV} {v4 : Int32} (hr : zRf h) (k1 : (h.1 111 38) ≤ v4 → J mX11_meets d 0 0 Q 0 0 204 [some (.inr (.inr 111)), u1, u2, u3, some (.inl v4)] [] h) (k2 : ¬ (h.1 111 38) ≤ v4 → J mX11_meets d 0 0 Q 0 0 176 [some (.inr (.inr 111)), u1, u2, u3, some (.inl v4)] [] h) : J mX11_meets d 0 0 Q 0 0 167 [some (.inr (.inr 111)), u1, u2, u3, some (.inl v4)] [] h := by
  refine zrun 88 4 qX11_meets (o := 11) rfl ?_
  show zokO h 111 11 ∧ (((h.1 111 38) ≤ v4 → J mX11_meets d 0 0 Q 0 0 204 [some (.inr (.inr 111)), u1, u2, u3, some (.inl v4)] [] h) ∧ (¬ (h.1 111 38) ≤ v4 → J mX11_meets d 0 0 Q 0 0 176 [some (.inr (.inr 111)), u1, u2, u3, some (.inl v4)] [] h))
  exact ⟨(zo hr (by decide) rfl), k1, k2⟩

theorem bX11_meets_176 {d : Nat} {Q : Option MV → MH → Prop} {h : MH} {v3 v4 v1 v2 : Int32} (hr : zRf h) (g0 : vp_in v4 20) (g1 : vp_in (((nI 4) * v1) + v4) 20) (k : J mX11_meets d 0 0 Q 0 0 167 [some (.inr (.inr 111)), some (.inl v1), some (.inl v2), some (.inl (v3 + ((h.1 128 v4.toNatClampNeg) - (h.1 128 (((nI 4) * v1) + v4).toNatClampNeg)))), some (.inl (v4 + nI 1))] [] h) : J mX11_meets d 0 0 Q 0 0 176 [some (.inr (.inr 111)), some (.inl v1), some (.inl v2), some (.inl v3), some (.inl v4)] [] h := by
  refine zrun 92 18 qX11_meets (o := 11) rfl ?_
  show zokO h 111 11 ∧ zokA h (h.2.2.1 111 34) 20 v4 ∧ zokO h 111 11 ∧ zokA h (h.2.2.1 111 34) 20 (((nI 4) * v1) + v4) ∧ J mX11_meets d 0 0 Q 0 0 167 [some (.inr (.inr 111)), some (.inl v1), some (.inl v2), some (.inl (v3 + ((h.1 (h.2.2.1 111 34) v4.toNatClampNeg) - (h.1 (h.2.2.1 111 34) (((nI 4) * v1) + v4).toNatClampNeg)))), some (.inl (v4 + nI 1))] [] h
  rw [(show h.2.2.1 111 34 = 128 from (hr.at (by decide) (by decide) (by rfl)))]
  exact ⟨(zo hr (by decide) rfl), (zia hr (by decide) (by rfl) g0), (zo hr (by decide) rfl), (zia hr (by decide) (by rfl) g1), k⟩

theorem bX11_meets_204 {d : Nat} {Q : Option MV → MH → Prop} {h : MH} {u1 u3 u4 : Option MV} {v2 : Int32} (hr : zRf h) (k1 : ¬ v2 = (h.1 111 39) → J mX11_meets d 0 0 Q 0 0 233 [some (.inr (.inr 111)), u1, some (.inl v2), u3, u4] [] h) (k2 : v2 = (h.1 111 39) → J mX11_meets d 0 0 Q 0 0 212 [some (.inr (.inr 111)), u1, some (.inl v2), u3, u4] [] h) : J mX11_meets d 0 0 Q 0 0 204 [some (.inr (.inr 111)), u1, some (.inl v2), u3, u4] [] h := by
  refine zrun 110 4 qX11_meets (o := 11) rfl ?_
  show zokO h 111 11 ∧ ((¬ v2 = (h.1 111 39) → J mX11_meets d 0 0 Q 0 0 233 [some (.inr (.inr 111)), u1, some (.inl v2), u3, u4] [] h) ∧ (v2 = (h.1 111 39) → J mX11_meets d 0 0 Q 0 0 212 [some (.inr (.inr 111)), u1, some (.inl v2), u3, u4] [] h))
  exact ⟨(zo hr (by decide) rfl), k1, k2⟩

theorem bX11_meets_212 {d : Nat} {Q : Option MV → MH → Prop} {h : MH} {u1 u2 u3 u4 : Option MV} (hr : zRf h) (k1 : (h.1 111 41) = (-(nI 1)) → J mX11_meets d 0 0 Q 0 0 228 [some (.inr (.inr 111)), u1, u2, u3, u4] [] h) (k2 : ¬ (h.1 111 41) = (-(nI 1)) → J mX11_meets d 0 0 Q 0 0 220 [some (.inr (.inr 111)), u1, u2, u3, u4] [] h) : J mX11_meets d 0 0 Q 0 0 212 [some (.inr (.inr 111)), u1, u2, u3, u4] [] h := by
  refine zrun 114 4 qX11_meets (o := 11) rfl ?_
  show zokO h 111 11 ∧ (((h.1 111 41) = (-(nI 1)) → J mX11_meets d 0 0 Q 0 0 228 [some (.inr (.inr 111)), u1, u2, u3, u4] [] h) ∧ (¬ (h.1 111 41) = (-(nI 1)) → J mX11_meets d 0 0 Q 0 0 220 [some (.inr (.inr 111)), u1, u2, u3, u4] [] h))
  exact ⟨(zo hr (by decide) rfl), k1, k2⟩

theorem bX11_meets_220 {d : Nat} {Q : Option MV → MH → Prop} {h : MH} {u1 u2 u4 : Option MV} {v3 : Int32} (hr : zRf h) (k1 : (h.1 111 41) ≤ v3 → J mX11_meets d 0 0 Q 0 0 233 [some (.inr (.inr 111)), u1, u2, some (.inl v3), u4] [] h) (k2 : ¬ (h.1 111 41) ≤ v3 → J mX11_meets d 0 0 Q 0 0 228 [some (.inr (.inr 111)), u1, u2, some (.inl v3), u4] [] h) : J mX11_meets d 0 0 Q 0 0 220 [some (.inr (.inr 111)), u1, u2, some (.inl v3), u4] [] h := by
  refine zrun 118 4 qX11_meets (o := 11) rfl ?_
  show zokO h 111 11 ∧ (((h.1 111 41) ≤ v3 → J mX11_meets d 0 0 Q 0 0 233 [some (.inr (.inr 111)), u1, u2, some (.inl v3), u4] [] h) ∧ (¬ (h.1 111 41) ≤ v3 → J mX11_meets d 0 0 Q 0 0 228 [some (.inr (.inr 111)), u1, u2, some (.inl v3), u4] [] h))
  exact ⟨(zo hr (by decide) rfl), k1, k2⟩

theorem bX11_meets_228 {d : Nat} {Q : Option MV → MH → Prop} {h : MH} {u1 u2 u4 : Option MV} {v3 : Int32} (hr : zRf h) (k : J mX11_meets d 0 0 Q 0 0 233 [some (.inr (.inr 111)), u1, u2, some (.inl v3), u4] [] (zsI h 111 41 v3)) : J mX11_meets d 0 0 Q 0 0 228 [some (.inr (.inr 111)), u1, u2, some (.inl v3), u4] [] h := by
  refine zrun 122 3 qX11_meets (o := 11) rfl ?_
  show zokO h 111 11 ∧ J mX11_meets d 0 0 Q 0 0 233 [some (.inr (.inr 111)), u1, u2, some (.inl v3), u4] [] (zsI h 111 41 v3)
  exact ⟨(zo hr (by decide) rfl), k⟩

theorem bX11_meets_233 {d : Nat} {Q : Option MV → MH → Prop} {h : MH} {u0 u1 u2 u3 u4 : Option MV} (k : J mX11_meets d 0 0 Q 0 0 314 [u0, u1, u2, u3, u4] [] h) : J mX11_meets d 0 0 Q 0 0 233 [u0, u1, u2, u3, u4] [] h := by
  refine zrun 125 1 qX11_meets (o := 11) rfl ?_
  show J mX11_meets d 0 0 Q 0 0 314 [u0, u1, u2, u3, u4] [] h
  exact k

theorem bX11_meets_236 {d : Nat} {Q : Option MV → MH → Prop} {h : MH} {u1 u2 u3 u4 : Option MV} (hr : zRf h) (k1 : ¬ (h.1 111 40) = (nI 6) → J mX11_meets d 0 0 Q 0 0 294 [some (.inr (.inr 111)), u1, u2, u3, u4] [] h) (k2 : (h.1 111 40) = (nI 6) → J mX11_meets d 0 0 Q 0 0 245 [some (.inr (.inr 111)), u1, u2, u3, u4] [] h) : J mX11_meets d 0 0 Q 0 0 236 [some (.inr (.inr 111)), u1, u2, u3, u4] [] h := by
  refine zrun 126 4 qX11_meets (o := 11) rfl ?_
  show zokO h 111 11 ∧ ((¬ (h.1 111 40) = (nI 6) → J mX11_meets d 0 0 Q 0 0 294 [some (.inr (.inr 111)), u1, u2, u3, u4] [] h) ∧ ((h.1 111 40) = (nI 6) → J mX11_meets d 0 0 Q 0 0 245 [some (.inr (.inr 111)), u1, u2, u3, u4] [] h))
  exact ⟨(zo hr (by decide) rfl), k1, k2⟩

theorem bX11_meets_245 {d : Nat} {Q : Option MV → MH → Prop} {h : MH} {u1 u3 u4 : Option MV} {v2 : Int32} (hr : zRf h) (k1 : ¬ v2 = (h.1 111 39) → J mX11_meets d 0 0 Q 0 0 260 [some (.inr (.inr 111)), u1, some (.inl v2), u3, u4] [] h) (k2 : v2 = (h.1 111 39) → J mX11_meets d 0 0 Q 0 0 253 [some (.inr (.inr 111)), u1, some (.inl v2), u3, u4] [] h) : J mX11_meets d 0 0 Q 0 0 245 [some (.inr (.inr 111)), u1, some (.inl v2), u3, u4] [] h := by
  refine zrun 130 4 qX11_meets (o := 11) rfl ?_
  show zokO h 111 11 ∧ ((¬ v2 = (h.1 111 39) → J mX11_meets d 0 0 Q 0 0 260 [some (.inr (.inr 111)), u1, some (.inl v2), u3, u4] [] h) ∧ (v2 = (h.1 111 39) → J mX11_meets d 0 0 Q 0 0 253 [some (.inr (.inr 111)), u1, some (.inl v2), u3, u4] [] h))
  exact ⟨(zo hr (by decide) rfl), k1, k2⟩

theorem bX11_meets_253 {d : Nat} {Q : Option MV → MH → Prop} {h : MH} {u1 u2 u3 u4 : Option MV} (hr : zRf h) (k1 : (h.1 111 48) ≤ 0 → J mX11_meets d 0 0 Q 0 0 261 [some (.inr (.inr 111)), u1, u2, u3, u4] [] h) (k2 : ¬ (h.1 111 48) ≤ 0 → J mX11_meets d 0 0 Q 0 0 260 [some (.inr (.inr 111)), u1, u2, u3, u4] [] h) : J mX11_meets d 0 0 Q 0 0 253 [some (.inr (.inr 111)), u1, u2, u3, u4] [] h := by
  refine zrun 134 3 qX11_meets (o := 11) rfl ?_
  show zokO h 111 11 ∧ (((h.1 111 48) ≤ 0 → J mX11_meets d 0 0 Q 0 0 261 [some (.inr (.inr 111)), u1, u2, u3, u4] [] h) ∧ (¬ (h.1 111 48) ≤ 0 → J mX11_meets d 0 0 Q 0 0 260 [some (.inr (.inr 111)), u1, u2, u3, u4] [] h))
  exact ⟨(zo hr (by decide) rfl), k1, k2⟩

theorem bX11_meets_260 {d : Nat} {Q : Option MV → MH → Prop} {h : MH} {u0 u1 u2 u3 u4 : Option MV} (k : Q none h) : J mX11_meets d 0 0 Q 0 0 260 [u0, u1, u2, u3, u4] [] h := by
  exact J_vret (zat qX11_meets 137 (by rfl)) rfl (Nat.le_refl 0) (Nat.le_refl 0) k

theorem bX11_meets_261 {d : Nat} {Q : Option MV → MH → Prop} {h : MH} {u3 u4 : Option MV} {v1 v2 : Int32} (hr : zRf h) (k : J mX11_meets d 0 0 Q 0 0 268 [some (.inr (.inr 111)), some (.inl v1), some (.inl v2), some (.inl (nI 0)), u4] [] (zsI h 111 48 v1)) : J mX11_meets d 0 0 Q 0 0 261 [some (.inr (.inr 111)), some (.inl v1), some (.inl v2), u3, u4] [] h := by
  refine zrun 138 5 qX11_meets (o := 11) rfl ?_
  show zokO h 111 11 ∧ J mX11_meets d 0 0 Q 0 0 268 [some (.inr (.inr 111)), some (.inl v1), some (.inl v2), some (.inl (nI 0)), u4] [] (zsI h 111 48 v1)
  exact ⟨(zo hr (by decide) rfl), k⟩

theorem bX11_meets_268 {d : Nat} {Q : Option MV → MH → Prop} {h : MH} {u0 u2 u4 : Option MV} {v3 v1 : Int32} (k1 : v1 ≤ v3 → J mX11_meets d 0 0 Q 0 0 291 [u0, some (.inl v1), u2, some (.inl v3), u4] [] h) (k2 : ¬ v1 ≤ v3 → J mX11_meets d 0 0 Q 0 0 273 [u0, some (.inl v1), u2, some (.inl v3), u4] [] h) : J mX11_meets d 0 0 Q 0 0 268 [u0, some (.inl v1), u2, some (.inl v3), u4] [] h := by
  refine zrun 143 3 qX11_meets (o := 11) rfl ?_
  show ((v1 ≤ v3 → J mX11_meets d 0 0 Q 0 0 291 [u0, some (.inl v1), u2, some (.inl v3), u4] [] h) ∧ (¬ v1 ≤ v3 → J mX11_meets d 0 0 Q 0 0 273 [u0, some (.inl v1), u2, some (.inl v3), u4] [] h))
  exact ⟨k1, k2⟩

theorem bX11_meets_273 {d : Nat} {Q : Option MV → MH → Prop} {h : MH} {u1 u4 : Option MV} {v3 v2 : Int32} (hr : zRf h) (g0 : vp_in v3 5) (k : J mX11_meets d 0 0 Q 0 0 268 [some (.inr (.inr 111)), u1, some (.inl v2), some (.inl (v3 + nI 1)), u4] [] (zsI h 135 v3.toNatClampNeg (h.1 134 v3.toNatClampNeg))) : J mX11_meets d 0 0 Q 0 0 273 [some (.inr (.inr 111)), u1, some (.inl v2), some (.inl v3), u4] [] h := by
  refine zrun 146 10 qX11_meets (o := 11) rfl ?_
  show zokO h 111 11 ∧ zokO h 111 11 ∧ zokA h (h.2.2.1 111 45) 20 v3 ∧ zokA h (h.2.2.1 111 46) 20 v3 ∧ J mX11_meets d 0 0 Q 0 0 268 [some (.inr (.inr 111)), u1, some (.inl v2), some (.inl (v3 + nI 1)), u4] [] (zsI h (h.2.2.1 111 46) v3.toNatClampNeg (h.1 (h.2.2.1 111 45) v3.toNatClampNeg))
  rw [(show h.2.2.1 111 46 = 135 from (hr.at (by decide) (by decide) (by rfl))), (show h.2.2.1 111 45 = 134 from (hr.at (by decide) (by decide) (by rfl)))]
  exact ⟨(zo hr (by decide) rfl), (zo hr (by decide) rfl), (zia hr (by decide) (by rfl) g0), (zia hr (by decide) (by rfl) g0), k⟩

theorem bX11_meets_291 {d : Nat} {Q : Option MV → MH → Prop} {h : MH} {u0 u1 u2 u3 u4 : Option MV} (k : J mX11_meets d 0 0 Q 0 0 314 [u0, u1, u2, u3, u4] [] h) : J mX11_meets d 0 0 Q 0 0 291 [u0, u1, u2, u3, u4] [] h := by
  refine zrun 156 1 qX11_meets (o := 11) rfl ?_
  show J mX11_meets d 0 0 Q 0 0 314 [u0, u1, u2, u3, u4] [] h
  exact k

theorem bX11_meets_294 {d d' : Nat} {Q : Option MV → MH → Prop} {h : MH} {u2 u3 u4 : Option MV} {v1 : Int32} (hr : zRf h) (hd : d' + 1 ≤ d) (k : Con mX11_areTold d' 0 0 [.inr (.inr 111), .inl v1] h (zri fun (x : Int32) h' => J mX11_meets d 0 0 Q 0 0 300 [some (.inr (.inr 111)), some (.inl v1), u2, u3, u4] [.inl x, .inr (.inr 111)] h')) : J mX11_meets d 0 0 Q 0 0 294 [some (.inr (.inr 111)), some (.inl v1), u2, u3, u4] [] h := by
  refine zrun 157 3 qX11_meets (o := 11) rfl ?_
  show J mX11_meets d 0 0 Q 0 0 297 [some (.inr (.inr 111)), some (.inl v1), u2, u3, u4] [.inl v1, .inr (.inr 111), .inr (.inr 111)] h
  exact zcVi (as := [.inl v1]) (zat qX11_meets 160 (by rfl)) l11_318 rfl hd rfl (Nat.le_of_ble_eq_true rfl) zle0 (ci := 11) (by decide) rfl (zo hr (by decide) rfl) k

theorem bX11_meets_300 {d : Nat} {Q : Option MV → MH → Prop} {h : MH} {u0 u1 u2 u3 u4 : Option MV} {vs1 : Int32} (k1 : vs1 = 0 → J mX11_meets d 0 0 Q 0 0 307 [u0, u1, u2, u3, u4] [.inr (.inr 111)] h) (k2 : ¬ vs1 = 0 → J mX11_meets d 0 0 Q 0 0 303 [u0, u1, u2, u3, u4] [.inr (.inr 111)] h) : J mX11_meets d 0 0 Q 0 0 300 [u0, u1, u2, u3, u4] [.inl vs1, .inr (.inr 111)] h := by
  refine zrun 161 1 qX11_meets (o := 11) rfl ?_
  show ((vs1 = 0 → J mX11_meets d 0 0 Q 0 0 307 [u0, u1, u2, u3, u4] [.inr (.inr 111)] h) ∧ (¬ vs1 = 0 → J mX11_meets d 0 0 Q 0 0 303 [u0, u1, u2, u3, u4] [.inr (.inr 111)] h))
  exact ⟨k1, k2⟩

theorem bX11_meets_303 {d : Nat} {Q : Option MV → MH → Prop} {h : MH} {u0 u1 u2 u3 u4 : Option MV} (k : J mX11_meets d 0 0 Q 0 0 311 [u0, u1, u2, u3, u4] [.inl (nI 1), .inr (.inr 111)] h) : J mX11_meets d 0 0 Q 0 0 303 [u0, u1, u2, u3, u4] [.inr (.inr 111)] h := by
  refine zrun 162 2 qX11_meets (o := 11) rfl ?_
  show J mX11_meets d 0 0 Q 0 0 311 [u0, u1, u2, u3, u4] [.inl (nI 1), .inr (.inr 111)] h
  exact k

theorem bX11_meets_307 {d : Nat} {Q : Option MV → MH → Prop} {h : MH} {u1 u2 u3 u4 : Option MV} (hr : zRf h) (k : J mX11_meets d 0 0 Q 0 0 311 [some (.inr (.inr 111)), u1, u2, u3, u4] [.inl (h.1 111 41), .inr (.inr 111)] h) : J mX11_meets d 0 0 Q 0 0 307 [some (.inr (.inr 111)), u1, u2, u3, u4] [.inr (.inr 111)] h := by
  refine zrun 164 2 qX11_meets (o := 11) rfl ?_
  show zokO h 111 11 ∧ J mX11_meets d 0 0 Q 0 0 311 [some (.inr (.inr 111)), u1, u2, u3, u4] [.inl (h.1 111 41), .inr (.inr 111)] h
  exact ⟨(zo hr (by decide) rfl), k⟩

theorem bX11_meets_311 {d : Nat} {Q : Option MV → MH → Prop} {h : MH} {u0 u1 u2 u3 u4 : Option MV} {vs1 : Int32} (hr : zRf h) (k : J mX11_meets d 0 0 Q 0 0 314 [u0, u1, u2, u3, u4] [] (zsI h 111 41 vs1)) : J mX11_meets d 0 0 Q 0 0 311 [u0, u1, u2, u3, u4] [.inl vs1, .inr (.inr 111)] h := by
  refine zrun 166 1 qX11_meets (o := 11) rfl ?_
  show zokO h 111 11 ∧ J mX11_meets d 0 0 Q 0 0 314 [u0, u1, u2, u3, u4] [] (zsI h 111 41 vs1)
  exact ⟨(zo hr (by decide) rfl), k⟩

theorem bX11_meets_314 {d : Nat} {Q : Option MV → MH → Prop} {h : MH} {u0 u1 u2 u3 u4 : Option MV} (k : Q none h) : J mX11_meets d 0 0 Q 0 0 314 [u0, u1, u2, u3, u4] [] h := by
  exact J_vret (zat qX11_meets 167 (by rfl)) rfl (Nat.le_refl 0) (Nat.le_refl 0) k

theorem bX11_areTold_0 {d : Nat} {Q : Option MV → MH → Prop} {h : MH} {u0 u2 u3 u4 : Option MV} {v1 : Int32} (k : J mX11_areTold d 0 0 Q 0 0 2 [u0, some (.inl v1), some (.inl (nI 0)), u3, u4] [] h) : J mX11_areTold d 0 0 Q 0 0 0 [u0, some (.inl v1), u2, u3, u4] [] h := by
  refine zrun 0 2 qX11_areTold (o := 11) rfl ?_
  show J mX11_areTold d 0 0 Q 0 0 2 [u0, some (.inl v1), some (.inl (nI 0)), u3, u4] [] h
  exact k

theorem bX11_areTold_2 {d : Nat} {Q : Option MV → MH → Prop} {h : MH} {u1 u3 u4 : Option MV} {v2 : Int32} (hr : zRf h) (k1 : (h.1 111 47) ≤ v2 → J mX11_areTold d 0 0 Q 0 0 65 [some (.inr (.inr 111)), u1, some (.inl v2), u3, u4] [] h) (k2 : ¬ (h.1 111 47) ≤ v2 → J mX11_areTold d 0 0 Q 0 0 10 [some (.inr (.inr 111)), u1, some (.inl v2), u3, u4] [] h) : J mX11_areTold d 0 0 Q 0 0 2 [some (.inr (.inr 111)), u1, some (.inl v2), u3, u4] [] h := by
  refine zrun 2 4 qX11_areTold (o := 11) rfl ?_
  show zokO h 111 11 ∧ (((h.1 111 47) ≤ v2 → J mX11_areTold d 0 0 Q 0 0 65 [some (.inr (.inr 111)), u1, some (.inl v2), u3, u4] [] h) ∧ (¬ (h.1 111 47) ≤ v2 → J mX11_areTold d 0 0 Q 0 0 10 [some (.inr (.inr 111)), u1, some (.inl v2), u3, u4] [] h))
  exact ⟨(zo hr (by decide) rfl), k1, k2⟩

theorem bX11_areTold_10 {d : Nat} {Q : Option MV → MH → Prop} {h : MH} {u0 u1 u3 u4 : Option MV} {v2 : Int32} (k : J mX11_areTold d 0 0 Q 0 0 15 [u0, u1, some (.inl v2), some (.inl (nI 0)), some (.inl (nI 1))] [] h) : J mX11_areTold d 0 0 Q 0 0 10 [u0, u1, some (.inl v2), u3, u4] [] h := by
  refine zrun 6 4 qX11_areTold (o := 11) rfl ?_
  show J mX11_areTold d 0 0 Q 0 0 15 [u0, u1, some (.inl v2), some (.inl (nI 0)), some (.inl (nI 1))] [] h
  exact k

theorem bX11_areTold_15 {d : Nat} {Q : Option MV → MH → Prop} {h : MH} {u0 u2 u3 : Option MV} {v4 v1 : Int32} (k1 : v1 < v4 → J mX11_areTold d 0 0 Q 0 0 53 [u0, some (.inl v1), u2, u3, some (.inl v4)] [] h) (k2 : ¬ v1 < v4 → J mX11_areTold d 0 0 Q 0 0 21 [u0, some (.inl v1), u2, u3, some (.inl v4)] [] h) : J mX11_areTold d 0 0 Q 0 0 15 [u0, some (.inl v1), u2, u3, some (.inl v4)] [] h := by
  refine zrun 10 3 qX11_areTold (o := 11) rfl ?_
  show ((v1 < v4 → J mX11_areTold d 0 0 Q 0 0 53 [u0, some (.inl v1), u2, u3, some (.inl v4)] [] h) ∧ (¬ v1 < v4 → J mX11_areTold d 0 0 Q 0 0 21 [u0, some (.inl v1), u2, u3, some (.inl v4)] [] h))
  exact ⟨k1, k2⟩

theorem bX11_areTold_21 {d : Nat} {Q : Option MV → MH → Prop} {h : MH} {u0 u1 u2 u4 : Option MV} {v3 : Int32} (k1 : ¬ v3 = 0 → J mX11_areTold d 0 0 Q 0 0 41 [u0, u1, u2, some (.inl v3), u4] [] h) (k2 : v3 = 0 → J mX11_areTold d 0 0 Q 0 0 25 [u0, u1, u2, some (.inl v3), u4] [] h) : J mX11_areTold d 0 0 Q 0 0 21 [u0, u1, u2, some (.inl v3), u4] [] h := by
  refine zrun 13 2 qX11_areTold (o := 11) rfl ?_
  show ((¬ v3 = 0 → J mX11_areTold d 0 0 Q 0 0 41 [u0, u1, u2, some (.inl v3), u4] [] h) ∧ (v3 = 0 → J mX11_areTold d 0 0 Q 0 0 25 [u0, u1, u2, some (.inl v3), u4] [] h))
  exact ⟨k1, k2⟩

theorem bX11_areTold_25 {d : Nat} {Q : Option MV → MH → Prop} {h : MH} {u1 u3 : Option MV} {v4 v2 : Int32} (hr : zRf h) (g0 : vp_in v4 5) (g1 : vp_in v2 40) (k1 : ¬ (h.1 130 v4.toNatClampNeg) = (h.1 133 v2.toNatClampNeg) → J mX11_areTold d 0 0 Q 0 0 45 [some (.inr (.inr 111)), u1, some (.inl v2), u3, some (.inl v4)] [] h) (k2 : (h.1 130 v4.toNatClampNeg) = (h.1 133 v2.toNatClampNeg) → J mX11_areTold d 0 0 Q 0 0 41 [some (.inr (.inr 111)), u1, some (.inl v2), u3, some (.inl v4)] [] h) : J mX11_areTold d 0 0 Q 0 0 25 [some (.inr (.inr 111)), u1, some (.inl v2), u3, some (.inl v4)] [] h := by
  refine zrun 15 9 qX11_areTold (o := 11) rfl ?_
  show zokO h 111 11 ∧ zokA h (h.2.2.1 111 36) 20 v4 ∧ zokO h 111 11 ∧ zokA h (h.2.2.1 111 44) 20 v2 ∧ ((¬ (h.1 (h.2.2.1 111 36) v4.toNatClampNeg) = (h.1 (h.2.2.1 111 44) v2.toNatClampNeg) → J mX11_areTold d 0 0 Q 0 0 45 [some (.inr (.inr 111)), u1, some (.inl v2), u3, some (.inl v4)] [] h) ∧ ((h.1 (h.2.2.1 111 36) v4.toNatClampNeg) = (h.1 (h.2.2.1 111 44) v2.toNatClampNeg) → J mX11_areTold d 0 0 Q 0 0 41 [some (.inr (.inr 111)), u1, some (.inl v2), u3, some (.inl v4)] [] h))
  rw [(show h.2.2.1 111 36 = 130 from (hr.at (by decide) (by decide) (by rfl))), (show h.2.2.1 111 44 = 133 from (hr.at (by decide) (by decide) (by rfl)))]
  exact ⟨(zo hr (by decide) rfl), (zia hr (by decide) (by rfl) g0), (zo hr (by decide) rfl), (zia hr (by decide) (by rfl) g1), k1, k2⟩

theorem bX11_areTold_41 {d : Nat} {Q : Option MV → MH → Prop} {h : MH} {u0 u1 u2 u3 u4 : Option MV} (k : J mX11_areTold d 0 0 Q 0 0 46 [u0, u1, u2, u3, u4] [.inl (nI 1)] h) : J mX11_areTold d 0 0 Q 0 0 41 [u0, u1, u2, u3, u4] [] h := by
  refine zrun 24 2 qX11_areTold (o := 11) rfl ?_
  show J mX11_areTold d 0 0 Q 0 0 46 [u0, u1, u2, u3, u4] [.inl (nI 1)] h
  exact k

theorem bX11_areTold_45 {d : Nat} {Q : Option MV → MH → Prop} {h : MH} {u0 u1 u2 u3 u4 : Option MV} (k : J mX11_areTold d 0 0 Q 0 0 46 [u0, u1, u2, u3, u4] [.inl (nI 0)] h) : J mX11_areTold d 0 0 Q 0 0 45 [u0, u1, u2, u3, u4] [] h := by
  refine zrun 26 1 qX11_areTold (o := 11) rfl ?_
  show J mX11_areTold d 0 0 Q 0 0 46 [u0, u1, u2, u3, u4] [.inl (nI 0)] h
  exact k

theorem bX11_areTold_46 {d : Nat} {Q : Option MV → MH → Prop} {h : MH} {u0 u1 u3 : Option MV} {vs0 v2 v4 : Int32} (k : J mX11_areTold d 0 0 Q 0 0 15 [u0, u1, some (.inl v2), some (.inl vs0), some (.inl (v4 + nI 1))] [] h) : J mX11_areTold d 0 0 Q 0 0 46 [u0, u1, some (.inl v2), u3, some (.inl v4)] [.inl vs0] h := by
  refine zrun 27 3 qX11_areTold (o := 11) rfl ?_
  show J mX11_areTold d 0 0 Q 0 0 15 [u0, u1, some (.inl v2), some (.inl vs0), some (.inl (v4 + nI 1))] [] h
  exact k

theorem bX11_areTold_53 {d : Nat} {Q : Option MV → MH → Prop} {h : MH} {u0 u1 u2 u4 : Option MV} {v3 : Int32} (k1 : ¬ v3 = 0 → J mX11_areTold d 0 0 Q 0 0 59 [u0, u1, u2, some (.inl v3), u4] [] h) (k2 : v3 = 0 → J mX11_areTold d 0 0 Q 0 0 57 [u0, u1, u2, some (.inl v3), u4] [] h) : J mX11_areTold d 0 0 Q 0 0 53 [u0, u1, u2, some (.inl v3), u4] [] h := by
  refine zrun 30 2 qX11_areTold (o := 11) rfl ?_
  show ((¬ v3 = 0 → J mX11_areTold d 0 0 Q 0 0 59 [u0, u1, u2, some (.inl v3), u4] [] h) ∧ (v3 = 0 → J mX11_areTold d 0 0 Q 0 0 57 [u0, u1, u2, some (.inl v3), u4] [] h))
  exact ⟨k1, k2⟩

theorem bX11_areTold_57 {d : Nat} {Q : Option MV → MH → Prop} {h : MH} {u0 u1 u2 u3 u4 : Option MV} (k : Q (some (.inl (nI 0))) h) : J mX11_areTold d 0 0 Q 0 0 57 [u0, u1, u2, u3, u4] [] h := by
  refine zrun 32 1 qX11_areTold (o := 11) rfl ?_
  show J mX11_areTold d 0 0 Q 0 0 58 [u0, u1, u2, u3, u4] [.inl (nI 0)] h
  exact J_iret (ty := .boolean) (zat qX11_areTold 33 (by rfl)) rfl (by decide) (Nat.le_refl 0) (Nat.le_refl 0) k

theorem bX11_areTold_59 {d : Nat} {Q : Option MV → MH → Prop} {h : MH} {u0 u3 u4 : Option MV} {v2 v1 : Int32} (k : J mX11_areTold d 0 0 Q 0 0 2 [u0, some (.inl v1), some (.inl (v2 + nI 1)), u3, u4] [] h) : J mX11_areTold d 0 0 Q 0 0 59 [u0, some (.inl v1), some (.inl v2), u3, u4] [] h := by
  refine zrun 34 2 qX11_areTold (o := 11) rfl ?_
  show J mX11_areTold d 0 0 Q 0 0 2 [u0, some (.inl v1), some (.inl (v2 + nI 1)), u3, u4] [] h
  exact k

theorem bX11_areTold_65 {d : Nat} {Q : Option MV → MH → Prop} {h : MH} {u0 u1 u2 u3 u4 : Option MV} (k : Q (some (.inl (nI 1))) h) : J mX11_areTold d 0 0 Q 0 0 65 [u0, u1, u2, u3, u4] [] h := by
  refine zrun 36 1 qX11_areTold (o := 11) rfl ?_
  show J mX11_areTold d 0 0 Q 0 0 66 [u0, u1, u2, u3, u4] [.inl (nI 1)] h
  exact J_iret (ty := .boolean) (zat qX11_areTold 37 (by rfl)) rfl (by decide) (Nat.le_refl 0) (Nat.le_refl 0) k

theorem bX11_adds_0 {d : Nat} {Q : Option MV → MH → Prop} {h : MH} {v1 : Int32} (hr : zRf h) (g0 : vp_in (v1 / (nI 32)) 11600) (k : Q none (zsI h 132 (v1 / (nI 32)).toNatClampNeg ((h.1 132 (v1 / (nI 32)).toNatClampNeg) ||| ((nI 1) <<< ((v1 - v1 / (nI 32) * (nI 32)) &&& 31))))) : J mX11_adds d 0 0 Q 0 0 0 [some (.inr (.inr 111)), some (.inl v1)] [] h := by
  refine zrun 0 14 qX11_adds (o := 11) rfl ?_
  show zokO h 111 11 ∧ ¬ (nI 32) = 0 ∧ zokA h (h.2.2.1 111 43) 20 (v1 / (nI 32)) ∧ ¬ (nI 32) = 0 ∧ zokA h (h.2.2.1 111 43) 20 (v1 / (nI 32)) ∧ J mX11_adds d 0 0 Q 0 0 18 [some (.inr (.inr 111)), some (.inl v1)] [] (zsI h (h.2.2.1 111 43) (v1 / (nI 32)).toNatClampNeg ((h.1 (h.2.2.1 111 43) (v1 / (nI 32)).toNatClampNeg) ||| ((nI 1) <<< ((v1 - v1 / (nI 32) * (nI 32)) &&& 31))))
  rw [(show h.2.2.1 111 43 = 132 from (hr.at (by decide) (by decide) (by rfl)))]
  exact ⟨(zo hr (by decide) rfl), (by decide), (zia hr (by decide) (by rfl) g0), (by decide), (zia hr (by decide) (by rfl) g0), J_vret (zat qX11_adds 14 (by rfl)) rfl (Nat.le_refl 0) (Nat.le_refl 0) k⟩

theorem bX11_isTime_0 {d : Nat} {Q : Option MV → MH → Prop} {h : MH} {v1 : Int32} (hr : zRf h) (k1 : (nI 11600) ≤ (v1 / (nI 32)) → J mX11_isTime d 0 0 Q 0 0 36 [some (.inr (.inr 111)), some (.inl v1)] [] h) (k2 : ¬ (nI 11600) ≤ (v1 / (nI 32)) → J mX11_isTime d 0 0 Q 0 0 12 [some (.inr (.inr 111)), some (.inl v1)] [] h) : J mX11_isTime d 0 0 Q 0 0 0 [some (.inr (.inr 111)), some (.inl v1)] [] h := by
  refine zrun 0 7 qX11_isTime (o := 11) rfl ?_
  show ¬ (nI 32) = 0 ∧ zokO h 111 11 ∧ (0 < h.2.2.1 111 43 ∧ (h.2.2.1 111 43) ≤ h.2.2.2 ∧ (zk (h.2.2.1 111 43)).1 = 20) ∧ (((nI (zk (h.2.2.1 111 43)).2) ≤ (v1 / (nI 32)) → J mX11_isTime d 0 0 Q 0 0 36 [some (.inr (.inr 111)), some (.inl v1)] [] h) ∧ (¬ (nI (zk (h.2.2.1 111 43)).2) ≤ (v1 / (nI 32)) → J mX11_isTime d 0 0 Q 0 0 12 [some (.inr (.inr 111)), some (.inl v1)] [] h))
  rw [(show h.2.2.1 111 43 = 132 from (hr.at (by decide) (by decide) (by rfl)))]
  exact ⟨(by decide), (zo hr (by decide) rfl), ⟨by decide, by have := hr.n; omega, rfl⟩, k1, k2⟩

theorem bX11_isTime_12 {d : Nat} {Q : Option MV → MH → Prop} {h : MH} {v1 : Int32} (hr : zRf h) (g0 : vp_in (v1 / (nI 32)) 11600) (k1 : ¬ (((h.1 132 (v1 / (nI 32)).toNatClampNeg) >>> ((v1 - v1 / (nI 32) * (nI 32)) &&& 31)) &&& (nI 1)) = (nI 1) → J mX11_isTime d 0 0 Q 0 0 36 [some (.inr (.inr 111)), some (.inl v1)] [] h) (k2 : (((h.1 132 (v1 / (nI 32)).toNatClampNeg) >>> ((v1 - v1 / (nI 32) * (nI 32)) &&& 31)) &&& (nI 1)) = (nI 1) → J mX11_isTime d 0 0 Q 0 0 32 [some (.inr (.inr 111)), some (.inl v1)] [] h) : J mX11_isTime d 0 0 Q 0 0 12 [some (.inr (.inr 111)), some (.inl v1)] [] h := by
  refine zrun 7 14 qX11_isTime (o := 11) rfl ?_
  show zokO h 111 11 ∧ ¬ (nI 32) = 0 ∧ zokA h (h.2.2.1 111 43) 20 (v1 / (nI 32)) ∧ ¬ (nI 32) = 0 ∧ ((¬ (((h.1 (h.2.2.1 111 43) (v1 / (nI 32)).toNatClampNeg) >>> ((v1 - v1 / (nI 32) * (nI 32)) &&& 31)) &&& (nI 1)) = (nI 1) → J mX11_isTime d 0 0 Q 0 0 36 [some (.inr (.inr 111)), some (.inl v1)] [] h) ∧ ((((h.1 (h.2.2.1 111 43) (v1 / (nI 32)).toNatClampNeg) >>> ((v1 - v1 / (nI 32) * (nI 32)) &&& 31)) &&& (nI 1)) = (nI 1) → J mX11_isTime d 0 0 Q 0 0 32 [some (.inr (.inr 111)), some (.inl v1)] [] h))
  rw [(show h.2.2.1 111 43 = 132 from (hr.at (by decide) (by decide) (by rfl)))]
  exact ⟨(zo hr (by decide) rfl), (by decide), (zia hr (by decide) (by rfl) g0), (by decide), k1, k2⟩

theorem bX11_isTime_32 {d : Nat} {Q : Option MV → MH → Prop} {h : MH} {u0 u1 : Option MV} (k : J mX11_isTime d 0 0 Q 0 0 37 [u0, u1] [.inl (nI 1)] h) : J mX11_isTime d 0 0 Q 0 0 32 [u0, u1] [] h := by
  refine zrun 21 2 qX11_isTime (o := 11) rfl ?_
  show J mX11_isTime d 0 0 Q 0 0 37 [u0, u1] [.inl (nI 1)] h
  exact k

theorem bX11_isTime_36 {d : Nat} {Q : Option MV → MH → Prop} {h : MH} {u0 u1 : Option MV} (k : J mX11_isTime d 0 0 Q 0 0 37 [u0, u1] [.inl (nI 0)] h) : J mX11_isTime d 0 0 Q 0 0 36 [u0, u1] [] h := by
  refine zrun 23 1 qX11_isTime (o := 11) rfl ?_
  show J mX11_isTime d 0 0 Q 0 0 37 [u0, u1] [.inl (nI 0)] h
  exact k

theorem bX11_isTime_37 {d : Nat} {Q : Option MV → MH → Prop} {h : MH} {u0 u1 : Option MV} {vs0 : Int32} (gn : vs0 = 0 ∨ vs0 = 1) (k : Q (some (.inl vs0)) h) : J mX11_isTime d 0 0 Q 0 0 37 [u0, u1] [.inl vs0] h := by
  exact J_iret (ty := .boolean) (zat qX11_isTime 24 (by rfl)) rfl (znz gn) (Nat.le_refl 0) (Nat.le_refl 0) k

theorem bX11_timeAt_0 {d : Nat} {Q : Option MV → MH → Prop} {h : MH} {u0 u2 u3 : Option MV} {v1 : Int32} (k : J mX11_timeAt d 0 0 Q 0 0 4 [u0, some (.inl v1), some (.inl (nI 0)), some (.inl (nI 0))] [] h) : J mX11_timeAt d 0 0 Q 0 0 0 [u0, some (.inl v1), u2, u3] [] h := by
  refine zrun 0 4 qX11_timeAt (o := 11) rfl ?_
  show J mX11_timeAt d 0 0 Q 0 0 4 [u0, some (.inl v1), some (.inl (nI 0)), some (.inl (nI 0))] [] h
  exact k

theorem bX11_timeAt_4 {d : Nat} {Q : Option MV → MH → Prop} {h : MH} {u1 u2 : Option MV} {v3 : Int32} (hr : zRf h) (k1 : ((nI 32) * (nI 11600)) ≤ v3 → J mX11_timeAt d 0 0 Q 0 0 43 [some (.inr (.inr 111)), u1, u2, some (.inl v3)] [] h) (k2 : ¬ ((nI 32) * (nI 11600)) ≤ v3 → J mX11_timeAt d 0 0 Q 0 0 16 [some (.inr (.inr 111)), u1, u2, some (.inl v3)] [] h) : J mX11_timeAt d 0 0 Q 0 0 4 [some (.inr (.inr 111)), u1, u2, some (.inl v3)] [] h := by
  refine zrun 4 7 qX11_timeAt (o := 11) rfl ?_
  show zokO h 111 11 ∧ (0 < h.2.2.1 111 43 ∧ (h.2.2.1 111 43) ≤ h.2.2.2 ∧ (zk (h.2.2.1 111 43)).1 = 20) ∧ ((((nI 32) * (nI (zk (h.2.2.1 111 43)).2)) ≤ v3 → J mX11_timeAt d 0 0 Q 0 0 43 [some (.inr (.inr 111)), u1, u2, some (.inl v3)] [] h) ∧ (¬ ((nI 32) * (nI (zk (h.2.2.1 111 43)).2)) ≤ v3 → J mX11_timeAt d 0 0 Q 0 0 16 [some (.inr (.inr 111)), u1, u2, some (.inl v3)] [] h))
  rw [(show h.2.2.1 111 43 = 132 from (hr.at (by decide) (by decide) (by rfl)))]
  exact ⟨(zo hr (by decide) rfl), ⟨by decide, by have := hr.n; omega, rfl⟩, k1, k2⟩

theorem bX11_timeAt_16 {d d' : Nat} {Q : Option MV → MH → Prop} {h : MH} {u1 u2 : Option MV} {v3 : Int32} (hr : zRf h) (hd : d' + 1 ≤ d) (k : Con mX11_isTime d' 0 0 [.inr (.inr 111), .inl v3] h (zri fun (x : Int32) h' => J mX11_timeAt d 0 0 Q 0 0 21 [some (.inr (.inr 111)), u1, u2, some (.inl v3)] [.inl x] h')) : J mX11_timeAt d 0 0 Q 0 0 16 [some (.inr (.inr 111)), u1, u2, some (.inl v3)] [] h := by
  refine zrun 11 2 qX11_timeAt (o := 11) rfl ?_
  show J mX11_timeAt d 0 0 Q 0 0 18 [some (.inr (.inr 111)), u1, u2, some (.inl v3)] [.inl v3, .inr (.inr 111)] h
  exact zcVi (as := [.inl v3]) (zat qX11_timeAt 13 (by rfl)) l11_324 rfl hd rfl (Nat.le_of_ble_eq_true rfl) zle0 (ci := 11) (by decide) rfl (zo hr (by decide) rfl) k

theorem bX11_timeAt_21 {d : Nat} {Q : Option MV → MH → Prop} {h : MH} {u0 u1 u2 u3 : Option MV} {vs0 : Int32} (k1 : ¬ vs0 = 0 → J mX11_timeAt d 0 0 Q 0 0 27 [u0, u1, u2, u3] [] h) (k2 : vs0 = 0 → J mX11_timeAt d 0 0 Q 0 0 24 [u0, u1, u2, u3] [] h) : J mX11_timeAt d 0 0 Q 0 0 21 [u0, u1, u2, u3] [.inl vs0] h := by
  refine zrun 14 1 qX11_timeAt (o := 11) rfl ?_
  show ((¬ vs0 = 0 → J mX11_timeAt d 0 0 Q 0 0 27 [u0, u1, u2, u3] [] h) ∧ (vs0 = 0 → J mX11_timeAt d 0 0 Q 0 0 24 [u0, u1, u2, u3] [] h))
  exact ⟨k1, k2⟩

theorem bX11_timeAt_24 {d : Nat} {Q : Option MV → MH → Prop} {h : MH} {u0 u1 u2 u3 : Option MV} (k : J mX11_timeAt d 0 0 Q 0 0 37 [u0, u1, u2, u3] [] h) : J mX11_timeAt d 0 0 Q 0 0 24 [u0, u1, u2, u3] [] h := by
  refine zrun 15 1 qX11_timeAt (o := 11) rfl ?_
  show J mX11_timeAt d 0 0 Q 0 0 37 [u0, u1, u2, u3] [] h
  exact k

theorem bX11_timeAt_27 {d : Nat} {Q : Option MV → MH → Prop} {h : MH} {u0 u3 : Option MV} {v2 v1 : Int32} (k1 : ¬ v2 = v1 → J mX11_timeAt d 0 0 Q 0 0 34 [u0, some (.inl v1), some (.inl v2), u3] [] h) (k2 : v2 = v1 → J mX11_timeAt d 0 0 Q 0 0 32 [u0, some (.inl v1), some (.inl v2), u3] [] h) : J mX11_timeAt d 0 0 Q 0 0 27 [u0, some (.inl v1), some (.inl v2), u3] [] h := by
  refine zrun 16 3 qX11_timeAt (o := 11) rfl ?_
  show ((¬ v2 = v1 → J mX11_timeAt d 0 0 Q 0 0 34 [u0, some (.inl v1), some (.inl v2), u3] [] h) ∧ (v2 = v1 → J mX11_timeAt d 0 0 Q 0 0 32 [u0, some (.inl v1), some (.inl v2), u3] [] h))
  exact ⟨k1, k2⟩

theorem bX11_timeAt_32 {d : Nat} {Q : Option MV → MH → Prop} {h : MH} {u0 u1 u2 : Option MV} {v3 : Int32} (k : Q (some (.inl v3)) h) : J mX11_timeAt d 0 0 Q 0 0 32 [u0, u1, u2, some (.inl v3)] [] h := by
  refine zrun 19 1 qX11_timeAt (o := 11) rfl ?_
  show J mX11_timeAt d 0 0 Q 0 0 33 [u0, u1, u2, some (.inl v3)] [.inl v3] h
  exact J_iret (ty := .int) (zat qX11_timeAt 20 (by rfl)) rfl rfl (Nat.le_refl 0) (Nat.le_refl 0) k

theorem bX11_timeAt_34 {d : Nat} {Q : Option MV → MH → Prop} {h : MH} {u0 u3 : Option MV} {v2 v1 : Int32} (k : J mX11_timeAt d 0 0 Q 0 0 37 [u0, some (.inl v1), some (.inl (v2 + nI 1)), u3] [] h) : J mX11_timeAt d 0 0 Q 0 0 34 [u0, some (.inl v1), some (.inl v2), u3] [] h := by
  refine zrun 21 1 qX11_timeAt (o := 11) rfl ?_
  show J mX11_timeAt d 0 0 Q 0 0 37 [u0, some (.inl v1), some (.inl (v2 + nI 1)), u3] [] h
  exact k

theorem bX11_timeAt_37 {d : Nat} {Q : Option MV → MH → Prop} {h : MH} {u0 u1 : Option MV} {v3 v2 : Int32} (k : J mX11_timeAt d 0 0 Q 0 0 4 [u0, u1, some (.inl v2), some (.inl (v3 + nI 1))] [] h) : J mX11_timeAt d 0 0 Q 0 0 37 [u0, u1, some (.inl v2), some (.inl v3)] [] h := by
  refine zrun 22 2 qX11_timeAt (o := 11) rfl ?_
  show J mX11_timeAt d 0 0 Q 0 0 4 [u0, u1, some (.inl v2), some (.inl (v3 + nI 1))] [] h
  exact k

theorem bX11_timeAt_43 {d : Nat} {Q : Option MV → MH → Prop} {h : MH} {u0 u2 u3 : Option MV} {v1 : Int32} (k1 : ¬ v1 = (-(nI 1)) → J mX11_timeAt d 0 0 Q 0 0 52 [u0, some (.inl v1), u2, u3] [] h) (k2 : v1 = (-(nI 1)) → J mX11_timeAt d 0 0 Q 0 0 48 [u0, some (.inl v1), u2, u3] [] h) : J mX11_timeAt d 0 0 Q 0 0 43 [u0, some (.inl v1), u2, u3] [] h := by
  refine zrun 24 3 qX11_timeAt (o := 11) rfl ?_
  show ((¬ v1 = (-(nI 1)) → J mX11_timeAt d 0 0 Q 0 0 52 [u0, some (.inl v1), u2, u3] [] h) ∧ (v1 = (-(nI 1)) → J mX11_timeAt d 0 0 Q 0 0 48 [u0, some (.inl v1), u2, u3] [] h))
  exact ⟨k1, k2⟩

theorem bX11_timeAt_48 {d : Nat} {Q : Option MV → MH → Prop} {h : MH} {u0 u1 u3 : Option MV} {v2 : Int32} (k : J mX11_timeAt d 0 0 Q 0 0 53 [u0, u1, some (.inl v2), u3] [.inl v2] h) : J mX11_timeAt d 0 0 Q 0 0 48 [u0, u1, some (.inl v2), u3] [] h := by
  refine zrun 27 2 qX11_timeAt (o := 11) rfl ?_
  show J mX11_timeAt d 0 0 Q 0 0 53 [u0, u1, some (.inl v2), u3] [.inl v2] h
  exact k

theorem bX11_timeAt_52 {d : Nat} {Q : Option MV → MH → Prop} {h : MH} {u0 u1 u2 u3 : Option MV} (k : J mX11_timeAt d 0 0 Q 0 0 53 [u0, u1, u2, u3] [.inl (-(nI 1))] h) : J mX11_timeAt d 0 0 Q 0 0 52 [u0, u1, u2, u3] [] h := by
  refine zrun 29 1 qX11_timeAt (o := 11) rfl ?_
  show J mX11_timeAt d 0 0 Q 0 0 53 [u0, u1, u2, u3] [.inl (-(nI 1))] h
  exact k

theorem bX11_timeAt_53 {d : Nat} {Q : Option MV → MH → Prop} {h : MH} {u0 u1 u2 u3 : Option MV} {vs0 : Int32} (k : Q (some (.inl vs0)) h) : J mX11_timeAt d 0 0 Q 0 0 53 [u0, u1, u2, u3] [.inl vs0] h := by
  exact J_iret (ty := .int) (zat qX11_timeAt 30 (by rfl)) rfl rfl (Nat.le_refl 0) (Nat.le_refl 0) k

theorem bX11_laysTimes_0 {d : Nat} {Q : Option MV → MH → Prop} {h : MH} {u0 u1 u3 : Option MV} {v2 : Int32} (k : J mX11_laysTimes d 0 0 Q 0 0 2 [u0, u1, some (.inl v2), some (.inl (nI 0))] [] h) : J mX11_laysTimes d 0 0 Q 0 0 0 [u0, u1, some (.inl v2), u3] [] h := by
  refine zrun 0 2 qX11_laysTimes (o := 11) rfl ?_
  show J mX11_laysTimes d 0 0 Q 0 0 2 [u0, u1, some (.inl v2), some (.inl (nI 0))] [] h
  exact k

theorem bX11_laysTimes_2 {d : Nat} {Q : Option MV → MH → Prop} {h : MH} {u1 u2 : Option MV} {v3 : Int32} (hr : zRf h) (k1 : (nI 11600) ≤ v3 → J mX11_laysTimes d 0 0 Q 0 0 24 [some (.inr (.inr 111)), u1, u2, some (.inl v3)] [] h) (k2 : ¬ (nI 11600) ≤ v3 → J mX11_laysTimes d 0 0 Q 0 0 11 [some (.inr (.inr 111)), u1, u2, some (.inl v3)] [] h) : J mX11_laysTimes d 0 0 Q 0 0 2 [some (.inr (.inr 111)), u1, u2, some (.inl v3)] [] h := by
  refine zrun 2 5 qX11_laysTimes (o := 11) rfl ?_
  show zokO h 111 11 ∧ (0 < h.2.2.1 111 43 ∧ (h.2.2.1 111 43) ≤ h.2.2.2 ∧ (zk (h.2.2.1 111 43)).1 = 20) ∧ (((nI (zk (h.2.2.1 111 43)).2) ≤ v3 → J mX11_laysTimes d 0 0 Q 0 0 24 [some (.inr (.inr 111)), u1, u2, some (.inl v3)] [] h) ∧ (¬ (nI (zk (h.2.2.1 111 43)).2) ≤ v3 → J mX11_laysTimes d 0 0 Q 0 0 11 [some (.inr (.inr 111)), u1, u2, some (.inl v3)] [] h))
  rw [(show h.2.2.1 111 43 = 132 from (hr.at (by decide) (by decide) (by rfl)))]
  exact ⟨(zo hr (by decide) rfl), ⟨by decide, by have := hr.n; omega, rfl⟩, k1, k2⟩

theorem bX11_laysTimes_11 {d : Nat} {Q : Option MV → MH → Prop} {h : MH} {u1 : Option MV} {v3 v2 : Int32} (hr : zRf h) (g0 : vp_in v3 11600) (k : J mX11_laysTimes d 0 0 Q 0 0 2 [some (.inr (.inr 111)), u1, some (.inl v2), some (.inl (v3 + nI 1))] [] (zsI h 132 v3.toNatClampNeg (nI 0))) : J mX11_laysTimes d 0 0 Q 0 0 11 [some (.inr (.inr 111)), u1, some (.inl v2), some (.inl v3)] [] h := by
  refine zrun 7 7 qX11_laysTimes (o := 11) rfl ?_
  show zokO h 111 11 ∧ zokA h (h.2.2.1 111 43) 20 v3 ∧ J mX11_laysTimes d 0 0 Q 0 0 2 [some (.inr (.inr 111)), u1, some (.inl v2), some (.inl (v3 + nI 1))] [] (zsI h (h.2.2.1 111 43) v3.toNatClampNeg (nI 0))
  rw [(show h.2.2.1 111 43 = 132 from (hr.at (by decide) (by decide) (by rfl)))]
  exact ⟨(zo hr (by decide) rfl), (zia hr (by decide) (by rfl) g0), k⟩

theorem bX11_laysTimes_24 {d d' : Nat} {Q : Option MV → MH → Prop} {h : MH} {u3 : Option MV} {v1 v2 : Int32} (hr : zRf h) (hd : d' + 1 ≤ d) (k : Con mX11_seeks d' 0 0 [.inr (.inr 111), .inl v1, .inl v2, .inl (nI 0)] h (zrv fun h' => J mX11_laysTimes d 0 0 Q 0 0 31 [some (.inr (.inr 111)), some (.inl v1), some (.inl v2), u3] [] h')) : J mX11_laysTimes d 0 0 Q 0 0 24 [some (.inr (.inr 111)), some (.inl v1), some (.inl v2), u3] [] h := by
  refine zrun 14 4 qX11_laysTimes (o := 11) rfl ?_
  show J mX11_laysTimes d 0 0 Q 0 0 28 [some (.inr (.inr 111)), some (.inl v1), some (.inl v2), u3] [.inl (nI 0), .inl v2, .inl v1, .inr (.inr 111)] h
  exact zcVv (as := [.inl v1, .inl v2, .inl (nI 0)]) (zat qX11_laysTimes 18 (by rfl)) l11_327 rfl hd rfl (Nat.le_of_ble_eq_true rfl) zle0 (ci := 11) (by decide) rfl (zo hr (by decide) rfl) k

theorem bX11_laysTimes_31 {d : Nat} {Q : Option MV → MH → Prop} {h : MH} {u0 u1 u2 u3 : Option MV} (k : Q none h) : J mX11_laysTimes d 0 0 Q 0 0 31 [u0, u1, u2, u3] [] h := by
  exact J_vret (zat qX11_laysTimes 19 (by rfl)) rfl (Nat.le_refl 0) (Nat.le_refl 0) k

theorem bX11_goes_0 {d : Nat} {Q : Option MV → MH → Prop} {h : MH} {u0 u2 u3 u4 u5 u6 u7 u8 u9 u10 u11 u12 : Option MV} {v1 : Int32} (k : J mX11_goes d 0 0 Q 0 0 4 [u0, some (.inl v1), some (.inl (nI 1)), some (.inl (nI 0)), u4, u5, u6, u7, u8, u9, u10, u11, u12] [] h) : J mX11_goes d 0 0 Q 0 0 0 [u0, some (.inl v1), u2, u3, u4, u5, u6, u7, u8, u9, u10, u11, u12] [] h := by
  refine zrun 0 4 qX11_goes (o := 11) rfl ?_
  show J mX11_goes d 0 0 Q 0 0 4 [u0, some (.inl v1), some (.inl (nI 1)), some (.inl (nI 0)), u4, u5, u6, u7, u8, u9, u10, u11, u12] [] h
  exact k

theorem bX11_goes_4 {d : Nat} {Q : Option MV → MH → Prop} {h : MH} {u1 u2 u4 u5 u6 u7 u8 u9 u10 u11 u12 : Option MV} {v3 : Int32} (hr : zRf h) (k1 : (h.1 111 38) ≤ v3 → J mX11_goes d 0 0 Q 0 0 22 [some (.inr (.inr 111)), u1, u2, some (.inl v3), u4, u5, u6, u7, u8, u9, u10, u11, u12] [] h) (k2 : ¬ (h.1 111 38) ≤ v3 → J mX11_goes d 0 0 Q 0 0 12 [some (.inr (.inr 111)), u1, u2, some (.inl v3), u4, u5, u6, u7, u8, u9, u10, u11, u12] [] h) : J mX11_goes d 0 0 Q 0 0 4 [some (.inr (.inr 111)), u1, u2, some (.inl v3), u4, u5, u6, u7, u8, u9, u10, u11, u12] [] h := by
  refine zrun 4 4 qX11_goes (o := 11) rfl ?_
  show zokO h 111 11 ∧ (((h.1 111 38) ≤ v3 → J mX11_goes d 0 0 Q 0 0 22 [some (.inr (.inr 111)), u1, u2, some (.inl v3), u4, u5, u6, u7, u8, u9, u10, u11, u12] [] h) ∧ (¬ (h.1 111 38) ≤ v3 → J mX11_goes d 0 0 Q 0 0 12 [some (.inr (.inr 111)), u1, u2, some (.inl v3), u4, u5, u6, u7, u8, u9, u10, u11, u12] [] h))
  exact ⟨(zo hr (by decide) rfl), k1, k2⟩

theorem bX11_goes_12 {d : Nat} {Q : Option MV → MH → Prop} {h : MH} {u0 u4 u5 u6 u7 u8 u9 u10 u11 u12 : Option MV} {v2 v1 v3 : Int32} (k : J mX11_goes d 0 0 Q 0 0 4 [u0, some (.inl v1), some (.inl (v2 * (nI 3))), some (.inl (v3 + nI 1)), u4, u5, u6, u7, u8, u9, u10, u11, u12] [] h) : J mX11_goes d 0 0 Q 0 0 12 [u0, some (.inl v1), some (.inl v2), some (.inl v3), u4, u5, u6, u7, u8, u9, u10, u11, u12] [] h := by
  refine zrun 8 6 qX11_goes (o := 11) rfl ?_
  show J mX11_goes d 0 0 Q 0 0 4 [u0, some (.inl v1), some (.inl (v2 * (nI 3))), some (.inl (v3 + nI 1)), u4, u5, u6, u7, u8, u9, u10, u11, u12] [] h
  exact k

theorem bX11_goes_22 {d : Nat} {Q : Option MV → MH → Prop} {h : MH} {u0 u1 u3 u4 u5 u6 u7 u8 u9 u10 u11 u12 : Option MV} {v2 : Int32} (k : J mX11_goes d 0 0 Q 0 0 24 [u0, u1, some (.inl v2), some (.inl (nI 1)), u4, u5, u6, u7, u8, u9, u10, u11, u12] [] h) : J mX11_goes d 0 0 Q 0 0 22 [u0, u1, some (.inl v2), u3, u4, u5, u6, u7, u8, u9, u10, u11, u12] [] h := by
  refine zrun 14 2 qX11_goes (o := 11) rfl ?_
  show J mX11_goes d 0 0 Q 0 0 24 [u0, u1, some (.inl v2), some (.inl (nI 1)), u4, u5, u6, u7, u8, u9, u10, u11, u12] [] h
  exact k

theorem bX11_goes_24 {d : Nat} {Q : Option MV → MH → Prop} {h : MH} {u0 u1 u4 u5 u6 u7 u8 u9 u10 u11 u12 : Option MV} {v3 v2 : Int32} (k1 : v2 ≤ v3 → J mX11_goes d 0 0 Q 0 0 432 [u0, u1, some (.inl v2), some (.inl v3), u4, u5, u6, u7, u8, u9, u10, u11, u12] [] h) (k2 : ¬ v2 ≤ v3 → J mX11_goes d 0 0 Q 0 0 29 [u0, u1, some (.inl v2), some (.inl v3), u4, u5, u6, u7, u8, u9, u10, u11, u12] [] h) : J mX11_goes d 0 0 Q 0 0 24 [u0, u1, some (.inl v2), some (.inl v3), u4, u5, u6, u7, u8, u9, u10, u11, u12] [] h := by
  refine zrun 16 3 qX11_goes (o := 11) rfl ?_
  show ((v2 ≤ v3 → J mX11_goes d 0 0 Q 0 0 432 [u0, u1, some (.inl v2), some (.inl v3), u4, u5, u6, u7, u8, u9, u10, u11, u12] [] h) ∧ (¬ v2 ≤ v3 → J mX11_goes d 0 0 Q 0 0 29 [u0, u1, some (.inl v2), some (.inl v3), u4, u5, u6, u7, u8, u9, u10, u11, u12] [] h))
  exact ⟨k1, k2⟩

theorem bX11_goes_29 {d : Nat} {Q : Option MV → MH → Prop} {h : MH} {u0 u1 u4 u5 u6 u7 u8 u9 u10 u11 u12 : Option MV} {v2 v3 : Int32} (k : J mX11_goes d 0 0 Q 0 0 47 [u0, u1, some (.inl v2), some (.inl v3), some (.inl v2), some (.inl (nI 0)), some (.inl (nI 0)), some (.inl (-(nI 1))), some (.inl (nI 1)), some (.inl (nI 0)), u10, u11, u12] [] h) : J mX11_goes d 0 0 Q 0 0 29 [u0, u1, some (.inl v2), some (.inl v3), u4, u5, u6, u7, u8, u9, u10, u11, u12] [] h := by
  refine zrun 19 12 qX11_goes (o := 11) rfl ?_
  show J mX11_goes d 0 0 Q 0 0 47 [u0, u1, some (.inl v2), some (.inl v3), some (.inl v2), some (.inl (nI 0)), some (.inl (nI 0)), some (.inl (-(nI 1))), some (.inl (nI 1)), some (.inl (nI 0)), u10, u11, u12] [] h
  exact k

theorem bX11_goes_47 {d : Nat} {Q : Option MV → MH → Prop} {h : MH} {u1 u2 u3 u4 u5 u6 u7 u8 u10 u11 u12 : Option MV} {v9 : Int32} (hr : zRf h) (k1 : (h.1 111 38) ≤ v9 → J mX11_goes d 0 0 Q 0 0 222 [some (.inr (.inr 111)), u1, u2, u3, u4, u5, u6, u7, u8, some (.inl v9), u10, u11, u12] [] h) (k2 : ¬ (h.1 111 38) ≤ v9 → J mX11_goes d 0 0 Q 0 0 56 [some (.inr (.inr 111)), u1, u2, u3, u4, u5, u6, u7, u8, some (.inl v9), u10, u11, u12] [] h) : J mX11_goes d 0 0 Q 0 0 47 [some (.inr (.inr 111)), u1, u2, u3, u4, u5, u6, u7, u8, some (.inl v9), u10, u11, u12] [] h := by
  refine zrun 31 4 qX11_goes (o := 11) rfl ?_
  show zokO h 111 11 ∧ (((h.1 111 38) ≤ v9 → J mX11_goes d 0 0 Q 0 0 222 [some (.inr (.inr 111)), u1, u2, u3, u4, u5, u6, u7, u8, some (.inl v9), u10, u11, u12] [] h) ∧ (¬ (h.1 111 38) ≤ v9 → J mX11_goes d 0 0 Q 0 0 56 [some (.inr (.inr 111)), u1, u2, u3, u4, u5, u6, u7, u8, some (.inl v9), u10, u11, u12] [] h))
  exact ⟨(zo hr (by decide) rfl), k1, k2⟩

theorem bX11_goes_56 {d : Nat} {Q : Option MV → MH → Prop} {h : MH} {u2 u6 u7 u10 u11 u12 : Option MV} {v4 v3 v9 v5 v1 v8 : Int32} (hr : zRf h) (g0 : ¬ (v4 / (nI 3)) = 0) (g1 : vp_in (((nI 4) * v1) + v9) 20) (k1 : v8 = 0 → J mX11_goes d 0 0 Q 0 0 144 [some (.inr (.inr 111)), some (.inl v1), u2, some (.inl v3), some (.inl (v4 / (nI 3))), some (.inl (((nI 10) * v5) + ((v3 / (v4 / (nI 3))) - (v3 / (v4 / (nI 3))) / (nI 3) * (nI 3)))), u6, u7, some (.inl v8), some (.inl v9), some (.inl ((v3 / (v4 / (nI 3))) - (v3 / (v4 / (nI 3))) / (nI 3) * (nI 3))), some (.inl (h.1 129 (((nI 4) * v1) + v9).toNatClampNeg)), some (.inl (h.1 128 (((nI 4) * v1) + v9).toNatClampNeg))] [] h) (k2 : ¬ v8 = 0 → J mX11_goes d 0 0 Q 0 0 111 [some (.inr (.inr 111)), some (.inl v1), u2, some (.inl v3), some (.inl (v4 / (nI 3))), some (.inl (((nI 10) * v5) + ((v3 / (v4 / (nI 3))) - (v3 / (v4 / (nI 3))) / (nI 3) * (nI 3)))), u6, u7, some (.inl v8), some (.inl v9), some (.inl ((v3 / (v4 / (nI 3))) - (v3 / (v4 / (nI 3))) / (nI 3) * (nI 3))), some (.inl (h.1 129 (((nI 4) * v1) + v9).toNatClampNeg)), some (.inl (h.1 128 (((nI 4) * v1) + v9).toNatClampNeg))] [] h) : J mX11_goes d 0 0 Q 0 0 56 [some (.inr (.inr 111)), some (.inl v1), u2, some (.inl v3), some (.inl v4), some (.inl v5), u6, u7, some (.inl v8), some (.inl v9), u10, u11, u12] [] h := by
  refine zrun 35 36 qX11_goes (o := 11) rfl ?_
  show ¬ (nI 3) = 0 ∧ ¬ (v4 / (nI 3)) = 0 ∧ ¬ (nI 3) = 0 ∧ zokO h 111 11 ∧ zokA h (h.2.2.1 111 35) 20 (((nI 4) * v1) + v9) ∧ zokO h 111 11 ∧ zokA h (h.2.2.1 111 34) 20 (((nI 4) * v1) + v9) ∧ ((v8 = 0 → J mX11_goes d 0 0 Q 0 0 144 [some (.inr (.inr 111)), some (.inl v1), u2, some (.inl v3), some (.inl (v4 / (nI 3))), some (.inl (((nI 10) * v5) + ((v3 / (v4 / (nI 3))) - (v3 / (v4 / (nI 3))) / (nI 3) * (nI 3)))), u6, u7, some (.inl v8), some (.inl v9), some (.inl ((v3 / (v4 / (nI 3))) - (v3 / (v4 / (nI 3))) / (nI 3) * (nI 3))), some (.inl (h.1 (h.2.2.1 111 35) (((nI 4) * v1) + v9).toNatClampNeg)), some (.inl (h.1 (h.2.2.1 111 34) (((nI 4) * v1) + v9).toNatClampNeg))] [] h) ∧ (¬ v8 = 0 → J mX11_goes d 0 0 Q 0 0 111 [some (.inr (.inr 111)), some (.inl v1), u2, some (.inl v3), some (.inl (v4 / (nI 3))), some (.inl (((nI 10) * v5) + ((v3 / (v4 / (nI 3))) - (v3 / (v4 / (nI 3))) / (nI 3) * (nI 3)))), u6, u7, some (.inl v8), some (.inl v9), some (.inl ((v3 / (v4 / (nI 3))) - (v3 / (v4 / (nI 3))) / (nI 3) * (nI 3))), some (.inl (h.1 (h.2.2.1 111 35) (((nI 4) * v1) + v9).toNatClampNeg)), some (.inl (h.1 (h.2.2.1 111 34) (((nI 4) * v1) + v9).toNatClampNeg))] [] h))
  rw [(show h.2.2.1 111 35 = 129 from (hr.at (by decide) (by decide) (by rfl))), (show h.2.2.1 111 34 = 128 from (hr.at (by decide) (by decide) (by rfl)))]
  exact ⟨(by decide), g0, (by decide), (zo hr (by decide) rfl), (zia hr (by decide) (by rfl) g1), (zo hr (by decide) rfl), (zia hr (by decide) (by rfl) g1), k1, k2⟩

theorem bX11_goes_111 {d : Nat} {Q : Option MV → MH → Prop} {h : MH} {u0 u1 u2 u3 u4 u5 u6 u7 u8 u9 u10 u11 : Option MV} {v12 : Int32} (k1 : 0 < v12 → J mX11_goes d 0 0 Q 0 0 121 [u0, u1, u2, u3, u4, u5, u6, u7, u8, u9, u10, u11, some (.inl v12)] [] h) (k2 : ¬ 0 < v12 → J mX11_goes d 0 0 Q 0 0 116 [u0, u1, u2, u3, u4, u5, u6, u7, u8, u9, u10, u11, some (.inl v12)] [] h) : J mX11_goes d 0 0 Q 0 0 111 [u0, u1, u2, u3, u4, u5, u6, u7, u8, u9, u10, u11, some (.inl v12)] [] h := by
  refine zrun 71 2 qX11_goes (o := 11) rfl ?_
  show ((0 < v12 → J mX11_goes d 0 0 Q 0 0 121 [u0, u1, u2, u3, u4, u5, u6, u7, u8, u9, u10, u11, some (.inl v12)] [] h) ∧ (¬ 0 < v12 → J mX11_goes d 0 0 Q 0 0 116 [u0, u1, u2, u3, u4, u5, u6, u7, u8, u9, u10, u11, some (.inl v12)] [] h))
  exact ⟨k1, k2⟩

theorem bX11_goes_116 {d : Nat} {Q : Option MV → MH → Prop} {h : MH} {u0 u1 u2 u3 u4 u5 u6 u7 u8 u9 u11 u12 : Option MV} {v10 : Int32} (k1 : ¬ v10 = 0 → J mX11_goes d 0 0 Q 0 0 144 [u0, u1, u2, u3, u4, u5, u6, u7, u8, u9, some (.inl v10), u11, u12] [] h) (k2 : v10 = 0 → J mX11_goes d 0 0 Q 0 0 121 [u0, u1, u2, u3, u4, u5, u6, u7, u8, u9, some (.inl v10), u11, u12] [] h) : J mX11_goes d 0 0 Q 0 0 116 [u0, u1, u2, u3, u4, u5, u6, u7, u8, u9, some (.inl v10), u11, u12] [] h := by
  refine zrun 73 2 qX11_goes (o := 11) rfl ?_
  show ((¬ v10 = 0 → J mX11_goes d 0 0 Q 0 0 144 [u0, u1, u2, u3, u4, u5, u6, u7, u8, u9, some (.inl v10), u11, u12] [] h) ∧ (v10 = 0 → J mX11_goes d 0 0 Q 0 0 121 [u0, u1, u2, u3, u4, u5, u6, u7, u8, u9, some (.inl v10), u11, u12] [] h))
  exact ⟨k1, k2⟩

theorem bX11_goes_121 {d : Nat} {Q : Option MV → MH → Prop} {h : MH} {u0 u1 u2 u3 u4 u5 u6 u7 u8 u9 u10 u11 : Option MV} {v12 : Int32} (k1 : v12 = 0 → J mX11_goes d 0 0 Q 0 0 140 [u0, u1, u2, u3, u4, u5, u6, u7, u8, u9, u10, u11, some (.inl v12)] [] h) (k2 : ¬ v12 = 0 → J mX11_goes d 0 0 Q 0 0 126 [u0, u1, u2, u3, u4, u5, u6, u7, u8, u9, u10, u11, some (.inl v12)] [] h) : J mX11_goes d 0 0 Q 0 0 121 [u0, u1, u2, u3, u4, u5, u6, u7, u8, u9, u10, u11, some (.inl v12)] [] h := by
  refine zrun 75 2 qX11_goes (o := 11) rfl ?_
  show ((v12 = 0 → J mX11_goes d 0 0 Q 0 0 140 [u0, u1, u2, u3, u4, u5, u6, u7, u8, u9, u10, u11, some (.inl v12)] [] h) ∧ (¬ v12 = 0 → J mX11_goes d 0 0 Q 0 0 126 [u0, u1, u2, u3, u4, u5, u6, u7, u8, u9, u10, u11, some (.inl v12)] [] h))
  exact ⟨k1, k2⟩

theorem bX11_goes_126 {d : Nat} {Q : Option MV → MH → Prop} {h : MH} {u1 u2 u3 u4 u5 u6 u7 u8 u9 u10 u11 u12 : Option MV} (hr : zRf h) (k1 : ¬ (h.1 111 42) = 0 → J mX11_goes d 0 0 Q 0 0 140 [some (.inr (.inr 111)), u1, u2, u3, u4, u5, u6, u7, u8, u9, u10, u11, u12] [] h) (k2 : (h.1 111 42) = 0 → J mX11_goes d 0 0 Q 0 0 133 [some (.inr (.inr 111)), u1, u2, u3, u4, u5, u6, u7, u8, u9, u10, u11, u12] [] h) : J mX11_goes d 0 0 Q 0 0 126 [some (.inr (.inr 111)), u1, u2, u3, u4, u5, u6, u7, u8, u9, u10, u11, u12] [] h := by
  refine zrun 77 3 qX11_goes (o := 11) rfl ?_
  show zokO h 111 11 ∧ ((¬ (h.1 111 42) = 0 → J mX11_goes d 0 0 Q 0 0 140 [some (.inr (.inr 111)), u1, u2, u3, u4, u5, u6, u7, u8, u9, u10, u11, u12] [] h) ∧ ((h.1 111 42) = 0 → J mX11_goes d 0 0 Q 0 0 133 [some (.inr (.inr 111)), u1, u2, u3, u4, u5, u6, u7, u8, u9, u10, u11, u12] [] h))
  exact ⟨(zo hr (by decide) rfl), k1, k2⟩

theorem bX11_goes_133 {d : Nat} {Q : Option MV → MH → Prop} {h : MH} {u0 u1 u2 u3 u4 u5 u6 u7 u8 u9 u12 : Option MV} {v10 v11 : Int32} (k1 : v10 < v11 → J mX11_goes d 0 0 Q 0 0 144 [u0, u1, u2, u3, u4, u5, u6, u7, u8, u9, some (.inl v10), some (.inl v11), u12] [] h) (k2 : ¬ v10 < v11 → J mX11_goes d 0 0 Q 0 0 140 [u0, u1, u2, u3, u4, u5, u6, u7, u8, u9, some (.inl v10), some (.inl v11), u12] [] h) : J mX11_goes d 0 0 Q 0 0 133 [u0, u1, u2, u3, u4, u5, u6, u7, u8, u9, some (.inl v10), some (.inl v11), u12] [] h := by
  refine zrun 80 3 qX11_goes (o := 11) rfl ?_
  show ((v10 < v11 → J mX11_goes d 0 0 Q 0 0 144 [u0, u1, u2, u3, u4, u5, u6, u7, u8, u9, some (.inl v10), some (.inl v11), u12] [] h) ∧ (¬ v10 < v11 → J mX11_goes d 0 0 Q 0 0 140 [u0, u1, u2, u3, u4, u5, u6, u7, u8, u9, some (.inl v10), some (.inl v11), u12] [] h))
  exact ⟨k1, k2⟩

theorem bX11_goes_140 {d : Nat} {Q : Option MV → MH → Prop} {h : MH} {u0 u1 u2 u3 u4 u5 u6 u7 u8 u9 u10 u11 u12 : Option MV} (k : J mX11_goes d 0 0 Q 0 0 145 [u0, u1, u2, u3, u4, u5, u6, u7, u8, u9, u10, u11, u12] [.inl (nI 1)] h) : J mX11_goes d 0 0 Q 0 0 140 [u0, u1, u2, u3, u4, u5, u6, u7, u8, u9, u10, u11, u12] [] h := by
  refine zrun 83 2 qX11_goes (o := 11) rfl ?_
  show J mX11_goes d 0 0 Q 0 0 145 [u0, u1, u2, u3, u4, u5, u6, u7, u8, u9, u10, u11, u12] [.inl (nI 1)] h
  exact k

theorem bX11_goes_144 {d : Nat} {Q : Option MV → MH → Prop} {h : MH} {u0 u1 u2 u3 u4 u5 u6 u7 u8 u9 u10 u11 u12 : Option MV} (k : J mX11_goes d 0 0 Q 0 0 145 [u0, u1, u2, u3, u4, u5, u6, u7, u8, u9, u10, u11, u12] [.inl (nI 0)] h) : J mX11_goes d 0 0 Q 0 0 144 [u0, u1, u2, u3, u4, u5, u6, u7, u8, u9, u10, u11, u12] [] h := by
  refine zrun 85 1 qX11_goes (o := 11) rfl ?_
  show J mX11_goes d 0 0 Q 0 0 145 [u0, u1, u2, u3, u4, u5, u6, u7, u8, u9, u10, u11, u12] [.inl (nI 0)] h
  exact k

theorem bX11_goes_145 {d : Nat} {Q : Option MV → MH → Prop} {h : MH} {u0 u1 u2 u3 u4 u5 u8 u9 u12 : Option MV} {vs0 v7 v6 v10 v11 : Int32} (k1 : v10 ≤ v11 → J mX11_goes d 0 0 Q 0 0 164 [u0, u1, u2, u3, u4, u5, some (.inl v6), some (.inl v7), some (.inl vs0), u9, some (.inl v10), some (.inl v11), u12] [.inl v6] h) (k2 : ¬ v10 ≤ v11 → J mX11_goes d 0 0 Q 0 0 156 [u0, u1, u2, u3, u4, u5, some (.inl v6), some (.inl v7), some (.inl vs0), u9, some (.inl v10), some (.inl v11), u12] [.inl v6] h) : J mX11_goes d 0 0 Q 0 0 145 [u0, u1, u2, u3, u4, u5, some (.inl v6), some (.inl v7), u8, u9, some (.inl v10), some (.inl v11), u12] [.inl vs0] h := by
  refine zrun 86 5 qX11_goes (o := 11) rfl ?_
  show ((v10 ≤ v11 → J mX11_goes d 0 0 Q 0 0 164 [u0, u1, u2, u3, u4, u5, some (.inl v6), some (.inl v7), some (.inl vs0), u9, some (.inl v10), some (.inl v11), u12] [.inl v6] h) ∧ (¬ v10 ≤ v11 → J mX11_goes d 0 0 Q 0 0 156 [u0, u1, u2, u3, u4, u5, some (.inl v6), some (.inl v7), some (.inl vs0), u9, some (.inl v10), some (.inl v11), u12] [.inl v6] h))
  exact ⟨k1, k2⟩

theorem bX11_goes_156 {d : Nat} {Q : Option MV → MH → Prop} {h : MH} {u0 u1 u2 u3 u4 u5 u6 u7 u8 u9 u12 : Option MV} {vs0 v10 v11 : Int32} (k : J mX11_goes d 0 0 Q 0 0 165 [u0, u1, u2, u3, u4, u5, u6, u7, u8, u9, some (.inl v10), some (.inl v11), u12] [.inl (v10 - v11), .inl vs0] h) : J mX11_goes d 0 0 Q 0 0 156 [u0, u1, u2, u3, u4, u5, u6, u7, u8, u9, some (.inl v10), some (.inl v11), u12] [.inl vs0] h := by
  refine zrun 91 4 qX11_goes (o := 11) rfl ?_
  show J mX11_goes d 0 0 Q 0 0 165 [u0, u1, u2, u3, u4, u5, u6, u7, u8, u9, some (.inl v10), some (.inl v11), u12] [.inl (v10 - v11), .inl vs0] h
  exact k

theorem bX11_goes_164 {d : Nat} {Q : Option MV → MH → Prop} {h : MH} {u0 u1 u2 u3 u4 u5 u6 u7 u8 u9 u10 u11 u12 : Option MV} {vs0 : Int32} (k : J mX11_goes d 0 0 Q 0 0 165 [u0, u1, u2, u3, u4, u5, u6, u7, u8, u9, u10, u11, u12] [.inl (nI 0), .inl vs0] h) : J mX11_goes d 0 0 Q 0 0 164 [u0, u1, u2, u3, u4, u5, u6, u7, u8, u9, u10, u11, u12] [.inl vs0] h := by
  refine zrun 95 1 qX11_goes (o := 11) rfl ?_
  show J mX11_goes d 0 0 Q 0 0 165 [u0, u1, u2, u3, u4, u5, u6, u7, u8, u9, u10, u11, u12] [.inl (nI 0), .inl vs0] h
  exact k

theorem bX11_goes_165 {d : Nat} {Q : Option MV → MH → Prop} {h : MH} {u2 u3 u4 u6 u7 u8 u11 u12 : Option MV} {vs0 vs1 v5 v1 v9 v10 : Int32} (hr : zRf h) (g0 : vp_in ((((nI 4) * v1) + (nI 4)) + v9) 20) (k1 : v10 ≤ 0 → J mX11_goes d 0 0 Q 0 0 216 [some (.inr (.inr 111)), some (.inl v1), u2, u3, u4, some (.inl v5), some (.inl (vs0 + vs1)), u7, u8, some (.inl v9), some (.inl v10), u11, u12] [] (zsI h 129 ((((nI 4) * v1) + (nI 4)) + v9).toNatClampNeg v10)) (k2 : ¬ v10 ≤ 0 → J mX11_goes d 0 0 Q 0 0 188 [some (.inr (.inr 111)), some (.inl v1), u2, u3, u4, some (.inl v5), some (.inl (vs0 + vs1)), u7, u8, some (.inl v9), some (.inl v10), u11, u12] [] (zsI h 129 ((((nI 4) * v1) + (nI 4)) + v9).toNatClampNeg v10)) : J mX11_goes d 0 0 Q 0 0 165 [some (.inr (.inr 111)), some (.inl v1), u2, u3, u4, some (.inl v5), u6, u7, u8, some (.inl v9), some (.inl v10), u11, u12] [.inl vs1, .inl vs0] h := by
  refine zrun 96 15 qX11_goes (o := 11) rfl ?_
  show zokO h 111 11 ∧ zokA h (h.2.2.1 111 35) 20 ((((nI 4) * v1) + (nI 4)) + v9) ∧ ((v10 ≤ 0 → J mX11_goes d 0 0 Q 0 0 216 [some (.inr (.inr 111)), some (.inl v1), u2, u3, u4, some (.inl v5), some (.inl (vs0 + vs1)), u7, u8, some (.inl v9), some (.inl v10), u11, u12] [] (zsI h (h.2.2.1 111 35) ((((nI 4) * v1) + (nI 4)) + v9).toNatClampNeg v10)) ∧ (¬ v10 ≤ 0 → J mX11_goes d 0 0 Q 0 0 188 [some (.inr (.inr 111)), some (.inl v1), u2, u3, u4, some (.inl v5), some (.inl (vs0 + vs1)), u7, u8, some (.inl v9), some (.inl v10), u11, u12] [] (zsI h (h.2.2.1 111 35) ((((nI 4) * v1) + (nI 4)) + v9).toNatClampNeg v10)))
  rw [(show h.2.2.1 111 35 = 129 from (hr.at (by decide) (by decide) (by rfl)))]
  exact ⟨(zo hr (by decide) rfl), (zia hr (by decide) (by rfl) g0), k1, k2⟩

theorem bX11_goes_188 {d : Nat} {Q : Option MV → MH → Prop} {h : MH} {u0 u1 u2 u3 u4 u5 u6 u7 u8 u9 u10 u11 : Option MV} {v12 : Int32} (k1 : v12 ≤ 0 → J mX11_goes d 0 0 Q 0 0 216 [u0, u1, u2, u3, u4, u5, u6, u7, u8, u9, u10, u11, some (.inl v12)] [] h) (k2 : ¬ v12 ≤ 0 → J mX11_goes d 0 0 Q 0 0 193 [u0, u1, u2, u3, u4, u5, u6, u7, u8, u9, u10, u11, some (.inl v12)] [] h) : J mX11_goes d 0 0 Q 0 0 188 [u0, u1, u2, u3, u4, u5, u6, u7, u8, u9, u10, u11, some (.inl v12)] [] h := by
  refine zrun 111 2 qX11_goes (o := 11) rfl ?_
  show ((v12 ≤ 0 → J mX11_goes d 0 0 Q 0 0 216 [u0, u1, u2, u3, u4, u5, u6, u7, u8, u9, u10, u11, some (.inl v12)] [] h) ∧ (¬ v12 ≤ 0 → J mX11_goes d 0 0 Q 0 0 193 [u0, u1, u2, u3, u4, u5, u6, u7, u8, u9, u10, u11, some (.inl v12)] [] h))
  exact ⟨k1, k2⟩

theorem bX11_goes_193 {d : Nat} {Q : Option MV → MH → Prop} {h : MH} {u0 u1 u2 u3 u4 u5 u6 u8 u9 u10 u11 u12 : Option MV} {v7 : Int32} (k1 : v7 = (-(nI 1)) → J mX11_goes d 0 0 Q 0 0 209 [u0, u1, u2, u3, u4, u5, u6, some (.inl v7), u8, u9, u10, u11, u12] [] h) (k2 : ¬ v7 = (-(nI 1)) → J mX11_goes d 0 0 Q 0 0 199 [u0, u1, u2, u3, u4, u5, u6, some (.inl v7), u8, u9, u10, u11, u12] [] h) : J mX11_goes d 0 0 Q 0 0 193 [u0, u1, u2, u3, u4, u5, u6, some (.inl v7), u8, u9, u10, u11, u12] [] h := by
  refine zrun 113 3 qX11_goes (o := 11) rfl ?_
  show ((v7 = (-(nI 1)) → J mX11_goes d 0 0 Q 0 0 209 [u0, u1, u2, u3, u4, u5, u6, some (.inl v7), u8, u9, u10, u11, u12] [] h) ∧ (¬ v7 = (-(nI 1)) → J mX11_goes d 0 0 Q 0 0 199 [u0, u1, u2, u3, u4, u5, u6, some (.inl v7), u8, u9, u10, u11, u12] [] h))
  exact ⟨k1, k2⟩

theorem bX11_goes_199 {d : Nat} {Q : Option MV → MH → Prop} {h : MH} {u0 u1 u2 u3 u4 u5 u6 u8 u9 u11 : Option MV} {v12 v10 v7 : Int32} (g0 : ¬ v10 = 0) (k1 : v7 ≤ (v12 / v10) → J mX11_goes d 0 0 Q 0 0 216 [u0, u1, u2, u3, u4, u5, u6, some (.inl v7), u8, u9, some (.inl v10), u11, some (.inl v12)] [] h) (k2 : ¬ v7 ≤ (v12 / v10) → J mX11_goes d 0 0 Q 0 0 209 [u0, u1, u2, u3, u4, u5, u6, some (.inl v7), u8, u9, some (.inl v10), u11, some (.inl v12)] [] h) : J mX11_goes d 0 0 Q 0 0 199 [u0, u1, u2, u3, u4, u5, u6, some (.inl v7), u8, u9, some (.inl v10), u11, some (.inl v12)] [] h := by
  refine zrun 116 5 qX11_goes (o := 11) rfl ?_
  show ¬ v10 = 0 ∧ ((v7 ≤ (v12 / v10) → J mX11_goes d 0 0 Q 0 0 216 [u0, u1, u2, u3, u4, u5, u6, some (.inl v7), u8, u9, some (.inl v10), u11, some (.inl v12)] [] h) ∧ (¬ v7 ≤ (v12 / v10) → J mX11_goes d 0 0 Q 0 0 209 [u0, u1, u2, u3, u4, u5, u6, some (.inl v7), u8, u9, some (.inl v10), u11, some (.inl v12)] [] h))
  exact ⟨g0, k1, k2⟩

theorem bX11_goes_209 {d : Nat} {Q : Option MV → MH → Prop} {h : MH} {u0 u1 u2 u3 u4 u5 u7 u8 u9 u11 : Option MV} {v12 v10 v6 : Int32} (g0 : ¬ v10 = 0) (k : J mX11_goes d 0 0 Q 0 0 216 [u0, u1, u2, u3, u4, u5, some (.inl v6), some (.inl (v12 / v10)), u8, u9, some (.inl v10), u11, some (.inl v12)] [] h) : J mX11_goes d 0 0 Q 0 0 209 [u0, u1, u2, u3, u4, u5, some (.inl v6), u7, u8, u9, some (.inl v10), u11, some (.inl v12)] [] h := by
  refine zrun 121 4 qX11_goes (o := 11) rfl ?_
  show ¬ v10 = 0 ∧ J mX11_goes d 0 0 Q 0 0 216 [u0, u1, u2, u3, u4, u5, some (.inl v6), some (.inl (v12 / v10)), u8, u9, some (.inl v10), u11, some (.inl v12)] [] h
  exact ⟨g0, k⟩

theorem bX11_goes_216 {d : Nat} {Q : Option MV → MH → Prop} {h : MH} {u0 u1 u2 u3 u4 u5 u6 u7 u10 u11 u12 : Option MV} {v9 v8 : Int32} (k : J mX11_goes d 0 0 Q 0 0 47 [u0, u1, u2, u3, u4, u5, u6, u7, some (.inl v8), some (.inl (v9 + nI 1)), u10, u11, u12] [] h) : J mX11_goes d 0 0 Q 0 0 216 [u0, u1, u2, u3, u4, u5, u6, u7, some (.inl v8), some (.inl v9), u10, u11, u12] [] h := by
  refine zrun 125 2 qX11_goes (o := 11) rfl ?_
  show J mX11_goes d 0 0 Q 0 0 47 [u0, u1, u2, u3, u4, u5, u6, u7, some (.inl v8), some (.inl (v9 + nI 1)), u10, u11, u12] [] h
  exact k

theorem bX11_goes_222 {d : Nat} {Q : Option MV → MH → Prop} {h : MH} {u0 u1 u2 u3 u4 u5 u6 u7 u9 u10 u11 u12 : Option MV} {v8 : Int32} (k1 : v8 = 0 → J mX11_goes d 0 0 Q 0 0 426 [u0, u1, u2, u3, u4, u5, u6, u7, some (.inl v8), u9, u10, u11, u12] [] h) (k2 : ¬ v8 = 0 → J mX11_goes d 0 0 Q 0 0 227 [u0, u1, u2, u3, u4, u5, u6, u7, some (.inl v8), u9, u10, u11, u12] [] h) : J mX11_goes d 0 0 Q 0 0 222 [u0, u1, u2, u3, u4, u5, u6, u7, some (.inl v8), u9, u10, u11, u12] [] h := by
  refine zrun 127 2 qX11_goes (o := 11) rfl ?_
  show ((v8 = 0 → J mX11_goes d 0 0 Q 0 0 426 [u0, u1, u2, u3, u4, u5, u6, u7, some (.inl v8), u9, u10, u11, u12] [] h) ∧ (¬ v8 = 0 → J mX11_goes d 0 0 Q 0 0 227 [u0, u1, u2, u3, u4, u5, u6, u7, some (.inl v8), u9, u10, u11, u12] [] h))
  exact ⟨k1, k2⟩

theorem bX11_goes_227 {d : Nat} {Q : Option MV → MH → Prop} {h : MH} {u0 u1 u2 u3 u4 u5 u6 u8 u9 u10 u11 u12 : Option MV} {v7 : Int32} (k1 : ¬ v7 = (-(nI 1)) → J mX11_goes d 0 0 Q 0 0 236 [u0, u1, u2, u3, u4, u5, u6, some (.inl v7), u8, u9, u10, u11, u12] [] h) (k2 : v7 = (-(nI 1)) → J mX11_goes d 0 0 Q 0 0 233 [u0, u1, u2, u3, u4, u5, u6, some (.inl v7), u8, u9, u10, u11, u12] [] h) : J mX11_goes d 0 0 Q 0 0 227 [u0, u1, u2, u3, u4, u5, u6, some (.inl v7), u8, u9, u10, u11, u12] [] h := by
  refine zrun 129 3 qX11_goes (o := 11) rfl ?_
  show ((¬ v7 = (-(nI 1)) → J mX11_goes d 0 0 Q 0 0 236 [u0, u1, u2, u3, u4, u5, u6, some (.inl v7), u8, u9, u10, u11, u12] [] h) ∧ (v7 = (-(nI 1)) → J mX11_goes d 0 0 Q 0 0 233 [u0, u1, u2, u3, u4, u5, u6, some (.inl v7), u8, u9, u10, u11, u12] [] h))
  exact ⟨k1, k2⟩

theorem bX11_goes_233 {d : Nat} {Q : Option MV → MH → Prop} {h : MH} {u0 u1 u2 u3 u4 u5 u6 u7 u8 u9 u10 u11 u12 : Option MV} (k : J mX11_goes d 0 0 Q 0 0 426 [u0, u1, u2, u3, u4, u5, u6, u7, u8, u9, u10, u11, u12] [] h) : J mX11_goes d 0 0 Q 0 0 233 [u0, u1, u2, u3, u4, u5, u6, u7, u8, u9, u10, u11, u12] [] h := by
  refine zrun 132 1 qX11_goes (o := 11) rfl ?_
  show J mX11_goes d 0 0 Q 0 0 426 [u0, u1, u2, u3, u4, u5, u6, u7, u8, u9, u10, u11, u12] [] h
  exact k

theorem bX11_goes_236 {d : Nat} {Q : Option MV → MH → Prop} {h : MH} {u0 u1 u2 u3 u4 u5 u6 u7 u9 u10 u11 u12 : Option MV} {v8 : Int32} (k : J mX11_goes d 0 0 Q 0 0 242 [u0, u1, u2, u3, u4, u5, u6, u7, some (.inl v8), some (.inl (nI 0)), some (.inl (nI 0)), u11, u12] [] h) : J mX11_goes d 0 0 Q 0 0 236 [u0, u1, u2, u3, u4, u5, u6, u7, some (.inl v8), u9, u10, u11, u12] [] h := by
  refine zrun 133 4 qX11_goes (o := 11) rfl ?_
  show J mX11_goes d 0 0 Q 0 0 242 [u0, u1, u2, u3, u4, u5, u6, u7, some (.inl v8), some (.inl (nI 0)), some (.inl (nI 0)), u11, u12] [] h
  exact k

theorem bX11_goes_242 {d : Nat} {Q : Option MV → MH → Prop} {h : MH} {u1 u2 u3 u4 u5 u6 u7 u8 u9 u11 u12 : Option MV} {v10 : Int32} (hr : zRf h) (k1 : (h.1 111 38) ≤ v10 → J mX11_goes d 0 0 Q 0 0 365 [some (.inr (.inr 111)), u1, u2, u3, u4, u5, u6, u7, u8, u9, some (.inl v10), u11, u12] [] h) (k2 : ¬ (h.1 111 38) ≤ v10 → J mX11_goes d 0 0 Q 0 0 251 [some (.inr (.inr 111)), u1, u2, u3, u4, u5, u6, u7, u8, u9, some (.inl v10), u11, u12] [] h) : J mX11_goes d 0 0 Q 0 0 242 [some (.inr (.inr 111)), u1, u2, u3, u4, u5, u6, u7, u8, u9, some (.inl v10), u11, u12] [] h := by
  refine zrun 137 4 qX11_goes (o := 11) rfl ?_
  show zokO h 111 11 ∧ (((h.1 111 38) ≤ v10 → J mX11_goes d 0 0 Q 0 0 365 [some (.inr (.inr 111)), u1, u2, u3, u4, u5, u6, u7, u8, u9, some (.inl v10), u11, u12] [] h) ∧ (¬ (h.1 111 38) ≤ v10 → J mX11_goes d 0 0 Q 0 0 251 [some (.inr (.inr 111)), u1, u2, u3, u4, u5, u6, u7, u8, u9, some (.inl v10), u11, u12] [] h))
  exact ⟨(zo hr (by decide) rfl), k1, k2⟩

theorem bX11_goes_251 {d : Nat} {Q : Option MV → MH → Prop} {h : MH} {u2 u3 u4 u5 u6 u8 u9 u11 u12 : Option MV} {v1 v10 v7 : Int32} (hr : zRf h) (g0 : vp_in ((((nI 4) * v1) + (nI 4)) + v10) 20) (g1 : vp_in (((nI 4) * v1) + v10) 20) (k1 : ¬ ((zsI h 128 ((((nI 4) * v1) + (nI 4)) + v10).toNatClampNeg ((h.1 128 (((nI 4) * v1) + v10).toNatClampNeg) - ((h.1 129 ((((nI 4) * v1) + (nI 4)) + v10).toNatClampNeg) * v7))).1 128 ((((nI 4) * v1) + (nI 4)) + v10).toNatClampNeg) = 0 → J mX11_goes d 0 0 Q 0 0 328 [some (.inr (.inr 111)), some (.inl v1), u2, u3, u4, u5, u6, some (.inl v7), u8, u9, some (.inl v10), some (.inl (h.1 129 ((((nI 4) * v1) + (nI 4)) + v10).toNatClampNeg)), u12] [.inl ((((nI 4) * v1) + (nI 4)) + v10), .inr (.inr 129)] (zsI h 128 ((((nI 4) * v1) + (nI 4)) + v10).toNatClampNeg ((h.1 128 (((nI 4) * v1) + v10).toNatClampNeg) - ((h.1 129 ((((nI 4) * v1) + (nI 4)) + v10).toNatClampNeg) * v7)))) (k2 : ((zsI h 128 ((((nI 4) * v1) + (nI 4)) + v10).toNatClampNeg ((h.1 128 (((nI 4) * v1) + v10).toNatClampNeg) - ((h.1 129 ((((nI 4) * v1) + (nI 4)) + v10).toNatClampNeg) * v7))).1 128 ((((nI 4) * v1) + (nI 4)) + v10).toNatClampNeg) = 0 → J mX11_goes d 0 0 Q 0 0 324 [some (.inr (.inr 111)), some (.inl v1), u2, u3, u4, u5, u6, some (.inl v7), u8, u9, some (.inl v10), some (.inl (h.1 129 ((((nI 4) * v1) + (nI 4)) + v10).toNatClampNeg)), u12] [.inl ((((nI 4) * v1) + (nI 4)) + v10), .inr (.inr 129)] (zsI h 128 ((((nI 4) * v1) + (nI 4)) + v10).toNatClampNeg ((h.1 128 (((nI 4) * v1) + v10).toNatClampNeg) - ((h.1 129 ((((nI 4) * v1) + (nI 4)) + v10).toNatClampNeg) * v7)))) : J mX11_goes d 0 0 Q 0 0 251 [some (.inr (.inr 111)), some (.inl v1), u2, u3, u4, u5, u6, some (.inl v7), u8, u9, some (.inl v10), u11, u12] [] h := by
  refine zrun 141 53 qX11_goes (o := 11) rfl ?_
  show zokO h 111 11 ∧ zokA h (h.2.2.1 111 35) 20 ((((nI 4) * v1) + (nI 4)) + v10) ∧ zokO h 111 11 ∧ zokO h 111 11 ∧ zokA h (h.2.2.1 111 34) 20 (((nI 4) * v1) + v10) ∧ zokA h (h.2.2.1 111 34) 20 ((((nI 4) * v1) + (nI 4)) + v10) ∧ zokO (zsI h (h.2.2.1 111 34) ((((nI 4) * v1) + (nI 4)) + v10).toNatClampNeg ((h.1 (h.2.2.1 111 34) (((nI 4) * v1) + v10).toNatClampNeg) - ((h.1 (h.2.2.1 111 35) ((((nI 4) * v1) + (nI 4)) + v10).toNatClampNeg) * v7))) 111 11 ∧ zokO (zsI h (h.2.2.1 111 34) ((((nI 4) * v1) + (nI 4)) + v10).toNatClampNeg ((h.1 (h.2.2.1 111 34) (((nI 4) * v1) + v10).toNatClampNeg) - ((h.1 (h.2.2.1 111 35) ((((nI 4) * v1) + (nI 4)) + v10).toNatClampNeg) * v7))) 111 11 ∧ zokA (zsI h (h.2.2.1 111 34) ((((nI 4) * v1) + (nI 4)) + v10).toNatClampNeg ((h.1 (h.2.2.1 111 34) (((nI 4) * v1) + v10).toNatClampNeg) - ((h.1 (h.2.2.1 111 35) ((((nI 4) * v1) + (nI 4)) + v10).toNatClampNeg) * v7))) (h.2.2.1 111 34) 20 ((((nI 4) * v1) + (nI 4)) + v10) ∧ ((¬ ((zsI h (h.2.2.1 111 34) ((((nI 4) * v1) + (nI 4)) + v10).toNatClampNeg ((h.1 (h.2.2.1 111 34) (((nI 4) * v1) + v10).toNatClampNeg) - ((h.1 (h.2.2.1 111 35) ((((nI 4) * v1) + (nI 4)) + v10).toNatClampNeg) * v7))).1 (h.2.2.1 111 34) ((((nI 4) * v1) + (nI 4)) + v10).toNatClampNeg) = 0 → J mX11_goes d 0 0 Q 0 0 328 [some (.inr (.inr 111)), some (.inl v1), u2, u3, u4, u5, u6, some (.inl v7), u8, u9, some (.inl v10), some (.inl (h.1 (h.2.2.1 111 35) ((((nI 4) * v1) + (nI 4)) + v10).toNatClampNeg)), u12] [.inl ((((nI 4) * v1) + (nI 4)) + v10), .inr (.inr (h.2.2.1 111 35))] (zsI h (h.2.2.1 111 34) ((((nI 4) * v1) + (nI 4)) + v10).toNatClampNeg ((h.1 (h.2.2.1 111 34) (((nI 4) * v1) + v10).toNatClampNeg) - ((h.1 (h.2.2.1 111 35) ((((nI 4) * v1) + (nI 4)) + v10).toNatClampNeg) * v7)))) ∧ (((zsI h (h.2.2.1 111 34) ((((nI 4) * v1) + (nI 4)) + v10).toNatClampNeg ((h.1 (h.2.2.1 111 34) (((nI 4) * v1) + v10).toNatClampNeg) - ((h.1 (h.2.2.1 111 35) ((((nI 4) * v1) + (nI 4)) + v10).toNatClampNeg) * v7))).1 (h.2.2.1 111 34) ((((nI 4) * v1) + (nI 4)) + v10).toNatClampNeg) = 0 → J mX11_goes d 0 0 Q 0 0 324 [some (.inr (.inr 111)), some (.inl v1), u2, u3, u4, u5, u6, some (.inl v7), u8, u9, some (.inl v10), some (.inl (h.1 (h.2.2.1 111 35) ((((nI 4) * v1) + (nI 4)) + v10).toNatClampNeg)), u12] [.inl ((((nI 4) * v1) + (nI 4)) + v10), .inr (.inr (h.2.2.1 111 35))] (zsI h (h.2.2.1 111 34) ((((nI 4) * v1) + (nI 4)) + v10).toNatClampNeg ((h.1 (h.2.2.1 111 34) (((nI 4) * v1) + v10).toNatClampNeg) - ((h.1 (h.2.2.1 111 35) ((((nI 4) * v1) + (nI 4)) + v10).toNatClampNeg) * v7)))))
  rw [(show h.2.2.1 111 35 = 129 from (hr.at (by decide) (by decide) (by rfl))), (show h.2.2.1 111 34 = 128 from (hr.at (by decide) (by decide) (by rfl)))]
  exact ⟨(zo hr (by decide) rfl), (zia hr (by decide) (by rfl) g0), (zo hr (by decide) rfl), (zo hr (by decide) rfl), (zia hr (by decide) (by rfl) g1), (zia hr (by decide) (by rfl) g0), (zo hr (by decide) rfl), (zo hr (by decide) rfl), (zia hr (by decide) (by rfl) g0), k1, k2⟩

theorem bX11_goes_324 {d : Nat} {Q : Option MV → MH → Prop} {h : MH} {u0 u1 u2 u3 u4 u5 u6 u7 u8 u9 u10 u11 u12 : Option MV} {vs1 : Int32} {vs0 : Nat} (k : J mX11_goes d 0 0 Q 0 0 330 [u0, u1, u2, u3, u4, u5, u6, u7, u8, u9, u10, u11, u12] [.inl (nI 0), .inl vs1, .inr (.inr vs0)] h) : J mX11_goes d 0 0 Q 0 0 324 [u0, u1, u2, u3, u4, u5, u6, u7, u8, u9, u10, u11, u12] [.inl vs1, .inr (.inr vs0)] h := by
  refine zrun 194 2 qX11_goes (o := 11) rfl ?_
  show J mX11_goes d 0 0 Q 0 0 330 [u0, u1, u2, u3, u4, u5, u6, u7, u8, u9, u10, u11, u12] [.inl (nI 0), .inl vs1, .inr (.inr vs0)] h
  exact k

theorem bX11_goes_328 {d : Nat} {Q : Option MV → MH → Prop} {h : MH} {u0 u1 u2 u3 u4 u5 u6 u7 u8 u9 u10 u12 : Option MV} {vs1 v11 : Int32} {vs0 : Nat} (k : J mX11_goes d 0 0 Q 0 0 330 [u0, u1, u2, u3, u4, u5, u6, u7, u8, u9, u10, some (.inl v11), u12] [.inl v11, .inl vs1, .inr (.inr vs0)] h) : J mX11_goes d 0 0 Q 0 0 328 [u0, u1, u2, u3, u4, u5, u6, u7, u8, u9, u10, some (.inl v11), u12] [.inl vs1, .inr (.inr vs0)] h := by
  refine zrun 196 1 qX11_goes (o := 11) rfl ?_
  show J mX11_goes d 0 0 Q 0 0 330 [u0, u1, u2, u3, u4, u5, u6, u7, u8, u9, u10, some (.inl v11), u12] [.inl v11, .inl vs1, .inr (.inr vs0)] h
  exact k

theorem bX11_goes_330 {d : Nat} {Q : Option MV → MH → Prop} {h : MH} {u0 u1 u2 u3 u4 u5 u6 u7 u8 u10 u11 u12 : Option MV} {vs1 vs2 v9 : Int32} {vs0 : Nat} (g0 : zokA h vs0 20 vs1) (k1 : ¬ v9 = 0 → J mX11_goes d 0 0 Q 0 0 352 [u0, u1, u2, u3, u4, u5, u6, u7, u8, some (.inl v9), u10, u11, u12] [] (zsI h vs0 vs1.toNatClampNeg vs2)) (k2 : v9 = 0 → J mX11_goes d 0 0 Q 0 0 336 [u0, u1, u2, u3, u4, u5, u6, u7, u8, some (.inl v9), u10, u11, u12] [] (zsI h vs0 vs1.toNatClampNeg vs2)) : J mX11_goes d 0 0 Q 0 0 330 [u0, u1, u2, u3, u4, u5, u6, u7, u8, some (.inl v9), u10, u11, u12] [.inl vs2, .inl vs1, .inr (.inr vs0)] h := by
  refine zrun 197 3 qX11_goes (o := 11) rfl ?_
  show zokA h vs0 20 vs1 ∧ ((¬ v9 = 0 → J mX11_goes d 0 0 Q 0 0 352 [u0, u1, u2, u3, u4, u5, u6, u7, u8, some (.inl v9), u10, u11, u12] [] (zsI h vs0 vs1.toNatClampNeg vs2)) ∧ (v9 = 0 → J mX11_goes d 0 0 Q 0 0 336 [u0, u1, u2, u3, u4, u5, u6, u7, u8, some (.inl v9), u10, u11, u12] [] (zsI h vs0 vs1.toNatClampNeg vs2)))
  exact ⟨g0, k1, k2⟩

theorem bX11_goes_336 {d : Nat} {Q : Option MV → MH → Prop} {h : MH} {u2 u3 u4 u5 u6 u7 u8 u9 u11 u12 : Option MV} {v1 v10 : Int32} (hr : zRf h) (g0 : vp_in ((((nI 4) * v1) + (nI 4)) + v10) 20) (k1 : (h.1 128 ((((nI 4) * v1) + (nI 4)) + v10).toNatClampNeg) ≤ 0 → J mX11_goes d 0 0 Q 0 0 356 [some (.inr (.inr 111)), some (.inl v1), u2, u3, u4, u5, u6, u7, u8, u9, some (.inl v10), u11, u12] [] h) (k2 : ¬ (h.1 128 ((((nI 4) * v1) + (nI 4)) + v10).toNatClampNeg) ≤ 0 → J mX11_goes d 0 0 Q 0 0 352 [some (.inr (.inr 111)), some (.inl v1), u2, u3, u4, u5, u6, u7, u8, u9, some (.inl v10), u11, u12] [] h) : J mX11_goes d 0 0 Q 0 0 336 [some (.inr (.inr 111)), some (.inl v1), u2, u3, u4, u5, u6, u7, u8, u9, some (.inl v10), u11, u12] [] h := by
  refine zrun 200 11 qX11_goes (o := 11) rfl ?_
  show zokO h 111 11 ∧ zokA h (h.2.2.1 111 34) 20 ((((nI 4) * v1) + (nI 4)) + v10) ∧ (((h.1 (h.2.2.1 111 34) ((((nI 4) * v1) + (nI 4)) + v10).toNatClampNeg) ≤ 0 → J mX11_goes d 0 0 Q 0 0 356 [some (.inr (.inr 111)), some (.inl v1), u2, u3, u4, u5, u6, u7, u8, u9, some (.inl v10), u11, u12] [] h) ∧ (¬ (h.1 (h.2.2.1 111 34) ((((nI 4) * v1) + (nI 4)) + v10).toNatClampNeg) ≤ 0 → J mX11_goes d 0 0 Q 0 0 352 [some (.inr (.inr 111)), some (.inl v1), u2, u3, u4, u5, u6, u7, u8, u9, some (.inl v10), u11, u12] [] h))
  rw [(show h.2.2.1 111 34 = 128 from (hr.at (by decide) (by decide) (by rfl)))]
  exact ⟨(zo hr (by decide) rfl), (zia hr (by decide) (by rfl) g0), k1, k2⟩

theorem bX11_goes_352 {d : Nat} {Q : Option MV → MH → Prop} {h : MH} {u0 u1 u2 u3 u4 u5 u6 u7 u8 u9 u10 u11 u12 : Option MV} (k : J mX11_goes d 0 0 Q 0 0 357 [u0, u1, u2, u3, u4, u5, u6, u7, u8, u9, u10, u11, u12] [.inl (nI 1)] h) : J mX11_goes d 0 0 Q 0 0 352 [u0, u1, u2, u3, u4, u5, u6, u7, u8, u9, u10, u11, u12] [] h := by
  refine zrun 211 2 qX11_goes (o := 11) rfl ?_
  show J mX11_goes d 0 0 Q 0 0 357 [u0, u1, u2, u3, u4, u5, u6, u7, u8, u9, u10, u11, u12] [.inl (nI 1)] h
  exact k

theorem bX11_goes_356 {d : Nat} {Q : Option MV → MH → Prop} {h : MH} {u0 u1 u2 u3 u4 u5 u6 u7 u8 u9 u10 u11 u12 : Option MV} (k : J mX11_goes d 0 0 Q 0 0 357 [u0, u1, u2, u3, u4, u5, u6, u7, u8, u9, u10, u11, u12] [.inl (nI 0)] h) : J mX11_goes d 0 0 Q 0 0 356 [u0, u1, u2, u3, u4, u5, u6, u7, u8, u9, u10, u11, u12] [] h := by
  refine zrun 213 1 qX11_goes (o := 11) rfl ?_
  show J mX11_goes d 0 0 Q 0 0 357 [u0, u1, u2, u3, u4, u5, u6, u7, u8, u9, u10, u11, u12] [.inl (nI 0)] h
  exact k

theorem bX11_goes_357 {d : Nat} {Q : Option MV → MH → Prop} {h : MH} {u0 u1 u2 u3 u4 u5 u6 u7 u9 u11 u12 : Option MV} {vs0 v8 v10 : Int32} (k : J mX11_goes d 0 0 Q 0 0 242 [u0, u1, u2, u3, u4, u5, u6, u7, some (.inl v8), some (.inl vs0), some (.inl (v10 + nI 1)), u11, u12] [] h) : J mX11_goes d 0 0 Q 0 0 357 [u0, u1, u2, u3, u4, u5, u6, u7, some (.inl v8), u9, some (.inl v10), u11, u12] [.inl vs0] h := by
  refine zrun 214 3 qX11_goes (o := 11) rfl ?_
  show J mX11_goes d 0 0 Q 0 0 242 [u0, u1, u2, u3, u4, u5, u6, u7, some (.inl v8), some (.inl vs0), some (.inl (v10 + nI 1)), u11, u12] [] h
  exact k

theorem bX11_goes_365 {d d' : Nat} {Q : Option MV → MH → Prop} {h : MH} {u2 u3 u4 u8 u9 u10 u11 u12 : Option MV} {v1 v5 v7 v6 : Int32} (hr : zRf h) (g0 : vp_in v1 5) (g1 : vp_in (v1 + (nI 1)) 5) (hd : d' + 1 ≤ d) (k : Con mX11_meets d' 0 0 [.inr (.inr 111), .inl (v1 + (nI 1))] (zsI (zsI (zsI h 134 v1.toNatClampNeg v5) 130 (v1 + (nI 1)).toNatClampNeg (((zsI h 134 v1.toNatClampNeg v5).1 130 v1.toNatClampNeg) + v7)) 131 (v1 + (nI 1)).toNatClampNeg (((zsI (zsI h 134 v1.toNatClampNeg v5) 130 (v1 + (nI 1)).toNatClampNeg (((zsI h 134 v1.toNatClampNeg v5).1 130 v1.toNatClampNeg) + v7)).1 131 v1.toNatClampNeg) + v6)) (zrv fun h' => J mX11_goes d 0 0 Q 0 0 414 [some (.inr (.inr 111)), some (.inl v1), u2, u3, u4, some (.inl v5), some (.inl v6), some (.inl v7), u8, u9, u10, u11, u12] [] h')) : J mX11_goes d 0 0 Q 0 0 365 [some (.inr (.inr 111)), some (.inl v1), u2, u3, u4, some (.inl v5), some (.inl v6), some (.inl v7), u8, u9, u10, u11, u12] [] h := by
  refine zrun 217 33 qX11_goes (o := 11) rfl ?_
  show zokO h 111 11 ∧ zokA h (h.2.2.1 111 45) 20 v1 ∧ zokO (zsI h (h.2.2.1 111 45) v1.toNatClampNeg v5) 111 11 ∧ zokO (zsI h (h.2.2.1 111 45) v1.toNatClampNeg v5) 111 11 ∧ zokA (zsI h (h.2.2.1 111 45) v1.toNatClampNeg v5) (h.2.2.1 111 36) 20 v1 ∧ zokA (zsI h (h.2.2.1 111 45) v1.toNatClampNeg v5) (h.2.2.1 111 36) 20 (v1 + (nI 1)) ∧ zokO (zsI (zsI h (h.2.2.1 111 45) v1.toNatClampNeg v5) (h.2.2.1 111 36) (v1 + (nI 1)).toNatClampNeg (((zsI h (h.2.2.1 111 45) v1.toNatClampNeg v5).1 (h.2.2.1 111 36) v1.toNatClampNeg) + v7)) 111 11 ∧ zokO (zsI (zsI h (h.2.2.1 111 45) v1.toNatClampNeg v5) (h.2.2.1 111 36) (v1 + (nI 1)).toNatClampNeg (((zsI h (h.2.2.1 111 45) v1.toNatClampNeg v5).1 (h.2.2.1 111 36) v1.toNatClampNeg) + v7)) 111 11 ∧ zokA (zsI (zsI h (h.2.2.1 111 45) v1.toNatClampNeg v5) (h.2.2.1 111 36) (v1 + (nI 1)).toNatClampNeg (((zsI h (h.2.2.1 111 45) v1.toNatClampNeg v5).1 (h.2.2.1 111 36) v1.toNatClampNeg) + v7)) (h.2.2.1 111 37) 20 v1 ∧ zokA (zsI (zsI h (h.2.2.1 111 45) v1.toNatClampNeg v5) (h.2.2.1 111 36) (v1 + (nI 1)).toNatClampNeg (((zsI h (h.2.2.1 111 45) v1.toNatClampNeg v5).1 (h.2.2.1 111 36) v1.toNatClampNeg) + v7)) (h.2.2.1 111 37) 20 (v1 + (nI 1)) ∧ J mX11_goes d 0 0 Q 0 0 411 [some (.inr (.inr 111)), some (.inl v1), u2, u3, u4, some (.inl v5), some (.inl v6), some (.inl v7), u8, u9, u10, u11, u12] [.inl (v1 + (nI 1)), .inr (.inr 111)] (zsI (zsI (zsI h (h.2.2.1 111 45) v1.toNatClampNeg v5) (h.2.2.1 111 36) (v1 + (nI 1)).toNatClampNeg (((zsI h (h.2.2.1 111 45) v1.toNatClampNeg v5).1 (h.2.2.1 111 36) v1.toNatClampNeg) + v7)) (h.2.2.1 111 37) (v1 + (nI 1)).toNatClampNeg (((zsI (zsI h (h.2.2.1 111 45) v1.toNatClampNeg v5) (h.2.2.1 111 36) (v1 + (nI 1)).toNatClampNeg (((zsI h (h.2.2.1 111 45) v1.toNatClampNeg v5).1 (h.2.2.1 111 36) v1.toNatClampNeg) + v7)).1 (h.2.2.1 111 37) v1.toNatClampNeg) + v6))
  rw [(show h.2.2.1 111 45 = 134 from (hr.at (by decide) (by decide) (by rfl))), (show h.2.2.1 111 36 = 130 from (hr.at (by decide) (by decide) (by rfl))), (show h.2.2.1 111 37 = 131 from (hr.at (by decide) (by decide) (by rfl)))]
  exact ⟨(zo hr (by decide) rfl), (zia hr (by decide) (by rfl) g0), (zo hr (by decide) rfl), (zo hr (by decide) rfl), (zia hr (by decide) (by rfl) g0), (zia hr (by decide) (by rfl) g1), (zo hr (by decide) rfl), (zo hr (by decide) rfl), (zia hr (by decide) (by rfl) g0), (zia hr (by decide) (by rfl) g1), zcVv (as := [.inl (v1 + (nI 1))]) (zat qX11_goes 250 (by rfl)) l11_331 rfl hd rfl (Nat.le_of_ble_eq_true rfl) zle0 (ci := 11) (by decide) rfl (show zokO _ _ _ from (zo hr (by decide) rfl)) k⟩

theorem bX11_goes_414 {d : Nat} {Q : Option MV → MH → Prop} {h : MH} {u0 u1 u2 u3 u4 u5 u6 u7 u8 u10 u11 u12 : Option MV} {v9 : Int32} (k1 : v9 = 0 → J mX11_goes d 0 0 Q 0 0 426 [u0, u1, u2, u3, u4, u5, u6, u7, u8, some (.inl v9), u10, u11, u12] [] h) (k2 : ¬ v9 = 0 → J mX11_goes d 0 0 Q 0 0 419 [u0, u1, u2, u3, u4, u5, u6, u7, u8, some (.inl v9), u10, u11, u12] [] h) : J mX11_goes d 0 0 Q 0 0 414 [u0, u1, u2, u3, u4, u5, u6, u7, u8, some (.inl v9), u10, u11, u12] [] h := by
  refine zrun 251 2 qX11_goes (o := 11) rfl ?_
  show ((v9 = 0 → J mX11_goes d 0 0 Q 0 0 426 [u0, u1, u2, u3, u4, u5, u6, u7, u8, some (.inl v9), u10, u11, u12] [] h) ∧ (¬ v9 = 0 → J mX11_goes d 0 0 Q 0 0 419 [u0, u1, u2, u3, u4, u5, u6, u7, u8, some (.inl v9), u10, u11, u12] [] h))
  exact ⟨k1, k2⟩

theorem bX11_goes_419 {d d' : Nat} {Q : Option MV → MH → Prop} {h : MH} {u2 u3 u4 u5 u6 u7 u8 u9 u10 u11 u12 : Option MV} {v1 : Int32} (hr : zRf h) (hd : d' + 1 ≤ d) (k : Con mX11_goes d' 0 0 [.inr (.inr 111), .inl (v1 + (nI 1))] h (zrv fun h' => J mX11_goes d 0 0 Q 0 0 426 [some (.inr (.inr 111)), some (.inl v1), u2, u3, u4, u5, u6, u7, u8, u9, u10, u11, u12] [] h')) : J mX11_goes d 0 0 Q 0 0 419 [some (.inr (.inr 111)), some (.inl v1), u2, u3, u4, u5, u6, u7, u8, u9, u10, u11, u12] [] h := by
  refine zrun 253 4 qX11_goes (o := 11) rfl ?_
  show J mX11_goes d 0 0 Q 0 0 423 [some (.inr (.inr 111)), some (.inl v1), u2, u3, u4, u5, u6, u7, u8, u9, u10, u11, u12] [.inl (v1 + (nI 1)), .inr (.inr 111)] h
  exact zcVv (as := [.inl (v1 + (nI 1))]) (zat qX11_goes 257 (by rfl)) l11_303 rfl hd rfl (Nat.le_of_ble_eq_true rfl) zle0 (ci := 11) (by decide) rfl (zo hr (by decide) rfl) k

theorem bX11_goes_426 {d : Nat} {Q : Option MV → MH → Prop} {h : MH} {u0 u1 u4 u5 u6 u7 u8 u9 u10 u11 u12 : Option MV} {v3 v2 : Int32} (k : J mX11_goes d 0 0 Q 0 0 24 [u0, u1, some (.inl v2), some (.inl (v3 + nI 1)), u4, u5, u6, u7, u8, u9, u10, u11, u12] [] h) : J mX11_goes d 0 0 Q 0 0 426 [u0, u1, some (.inl v2), some (.inl v3), u4, u5, u6, u7, u8, u9, u10, u11, u12] [] h := by
  refine zrun 258 2 qX11_goes (o := 11) rfl ?_
  show J mX11_goes d 0 0 Q 0 0 24 [u0, u1, some (.inl v2), some (.inl (v3 + nI 1)), u4, u5, u6, u7, u8, u9, u10, u11, u12] [] h
  exact k

theorem bX11_goes_432 {d : Nat} {Q : Option MV → MH → Prop} {h : MH} {u0 u1 u2 u3 u4 u5 u6 u7 u8 u9 u10 u11 u12 : Option MV} (k : Q none h) : J mX11_goes d 0 0 Q 0 0 432 [u0, u1, u2, u3, u4, u5, u6, u7, u8, u9, u10, u11, u12] [] h := by
  exact J_vret (zat qX11_goes 260 (by rfl)) rfl (Nat.le_refl 0) (Nat.le_refl 0) k

theorem bX11_can_0 {d d' : Nat} {Q : Option MV → MH → Prop} {h : MH} {u2 u3 : Option MV} {v1 : Int32} (hr : zRf h) (hd : d' + 1 ≤ d) (k : Con mX11_isSet d' 0 0 [.inr (.inr 111), .inl v1] (zsI h 111 0 (nI 0)) (zri fun (x : Int32) h' => J mX11_can d 0 0 Q 0 0 10 [some (.inr (.inr 111)), some (.inl v1), u2, u3] [.inl x] h')) : J mX11_can d 0 0 Q 0 0 0 [some (.inr (.inr 111)), some (.inl v1), u2, u3] [] h := by
  refine zrun 0 5 qX11_can (o := 11) rfl ?_
  show zokO h 111 11 ∧ J mX11_can d 0 0 Q 0 0 7 [some (.inr (.inr 111)), some (.inl v1), u2, u3] [.inl v1, .inr (.inr 111)] (zsI h 111 0 (nI 0))
  exact ⟨(zo hr (by decide) rfl), zcVi (as := [.inl v1]) (zat qX11_can 5 (by rfl)) l11_334 rfl hd rfl (Nat.le_of_ble_eq_true rfl) zle0 (ci := 11) (by decide) rfl (show zokO _ _ _ from (zo hr (by decide) rfl)) k⟩

theorem bX11_can_10 {d : Nat} {Q : Option MV → MH → Prop} {h : MH} {u0 u1 u2 u3 : Option MV} {vs0 : Int32} (k1 : vs0 = 0 → J mX11_can d 0 0 Q 0 0 18 [u0, u1, u2, u3] [] h) (k2 : ¬ vs0 = 0 → J mX11_can d 0 0 Q 0 0 13 [u0, u1, u2, u3] [] h) : J mX11_can d 0 0 Q 0 0 10 [u0, u1, u2, u3] [.inl vs0] h := by
  refine zrun 6 1 qX11_can (o := 11) rfl ?_
  show ((vs0 = 0 → J mX11_can d 0 0 Q 0 0 18 [u0, u1, u2, u3] [] h) ∧ (¬ vs0 = 0 → J mX11_can d 0 0 Q 0 0 13 [u0, u1, u2, u3] [] h))
  exact ⟨k1, k2⟩

theorem bX11_can_13 {d : Nat} {Q : Option MV → MH → Prop} {h : MH} {u0 u1 u2 : Option MV} {v3 : Int32} (k1 : (nI 1) ≤ v3 → J mX11_can d 0 0 Q 0 0 21 [u0, u1, u2, some (.inl v3)] [] h) (k2 : ¬ (nI 1) ≤ v3 → J mX11_can d 0 0 Q 0 0 18 [u0, u1, u2, some (.inl v3)] [] h) : J mX11_can d 0 0 Q 0 0 13 [u0, u1, u2, some (.inl v3)] [] h := by
  refine zrun 7 3 qX11_can (o := 11) rfl ?_
  show (((nI 1) ≤ v3 → J mX11_can d 0 0 Q 0 0 21 [u0, u1, u2, some (.inl v3)] [] h) ∧ (¬ (nI 1) ≤ v3 → J mX11_can d 0 0 Q 0 0 18 [u0, u1, u2, some (.inl v3)] [] h))
  exact ⟨k1, k2⟩

theorem bX11_can_18 {d : Nat} {Q : Option MV → MH → Prop} {h : MH} {u0 u1 u2 u3 : Option MV} (k : Q (some (.inl (-(nI 3)))) h) : J mX11_can d 0 0 Q 0 0 18 [u0, u1, u2, u3] [] h := by
  refine zrun 10 1 qX11_can (o := 11) rfl ?_
  show J mX11_can d 0 0 Q 0 0 20 [u0, u1, u2, u3] [.inl (-(nI 3))] h
  exact J_iret (ty := .int) (zat qX11_can 11 (by rfl)) rfl rfl (Nat.le_refl 0) (Nat.le_refl 0) k

theorem bX11_can_21 {d d' : Nat} {Q : Option MV → MH → Prop} {h : MH} {v1 v2 v3 : Int32} (hr : zRf h) (hd : d' + 1 ≤ d) (k : Con mX11_isTold d' 0 0 [.inr (.inr 111), .inl v1, .inl v2, .inl v3] h (zri fun (x : Int32) h' => J mX11_can d 0 0 Q 0 0 28 [some (.inr (.inr 111)), some (.inl v1), some (.inl v2), some (.inl v3)] [.inl x] h')) : J mX11_can d 0 0 Q 0 0 21 [some (.inr (.inr 111)), some (.inl v1), some (.inl v2), some (.inl v3)] [] h := by
  refine zrun 12 4 qX11_can (o := 11) rfl ?_
  show J mX11_can d 0 0 Q 0 0 25 [some (.inr (.inr 111)), some (.inl v1), some (.inl v2), some (.inl v3)] [.inl v3, .inl v2, .inl v1, .inr (.inr 111)] h
  exact zcVi (as := [.inl v1, .inl v2, .inl v3]) (zat qX11_can 16 (by rfl)) l11_337 rfl hd rfl (Nat.le_of_ble_eq_true rfl) zle0 (ci := 11) (by decide) rfl (zo hr (by decide) rfl) k

theorem bX11_can_28 {d : Nat} {Q : Option MV → MH → Prop} {h : MH} {u0 u1 u2 u3 : Option MV} {vs0 : Int32} (k1 : vs0 = 0 → J mX11_can d 0 0 Q 0 0 35 [u0, u1, u2, u3] [] h) (k2 : ¬ vs0 = 0 → J mX11_can d 0 0 Q 0 0 31 [u0, u1, u2, u3] [] h) : J mX11_can d 0 0 Q 0 0 28 [u0, u1, u2, u3] [.inl vs0] h := by
  refine zrun 17 1 qX11_can (o := 11) rfl ?_
  show ((vs0 = 0 → J mX11_can d 0 0 Q 0 0 35 [u0, u1, u2, u3] [] h) ∧ (¬ vs0 = 0 → J mX11_can d 0 0 Q 0 0 31 [u0, u1, u2, u3] [] h))
  exact ⟨k1, k2⟩

theorem bX11_can_31 {d : Nat} {Q : Option MV → MH → Prop} {h : MH} {u0 u1 u2 u3 : Option MV} (k : J mX11_can d 0 0 Q 0 0 36 [u0, u1, u2, u3] [.inl (nI 1)] h) : J mX11_can d 0 0 Q 0 0 31 [u0, u1, u2, u3] [] h := by
  refine zrun 18 2 qX11_can (o := 11) rfl ?_
  show J mX11_can d 0 0 Q 0 0 36 [u0, u1, u2, u3] [.inl (nI 1)] h
  exact k

theorem bX11_can_35 {d : Nat} {Q : Option MV → MH → Prop} {h : MH} {u0 u1 u2 u3 : Option MV} (k : J mX11_can d 0 0 Q 0 0 36 [u0, u1, u2, u3] [.inl (nI 0)] h) : J mX11_can d 0 0 Q 0 0 35 [u0, u1, u2, u3] [] h := by
  refine zrun 20 1 qX11_can (o := 11) rfl ?_
  show J mX11_can d 0 0 Q 0 0 36 [u0, u1, u2, u3] [.inl (nI 0)] h
  exact k

theorem bX11_can_36 {d : Nat} {Q : Option MV → MH → Prop} {h : MH} {u0 u1 u2 u3 : Option MV} {vs0 : Int32} (k : Q (some (.inl vs0)) h) : J mX11_can d 0 0 Q 0 0 36 [u0, u1, u2, u3] [.inl vs0] h := by
  exact J_iret (ty := .int) (zat qX11_can 21 (by rfl)) rfl rfl (Nat.le_refl 0) (Nat.le_refl 0) k

theorem bX11_isTold_0 {d d' : Nat} {Q : Option MV → MH → Prop} {h : MH} {v3 v1 v2 : Int32} (hr : zRf h) (hd : d' + 1 ≤ d) (k : Con mX11_seeks d' 0 0 [.inr (.inr 111), .inl v1, .inl v2, .inl (nI 4)] (zsI (zsI h 111 39 v3) 111 41 (nI 0)) (zrv fun h' => J mX11_isTold d 0 0 Q 0 0 17 [some (.inr (.inr 111)), some (.inl v1), some (.inl v2), some (.inl v3)] [] h')) : J mX11_isTold d 0 0 Q 0 0 0 [some (.inr (.inr 111)), some (.inl v1), some (.inl v2), some (.inl v3)] [] h := by
  refine zrun 0 10 qX11_isTold (o := 11) rfl ?_
  show zokO h 111 11 ∧ zokO (zsI h 111 39 v3) 111 11 ∧ J mX11_isTold d 0 0 Q 0 0 14 [some (.inr (.inr 111)), some (.inl v1), some (.inl v2), some (.inl v3)] [.inl (nI 4), .inl v2, .inl v1, .inr (.inr 111)] (zsI (zsI h 111 39 v3) 111 41 (nI 0))
  exact ⟨(zo hr (by decide) rfl), (zo hr (by decide) rfl), zcVv (as := [.inl v1, .inl v2, .inl (nI 4)]) (zat qX11_isTold 10 (by rfl)) l11_327 rfl hd rfl (Nat.le_of_ble_eq_true rfl) zle0 (ci := 11) (by decide) rfl (show zokO _ _ _ from (zo hr (by decide) rfl)) k⟩

theorem bX11_isTold_17 {d : Nat} {Q : Option MV → MH → Prop} {h : MH} {u1 u2 u3 : Option MV} (hr : zRf h) (k1 : ¬ (h.1 111 41) = (nI 1) → J mX11_isTold d 0 0 Q 0 0 29 [some (.inr (.inr 111)), u1, u2, u3] [] h) (k2 : (h.1 111 41) = (nI 1) → J mX11_isTold d 0 0 Q 0 0 25 [some (.inr (.inr 111)), u1, u2, u3] [] h) : J mX11_isTold d 0 0 Q 0 0 17 [some (.inr (.inr 111)), u1, u2, u3] [] h := by
  refine zrun 11 4 qX11_isTold (o := 11) rfl ?_
  show zokO h 111 11 ∧ ((¬ (h.1 111 41) = (nI 1) → J mX11_isTold d 0 0 Q 0 0 29 [some (.inr (.inr 111)), u1, u2, u3] [] h) ∧ ((h.1 111 41) = (nI 1) → J mX11_isTold d 0 0 Q 0 0 25 [some (.inr (.inr 111)), u1, u2, u3] [] h))
  exact ⟨(zo hr (by decide) rfl), k1, k2⟩

theorem bX11_isTold_25 {d : Nat} {Q : Option MV → MH → Prop} {h : MH} {u0 u1 u2 u3 : Option MV} (k : J mX11_isTold d 0 0 Q 0 0 30 [u0, u1, u2, u3] [.inl (nI 1)] h) : J mX11_isTold d 0 0 Q 0 0 25 [u0, u1, u2, u3] [] h := by
  refine zrun 15 2 qX11_isTold (o := 11) rfl ?_
  show J mX11_isTold d 0 0 Q 0 0 30 [u0, u1, u2, u3] [.inl (nI 1)] h
  exact k

theorem bX11_isTold_29 {d : Nat} {Q : Option MV → MH → Prop} {h : MH} {u0 u1 u2 u3 : Option MV} (k : J mX11_isTold d 0 0 Q 0 0 30 [u0, u1, u2, u3] [.inl (nI 0)] h) : J mX11_isTold d 0 0 Q 0 0 29 [u0, u1, u2, u3] [] h := by
  refine zrun 17 1 qX11_isTold (o := 11) rfl ?_
  show J mX11_isTold d 0 0 Q 0 0 30 [u0, u1, u2, u3] [.inl (nI 0)] h
  exact k

theorem bX11_isTold_30 {d : Nat} {Q : Option MV → MH → Prop} {h : MH} {u0 u1 u2 u3 : Option MV} {vs0 : Int32} (gn : vs0 = 0 ∨ vs0 = 1) (k : Q (some (.inl vs0)) h) : J mX11_isTold d 0 0 Q 0 0 30 [u0, u1, u2, u3] [.inl vs0] h := by
  exact J_iret (ty := .boolean) (zat qX11_isTold 18 (by rfl)) rfl (znz gn) (Nat.le_refl 0) (Nat.le_refl 0) k

theorem bX11_time_0 {d d' : Nat} {Q : Option MV → MH → Prop} {h : MH} {u2 u3 : Option MV} {v1 : Int32} (hr : zRf h) (hd : d' + 1 ≤ d) (k : Con mX11_isSet d' 0 0 [.inr (.inr 111), .inl v1] (zsI h 111 0 (nI 0)) (zri fun (x : Int32) h' => J mX11_time d 0 0 Q 0 0 10 [some (.inr (.inr 111)), some (.inl v1), u2, u3] [.inl x] h')) : J mX11_time d 0 0 Q 0 0 0 [some (.inr (.inr 111)), some (.inl v1), u2, u3] [] h := by
  refine zrun 0 5 qX11_time (o := 11) rfl ?_
  show zokO h 111 11 ∧ J mX11_time d 0 0 Q 0 0 7 [some (.inr (.inr 111)), some (.inl v1), u2, u3] [.inl v1, .inr (.inr 111)] (zsI h 111 0 (nI 0))
  exact ⟨(zo hr (by decide) rfl), zcVi (as := [.inl v1]) (zat qX11_time 5 (by rfl)) l11_334 rfl hd rfl (Nat.le_of_ble_eq_true rfl) zle0 (ci := 11) (by decide) rfl (show zokO _ _ _ from (zo hr (by decide) rfl)) k⟩

theorem bX11_time_10 {d : Nat} {Q : Option MV → MH → Prop} {h : MH} {u0 u1 u2 u3 : Option MV} {vs0 : Int32} (k1 : ¬ vs0 = 0 → J mX11_time d 0 0 Q 0 0 16 [u0, u1, u2, u3] [] h) (k2 : vs0 = 0 → J mX11_time d 0 0 Q 0 0 13 [u0, u1, u2, u3] [] h) : J mX11_time d 0 0 Q 0 0 10 [u0, u1, u2, u3] [.inl vs0] h := by
  refine zrun 6 1 qX11_time (o := 11) rfl ?_
  show ((¬ vs0 = 0 → J mX11_time d 0 0 Q 0 0 16 [u0, u1, u2, u3] [] h) ∧ (vs0 = 0 → J mX11_time d 0 0 Q 0 0 13 [u0, u1, u2, u3] [] h))
  exact ⟨k1, k2⟩

theorem bX11_time_13 {d : Nat} {Q : Option MV → MH → Prop} {h : MH} {u0 u1 u2 u3 : Option MV} (k : Q (some (.inl (-(nI 3)))) h) : J mX11_time d 0 0 Q 0 0 13 [u0, u1, u2, u3] [] h := by
  refine zrun 7 1 qX11_time (o := 11) rfl ?_
  show J mX11_time d 0 0 Q 0 0 15 [u0, u1, u2, u3] [.inl (-(nI 3))] h
  exact J_iret (ty := .int) (zat qX11_time 8 (by rfl)) rfl rfl (Nat.le_refl 0) (Nat.le_refl 0) k

theorem bX11_time_16 {d d' : Nat} {Q : Option MV → MH → Prop} {h : MH} {u3 : Option MV} {v1 v2 : Int32} (hr : zRf h) (hd : d' + 1 ≤ d) (k : Con mX11_laysTimes d' 0 0 [.inr (.inr 111), .inl v1, .inl v2] h (zrv fun h' => J mX11_time d 0 0 Q 0 0 22 [some (.inr (.inr 111)), some (.inl v1), some (.inl v2), u3] [] h')) : J mX11_time d 0 0 Q 0 0 16 [some (.inr (.inr 111)), some (.inl v1), some (.inl v2), u3] [] h := by
  refine zrun 9 3 qX11_time (o := 11) rfl ?_
  show J mX11_time d 0 0 Q 0 0 19 [some (.inr (.inr 111)), some (.inl v1), some (.inl v2), u3] [.inl v2, .inl v1, .inr (.inr 111)] h
  exact zcVv (as := [.inl v1, .inl v2]) (zat qX11_time 12 (by rfl)) l11_341 rfl hd rfl (Nat.le_of_ble_eq_true rfl) zle0 (ci := 11) (by decide) rfl (zo hr (by decide) rfl) k

theorem bX11_time_22 {d : Nat} {Q : Option MV → MH → Prop} {h : MH} {u0 u1 u2 : Option MV} {v3 : Int32} (k1 : (-(nI 1)) ≤ v3 → J mX11_time d 0 0 Q 0 0 31 [u0, u1, u2, some (.inl v3)] [] h) (k2 : ¬ (-(nI 1)) ≤ v3 → J mX11_time d 0 0 Q 0 0 27 [u0, u1, u2, some (.inl v3)] [] h) : J mX11_time d 0 0 Q 0 0 22 [u0, u1, u2, some (.inl v3)] [] h := by
  refine zrun 13 3 qX11_time (o := 11) rfl ?_
  show (((-(nI 1)) ≤ v3 → J mX11_time d 0 0 Q 0 0 31 [u0, u1, u2, some (.inl v3)] [] h) ∧ (¬ (-(nI 1)) ≤ v3 → J mX11_time d 0 0 Q 0 0 27 [u0, u1, u2, some (.inl v3)] [] h))
  exact ⟨k1, k2⟩

theorem bX11_time_27 {d : Nat} {Q : Option MV → MH → Prop} {h : MH} {u0 u1 u2 u3 : Option MV} (k : J mX11_time d 0 0 Q 0 0 36 [u0, u1, u2, u3] [.inl (-(nI 1))] h) : J mX11_time d 0 0 Q 0 0 27 [u0, u1, u2, u3] [] h := by
  refine zrun 16 2 qX11_time (o := 11) rfl ?_
  show J mX11_time d 0 0 Q 0 0 36 [u0, u1, u2, u3] [.inl (-(nI 1))] h
  exact k

theorem bX11_time_31 {d d' : Nat} {Q : Option MV → MH → Prop} {h : MH} {u1 u2 : Option MV} {v3 : Int32} (hr : zRf h) (hd : d' + 1 ≤ d) (k : Con mX11_timeAt d' 0 0 [.inr (.inr 111), .inl v3] h (zri fun (x : Int32) h' => J mX11_time d 0 0 Q 0 0 36 [some (.inr (.inr 111)), u1, u2, some (.inl v3)] [.inl x] h')) : J mX11_time d 0 0 Q 0 0 31 [some (.inr (.inr 111)), u1, u2, some (.inl v3)] [] h := by
  refine zrun 18 2 qX11_time (o := 11) rfl ?_
  show J mX11_time d 0 0 Q 0 0 33 [some (.inr (.inr 111)), u1, u2, some (.inl v3)] [.inl v3, .inr (.inr 111)] h
  exact zcVi (as := [.inl v3]) (zat qX11_time 20 (by rfl)) l11_345 rfl hd rfl (Nat.le_of_ble_eq_true rfl) zle0 (ci := 11) (by decide) rfl (zo hr (by decide) rfl) k

theorem bX11_time_36 {d : Nat} {Q : Option MV → MH → Prop} {h : MH} {u0 u1 u2 u3 : Option MV} {vs0 : Int32} (k : Q (some (.inl vs0)) h) : J mX11_time d 0 0 Q 0 0 36 [u0, u1, u2, u3] [.inl vs0] h := by
  exact J_iret (ty := .int) (zat qX11_time 21 (by rfl)) rfl rfl (Nat.le_refl 0) (Nat.le_refl 0) k

theorem bX11_between_0 {d d' : Nat} {Q : Option MV → MH → Prop} {h : MH} {u2 u3 : Option MV} {v1 : Int32} (hr : zRf h) (hd : d' + 1 ≤ d) (k : Con mX11_isSet d' 0 0 [.inr (.inr 111), .inl v1] (zsI h 111 0 (nI 0)) (zri fun (x : Int32) h' => J mX11_between d 0 0 Q 0 0 10 [some (.inr (.inr 111)), some (.inl v1), u2, u3] [.inl x] h')) : J mX11_between d 0 0 Q 0 0 0 [some (.inr (.inr 111)), some (.inl v1), u2, u3] [] h := by
  refine zrun 0 5 qX11_between (o := 11) rfl ?_
  show zokO h 111 11 ∧ J mX11_between d 0 0 Q 0 0 7 [some (.inr (.inr 111)), some (.inl v1), u2, u3] [.inl v1, .inr (.inr 111)] (zsI h 111 0 (nI 0))
  exact ⟨(zo hr (by decide) rfl), zcVi (as := [.inl v1]) (zat qX11_between 5 (by rfl)) l11_334 rfl hd rfl (Nat.le_of_ble_eq_true rfl) zle0 (ci := 11) (by decide) rfl (show zokO _ _ _ from (zo hr (by decide) rfl)) k⟩

theorem bX11_between_10 {d : Nat} {Q : Option MV → MH → Prop} {h : MH} {u0 u1 u2 u3 : Option MV} {vs0 : Int32} (k1 : vs0 = 0 → J mX11_between d 0 0 Q 0 0 18 [u0, u1, u2, u3] [] h) (k2 : ¬ vs0 = 0 → J mX11_between d 0 0 Q 0 0 13 [u0, u1, u2, u3] [] h) : J mX11_between d 0 0 Q 0 0 10 [u0, u1, u2, u3] [.inl vs0] h := by
  refine zrun 6 1 qX11_between (o := 11) rfl ?_
  show ((vs0 = 0 → J mX11_between d 0 0 Q 0 0 18 [u0, u1, u2, u3] [] h) ∧ (¬ vs0 = 0 → J mX11_between d 0 0 Q 0 0 13 [u0, u1, u2, u3] [] h))
  exact ⟨k1, k2⟩

theorem bX11_between_13 {d : Nat} {Q : Option MV → MH → Prop} {h : MH} {u0 u1 u2 : Option MV} {v3 : Int32} (k1 : (nI 1) ≤ v3 → J mX11_between d 0 0 Q 0 0 21 [u0, u1, u2, some (.inl v3)] [] h) (k2 : ¬ (nI 1) ≤ v3 → J mX11_between d 0 0 Q 0 0 18 [u0, u1, u2, some (.inl v3)] [] h) : J mX11_between d 0 0 Q 0 0 13 [u0, u1, u2, some (.inl v3)] [] h := by
  refine zrun 7 3 qX11_between (o := 11) rfl ?_
  show (((nI 1) ≤ v3 → J mX11_between d 0 0 Q 0 0 21 [u0, u1, u2, some (.inl v3)] [] h) ∧ (¬ (nI 1) ≤ v3 → J mX11_between d 0 0 Q 0 0 18 [u0, u1, u2, some (.inl v3)] [] h))
  exact ⟨k1, k2⟩

theorem bX11_between_18 {d : Nat} {Q : Option MV → MH → Prop} {h : MH} {u0 u1 u2 u3 : Option MV} (k : Q (some (.inl (-(nI 3)))) h) : J mX11_between d 0 0 Q 0 0 18 [u0, u1, u2, u3] [] h := by
  refine zrun 10 1 qX11_between (o := 11) rfl ?_
  show J mX11_between d 0 0 Q 0 0 20 [u0, u1, u2, u3] [.inl (-(nI 3))] h
  exact J_iret (ty := .int) (zat qX11_between 11 (by rfl)) rfl rfl (Nat.le_refl 0) (Nat.le_refl 0) k

theorem bX11_between_21 {d d' : Nat} {Q : Option MV → MH → Prop} {h : MH} {v3 v1 v2 : Int32} (hr : zRf h) (hd : d' + 1 ≤ d) (k : Con mX11_seeks d' 0 0 [.inr (.inr 111), .inl v1, .inl v2, .inl (nI 1)] (zsI (zsI h 111 39 v3) 111 41 (nI 0)) (zrv fun h' => J mX11_between d 0 0 Q 0 0 38 [some (.inr (.inr 111)), some (.inl v1), some (.inl v2), some (.inl v3)] [] h')) : J mX11_between d 0 0 Q 0 0 21 [some (.inr (.inr 111)), some (.inl v1), some (.inl v2), some (.inl v3)] [] h := by
  refine zrun 12 10 qX11_between (o := 11) rfl ?_
  show zokO h 111 11 ∧ zokO (zsI h 111 39 v3) 111 11 ∧ J mX11_between d 0 0 Q 0 0 35 [some (.inr (.inr 111)), some (.inl v1), some (.inl v2), some (.inl v3)] [.inl (nI 1), .inl v2, .inl v1, .inr (.inr 111)] (zsI (zsI h 111 39 v3) 111 41 (nI 0))
  exact ⟨(zo hr (by decide) rfl), (zo hr (by decide) rfl), zcVv (as := [.inl v1, .inl v2, .inl (nI 1)]) (zat qX11_between 22 (by rfl)) l11_327 rfl hd rfl (Nat.le_of_ble_eq_true rfl) zle0 (ci := 11) (by decide) rfl (show zokO _ _ _ from (zo hr (by decide) rfl)) k⟩

theorem bX11_between_38 {d : Nat} {Q : Option MV → MH → Prop} {h : MH} {u1 u2 u3 : Option MV} (hr : zRf h) (k : Q (some (.inl (h.1 111 41))) h) : J mX11_between d 0 0 Q 0 0 38 [some (.inr (.inr 111)), u1, u2, u3] [] h := by
  refine zrun 23 2 qX11_between (o := 11) rfl ?_
  show zokO h 111 11 ∧ J mX11_between d 0 0 Q 0 0 42 [some (.inr (.inr 111)), u1, u2, u3] [.inl (h.1 111 41)] h
  exact ⟨(zo hr (by decide) rfl), J_iret (ty := .int) (zat qX11_between 25 (by rfl)) rfl rfl (Nat.le_refl 0) (Nat.le_refl 0) k⟩

theorem bX11_bitsOf_0 {d : Nat} {Q : Option MV → MH → Prop} {h : MH} {u1 u2 : Option MV} {v0 : Int32} (k : J mX11_bitsOf d 0 0 Q 0 0 4 [some (.inl v0), some (.inl (nI 0)), some (.inl (nI 0))] [] h) : J mX11_bitsOf d 0 0 Q 0 0 0 [some (.inl v0), u1, u2] [] h := by
  refine zrun 0 4 qX11_bitsOf (o := 11) rfl ?_
  show J mX11_bitsOf d 0 0 Q 0 0 4 [some (.inl v0), some (.inl (nI 0)), some (.inl (nI 0))] [] h
  exact k

theorem bX11_bitsOf_4 {d : Nat} {Q : Option MV → MH → Prop} {h : MH} {u0 u1 : Option MV} {v2 : Int32} (k1 : (nI 8) ≤ v2 → J mX11_bitsOf d 0 0 Q 0 0 24 [u0, u1, some (.inl v2)] [] h) (k2 : ¬ (nI 8) ≤ v2 → J mX11_bitsOf d 0 0 Q 0 0 10 [u0, u1, some (.inl v2)] [] h) : J mX11_bitsOf d 0 0 Q 0 0 4 [u0, u1, some (.inl v2)] [] h := by
  refine zrun 4 3 qX11_bitsOf (o := 11) rfl ?_
  show (((nI 8) ≤ v2 → J mX11_bitsOf d 0 0 Q 0 0 24 [u0, u1, some (.inl v2)] [] h) ∧ (¬ (nI 8) ≤ v2 → J mX11_bitsOf d 0 0 Q 0 0 10 [u0, u1, some (.inl v2)] [] h))
  exact ⟨k1, k2⟩

theorem bX11_bitsOf_10 {d : Nat} {Q : Option MV → MH → Prop} {h : MH} {v1 v0 v2 : Int32} (k : J mX11_bitsOf d 0 0 Q 0 0 4 [some (.inl v0), some (.inl (v1 + ((v0 >>> (v2 &&& 31)) &&& (nI 1)))), some (.inl (v2 + nI 1))] [] h) : J mX11_bitsOf d 0 0 Q 0 0 10 [some (.inl v0), some (.inl v1), some (.inl v2)] [] h := by
  refine zrun 7 10 qX11_bitsOf (o := 11) rfl ?_
  show J mX11_bitsOf d 0 0 Q 0 0 4 [some (.inl v0), some (.inl (v1 + ((v0 >>> (v2 &&& 31)) &&& (nI 1)))), some (.inl (v2 + nI 1))] [] h
  exact k

theorem bX11_bitsOf_24 {d : Nat} {Q : Option MV → MH → Prop} {h : MH} {u0 u2 : Option MV} {v1 : Int32} (k : Q (some (.inl v1)) h) : J mX11_bitsOf d 0 0 Q 0 0 24 [u0, some (.inl v1), u2] [] h := by
  refine zrun 17 1 qX11_bitsOf (o := 11) rfl ?_
  show J mX11_bitsOf d 0 0 Q 0 0 25 [u0, some (.inl v1), u2] [.inl v1] h
  exact J_iret (ty := .int) (zat qX11_bitsOf 18 (by rfl)) rfl rfl (Nat.le_refl 0) (Nat.le_refl 0) k

theorem bX11_least_0 {d d' : Nat} {Q : Option MV → MH → Prop} {h : MH} {u1 u2 u4 u5 : Option MV} {v3 : Int32} (hr : zRf h) (hd : d' + 1 ≤ d) (k : Con mX11_within d' 0 0 [.inr (.inl v3.toInt64), .inr (.inl (lN 0)), .inr (.inl (lN 1))] (zsI h 111 0 (nI 0)) (zri fun (x : Int32) h' => J mX11_least d 0 0 Q 0 0 12 [some (.inr (.inr 111)), u1, u2, some (.inl v3), u4, u5] [.inl x] h')) : J mX11_least d 0 0 Q 0 0 0 [some (.inr (.inr 111)), u1, u2, some (.inl v3), u4, u5] [] h := by
  refine zrun 0 7 qX11_least (o := 11) rfl ?_
  show zokO h 111 11 ∧ J mX11_least d 0 0 Q 0 0 9 [some (.inr (.inr 111)), u1, u2, some (.inl v3), u4, u5] [.inr (.inl (lN 1)), .inr (.inl (lN 0)), .inr (.inl v3.toInt64)] (zsI h 111 0 (nI 0))
  exact ⟨(zo hr (by decide) rfl), zcSi (as := [.inr (.inl v3.toInt64), .inr (.inl (lN 0)), .inr (.inl (lN 1))]) (zat qX11_least 7 (by rfl)) l11_178 rfl hd rfl (Nat.le_of_ble_eq_true rfl) zle0 k⟩

theorem bX11_least_12 {d : Nat} {Q : Option MV → MH → Prop} {h : MH} {u0 u1 u2 u3 u4 u5 : Option MV} {vs0 : Int32} (k1 : ¬ vs0 = 0 → J mX11_least d 0 0 Q 0 0 18 [u0, u1, u2, u3, u4, u5] [] h) (k2 : vs0 = 0 → J mX11_least d 0 0 Q 0 0 15 [u0, u1, u2, u3, u4, u5] [] h) : J mX11_least d 0 0 Q 0 0 12 [u0, u1, u2, u3, u4, u5] [.inl vs0] h := by
  refine zrun 8 1 qX11_least (o := 11) rfl ?_
  show ((¬ vs0 = 0 → J mX11_least d 0 0 Q 0 0 18 [u0, u1, u2, u3, u4, u5] [] h) ∧ (vs0 = 0 → J mX11_least d 0 0 Q 0 0 15 [u0, u1, u2, u3, u4, u5] [] h))
  exact ⟨k1, k2⟩

theorem bX11_least_15 {d : Nat} {Q : Option MV → MH → Prop} {h : MH} {u0 u1 u2 u3 u4 u5 : Option MV} (k : Q (some (.inl (-(nI 2)))) h) : J mX11_least d 0 0 Q 0 0 15 [u0, u1, u2, u3, u4, u5] [] h := by
  refine zrun 9 1 qX11_least (o := 11) rfl ?_
  show J mX11_least d 0 0 Q 0 0 17 [u0, u1, u2, u3, u4, u5] [.inl (-(nI 2))] h
  exact J_iret (ty := .int) (zat qX11_least 10 (by rfl)) rfl rfl (Nat.le_refl 0) (Nat.le_refl 0) k

theorem bX11_least_18 {d : Nat} {Q : Option MV → MH → Prop} {h : MH} {u0 u2 u3 u4 u5 : Option MV} {v1 : Int32} (k1 : (nI 1) ≤ v1 → J mX11_least d 0 0 Q 0 0 26 [u0, some (.inl v1), u2, u3, u4, u5] [] h) (k2 : ¬ (nI 1) ≤ v1 → J mX11_least d 0 0 Q 0 0 23 [u0, some (.inl v1), u2, u3, u4, u5] [] h) : J mX11_least d 0 0 Q 0 0 18 [u0, some (.inl v1), u2, u3, u4, u5] [] h := by
  refine zrun 11 3 qX11_least (o := 11) rfl ?_
  show (((nI 1) ≤ v1 → J mX11_least d 0 0 Q 0 0 26 [u0, some (.inl v1), u2, u3, u4, u5] [] h) ∧ (¬ (nI 1) ≤ v1 → J mX11_least d 0 0 Q 0 0 23 [u0, some (.inl v1), u2, u3, u4, u5] [] h))
  exact ⟨k1, k2⟩

theorem bX11_least_23 {d : Nat} {Q : Option MV → MH → Prop} {h : MH} {u0 u1 u2 u3 u4 u5 : Option MV} (k : Q (some (.inl (-(nI 3)))) h) : J mX11_least d 0 0 Q 0 0 23 [u0, u1, u2, u3, u4, u5] [] h := by
  refine zrun 14 1 qX11_least (o := 11) rfl ?_
  show J mX11_least d 0 0 Q 0 0 25 [u0, u1, u2, u3, u4, u5] [.inl (-(nI 3))] h
  exact J_iret (ty := .int) (zat qX11_least 15 (by rfl)) rfl rfl (Nat.le_refl 0) (Nat.le_refl 0) k

theorem bX11_least_26 {d : Nat} {Q : Option MV → MH → Prop} {h : MH} {u0 u1 u2 u4 u5 : Option MV} {v3 : Int32} (k : J mX11_least d 0 0 Q 0 0 29 [u0, u1, u2, some (.inl v3), some (.inl (nI 1)), u5] [] h) : J mX11_least d 0 0 Q 0 0 26 [u0, u1, u2, some (.inl v3), u4, u5] [] h := by
  refine zrun 16 2 qX11_least (o := 11) rfl ?_
  show J mX11_least d 0 0 Q 0 0 29 [u0, u1, u2, some (.inl v3), some (.inl (nI 1)), u5] [] h
  exact k

theorem bX11_least_29 {d : Nat} {Q : Option MV → MH → Prop} {h : MH} {u0 u1 u2 u3 u5 : Option MV} {v4 : Int32} (k1 : (nI 4) < v4 → J mX11_least d 0 0 Q 0 0 96 [u0, u1, u2, u3, some (.inl v4), u5] [] h) (k2 : ¬ (nI 4) < v4 → J mX11_least d 0 0 Q 0 0 35 [u0, u1, u2, u3, some (.inl v4), u5] [] h) : J mX11_least d 0 0 Q 0 0 29 [u0, u1, u2, u3, some (.inl v4), u5] [] h := by
  refine zrun 18 3 qX11_least (o := 11) rfl ?_
  show (((nI 4) < v4 → J mX11_least d 0 0 Q 0 0 96 [u0, u1, u2, u3, some (.inl v4), u5] [] h) ∧ (¬ (nI 4) < v4 → J mX11_least d 0 0 Q 0 0 35 [u0, u1, u2, u3, some (.inl v4), u5] [] h))
  exact ⟨k1, k2⟩

theorem bX11_least_35 {d : Nat} {Q : Option MV → MH → Prop} {h : MH} {u0 u1 u2 u3 u5 : Option MV} {v4 : Int32} (k : J mX11_least d 0 0 Q 0 0 38 [u0, u1, u2, u3, some (.inl v4), some (.inl (nI 1))] [] h) : J mX11_least d 0 0 Q 0 0 35 [u0, u1, u2, u3, some (.inl v4), u5] [] h := by
  refine zrun 21 2 qX11_least (o := 11) rfl ?_
  show J mX11_least d 0 0 Q 0 0 38 [u0, u1, u2, u3, some (.inl v4), some (.inl (nI 1))] [] h
  exact k

theorem bX11_least_38 {d : Nat} {Q : Option MV → MH → Prop} {h : MH} {u1 u2 u3 u4 : Option MV} {v5 : Int32} (hr : zRf h) (g0 : vp_in (nI 0) 2166) (k1 : ((nI 1) <<< ((h.1 112 0) &&& 31)) ≤ v5 → J mX11_least d 0 0 Q 0 0 90 [some (.inr (.inr 111)), u1, u2, u3, u4, some (.inl v5)] [] h) (k2 : ¬ ((nI 1) <<< ((h.1 112 0) &&& 31)) ≤ v5 → J mX11_least d 0 0 Q 0 0 51 [some (.inr (.inr 111)), u1, u2, u3, u4, some (.inl v5)] [] h) : J mX11_least d 0 0 Q 0 0 38 [some (.inr (.inr 111)), u1, u2, u3, u4, some (.inl v5)] [] h := by
  refine zrun 23 8 qX11_least (o := 11) rfl ?_
  show zokO h 111 11 ∧ zokA h (h.2.2.1 111 1) 20 (nI 0) ∧ ((((nI 1) <<< ((h.1 (h.2.2.1 111 1) 0) &&& 31)) ≤ v5 → J mX11_least d 0 0 Q 0 0 90 [some (.inr (.inr 111)), u1, u2, u3, u4, some (.inl v5)] [] h) ∧ (¬ ((nI 1) <<< ((h.1 (h.2.2.1 111 1) 0) &&& 31)) ≤ v5 → J mX11_least d 0 0 Q 0 0 51 [some (.inr (.inr 111)), u1, u2, u3, u4, some (.inl v5)] [] h))
  rw [(show h.2.2.1 111 1 = 112 from (hr.at (by decide) (by decide) (by rfl)))]
  exact ⟨(zo hr (by decide) rfl), (zia hr (by decide) (by rfl) g0), k1, k2⟩

theorem bX11_least_51 {d d' : Nat} {Q : Option MV → MH → Prop} {h : MH} {u0 u1 u2 u3 u4 : Option MV} {v5 : Int32} (hd : d' + 1 ≤ d) (k : Con mX11_bitsOf d' 0 0 [.inl v5] h (zri fun (x : Int32) h' => J mX11_least d 0 0 Q 0 0 56 [u0, u1, u2, u3, u4, some (.inl v5)] [.inl x] h')) : J mX11_least d 0 0 Q 0 0 51 [u0, u1, u2, u3, u4, some (.inl v5)] [] h := by
  refine zrun 31 1 qX11_least (o := 11) rfl ?_
  show J mX11_least d 0 0 Q 0 0 53 [u0, u1, u2, u3, u4, some (.inl v5)] [.inl v5] h
  exact zcSi (as := [.inl v5]) (zat qX11_least 32 (by rfl)) l11_348 rfl hd rfl (Nat.le_of_ble_eq_true rfl) zle0 k

theorem bX11_least_56 {d : Nat} {Q : Option MV → MH → Prop} {h : MH} {u0 u1 u2 u3 u5 : Option MV} {vs0 v4 : Int32} (k1 : ¬ vs0 = v4 → J mX11_least d 0 0 Q 0 0 84 [u0, u1, u2, u3, some (.inl v4), u5] [] h) (k2 : vs0 = v4 → J mX11_least d 0 0 Q 0 0 61 [u0, u1, u2, u3, some (.inl v4), u5] [] h) : J mX11_least d 0 0 Q 0 0 56 [u0, u1, u2, u3, some (.inl v4), u5] [.inl vs0] h := by
  refine zrun 33 2 qX11_least (o := 11) rfl ?_
  show ((¬ vs0 = v4 → J mX11_least d 0 0 Q 0 0 84 [u0, u1, u2, u3, some (.inl v4), u5] [] h) ∧ (vs0 = v4 → J mX11_least d 0 0 Q 0 0 61 [u0, u1, u2, u3, some (.inl v4), u5] [] h))
  exact ⟨k1, k2⟩

theorem bX11_least_61 {d d' : Nat} {Q : Option MV → MH → Prop} {h : MH} {u3 u4 : Option MV} {v5 v2 v1 : Int32} (hr : zRf h) (hd : d' + 1 ≤ d) (k : Con mX11_isTold d' 0 0 [.inr (.inr 111), .inl v5, .inl v2, .inl v1] h (zri fun (x : Int32) h' => J mX11_least d 0 0 Q 0 0 69 [some (.inr (.inr 111)), some (.inl v1), some (.inl v2), u3, u4, some (.inl v5)] [.inl x] h')) : J mX11_least d 0 0 Q 0 0 61 [some (.inr (.inr 111)), some (.inl v1), some (.inl v2), u3, u4, some (.inl v5)] [] h := by
  refine zrun 35 4 qX11_least (o := 11) rfl ?_
  show J mX11_least d 0 0 Q 0 0 66 [some (.inr (.inr 111)), some (.inl v1), some (.inl v2), u3, u4, some (.inl v5)] [.inl v1, .inl v2, .inl v5, .inr (.inr 111)] h
  exact zcVi (as := [.inl v5, .inl v2, .inl v1]) (zat qX11_least 39 (by rfl)) l11_337 rfl hd rfl (Nat.le_of_ble_eq_true rfl) zle0 (ci := 11) (by decide) rfl (zo hr (by decide) rfl) k

theorem bX11_least_69 {d : Nat} {Q : Option MV → MH → Prop} {h : MH} {u0 u1 u2 u3 u4 u5 : Option MV} {vs0 : Int32} (k1 : vs0 = 0 → J mX11_least d 0 0 Q 0 0 84 [u0, u1, u2, u3, u4, u5] [] h) (k2 : ¬ vs0 = 0 → J mX11_least d 0 0 Q 0 0 72 [u0, u1, u2, u3, u4, u5] [] h) : J mX11_least d 0 0 Q 0 0 69 [u0, u1, u2, u3, u4, u5] [.inl vs0] h := by
  refine zrun 40 1 qX11_least (o := 11) rfl ?_
  show ((vs0 = 0 → J mX11_least d 0 0 Q 0 0 84 [u0, u1, u2, u3, u4, u5] [] h) ∧ (¬ vs0 = 0 → J mX11_least d 0 0 Q 0 0 72 [u0, u1, u2, u3, u4, u5] [] h))
  exact ⟨k1, k2⟩

theorem bX11_least_72 {d : Nat} {Q : Option MV → MH → Prop} {h : MH} {u0 u1 u2 u4 u5 : Option MV} {v3 : Int32} (k1 : ¬ v3 = 0 → J mX11_least d 0 0 Q 0 0 81 [u0, u1, u2, some (.inl v3), u4, u5] [] h) (k2 : v3 = 0 → J mX11_least d 0 0 Q 0 0 76 [u0, u1, u2, some (.inl v3), u4, u5] [] h) : J mX11_least d 0 0 Q 0 0 72 [u0, u1, u2, some (.inl v3), u4, u5] [] h := by
  refine zrun 41 2 qX11_least (o := 11) rfl ?_
  show ((¬ v3 = 0 → J mX11_least d 0 0 Q 0 0 81 [u0, u1, u2, some (.inl v3), u4, u5] [] h) ∧ (v3 = 0 → J mX11_least d 0 0 Q 0 0 76 [u0, u1, u2, some (.inl v3), u4, u5] [] h))
  exact ⟨k1, k2⟩

theorem bX11_least_76 {d : Nat} {Q : Option MV → MH → Prop} {h : MH} {u0 u1 u2 u3 u5 : Option MV} {v4 : Int32} (k : J mX11_least d 0 0 Q 0 0 83 [u0, u1, u2, u3, some (.inl v4), u5] [.inl v4] h) : J mX11_least d 0 0 Q 0 0 76 [u0, u1, u2, u3, some (.inl v4), u5] [] h := by
  refine zrun 43 2 qX11_least (o := 11) rfl ?_
  show J mX11_least d 0 0 Q 0 0 83 [u0, u1, u2, u3, some (.inl v4), u5] [.inl v4] h
  exact k

theorem bX11_least_81 {d : Nat} {Q : Option MV → MH → Prop} {h : MH} {u0 u1 u2 u3 u4 : Option MV} {v5 : Int32} (k : J mX11_least d 0 0 Q 0 0 83 [u0, u1, u2, u3, u4, some (.inl v5)] [.inl v5] h) : J mX11_least d 0 0 Q 0 0 81 [u0, u1, u2, u3, u4, some (.inl v5)] [] h := by
  refine zrun 45 1 qX11_least (o := 11) rfl ?_
  show J mX11_least d 0 0 Q 0 0 83 [u0, u1, u2, u3, u4, some (.inl v5)] [.inl v5] h
  exact k

theorem bX11_least_83 {d : Nat} {Q : Option MV → MH → Prop} {h : MH} {u0 u1 u2 u3 u4 u5 : Option MV} {vs0 : Int32} (k : Q (some (.inl vs0)) h) : J mX11_least d 0 0 Q 0 0 83 [u0, u1, u2, u3, u4, u5] [.inl vs0] h := by
  exact J_iret (ty := .int) (zat qX11_least 46 (by rfl)) rfl rfl (Nat.le_refl 0) (Nat.le_refl 0) k

theorem bX11_least_84 {d : Nat} {Q : Option MV → MH → Prop} {h : MH} {u0 u1 u2 u3 : Option MV} {v5 v4 : Int32} (k : J mX11_least d 0 0 Q 0 0 38 [u0, u1, u2, u3, some (.inl v4), some (.inl (v5 + nI 1))] [] h) : J mX11_least d 0 0 Q 0 0 84 [u0, u1, u2, u3, some (.inl v4), some (.inl v5)] [] h := by
  refine zrun 47 2 qX11_least (o := 11) rfl ?_
  show J mX11_least d 0 0 Q 0 0 38 [u0, u1, u2, u3, some (.inl v4), some (.inl (v5 + nI 1))] [] h
  exact k

theorem bX11_least_90 {d : Nat} {Q : Option MV → MH → Prop} {h : MH} {u0 u1 u2 u5 : Option MV} {v4 v3 : Int32} (k : J mX11_least d 0 0 Q 0 0 29 [u0, u1, u2, some (.inl v3), some (.inl (v4 + nI 1)), u5] [] h) : J mX11_least d 0 0 Q 0 0 90 [u0, u1, u2, some (.inl v3), some (.inl v4), u5] [] h := by
  refine zrun 49 2 qX11_least (o := 11) rfl ?_
  show J mX11_least d 0 0 Q 0 0 29 [u0, u1, u2, some (.inl v3), some (.inl (v4 + nI 1)), u5] [] h
  exact k

theorem bX11_least_96 {d : Nat} {Q : Option MV → MH → Prop} {h : MH} {u0 u1 u2 u3 u4 u5 : Option MV} (k : Q (some (.inl (-(nI 1)))) h) : J mX11_least d 0 0 Q 0 0 96 [u0, u1, u2, u3, u4, u5] [] h := by
  refine zrun 51 1 qX11_least (o := 11) rfl ?_
  show J mX11_least d 0 0 Q 0 0 97 [u0, u1, u2, u3, u4, u5] [.inl (-(nI 1))] h
  exact J_iret (ty := .int) (zat qX11_least 52 (by rfl)) rfl rfl (Nat.le_refl 0) (Nat.le_refl 0) k

theorem bX11_fewest_0 {d d' : Nat} {Q : Option MV → MH → Prop} {h : MH} {u2 u3 : Option MV} {v1 : Int32} (hr : zRf h) (hd : d' + 1 ≤ d) (k : Con mX11_isSet d' 0 0 [.inr (.inr 111), .inl v1] (zsI h 111 0 (nI 0)) (zri fun (x : Int32) h' => J mX11_fewest d 0 0 Q 0 0 10 [some (.inr (.inr 111)), some (.inl v1), u2, u3] [.inl x] h')) : J mX11_fewest d 0 0 Q 0 0 0 [some (.inr (.inr 111)), some (.inl v1), u2, u3] [] h := by
  refine zrun 0 5 qX11_fewest (o := 11) rfl ?_
  show zokO h 111 11 ∧ J mX11_fewest d 0 0 Q 0 0 7 [some (.inr (.inr 111)), some (.inl v1), u2, u3] [.inl v1, .inr (.inr 111)] (zsI h 111 0 (nI 0))
  exact ⟨(zo hr (by decide) rfl), zcVi (as := [.inl v1]) (zat qX11_fewest 5 (by rfl)) l11_334 rfl hd rfl (Nat.le_of_ble_eq_true rfl) zle0 (ci := 11) (by decide) rfl (show zokO _ _ _ from (zo hr (by decide) rfl)) k⟩

theorem bX11_fewest_10 {d : Nat} {Q : Option MV → MH → Prop} {h : MH} {u0 u1 u2 u3 : Option MV} {vs0 : Int32} (k1 : vs0 = 0 → J mX11_fewest d 0 0 Q 0 0 18 [u0, u1, u2, u3] [] h) (k2 : ¬ vs0 = 0 → J mX11_fewest d 0 0 Q 0 0 13 [u0, u1, u2, u3] [] h) : J mX11_fewest d 0 0 Q 0 0 10 [u0, u1, u2, u3] [.inl vs0] h := by
  refine zrun 6 1 qX11_fewest (o := 11) rfl ?_
  show ((vs0 = 0 → J mX11_fewest d 0 0 Q 0 0 18 [u0, u1, u2, u3] [] h) ∧ (¬ vs0 = 0 → J mX11_fewest d 0 0 Q 0 0 13 [u0, u1, u2, u3] [] h))
  exact ⟨k1, k2⟩

theorem bX11_fewest_13 {d : Nat} {Q : Option MV → MH → Prop} {h : MH} {u0 u1 u2 : Option MV} {v3 : Int32} (k1 : (nI 1) ≤ v3 → J mX11_fewest d 0 0 Q 0 0 21 [u0, u1, u2, some (.inl v3)] [] h) (k2 : ¬ (nI 1) ≤ v3 → J mX11_fewest d 0 0 Q 0 0 18 [u0, u1, u2, some (.inl v3)] [] h) : J mX11_fewest d 0 0 Q 0 0 13 [u0, u1, u2, some (.inl v3)] [] h := by
  refine zrun 7 3 qX11_fewest (o := 11) rfl ?_
  show (((nI 1) ≤ v3 → J mX11_fewest d 0 0 Q 0 0 21 [u0, u1, u2, some (.inl v3)] [] h) ∧ (¬ (nI 1) ≤ v3 → J mX11_fewest d 0 0 Q 0 0 18 [u0, u1, u2, some (.inl v3)] [] h))
  exact ⟨k1, k2⟩

theorem bX11_fewest_18 {d : Nat} {Q : Option MV → MH → Prop} {h : MH} {u0 u1 u2 u3 : Option MV} (k : Q (some (.inl (-(nI 3)))) h) : J mX11_fewest d 0 0 Q 0 0 18 [u0, u1, u2, u3] [] h := by
  refine zrun 10 1 qX11_fewest (o := 11) rfl ?_
  show J mX11_fewest d 0 0 Q 0 0 20 [u0, u1, u2, u3] [.inl (-(nI 3))] h
  exact J_iret (ty := .int) (zat qX11_fewest 11 (by rfl)) rfl rfl (Nat.le_refl 0) (Nat.le_refl 0) k

theorem bX11_fewest_21 {d d' : Nat} {Q : Option MV → MH → Prop} {h : MH} {v3 v1 v2 : Int32} (hr : zRf h) (hd : d' + 1 ≤ d) (k : Con mX11_seeks d' 0 0 [.inr (.inr 111), .inl v1, .inl v2, .inl (nI 2)] (zsI (zsI h 111 39 v3) 111 41 (-(nI 1))) (zrv fun h' => J mX11_fewest d 0 0 Q 0 0 38 [some (.inr (.inr 111)), some (.inl v1), some (.inl v2), some (.inl v3)] [] h')) : J mX11_fewest d 0 0 Q 0 0 21 [some (.inr (.inr 111)), some (.inl v1), some (.inl v2), some (.inl v3)] [] h := by
  refine zrun 12 10 qX11_fewest (o := 11) rfl ?_
  show zokO h 111 11 ∧ zokO (zsI h 111 39 v3) 111 11 ∧ J mX11_fewest d 0 0 Q 0 0 35 [some (.inr (.inr 111)), some (.inl v1), some (.inl v2), some (.inl v3)] [.inl (nI 2), .inl v2, .inl v1, .inr (.inr 111)] (zsI (zsI h 111 39 v3) 111 41 (-(nI 1)))
  exact ⟨(zo hr (by decide) rfl), (zo hr (by decide) rfl), zcVv (as := [.inl v1, .inl v2, .inl (nI 2)]) (zat qX11_fewest 22 (by rfl)) l11_327 rfl hd rfl (Nat.le_of_ble_eq_true rfl) zle0 (ci := 11) (by decide) rfl (show zokO _ _ _ from (zo hr (by decide) rfl)) k⟩

theorem bX11_fewest_38 {d : Nat} {Q : Option MV → MH → Prop} {h : MH} {u1 u2 u3 : Option MV} (hr : zRf h) (k : Q (some (.inl (h.1 111 41))) h) : J mX11_fewest d 0 0 Q 0 0 38 [some (.inr (.inr 111)), u1, u2, u3] [] h := by
  refine zrun 23 2 qX11_fewest (o := 11) rfl ?_
  show zokO h 111 11 ∧ J mX11_fewest d 0 0 Q 0 0 42 [some (.inr (.inr 111)), u1, u2, u3] [.inl (h.1 111 41)] h
  exact ⟨(zo hr (by decide) rfl), J_iret (ty := .int) (zat qX11_fewest 25 (by rfl)) rfl rfl (Nat.le_refl 0) (Nat.le_refl 0) k⟩

theorem bX11_burnt_0 {d d' : Nat} {Q : Option MV → MH → Prop} {h : MH} {u2 u3 : Option MV} {v1 : Int32} (hr : zRf h) (hd : d' + 1 ≤ d) (k : Con mX11_isSet d' 0 0 [.inr (.inr 111), .inl v1] (zsI h 111 0 (nI 0)) (zri fun (x : Int32) h' => J mX11_burnt d 0 0 Q 0 0 10 [some (.inr (.inr 111)), some (.inl v1), u2, u3] [.inl x] h')) : J mX11_burnt d 0 0 Q 0 0 0 [some (.inr (.inr 111)), some (.inl v1), u2, u3] [] h := by
  refine zrun 0 5 qX11_burnt (o := 11) rfl ?_
  show zokO h 111 11 ∧ J mX11_burnt d 0 0 Q 0 0 7 [some (.inr (.inr 111)), some (.inl v1), u2, u3] [.inl v1, .inr (.inr 111)] (zsI h 111 0 (nI 0))
  exact ⟨(zo hr (by decide) rfl), zcVi (as := [.inl v1]) (zat qX11_burnt 5 (by rfl)) l11_334 rfl hd rfl (Nat.le_of_ble_eq_true rfl) zle0 (ci := 11) (by decide) rfl (show zokO _ _ _ from (zo hr (by decide) rfl)) k⟩

theorem bX11_burnt_10 {d : Nat} {Q : Option MV → MH → Prop} {h : MH} {u0 u1 u2 u3 : Option MV} {vs0 : Int32} (k1 : vs0 = 0 → J mX11_burnt d 0 0 Q 0 0 18 [u0, u1, u2, u3] [] h) (k2 : ¬ vs0 = 0 → J mX11_burnt d 0 0 Q 0 0 13 [u0, u1, u2, u3] [] h) : J mX11_burnt d 0 0 Q 0 0 10 [u0, u1, u2, u3] [.inl vs0] h := by
  refine zrun 6 1 qX11_burnt (o := 11) rfl ?_
  show ((vs0 = 0 → J mX11_burnt d 0 0 Q 0 0 18 [u0, u1, u2, u3] [] h) ∧ (¬ vs0 = 0 → J mX11_burnt d 0 0 Q 0 0 13 [u0, u1, u2, u3] [] h))
  exact ⟨k1, k2⟩

theorem bX11_burnt_13 {d : Nat} {Q : Option MV → MH → Prop} {h : MH} {u0 u1 u2 : Option MV} {v3 : Int32} (k1 : (nI 1) ≤ v3 → J mX11_burnt d 0 0 Q 0 0 21 [u0, u1, u2, some (.inl v3)] [] h) (k2 : ¬ (nI 1) ≤ v3 → J mX11_burnt d 0 0 Q 0 0 18 [u0, u1, u2, some (.inl v3)] [] h) : J mX11_burnt d 0 0 Q 0 0 13 [u0, u1, u2, some (.inl v3)] [] h := by
  refine zrun 7 3 qX11_burnt (o := 11) rfl ?_
  show (((nI 1) ≤ v3 → J mX11_burnt d 0 0 Q 0 0 21 [u0, u1, u2, some (.inl v3)] [] h) ∧ (¬ (nI 1) ≤ v3 → J mX11_burnt d 0 0 Q 0 0 18 [u0, u1, u2, some (.inl v3)] [] h))
  exact ⟨k1, k2⟩

theorem bX11_burnt_18 {d : Nat} {Q : Option MV → MH → Prop} {h : MH} {u0 u1 u2 u3 : Option MV} (k : Q (some (.inl (-(nI 3)))) h) : J mX11_burnt d 0 0 Q 0 0 18 [u0, u1, u2, u3] [] h := by
  refine zrun 10 1 qX11_burnt (o := 11) rfl ?_
  show J mX11_burnt d 0 0 Q 0 0 20 [u0, u1, u2, u3] [.inl (-(nI 3))] h
  exact J_iret (ty := .int) (zat qX11_burnt 11 (by rfl)) rfl rfl (Nat.le_refl 0) (Nat.le_refl 0) k

theorem bX11_burnt_21 {d d' : Nat} {Q : Option MV → MH → Prop} {h : MH} {v3 v1 v2 : Int32} (hr : zRf h) (hd : d' + 1 ≤ d) (k : Con mX11_seeks d' 0 0 [.inr (.inr 111), .inl v1, .inl v2, .inl (nI 5)] (zsI (zsI h 111 39 v3) 111 41 (-(nI 1))) (zrv fun h' => J mX11_burnt d 0 0 Q 0 0 38 [some (.inr (.inr 111)), some (.inl v1), some (.inl v2), some (.inl v3)] [] h')) : J mX11_burnt d 0 0 Q 0 0 21 [some (.inr (.inr 111)), some (.inl v1), some (.inl v2), some (.inl v3)] [] h := by
  refine zrun 12 10 qX11_burnt (o := 11) rfl ?_
  show zokO h 111 11 ∧ zokO (zsI h 111 39 v3) 111 11 ∧ J mX11_burnt d 0 0 Q 0 0 35 [some (.inr (.inr 111)), some (.inl v1), some (.inl v2), some (.inl v3)] [.inl (nI 5), .inl v2, .inl v1, .inr (.inr 111)] (zsI (zsI h 111 39 v3) 111 41 (-(nI 1)))
  exact ⟨(zo hr (by decide) rfl), (zo hr (by decide) rfl), zcVv (as := [.inl v1, .inl v2, .inl (nI 5)]) (zat qX11_burnt 22 (by rfl)) l11_327 rfl hd rfl (Nat.le_of_ble_eq_true rfl) zle0 (ci := 11) (by decide) rfl (show zokO _ _ _ from (zo hr (by decide) rfl)) k⟩

theorem bX11_burnt_38 {d : Nat} {Q : Option MV → MH → Prop} {h : MH} {u1 u2 u3 : Option MV} (hr : zRf h) (k : Q (some (.inl (h.1 111 41))) h) : J mX11_burnt d 0 0 Q 0 0 38 [some (.inr (.inr 111)), u1, u2, u3] [] h := by
  refine zrun 23 2 qX11_burnt (o := 11) rfl ?_
  show zokO h 111 11 ∧ J mX11_burnt d 0 0 Q 0 0 42 [some (.inr (.inr 111)), u1, u2, u3] [.inl (h.1 111 41)] h
  exact ⟨(zo hr (by decide) rfl), J_iret (ty := .int) (zat qX11_burnt 25 (by rfl)) rfl rfl (Nat.le_refl 0) (Nat.le_refl 0) k⟩

theorem bX11_given_0 {d d' : Nat} {Q : Option MV → MH → Prop} {h : MH} {u2 u3 u4 : Option MV} {v1 : Int32} (hr : zRf h) (hd : d' + 1 ≤ d) (k : Con mX11_isSet d' 0 0 [.inr (.inr 111), .inl v1] (zsI h 111 0 (nI 0)) (zri fun (x : Int32) h' => J mX11_given d 0 0 Q 0 0 10 [some (.inr (.inr 111)), some (.inl v1), u2, u3, u4] [.inl x] h')) : J mX11_given d 0 0 Q 0 0 0 [some (.inr (.inr 111)), some (.inl v1), u2, u3, u4] [] h := by
  refine zrun 0 5 qX11_given (o := 11) rfl ?_
  show zokO h 111 11 ∧ J mX11_given d 0 0 Q 0 0 7 [some (.inr (.inr 111)), some (.inl v1), u2, u3, u4] [.inl v1, .inr (.inr 111)] (zsI h 111 0 (nI 0))
  exact ⟨(zo hr (by decide) rfl), zcVi (as := [.inl v1]) (zat qX11_given 5 (by rfl)) l11_334 rfl hd rfl (Nat.le_of_ble_eq_true rfl) zle0 (ci := 11) (by decide) rfl (show zokO _ _ _ from (zo hr (by decide) rfl)) k⟩

theorem bX11_given_10 {d : Nat} {Q : Option MV → MH → Prop} {h : MH} {u0 u1 u2 u3 u4 : Option MV} {vs0 : Int32} (k1 : vs0 = 0 → J mX11_given d 0 0 Q 0 0 18 [u0, u1, u2, u3, u4] [] h) (k2 : ¬ vs0 = 0 → J mX11_given d 0 0 Q 0 0 13 [u0, u1, u2, u3, u4] [] h) : J mX11_given d 0 0 Q 0 0 10 [u0, u1, u2, u3, u4] [.inl vs0] h := by
  refine zrun 6 1 qX11_given (o := 11) rfl ?_
  show ((vs0 = 0 → J mX11_given d 0 0 Q 0 0 18 [u0, u1, u2, u3, u4] [] h) ∧ (¬ vs0 = 0 → J mX11_given d 0 0 Q 0 0 13 [u0, u1, u2, u3, u4] [] h))
  exact ⟨k1, k2⟩

theorem bX11_given_13 {d : Nat} {Q : Option MV → MH → Prop} {h : MH} {u0 u1 u2 u4 : Option MV} {v3 : Int32} (k1 : (nI 1) ≤ v3 → J mX11_given d 0 0 Q 0 0 21 [u0, u1, u2, some (.inl v3), u4] [] h) (k2 : ¬ (nI 1) ≤ v3 → J mX11_given d 0 0 Q 0 0 18 [u0, u1, u2, some (.inl v3), u4] [] h) : J mX11_given d 0 0 Q 0 0 13 [u0, u1, u2, some (.inl v3), u4] [] h := by
  refine zrun 7 3 qX11_given (o := 11) rfl ?_
  show (((nI 1) ≤ v3 → J mX11_given d 0 0 Q 0 0 21 [u0, u1, u2, some (.inl v3), u4] [] h) ∧ (¬ (nI 1) ≤ v3 → J mX11_given d 0 0 Q 0 0 18 [u0, u1, u2, some (.inl v3), u4] [] h))
  exact ⟨k1, k2⟩

theorem bX11_given_18 {d : Nat} {Q : Option MV → MH → Prop} {h : MH} {u0 u1 u2 u3 u4 : Option MV} (k : Q (some (.inl (-(nI 3)))) h) : J mX11_given d 0 0 Q 0 0 18 [u0, u1, u2, u3, u4] [] h := by
  refine zrun 10 1 qX11_given (o := 11) rfl ?_
  show J mX11_given d 0 0 Q 0 0 20 [u0, u1, u2, u3, u4] [.inl (-(nI 3))] h
  exact J_iret (ty := .int) (zat qX11_given 11 (by rfl)) rfl rfl (Nat.le_refl 0) (Nat.le_refl 0) k

theorem bX11_given_21 {d d' : Nat} {Q : Option MV → MH → Prop} {h : MH} {u4 : Option MV} {v3 v1 v2 : Int32} (hr : zRf h) (hd : d' + 1 ≤ d) (k : Con mX11_seeks d' 0 0 [.inr (.inr 111), .inl v1, .inl v2, .inl (nI 6)] (zsI (zsI h 111 39 v3) 111 48 (nI 0)) (zrv fun h' => J mX11_given d 0 0 Q 0 0 39 [some (.inr (.inr 111)), some (.inl v1), some (.inl v2), some (.inl v3), u4] [] h')) : J mX11_given d 0 0 Q 0 0 21 [some (.inr (.inr 111)), some (.inl v1), some (.inl v2), some (.inl v3), u4] [] h := by
  refine zrun 12 10 qX11_given (o := 11) rfl ?_
  show zokO h 111 11 ∧ zokO (zsI h 111 39 v3) 111 11 ∧ J mX11_given d 0 0 Q 0 0 36 [some (.inr (.inr 111)), some (.inl v1), some (.inl v2), some (.inl v3), u4] [.inl (nI 6), .inl v2, .inl v1, .inr (.inr 111)] (zsI (zsI h 111 39 v3) 111 48 (nI 0))
  exact ⟨(zo hr (by decide) rfl), (zo hr (by decide) rfl), zcVv (as := [.inl v1, .inl v2, .inl (nI 6)]) (zat qX11_given 22 (by rfl)) l11_327 rfl hd rfl (Nat.le_of_ble_eq_true rfl) zle0 (ci := 11) (by decide) rfl (show zokO _ _ _ from (zo hr (by decide) rfl)) k⟩

theorem bX11_given_39 {d : Nat} {Q : Option MV → MH → Prop} {h : MH} {u1 u2 u3 u4 : Option MV} (hr : zRf h) (k1 : ¬ (h.1 111 48) = 0 → J mX11_given d 0 0 Q 0 0 48 [some (.inr (.inr 111)), u1, u2, u3, u4] [] h) (k2 : (h.1 111 48) = 0 → J mX11_given d 0 0 Q 0 0 46 [some (.inr (.inr 111)), u1, u2, u3, u4] [] h) : J mX11_given d 0 0 Q 0 0 39 [some (.inr (.inr 111)), u1, u2, u3, u4] [] h := by
  refine zrun 23 3 qX11_given (o := 11) rfl ?_
  show zokO h 111 11 ∧ ((¬ (h.1 111 48) = 0 → J mX11_given d 0 0 Q 0 0 48 [some (.inr (.inr 111)), u1, u2, u3, u4] [] h) ∧ ((h.1 111 48) = 0 → J mX11_given d 0 0 Q 0 0 46 [some (.inr (.inr 111)), u1, u2, u3, u4] [] h))
  exact ⟨(zo hr (by decide) rfl), k1, k2⟩

theorem bX11_given_46 {d : Nat} {Q : Option MV → MH → Prop} {h : MH} {u0 u1 u2 u3 u4 : Option MV} (k : Q (some (.inl (-(nI 1)))) h) : J mX11_given d 0 0 Q 0 0 46 [u0, u1, u2, u3, u4] [] h := by
  refine zrun 26 1 qX11_given (o := 11) rfl ?_
  show J mX11_given d 0 0 Q 0 0 47 [u0, u1, u2, u3, u4] [.inl (-(nI 1))] h
  exact J_iret (ty := .int) (zat qX11_given 27 (by rfl)) rfl rfl (Nat.le_refl 0) (Nat.le_refl 0) k

theorem bX11_given_48 {d : Nat} {Q : Option MV → MH → Prop} {h : MH} {u0 u1 u2 u3 : Option MV} {v4 : Int32} (k1 : ¬ v4 = (-(nI 1)) → J mX11_given d 0 0 Q 0 0 61 [u0, u1, u2, u3, some (.inl v4)] [] h) (k2 : v4 = (-(nI 1)) → J mX11_given d 0 0 Q 0 0 54 [u0, u1, u2, u3, some (.inl v4)] [] h) : J mX11_given d 0 0 Q 0 0 48 [u0, u1, u2, u3, some (.inl v4)] [] h := by
  refine zrun 28 3 qX11_given (o := 11) rfl ?_
  show ((¬ v4 = (-(nI 1)) → J mX11_given d 0 0 Q 0 0 61 [u0, u1, u2, u3, some (.inl v4)] [] h) ∧ (v4 = (-(nI 1)) → J mX11_given d 0 0 Q 0 0 54 [u0, u1, u2, u3, some (.inl v4)] [] h))
  exact ⟨k1, k2⟩

theorem bX11_given_54 {d : Nat} {Q : Option MV → MH → Prop} {h : MH} {u1 u2 u3 u4 : Option MV} (hr : zRf h) (k : J mX11_given d 0 0 Q 0 0 89 [some (.inr (.inr 111)), u1, u2, u3, u4] [.inl (h.1 111 48)] h) : J mX11_given d 0 0 Q 0 0 54 [some (.inr (.inr 111)), u1, u2, u3, u4] [] h := by
  refine zrun 31 3 qX11_given (o := 11) rfl ?_
  show zokO h 111 11 ∧ J mX11_given d 0 0 Q 0 0 89 [some (.inr (.inr 111)), u1, u2, u3, u4] [.inl (h.1 111 48)] h
  exact ⟨(zo hr (by decide) rfl), k⟩

theorem bX11_given_61 {d d' : Nat} {Q : Option MV → MH → Prop} {h : MH} {u1 u2 u3 : Option MV} {v4 : Int32} (hr : zRf h) (hd : d' + 1 ≤ d) (k : Con mX11_within d' 0 0 [.inr (.inl v4.toInt64), .inr (.inl (lN 0)), .inr (.inl (((h.1 111 48) - (nI 1)).toInt64))] h (zri fun (x : Int32) h' => J mX11_given d 0 0 Q 0 0 75 [some (.inr (.inr 111)), u1, u2, u3, some (.inl v4)] [.inl x] h')) : J mX11_given d 0 0 Q 0 0 61 [some (.inr (.inr 111)), u1, u2, u3, some (.inl v4)] [] h := by
  refine zrun 34 8 qX11_given (o := 11) rfl ?_
  show zokO h 111 11 ∧ J mX11_given d 0 0 Q 0 0 72 [some (.inr (.inr 111)), u1, u2, u3, some (.inl v4)] [.inr (.inl (((h.1 111 48) - (nI 1)).toInt64)), .inr (.inl (lN 0)), .inr (.inl v4.toInt64)] h
  exact ⟨(zo hr (by decide) rfl), zcSi (as := [.inr (.inl v4.toInt64), .inr (.inl (lN 0)), .inr (.inl (((h.1 111 48) - (nI 1)).toInt64))]) (zat qX11_given 42 (by rfl)) l11_178 rfl hd rfl (Nat.le_of_ble_eq_true rfl) zle0 k⟩

theorem bX11_given_75 {d : Nat} {Q : Option MV → MH → Prop} {h : MH} {u0 u1 u2 u3 u4 : Option MV} {vs0 : Int32} (k1 : vs0 = 0 → J mX11_given d 0 0 Q 0 0 88 [u0, u1, u2, u3, u4] [] h) (k2 : ¬ vs0 = 0 → J mX11_given d 0 0 Q 0 0 78 [u0, u1, u2, u3, u4] [] h) : J mX11_given d 0 0 Q 0 0 75 [u0, u1, u2, u3, u4] [.inl vs0] h := by
  refine zrun 43 1 qX11_given (o := 11) rfl ?_
  show ((vs0 = 0 → J mX11_given d 0 0 Q 0 0 88 [u0, u1, u2, u3, u4] [] h) ∧ (¬ vs0 = 0 → J mX11_given d 0 0 Q 0 0 78 [u0, u1, u2, u3, u4] [] h))
  exact ⟨k1, k2⟩

theorem bX11_given_78 {d : Nat} {Q : Option MV → MH → Prop} {h : MH} {u1 u2 u3 : Option MV} {v4 : Int32} (hr : zRf h) (g0 : vp_in v4 5) (k : J mX11_given d 0 0 Q 0 0 89 [some (.inr (.inr 111)), u1, u2, u3, some (.inl v4)] [.inl (h.1 135 v4.toNatClampNeg)] h) : J mX11_given d 0 0 Q 0 0 78 [some (.inr (.inr 111)), u1, u2, u3, some (.inl v4)] [] h := by
  refine zrun 44 5 qX11_given (o := 11) rfl ?_
  show zokO h 111 11 ∧ zokA h (h.2.2.1 111 46) 20 v4 ∧ J mX11_given d 0 0 Q 0 0 89 [some (.inr (.inr 111)), u1, u2, u3, some (.inl v4)] [.inl (h.1 (h.2.2.1 111 46) v4.toNatClampNeg)] h
  rw [(show h.2.2.1 111 46 = 135 from (hr.at (by decide) (by decide) (by rfl)))]
  exact ⟨(zo hr (by decide) rfl), (zia hr (by decide) (by rfl) g0), k⟩

theorem bX11_given_88 {d : Nat} {Q : Option MV → MH → Prop} {h : MH} {u0 u1 u2 u3 u4 : Option MV} (k : J mX11_given d 0 0 Q 0 0 89 [u0, u1, u2, u3, u4] [.inl (-(nI 1))] h) : J mX11_given d 0 0 Q 0 0 88 [u0, u1, u2, u3, u4] [] h := by
  refine zrun 49 1 qX11_given (o := 11) rfl ?_
  show J mX11_given d 0 0 Q 0 0 89 [u0, u1, u2, u3, u4] [.inl (-(nI 1))] h
  exact k

theorem bX11_given_89 {d : Nat} {Q : Option MV → MH → Prop} {h : MH} {u0 u1 u2 u3 u4 : Option MV} {vs0 : Int32} (k : Q (some (.inl vs0)) h) : J mX11_given d 0 0 Q 0 0 89 [u0, u1, u2, u3, u4] [.inl vs0] h := by
  exact J_iret (ty := .int) (zat qX11_given 50 (by rfl)) rfl rfl (Nat.le_refl 0) (Nat.le_refl 0) k

theorem bX11_lacks_0 {d d' : Nat} {Q : Option MV → MH → Prop} {h : MH} {u2 u3 u4 u5 u6 u7 u8 : Option MV} {v1 : Int32} (hr : zRf h) (hd : d' + 1 ≤ d) (k : Con mX11_isSet d' 0 0 [.inr (.inr 111), .inl v1] (zsI h 111 0 (nI 0)) (zri fun (x : Int32) h' => J mX11_lacks d 0 0 Q 0 0 10 [some (.inr (.inr 111)), some (.inl v1), u2, u3, u4, u5, u6, u7, u8] [.inl x] h')) : J mX11_lacks d 0 0 Q 0 0 0 [some (.inr (.inr 111)), some (.inl v1), u2, u3, u4, u5, u6, u7, u8] [] h := by
  refine zrun 0 5 qX11_lacks (o := 11) rfl ?_
  show zokO h 111 11 ∧ J mX11_lacks d 0 0 Q 0 0 7 [some (.inr (.inr 111)), some (.inl v1), u2, u3, u4, u5, u6, u7, u8] [.inl v1, .inr (.inr 111)] (zsI h 111 0 (nI 0))
  exact ⟨(zo hr (by decide) rfl), zcVi (as := [.inl v1]) (zat qX11_lacks 5 (by rfl)) l11_334 rfl hd rfl (Nat.le_of_ble_eq_true rfl) zle0 (ci := 11) (by decide) rfl (show zokO _ _ _ from (zo hr (by decide) rfl)) k⟩

theorem bX11_lacks_10 {d : Nat} {Q : Option MV → MH → Prop} {h : MH} {u0 u1 u2 u3 u4 u5 u6 u7 u8 : Option MV} {vs0 : Int32} (k1 : vs0 = 0 → J mX11_lacks d 0 0 Q 0 0 19 [u0, u1, u2, u3, u4, u5, u6, u7, u8] [] h) (k2 : ¬ vs0 = 0 → J mX11_lacks d 0 0 Q 0 0 13 [u0, u1, u2, u3, u4, u5, u6, u7, u8] [] h) : J mX11_lacks d 0 0 Q 0 0 10 [u0, u1, u2, u3, u4, u5, u6, u7, u8] [.inl vs0] h := by
  refine zrun 6 1 qX11_lacks (o := 11) rfl ?_
  show ((vs0 = 0 → J mX11_lacks d 0 0 Q 0 0 19 [u0, u1, u2, u3, u4, u5, u6, u7, u8] [] h) ∧ (¬ vs0 = 0 → J mX11_lacks d 0 0 Q 0 0 13 [u0, u1, u2, u3, u4, u5, u6, u7, u8] [] h))
  exact ⟨k1, k2⟩

theorem bX11_lacks_13 {d : Nat} {Q : Option MV → MH → Prop} {h : MH} {u0 u1 u2 u4 u5 u6 u7 u8 : Option MV} {v3 : Int32} (k1 : (nI 64) ≤ v3 → J mX11_lacks d 0 0 Q 0 0 22 [u0, u1, u2, some (.inl v3), u4, u5, u6, u7, u8] [] h) (k2 : ¬ (nI 64) ≤ v3 → J mX11_lacks d 0 0 Q 0 0 19 [u0, u1, u2, some (.inl v3), u4, u5, u6, u7, u8] [] h) : J mX11_lacks d 0 0 Q 0 0 13 [u0, u1, u2, some (.inl v3), u4, u5, u6, u7, u8] [] h := by
  refine zrun 7 3 qX11_lacks (o := 11) rfl ?_
  show (((nI 64) ≤ v3 → J mX11_lacks d 0 0 Q 0 0 22 [u0, u1, u2, some (.inl v3), u4, u5, u6, u7, u8] [] h) ∧ (¬ (nI 64) ≤ v3 → J mX11_lacks d 0 0 Q 0 0 19 [u0, u1, u2, some (.inl v3), u4, u5, u6, u7, u8] [] h))
  exact ⟨k1, k2⟩

theorem bX11_lacks_19 {d : Nat} {Q : Option MV → MH → Prop} {h : MH} {u0 u1 u2 u3 u4 u5 u6 u7 u8 : Option MV} (k : Q (some (.inl (-(nI 3)))) h) : J mX11_lacks d 0 0 Q 0 0 19 [u0, u1, u2, u3, u4, u5, u6, u7, u8] [] h := by
  refine zrun 10 1 qX11_lacks (o := 11) rfl ?_
  show J mX11_lacks d 0 0 Q 0 0 21 [u0, u1, u2, u3, u4, u5, u6, u7, u8] [.inl (-(nI 3))] h
  exact J_iret (ty := .int) (zat qX11_lacks 11 (by rfl)) rfl rfl (Nat.le_refl 0) (Nat.le_refl 0) k

theorem bX11_lacks_22 {d d' : Nat} {Q : Option MV → MH → Prop} {h : MH} {u3 u4 u5 u6 u7 u8 : Option MV} {v1 v2 : Int32} (hr : zRf h) (hd : d' + 1 ≤ d) (k : Con mX11_laysTimes d' 0 0 [.inr (.inr 111), .inl v1, .inl v2] h (zrv fun h' => J mX11_lacks d 0 0 Q 0 0 28 [some (.inr (.inr 111)), some (.inl v1), some (.inl v2), u3, u4, u5, u6, u7, u8] [] h')) : J mX11_lacks d 0 0 Q 0 0 22 [some (.inr (.inr 111)), some (.inl v1), some (.inl v2), u3, u4, u5, u6, u7, u8] [] h := by
  refine zrun 12 3 qX11_lacks (o := 11) rfl ?_
  show J mX11_lacks d 0 0 Q 0 0 25 [some (.inr (.inr 111)), some (.inl v1), some (.inl v2), u3, u4, u5, u6, u7, u8] [.inl v2, .inl v1, .inr (.inr 111)] h
  exact zcVv (as := [.inl v1, .inl v2]) (zat qX11_lacks 15 (by rfl)) l11_341 rfl hd rfl (Nat.le_of_ble_eq_true rfl) zle0 (ci := 11) (by decide) rfl (zo hr (by decide) rfl) k

theorem bX11_lacks_28 {d : Nat} {Q : Option MV → MH → Prop} {h : MH} {u0 u1 u2 u3 u5 u6 u7 u8 : Option MV} {v4 : Int32} (k : J mX11_lacks d 0 0 Q 0 0 34 [u0, u1, u2, u3, some (.inl v4), some (.inl (nI 0)), some (.inl (nI 0)), u7, u8] [] h) : J mX11_lacks d 0 0 Q 0 0 28 [u0, u1, u2, u3, some (.inl v4), u5, u6, u7, u8] [] h := by
  refine zrun 16 4 qX11_lacks (o := 11) rfl ?_
  show J mX11_lacks d 0 0 Q 0 0 34 [u0, u1, u2, u3, some (.inl v4), some (.inl (nI 0)), some (.inl (nI 0)), u7, u8] [] h
  exact k

theorem bX11_lacks_34 {d : Nat} {Q : Option MV → MH → Prop} {h : MH} {u1 u2 u3 u4 u5 u7 u8 : Option MV} {v6 : Int32} (hr : zRf h) (k1 : (h.1 111 38) ≤ v6 → J mX11_lacks d 0 0 Q 0 0 61 [some (.inr (.inr 111)), u1, u2, u3, u4, u5, some (.inl v6), u7, u8] [] h) (k2 : ¬ (h.1 111 38) ≤ v6 → J mX11_lacks d 0 0 Q 0 0 43 [some (.inr (.inr 111)), u1, u2, u3, u4, u5, some (.inl v6), u7, u8] [] h) : J mX11_lacks d 0 0 Q 0 0 34 [some (.inr (.inr 111)), u1, u2, u3, u4, u5, some (.inl v6), u7, u8] [] h := by
  refine zrun 20 4 qX11_lacks (o := 11) rfl ?_
  show zokO h 111 11 ∧ (((h.1 111 38) ≤ v6 → J mX11_lacks d 0 0 Q 0 0 61 [some (.inr (.inr 111)), u1, u2, u3, u4, u5, some (.inl v6), u7, u8] [] h) ∧ (¬ (h.1 111 38) ≤ v6 → J mX11_lacks d 0 0 Q 0 0 43 [some (.inr (.inr 111)), u1, u2, u3, u4, u5, some (.inl v6), u7, u8] [] h))
  exact ⟨(zo hr (by decide) rfl), k1, k2⟩

theorem bX11_lacks_43 {d : Nat} {Q : Option MV → MH → Prop} {h : MH} {u1 u2 u3 u7 u8 : Option MV} {v5 v6 v4 : Int32} (hr : zRf h) (g0 : vp_in v6 20) (k : J mX11_lacks d 0 0 Q 0 0 34 [some (.inr (.inr 111)), u1, u2, u3, some (.inl v4), some (.inl (v5 + (h.1 128 v6.toNatClampNeg))), some (.inl (v6 + nI 1)), u7, u8] [] h) : J mX11_lacks d 0 0 Q 0 0 43 [some (.inr (.inr 111)), u1, u2, u3, some (.inl v4), some (.inl v5), some (.inl v6), u7, u8] [] h := by
  refine zrun 24 9 qX11_lacks (o := 11) rfl ?_
  show zokO h 111 11 ∧ zokA h (h.2.2.1 111 34) 20 v6 ∧ J mX11_lacks d 0 0 Q 0 0 34 [some (.inr (.inr 111)), u1, u2, u3, some (.inl v4), some (.inl (v5 + (h.1 (h.2.2.1 111 34) v6.toNatClampNeg))), some (.inl (v6 + nI 1)), u7, u8] [] h
  rw [(show h.2.2.1 111 34 = 128 from (hr.at (by decide) (by decide) (by rfl)))]
  exact ⟨(zo hr (by decide) rfl), (zia hr (by decide) (by rfl) g0), k⟩

theorem bX11_lacks_61 {d : Nat} {Q : Option MV → MH → Prop} {h : MH} {u0 u1 u2 u4 u6 u7 u8 : Option MV} {v5 v3 : Int32} (k : J mX11_lacks d 0 0 Q 0 0 68 [u0, u1, u2, some (.inl v3), u4, some (.inl v5), some (.inl (nI 0)), some (.inr (.inl v3.toInt64)), none] [] h) : J mX11_lacks d 0 0 Q 0 0 61 [u0, u1, u2, some (.inl v3), u4, some (.inl v5), u6, u7, u8] [] h := by
  refine zrun 33 5 qX11_lacks (o := 11) rfl ?_
  show J mX11_lacks d 0 0 Q 0 0 68 [u0, u1, u2, some (.inl v3), u4, some (.inl v5), some (.inl (nI 0)), some (.inr (.inl v3.toInt64)), none] [] h
  exact k

theorem bX11_lacks_68 {d : Nat} {Q : Option MV → MH → Prop} {h : MH} {u0 u1 u2 u3 u4 u6 u8 : Option MV} {v5 : Int32} {v7 : Int64} (k1 : 0 < (lg_cmp v7 v5.toInt64) → J mX11_lacks d 0 0 Q 0 0 114 [u0, u1, u2, u3, u4, some (.inl v5), u6, some (.inr (.inl v7)), u8] [] h) (k2 : ¬ 0 < (lg_cmp v7 v5.toInt64) → J mX11_lacks d 0 0 Q 0 0 77 [u0, u1, u2, u3, u4, some (.inl v5), u6, some (.inr (.inl v7)), u8] [] h) : J mX11_lacks d 0 0 Q 0 0 68 [u0, u1, u2, u3, u4, some (.inl v5), u6, some (.inr (.inl v7)), u8] [] h := by
  refine zrun 38 5 qX11_lacks (o := 11) rfl ?_
  show ((0 < (lg_cmp v7 v5.toInt64) → J mX11_lacks d 0 0 Q 0 0 114 [u0, u1, u2, u3, u4, some (.inl v5), u6, some (.inr (.inl v7)), u8] [] h) ∧ (¬ 0 < (lg_cmp v7 v5.toInt64) → J mX11_lacks d 0 0 Q 0 0 77 [u0, u1, u2, u3, u4, some (.inl v5), u6, some (.inr (.inl v7)), u8] [] h))
  exact ⟨k1, k2⟩

theorem bX11_lacks_77 {d d' : Nat} {Q : Option MV → MH → Prop} {h : MH} {u1 u2 u3 u4 u5 u6 u8 : Option MV} {v7 : Int64} (hr : zRf h) (hd : d' + 1 ≤ d) (k : Con mX11_isTime d' 0 0 [.inr (.inr 111), .inl v7.toInt32] h (zri fun (x : Int32) h' => J mX11_lacks d 0 0 Q 0 0 84 [some (.inr (.inr 111)), u1, u2, u3, u4, u5, u6, some (.inr (.inl v7)), u8] [.inl x] h')) : J mX11_lacks d 0 0 Q 0 0 77 [some (.inr (.inr 111)), u1, u2, u3, u4, u5, u6, some (.inr (.inl v7)), u8] [] h := by
  refine zrun 43 3 qX11_lacks (o := 11) rfl ?_
  show J mX11_lacks d 0 0 Q 0 0 81 [some (.inr (.inr 111)), u1, u2, u3, u4, u5, u6, some (.inr (.inl v7)), u8] [.inl v7.toInt32, .inr (.inr 111)] h
  exact zcVi (as := [.inl v7.toInt32]) (zat qX11_lacks 46 (by rfl)) l11_324 rfl hd rfl (Nat.le_of_ble_eq_true rfl) zle0 (ci := 11) (by decide) rfl (zo hr (by decide) rfl) k

theorem bX11_lacks_84 {d : Nat} {Q : Option MV → MH → Prop} {h : MH} {u0 u1 u2 u3 u4 u5 u6 u7 u8 : Option MV} {vs0 : Int32} (k1 : vs0 = 0 → J mX11_lacks d 0 0 Q 0 0 90 [u0, u1, u2, u3, u4, u5, u6, u7, u8] [] h) (k2 : ¬ vs0 = 0 → J mX11_lacks d 0 0 Q 0 0 87 [u0, u1, u2, u3, u4, u5, u6, u7, u8] [] h) : J mX11_lacks d 0 0 Q 0 0 84 [u0, u1, u2, u3, u4, u5, u6, u7, u8] [.inl vs0] h := by
  refine zrun 47 1 qX11_lacks (o := 11) rfl ?_
  show ((vs0 = 0 → J mX11_lacks d 0 0 Q 0 0 90 [u0, u1, u2, u3, u4, u5, u6, u7, u8] [] h) ∧ (¬ vs0 = 0 → J mX11_lacks d 0 0 Q 0 0 87 [u0, u1, u2, u3, u4, u5, u6, u7, u8] [] h))
  exact ⟨k1, k2⟩

theorem bX11_lacks_87 {d : Nat} {Q : Option MV → MH → Prop} {h : MH} {u0 u1 u2 u3 u4 u5 u6 u7 u8 : Option MV} (k : J mX11_lacks d 0 0 Q 0 0 104 [u0, u1, u2, u3, u4, u5, u6, u7, u8] [] h) : J mX11_lacks d 0 0 Q 0 0 87 [u0, u1, u2, u3, u4, u5, u6, u7, u8] [] h := by
  refine zrun 48 1 qX11_lacks (o := 11) rfl ?_
  show J mX11_lacks d 0 0 Q 0 0 104 [u0, u1, u2, u3, u4, u5, u6, u7, u8] [] h
  exact k

theorem bX11_lacks_90 {d : Nat} {Q : Option MV → MH → Prop} {h : MH} {u0 u1 u2 u3 u5 u7 u8 : Option MV} {v6 v4 : Int32} (k1 : ¬ v6 = v4 → J mX11_lacks d 0 0 Q 0 0 101 [u0, u1, u2, u3, some (.inl v4), u5, some (.inl v6), u7, u8] [] h) (k2 : v6 = v4 → J mX11_lacks d 0 0 Q 0 0 97 [u0, u1, u2, u3, some (.inl v4), u5, some (.inl v6), u7, u8] [] h) : J mX11_lacks d 0 0 Q 0 0 90 [u0, u1, u2, u3, some (.inl v4), u5, some (.inl v6), u7, u8] [] h := by
  refine zrun 49 3 qX11_lacks (o := 11) rfl ?_
  show ((¬ v6 = v4 → J mX11_lacks d 0 0 Q 0 0 101 [u0, u1, u2, u3, some (.inl v4), u5, some (.inl v6), u7, u8] [] h) ∧ (v6 = v4 → J mX11_lacks d 0 0 Q 0 0 97 [u0, u1, u2, u3, some (.inl v4), u5, some (.inl v6), u7, u8] [] h))
  exact ⟨k1, k2⟩

theorem bX11_lacks_97 {d : Nat} {Q : Option MV → MH → Prop} {h : MH} {u0 u1 u2 u3 u4 u5 u6 u8 : Option MV} {v7 : Int64} (k : Q (some (.inl v7.toInt32)) h) : J mX11_lacks d 0 0 Q 0 0 97 [u0, u1, u2, u3, u4, u5, u6, some (.inr (.inl v7)), u8] [] h := by
  refine zrun 52 2 qX11_lacks (o := 11) rfl ?_
  show J mX11_lacks d 0 0 Q 0 0 100 [u0, u1, u2, u3, u4, u5, u6, some (.inr (.inl v7)), u8] [.inl v7.toInt32] h
  exact J_iret (ty := .int) (zat qX11_lacks 54 (by rfl)) rfl rfl (Nat.le_refl 0) (Nat.le_refl 0) k

theorem bX11_lacks_101 {d : Nat} {Q : Option MV → MH → Prop} {h : MH} {u0 u1 u2 u3 u4 u7 u8 : Option MV} {v6 v5 : Int32} (k : J mX11_lacks d 0 0 Q 0 0 104 [u0, u1, u2, u3, u4, some (.inl v5), some (.inl (v6 + nI 1)), u7, u8] [] h) : J mX11_lacks d 0 0 Q 0 0 101 [u0, u1, u2, u3, u4, some (.inl v5), some (.inl v6), u7, u8] [] h := by
  refine zrun 55 1 qX11_lacks (o := 11) rfl ?_
  show J mX11_lacks d 0 0 Q 0 0 104 [u0, u1, u2, u3, u4, some (.inl v5), some (.inl (v6 + nI 1)), u7, u8] [] h
  exact k

theorem bX11_lacks_104 {d : Nat} {Q : Option MV → MH → Prop} {h : MH} {u0 u1 u2 u4 u5 u8 : Option MV} {v3 v6 : Int32} {v7 : Int64} (k : J mX11_lacks d 0 0 Q 0 0 68 [u0, u1, u2, some (.inl v3), u4, u5, some (.inl v6), some (.inr (.inl (v7 + v3.toInt64))), none] [] h) : J mX11_lacks d 0 0 Q 0 0 104 [u0, u1, u2, some (.inl v3), u4, u5, some (.inl v6), some (.inr (.inl v7)), u8] [] h := by
  refine zrun 56 6 qX11_lacks (o := 11) rfl ?_
  show J mX11_lacks d 0 0 Q 0 0 68 [u0, u1, u2, some (.inl v3), u4, u5, some (.inl v6), some (.inr (.inl (v7 + v3.toInt64))), none] [] h
  exact k

theorem bX11_lacks_114 {d : Nat} {Q : Option MV → MH → Prop} {h : MH} {u0 u1 u2 u3 u5 u6 u7 u8 : Option MV} {v4 : Int32} (k1 : ¬ v4 = (-(nI 1)) → J mX11_lacks d 0 0 Q 0 0 125 [u0, u1, u2, u3, some (.inl v4), u5, u6, u7, u8] [] h) (k2 : v4 = (-(nI 1)) → J mX11_lacks d 0 0 Q 0 0 120 [u0, u1, u2, u3, some (.inl v4), u5, u6, u7, u8] [] h) : J mX11_lacks d 0 0 Q 0 0 114 [u0, u1, u2, u3, some (.inl v4), u5, u6, u7, u8] [] h := by
  refine zrun 62 3 qX11_lacks (o := 11) rfl ?_
  show ((¬ v4 = (-(nI 1)) → J mX11_lacks d 0 0 Q 0 0 125 [u0, u1, u2, u3, some (.inl v4), u5, u6, u7, u8] [] h) ∧ (v4 = (-(nI 1)) → J mX11_lacks d 0 0 Q 0 0 120 [u0, u1, u2, u3, some (.inl v4), u5, u6, u7, u8] [] h))
  exact ⟨k1, k2⟩

theorem bX11_lacks_120 {d : Nat} {Q : Option MV → MH → Prop} {h : MH} {u0 u1 u2 u3 u4 u5 u7 u8 : Option MV} {v6 : Int32} (k : J mX11_lacks d 0 0 Q 0 0 126 [u0, u1, u2, u3, u4, u5, some (.inl v6), u7, u8] [.inl v6] h) : J mX11_lacks d 0 0 Q 0 0 120 [u0, u1, u2, u3, u4, u5, some (.inl v6), u7, u8] [] h := by
  refine zrun 65 2 qX11_lacks (o := 11) rfl ?_
  show J mX11_lacks d 0 0 Q 0 0 126 [u0, u1, u2, u3, u4, u5, some (.inl v6), u7, u8] [.inl v6] h
  exact k

theorem bX11_lacks_125 {d : Nat} {Q : Option MV → MH → Prop} {h : MH} {u0 u1 u2 u3 u4 u5 u6 u7 u8 : Option MV} (k : J mX11_lacks d 0 0 Q 0 0 126 [u0, u1, u2, u3, u4, u5, u6, u7, u8] [.inl (-(nI 1))] h) : J mX11_lacks d 0 0 Q 0 0 125 [u0, u1, u2, u3, u4, u5, u6, u7, u8] [] h := by
  refine zrun 67 1 qX11_lacks (o := 11) rfl ?_
  show J mX11_lacks d 0 0 Q 0 0 126 [u0, u1, u2, u3, u4, u5, u6, u7, u8] [.inl (-(nI 1))] h
  exact k

theorem bX11_lacks_126 {d : Nat} {Q : Option MV → MH → Prop} {h : MH} {u0 u1 u2 u3 u4 u5 u6 u7 u8 : Option MV} {vs0 : Int32} (k : Q (some (.inl vs0)) h) : J mX11_lacks d 0 0 Q 0 0 126 [u0, u1, u2, u3, u4, u5, u6, u7, u8] [.inl vs0] h := by
  exact J_iret (ty := .int) (zat qX11_lacks 68 (by rfl)) rfl rfl (Nat.le_refl 0) (Nat.le_refl 0) k

theorem bX11_wants_0 {d : Nat} {Q : Option MV → MH → Prop} {h : MH} {u2 : Option MV} {v1 : Int32} (hr : zRf h) (g0 : vp_in v1 4) (k : J mX11_wants d 0 0 Q 0 0 12 [some (.inr (.inr 111)), some (.inl v1), some (.inl (nI 0))] [] (zsI h 111 47 (h.1 141 v1.toNatClampNeg))) : J mX11_wants d 0 0 Q 0 0 0 [some (.inr (.inr 111)), some (.inl v1), u2] [] h := by
  refine zrun 0 8 qX11_wants (o := 11) rfl ?_
  show zokO h 111 11 ∧ zokA h (h.2.2.1 111 54) 20 v1 ∧ zokO h 111 11 ∧ J mX11_wants d 0 0 Q 0 0 12 [some (.inr (.inr 111)), some (.inl v1), some (.inl (nI 0))] [] (zsI h 111 47 (h.1 (h.2.2.1 111 54) v1.toNatClampNeg))
  rw [(show h.2.2.1 111 54 = 141 from (hr.at (by decide) (by decide) (by rfl)))]
  exact ⟨(zo hr (by decide) rfl), (zia hr (by decide) (by rfl) g0), (zo hr (by decide) rfl), k⟩

theorem bX11_wants_12 {d : Nat} {Q : Option MV → MH → Prop} {h : MH} {u1 : Option MV} {v2 : Int32} (hr : zRf h) (k1 : (h.1 111 47) ≤ v2 → J mX11_wants d 0 0 Q 0 0 69 [some (.inr (.inr 111)), u1, some (.inl v2)] [] h) (k2 : ¬ (h.1 111 47) ≤ v2 → J mX11_wants d 0 0 Q 0 0 20 [some (.inr (.inr 111)), u1, some (.inl v2)] [] h) : J mX11_wants d 0 0 Q 0 0 12 [some (.inr (.inr 111)), u1, some (.inl v2)] [] h := by
  refine zrun 8 4 qX11_wants (o := 11) rfl ?_
  show zokO h 111 11 ∧ (((h.1 111 47) ≤ v2 → J mX11_wants d 0 0 Q 0 0 69 [some (.inr (.inr 111)), u1, some (.inl v2)] [] h) ∧ (¬ (h.1 111 47) ≤ v2 → J mX11_wants d 0 0 Q 0 0 20 [some (.inr (.inr 111)), u1, some (.inl v2)] [] h))
  exact ⟨(zo hr (by decide) rfl), k1, k2⟩

theorem bX11_wants_20 {d d' : Nat} {Q : Option MV → MH → Prop} {h : MH} {v2 v1 : Int32} (hr : zRf h) (g0 : vp_in (((nI 40) * v1) + v2) 160) (hd : d' + 1 ≤ d) (k : Con mX11_within d' 0 0 [.inr (.inl (h.2.1 142 (((nI 40) * v1) + v2).toNatClampNeg)), .inr (.inl (lN 1)), .inr (.inl (1000000 : Int64))] h (zri fun (x : Int32) h' => J mX11_wants d 0 0 Q 0 0 43 [some (.inr (.inr 111)), some (.inl v1), some (.inl v2)] [.inl x, .inl v2, .inr (.inr 133)] h')) : J mX11_wants d 0 0 Q 0 0 20 [some (.inr (.inr 111)), some (.inl v1), some (.inl v2)] [] h := by
  refine zrun 12 13 qX11_wants (o := 11) rfl ?_
  show zokO h 111 11 ∧ zokO h 111 11 ∧ zokA h (h.2.2.1 111 55) 21 (((nI 40) * v1) + v2) ∧ J mX11_wants d 0 0 Q 0 0 40 [some (.inr (.inr 111)), some (.inl v1), some (.inl v2)] [.inr (.inl (1000000 : Int64)), .inr (.inl (lN 1)), .inr (.inl (h.2.1 (h.2.2.1 111 55) (((nI 40) * v1) + v2).toNatClampNeg)), .inl v2, .inr (.inr (h.2.2.1 111 44))] h
  rw [(show h.2.2.1 111 44 = 133 from (hr.at (by decide) (by decide) (by rfl))), (show h.2.2.1 111 55 = 142 from (hr.at (by decide) (by decide) (by rfl)))]
  exact ⟨(zo hr (by decide) rfl), (zo hr (by decide) rfl), (zia hr (by decide) (by rfl) g0), zcSi (as := [.inr (.inl (h.2.1 142 (((nI 40) * v1) + v2).toNatClampNeg)), .inr (.inl (lN 1)), .inr (.inl (1000000 : Int64))]) (zat qX11_wants 25 (by rfl)) l11_178 rfl hd rfl (Nat.le_of_ble_eq_true rfl) zle0 k⟩

theorem bX11_wants_43 {d : Nat} {Q : Option MV → MH → Prop} {h : MH} {u0 u1 u2 : Option MV} {vs1 vs2 : Int32} {vs0 : Nat} (k1 : vs2 = 0 → J mX11_wants d 0 0 Q 0 0 61 [u0, u1, u2] [.inl vs1, .inr (.inr vs0)] h) (k2 : ¬ vs2 = 0 → J mX11_wants d 0 0 Q 0 0 46 [u0, u1, u2] [.inl vs1, .inr (.inr vs0)] h) : J mX11_wants d 0 0 Q 0 0 43 [u0, u1, u2] [.inl vs2, .inl vs1, .inr (.inr vs0)] h := by
  refine zrun 26 1 qX11_wants (o := 11) rfl ?_
  show ((vs2 = 0 → J mX11_wants d 0 0 Q 0 0 61 [u0, u1, u2] [.inl vs1, .inr (.inr vs0)] h) ∧ (¬ vs2 = 0 → J mX11_wants d 0 0 Q 0 0 46 [u0, u1, u2] [.inl vs1, .inr (.inr vs0)] h))
  exact ⟨k1, k2⟩

theorem bX11_wants_46 {d : Nat} {Q : Option MV → MH → Prop} {h : MH} {vs1 v1 v2 : Int32} {vs0 : Nat} (hr : zRf h) (g0 : vp_in (((nI 40) * v1) + v2) 160) (k : J mX11_wants d 0 0 Q 0 0 62 [some (.inr (.inr 111)), some (.inl v1), some (.inl v2)] [.inl ((h.2.1 142 (((nI 40) * v1) + v2).toNatClampNeg).toInt32), .inl vs1, .inr (.inr vs0)] h) : J mX11_wants d 0 0 Q 0 0 46 [some (.inr (.inr 111)), some (.inl v1), some (.inl v2)] [.inl vs1, .inr (.inr vs0)] h := by
  refine zrun 27 10 qX11_wants (o := 11) rfl ?_
  show zokO h 111 11 ∧ zokA h (h.2.2.1 111 55) 21 (((nI 40) * v1) + v2) ∧ J mX11_wants d 0 0 Q 0 0 62 [some (.inr (.inr 111)), some (.inl v1), some (.inl v2)] [.inl ((h.2.1 (h.2.2.1 111 55) (((nI 40) * v1) + v2).toNatClampNeg).toInt32), .inl vs1, .inr (.inr vs0)] h
  rw [(show h.2.2.1 111 55 = 142 from (hr.at (by decide) (by decide) (by rfl)))]
  exact ⟨(zo hr (by decide) rfl), (zia hr (by decide) (by rfl) g0), k⟩

theorem bX11_wants_61 {d : Nat} {Q : Option MV → MH → Prop} {h : MH} {u0 u1 u2 : Option MV} {vs1 : Int32} {vs0 : Nat} (k : J mX11_wants d 0 0 Q 0 0 62 [u0, u1, u2] [.inl (-(nI 1)), .inl vs1, .inr (.inr vs0)] h) : J mX11_wants d 0 0 Q 0 0 61 [u0, u1, u2] [.inl vs1, .inr (.inr vs0)] h := by
  refine zrun 37 1 qX11_wants (o := 11) rfl ?_
  show J mX11_wants d 0 0 Q 0 0 62 [u0, u1, u2] [.inl (-(nI 1)), .inl vs1, .inr (.inr vs0)] h
  exact k

theorem bX11_wants_62 {d : Nat} {Q : Option MV → MH → Prop} {h : MH} {u0 : Option MV} {vs1 vs2 v2 v1 : Int32} {vs0 : Nat} (g0 : zokA h vs0 20 vs1) (k : J mX11_wants d 0 0 Q 0 0 12 [u0, some (.inl v1), some (.inl (v2 + nI 1))] [] (zsI h vs0 vs1.toNatClampNeg vs2)) : J mX11_wants d 0 0 Q 0 0 62 [u0, some (.inl v1), some (.inl v2)] [.inl vs2, .inl vs1, .inr (.inr vs0)] h := by
  refine zrun 38 3 qX11_wants (o := 11) rfl ?_
  show zokA h vs0 20 vs1 ∧ J mX11_wants d 0 0 Q 0 0 12 [u0, some (.inl v1), some (.inl (v2 + nI 1))] [] (zsI h vs0 vs1.toNatClampNeg vs2)
  exact ⟨g0, k⟩

theorem bX11_wants_69 {d : Nat} {Q : Option MV → MH → Prop} {h : MH} {u0 u1 u2 : Option MV} (k : Q none h) : J mX11_wants d 0 0 Q 0 0 69 [u0, u1, u2] [] h := by
  exact J_vret (zat qX11_wants 41 (by rfl)) rfl (Nat.le_refl 0) (Nat.le_refl 0) k

theorem bX11_areTogether_0 {d : Nat} {Q : Option MV → MH → Prop} {h : MH} {u1 u2 : Option MV} (hr : zRf h) (k1 : ¬ (h.1 111 47) = 0 → J mX11_areTogether d 0 0 Q 0 0 12 [some (.inr (.inr 111)), u1, u2] [.inr (.inr 111)] h) (k2 : (h.1 111 47) = 0 → J mX11_areTogether d 0 0 Q 0 0 8 [some (.inr (.inr 111)), u1, u2] [.inr (.inr 111)] h) : J mX11_areTogether d 0 0 Q 0 0 0 [some (.inr (.inr 111)), u1, u2] [] h := by
  refine zrun 0 4 qX11_areTogether (o := 11) rfl ?_
  show zokO h 111 11 ∧ ((¬ (h.1 111 47) = 0 → J mX11_areTogether d 0 0 Q 0 0 12 [some (.inr (.inr 111)), u1, u2] [.inr (.inr 111)] h) ∧ ((h.1 111 47) = 0 → J mX11_areTogether d 0 0 Q 0 0 8 [some (.inr (.inr 111)), u1, u2] [.inr (.inr 111)] h))
  exact ⟨(zo hr (by decide) rfl), k1, k2⟩

theorem bX11_areTogether_8 {d : Nat} {Q : Option MV → MH → Prop} {h : MH} {u0 u1 u2 : Option MV} (k : J mX11_areTogether d 0 0 Q 0 0 13 [u0, u1, u2] [.inl (nI 1), .inr (.inr 111)] h) : J mX11_areTogether d 0 0 Q 0 0 8 [u0, u1, u2] [.inr (.inr 111)] h := by
  refine zrun 4 2 qX11_areTogether (o := 11) rfl ?_
  show J mX11_areTogether d 0 0 Q 0 0 13 [u0, u1, u2] [.inl (nI 1), .inr (.inr 111)] h
  exact k

theorem bX11_areTogether_12 {d : Nat} {Q : Option MV → MH → Prop} {h : MH} {u0 u1 u2 : Option MV} (k : J mX11_areTogether d 0 0 Q 0 0 13 [u0, u1, u2] [.inl (nI 0), .inr (.inr 111)] h) : J mX11_areTogether d 0 0 Q 0 0 12 [u0, u1, u2] [.inr (.inr 111)] h := by
  refine zrun 6 1 qX11_areTogether (o := 11) rfl ?_
  show J mX11_areTogether d 0 0 Q 0 0 13 [u0, u1, u2] [.inl (nI 0), .inr (.inr 111)] h
  exact k

theorem bX11_areTogether_13 {d d' : Nat} {Q : Option MV → MH → Prop} {h : MH} {vs1 v1 v2 : Int32} (hr : zRf h) (hd : d' + 1 ≤ d) (k : Con mX11_seeks d' 0 0 [.inr (.inr 111), .inl v1, .inl v2, .inl (nI 3)] (zsI h 111 41 vs1) (zrv fun h' => J mX11_areTogether d 0 0 Q 0 0 23 [some (.inr (.inr 111)), some (.inl v1), some (.inl v2)] [] h')) : J mX11_areTogether d 0 0 Q 0 0 13 [some (.inr (.inr 111)), some (.inl v1), some (.inl v2)] [.inl vs1, .inr (.inr 111)] h := by
  refine zrun 7 5 qX11_areTogether (o := 11) rfl ?_
  show zokO h 111 11 ∧ J mX11_areTogether d 0 0 Q 0 0 20 [some (.inr (.inr 111)), some (.inl v1), some (.inl v2)] [.inl (nI 3), .inl v2, .inl v1, .inr (.inr 111)] (zsI h 111 41 vs1)
  exact ⟨(zo hr (by decide) rfl), zcVv (as := [.inl v1, .inl v2, .inl (nI 3)]) (zat qX11_areTogether 12 (by rfl)) l11_327 rfl hd rfl (Nat.le_of_ble_eq_true rfl) zle0 (ci := 11) (by decide) rfl (show zokO _ _ _ from (zo hr (by decide) rfl)) k⟩

theorem bX11_areTogether_23 {d : Nat} {Q : Option MV → MH → Prop} {h : MH} {u1 u2 : Option MV} (hr : zRf h) (k1 : ¬ (h.1 111 41) = (nI 1) → J mX11_areTogether d 0 0 Q 0 0 35 [some (.inr (.inr 111)), u1, u2] [] h) (k2 : (h.1 111 41) = (nI 1) → J mX11_areTogether d 0 0 Q 0 0 31 [some (.inr (.inr 111)), u1, u2] [] h) : J mX11_areTogether d 0 0 Q 0 0 23 [some (.inr (.inr 111)), u1, u2] [] h := by
  refine zrun 13 4 qX11_areTogether (o := 11) rfl ?_
  show zokO h 111 11 ∧ ((¬ (h.1 111 41) = (nI 1) → J mX11_areTogether d 0 0 Q 0 0 35 [some (.inr (.inr 111)), u1, u2] [] h) ∧ ((h.1 111 41) = (nI 1) → J mX11_areTogether d 0 0 Q 0 0 31 [some (.inr (.inr 111)), u1, u2] [] h))
  exact ⟨(zo hr (by decide) rfl), k1, k2⟩

theorem bX11_areTogether_31 {d : Nat} {Q : Option MV → MH → Prop} {h : MH} {u0 u1 u2 : Option MV} (k : J mX11_areTogether d 0 0 Q 0 0 36 [u0, u1, u2] [.inl (nI 1)] h) : J mX11_areTogether d 0 0 Q 0 0 31 [u0, u1, u2] [] h := by
  refine zrun 17 2 qX11_areTogether (o := 11) rfl ?_
  show J mX11_areTogether d 0 0 Q 0 0 36 [u0, u1, u2] [.inl (nI 1)] h
  exact k

theorem bX11_areTogether_35 {d : Nat} {Q : Option MV → MH → Prop} {h : MH} {u0 u1 u2 : Option MV} (k : J mX11_areTogether d 0 0 Q 0 0 36 [u0, u1, u2] [.inl (nI 0)] h) : J mX11_areTogether d 0 0 Q 0 0 35 [u0, u1, u2] [] h := by
  refine zrun 19 1 qX11_areTogether (o := 11) rfl ?_
  show J mX11_areTogether d 0 0 Q 0 0 36 [u0, u1, u2] [.inl (nI 0)] h
  exact k

theorem bX11_areTogether_36 {d : Nat} {Q : Option MV → MH → Prop} {h : MH} {u0 u1 u2 : Option MV} {vs0 : Int32} (gn : vs0 = 0 ∨ vs0 = 1) (k : Q (some (.inl vs0)) h) : J mX11_areTogether d 0 0 Q 0 0 36 [u0, u1, u2] [.inl vs0] h := by
  exact J_iret (ty := .boolean) (zat qX11_areTogether 20 (by rfl)) rfl (znz gn) (Nat.le_refl 0) (Nat.le_refl 0) k

theorem bX11_leastFor_0 {d d' : Nat} {Q : Option MV → MH → Prop} {h : MH} {u2 u3 u4 : Option MV} {v1 : Int32} (hr : zRf h) (hd : d' + 1 ≤ d) (k : Con mX11_within d' 0 0 [.inr (.inl v1.toInt64), .inr (.inl (lN 0)), .inr (.inl (3 : Int64))] (zsI h 111 0 (nI 0)) (zri fun (x : Int32) h' => J mX11_leastFor d 0 0 Q 0 0 14 [some (.inr (.inr 111)), some (.inl v1), u2, u3, u4] [.inl x] h')) : J mX11_leastFor d 0 0 Q 0 0 0 [some (.inr (.inr 111)), some (.inl v1), u2, u3, u4] [] h := by
  refine zrun 0 7 qX11_leastFor (o := 11) rfl ?_
  show zokO h 111 11 ∧ J mX11_leastFor d 0 0 Q 0 0 11 [some (.inr (.inr 111)), some (.inl v1), u2, u3, u4] [.inr (.inl (3 : Int64)), .inr (.inl (lN 0)), .inr (.inl v1.toInt64)] (zsI h 111 0 (nI 0))
  exact ⟨(zo hr (by decide) rfl), zcSi (as := [.inr (.inl v1.toInt64), .inr (.inl (lN 0)), .inr (.inl (3 : Int64))]) (zat qX11_leastFor 7 (by rfl)) l11_178 rfl hd rfl (Nat.le_of_ble_eq_true rfl) zle0 k⟩

theorem bX11_leastFor_14 {d : Nat} {Q : Option MV → MH → Prop} {h : MH} {u0 u1 u2 u3 u4 : Option MV} {vs0 : Int32} (k1 : ¬ vs0 = 0 → J mX11_leastFor d 0 0 Q 0 0 20 [u0, u1, u2, u3, u4] [] h) (k2 : vs0 = 0 → J mX11_leastFor d 0 0 Q 0 0 17 [u0, u1, u2, u3, u4] [] h) : J mX11_leastFor d 0 0 Q 0 0 14 [u0, u1, u2, u3, u4] [.inl vs0] h := by
  refine zrun 8 1 qX11_leastFor (o := 11) rfl ?_
  show ((¬ vs0 = 0 → J mX11_leastFor d 0 0 Q 0 0 20 [u0, u1, u2, u3, u4] [] h) ∧ (vs0 = 0 → J mX11_leastFor d 0 0 Q 0 0 17 [u0, u1, u2, u3, u4] [] h))
  exact ⟨k1, k2⟩

theorem bX11_leastFor_17 {d : Nat} {Q : Option MV → MH → Prop} {h : MH} {u0 u1 u2 u3 u4 : Option MV} (k : Q (some (.inl (-(nI 2)))) h) : J mX11_leastFor d 0 0 Q 0 0 17 [u0, u1, u2, u3, u4] [] h := by
  refine zrun 9 1 qX11_leastFor (o := 11) rfl ?_
  show J mX11_leastFor d 0 0 Q 0 0 19 [u0, u1, u2, u3, u4] [.inl (-(nI 2))] h
  exact J_iret (ty := .int) (zat qX11_leastFor 10 (by rfl)) rfl rfl (Nat.le_refl 0) (Nat.le_refl 0) k

theorem bX11_leastFor_20 {d : Nat} {Q : Option MV → MH → Prop} {h : MH} {u2 u3 u4 : Option MV} {v1 : Int32} (hr : zRf h) (g0 : vp_in v1 4) (k1 : ¬ (h.1 140 v1.toNatClampNeg) = (-(nI 1)) → J mX11_leastFor d 0 0 Q 0 0 33 [some (.inr (.inr 111)), some (.inl v1), u2, u3, u4] [] h) (k2 : (h.1 140 v1.toNatClampNeg) = (-(nI 1)) → J mX11_leastFor d 0 0 Q 0 0 30 [some (.inr (.inr 111)), some (.inl v1), u2, u3, u4] [] h) : J mX11_leastFor d 0 0 Q 0 0 20 [some (.inr (.inr 111)), some (.inl v1), u2, u3, u4] [] h := by
  refine zrun 11 6 qX11_leastFor (o := 11) rfl ?_
  show zokO h 111 11 ∧ zokA h (h.2.2.1 111 53) 20 v1 ∧ ((¬ (h.1 (h.2.2.1 111 53) v1.toNatClampNeg) = (-(nI 1)) → J mX11_leastFor d 0 0 Q 0 0 33 [some (.inr (.inr 111)), some (.inl v1), u2, u3, u4] [] h) ∧ ((h.1 (h.2.2.1 111 53) v1.toNatClampNeg) = (-(nI 1)) → J mX11_leastFor d 0 0 Q 0 0 30 [some (.inr (.inr 111)), some (.inl v1), u2, u3, u4] [] h))
  rw [(show h.2.2.1 111 53 = 140 from (hr.at (by decide) (by decide) (by rfl)))]
  exact ⟨(zo hr (by decide) rfl), (zia hr (by decide) (by rfl) g0), k1, k2⟩

theorem bX11_leastFor_30 {d : Nat} {Q : Option MV → MH → Prop} {h : MH} {u0 u1 u2 u3 u4 : Option MV} (k : Q (some (.inl (-(nI 6)))) h) : J mX11_leastFor d 0 0 Q 0 0 30 [u0, u1, u2, u3, u4] [] h := by
  refine zrun 17 1 qX11_leastFor (o := 11) rfl ?_
  show J mX11_leastFor d 0 0 Q 0 0 32 [u0, u1, u2, u3, u4] [.inl (-(nI 6))] h
  exact J_iret (ty := .int) (zat qX11_leastFor 18 (by rfl)) rfl rfl (Nat.le_refl 0) (Nat.le_refl 0) k

theorem bX11_leastFor_33 {d d' : Nat} {Q : Option MV → MH → Prop} {h : MH} {u2 u3 u4 : Option MV} {v1 : Int32} (hr : zRf h) (hd : d' + 1 ≤ d) (k : Con mX11_wants d' 0 0 [.inr (.inr 111), .inl v1] h (zrv fun h' => J mX11_leastFor d 0 0 Q 0 0 38 [some (.inr (.inr 111)), some (.inl v1), u2, u3, u4] [] h')) : J mX11_leastFor d 0 0 Q 0 0 33 [some (.inr (.inr 111)), some (.inl v1), u2, u3, u4] [] h := by
  refine zrun 19 2 qX11_leastFor (o := 11) rfl ?_
  show J mX11_leastFor d 0 0 Q 0 0 35 [some (.inr (.inr 111)), some (.inl v1), u2, u3, u4] [.inl v1, .inr (.inr 111)] h
  exact zcVv (as := [.inl v1]) (zat qX11_leastFor 21 (by rfl)) l11_353 rfl hd rfl (Nat.le_of_ble_eq_true rfl) zle0 (ci := 11) (by decide) rfl (zo hr (by decide) rfl) k

theorem bX11_leastFor_38 {d : Nat} {Q : Option MV → MH → Prop} {h : MH} {u0 u1 u3 u4 : Option MV} {v2 : Int32} (k : J mX11_leastFor d 0 0 Q 0 0 40 [u0, u1, some (.inl v2), some (.inl (nI 1)), u4] [] h) : J mX11_leastFor d 0 0 Q 0 0 38 [u0, u1, some (.inl v2), u3, u4] [] h := by
  refine zrun 22 2 qX11_leastFor (o := 11) rfl ?_
  show J mX11_leastFor d 0 0 Q 0 0 40 [u0, u1, some (.inl v2), some (.inl (nI 1)), u4] [] h
  exact k

theorem bX11_leastFor_40 {d : Nat} {Q : Option MV → MH → Prop} {h : MH} {u0 u1 u2 u4 : Option MV} {v3 : Int32} (k1 : (nI 4) < v3 → J mX11_leastFor d 0 0 Q 0 0 95 [u0, u1, u2, some (.inl v3), u4] [] h) (k2 : ¬ (nI 4) < v3 → J mX11_leastFor d 0 0 Q 0 0 45 [u0, u1, u2, some (.inl v3), u4] [] h) : J mX11_leastFor d 0 0 Q 0 0 40 [u0, u1, u2, some (.inl v3), u4] [] h := by
  refine zrun 24 3 qX11_leastFor (o := 11) rfl ?_
  show (((nI 4) < v3 → J mX11_leastFor d 0 0 Q 0 0 95 [u0, u1, u2, some (.inl v3), u4] [] h) ∧ (¬ (nI 4) < v3 → J mX11_leastFor d 0 0 Q 0 0 45 [u0, u1, u2, some (.inl v3), u4] [] h))
  exact ⟨k1, k2⟩

theorem bX11_leastFor_45 {d : Nat} {Q : Option MV → MH → Prop} {h : MH} {u0 u1 u2 u4 : Option MV} {v3 : Int32} (k : J mX11_leastFor d 0 0 Q 0 0 48 [u0, u1, u2, some (.inl v3), some (.inl (nI 1))] [] h) : J mX11_leastFor d 0 0 Q 0 0 45 [u0, u1, u2, some (.inl v3), u4] [] h := by
  refine zrun 27 2 qX11_leastFor (o := 11) rfl ?_
  show J mX11_leastFor d 0 0 Q 0 0 48 [u0, u1, u2, some (.inl v3), some (.inl (nI 1))] [] h
  exact k

theorem bX11_leastFor_48 {d : Nat} {Q : Option MV → MH → Prop} {h : MH} {u1 u2 u3 : Option MV} {v4 : Int32} (hr : zRf h) (g0 : vp_in (nI 0) 2166) (k1 : ((nI 1) <<< ((h.1 112 0) &&& 31)) ≤ v4 → J mX11_leastFor d 0 0 Q 0 0 89 [some (.inr (.inr 111)), u1, u2, u3, some (.inl v4)] [] h) (k2 : ¬ ((nI 1) <<< ((h.1 112 0) &&& 31)) ≤ v4 → J mX11_leastFor d 0 0 Q 0 0 61 [some (.inr (.inr 111)), u1, u2, u3, some (.inl v4)] [] h) : J mX11_leastFor d 0 0 Q 0 0 48 [some (.inr (.inr 111)), u1, u2, u3, some (.inl v4)] [] h := by
  refine zrun 29 8 qX11_leastFor (o := 11) rfl ?_
  show zokO h 111 11 ∧ zokA h (h.2.2.1 111 1) 20 (nI 0) ∧ ((((nI 1) <<< ((h.1 (h.2.2.1 111 1) 0) &&& 31)) ≤ v4 → J mX11_leastFor d 0 0 Q 0 0 89 [some (.inr (.inr 111)), u1, u2, u3, some (.inl v4)] [] h) ∧ (¬ ((nI 1) <<< ((h.1 (h.2.2.1 111 1) 0) &&& 31)) ≤ v4 → J mX11_leastFor d 0 0 Q 0 0 61 [some (.inr (.inr 111)), u1, u2, u3, some (.inl v4)] [] h))
  rw [(show h.2.2.1 111 1 = 112 from (hr.at (by decide) (by decide) (by rfl)))]
  exact ⟨(zo hr (by decide) rfl), (zia hr (by decide) (by rfl) g0), k1, k2⟩

theorem bX11_leastFor_61 {d d' : Nat} {Q : Option MV → MH → Prop} {h : MH} {u0 u1 u2 u3 : Option MV} {v4 : Int32} (hd : d' + 1 ≤ d) (k : Con mX11_bitsOf d' 0 0 [.inl v4] h (zri fun (x : Int32) h' => J mX11_leastFor d 0 0 Q 0 0 66 [u0, u1, u2, u3, some (.inl v4)] [.inl x] h')) : J mX11_leastFor d 0 0 Q 0 0 61 [u0, u1, u2, u3, some (.inl v4)] [] h := by
  refine zrun 37 1 qX11_leastFor (o := 11) rfl ?_
  show J mX11_leastFor d 0 0 Q 0 0 63 [u0, u1, u2, u3, some (.inl v4)] [.inl v4] h
  exact zcSi (as := [.inl v4]) (zat qX11_leastFor 38 (by rfl)) l11_348 rfl hd rfl (Nat.le_of_ble_eq_true rfl) zle0 k

theorem bX11_leastFor_66 {d : Nat} {Q : Option MV → MH → Prop} {h : MH} {u0 u1 u2 u4 : Option MV} {vs0 v3 : Int32} (k1 : ¬ vs0 = v3 → J mX11_leastFor d 0 0 Q 0 0 83 [u0, u1, u2, some (.inl v3), u4] [] h) (k2 : vs0 = v3 → J mX11_leastFor d 0 0 Q 0 0 70 [u0, u1, u2, some (.inl v3), u4] [] h) : J mX11_leastFor d 0 0 Q 0 0 66 [u0, u1, u2, some (.inl v3), u4] [.inl vs0] h := by
  refine zrun 39 2 qX11_leastFor (o := 11) rfl ?_
  show ((¬ vs0 = v3 → J mX11_leastFor d 0 0 Q 0 0 83 [u0, u1, u2, some (.inl v3), u4] [] h) ∧ (vs0 = v3 → J mX11_leastFor d 0 0 Q 0 0 70 [u0, u1, u2, some (.inl v3), u4] [] h))
  exact ⟨k1, k2⟩

theorem bX11_leastFor_70 {d d' : Nat} {Q : Option MV → MH → Prop} {h : MH} {u1 u3 : Option MV} {v4 v2 : Int32} (hr : zRf h) (hd : d' + 1 ≤ d) (k : Con mX11_areTogether d' 0 0 [.inr (.inr 111), .inl v4, .inl v2] h (zri fun (x : Int32) h' => J mX11_leastFor d 0 0 Q 0 0 77 [some (.inr (.inr 111)), u1, some (.inl v2), u3, some (.inl v4)] [.inl x] h')) : J mX11_leastFor d 0 0 Q 0 0 70 [some (.inr (.inr 111)), u1, some (.inl v2), u3, some (.inl v4)] [] h := by
  refine zrun 41 3 qX11_leastFor (o := 11) rfl ?_
  show J mX11_leastFor d 0 0 Q 0 0 74 [some (.inr (.inr 111)), u1, some (.inl v2), u3, some (.inl v4)] [.inl v2, .inl v4, .inr (.inr 111)] h
  exact zcVi (as := [.inl v4, .inl v2]) (zat qX11_leastFor 44 (by rfl)) l11_356 rfl hd rfl (Nat.le_of_ble_eq_true rfl) zle0 (ci := 11) (by decide) rfl (zo hr (by decide) rfl) k

theorem bX11_leastFor_77 {d : Nat} {Q : Option MV → MH → Prop} {h : MH} {u0 u1 u2 u3 u4 : Option MV} {vs0 : Int32} (k1 : vs0 = 0 → J mX11_leastFor d 0 0 Q 0 0 83 [u0, u1, u2, u3, u4] [] h) (k2 : ¬ vs0 = 0 → J mX11_leastFor d 0 0 Q 0 0 80 [u0, u1, u2, u3, u4] [] h) : J mX11_leastFor d 0 0 Q 0 0 77 [u0, u1, u2, u3, u4] [.inl vs0] h := by
  refine zrun 45 1 qX11_leastFor (o := 11) rfl ?_
  show ((vs0 = 0 → J mX11_leastFor d 0 0 Q 0 0 83 [u0, u1, u2, u3, u4] [] h) ∧ (¬ vs0 = 0 → J mX11_leastFor d 0 0 Q 0 0 80 [u0, u1, u2, u3, u4] [] h))
  exact ⟨k1, k2⟩

theorem bX11_leastFor_80 {d : Nat} {Q : Option MV → MH → Prop} {h : MH} {u0 u1 u2 u3 : Option MV} {v4 : Int32} (k : Q (some (.inl v4)) h) : J mX11_leastFor d 0 0 Q 0 0 80 [u0, u1, u2, u3, some (.inl v4)] [] h := by
  refine zrun 46 1 qX11_leastFor (o := 11) rfl ?_
  show J mX11_leastFor d 0 0 Q 0 0 82 [u0, u1, u2, u3, some (.inl v4)] [.inl v4] h
  exact J_iret (ty := .int) (zat qX11_leastFor 47 (by rfl)) rfl rfl (Nat.le_refl 0) (Nat.le_refl 0) k

theorem bX11_leastFor_83 {d : Nat} {Q : Option MV → MH → Prop} {h : MH} {u0 u1 u2 : Option MV} {v4 v3 : Int32} (k : J mX11_leastFor d 0 0 Q 0 0 48 [u0, u1, u2, some (.inl v3), some (.inl (v4 + nI 1))] [] h) : J mX11_leastFor d 0 0 Q 0 0 83 [u0, u1, u2, some (.inl v3), some (.inl v4)] [] h := by
  refine zrun 48 2 qX11_leastFor (o := 11) rfl ?_
  show J mX11_leastFor d 0 0 Q 0 0 48 [u0, u1, u2, some (.inl v3), some (.inl (v4 + nI 1))] [] h
  exact k

theorem bX11_leastFor_89 {d : Nat} {Q : Option MV → MH → Prop} {h : MH} {u0 u1 u4 : Option MV} {v3 v2 : Int32} (k : J mX11_leastFor d 0 0 Q 0 0 40 [u0, u1, some (.inl v2), some (.inl (v3 + nI 1)), u4] [] h) : J mX11_leastFor d 0 0 Q 0 0 89 [u0, u1, some (.inl v2), some (.inl v3), u4] [] h := by
  refine zrun 50 2 qX11_leastFor (o := 11) rfl ?_
  show J mX11_leastFor d 0 0 Q 0 0 40 [u0, u1, some (.inl v2), some (.inl (v3 + nI 1)), u4] [] h
  exact k

theorem bX11_leastFor_95 {d : Nat} {Q : Option MV → MH → Prop} {h : MH} {u0 u1 u2 u3 u4 : Option MV} (k : Q (some (.inl (-(nI 1)))) h) : J mX11_leastFor d 0 0 Q 0 0 95 [u0, u1, u2, u3, u4] [] h := by
  refine zrun 52 1 qX11_leastFor (o := 11) rfl ?_
  show J mX11_leastFor d 0 0 Q 0 0 96 [u0, u1, u2, u3, u4] [.inl (-(nI 1))] h
  exact J_iret (ty := .int) (zat qX11_leastFor 53 (by rfl)) rfl rfl (Nat.le_refl 0) (Nat.le_refl 0) k

theorem bX11_together_0 {d d' : Nat} {Q : Option MV → MH → Prop} {h : MH} {u1 u2 : Option MV} {v3 : Int32} (hr : zRf h) (hd : d' + 1 ≤ d) (k : Con mX11_within d' 0 0 [.inr (.inl v3.toInt64), .inr (.inl (lN 0)), .inr (.inl (3 : Int64))] (zsI h 111 0 (nI 0)) (zri fun (x : Int32) h' => J mX11_together d 0 0 Q 0 0 14 [some (.inr (.inr 111)), u1, u2, some (.inl v3)] [.inl x] h')) : J mX11_together d 0 0 Q 0 0 0 [some (.inr (.inr 111)), u1, u2, some (.inl v3)] [] h := by
  refine zrun 0 7 qX11_together (o := 11) rfl ?_
  show zokO h 111 11 ∧ J mX11_together d 0 0 Q 0 0 11 [some (.inr (.inr 111)), u1, u2, some (.inl v3)] [.inr (.inl (3 : Int64)), .inr (.inl (lN 0)), .inr (.inl v3.toInt64)] (zsI h 111 0 (nI 0))
  exact ⟨(zo hr (by decide) rfl), zcSi (as := [.inr (.inl v3.toInt64), .inr (.inl (lN 0)), .inr (.inl (3 : Int64))]) (zat qX11_together 7 (by rfl)) l11_178 rfl hd rfl (Nat.le_of_ble_eq_true rfl) zle0 k⟩

theorem bX11_together_14 {d : Nat} {Q : Option MV → MH → Prop} {h : MH} {u0 u1 u2 u3 : Option MV} {vs0 : Int32} (k1 : ¬ vs0 = 0 → J mX11_together d 0 0 Q 0 0 20 [u0, u1, u2, u3] [] h) (k2 : vs0 = 0 → J mX11_together d 0 0 Q 0 0 17 [u0, u1, u2, u3] [] h) : J mX11_together d 0 0 Q 0 0 14 [u0, u1, u2, u3] [.inl vs0] h := by
  refine zrun 8 1 qX11_together (o := 11) rfl ?_
  show ((¬ vs0 = 0 → J mX11_together d 0 0 Q 0 0 20 [u0, u1, u2, u3] [] h) ∧ (vs0 = 0 → J mX11_together d 0 0 Q 0 0 17 [u0, u1, u2, u3] [] h))
  exact ⟨k1, k2⟩

theorem bX11_together_17 {d : Nat} {Q : Option MV → MH → Prop} {h : MH} {u0 u1 u2 u3 : Option MV} (k : Q (some (.inl (-(nI 2)))) h) : J mX11_together d 0 0 Q 0 0 17 [u0, u1, u2, u3] [] h := by
  refine zrun 9 1 qX11_together (o := 11) rfl ?_
  show J mX11_together d 0 0 Q 0 0 19 [u0, u1, u2, u3] [.inl (-(nI 2))] h
  exact J_iret (ty := .int) (zat qX11_together 10 (by rfl)) rfl rfl (Nat.le_refl 0) (Nat.le_refl 0) k

theorem bX11_together_20 {d : Nat} {Q : Option MV → MH → Prop} {h : MH} {u1 u2 : Option MV} {v3 : Int32} (hr : zRf h) (g0 : vp_in v3 4) (k1 : ¬ (h.1 140 v3.toNatClampNeg) = (-(nI 1)) → J mX11_together d 0 0 Q 0 0 33 [some (.inr (.inr 111)), u1, u2, some (.inl v3)] [] h) (k2 : (h.1 140 v3.toNatClampNeg) = (-(nI 1)) → J mX11_together d 0 0 Q 0 0 30 [some (.inr (.inr 111)), u1, u2, some (.inl v3)] [] h) : J mX11_together d 0 0 Q 0 0 20 [some (.inr (.inr 111)), u1, u2, some (.inl v3)] [] h := by
  refine zrun 11 6 qX11_together (o := 11) rfl ?_
  show zokO h 111 11 ∧ zokA h (h.2.2.1 111 53) 20 v3 ∧ ((¬ (h.1 (h.2.2.1 111 53) v3.toNatClampNeg) = (-(nI 1)) → J mX11_together d 0 0 Q 0 0 33 [some (.inr (.inr 111)), u1, u2, some (.inl v3)] [] h) ∧ ((h.1 (h.2.2.1 111 53) v3.toNatClampNeg) = (-(nI 1)) → J mX11_together d 0 0 Q 0 0 30 [some (.inr (.inr 111)), u1, u2, some (.inl v3)] [] h))
  rw [(show h.2.2.1 111 53 = 140 from (hr.at (by decide) (by decide) (by rfl)))]
  exact ⟨(zo hr (by decide) rfl), (zia hr (by decide) (by rfl) g0), k1, k2⟩

theorem bX11_together_30 {d : Nat} {Q : Option MV → MH → Prop} {h : MH} {u0 u1 u2 u3 : Option MV} (k : Q (some (.inl (-(nI 6)))) h) : J mX11_together d 0 0 Q 0 0 30 [u0, u1, u2, u3] [] h := by
  refine zrun 17 1 qX11_together (o := 11) rfl ?_
  show J mX11_together d 0 0 Q 0 0 32 [u0, u1, u2, u3] [.inl (-(nI 6))] h
  exact J_iret (ty := .int) (zat qX11_together 18 (by rfl)) rfl rfl (Nat.le_refl 0) (Nat.le_refl 0) k

theorem bX11_together_33 {d d' : Nat} {Q : Option MV → MH → Prop} {h : MH} {u2 u3 : Option MV} {v1 : Int32} (hr : zRf h) (hd : d' + 1 ≤ d) (k : Con mX11_isSet d' 0 0 [.inr (.inr 111), .inl v1] h (zri fun (x : Int32) h' => J mX11_together d 0 0 Q 0 0 38 [some (.inr (.inr 111)), some (.inl v1), u2, u3] [.inl x] h')) : J mX11_together d 0 0 Q 0 0 33 [some (.inr (.inr 111)), some (.inl v1), u2, u3] [] h := by
  refine zrun 19 2 qX11_together (o := 11) rfl ?_
  show J mX11_together d 0 0 Q 0 0 35 [some (.inr (.inr 111)), some (.inl v1), u2, u3] [.inl v1, .inr (.inr 111)] h
  exact zcVi (as := [.inl v1]) (zat qX11_together 21 (by rfl)) l11_334 rfl hd rfl (Nat.le_of_ble_eq_true rfl) zle0 (ci := 11) (by decide) rfl (zo hr (by decide) rfl) k

theorem bX11_together_38 {d : Nat} {Q : Option MV → MH → Prop} {h : MH} {u0 u1 u2 u3 : Option MV} {vs0 : Int32} (k1 : ¬ vs0 = 0 → J mX11_together d 0 0 Q 0 0 44 [u0, u1, u2, u3] [] h) (k2 : vs0 = 0 → J mX11_together d 0 0 Q 0 0 41 [u0, u1, u2, u3] [] h) : J mX11_together d 0 0 Q 0 0 38 [u0, u1, u2, u3] [.inl vs0] h := by
  refine zrun 22 1 qX11_together (o := 11) rfl ?_
  show ((¬ vs0 = 0 → J mX11_together d 0 0 Q 0 0 44 [u0, u1, u2, u3] [] h) ∧ (vs0 = 0 → J mX11_together d 0 0 Q 0 0 41 [u0, u1, u2, u3] [] h))
  exact ⟨k1, k2⟩

theorem bX11_together_41 {d : Nat} {Q : Option MV → MH → Prop} {h : MH} {u0 u1 u2 u3 : Option MV} (k : Q (some (.inl (-(nI 3)))) h) : J mX11_together d 0 0 Q 0 0 41 [u0, u1, u2, u3] [] h := by
  refine zrun 23 1 qX11_together (o := 11) rfl ?_
  show J mX11_together d 0 0 Q 0 0 43 [u0, u1, u2, u3] [.inl (-(nI 3))] h
  exact J_iret (ty := .int) (zat qX11_together 24 (by rfl)) rfl rfl (Nat.le_refl 0) (Nat.le_refl 0) k

theorem bX11_together_44 {d d' : Nat} {Q : Option MV → MH → Prop} {h : MH} {u1 u2 : Option MV} {v3 : Int32} (hr : zRf h) (hd : d' + 1 ≤ d) (k : Con mX11_wants d' 0 0 [.inr (.inr 111), .inl v3] h (zrv fun h' => J mX11_together d 0 0 Q 0 0 49 [some (.inr (.inr 111)), u1, u2, some (.inl v3)] [] h')) : J mX11_together d 0 0 Q 0 0 44 [some (.inr (.inr 111)), u1, u2, some (.inl v3)] [] h := by
  refine zrun 25 2 qX11_together (o := 11) rfl ?_
  show J mX11_together d 0 0 Q 0 0 46 [some (.inr (.inr 111)), u1, u2, some (.inl v3)] [.inl v3, .inr (.inr 111)] h
  exact zcVv (as := [.inl v3]) (zat qX11_together 27 (by rfl)) l11_353 rfl hd rfl (Nat.le_of_ble_eq_true rfl) zle0 (ci := 11) (by decide) rfl (zo hr (by decide) rfl) k

theorem bX11_together_49 {d d' : Nat} {Q : Option MV → MH → Prop} {h : MH} {u3 : Option MV} {v1 v2 : Int32} (hr : zRf h) (hd : d' + 1 ≤ d) (k : Con mX11_areTogether d' 0 0 [.inr (.inr 111), .inl v1, .inl v2] h (zri fun (x : Int32) h' => J mX11_together d 0 0 Q 0 0 55 [some (.inr (.inr 111)), some (.inl v1), some (.inl v2), u3] [.inl x] h')) : J mX11_together d 0 0 Q 0 0 49 [some (.inr (.inr 111)), some (.inl v1), some (.inl v2), u3] [] h := by
  refine zrun 28 3 qX11_together (o := 11) rfl ?_
  show J mX11_together d 0 0 Q 0 0 52 [some (.inr (.inr 111)), some (.inl v1), some (.inl v2), u3] [.inl v2, .inl v1, .inr (.inr 111)] h
  exact zcVi (as := [.inl v1, .inl v2]) (zat qX11_together 31 (by rfl)) l11_356 rfl hd rfl (Nat.le_of_ble_eq_true rfl) zle0 (ci := 11) (by decide) rfl (zo hr (by decide) rfl) k

theorem bX11_together_55 {d : Nat} {Q : Option MV → MH → Prop} {h : MH} {u0 u1 u2 u3 : Option MV} {vs0 : Int32} (k1 : vs0 = 0 → J mX11_together d 0 0 Q 0 0 62 [u0, u1, u2, u3] [] h) (k2 : ¬ vs0 = 0 → J mX11_together d 0 0 Q 0 0 58 [u0, u1, u2, u3] [] h) : J mX11_together d 0 0 Q 0 0 55 [u0, u1, u2, u3] [.inl vs0] h := by
  refine zrun 32 1 qX11_together (o := 11) rfl ?_
  show ((vs0 = 0 → J mX11_together d 0 0 Q 0 0 62 [u0, u1, u2, u3] [] h) ∧ (¬ vs0 = 0 → J mX11_together d 0 0 Q 0 0 58 [u0, u1, u2, u3] [] h))
  exact ⟨k1, k2⟩

theorem bX11_together_58 {d : Nat} {Q : Option MV → MH → Prop} {h : MH} {u0 u1 u2 u3 : Option MV} (k : J mX11_together d 0 0 Q 0 0 63 [u0, u1, u2, u3] [.inl (nI 1)] h) : J mX11_together d 0 0 Q 0 0 58 [u0, u1, u2, u3] [] h := by
  refine zrun 33 2 qX11_together (o := 11) rfl ?_
  show J mX11_together d 0 0 Q 0 0 63 [u0, u1, u2, u3] [.inl (nI 1)] h
  exact k

theorem bX11_together_62 {d : Nat} {Q : Option MV → MH → Prop} {h : MH} {u0 u1 u2 u3 : Option MV} (k : J mX11_together d 0 0 Q 0 0 63 [u0, u1, u2, u3] [.inl (nI 0)] h) : J mX11_together d 0 0 Q 0 0 62 [u0, u1, u2, u3] [] h := by
  refine zrun 35 1 qX11_together (o := 11) rfl ?_
  show J mX11_together d 0 0 Q 0 0 63 [u0, u1, u2, u3] [.inl (nI 0)] h
  exact k

theorem bX11_together_63 {d : Nat} {Q : Option MV → MH → Prop} {h : MH} {u0 u1 u2 u3 : Option MV} {vs0 : Int32} (k : Q (some (.inl vs0)) h) : J mX11_together d 0 0 Q 0 0 63 [u0, u1, u2, u3] [.inl vs0] h := by
  exact J_iret (ty := .int) (zat qX11_together 36 (by rfl)) rfl rfl (Nat.le_refl 0) (Nat.le_refl 0) k

theorem bX11_nearest_0 {d d' : Nat} {Q : Option MV → MH → Prop} {h : MH} {u2 u3 u4 u5 u6 u7 u8 u9 : Option MV} {v1 : Int32} (hr : zRf h) (hd : d' + 1 ≤ d) (k : Con mX11_isSet d' 0 0 [.inr (.inr 111), .inl v1] (zsI h 111 0 (nI 0)) (zri fun (x : Int32) h' => J mX11_nearest d 0 0 Q 0 0 10 [some (.inr (.inr 111)), some (.inl v1), u2, u3, u4, u5, u6, u7, u8, u9] [.inl x] h')) : J mX11_nearest d 0 0 Q 0 0 0 [some (.inr (.inr 111)), some (.inl v1), u2, u3, u4, u5, u6, u7, u8, u9] [] h := by
  refine zrun 0 5 qX11_nearest (o := 11) rfl ?_
  show zokO h 111 11 ∧ J mX11_nearest d 0 0 Q 0 0 7 [some (.inr (.inr 111)), some (.inl v1), u2, u3, u4, u5, u6, u7, u8, u9] [.inl v1, .inr (.inr 111)] (zsI h 111 0 (nI 0))
  exact ⟨(zo hr (by decide) rfl), zcVi (as := [.inl v1]) (zat qX11_nearest 5 (by rfl)) l11_334 rfl hd rfl (Nat.le_of_ble_eq_true rfl) zle0 (ci := 11) (by decide) rfl (show zokO _ _ _ from (zo hr (by decide) rfl)) k⟩

theorem bX11_nearest_10 {d : Nat} {Q : Option MV → MH → Prop} {h : MH} {u0 u1 u2 u3 u4 u5 u6 u7 u8 u9 : Option MV} {vs0 : Int32} (k1 : vs0 = 0 → J mX11_nearest d 0 0 Q 0 0 18 [u0, u1, u2, u3, u4, u5, u6, u7, u8, u9] [] h) (k2 : ¬ vs0 = 0 → J mX11_nearest d 0 0 Q 0 0 13 [u0, u1, u2, u3, u4, u5, u6, u7, u8, u9] [] h) : J mX11_nearest d 0 0 Q 0 0 10 [u0, u1, u2, u3, u4, u5, u6, u7, u8, u9] [.inl vs0] h := by
  refine zrun 6 1 qX11_nearest (o := 11) rfl ?_
  show ((vs0 = 0 → J mX11_nearest d 0 0 Q 0 0 18 [u0, u1, u2, u3, u4, u5, u6, u7, u8, u9] [] h) ∧ (¬ vs0 = 0 → J mX11_nearest d 0 0 Q 0 0 13 [u0, u1, u2, u3, u4, u5, u6, u7, u8, u9] [] h))
  exact ⟨k1, k2⟩

theorem bX11_nearest_13 {d : Nat} {Q : Option MV → MH → Prop} {h : MH} {u0 u1 u2 u4 u5 u6 u7 u8 u9 : Option MV} {v3 : Int32} (k1 : (nI 1) ≤ v3 → J mX11_nearest d 0 0 Q 0 0 21 [u0, u1, u2, some (.inl v3), u4, u5, u6, u7, u8, u9] [] h) (k2 : ¬ (nI 1) ≤ v3 → J mX11_nearest d 0 0 Q 0 0 18 [u0, u1, u2, some (.inl v3), u4, u5, u6, u7, u8, u9] [] h) : J mX11_nearest d 0 0 Q 0 0 13 [u0, u1, u2, some (.inl v3), u4, u5, u6, u7, u8, u9] [] h := by
  refine zrun 7 3 qX11_nearest (o := 11) rfl ?_
  show (((nI 1) ≤ v3 → J mX11_nearest d 0 0 Q 0 0 21 [u0, u1, u2, some (.inl v3), u4, u5, u6, u7, u8, u9] [] h) ∧ (¬ (nI 1) ≤ v3 → J mX11_nearest d 0 0 Q 0 0 18 [u0, u1, u2, some (.inl v3), u4, u5, u6, u7, u8, u9] [] h))
  exact ⟨k1, k2⟩

theorem bX11_nearest_18 {d : Nat} {Q : Option MV → MH → Prop} {h : MH} {u0 u1 u2 u3 u4 u5 u6 u7 u8 u9 : Option MV} (k : Q (some (.inl (-(nI 3)))) h) : J mX11_nearest d 0 0 Q 0 0 18 [u0, u1, u2, u3, u4, u5, u6, u7, u8, u9] [] h := by
  refine zrun 10 1 qX11_nearest (o := 11) rfl ?_
  show J mX11_nearest d 0 0 Q 0 0 20 [u0, u1, u2, u3, u4, u5, u6, u7, u8, u9] [.inl (-(nI 3))] h
  exact J_iret (ty := .int) (zat qX11_nearest 11 (by rfl)) rfl rfl (Nat.le_refl 0) (Nat.le_refl 0) k

theorem bX11_nearest_21 {d d' : Nat} {Q : Option MV → MH → Prop} {h : MH} {u3 u4 u5 u6 u7 u8 u9 : Option MV} {v1 v2 : Int32} (hr : zRf h) (hd : d' + 1 ≤ d) (k : Con mX11_laysTimes d' 0 0 [.inr (.inr 111), .inl v1, .inl v2] h (zrv fun h' => J mX11_nearest d 0 0 Q 0 0 27 [some (.inr (.inr 111)), some (.inl v1), some (.inl v2), u3, u4, u5, u6, u7, u8, u9] [] h')) : J mX11_nearest d 0 0 Q 0 0 21 [some (.inr (.inr 111)), some (.inl v1), some (.inl v2), u3, u4, u5, u6, u7, u8, u9] [] h := by
  refine zrun 12 3 qX11_nearest (o := 11) rfl ?_
  show J mX11_nearest d 0 0 Q 0 0 24 [some (.inr (.inr 111)), some (.inl v1), some (.inl v2), u3, u4, u5, u6, u7, u8, u9] [.inl v2, .inl v1, .inr (.inr 111)] h
  exact zcVv (as := [.inl v1, .inl v2]) (zat qX11_nearest 15 (by rfl)) l11_341 rfl hd rfl (Nat.le_of_ble_eq_true rfl) zle0 (ci := 11) (by decide) rfl (zo hr (by decide) rfl) k

theorem bX11_nearest_27 {d : Nat} {Q : Option MV → MH → Prop} {h : MH} {u0 u1 u2 u4 u5 u6 u7 u8 u9 : Option MV} {v3 : Int32} (k : J mX11_nearest d 0 0 Q 0 0 36 [u0, u1, u2, some (.inl v3), some (.inl (-(nI 1))), some (.inr (.inl (lN 0))), none, some (.inl (nI 1)), u8, u9] [] h) : J mX11_nearest d 0 0 Q 0 0 27 [u0, u1, u2, some (.inl v3), u4, u5, u6, u7, u8, u9] [] h := by
  refine zrun 16 6 qX11_nearest (o := 11) rfl ?_
  show J mX11_nearest d 0 0 Q 0 0 36 [u0, u1, u2, some (.inl v3), some (.inl (-(nI 1))), some (.inr (.inl (lN 0))), none, some (.inl (nI 1)), u8, u9] [] h
  exact k

theorem bX11_nearest_36 {d : Nat} {Q : Option MV → MH → Prop} {h : MH} {u1 u2 u3 u4 u5 u6 u8 u9 : Option MV} {v7 : Int32} (hr : zRf h) (k1 : ((nI 32) * (nI 11600)) ≤ v7 → J mX11_nearest d 0 0 Q 0 0 115 [some (.inr (.inr 111)), u1, u2, u3, u4, u5, u6, some (.inl v7), u8, u9] [] h) (k2 : ¬ ((nI 32) * (nI 11600)) ≤ v7 → J mX11_nearest d 0 0 Q 0 0 49 [some (.inr (.inr 111)), u1, u2, u3, u4, u5, u6, some (.inl v7), u8, u9] [] h) : J mX11_nearest d 0 0 Q 0 0 36 [some (.inr (.inr 111)), u1, u2, u3, u4, u5, u6, some (.inl v7), u8, u9] [] h := by
  refine zrun 22 7 qX11_nearest (o := 11) rfl ?_
  show zokO h 111 11 ∧ (0 < h.2.2.1 111 43 ∧ (h.2.2.1 111 43) ≤ h.2.2.2 ∧ (zk (h.2.2.1 111 43)).1 = 20) ∧ ((((nI 32) * (nI (zk (h.2.2.1 111 43)).2)) ≤ v7 → J mX11_nearest d 0 0 Q 0 0 115 [some (.inr (.inr 111)), u1, u2, u3, u4, u5, u6, some (.inl v7), u8, u9] [] h) ∧ (¬ ((nI 32) * (nI (zk (h.2.2.1 111 43)).2)) ≤ v7 → J mX11_nearest d 0 0 Q 0 0 49 [some (.inr (.inr 111)), u1, u2, u3, u4, u5, u6, some (.inl v7), u8, u9] [] h))
  rw [(show h.2.2.1 111 43 = 132 from (hr.at (by decide) (by decide) (by rfl)))]
  exact ⟨(zo hr (by decide) rfl), ⟨by decide, by have := hr.n; omega, rfl⟩, k1, k2⟩

theorem bX11_nearest_49 {d d' : Nat} {Q : Option MV → MH → Prop} {h : MH} {u1 u2 u3 u4 u5 u6 u8 u9 : Option MV} {v7 : Int32} (hr : zRf h) (hd : d' + 1 ≤ d) (k : Con mX11_isTime d' 0 0 [.inr (.inr 111), .inl v7] h (zri fun (x : Int32) h' => J mX11_nearest d 0 0 Q 0 0 55 [some (.inr (.inr 111)), u1, u2, u3, u4, u5, u6, some (.inl v7), u8, u9] [.inl x] h')) : J mX11_nearest d 0 0 Q 0 0 49 [some (.inr (.inr 111)), u1, u2, u3, u4, u5, u6, some (.inl v7), u8, u9] [] h := by
  refine zrun 29 2 qX11_nearest (o := 11) rfl ?_
  show J mX11_nearest d 0 0 Q 0 0 52 [some (.inr (.inr 111)), u1, u2, u3, u4, u5, u6, some (.inl v7), u8, u9] [.inl v7, .inr (.inr 111)] h
  exact zcVi (as := [.inl v7]) (zat qX11_nearest 31 (by rfl)) l11_324 rfl hd rfl (Nat.le_of_ble_eq_true rfl) zle0 (ci := 11) (by decide) rfl (zo hr (by decide) rfl) k

theorem bX11_nearest_55 {d : Nat} {Q : Option MV → MH → Prop} {h : MH} {u0 u1 u2 u3 u4 u5 u6 u7 u8 u9 : Option MV} {vs0 : Int32} (k1 : ¬ vs0 = 0 → J mX11_nearest d 0 0 Q 0 0 61 [u0, u1, u2, u3, u4, u5, u6, u7, u8, u9] [] h) (k2 : vs0 = 0 → J mX11_nearest d 0 0 Q 0 0 58 [u0, u1, u2, u3, u4, u5, u6, u7, u8, u9] [] h) : J mX11_nearest d 0 0 Q 0 0 55 [u0, u1, u2, u3, u4, u5, u6, u7, u8, u9] [.inl vs0] h := by
  refine zrun 32 1 qX11_nearest (o := 11) rfl ?_
  show ((¬ vs0 = 0 → J mX11_nearest d 0 0 Q 0 0 61 [u0, u1, u2, u3, u4, u5, u6, u7, u8, u9] [] h) ∧ (vs0 = 0 → J mX11_nearest d 0 0 Q 0 0 58 [u0, u1, u2, u3, u4, u5, u6, u7, u8, u9] [] h))
  exact ⟨k1, k2⟩

theorem bX11_nearest_58 {d : Nat} {Q : Option MV → MH → Prop} {h : MH} {u0 u1 u2 u3 u4 u5 u6 u7 u8 u9 : Option MV} (k : J mX11_nearest d 0 0 Q 0 0 109 [u0, u1, u2, u3, u4, u5, u6, u7, u8, u9] [] h) : J mX11_nearest d 0 0 Q 0 0 58 [u0, u1, u2, u3, u4, u5, u6, u7, u8, u9] [] h := by
  refine zrun 33 1 qX11_nearest (o := 11) rfl ?_
  show J mX11_nearest d 0 0 Q 0 0 109 [u0, u1, u2, u3, u4, u5, u6, u7, u8, u9] [] h
  exact k

theorem bX11_nearest_61 {d : Nat} {Q : Option MV → MH → Prop} {h : MH} {u0 u1 u2 u4 u5 u6 u8 u9 : Option MV} {v7 v3 : Int32} (k1 : v3 ≤ v7 → J mX11_nearest d 0 0 Q 0 0 76 [u0, u1, u2, some (.inl v3), u4, u5, u6, some (.inl v7), u8, u9] [] h) (k2 : ¬ v3 ≤ v7 → J mX11_nearest d 0 0 Q 0 0 67 [u0, u1, u2, some (.inl v3), u4, u5, u6, some (.inl v7), u8, u9] [] h) : J mX11_nearest d 0 0 Q 0 0 61 [u0, u1, u2, some (.inl v3), u4, u5, u6, some (.inl v7), u8, u9] [] h := by
  refine zrun 34 3 qX11_nearest (o := 11) rfl ?_
  show ((v3 ≤ v7 → J mX11_nearest d 0 0 Q 0 0 76 [u0, u1, u2, some (.inl v3), u4, u5, u6, some (.inl v7), u8, u9] [] h) ∧ (¬ v3 ≤ v7 → J mX11_nearest d 0 0 Q 0 0 67 [u0, u1, u2, some (.inl v3), u4, u5, u6, some (.inl v7), u8, u9] [] h))
  exact ⟨k1, k2⟩

theorem bX11_nearest_67 {d : Nat} {Q : Option MV → MH → Prop} {h : MH} {u0 u1 u2 u4 u5 u6 u8 u9 : Option MV} {v3 v7 : Int32} (k : J mX11_nearest d 0 0 Q 0 0 82 [u0, u1, u2, some (.inl v3), u4, u5, u6, some (.inl v7), u8, u9] [.inr (.inl (v3.toInt64 - v7.toInt64))] h) : J mX11_nearest d 0 0 Q 0 0 67 [u0, u1, u2, some (.inl v3), u4, u5, u6, some (.inl v7), u8, u9] [] h := by
  refine zrun 37 6 qX11_nearest (o := 11) rfl ?_
  show J mX11_nearest d 0 0 Q 0 0 82 [u0, u1, u2, some (.inl v3), u4, u5, u6, some (.inl v7), u8, u9] [.inr (.inl (v3.toInt64 - v7.toInt64))] h
  exact k

theorem bX11_nearest_76 {d : Nat} {Q : Option MV → MH → Prop} {h : MH} {u0 u1 u2 u4 u5 u6 u8 u9 : Option MV} {v7 v3 : Int32} (k : J mX11_nearest d 0 0 Q 0 0 82 [u0, u1, u2, some (.inl v3), u4, u5, u6, some (.inl v7), u8, u9] [.inr (.inl (v7.toInt64 - v3.toInt64))] h) : J mX11_nearest d 0 0 Q 0 0 76 [u0, u1, u2, some (.inl v3), u4, u5, u6, some (.inl v7), u8, u9] [] h := by
  refine zrun 43 5 qX11_nearest (o := 11) rfl ?_
  show J mX11_nearest d 0 0 Q 0 0 82 [u0, u1, u2, some (.inl v3), u4, u5, u6, some (.inl v7), u8, u9] [.inr (.inl (v7.toInt64 - v3.toInt64))] h
  exact k

theorem bX11_nearest_82 {d : Nat} {Q : Option MV → MH → Prop} {h : MH} {u0 u1 u2 u3 u5 u6 u8 u9 : Option MV} {v7 v4 : Int32} {vs0 : Int64} (k1 : v4 = (-(nI 1)) → J mX11_nearest d 0 0 Q 0 0 101 [u0, u1, u2, u3, some (.inl v4), u5, u6, some (.inl v7), some (.inr (.inl vs0)), none] [] h) (k2 : ¬ v4 = (-(nI 1)) → J mX11_nearest d 0 0 Q 0 0 90 [u0, u1, u2, u3, some (.inl v4), u5, u6, some (.inl v7), some (.inr (.inl vs0)), none] [] h) : J mX11_nearest d 0 0 Q 0 0 82 [u0, u1, u2, u3, some (.inl v4), u5, u6, some (.inl v7), u8, u9] [.inr (.inl vs0)] h := by
  refine zrun 48 4 qX11_nearest (o := 11) rfl ?_
  show ((v4 = (-(nI 1)) → J mX11_nearest d 0 0 Q 0 0 101 [u0, u1, u2, u3, some (.inl v4), u5, u6, some (.inl v7), some (.inr (.inl vs0)), none] [] h) ∧ (¬ v4 = (-(nI 1)) → J mX11_nearest d 0 0 Q 0 0 90 [u0, u1, u2, u3, some (.inl v4), u5, u6, some (.inl v7), some (.inr (.inl vs0)), none] [] h))
  exact ⟨k1, k2⟩

theorem bX11_nearest_90 {d : Nat} {Q : Option MV → MH → Prop} {h : MH} {u0 u1 u2 u3 u4 u6 u7 u9 : Option MV} {v8 v5 : Int64} (k1 : (lg_cmp v8 v5) < 0 → J mX11_nearest d 0 0 Q 0 0 101 [u0, u1, u2, u3, u4, some (.inr (.inl v5)), u6, u7, some (.inr (.inl v8)), u9] [] h) (k2 : ¬ (lg_cmp v8 v5) < 0 → J mX11_nearest d 0 0 Q 0 0 98 [u0, u1, u2, u3, u4, some (.inr (.inl v5)), u6, u7, some (.inr (.inl v8)), u9] [] h) : J mX11_nearest d 0 0 Q 0 0 90 [u0, u1, u2, u3, u4, some (.inr (.inl v5)), u6, u7, some (.inr (.inl v8)), u9] [] h := by
  refine zrun 52 4 qX11_nearest (o := 11) rfl ?_
  show (((lg_cmp v8 v5) < 0 → J mX11_nearest d 0 0 Q 0 0 101 [u0, u1, u2, u3, u4, some (.inr (.inl v5)), u6, u7, some (.inr (.inl v8)), u9] [] h) ∧ (¬ (lg_cmp v8 v5) < 0 → J mX11_nearest d 0 0 Q 0 0 98 [u0, u1, u2, u3, u4, some (.inr (.inl v5)), u6, u7, some (.inr (.inl v8)), u9] [] h))
  exact ⟨k1, k2⟩

theorem bX11_nearest_98 {d : Nat} {Q : Option MV → MH → Prop} {h : MH} {u0 u1 u2 u3 u4 u5 u6 u7 u8 u9 : Option MV} (k : J mX11_nearest d 0 0 Q 0 0 109 [u0, u1, u2, u3, u4, u5, u6, u7, u8, u9] [] h) : J mX11_nearest d 0 0 Q 0 0 98 [u0, u1, u2, u3, u4, u5, u6, u7, u8, u9] [] h := by
  refine zrun 56 1 qX11_nearest (o := 11) rfl ?_
  show J mX11_nearest d 0 0 Q 0 0 109 [u0, u1, u2, u3, u4, u5, u6, u7, u8, u9] [] h
  exact k

theorem bX11_nearest_101 {d : Nat} {Q : Option MV → MH → Prop} {h : MH} {u0 u1 u2 u4 u5 u6 u9 : Option MV} {v7 v3 : Int32} {v8 : Int64} (k : J mX11_nearest d 0 0 Q 0 0 109 [u0, u1, u2, some (.inl v3), some (.inl v7), some (.inr (.inl v8)), none, some (.inl v7), some (.inr (.inl v8)), u9] [] h) : J mX11_nearest d 0 0 Q 0 0 101 [u0, u1, u2, some (.inl v3), u4, u5, u6, some (.inl v7), some (.inr (.inl v8)), u9] [] h := by
  refine zrun 57 4 qX11_nearest (o := 11) rfl ?_
  show J mX11_nearest d 0 0 Q 0 0 109 [u0, u1, u2, some (.inl v3), some (.inl v7), some (.inr (.inl v8)), none, some (.inl v7), some (.inr (.inl v8)), u9] [] h
  exact k

theorem bX11_nearest_109 {d : Nat} {Q : Option MV → MH → Prop} {h : MH} {u0 u1 u2 u3 u4 u5 u8 u9 : Option MV} {v7 : Int32} (k : J mX11_nearest d 0 0 Q 0 0 36 [u0, u1, u2, u3, u4, u5, none, some (.inl (v7 + nI 1)), u8, u9] [] h) : J mX11_nearest d 0 0 Q 0 0 109 [u0, u1, u2, u3, u4, u5, none, some (.inl v7), u8, u9] [] h := by
  refine zrun 61 2 qX11_nearest (o := 11) rfl ?_
  show J mX11_nearest d 0 0 Q 0 0 36 [u0, u1, u2, u3, u4, u5, none, some (.inl (v7 + nI 1)), u8, u9] [] h
  exact k

theorem bX11_nearest_115 {d : Nat} {Q : Option MV → MH → Prop} {h : MH} {u0 u1 u2 u3 u5 u6 u7 u8 u9 : Option MV} {v4 : Int32} (k : Q (some (.inl v4)) h) : J mX11_nearest d 0 0 Q 0 0 115 [u0, u1, u2, u3, some (.inl v4), u5, u6, u7, u8, u9] [] h := by
  refine zrun 63 1 qX11_nearest (o := 11) rfl ?_
  show J mX11_nearest d 0 0 Q 0 0 117 [u0, u1, u2, u3, some (.inl v4), u5, u6, u7, u8, u9] [.inl v4] h
  exact J_iret (ty := .int) (zat qX11_nearest 64 (by rfl)) rfl rfl (Nat.le_refl 0) (Nat.le_refl 0) k

theorem bX11_isFew_0 {d d' : Nat} {Q : Option MV → MH → Prop} {h : MH} {v1 : Int32} (hr : zRf h) (hd : d' + 1 ≤ d) (k : Con mX11_isSet d' 0 0 [.inr (.inr 111), .inl v1] h (zri fun (x : Int32) h' => J mX11_isFew d 0 0 Q 0 0 5 [some (.inr (.inr 111)), some (.inl v1)] [.inl x] h')) : J mX11_isFew d 0 0 Q 0 0 0 [some (.inr (.inr 111)), some (.inl v1)] [] h := by
  refine zrun 0 2 qX11_isFew (o := 11) rfl ?_
  show J mX11_isFew d 0 0 Q 0 0 2 [some (.inr (.inr 111)), some (.inl v1)] [.inl v1, .inr (.inr 111)] h
  exact zcVi (as := [.inl v1]) (zat qX11_isFew 2 (by rfl)) l11_334 rfl hd rfl (Nat.le_of_ble_eq_true rfl) zle0 (ci := 11) (by decide) rfl (zo hr (by decide) rfl) k

theorem bX11_isFew_5 {d : Nat} {Q : Option MV → MH → Prop} {h : MH} {u0 u1 : Option MV} {vs0 : Int32} (k1 : vs0 = 0 → J mX11_isFew d 0 0 Q 0 0 20 [u0, u1] [] h) (k2 : ¬ vs0 = 0 → J mX11_isFew d 0 0 Q 0 0 8 [u0, u1] [] h) : J mX11_isFew d 0 0 Q 0 0 5 [u0, u1] [.inl vs0] h := by
  refine zrun 3 1 qX11_isFew (o := 11) rfl ?_
  show ((vs0 = 0 → J mX11_isFew d 0 0 Q 0 0 20 [u0, u1] [] h) ∧ (¬ vs0 = 0 → J mX11_isFew d 0 0 Q 0 0 8 [u0, u1] [] h))
  exact ⟨k1, k2⟩

theorem bX11_isFew_8 {d d' : Nat} {Q : Option MV → MH → Prop} {h : MH} {u0 : Option MV} {v1 : Int32} (hd : d' + 1 ≤ d) (k : Con mX11_bitsOf d' 0 0 [.inl v1] h (zri fun (x : Int32) h' => J mX11_isFew d 0 0 Q 0 0 12 [u0, some (.inl v1)] [.inl x] h')) : J mX11_isFew d 0 0 Q 0 0 8 [u0, some (.inl v1)] [] h := by
  refine zrun 4 1 qX11_isFew (o := 11) rfl ?_
  show J mX11_isFew d 0 0 Q 0 0 9 [u0, some (.inl v1)] [.inl v1] h
  exact zcSi (as := [.inl v1]) (zat qX11_isFew 5 (by rfl)) l11_348 rfl hd rfl (Nat.le_of_ble_eq_true rfl) zle0 k

theorem bX11_isFew_12 {d : Nat} {Q : Option MV → MH → Prop} {h : MH} {u0 u1 : Option MV} {vs0 : Int32} (k1 : (nI 3) ≤ vs0 → J mX11_isFew d 0 0 Q 0 0 20 [u0, u1] [] h) (k2 : ¬ (nI 3) ≤ vs0 → J mX11_isFew d 0 0 Q 0 0 16 [u0, u1] [] h) : J mX11_isFew d 0 0 Q 0 0 12 [u0, u1] [.inl vs0] h := by
  refine zrun 6 2 qX11_isFew (o := 11) rfl ?_
  show (((nI 3) ≤ vs0 → J mX11_isFew d 0 0 Q 0 0 20 [u0, u1] [] h) ∧ (¬ (nI 3) ≤ vs0 → J mX11_isFew d 0 0 Q 0 0 16 [u0, u1] [] h))
  exact ⟨k1, k2⟩

theorem bX11_isFew_16 {d : Nat} {Q : Option MV → MH → Prop} {h : MH} {u0 u1 : Option MV} (k : J mX11_isFew d 0 0 Q 0 0 21 [u0, u1] [.inl (nI 1)] h) : J mX11_isFew d 0 0 Q 0 0 16 [u0, u1] [] h := by
  refine zrun 8 2 qX11_isFew (o := 11) rfl ?_
  show J mX11_isFew d 0 0 Q 0 0 21 [u0, u1] [.inl (nI 1)] h
  exact k

theorem bX11_isFew_20 {d : Nat} {Q : Option MV → MH → Prop} {h : MH} {u0 u1 : Option MV} (k : J mX11_isFew d 0 0 Q 0 0 21 [u0, u1] [.inl (nI 0)] h) : J mX11_isFew d 0 0 Q 0 0 20 [u0, u1] [] h := by
  refine zrun 10 1 qX11_isFew (o := 11) rfl ?_
  show J mX11_isFew d 0 0 Q 0 0 21 [u0, u1] [.inl (nI 0)] h
  exact k

theorem bX11_isFew_21 {d : Nat} {Q : Option MV → MH → Prop} {h : MH} {u0 u1 : Option MV} {vs0 : Int32} (gn : vs0 = 0 ∨ vs0 = 1) (k : Q (some (.inl vs0)) h) : J mX11_isFew d 0 0 Q 0 0 21 [u0, u1] [.inl vs0] h := by
  exact J_iret (ty := .boolean) (zat qX11_isFew 11 (by rfl)) rfl (znz gn) (Nat.le_refl 0) (Nat.le_refl 0) k

theorem bX11_spanAlong_0 {d d' : Nat} {Q : Option MV → MH → Prop} {h : MH} {u2 u3 u4 u5 u6 u7 u8 : Option MV} {v1 : Int32} (hr : zRf h) (hd : d' + 1 ≤ d) (k : Con mX11_restOf d' 0 0 [.inr (.inr 111), .inl v1] h (zri fun (x : Int32) h' => J mX11_spanAlong d 0 0 Q 0 0 5 [some (.inr (.inr 111)), some (.inl v1), u2, u3, u4, u5, u6, u7, u8] [.inl x] h')) : J mX11_spanAlong d 0 0 Q 0 0 0 [some (.inr (.inr 111)), some (.inl v1), u2, u3, u4, u5, u6, u7, u8] [] h := by
  refine zrun 0 2 qX11_spanAlong (o := 11) rfl ?_
  show J mX11_spanAlong d 0 0 Q 0 0 2 [some (.inr (.inr 111)), some (.inl v1), u2, u3, u4, u5, u6, u7, u8] [.inl v1, .inr (.inr 111)] h
  exact zcVi (as := [.inl v1]) (zat qX11_spanAlong 2 (by rfl)) l11_224 rfl hd rfl (Nat.le_of_ble_eq_true rfl) zle0 (ci := 11) (by decide) rfl (zo hr (by decide) rfl) k

theorem bX11_spanAlong_5 {d : Nat} {Q : Option MV → MH → Prop} {h : MH} {u0 u1 u2 u3 u5 u6 u7 u8 : Option MV} {vs0 v4 : Int32} (k1 : v4 = 0 → J mX11_spanAlong d 0 0 Q 0 0 20 [u0, u1, u2, u3, some (.inl v4), some (.inl vs0), u6, u7, u8] [] h) (k2 : ¬ v4 = 0 → J mX11_spanAlong d 0 0 Q 0 0 12 [u0, u1, u2, u3, some (.inl v4), some (.inl vs0), u6, u7, u8] [] h) : J mX11_spanAlong d 0 0 Q 0 0 5 [u0, u1, u2, u3, some (.inl v4), u5, u6, u7, u8] [.inl vs0] h := by
  refine zrun 3 3 qX11_spanAlong (o := 11) rfl ?_
  show ((v4 = 0 → J mX11_spanAlong d 0 0 Q 0 0 20 [u0, u1, u2, u3, some (.inl v4), some (.inl vs0), u6, u7, u8] [] h) ∧ (¬ v4 = 0 → J mX11_spanAlong d 0 0 Q 0 0 12 [u0, u1, u2, u3, some (.inl v4), some (.inl vs0), u6, u7, u8] [] h))
  exact ⟨k1, k2⟩

theorem bX11_spanAlong_12 {d : Nat} {Q : Option MV → MH → Prop} {h : MH} {u0 u1 u4 u6 u7 u8 : Option MV} {v2 v3 v5 : Int32} (k1 : ¬ (v2 + v3) = v5 → J mX11_spanAlong d 0 0 Q 0 0 22 [u0, u1, some (.inl v2), some (.inl v3), u4, some (.inl v5), u6, u7, u8] [] h) (k2 : (v2 + v3) = v5 → J mX11_spanAlong d 0 0 Q 0 0 20 [u0, u1, some (.inl v2), some (.inl v3), u4, some (.inl v5), u6, u7, u8] [] h) : J mX11_spanAlong d 0 0 Q 0 0 12 [u0, u1, some (.inl v2), some (.inl v3), u4, some (.inl v5), u6, u7, u8] [] h := by
  refine zrun 6 5 qX11_spanAlong (o := 11) rfl ?_
  show ((¬ (v2 + v3) = v5 → J mX11_spanAlong d 0 0 Q 0 0 22 [u0, u1, some (.inl v2), some (.inl v3), u4, some (.inl v5), u6, u7, u8] [] h) ∧ ((v2 + v3) = v5 → J mX11_spanAlong d 0 0 Q 0 0 20 [u0, u1, some (.inl v2), some (.inl v3), u4, some (.inl v5), u6, u7, u8] [] h))
  exact ⟨k1, k2⟩

theorem bX11_spanAlong_20 {d : Nat} {Q : Option MV → MH → Prop} {h : MH} {u0 u1 u2 u3 u4 u5 u6 u7 u8 : Option MV} (k : Q (some (.inl (-(nI 1)))) h) : J mX11_spanAlong d 0 0 Q 0 0 20 [u0, u1, u2, u3, u4, u5, u6, u7, u8] [] h := by
  refine zrun 11 1 qX11_spanAlong (o := 11) rfl ?_
  show J mX11_spanAlong d 0 0 Q 0 0 21 [u0, u1, u2, u3, u4, u5, u6, u7, u8] [.inl (-(nI 1))] h
  exact J_iret (ty := .int) (zat qX11_spanAlong 12 (by rfl)) rfl rfl (Nat.le_refl 0) (Nat.le_refl 0) k

theorem bX11_spanAlong_22 {d : Nat} {Q : Option MV → MH → Prop} {h : MH} {u0 u1 u2 u3 u5 u6 u7 u8 : Option MV} {v4 : Int32} (k1 : ¬ v4 = (nI 3) → J mX11_spanAlong d 0 0 Q 0 0 39 [u0, u1, u2, u3, some (.inl v4), u5, u6, u7, u8] [] h) (k2 : v4 = (nI 3) → J mX11_spanAlong d 0 0 Q 0 0 28 [u0, u1, u2, u3, some (.inl v4), u5, u6, u7, u8] [] h) : J mX11_spanAlong d 0 0 Q 0 0 22 [u0, u1, u2, u3, some (.inl v4), u5, u6, u7, u8] [] h := by
  refine zrun 13 3 qX11_spanAlong (o := 11) rfl ?_
  show ((¬ v4 = (nI 3) → J mX11_spanAlong d 0 0 Q 0 0 39 [u0, u1, u2, u3, some (.inl v4), u5, u6, u7, u8] [] h) ∧ (v4 = (nI 3) → J mX11_spanAlong d 0 0 Q 0 0 28 [u0, u1, u2, u3, some (.inl v4), u5, u6, u7, u8] [] h))
  exact ⟨k1, k2⟩

theorem bX11_spanAlong_28 {d : Nat} {Q : Option MV → MH → Prop} {h : MH} {u0 u1 u4 u6 u7 u8 : Option MV} {v5 v2 v3 : Int32} (k : J mX11_spanAlong d 0 0 Q 0 0 45 [u0, u1, some (.inl v2), some (.inl v3), u4, some (.inl v5), u6, u7, u8] [.inl (((v5 - v2) - v3) / (nI 2))] h) : J mX11_spanAlong d 0 0 Q 0 0 28 [u0, u1, some (.inl v2), some (.inl v3), u4, some (.inl v5), u6, u7, u8] [] h := by
  refine zrun 16 8 qX11_spanAlong (o := 11) rfl ?_
  show ¬ (nI 2) = 0 ∧ J mX11_spanAlong d 0 0 Q 0 0 45 [u0, u1, some (.inl v2), some (.inl v3), u4, some (.inl v5), u6, u7, u8] [.inl (((v5 - v2) - v3) / (nI 2))] h
  exact ⟨(by decide), k⟩

theorem bX11_spanAlong_39 {d : Nat} {Q : Option MV → MH → Prop} {h : MH} {u0 u1 u4 u6 u7 u8 : Option MV} {v5 v2 v3 : Int32} (k : J mX11_spanAlong d 0 0 Q 0 0 45 [u0, u1, some (.inl v2), some (.inl v3), u4, some (.inl v5), u6, u7, u8] [.inl ((v5 - v2) - v3)] h) : J mX11_spanAlong d 0 0 Q 0 0 39 [u0, u1, some (.inl v2), some (.inl v3), u4, some (.inl v5), u6, u7, u8] [] h := by
  refine zrun 24 5 qX11_spanAlong (o := 11) rfl ?_
  show J mX11_spanAlong d 0 0 Q 0 0 45 [u0, u1, some (.inl v2), some (.inl v3), u4, some (.inl v5), u6, u7, u8] [.inl ((v5 - v2) - v3)] h
  exact k

theorem bX11_spanAlong_45 {d : Nat} {Q : Option MV → MH → Prop} {h : MH} {u0 u1 u2 u3 u4 u6 u7 u8 : Option MV} {vs0 v5 : Int32} (k : J mX11_spanAlong d 0 0 Q 0 0 53 [u0, u1, u2, u3, u4, some (.inl v5), some (.inl vs0), some (.inl (nI 0)), some (.inl (nI 0))] [] h) : J mX11_spanAlong d 0 0 Q 0 0 45 [u0, u1, u2, u3, u4, some (.inl v5), u6, u7, u8] [.inl vs0] h := by
  refine zrun 29 5 qX11_spanAlong (o := 11) rfl ?_
  show J mX11_spanAlong d 0 0 Q 0 0 53 [u0, u1, u2, u3, u4, some (.inl v5), some (.inl vs0), some (.inl (nI 0)), some (.inl (nI 0))] [] h
  exact k

theorem bX11_spanAlong_53 {d : Nat} {Q : Option MV → MH → Prop} {h : MH} {u2 u3 u4 u5 u6 u7 : Option MV} {v8 v1 : Int32} (hr : zRf h) (g0 : vp_in ((nI 1) + v1) 2166) (k1 : ((h.1 112 ((nI 1) + v1).toNatClampNeg) - (nI 1)) ≤ v8 → J mX11_spanAlong d 0 0 Q 0 0 155 [some (.inr (.inr 111)), some (.inl v1), u2, u3, u4, u5, u6, u7, some (.inl v8)] [] h) (k2 : ¬ ((h.1 112 ((nI 1) + v1).toNatClampNeg) - (nI 1)) ≤ v8 → J mX11_spanAlong d 0 0 Q 0 0 68 [some (.inr (.inr 111)), some (.inl v1), u2, u3, u4, u5, u6, u7, some (.inl v8)] [] h) : J mX11_spanAlong d 0 0 Q 0 0 53 [some (.inr (.inr 111)), some (.inl v1), u2, u3, u4, u5, u6, u7, some (.inl v8)] [] h := by
  refine zrun 34 10 qX11_spanAlong (o := 11) rfl ?_
  show zokO h 111 11 ∧ zokA h (h.2.2.1 111 1) 20 ((nI 1) + v1) ∧ ((((h.1 (h.2.2.1 111 1) ((nI 1) + v1).toNatClampNeg) - (nI 1)) ≤ v8 → J mX11_spanAlong d 0 0 Q 0 0 155 [some (.inr (.inr 111)), some (.inl v1), u2, u3, u4, u5, u6, u7, some (.inl v8)] [] h) ∧ (¬ ((h.1 (h.2.2.1 111 1) ((nI 1) + v1).toNatClampNeg) - (nI 1)) ≤ v8 → J mX11_spanAlong d 0 0 Q 0 0 68 [some (.inr (.inr 111)), some (.inl v1), u2, u3, u4, u5, u6, u7, some (.inl v8)] [] h))
  rw [(show h.2.2.1 111 1 = 112 from (hr.at (by decide) (by decide) (by rfl)))]
  exact ⟨(zo hr (by decide) rfl), (zia hr (by decide) (by rfl) g0), k1, k2⟩

theorem bX11_spanAlong_68 {d d' : Nat} {Q : Option MV → MH → Prop} {h : MH} {u2 u3 u4 u5 u6 : Option MV} {v7 v1 v8 : Int32} (hr : zRf h) (hd : d' + 1 ≤ d) (k : Con mX11_minuteOf d' 0 0 [.inr (.inr 111), .inl v1, .inl v8] h (zri fun (x : Int32) h' => J mX11_spanAlong d 0 0 Q 0 0 80 [some (.inr (.inr 111)), some (.inl v1), u2, u3, u4, u5, u6, some (.inl v7), some (.inl v8)] [.inl x, .inl (nI 256), .inl v7] h')) : J mX11_spanAlong d 0 0 Q 0 0 68 [some (.inr (.inr 111)), some (.inl v1), u2, u3, u4, u5, u6, some (.inl v7), some (.inl v8)] [] h := by
  refine zrun 44 5 qX11_spanAlong (o := 11) rfl ?_
  show J mX11_spanAlong d 0 0 Q 0 0 77 [some (.inr (.inr 111)), some (.inl v1), u2, u3, u4, u5, u6, some (.inl v7), some (.inl v8)] [.inl v8, .inl v1, .inr (.inr 111), .inl (nI 256), .inl v7] h
  exact zcVi (as := [.inl v1, .inl v8]) (zat qX11_spanAlong 49 (by rfl)) l11_218 rfl hd rfl (Nat.le_of_ble_eq_true rfl) zle0 (ci := 11) (by decide) rfl (zo hr (by decide) rfl) k

theorem bX11_spanAlong_80 {d : Nat} {Q : Option MV → MH → Prop} {h : MH} {u0 u1 u2 u3 u5 u7 u8 : Option MV} {vs0 vs1 vs2 v6 v4 : Int32} (k1 : ¬ (v4 &&& (nI 1)) = (nI 1) → J mX11_spanAlong d 0 0 Q 0 0 113 [u0, u1, u2, u3, some (.inl v4), u5, some (.inl v6), some (.inl (vs0 + (vs1 * vs2))), u8] [] h) (k2 : (v4 &&& (nI 1)) = (nI 1) → J mX11_spanAlong d 0 0 Q 0 0 92 [u0, u1, u2, u3, some (.inl v4), u5, some (.inl v6), some (.inl (vs0 + (vs1 * vs2))), u8] [] h) : J mX11_spanAlong d 0 0 Q 0 0 80 [u0, u1, u2, u3, some (.inl v4), u5, some (.inl v6), u7, u8] [.inl vs2, .inl vs1, .inl vs0] h := by
  refine zrun 50 8 qX11_spanAlong (o := 11) rfl ?_
  show ((¬ (v4 &&& (nI 1)) = (nI 1) → J mX11_spanAlong d 0 0 Q 0 0 113 [u0, u1, u2, u3, some (.inl v4), u5, some (.inl v6), some (.inl (vs0 + (vs1 * vs2))), u8] [] h) ∧ ((v4 &&& (nI 1)) = (nI 1) → J mX11_spanAlong d 0 0 Q 0 0 92 [u0, u1, u2, u3, some (.inl v4), u5, some (.inl v6), some (.inl (vs0 + (vs1 * vs2))), u8] [] h))
  exact ⟨k1, k2⟩

theorem bX11_spanAlong_92 {d : Nat} {Q : Option MV → MH → Prop} {h : MH} {u0 u1 u3 u4 u5 u6 u8 : Option MV} {v7 v2 : Int32} (k1 : v7 ≤ v2 → J mX11_spanAlong d 0 0 Q 0 0 113 [u0, u1, some (.inl v2), u3, u4, u5, u6, some (.inl v7), u8] [] h) (k2 : ¬ v7 ≤ v2 → J mX11_spanAlong d 0 0 Q 0 0 98 [u0, u1, some (.inl v2), u3, u4, u5, u6, some (.inl v7), u8] [] h) : J mX11_spanAlong d 0 0 Q 0 0 92 [u0, u1, some (.inl v2), u3, u4, u5, u6, some (.inl v7), u8] [] h := by
  refine zrun 58 3 qX11_spanAlong (o := 11) rfl ?_
  show ((v7 ≤ v2 → J mX11_spanAlong d 0 0 Q 0 0 113 [u0, u1, some (.inl v2), u3, u4, u5, u6, some (.inl v7), u8] [] h) ∧ (¬ v7 ≤ v2 → J mX11_spanAlong d 0 0 Q 0 0 98 [u0, u1, some (.inl v2), u3, u4, u5, u6, some (.inl v7), u8] [] h))
  exact ⟨k1, k2⟩

theorem bX11_spanAlong_98 {d : Nat} {Q : Option MV → MH → Prop} {h : MH} {u0 u1 u3 u4 u5 u8 : Option MV} {v7 v2 v6 : Int32} (k1 : v6 ≤ (v7 - v2) → J mX11_spanAlong d 0 0 Q 0 0 113 [u0, u1, some (.inl v2), u3, u4, u5, some (.inl v6), some (.inl v7), u8] [] h) (k2 : ¬ v6 ≤ (v7 - v2) → J mX11_spanAlong d 0 0 Q 0 0 107 [u0, u1, some (.inl v2), u3, u4, u5, some (.inl v6), some (.inl v7), u8] [] h) : J mX11_spanAlong d 0 0 Q 0 0 98 [u0, u1, some (.inl v2), u3, u4, u5, some (.inl v6), some (.inl v7), u8] [] h := by
  refine zrun 61 5 qX11_spanAlong (o := 11) rfl ?_
  show ((v6 ≤ (v7 - v2) → J mX11_spanAlong d 0 0 Q 0 0 113 [u0, u1, some (.inl v2), u3, u4, u5, some (.inl v6), some (.inl v7), u8] [] h) ∧ (¬ v6 ≤ (v7 - v2) → J mX11_spanAlong d 0 0 Q 0 0 107 [u0, u1, some (.inl v2), u3, u4, u5, some (.inl v6), some (.inl v7), u8] [] h))
  exact ⟨k1, k2⟩

theorem bX11_spanAlong_107 {d : Nat} {Q : Option MV → MH → Prop} {h : MH} {u0 u1 u3 u4 u6 u8 : Option MV} {v7 v2 v5 : Int32} (k : J mX11_spanAlong d 0 0 Q 0 0 113 [u0, u1, some (.inl v2), u3, u4, some (.inl v5), some (.inl (v7 - v2)), some (.inl v7), u8] [] h) : J mX11_spanAlong d 0 0 Q 0 0 107 [u0, u1, some (.inl v2), u3, u4, some (.inl v5), u6, some (.inl v7), u8] [] h := by
  refine zrun 66 4 qX11_spanAlong (o := 11) rfl ?_
  show J mX11_spanAlong d 0 0 Q 0 0 113 [u0, u1, some (.inl v2), u3, u4, some (.inl v5), some (.inl (v7 - v2)), some (.inl v7), u8] [] h
  exact k

theorem bX11_spanAlong_113 {d : Nat} {Q : Option MV → MH → Prop} {h : MH} {u0 u1 u2 u3 u5 u6 u7 u8 : Option MV} {v4 : Int32} (k1 : v4 ≤ (nI 1) → J mX11_spanAlong d 0 0 Q 0 0 149 [u0, u1, u2, u3, some (.inl v4), u5, u6, u7, u8] [] h) (k2 : ¬ v4 ≤ (nI 1) → J mX11_spanAlong d 0 0 Q 0 0 119 [u0, u1, u2, u3, some (.inl v4), u5, u6, u7, u8] [] h) : J mX11_spanAlong d 0 0 Q 0 0 113 [u0, u1, u2, u3, some (.inl v4), u5, u6, u7, u8] [] h := by
  refine zrun 70 3 qX11_spanAlong (o := 11) rfl ?_
  show ((v4 ≤ (nI 1) → J mX11_spanAlong d 0 0 Q 0 0 149 [u0, u1, u2, u3, some (.inl v4), u5, u6, u7, u8] [] h) ∧ (¬ v4 ≤ (nI 1) → J mX11_spanAlong d 0 0 Q 0 0 119 [u0, u1, u2, u3, some (.inl v4), u5, u6, u7, u8] [] h))
  exact ⟨k1, k2⟩

theorem bX11_spanAlong_119 {d : Nat} {Q : Option MV → MH → Prop} {h : MH} {u0 u1 u2 u4 u6 u8 : Option MV} {v5 v7 v3 : Int32} (k1 : (v5 - v7) ≤ v3 → J mX11_spanAlong d 0 0 Q 0 0 149 [u0, u1, u2, some (.inl v3), u4, some (.inl v5), u6, some (.inl v7), u8] [] h) (k2 : ¬ (v5 - v7) ≤ v3 → J mX11_spanAlong d 0 0 Q 0 0 128 [u0, u1, u2, some (.inl v3), u4, some (.inl v5), u6, some (.inl v7), u8] [] h) : J mX11_spanAlong d 0 0 Q 0 0 119 [u0, u1, u2, some (.inl v3), u4, some (.inl v5), u6, some (.inl v7), u8] [] h := by
  refine zrun 73 5 qX11_spanAlong (o := 11) rfl ?_
  show (((v5 - v7) ≤ v3 → J mX11_spanAlong d 0 0 Q 0 0 149 [u0, u1, u2, some (.inl v3), u4, some (.inl v5), u6, some (.inl v7), u8] [] h) ∧ (¬ (v5 - v7) ≤ v3 → J mX11_spanAlong d 0 0 Q 0 0 128 [u0, u1, u2, some (.inl v3), u4, some (.inl v5), u6, some (.inl v7), u8] [] h))
  exact ⟨k1, k2⟩

theorem bX11_spanAlong_128 {d : Nat} {Q : Option MV → MH → Prop} {h : MH} {u0 u1 u2 u4 u8 : Option MV} {v5 v7 v3 v6 : Int32} (k1 : v6 ≤ ((v5 - v7) - v3) → J mX11_spanAlong d 0 0 Q 0 0 149 [u0, u1, u2, some (.inl v3), u4, some (.inl v5), some (.inl v6), some (.inl v7), u8] [] h) (k2 : ¬ v6 ≤ ((v5 - v7) - v3) → J mX11_spanAlong d 0 0 Q 0 0 140 [u0, u1, u2, some (.inl v3), u4, some (.inl v5), some (.inl v6), some (.inl v7), u8] [] h) : J mX11_spanAlong d 0 0 Q 0 0 128 [u0, u1, u2, some (.inl v3), u4, some (.inl v5), some (.inl v6), some (.inl v7), u8] [] h := by
  refine zrun 78 7 qX11_spanAlong (o := 11) rfl ?_
  show ((v6 ≤ ((v5 - v7) - v3) → J mX11_spanAlong d 0 0 Q 0 0 149 [u0, u1, u2, some (.inl v3), u4, some (.inl v5), some (.inl v6), some (.inl v7), u8] [] h) ∧ (¬ v6 ≤ ((v5 - v7) - v3) → J mX11_spanAlong d 0 0 Q 0 0 140 [u0, u1, u2, some (.inl v3), u4, some (.inl v5), some (.inl v6), some (.inl v7), u8] [] h))
  exact ⟨k1, k2⟩

theorem bX11_spanAlong_140 {d : Nat} {Q : Option MV → MH → Prop} {h : MH} {u0 u1 u2 u4 u6 u8 : Option MV} {v5 v7 v3 : Int32} (k : J mX11_spanAlong d 0 0 Q 0 0 149 [u0, u1, u2, some (.inl v3), u4, some (.inl v5), some (.inl ((v5 - v7) - v3)), some (.inl v7), u8] [] h) : J mX11_spanAlong d 0 0 Q 0 0 140 [u0, u1, u2, some (.inl v3), u4, some (.inl v5), u6, some (.inl v7), u8] [] h := by
  refine zrun 85 6 qX11_spanAlong (o := 11) rfl ?_
  show J mX11_spanAlong d 0 0 Q 0 0 149 [u0, u1, u2, some (.inl v3), u4, some (.inl v5), some (.inl ((v5 - v7) - v3)), some (.inl v7), u8] [] h
  exact k

theorem bX11_spanAlong_149 {d : Nat} {Q : Option MV → MH → Prop} {h : MH} {u0 u1 u2 u3 u4 u5 u6 : Option MV} {v8 v7 : Int32} (k : J mX11_spanAlong d 0 0 Q 0 0 53 [u0, u1, u2, u3, u4, u5, u6, some (.inl v7), some (.inl (v8 + nI 1))] [] h) : J mX11_spanAlong d 0 0 Q 0 0 149 [u0, u1, u2, u3, u4, u5, u6, some (.inl v7), some (.inl v8)] [] h := by
  refine zrun 91 2 qX11_spanAlong (o := 11) rfl ?_
  show J mX11_spanAlong d 0 0 Q 0 0 53 [u0, u1, u2, u3, u4, u5, u6, some (.inl v7), some (.inl (v8 + nI 1))] [] h
  exact k

theorem bX11_spanAlong_155 {d : Nat} {Q : Option MV → MH → Prop} {h : MH} {u0 u1 u2 u3 u4 u5 u7 u8 : Option MV} {v6 : Int32} (k : Q (some (.inl v6)) h) : J mX11_spanAlong d 0 0 Q 0 0 155 [u0, u1, u2, u3, u4, u5, some (.inl v6), u7, u8] [] h := by
  refine zrun 93 1 qX11_spanAlong (o := 11) rfl ?_
  show J mX11_spanAlong d 0 0 Q 0 0 157 [u0, u1, u2, u3, u4, u5, some (.inl v6), u7, u8] [.inl v6] h
  exact J_iret (ty := .int) (zat qX11_spanAlong 94 (by rfl)) rfl rfl (Nat.le_refl 0) (Nat.le_refl 0) k

theorem bX11_isBurnt_0 {d d' : Nat} {Q : Option MV → MH → Prop} {h : MH} {v1 v2 : Int32} (hr : zRf h) (g0 : vp_in (((nI 2) * v1) + v2) 128) (g1 : vp_in v2 4) (hd : d' + 1 ≤ d) (k : Con mX11_restOf d' 0 0 [.inr (.inr 111), .inl (h.1 127 v2.toNatClampNeg)] h (zri fun (x : Int32) h' => J mX11_isBurnt d 0 0 Q 0 0 31 [some (.inr (.inr 111)), some (.inl v1), some (.inl v2)] [.inl x, .inl ((h.1 136 (((nI 2) * v1) + v2).toNatClampNeg) + (h.1 137 (((nI 2) * v1) + v2).toNatClampNeg))] h')) : J mX11_isBurnt d 0 0 Q 0 0 0 [some (.inr (.inr 111)), some (.inl v1), some (.inl v2)] [] h := by
  refine zrun 0 22 qX11_isBurnt (o := 11) rfl ?_
  show zokO h 111 11 ∧ zokA h (h.2.2.1 111 49) 20 (((nI 2) * v1) + v2) ∧ zokO h 111 11 ∧ zokA h (h.2.2.1 111 50) 20 (((nI 2) * v1) + v2) ∧ zokO h 111 11 ∧ zokA h (h.2.2.1 111 33) 20 v2 ∧ J mX11_isBurnt d 0 0 Q 0 0 28 [some (.inr (.inr 111)), some (.inl v1), some (.inl v2)] [.inl (h.1 (h.2.2.1 111 33) v2.toNatClampNeg), .inr (.inr 111), .inl ((h.1 (h.2.2.1 111 49) (((nI 2) * v1) + v2).toNatClampNeg) + (h.1 (h.2.2.1 111 50) (((nI 2) * v1) + v2).toNatClampNeg))] h
  rw [(show h.2.2.1 111 49 = 136 from (hr.at (by decide) (by decide) (by rfl))), (show h.2.2.1 111 50 = 137 from (hr.at (by decide) (by decide) (by rfl))), (show h.2.2.1 111 33 = 127 from (hr.at (by decide) (by decide) (by rfl)))]
  exact ⟨(zo hr (by decide) rfl), (zia hr (by decide) (by rfl) g0), (zo hr (by decide) rfl), (zia hr (by decide) (by rfl) g0), (zo hr (by decide) rfl), (zia hr (by decide) (by rfl) g1), zcVi (as := [.inl (h.1 127 v2.toNatClampNeg)]) (zat qX11_isBurnt 22 (by rfl)) l11_224 rfl hd rfl (Nat.le_of_ble_eq_true rfl) zle0 (ci := 11) (by decide) rfl (zo hr (by decide) rfl) k⟩

theorem bX11_isBurnt_31 {d : Nat} {Q : Option MV → MH → Prop} {h : MH} {u0 u1 u2 : Option MV} {vs0 vs1 : Int32} (k1 : ¬ vs0 = vs1 → J mX11_isBurnt d 0 0 Q 0 0 38 [u0, u1, u2] [] h) (k2 : vs0 = vs1 → J mX11_isBurnt d 0 0 Q 0 0 34 [u0, u1, u2] [] h) : J mX11_isBurnt d 0 0 Q 0 0 31 [u0, u1, u2] [.inl vs1, .inl vs0] h := by
  refine zrun 23 1 qX11_isBurnt (o := 11) rfl ?_
  show ((¬ vs0 = vs1 → J mX11_isBurnt d 0 0 Q 0 0 38 [u0, u1, u2] [] h) ∧ (vs0 = vs1 → J mX11_isBurnt d 0 0 Q 0 0 34 [u0, u1, u2] [] h))
  exact ⟨k1, k2⟩

theorem bX11_isBurnt_34 {d : Nat} {Q : Option MV → MH → Prop} {h : MH} {u0 u1 u2 : Option MV} (k : J mX11_isBurnt d 0 0 Q 0 0 39 [u0, u1, u2] [.inl (nI 1)] h) : J mX11_isBurnt d 0 0 Q 0 0 34 [u0, u1, u2] [] h := by
  refine zrun 24 2 qX11_isBurnt (o := 11) rfl ?_
  show J mX11_isBurnt d 0 0 Q 0 0 39 [u0, u1, u2] [.inl (nI 1)] h
  exact k

theorem bX11_isBurnt_38 {d : Nat} {Q : Option MV → MH → Prop} {h : MH} {u0 u1 u2 : Option MV} (k : J mX11_isBurnt d 0 0 Q 0 0 39 [u0, u1, u2] [.inl (nI 0)] h) : J mX11_isBurnt d 0 0 Q 0 0 38 [u0, u1, u2] [] h := by
  refine zrun 26 1 qX11_isBurnt (o := 11) rfl ?_
  show J mX11_isBurnt d 0 0 Q 0 0 39 [u0, u1, u2] [.inl (nI 0)] h
  exact k

theorem bX11_isBurnt_39 {d : Nat} {Q : Option MV → MH → Prop} {h : MH} {u0 u1 u2 : Option MV} {vs0 : Int32} (gn : vs0 = 0 ∨ vs0 = 1) (k : Q (some (.inl vs0)) h) : J mX11_isBurnt d 0 0 Q 0 0 39 [u0, u1, u2] [.inl vs0] h := by
  exact J_iret (ty := .boolean) (zat qX11_isBurnt 27 (by rfl)) rfl (znz gn) (Nat.le_refl 0) (Nat.le_refl 0) k

theorem bX11_goesAlong_0 {d : Nat} {Q : Option MV → MH → Prop} {h : MH} {u0 u1 u3 u4 u5 u6 u7 u8 u9 : Option MV} {v2 : Int32} (k : J mX11_goesAlong d 0 0 Q 0 0 2 [u0, u1, some (.inl v2), some (.inl (nI 0)), u4, u5, u6, u7, u8, u9] [] h) : J mX11_goesAlong d 0 0 Q 0 0 0 [u0, u1, some (.inl v2), u3, u4, u5, u6, u7, u8, u9] [] h := by
  refine zrun 0 2 qX11_goesAlong (o := 11) rfl ?_
  show J mX11_goesAlong d 0 0 Q 0 0 2 [u0, u1, some (.inl v2), some (.inl (nI 0)), u4, u5, u6, u7, u8, u9] [] h
  exact k

theorem bX11_goesAlong_2 {d : Nat} {Q : Option MV → MH → Prop} {h : MH} {u0 u1 u2 u4 u5 u6 u7 u8 u9 : Option MV} {v3 : Int32} (k1 : (nI 16) ≤ v3 → J mX11_goesAlong d 0 0 Q 0 0 358 [u0, u1, u2, some (.inl v3), u4, u5, u6, u7, u8, u9] [] h) (k2 : ¬ (nI 16) ≤ v3 → J mX11_goesAlong d 0 0 Q 0 0 8 [u0, u1, u2, some (.inl v3), u4, u5, u6, u7, u8, u9] [] h) : J mX11_goesAlong d 0 0 Q 0 0 2 [u0, u1, u2, some (.inl v3), u4, u5, u6, u7, u8, u9] [] h := by
  refine zrun 2 3 qX11_goesAlong (o := 11) rfl ?_
  show (((nI 16) ≤ v3 → J mX11_goesAlong d 0 0 Q 0 0 358 [u0, u1, u2, some (.inl v3), u4, u5, u6, u7, u8, u9] [] h) ∧ (¬ (nI 16) ≤ v3 → J mX11_goesAlong d 0 0 Q 0 0 8 [u0, u1, u2, some (.inl v3), u4, u5, u6, u7, u8, u9] [] h))
  exact ⟨k1, k2⟩

theorem bX11_goesAlong_8 {d : Nat} {Q : Option MV → MH → Prop} {h : MH} {u0 u1 u2 u4 u5 u6 u7 u8 u9 : Option MV} {v3 : Int32} (k : J mX11_goesAlong d 0 0 Q 0 0 17 [u0, u1, u2, some (.inl v3), some (.inl (nI 1)), some (.inl (-(nI 1))), some (.inl (nI 0)), u7, u8, u9] [] h) : J mX11_goesAlong d 0 0 Q 0 0 8 [u0, u1, u2, some (.inl v3), u4, u5, u6, u7, u8, u9] [] h := by
  refine zrun 5 6 qX11_goesAlong (o := 11) rfl ?_
  show J mX11_goesAlong d 0 0 Q 0 0 17 [u0, u1, u2, some (.inl v3), some (.inl (nI 1)), some (.inl (-(nI 1))), some (.inl (nI 0)), u7, u8, u9] [] h
  exact k

theorem bX11_goesAlong_17 {d : Nat} {Q : Option MV → MH → Prop} {h : MH} {u0 u1 u2 u3 u4 u5 u7 u8 u9 : Option MV} {v6 : Int32} (k1 : (nI 2) ≤ v6 → J mX11_goesAlong d 0 0 Q 0 0 174 [u0, u1, u2, u3, u4, u5, some (.inl v6), u7, u8, u9] [] h) (k2 : ¬ (nI 2) ≤ v6 → J mX11_goesAlong d 0 0 Q 0 0 23 [u0, u1, u2, u3, u4, u5, some (.inl v6), u7, u8, u9] [] h) : J mX11_goesAlong d 0 0 Q 0 0 17 [u0, u1, u2, u3, u4, u5, some (.inl v6), u7, u8, u9] [] h := by
  refine zrun 11 3 qX11_goesAlong (o := 11) rfl ?_
  show (((nI 2) ≤ v6 → J mX11_goesAlong d 0 0 Q 0 0 174 [u0, u1, u2, u3, u4, u5, some (.inl v6), u7, u8, u9] [] h) ∧ (¬ (nI 2) ≤ v6 → J mX11_goesAlong d 0 0 Q 0 0 23 [u0, u1, u2, u3, u4, u5, some (.inl v6), u7, u8, u9] [] h))
  exact ⟨k1, k2⟩

theorem bX11_goesAlong_23 {d : Nat} {Q : Option MV → MH → Prop} {h : MH} {u1 u2 u4 u5 u7 u8 u9 : Option MV} {v3 v6 : Int32} (hr : zRf h) (k1 : (h.1 111 38) ≤ v6 → J mX11_goesAlong d 0 0 Q 0 0 52 [some (.inr (.inr 111)), u1, u2, some (.inl v3), u4, u5, some (.inl v6), some (.inl ((v3 >>> (((nI 2) * v6) &&& 31)) &&& (nI 3))), u8, u9] [] h) (k2 : ¬ (h.1 111 38) ≤ v6 → J mX11_goesAlong d 0 0 Q 0 0 42 [some (.inr (.inr 111)), u1, u2, some (.inl v3), u4, u5, some (.inl v6), some (.inl ((v3 >>> (((nI 2) * v6) &&& 31)) &&& (nI 3))), u8, u9] [] h) : J mX11_goesAlong d 0 0 Q 0 0 23 [some (.inr (.inr 111)), u1, u2, some (.inl v3), u4, u5, some (.inl v6), u7, u8, u9] [] h := by
  refine zrun 14 12 qX11_goesAlong (o := 11) rfl ?_
  show zokO h 111 11 ∧ (((h.1 111 38) ≤ v6 → J mX11_goesAlong d 0 0 Q 0 0 52 [some (.inr (.inr 111)), u1, u2, some (.inl v3), u4, u5, some (.inl v6), some (.inl ((v3 >>> (((nI 2) * v6) &&& 31)) &&& (nI 3))), u8, u9] [] h) ∧ (¬ (h.1 111 38) ≤ v6 → J mX11_goesAlong d 0 0 Q 0 0 42 [some (.inr (.inr 111)), u1, u2, some (.inl v3), u4, u5, some (.inl v6), some (.inl ((v3 >>> (((nI 2) * v6) &&& 31)) &&& (nI 3))), u8, u9] [] h))
  exact ⟨(zo hr (by decide) rfl), k1, k2⟩

theorem bX11_goesAlong_42 {d d' : Nat} {Q : Option MV → MH → Prop} {h : MH} {u2 u3 u4 u5 u7 u8 u9 : Option MV} {v1 v6 : Int32} (hr : zRf h) (hd : d' + 1 ≤ d) (k : Con mX11_isBurnt d' 0 0 [.inr (.inr 111), .inl v1, .inl v6] h (zri fun (x : Int32) h' => J mX11_goesAlong d 0 0 Q 0 0 49 [some (.inr (.inr 111)), some (.inl v1), u2, u3, u4, u5, some (.inl v6), u7, u8, u9] [.inl x] h')) : J mX11_goesAlong d 0 0 Q 0 0 42 [some (.inr (.inr 111)), some (.inl v1), u2, u3, u4, u5, some (.inl v6), u7, u8, u9] [] h := by
  refine zrun 26 3 qX11_goesAlong (o := 11) rfl ?_
  show J mX11_goesAlong d 0 0 Q 0 0 46 [some (.inr (.inr 111)), some (.inl v1), u2, u3, u4, u5, some (.inl v6), u7, u8, u9] [.inl v6, .inl v1, .inr (.inr 111)] h
  exact zcVi (as := [.inl v1, .inl v6]) (zat qX11_goesAlong 29 (by rfl)) l11_360 rfl hd rfl (Nat.le_of_ble_eq_true rfl) zle0 (ci := 11) (by decide) rfl (zo hr (by decide) rfl) k

theorem bX11_goesAlong_49 {d : Nat} {Q : Option MV → MH → Prop} {h : MH} {u0 u1 u2 u3 u4 u5 u6 u7 u8 u9 : Option MV} {vs0 : Int32} (k1 : vs0 = 0 → J mX11_goesAlong d 0 0 Q 0 0 72 [u0, u1, u2, u3, u4, u5, u6, u7, u8, u9] [] h) (k2 : ¬ vs0 = 0 → J mX11_goesAlong d 0 0 Q 0 0 52 [u0, u1, u2, u3, u4, u5, u6, u7, u8, u9] [] h) : J mX11_goesAlong d 0 0 Q 0 0 49 [u0, u1, u2, u3, u4, u5, u6, u7, u8, u9] [.inl vs0] h := by
  refine zrun 30 1 qX11_goesAlong (o := 11) rfl ?_
  show ((vs0 = 0 → J mX11_goesAlong d 0 0 Q 0 0 72 [u0, u1, u2, u3, u4, u5, u6, u7, u8, u9] [] h) ∧ (¬ vs0 = 0 → J mX11_goesAlong d 0 0 Q 0 0 52 [u0, u1, u2, u3, u4, u5, u6, u7, u8, u9] [] h))
  exact ⟨k1, k2⟩

theorem bX11_goesAlong_52 {d : Nat} {Q : Option MV → MH → Prop} {h : MH} {u0 u1 u2 u3 u5 u6 u7 u8 u9 : Option MV} {v4 : Int32} (k1 : v4 = 0 → J mX11_goesAlong d 0 0 Q 0 0 66 [u0, u1, u2, u3, some (.inl v4), u5, u6, u7, u8, u9] [] h) (k2 : ¬ v4 = 0 → J mX11_goesAlong d 0 0 Q 0 0 57 [u0, u1, u2, u3, some (.inl v4), u5, u6, u7, u8, u9] [] h) : J mX11_goesAlong d 0 0 Q 0 0 52 [u0, u1, u2, u3, some (.inl v4), u5, u6, u7, u8, u9] [] h := by
  refine zrun 31 2 qX11_goesAlong (o := 11) rfl ?_
  show ((v4 = 0 → J mX11_goesAlong d 0 0 Q 0 0 66 [u0, u1, u2, u3, some (.inl v4), u5, u6, u7, u8, u9] [] h) ∧ (¬ v4 = 0 → J mX11_goesAlong d 0 0 Q 0 0 57 [u0, u1, u2, u3, some (.inl v4), u5, u6, u7, u8, u9] [] h))
  exact ⟨k1, k2⟩

theorem bX11_goesAlong_57 {d : Nat} {Q : Option MV → MH → Prop} {h : MH} {u0 u1 u2 u3 u4 u5 u6 u8 u9 : Option MV} {v7 : Int32} (k1 : ¬ v7 = 0 → J mX11_goesAlong d 0 0 Q 0 0 66 [u0, u1, u2, u3, u4, u5, u6, some (.inl v7), u8, u9] [] h) (k2 : v7 = 0 → J mX11_goesAlong d 0 0 Q 0 0 62 [u0, u1, u2, u3, u4, u5, u6, some (.inl v7), u8, u9] [] h) : J mX11_goesAlong d 0 0 Q 0 0 57 [u0, u1, u2, u3, u4, u5, u6, some (.inl v7), u8, u9] [] h := by
  refine zrun 33 2 qX11_goesAlong (o := 11) rfl ?_
  show ((¬ v7 = 0 → J mX11_goesAlong d 0 0 Q 0 0 66 [u0, u1, u2, u3, u4, u5, u6, some (.inl v7), u8, u9] [] h) ∧ (v7 = 0 → J mX11_goesAlong d 0 0 Q 0 0 62 [u0, u1, u2, u3, u4, u5, u6, some (.inl v7), u8, u9] [] h))
  exact ⟨k1, k2⟩

theorem bX11_goesAlong_62 {d : Nat} {Q : Option MV → MH → Prop} {h : MH} {u0 u1 u2 u3 u4 u5 u6 u7 u8 u9 : Option MV} (k : J mX11_goesAlong d 0 0 Q 0 0 67 [u0, u1, u2, u3, u4, u5, u6, u7, u8, u9] [.inl (nI 1)] h) : J mX11_goesAlong d 0 0 Q 0 0 62 [u0, u1, u2, u3, u4, u5, u6, u7, u8, u9] [] h := by
  refine zrun 35 2 qX11_goesAlong (o := 11) rfl ?_
  show J mX11_goesAlong d 0 0 Q 0 0 67 [u0, u1, u2, u3, u4, u5, u6, u7, u8, u9] [.inl (nI 1)] h
  exact k

theorem bX11_goesAlong_66 {d : Nat} {Q : Option MV → MH → Prop} {h : MH} {u0 u1 u2 u3 u4 u5 u6 u7 u8 u9 : Option MV} (k : J mX11_goesAlong d 0 0 Q 0 0 67 [u0, u1, u2, u3, u4, u5, u6, u7, u8, u9] [.inl (nI 0)] h) : J mX11_goesAlong d 0 0 Q 0 0 66 [u0, u1, u2, u3, u4, u5, u6, u7, u8, u9] [] h := by
  refine zrun 37 1 qX11_goesAlong (o := 11) rfl ?_
  show J mX11_goesAlong d 0 0 Q 0 0 67 [u0, u1, u2, u3, u4, u5, u6, u7, u8, u9] [.inl (nI 0)] h
  exact k

theorem bX11_goesAlong_67 {d : Nat} {Q : Option MV → MH → Prop} {h : MH} {u0 u1 u2 u4 u5 u6 u7 u8 u9 : Option MV} {vs0 v3 : Int32} (k : J mX11_goesAlong d 0 0 Q 0 0 168 [u0, u1, u2, some (.inl v3), some (.inl vs0), u5, u6, u7, u8, u9] [] h) : J mX11_goesAlong d 0 0 Q 0 0 67 [u0, u1, u2, some (.inl v3), u4, u5, u6, u7, u8, u9] [.inl vs0] h := by
  refine zrun 38 2 qX11_goesAlong (o := 11) rfl ?_
  show J mX11_goesAlong d 0 0 Q 0 0 168 [u0, u1, u2, some (.inl v3), some (.inl vs0), u5, u6, u7, u8, u9] [] h
  exact k

theorem bX11_goesAlong_72 {d : Nat} {Q : Option MV → MH → Prop} {h : MH} {u2 u3 u5 u8 u9 : Option MV} {v1 v6 v7 v4 : Int32} (hr : zRf h) (g0 : vp_in (((nI 2) * v1) + v6) 128) (k1 : v4 = 0 → J mX11_goesAlong d 0 0 Q 0 0 102 [some (.inr (.inr 111)), some (.inl v1), u2, u3, some (.inl v4), u5, some (.inl v6), some (.inl v7), some (.inl (h.1 138 (((nI 2) * v1) + v6).toNatClampNeg)), u9] [] h) (k2 : ¬ v4 = 0 → J mX11_goesAlong d 0 0 Q 0 0 90 [some (.inr (.inr 111)), some (.inl v1), u2, u3, some (.inl v4), u5, some (.inl v6), some (.inl v7), some (.inl (h.1 138 (((nI 2) * v1) + v6).toNatClampNeg)), u9] [] h) : J mX11_goesAlong d 0 0 Q 0 0 72 [some (.inr (.inr 111)), some (.inl v1), u2, u3, some (.inl v4), u5, some (.inl v6), some (.inl v7), u8, u9] [] h := by
  refine zrun 40 11 qX11_goesAlong (o := 11) rfl ?_
  show zokO h 111 11 ∧ zokA h (h.2.2.1 111 51) 20 (((nI 2) * v1) + v6) ∧ ((v4 = 0 → J mX11_goesAlong d 0 0 Q 0 0 102 [some (.inr (.inr 111)), some (.inl v1), u2, u3, some (.inl v4), u5, some (.inl v6), some (.inl v7), some (.inl (h.1 (h.2.2.1 111 51) (((nI 2) * v1) + v6).toNatClampNeg)), u9] [] h) ∧ (¬ v4 = 0 → J mX11_goesAlong d 0 0 Q 0 0 90 [some (.inr (.inr 111)), some (.inl v1), u2, u3, some (.inl v4), u5, some (.inl v6), some (.inl v7), some (.inl (h.1 (h.2.2.1 111 51) (((nI 2) * v1) + v6).toNatClampNeg)), u9] [] h))
  rw [(show h.2.2.1 111 51 = 138 from (hr.at (by decide) (by decide) (by rfl)))]
  exact ⟨(zo hr (by decide) rfl), (zia hr (by decide) (by rfl) g0), k1, k2⟩

theorem bX11_goesAlong_90 {d : Nat} {Q : Option MV → MH → Prop} {h : MH} {u0 u1 u2 u3 u4 u5 u6 u9 : Option MV} {v7 v8 : Int32} (k1 : ¬ (v7 &&& v8) = 0 → J mX11_goesAlong d 0 0 Q 0 0 102 [u0, u1, u2, u3, u4, u5, u6, some (.inl v7), some (.inl v8), u9] [] h) (k2 : (v7 &&& v8) = 0 → J mX11_goesAlong d 0 0 Q 0 0 98 [u0, u1, u2, u3, u4, u5, u6, some (.inl v7), some (.inl v8), u9] [] h) : J mX11_goesAlong d 0 0 Q 0 0 90 [u0, u1, u2, u3, u4, u5, u6, some (.inl v7), some (.inl v8), u9] [] h := by
  refine zrun 51 4 qX11_goesAlong (o := 11) rfl ?_
  show ((¬ (v7 &&& v8) = 0 → J mX11_goesAlong d 0 0 Q 0 0 102 [u0, u1, u2, u3, u4, u5, u6, some (.inl v7), some (.inl v8), u9] [] h) ∧ ((v7 &&& v8) = 0 → J mX11_goesAlong d 0 0 Q 0 0 98 [u0, u1, u2, u3, u4, u5, u6, some (.inl v7), some (.inl v8), u9] [] h))
  exact ⟨k1, k2⟩

theorem bX11_goesAlong_98 {d : Nat} {Q : Option MV → MH → Prop} {h : MH} {u0 u1 u2 u3 u4 u5 u6 u7 u8 u9 : Option MV} (k : J mX11_goesAlong d 0 0 Q 0 0 103 [u0, u1, u2, u3, u4, u5, u6, u7, u8, u9] [.inl (nI 1)] h) : J mX11_goesAlong d 0 0 Q 0 0 98 [u0, u1, u2, u3, u4, u5, u6, u7, u8, u9] [] h := by
  refine zrun 55 2 qX11_goesAlong (o := 11) rfl ?_
  show J mX11_goesAlong d 0 0 Q 0 0 103 [u0, u1, u2, u3, u4, u5, u6, u7, u8, u9] [.inl (nI 1)] h
  exact k

theorem bX11_goesAlong_102 {d : Nat} {Q : Option MV → MH → Prop} {h : MH} {u0 u1 u2 u3 u4 u5 u6 u7 u8 u9 : Option MV} (k : J mX11_goesAlong d 0 0 Q 0 0 103 [u0, u1, u2, u3, u4, u5, u6, u7, u8, u9] [.inl (nI 0)] h) : J mX11_goesAlong d 0 0 Q 0 0 102 [u0, u1, u2, u3, u4, u5, u6, u7, u8, u9] [] h := by
  refine zrun 57 1 qX11_goesAlong (o := 11) rfl ?_
  show J mX11_goesAlong d 0 0 Q 0 0 103 [u0, u1, u2, u3, u4, u5, u6, u7, u8, u9] [.inl (nI 0)] h
  exact k

theorem bX11_goesAlong_103 {d d' : Nat} {Q : Option MV → MH → Prop} {h : MH} {u2 u4 u5 u9 : Option MV} {vs0 v3 v6 v1 v8 v7 : Int32} (hr : zRf h) (g0 : vp_in v6 4) (g1 : vp_in (((nI 2) * v1) + v6) 128) (hd : d' + 1 ≤ d) (k : Con mX11_spanAlong d' 0 0 [.inr (.inr 111), .inl (h.1 127 v6.toNatClampNeg), .inl (h.1 136 (((nI 2) * v1) + v6).toNatClampNeg), .inl (h.1 137 (((nI 2) * v1) + v6).toNatClampNeg), .inl (v8 ||| v7)] h (zri fun (x : Int32) h' => J mX11_goesAlong d 0 0 Q 0 0 143 [some (.inr (.inr 111)), some (.inl v1), u2, some (.inl v3), some (.inl vs0), u5, some (.inl v6), some (.inl v7), some (.inl v8), u9] [.inl x] h')) : J mX11_goesAlong d 0 0 Q 0 0 103 [some (.inr (.inr 111)), some (.inl v1), u2, some (.inl v3), u4, u5, some (.inl v6), some (.inl v7), some (.inl v8), u9] [.inl vs0] h := by
  refine zrun 58 25 qX11_goesAlong (o := 11) rfl ?_
  show zokO h 111 11 ∧ zokA h (h.2.2.1 111 33) 20 v6 ∧ zokO h 111 11 ∧ zokA h (h.2.2.1 111 49) 20 (((nI 2) * v1) + v6) ∧ zokO h 111 11 ∧ zokA h (h.2.2.1 111 50) 20 (((nI 2) * v1) + v6) ∧ J mX11_goesAlong d 0 0 Q 0 0 140 [some (.inr (.inr 111)), some (.inl v1), u2, some (.inl v3), some (.inl vs0), u5, some (.inl v6), some (.inl v7), some (.inl v8), u9] [.inl (v8 ||| v7), .inl (h.1 (h.2.2.1 111 50) (((nI 2) * v1) + v6).toNatClampNeg), .inl (h.1 (h.2.2.1 111 49) (((nI 2) * v1) + v6).toNatClampNeg), .inl (h.1 (h.2.2.1 111 33) v6.toNatClampNeg), .inr (.inr 111)] h
  rw [(show h.2.2.1 111 33 = 127 from (hr.at (by decide) (by decide) (by rfl))), (show h.2.2.1 111 49 = 136 from (hr.at (by decide) (by decide) (by rfl))), (show h.2.2.1 111 50 = 137 from (hr.at (by decide) (by decide) (by rfl)))]
  exact ⟨(zo hr (by decide) rfl), (zia hr (by decide) (by rfl) g0), (zo hr (by decide) rfl), (zia hr (by decide) (by rfl) g1), (zo hr (by decide) rfl), (zia hr (by decide) (by rfl) g1), zcVi (as := [.inl (h.1 127 v6.toNatClampNeg), .inl (h.1 136 (((nI 2) * v1) + v6).toNatClampNeg), .inl (h.1 137 (((nI 2) * v1) + v6).toNatClampNeg), .inl (v8 ||| v7)]) (zat qX11_goesAlong 83 (by rfl)) l11_363 rfl hd rfl (Nat.le_of_ble_eq_true rfl) zle0 (ci := 11) (by decide) rfl (zo hr (by decide) rfl) k⟩

theorem bX11_goesAlong_143 {d : Nat} {Q : Option MV → MH → Prop} {h : MH} {u0 u1 u2 u3 u4 u5 u6 u7 u9 : Option MV} {vs0 v8 : Int32} (k1 : vs0 = (-(nI 1)) → J mX11_goesAlong d 0 0 Q 0 0 168 [u0, u1, u2, u3, u4, u5, u6, u7, some (.inl v8), some (.inl vs0)] [] h) (k2 : ¬ vs0 = (-(nI 1)) → J mX11_goesAlong d 0 0 Q 0 0 151 [u0, u1, u2, u3, u4, u5, u6, u7, some (.inl v8), some (.inl vs0)] [] h) : J mX11_goesAlong d 0 0 Q 0 0 143 [u0, u1, u2, u3, u4, u5, u6, u7, some (.inl v8), u9] [.inl vs0] h := by
  refine zrun 84 4 qX11_goesAlong (o := 11) rfl ?_
  show ((vs0 = (-(nI 1)) → J mX11_goesAlong d 0 0 Q 0 0 168 [u0, u1, u2, u3, u4, u5, u6, u7, some (.inl v8), some (.inl vs0)] [] h) ∧ (¬ vs0 = (-(nI 1)) → J mX11_goesAlong d 0 0 Q 0 0 151 [u0, u1, u2, u3, u4, u5, u6, u7, some (.inl v8), some (.inl vs0)] [] h))
  exact ⟨k1, k2⟩

theorem bX11_goesAlong_151 {d : Nat} {Q : Option MV → MH → Prop} {h : MH} {u0 u1 u2 u3 u4 u6 u7 u8 u9 : Option MV} {v5 : Int32} (k1 : v5 = (-(nI 1)) → J mX11_goesAlong d 0 0 Q 0 0 164 [u0, u1, u2, u3, u4, some (.inl v5), u6, u7, u8, u9] [] h) (k2 : ¬ v5 = (-(nI 1)) → J mX11_goesAlong d 0 0 Q 0 0 157 [u0, u1, u2, u3, u4, some (.inl v5), u6, u7, u8, u9] [] h) : J mX11_goesAlong d 0 0 Q 0 0 151 [u0, u1, u2, u3, u4, some (.inl v5), u6, u7, u8, u9] [] h := by
  refine zrun 88 3 qX11_goesAlong (o := 11) rfl ?_
  show ((v5 = (-(nI 1)) → J mX11_goesAlong d 0 0 Q 0 0 164 [u0, u1, u2, u3, u4, some (.inl v5), u6, u7, u8, u9] [] h) ∧ (¬ v5 = (-(nI 1)) → J mX11_goesAlong d 0 0 Q 0 0 157 [u0, u1, u2, u3, u4, some (.inl v5), u6, u7, u8, u9] [] h))
  exact ⟨k1, k2⟩

theorem bX11_goesAlong_157 {d : Nat} {Q : Option MV → MH → Prop} {h : MH} {u0 u1 u2 u3 u4 u6 u7 u8 : Option MV} {v9 v5 : Int32} (k1 : v5 ≤ v9 → J mX11_goesAlong d 0 0 Q 0 0 168 [u0, u1, u2, u3, u4, some (.inl v5), u6, u7, u8, some (.inl v9)] [] h) (k2 : ¬ v5 ≤ v9 → J mX11_goesAlong d 0 0 Q 0 0 164 [u0, u1, u2, u3, u4, some (.inl v5), u6, u7, u8, some (.inl v9)] [] h) : J mX11_goesAlong d 0 0 Q 0 0 157 [u0, u1, u2, u3, u4, some (.inl v5), u6, u7, u8, some (.inl v9)] [] h := by
  refine zrun 91 3 qX11_goesAlong (o := 11) rfl ?_
  show ((v5 ≤ v9 → J mX11_goesAlong d 0 0 Q 0 0 168 [u0, u1, u2, u3, u4, some (.inl v5), u6, u7, u8, some (.inl v9)] [] h) ∧ (¬ v5 ≤ v9 → J mX11_goesAlong d 0 0 Q 0 0 164 [u0, u1, u2, u3, u4, some (.inl v5), u6, u7, u8, some (.inl v9)] [] h))
  exact ⟨k1, k2⟩

theorem bX11_goesAlong_164 {d : Nat} {Q : Option MV → MH → Prop} {h : MH} {u0 u1 u2 u3 u5 u6 u7 u8 : Option MV} {v9 v4 : Int32} (k : J mX11_goesAlong d 0 0 Q 0 0 168 [u0, u1, u2, u3, some (.inl v4), some (.inl v9), u6, u7, u8, some (.inl v9)] [] h) : J mX11_goesAlong d 0 0 Q 0 0 164 [u0, u1, u2, u3, some (.inl v4), u5, u6, u7, u8, some (.inl v9)] [] h := by
  refine zrun 94 2 qX11_goesAlong (o := 11) rfl ?_
  show J mX11_goesAlong d 0 0 Q 0 0 168 [u0, u1, u2, u3, some (.inl v4), some (.inl v9), u6, u7, u8, some (.inl v9)] [] h
  exact k

theorem bX11_goesAlong_168 {d : Nat} {Q : Option MV → MH → Prop} {h : MH} {u0 u1 u2 u3 u4 u7 u8 u9 : Option MV} {v6 v5 : Int32} (k : J mX11_goesAlong d 0 0 Q 0 0 17 [u0, u1, u2, u3, u4, some (.inl v5), some (.inl (v6 + nI 1)), u7, u8, u9] [] h) : J mX11_goesAlong d 0 0 Q 0 0 168 [u0, u1, u2, u3, u4, some (.inl v5), some (.inl v6), u7, u8, u9] [] h := by
  refine zrun 96 2 qX11_goesAlong (o := 11) rfl ?_
  show J mX11_goesAlong d 0 0 Q 0 0 17 [u0, u1, u2, u3, u4, some (.inl v5), some (.inl (v6 + nI 1)), u7, u8, u9] [] h
  exact k

theorem bX11_goesAlong_174 {d : Nat} {Q : Option MV → MH → Prop} {h : MH} {u0 u1 u2 u3 u5 u6 u7 u8 u9 : Option MV} {v4 : Int32} (k1 : v4 = 0 → J mX11_goesAlong d 0 0 Q 0 0 352 [u0, u1, u2, u3, some (.inl v4), u5, u6, u7, u8, u9] [] h) (k2 : ¬ v4 = 0 → J mX11_goesAlong d 0 0 Q 0 0 179 [u0, u1, u2, u3, some (.inl v4), u5, u6, u7, u8, u9] [] h) : J mX11_goesAlong d 0 0 Q 0 0 174 [u0, u1, u2, u3, some (.inl v4), u5, u6, u7, u8, u9] [] h := by
  refine zrun 98 2 qX11_goesAlong (o := 11) rfl ?_
  show ((v4 = 0 → J mX11_goesAlong d 0 0 Q 0 0 352 [u0, u1, u2, u3, some (.inl v4), u5, u6, u7, u8, u9] [] h) ∧ (¬ v4 = 0 → J mX11_goesAlong d 0 0 Q 0 0 179 [u0, u1, u2, u3, some (.inl v4), u5, u6, u7, u8, u9] [] h))
  exact ⟨k1, k2⟩

theorem bX11_goesAlong_179 {d : Nat} {Q : Option MV → MH → Prop} {h : MH} {u0 u1 u2 u3 u4 u6 u7 u8 u9 : Option MV} {v5 : Int32} (k1 : ¬ v5 = (-(nI 1)) → J mX11_goesAlong d 0 0 Q 0 0 188 [u0, u1, u2, u3, u4, some (.inl v5), u6, u7, u8, u9] [] h) (k2 : v5 = (-(nI 1)) → J mX11_goesAlong d 0 0 Q 0 0 185 [u0, u1, u2, u3, u4, some (.inl v5), u6, u7, u8, u9] [] h) : J mX11_goesAlong d 0 0 Q 0 0 179 [u0, u1, u2, u3, u4, some (.inl v5), u6, u7, u8, u9] [] h := by
  refine zrun 100 3 qX11_goesAlong (o := 11) rfl ?_
  show ((¬ v5 = (-(nI 1)) → J mX11_goesAlong d 0 0 Q 0 0 188 [u0, u1, u2, u3, u4, some (.inl v5), u6, u7, u8, u9] [] h) ∧ (v5 = (-(nI 1)) → J mX11_goesAlong d 0 0 Q 0 0 185 [u0, u1, u2, u3, u4, some (.inl v5), u6, u7, u8, u9] [] h))
  exact ⟨k1, k2⟩

theorem bX11_goesAlong_185 {d : Nat} {Q : Option MV → MH → Prop} {h : MH} {u0 u1 u2 u3 u4 u5 u6 u7 u8 u9 : Option MV} (k : J mX11_goesAlong d 0 0 Q 0 0 352 [u0, u1, u2, u3, u4, u5, u6, u7, u8, u9] [] h) : J mX11_goesAlong d 0 0 Q 0 0 185 [u0, u1, u2, u3, u4, u5, u6, u7, u8, u9] [] h := by
  refine zrun 103 1 qX11_goesAlong (o := 11) rfl ?_
  show J mX11_goesAlong d 0 0 Q 0 0 352 [u0, u1, u2, u3, u4, u5, u6, u7, u8, u9] [] h
  exact k

theorem bX11_goesAlong_188 {d : Nat} {Q : Option MV → MH → Prop} {h : MH} {u0 u1 u2 u3 u4 u6 u7 u8 u9 : Option MV} {v5 : Int32} (k : J mX11_goesAlong d 0 0 Q 0 0 191 [u0, u1, u2, u3, u4, some (.inl v5), some (.inl (nI 0)), u7, u8, u9] [] h) : J mX11_goesAlong d 0 0 Q 0 0 188 [u0, u1, u2, u3, u4, some (.inl v5), u6, u7, u8, u9] [] h := by
  refine zrun 104 2 qX11_goesAlong (o := 11) rfl ?_
  show J mX11_goesAlong d 0 0 Q 0 0 191 [u0, u1, u2, u3, u4, some (.inl v5), some (.inl (nI 0)), u7, u8, u9] [] h
  exact k

theorem bX11_goesAlong_191 {d : Nat} {Q : Option MV → MH → Prop} {h : MH} {u1 u2 u3 u4 u5 u7 u8 u9 : Option MV} {v6 : Int32} (hr : zRf h) (k1 : (h.1 111 38) ≤ v6 → J mX11_goesAlong d 0 0 Q 0 0 333 [some (.inr (.inr 111)), u1, u2, u3, u4, u5, some (.inl v6), u7, u8, u9] [] h) (k2 : ¬ (h.1 111 38) ≤ v6 → J mX11_goesAlong d 0 0 Q 0 0 200 [some (.inr (.inr 111)), u1, u2, u3, u4, u5, some (.inl v6), u7, u8, u9] [] h) : J mX11_goesAlong d 0 0 Q 0 0 191 [some (.inr (.inr 111)), u1, u2, u3, u4, u5, some (.inl v6), u7, u8, u9] [] h := by
  refine zrun 106 4 qX11_goesAlong (o := 11) rfl ?_
  show zokO h 111 11 ∧ (((h.1 111 38) ≤ v6 → J mX11_goesAlong d 0 0 Q 0 0 333 [some (.inr (.inr 111)), u1, u2, u3, u4, u5, some (.inl v6), u7, u8, u9] [] h) ∧ (¬ (h.1 111 38) ≤ v6 → J mX11_goesAlong d 0 0 Q 0 0 200 [some (.inr (.inr 111)), u1, u2, u3, u4, u5, some (.inl v6), u7, u8, u9] [] h))
  exact ⟨(zo hr (by decide) rfl), k1, k2⟩

theorem bX11_goesAlong_200 {d d' : Nat} {Q : Option MV → MH → Prop} {h : MH} {u2 u3 u4 u5 u7 u8 u9 : Option MV} {v1 v6 : Int32} (hr : zRf h) (hd : d' + 1 ≤ d) (k : Con mX11_isBurnt d' 0 0 [.inr (.inr 111), .inl v1, .inl v6] h (zri fun (x : Int32) h' => J mX11_goesAlong d 0 0 Q 0 0 207 [some (.inr (.inr 111)), some (.inl v1), u2, u3, u4, u5, some (.inl v6), u7, u8, u9] [.inl x] h')) : J mX11_goesAlong d 0 0 Q 0 0 200 [some (.inr (.inr 111)), some (.inl v1), u2, u3, u4, u5, some (.inl v6), u7, u8, u9] [] h := by
  refine zrun 110 3 qX11_goesAlong (o := 11) rfl ?_
  show J mX11_goesAlong d 0 0 Q 0 0 204 [some (.inr (.inr 111)), some (.inl v1), u2, u3, u4, u5, some (.inl v6), u7, u8, u9] [.inl v6, .inl v1, .inr (.inr 111)] h
  exact zcVi (as := [.inl v1, .inl v6]) (zat qX11_goesAlong 113 (by rfl)) l11_360 rfl hd rfl (Nat.le_of_ble_eq_true rfl) zle0 (ci := 11) (by decide) rfl (zo hr (by decide) rfl) k

theorem bX11_goesAlong_207 {d : Nat} {Q : Option MV → MH → Prop} {h : MH} {u0 u1 u2 u3 u4 u5 u6 u7 u8 u9 : Option MV} {vs0 : Int32} (k1 : vs0 = 0 → J mX11_goesAlong d 0 0 Q 0 0 214 [u0, u1, u2, u3, u4, u5, u6, u7, u8, u9] [] h) (k2 : ¬ vs0 = 0 → J mX11_goesAlong d 0 0 Q 0 0 210 [u0, u1, u2, u3, u4, u5, u6, u7, u8, u9] [] h) : J mX11_goesAlong d 0 0 Q 0 0 207 [u0, u1, u2, u3, u4, u5, u6, u7, u8, u9] [.inl vs0] h := by
  refine zrun 114 1 qX11_goesAlong (o := 11) rfl ?_
  show ((vs0 = 0 → J mX11_goesAlong d 0 0 Q 0 0 214 [u0, u1, u2, u3, u4, u5, u6, u7, u8, u9] [] h) ∧ (¬ vs0 = 0 → J mX11_goesAlong d 0 0 Q 0 0 210 [u0, u1, u2, u3, u4, u5, u6, u7, u8, u9] [] h))
  exact ⟨k1, k2⟩

theorem bX11_goesAlong_210 {d : Nat} {Q : Option MV → MH → Prop} {h : MH} {u0 u1 u2 u3 u4 u5 u6 u7 u8 u9 : Option MV} (k : J mX11_goesAlong d 0 0 Q 0 0 234 [u0, u1, u2, u3, u4, u5, u6, u7, u8, u9] [.inl (nI 0)] h) : J mX11_goesAlong d 0 0 Q 0 0 210 [u0, u1, u2, u3, u4, u5, u6, u7, u8, u9] [] h := by
  refine zrun 115 2 qX11_goesAlong (o := 11) rfl ?_
  show J mX11_goesAlong d 0 0 Q 0 0 234 [u0, u1, u2, u3, u4, u5, u6, u7, u8, u9] [.inl (nI 0)] h
  exact k

theorem bX11_goesAlong_214 {d : Nat} {Q : Option MV → MH → Prop} {h : MH} {u2 u4 u5 u7 u8 u9 : Option MV} {v1 v6 v3 : Int32} (hr : zRf h) (g0 : vp_in (((nI 2) * v1) + v6) 128) (k : J mX11_goesAlong d 0 0 Q 0 0 234 [some (.inr (.inr 111)), some (.inl v1), u2, some (.inl v3), u4, u5, some (.inl v6), u7, u8, u9] [.inl ((h.1 138 (((nI 2) * v1) + v6).toNatClampNeg) ||| ((v3 >>> (((nI 2) * v6) &&& 31)) &&& (nI 3)))] h) : J mX11_goesAlong d 0 0 Q 0 0 214 [some (.inr (.inr 111)), some (.inl v1), u2, some (.inl v3), u4, u5, some (.inl v6), u7, u8, u9] [] h := by
  refine zrun 117 16 qX11_goesAlong (o := 11) rfl ?_
  show zokO h 111 11 ∧ zokA h (h.2.2.1 111 51) 20 (((nI 2) * v1) + v6) ∧ J mX11_goesAlong d 0 0 Q 0 0 234 [some (.inr (.inr 111)), some (.inl v1), u2, some (.inl v3), u4, u5, some (.inl v6), u7, u8, u9] [.inl ((h.1 (h.2.2.1 111 51) (((nI 2) * v1) + v6).toNatClampNeg) ||| ((v3 >>> (((nI 2) * v6) &&& 31)) &&& (nI 3)))] h
  rw [(show h.2.2.1 111 51 = 138 from (hr.at (by decide) (by decide) (by rfl)))]
  exact ⟨(zo hr (by decide) rfl), (zia hr (by decide) (by rfl) g0), k⟩

theorem bX11_goesAlong_234 {d : Nat} {Q : Option MV → MH → Prop} {h : MH} {u2 u3 u4 u5 u7 u8 u9 : Option MV} {vs0 v6 v1 : Int32} (hr : zRf h) (g0 : vp_in (((nI 2) * v1) + v6) 128) (k1 : ¬ (vs0 &&& (nI 1)) = (nI 1) → J mX11_goesAlong d 0 0 Q 0 0 272 [some (.inr (.inr 111)), some (.inl v1), u2, u3, u4, u5, some (.inl v6), some (.inl vs0), u8, u9] [.inl (h.1 136 (((nI 2) * v1) + v6).toNatClampNeg), .inl ((((nI 2) * v1) + (nI 2)) + v6), .inr (.inr 136)] h) (k2 : (vs0 &&& (nI 1)) = (nI 1) → J mX11_goesAlong d 0 0 Q 0 0 267 [some (.inr (.inr 111)), some (.inl v1), u2, u3, u4, u5, some (.inl v6), some (.inl vs0), u8, u9] [.inl (h.1 136 (((nI 2) * v1) + v6).toNatClampNeg), .inl ((((nI 2) * v1) + (nI 2)) + v6), .inr (.inr 136)] h) : J mX11_goesAlong d 0 0 Q 0 0 234 [some (.inr (.inr 111)), some (.inl v1), u2, u3, u4, u5, some (.inl v6), u7, u8, u9] [.inl vs0] h := by
  refine zrun 133 23 qX11_goesAlong (o := 11) rfl ?_
  show zokO h 111 11 ∧ zokO h 111 11 ∧ zokA h (h.2.2.1 111 49) 20 (((nI 2) * v1) + v6) ∧ ((¬ (vs0 &&& (nI 1)) = (nI 1) → J mX11_goesAlong d 0 0 Q 0 0 272 [some (.inr (.inr 111)), some (.inl v1), u2, u3, u4, u5, some (.inl v6), some (.inl vs0), u8, u9] [.inl (h.1 (h.2.2.1 111 49) (((nI 2) * v1) + v6).toNatClampNeg), .inl ((((nI 2) * v1) + (nI 2)) + v6), .inr (.inr (h.2.2.1 111 49))] h) ∧ ((vs0 &&& (nI 1)) = (nI 1) → J mX11_goesAlong d 0 0 Q 0 0 267 [some (.inr (.inr 111)), some (.inl v1), u2, u3, u4, u5, some (.inl v6), some (.inl vs0), u8, u9] [.inl (h.1 (h.2.2.1 111 49) (((nI 2) * v1) + v6).toNatClampNeg), .inl ((((nI 2) * v1) + (nI 2)) + v6), .inr (.inr (h.2.2.1 111 49))] h))
  rw [(show h.2.2.1 111 49 = 136 from (hr.at (by decide) (by decide) (by rfl)))]
  exact ⟨(zo hr (by decide) rfl), (zo hr (by decide) rfl), (zia hr (by decide) (by rfl) g0), k1, k2⟩

theorem bX11_goesAlong_267 {d : Nat} {Q : Option MV → MH → Prop} {h : MH} {u0 u1 u2 u3 u4 u6 u7 u8 u9 : Option MV} {vs1 vs2 v5 : Int32} {vs0 : Nat} (k : J mX11_goesAlong d 0 0 Q 0 0 273 [u0, u1, u2, u3, u4, some (.inl v5), u6, u7, u8, u9] [.inl v5, .inl vs2, .inl vs1, .inr (.inr vs0)] h) : J mX11_goesAlong d 0 0 Q 0 0 267 [u0, u1, u2, u3, u4, some (.inl v5), u6, u7, u8, u9] [.inl vs2, .inl vs1, .inr (.inr vs0)] h := by
  refine zrun 156 2 qX11_goesAlong (o := 11) rfl ?_
  show J mX11_goesAlong d 0 0 Q 0 0 273 [u0, u1, u2, u3, u4, some (.inl v5), u6, u7, u8, u9] [.inl v5, .inl vs2, .inl vs1, .inr (.inr vs0)] h
  exact k

theorem bX11_goesAlong_272 {d : Nat} {Q : Option MV → MH → Prop} {h : MH} {u0 u1 u2 u3 u4 u5 u6 u7 u8 u9 : Option MV} {vs1 vs2 : Int32} {vs0 : Nat} (k : J mX11_goesAlong d 0 0 Q 0 0 273 [u0, u1, u2, u3, u4, u5, u6, u7, u8, u9] [.inl (nI 0), .inl vs2, .inl vs1, .inr (.inr vs0)] h) : J mX11_goesAlong d 0 0 Q 0 0 272 [u0, u1, u2, u3, u4, u5, u6, u7, u8, u9] [.inl vs2, .inl vs1, .inr (.inr vs0)] h := by
  refine zrun 158 1 qX11_goesAlong (o := 11) rfl ?_
  show J mX11_goesAlong d 0 0 Q 0 0 273 [u0, u1, u2, u3, u4, u5, u6, u7, u8, u9] [.inl (nI 0), .inl vs2, .inl vs1, .inr (.inr vs0)] h
  exact k

theorem bX11_goesAlong_273 {d : Nat} {Q : Option MV → MH → Prop} {h : MH} {u2 u3 u4 u5 u8 u9 : Option MV} {vs1 vs2 vs3 v1 v6 v7 : Int32} {vs0 : Nat} (hr : zRf h) (g0 : zokA h vs0 20 vs1) (g1 : vp_in (((nI 2) * v1) + v6) 128) (k1 : v7 ≤ (nI 1) → J mX11_goesAlong d 0 0 Q 0 0 309 [some (.inr (.inr 111)), some (.inl v1), u2, u3, u4, u5, some (.inl v6), some (.inl v7), u8, u9] [.inl ((zsI h vs0 vs1.toNatClampNeg (vs2 + vs3)).1 137 (((nI 2) * v1) + v6).toNatClampNeg), .inl ((((nI 2) * v1) + (nI 2)) + v6), .inr (.inr 137)] (zsI h vs0 vs1.toNatClampNeg (vs2 + vs3))) (k2 : ¬ v7 ≤ (nI 1) → J mX11_goesAlong d 0 0 Q 0 0 304 [some (.inr (.inr 111)), some (.inl v1), u2, u3, u4, u5, some (.inl v6), some (.inl v7), u8, u9] [.inl ((zsI h vs0 vs1.toNatClampNeg (vs2 + vs3)).1 137 (((nI 2) * v1) + v6).toNatClampNeg), .inl ((((nI 2) * v1) + (nI 2)) + v6), .inr (.inr 137)] (zsI h vs0 vs1.toNatClampNeg (vs2 + vs3))) : J mX11_goesAlong d 0 0 Q 0 0 273 [some (.inr (.inr 111)), some (.inl v1), u2, u3, u4, u5, some (.inl v6), some (.inl v7), u8, u9] [.inl vs3, .inl vs2, .inl vs1, .inr (.inr vs0)] h := by
  refine zrun 159 22 qX11_goesAlong (o := 11) rfl ?_
  show zokA h vs0 20 vs1 ∧ zokO (zsI h vs0 vs1.toNatClampNeg (vs2 + vs3)) 111 11 ∧ zokO (zsI h vs0 vs1.toNatClampNeg (vs2 + vs3)) 111 11 ∧ zokA (zsI h vs0 vs1.toNatClampNeg (vs2 + vs3)) (h.2.2.1 111 50) 20 (((nI 2) * v1) + v6) ∧ ((v7 ≤ (nI 1) → J mX11_goesAlong d 0 0 Q 0 0 309 [some (.inr (.inr 111)), some (.inl v1), u2, u3, u4, u5, some (.inl v6), some (.inl v7), u8, u9] [.inl ((zsI h vs0 vs1.toNatClampNeg (vs2 + vs3)).1 (h.2.2.1 111 50) (((nI 2) * v1) + v6).toNatClampNeg), .inl ((((nI 2) * v1) + (nI 2)) + v6), .inr (.inr (h.2.2.1 111 50))] (zsI h vs0 vs1.toNatClampNeg (vs2 + vs3))) ∧ (¬ v7 ≤ (nI 1) → J mX11_goesAlong d 0 0 Q 0 0 304 [some (.inr (.inr 111)), some (.inl v1), u2, u3, u4, u5, some (.inl v6), some (.inl v7), u8, u9] [.inl ((zsI h vs0 vs1.toNatClampNeg (vs2 + vs3)).1 (h.2.2.1 111 50) (((nI 2) * v1) + v6).toNatClampNeg), .inl ((((nI 2) * v1) + (nI 2)) + v6), .inr (.inr (h.2.2.1 111 50))] (zsI h vs0 vs1.toNatClampNeg (vs2 + vs3))))
  rw [(show h.2.2.1 111 50 = 137 from (hr.at (by decide) (by decide) (by rfl)))]
  exact ⟨g0, (zo hr (by decide) rfl), (zo hr (by decide) rfl), (zia hr (by decide) (by rfl) g1), k1, k2⟩

theorem bX11_goesAlong_304 {d : Nat} {Q : Option MV → MH → Prop} {h : MH} {u0 u1 u2 u3 u4 u6 u7 u8 u9 : Option MV} {vs1 vs2 v5 : Int32} {vs0 : Nat} (k : J mX11_goesAlong d 0 0 Q 0 0 310 [u0, u1, u2, u3, u4, some (.inl v5), u6, u7, u8, u9] [.inl v5, .inl vs2, .inl vs1, .inr (.inr vs0)] h) : J mX11_goesAlong d 0 0 Q 0 0 304 [u0, u1, u2, u3, u4, some (.inl v5), u6, u7, u8, u9] [.inl vs2, .inl vs1, .inr (.inr vs0)] h := by
  refine zrun 181 2 qX11_goesAlong (o := 11) rfl ?_
  show J mX11_goesAlong d 0 0 Q 0 0 310 [u0, u1, u2, u3, u4, some (.inl v5), u6, u7, u8, u9] [.inl v5, .inl vs2, .inl vs1, .inr (.inr vs0)] h
  exact k

theorem bX11_goesAlong_309 {d : Nat} {Q : Option MV → MH → Prop} {h : MH} {u0 u1 u2 u3 u4 u5 u6 u7 u8 u9 : Option MV} {vs1 vs2 : Int32} {vs0 : Nat} (k : J mX11_goesAlong d 0 0 Q 0 0 310 [u0, u1, u2, u3, u4, u5, u6, u7, u8, u9] [.inl (nI 0), .inl vs2, .inl vs1, .inr (.inr vs0)] h) : J mX11_goesAlong d 0 0 Q 0 0 309 [u0, u1, u2, u3, u4, u5, u6, u7, u8, u9] [.inl vs2, .inl vs1, .inr (.inr vs0)] h := by
  refine zrun 183 1 qX11_goesAlong (o := 11) rfl ?_
  show J mX11_goesAlong d 0 0 Q 0 0 310 [u0, u1, u2, u3, u4, u5, u6, u7, u8, u9] [.inl (nI 0), .inl vs2, .inl vs1, .inr (.inr vs0)] h
  exact k

theorem bX11_goesAlong_310 {d : Nat} {Q : Option MV → MH → Prop} {h : MH} {u2 u3 u4 u8 u9 : Option MV} {vs1 vs2 vs3 v1 v6 v7 v5 : Int32} {vs0 : Nat} (hr : zRf h) (g0 : zokA h vs0 20 vs1) (g1 : vp_in ((((nI 2) * v1) + (nI 2)) + v6) 128) (k : J mX11_goesAlong d 0 0 Q 0 0 191 [some (.inr (.inr 111)), some (.inl v1), u2, u3, u4, some (.inl v5), some (.inl (v6 + nI 1)), some (.inl v7), u8, u9] [] (zsI (zsI h vs0 vs1.toNatClampNeg (vs2 + vs3)) 138 ((((nI 2) * v1) + (nI 2)) + v6).toNatClampNeg v7)) : J mX11_goesAlong d 0 0 Q 0 0 310 [some (.inr (.inr 111)), some (.inl v1), u2, u3, u4, some (.inl v5), some (.inl v6), some (.inl v7), u8, u9] [.inl vs3, .inl vs2, .inl vs1, .inr (.inr vs0)] h := by
  refine zrun 184 15 qX11_goesAlong (o := 11) rfl ?_
  show zokA h vs0 20 vs1 ∧ zokO (zsI h vs0 vs1.toNatClampNeg (vs2 + vs3)) 111 11 ∧ zokA (zsI h vs0 vs1.toNatClampNeg (vs2 + vs3)) (h.2.2.1 111 51) 20 ((((nI 2) * v1) + (nI 2)) + v6) ∧ J mX11_goesAlong d 0 0 Q 0 0 191 [some (.inr (.inr 111)), some (.inl v1), u2, u3, u4, some (.inl v5), some (.inl (v6 + nI 1)), some (.inl v7), u8, u9] [] (zsI (zsI h vs0 vs1.toNatClampNeg (vs2 + vs3)) (h.2.2.1 111 51) ((((nI 2) * v1) + (nI 2)) + v6).toNatClampNeg v7)
  rw [(show h.2.2.1 111 51 = 138 from (hr.at (by decide) (by decide) (by rfl)))]
  exact ⟨g0, (zo hr (by decide) rfl), (zia hr (by decide) (by rfl) g1), k⟩

theorem bX11_goesAlong_333 {d d' : Nat} {Q : Option MV → MH → Prop} {h : MH} {u1 u3 u4 u6 u7 u8 u9 : Option MV} {v2 v5 : Int32} (hr : zRf h) (hd : d' + 1 ≤ d) (k : Con mX11_adds d' 0 0 [.inr (.inr 111), .inl (v2 + v5)] h (zrv fun h' => J mX11_goesAlong d 0 0 Q 0 0 341 [some (.inr (.inr 111)), u1, some (.inl v2), u3, u4, some (.inl v5), u6, u7, u8, u9] [] h')) : J mX11_goesAlong d 0 0 Q 0 0 333 [some (.inr (.inr 111)), u1, some (.inl v2), u3, u4, some (.inl v5), u6, u7, u8, u9] [] h := by
  refine zrun 199 4 qX11_goesAlong (o := 11) rfl ?_
  show J mX11_goesAlong d 0 0 Q 0 0 338 [some (.inr (.inr 111)), u1, some (.inl v2), u3, u4, some (.inl v5), u6, u7, u8, u9] [.inl (v2 + v5), .inr (.inr 111)] h
  exact zcVv (as := [.inl (v2 + v5)]) (zat qX11_goesAlong 203 (by rfl)) l11_306 rfl hd rfl (Nat.le_of_ble_eq_true rfl) zle0 (ci := 11) (by decide) rfl (zo hr (by decide) rfl) k

theorem bX11_goesAlong_341 {d d' : Nat} {Q : Option MV → MH → Prop} {h : MH} {u3 u4 u6 u7 u8 u9 : Option MV} {v1 v2 v5 : Int32} (hr : zRf h) (hd : d' + 1 ≤ d) (k : Con mX11_goesAlong d' 0 0 [.inr (.inr 111), .inl (v1 + (nI 1)), .inl (v2 + v5)] h (zrv fun h' => J mX11_goesAlong d 0 0 Q 0 0 352 [some (.inr (.inr 111)), some (.inl v1), some (.inl v2), u3, u4, some (.inl v5), u6, u7, u8, u9] [] h')) : J mX11_goesAlong d 0 0 Q 0 0 341 [some (.inr (.inr 111)), some (.inl v1), some (.inl v2), u3, u4, some (.inl v5), u6, u7, u8, u9] [] h := by
  refine zrun 204 7 qX11_goesAlong (o := 11) rfl ?_
  show J mX11_goesAlong d 0 0 Q 0 0 349 [some (.inr (.inr 111)), some (.inl v1), some (.inl v2), u3, u4, some (.inl v5), u6, u7, u8, u9] [.inl (v2 + v5), .inl (v1 + (nI 1)), .inr (.inr 111)] h
  exact zcVv (as := [.inl (v1 + (nI 1)), .inl (v2 + v5)]) (zat qX11_goesAlong 211 (by rfl)) l11_367 rfl hd rfl (Nat.le_of_ble_eq_true rfl) zle0 (ci := 11) (by decide) rfl (zo hr (by decide) rfl) k

theorem bX11_goesAlong_352 {d : Nat} {Q : Option MV → MH → Prop} {h : MH} {u0 u1 u4 u5 u6 u7 u8 u9 : Option MV} {v3 v2 : Int32} (k : J mX11_goesAlong d 0 0 Q 0 0 2 [u0, u1, some (.inl v2), some (.inl (v3 + nI 1)), u4, u5, u6, u7, u8, u9] [] h) : J mX11_goesAlong d 0 0 Q 0 0 352 [u0, u1, some (.inl v2), some (.inl v3), u4, u5, u6, u7, u8, u9] [] h := by
  refine zrun 212 2 qX11_goesAlong (o := 11) rfl ?_
  show J mX11_goesAlong d 0 0 Q 0 0 2 [u0, u1, some (.inl v2), some (.inl (v3 + nI 1)), u4, u5, u6, u7, u8, u9] [] h
  exact k

theorem bX11_goesAlong_358 {d : Nat} {Q : Option MV → MH → Prop} {h : MH} {u0 u1 u2 u3 u4 u5 u6 u7 u8 u9 : Option MV} (k : Q none h) : J mX11_goesAlong d 0 0 Q 0 0 358 [u0, u1, u2, u3, u4, u5, u6, u7, u8, u9] [] h := by
  exact J_vret (zat qX11_goesAlong 214 (by rfl)) rfl (Nat.le_refl 0) (Nat.le_refl 0) k

theorem bX11_laysAlong_0 {d : Nat} {Q : Option MV → MH → Prop} {h : MH} {u0 u2 : Option MV} {v1 : Int32} (k : J mX11_laysAlong d 0 0 Q 0 0 2 [u0, some (.inl v1), some (.inl (nI 0))] [] h) : J mX11_laysAlong d 0 0 Q 0 0 0 [u0, some (.inl v1), u2] [] h := by
  refine zrun 0 2 qX11_laysAlong (o := 11) rfl ?_
  show J mX11_laysAlong d 0 0 Q 0 0 2 [u0, some (.inl v1), some (.inl (nI 0))] [] h
  exact k

theorem bX11_laysAlong_2 {d : Nat} {Q : Option MV → MH → Prop} {h : MH} {u1 : Option MV} {v2 : Int32} (hr : zRf h) (k1 : (nI 11600) ≤ v2 → J mX11_laysAlong d 0 0 Q 0 0 24 [some (.inr (.inr 111)), u1, some (.inl v2)] [] h) (k2 : ¬ (nI 11600) ≤ v2 → J mX11_laysAlong d 0 0 Q 0 0 11 [some (.inr (.inr 111)), u1, some (.inl v2)] [] h) : J mX11_laysAlong d 0 0 Q 0 0 2 [some (.inr (.inr 111)), u1, some (.inl v2)] [] h := by
  refine zrun 2 5 qX11_laysAlong (o := 11) rfl ?_
  show zokO h 111 11 ∧ (0 < h.2.2.1 111 43 ∧ (h.2.2.1 111 43) ≤ h.2.2.2 ∧ (zk (h.2.2.1 111 43)).1 = 20) ∧ (((nI (zk (h.2.2.1 111 43)).2) ≤ v2 → J mX11_laysAlong d 0 0 Q 0 0 24 [some (.inr (.inr 111)), u1, some (.inl v2)] [] h) ∧ (¬ (nI (zk (h.2.2.1 111 43)).2) ≤ v2 → J mX11_laysAlong d 0 0 Q 0 0 11 [some (.inr (.inr 111)), u1, some (.inl v2)] [] h))
  rw [(show h.2.2.1 111 43 = 132 from (hr.at (by decide) (by decide) (by rfl)))]
  exact ⟨(zo hr (by decide) rfl), ⟨by decide, by have := hr.n; omega, rfl⟩, k1, k2⟩

theorem bX11_laysAlong_11 {d : Nat} {Q : Option MV → MH → Prop} {h : MH} {v2 v1 : Int32} (hr : zRf h) (g0 : vp_in v2 11600) (k : J mX11_laysAlong d 0 0 Q 0 0 2 [some (.inr (.inr 111)), some (.inl v1), some (.inl (v2 + nI 1))] [] (zsI h 132 v2.toNatClampNeg (nI 0))) : J mX11_laysAlong d 0 0 Q 0 0 11 [some (.inr (.inr 111)), some (.inl v1), some (.inl v2)] [] h := by
  refine zrun 7 7 qX11_laysAlong (o := 11) rfl ?_
  show zokO h 111 11 ∧ zokA h (h.2.2.1 111 43) 20 v2 ∧ J mX11_laysAlong d 0 0 Q 0 0 2 [some (.inr (.inr 111)), some (.inl v1), some (.inl (v2 + nI 1))] [] (zsI h (h.2.2.1 111 43) v2.toNatClampNeg (nI 0))
  rw [(show h.2.2.1 111 43 = 132 from (hr.at (by decide) (by decide) (by rfl)))]
  exact ⟨(zo hr (by decide) rfl), (zia hr (by decide) (by rfl) g0), k⟩

theorem bX11_laysAlong_24 {d : Nat} {Q : Option MV → MH → Prop} {h : MH} {u2 : Option MV} {v1 : Int32} (hr : zRf h) (k : J mX11_laysAlong d 0 0 Q 0 0 31 [some (.inr (.inr 111)), some (.inl v1), some (.inl (nI 0))] [] (zsI h 111 38 (nI 0))) : J mX11_laysAlong d 0 0 Q 0 0 24 [some (.inr (.inr 111)), some (.inl v1), u2] [] h := by
  refine zrun 14 5 qX11_laysAlong (o := 11) rfl ?_
  show zokO h 111 11 ∧ J mX11_laysAlong d 0 0 Q 0 0 31 [some (.inr (.inr 111)), some (.inl v1), some (.inl (nI 0))] [] (zsI h 111 38 (nI 0))
  exact ⟨(zo hr (by decide) rfl), k⟩

theorem bX11_laysAlong_31 {d : Nat} {Q : Option MV → MH → Prop} {h : MH} {u0 u1 : Option MV} {v2 : Int32} (k1 : (nI 8) ≤ v2 → J mX11_laysAlong d 0 0 Q 0 0 104 [u0, u1, some (.inl v2)] [] h) (k2 : ¬ (nI 8) ≤ v2 → J mX11_laysAlong d 0 0 Q 0 0 37 [u0, u1, some (.inl v2)] [] h) : J mX11_laysAlong d 0 0 Q 0 0 31 [u0, u1, some (.inl v2)] [] h := by
  refine zrun 19 3 qX11_laysAlong (o := 11) rfl ?_
  show (((nI 8) ≤ v2 → J mX11_laysAlong d 0 0 Q 0 0 104 [u0, u1, some (.inl v2)] [] h) ∧ (¬ (nI 8) ≤ v2 → J mX11_laysAlong d 0 0 Q 0 0 37 [u0, u1, some (.inl v2)] [] h))
  exact ⟨k1, k2⟩

theorem bX11_laysAlong_37 {d : Nat} {Q : Option MV → MH → Prop} {h : MH} {u0 : Option MV} {v1 v2 : Int32} (k1 : ¬ ((v1 >>> (v2 &&& 31)) &&& (nI 1)) = 0 → J mX11_laysAlong d 0 0 Q 0 0 48 [u0, some (.inl v1), some (.inl v2)] [] h) (k2 : ((v1 >>> (v2 &&& 31)) &&& (nI 1)) = 0 → J mX11_laysAlong d 0 0 Q 0 0 45 [u0, some (.inl v1), some (.inl v2)] [] h) : J mX11_laysAlong d 0 0 Q 0 0 37 [u0, some (.inl v1), some (.inl v2)] [] h := by
  refine zrun 22 6 qX11_laysAlong (o := 11) rfl ?_
  show ((¬ ((v1 >>> (v2 &&& 31)) &&& (nI 1)) = 0 → J mX11_laysAlong d 0 0 Q 0 0 48 [u0, some (.inl v1), some (.inl v2)] [] h) ∧ (((v1 >>> (v2 &&& 31)) &&& (nI 1)) = 0 → J mX11_laysAlong d 0 0 Q 0 0 45 [u0, some (.inl v1), some (.inl v2)] [] h))
  exact ⟨k1, k2⟩

theorem bX11_laysAlong_45 {d : Nat} {Q : Option MV → MH → Prop} {h : MH} {u0 u1 u2 : Option MV} (k : J mX11_laysAlong d 0 0 Q 0 0 98 [u0, u1, u2] [] h) : J mX11_laysAlong d 0 0 Q 0 0 45 [u0, u1, u2] [] h := by
  refine zrun 28 1 qX11_laysAlong (o := 11) rfl ?_
  show J mX11_laysAlong d 0 0 Q 0 0 98 [u0, u1, u2] [] h
  exact k

theorem bX11_laysAlong_48 {d : Nat} {Q : Option MV → MH → Prop} {h : MH} {u1 : Option MV} {v2 : Int32} (hr : zRf h) (g0 : vp_in (h.1 111 38) 4) (g1 : vp_in ((zsI h 127 (h.1 111 38).toNatClampNeg v2).1 111 38) 128) (g2 : vp_in ((zsI (zsI h 127 (h.1 111 38).toNatClampNeg v2) 136 ((zsI h 127 (h.1 111 38).toNatClampNeg v2).1 111 38).toNatClampNeg (nI 0)).1 111 38) 128) (g3 : vp_in ((zsI (zsI (zsI h 127 (h.1 111 38).toNatClampNeg v2) 136 ((zsI h 127 (h.1 111 38).toNatClampNeg v2).1 111 38).toNatClampNeg (nI 0)) 137 ((zsI (zsI h 127 (h.1 111 38).toNatClampNeg v2) 136 ((zsI h 127 (h.1 111 38).toNatClampNeg v2).1 111 38).toNatClampNeg (nI 0)).1 111 38).toNatClampNeg (nI 0)).1 111 38) 128) (k : J mX11_laysAlong d 0 0 Q 0 0 98 [some (.inr (.inr 111)), u1, some (.inl v2)] [] (zsI (zsI (zsI (zsI (zsI h 127 (h.1 111 38).toNatClampNeg v2) 136 ((zsI h 127 (h.1 111 38).toNatClampNeg v2).1 111 38).toNatClampNeg (nI 0)) 137 ((zsI (zsI h 127 (h.1 111 38).toNatClampNeg v2) 136 ((zsI h 127 (h.1 111 38).toNatClampNeg v2).1 111 38).toNatClampNeg (nI 0)).1 111 38).toNatClampNeg (nI 0)) 138 ((zsI (zsI (zsI h 127 (h.1 111 38).toNatClampNeg v2) 136 ((zsI h 127 (h.1 111 38).toNatClampNeg v2).1 111 38).toNatClampNeg (nI 0)) 137 ((zsI (zsI h 127 (h.1 111 38).toNatClampNeg v2) 136 ((zsI h 127 (h.1 111 38).toNatClampNeg v2).1 111 38).toNatClampNeg (nI 0)).1 111 38).toNatClampNeg (nI 0)).1 111 38).toNatClampNeg (nI 0)) 111 38 (((zsI (zsI (zsI (zsI h 127 (h.1 111 38).toNatClampNeg v2) 136 ((zsI h 127 (h.1 111 38).toNatClampNeg v2).1 111 38).toNatClampNeg (nI 0)) 137 ((zsI (zsI h 127 (h.1 111 38).toNatClampNeg v2) 136 ((zsI h 127 (h.1 111 38).toNatClampNeg v2).1 111 38).toNatClampNeg (nI 0)).1 111 38).toNatClampNeg (nI 0)) 138 ((zsI (zsI (zsI h 127 (h.1 111 38).toNatClampNeg v2) 136 ((zsI h 127 (h.1 111 38).toNatClampNeg v2).1 111 38).toNatClampNeg (nI 0)) 137 ((zsI (zsI h 127 (h.1 111 38).toNatClampNeg v2) 136 ((zsI h 127 (h.1 111 38).toNatClampNeg v2).1 111 38).toNatClampNeg (nI 0)).1 111 38).toNatClampNeg (nI 0)).1 111 38).toNatClampNeg (nI 0)).1 111 38) + (nI 1)))) : J mX11_laysAlong d 0 0 Q 0 0 48 [some (.inr (.inr 111)), u1, some (.inl v2)] [] h := by
  refine zrun 29 30 qX11_laysAlong (o := 11) rfl ?_
  show zokO h 111 11 ∧ zokO h 111 11 ∧ zokA h (h.2.2.1 111 33) 20 (h.1 111 38) ∧ zokO (zsI h (h.2.2.1 111 33) (h.1 111 38).toNatClampNeg v2) 111 11 ∧ zokO (zsI h (h.2.2.1 111 33) (h.1 111 38).toNatClampNeg v2) 111 11 ∧ zokA (zsI h (h.2.2.1 111 33) (h.1 111 38).toNatClampNeg v2) (h.2.2.1 111 49) 20 ((zsI h (h.2.2.1 111 33) (h.1 111 38).toNatClampNeg v2).1 111 38) ∧ zokO (zsI (zsI h (h.2.2.1 111 33) (h.1 111 38).toNatClampNeg v2) (h.2.2.1 111 49) ((zsI h (h.2.2.1 111 33) (h.1 111 38).toNatClampNeg v2).1 111 38).toNatClampNeg (nI 0)) 111 11 ∧ zokO (zsI (zsI h (h.2.2.1 111 33) (h.1 111 38).toNatClampNeg v2) (h.2.2.1 111 49) ((zsI h (h.2.2.1 111 33) (h.1 111 38).toNatClampNeg v2).1 111 38).toNatClampNeg (nI 0)) 111 11 ∧ zokA (zsI (zsI h (h.2.2.1 111 33) (h.1 111 38).toNatClampNeg v2) (h.2.2.1 111 49) ((zsI h (h.2.2.1 111 33) (h.1 111 38).toNatClampNeg v2).1 111 38).toNatClampNeg (nI 0)) (h.2.2.1 111 50) 20 ((zsI (zsI h (h.2.2.1 111 33) (h.1 111 38).toNatClampNeg v2) (h.2.2.1 111 49) ((zsI h (h.2.2.1 111 33) (h.1 111 38).toNatClampNeg v2).1 111 38).toNatClampNeg (nI 0)).1 111 38) ∧ zokO (zsI (zsI (zsI h (h.2.2.1 111 33) (h.1 111 38).toNatClampNeg v2) (h.2.2.1 111 49) ((zsI h (h.2.2.1 111 33) (h.1 111 38).toNatClampNeg v2).1 111 38).toNatClampNeg (nI 0)) (h.2.2.1 111 50) ((zsI (zsI h (h.2.2.1 111 33) (h.1 111 38).toNatClampNeg v2) (h.2.2.1 111 49) ((zsI h (h.2.2.1 111 33) (h.1 111 38).toNatClampNeg v2).1 111 38).toNatClampNeg (nI 0)).1 111 38).toNatClampNeg (nI 0)) 111 11 ∧ zokO (zsI (zsI (zsI h (h.2.2.1 111 33) (h.1 111 38).toNatClampNeg v2) (h.2.2.1 111 49) ((zsI h (h.2.2.1 111 33) (h.1 111 38).toNatClampNeg v2).1 111 38).toNatClampNeg (nI 0)) (h.2.2.1 111 50) ((zsI (zsI h (h.2.2.1 111 33) (h.1 111 38).toNatClampNeg v2) (h.2.2.1 111 49) ((zsI h (h.2.2.1 111 33) (h.1 111 38).toNatClampNeg v2).1 111 38).toNatClampNeg (nI 0)).1 111 38).toNatClampNeg (nI 0)) 111 11 ∧ zokA (zsI (zsI (zsI h (h.2.2.1 111 33) (h.1 111 38).toNatClampNeg v2) (h.2.2.1 111 49) ((zsI h (h.2.2.1 111 33) (h.1 111 38).toNatClampNeg v2).1 111 38).toNatClampNeg (nI 0)) (h.2.2.1 111 50) ((zsI (zsI h (h.2.2.1 111 33) (h.1 111 38).toNatClampNeg v2) (h.2.2.1 111 49) ((zsI h (h.2.2.1 111 33) (h.1 111 38).toNatClampNeg v2).1 111 38).toNatClampNeg (nI 0)).1 111 38).toNatClampNeg (nI 0)) (h.2.2.1 111 51) 20 ((zsI (zsI (zsI h (h.2.2.1 111 33) (h.1 111 38).toNatClampNeg v2) (h.2.2.1 111 49) ((zsI h (h.2.2.1 111 33) (h.1 111 38).toNatClampNeg v2).1 111 38).toNatClampNeg (nI 0)) (h.2.2.1 111 50) ((zsI (zsI h (h.2.2.1 111 33) (h.1 111 38).toNatClampNeg v2) (h.2.2.1 111 49) ((zsI h (h.2.2.1 111 33) (h.1 111 38).toNatClampNeg v2).1 111 38).toNatClampNeg (nI 0)).1 111 38).toNatClampNeg (nI 0)).1 111 38) ∧ zokO (zsI (zsI (zsI (zsI h (h.2.2.1 111 33) (h.1 111 38).toNatClampNeg v2) (h.2.2.1 111 49) ((zsI h (h.2.2.1 111 33) (h.1 111 38).toNatClampNeg v2).1 111 38).toNatClampNeg (nI 0)) (h.2.2.1 111 50) ((zsI (zsI h (h.2.2.1 111 33) (h.1 111 38).toNatClampNeg v2) (h.2.2.1 111 49) ((zsI h (h.2.2.1 111 33) (h.1 111 38).toNatClampNeg v2).1 111 38).toNatClampNeg (nI 0)).1 111 38).toNatClampNeg (nI 0)) (h.2.2.1 111 51) ((zsI (zsI (zsI h (h.2.2.1 111 33) (h.1 111 38).toNatClampNeg v2) (h.2.2.1 111 49) ((zsI h (h.2.2.1 111 33) (h.1 111 38).toNatClampNeg v2).1 111 38).toNatClampNeg (nI 0)) (h.2.2.1 111 50) ((zsI (zsI h (h.2.2.1 111 33) (h.1 111 38).toNatClampNeg v2) (h.2.2.1 111 49) ((zsI h (h.2.2.1 111 33) (h.1 111 38).toNatClampNeg v2).1 111 38).toNatClampNeg (nI 0)).1 111 38).toNatClampNeg (nI 0)).1 111 38).toNatClampNeg (nI 0)) 111 11 ∧ zokO (zsI (zsI (zsI (zsI h (h.2.2.1 111 33) (h.1 111 38).toNatClampNeg v2) (h.2.2.1 111 49) ((zsI h (h.2.2.1 111 33) (h.1 111 38).toNatClampNeg v2).1 111 38).toNatClampNeg (nI 0)) (h.2.2.1 111 50) ((zsI (zsI h (h.2.2.1 111 33) (h.1 111 38).toNatClampNeg v2) (h.2.2.1 111 49) ((zsI h (h.2.2.1 111 33) (h.1 111 38).toNatClampNeg v2).1 111 38).toNatClampNeg (nI 0)).1 111 38).toNatClampNeg (nI 0)) (h.2.2.1 111 51) ((zsI (zsI (zsI h (h.2.2.1 111 33) (h.1 111 38).toNatClampNeg v2) (h.2.2.1 111 49) ((zsI h (h.2.2.1 111 33) (h.1 111 38).toNatClampNeg v2).1 111 38).toNatClampNeg (nI 0)) (h.2.2.1 111 50) ((zsI (zsI h (h.2.2.1 111 33) (h.1 111 38).toNatClampNeg v2) (h.2.2.1 111 49) ((zsI h (h.2.2.1 111 33) (h.1 111 38).toNatClampNeg v2).1 111 38).toNatClampNeg (nI 0)).1 111 38).toNatClampNeg (nI 0)).1 111 38).toNatClampNeg (nI 0)) 111 11 ∧ J mX11_laysAlong d 0 0 Q 0 0 98 [some (.inr (.inr 111)), u1, some (.inl v2)] [] (zsI (zsI (zsI (zsI (zsI h (h.2.2.1 111 33) (h.1 111 38).toNatClampNeg v2) (h.2.2.1 111 49) ((zsI h (h.2.2.1 111 33) (h.1 111 38).toNatClampNeg v2).1 111 38).toNatClampNeg (nI 0)) (h.2.2.1 111 50) ((zsI (zsI h (h.2.2.1 111 33) (h.1 111 38).toNatClampNeg v2) (h.2.2.1 111 49) ((zsI h (h.2.2.1 111 33) (h.1 111 38).toNatClampNeg v2).1 111 38).toNatClampNeg (nI 0)).1 111 38).toNatClampNeg (nI 0)) (h.2.2.1 111 51) ((zsI (zsI (zsI h (h.2.2.1 111 33) (h.1 111 38).toNatClampNeg v2) (h.2.2.1 111 49) ((zsI h (h.2.2.1 111 33) (h.1 111 38).toNatClampNeg v2).1 111 38).toNatClampNeg (nI 0)) (h.2.2.1 111 50) ((zsI (zsI h (h.2.2.1 111 33) (h.1 111 38).toNatClampNeg v2) (h.2.2.1 111 49) ((zsI h (h.2.2.1 111 33) (h.1 111 38).toNatClampNeg v2).1 111 38).toNatClampNeg (nI 0)).1 111 38).toNatClampNeg (nI 0)).1 111 38).toNatClampNeg (nI 0)) 111 38 (((zsI (zsI (zsI (zsI h (h.2.2.1 111 33) (h.1 111 38).toNatClampNeg v2) (h.2.2.1 111 49) ((zsI h (h.2.2.1 111 33) (h.1 111 38).toNatClampNeg v2).1 111 38).toNatClampNeg (nI 0)) (h.2.2.1 111 50) ((zsI (zsI h (h.2.2.1 111 33) (h.1 111 38).toNatClampNeg v2) (h.2.2.1 111 49) ((zsI h (h.2.2.1 111 33) (h.1 111 38).toNatClampNeg v2).1 111 38).toNatClampNeg (nI 0)).1 111 38).toNatClampNeg (nI 0)) (h.2.2.1 111 51) ((zsI (zsI (zsI h (h.2.2.1 111 33) (h.1 111 38).toNatClampNeg v2) (h.2.2.1 111 49) ((zsI h (h.2.2.1 111 33) (h.1 111 38).toNatClampNeg v2).1 111 38).toNatClampNeg (nI 0)) (h.2.2.1 111 50) ((zsI (zsI h (h.2.2.1 111 33) (h.1 111 38).toNatClampNeg v2) (h.2.2.1 111 49) ((zsI h (h.2.2.1 111 33) (h.1 111 38).toNatClampNeg v2).1 111 38).toNatClampNeg (nI 0)).1 111 38).toNatClampNeg (nI 0)).1 111 38).toNatClampNeg (nI 0)).1 111 38) + (nI 1)))
  rw [(show h.2.2.1 111 33 = 127 from (hr.at (by decide) (by decide) (by rfl))), (show h.2.2.1 111 49 = 136 from (hr.at (by decide) (by decide) (by rfl))), (show h.2.2.1 111 50 = 137 from (hr.at (by decide) (by decide) (by rfl))), (show h.2.2.1 111 51 = 138 from (hr.at (by decide) (by decide) (by rfl)))]
  exact ⟨(zo hr (by decide) rfl), (zo hr (by decide) rfl), (zia hr (by decide) (by rfl) g0), (zo hr (by decide) rfl), (zo hr (by decide) rfl), (zia hr (by decide) (by rfl) g1), (zo hr (by decide) rfl), (zo hr (by decide) rfl), (zia hr (by decide) (by rfl) g2), (zo hr (by decide) rfl), (zo hr (by decide) rfl), (zia hr (by decide) (by rfl) g3), (zo hr (by decide) rfl), (zo hr (by decide) rfl), k⟩

theorem bX11_laysAlong_98 {d : Nat} {Q : Option MV → MH → Prop} {h : MH} {u0 : Option MV} {v2 v1 : Int32} (k : J mX11_laysAlong d 0 0 Q 0 0 31 [u0, some (.inl v1), some (.inl (v2 + nI 1))] [] h) : J mX11_laysAlong d 0 0 Q 0 0 98 [u0, some (.inl v1), some (.inl v2)] [] h := by
  refine zrun 59 2 qX11_laysAlong (o := 11) rfl ?_
  show J mX11_laysAlong d 0 0 Q 0 0 31 [u0, some (.inl v1), some (.inl (v2 + nI 1))] [] h
  exact k

theorem bX11_laysAlong_104 {d d' : Nat} {Q : Option MV → MH → Prop} {h : MH} {u1 u2 : Option MV} (hr : zRf h) (hd : d' + 1 ≤ d) (k : Con mX11_goesAlong d' 0 0 [.inr (.inr 111), .inl (nI 0), .inl (nI 0)] h (zrv fun h' => J mX11_laysAlong d 0 0 Q 0 0 110 [some (.inr (.inr 111)), u1, u2] [] h')) : J mX11_laysAlong d 0 0 Q 0 0 104 [some (.inr (.inr 111)), u1, u2] [] h := by
  refine zrun 61 3 qX11_laysAlong (o := 11) rfl ?_
  show J mX11_laysAlong d 0 0 Q 0 0 107 [some (.inr (.inr 111)), u1, u2] [.inl (nI 0), .inl (nI 0), .inr (.inr 111)] h
  exact zcVv (as := [.inl (nI 0), .inl (nI 0)]) (zat qX11_laysAlong 64 (by rfl)) l11_367 rfl hd rfl (Nat.le_of_ble_eq_true rfl) zle0 (ci := 11) (by decide) rfl (zo hr (by decide) rfl) k

theorem bX11_laysAlong_110 {d : Nat} {Q : Option MV → MH → Prop} {h : MH} {u0 u1 u2 : Option MV} (k : Q none h) : J mX11_laysAlong d 0 0 Q 0 0 110 [u0, u1, u2] [] h := by
  exact J_vret (zat qX11_laysAlong 65 (by rfl)) rfl (Nat.le_refl 0) (Nat.le_refl 0) k

theorem bX11_along_0 {d d' : Nat} {Q : Option MV → MH → Prop} {h : MH} {u2 : Option MV} {v1 : Int32} (hr : zRf h) (hd : d' + 1 ≤ d) (k : Con mX11_isFew d' 0 0 [.inr (.inr 111), .inl v1] (zsI h 111 0 (nI 0)) (zri fun (x : Int32) h' => J mX11_along d 0 0 Q 0 0 10 [some (.inr (.inr 111)), some (.inl v1), u2] [.inl x] h')) : J mX11_along d 0 0 Q 0 0 0 [some (.inr (.inr 111)), some (.inl v1), u2] [] h := by
  refine zrun 0 5 qX11_along (o := 11) rfl ?_
  show zokO h 111 11 ∧ J mX11_along d 0 0 Q 0 0 7 [some (.inr (.inr 111)), some (.inl v1), u2] [.inl v1, .inr (.inr 111)] (zsI h 111 0 (nI 0))
  exact ⟨(zo hr (by decide) rfl), zcVi (as := [.inl v1]) (zat qX11_along 5 (by rfl)) l11_370 rfl hd rfl (Nat.le_of_ble_eq_true rfl) zle0 (ci := 11) (by decide) rfl (show zokO _ _ _ from (zo hr (by decide) rfl)) k⟩

theorem bX11_along_10 {d : Nat} {Q : Option MV → MH → Prop} {h : MH} {u0 u1 u2 : Option MV} {vs0 : Int32} (k1 : vs0 = 0 → J mX11_along d 0 0 Q 0 0 18 [u0, u1, u2] [] h) (k2 : ¬ vs0 = 0 → J mX11_along d 0 0 Q 0 0 13 [u0, u1, u2] [] h) : J mX11_along d 0 0 Q 0 0 10 [u0, u1, u2] [.inl vs0] h := by
  refine zrun 6 1 qX11_along (o := 11) rfl ?_
  show ((vs0 = 0 → J mX11_along d 0 0 Q 0 0 18 [u0, u1, u2] [] h) ∧ (¬ vs0 = 0 → J mX11_along d 0 0 Q 0 0 13 [u0, u1, u2] [] h))
  exact ⟨k1, k2⟩

theorem bX11_along_13 {d : Nat} {Q : Option MV → MH → Prop} {h : MH} {u0 u1 : Option MV} {v2 : Int32} (k1 : (nI 1) ≤ v2 → J mX11_along d 0 0 Q 0 0 21 [u0, u1, some (.inl v2)] [] h) (k2 : ¬ (nI 1) ≤ v2 → J mX11_along d 0 0 Q 0 0 18 [u0, u1, some (.inl v2)] [] h) : J mX11_along d 0 0 Q 0 0 13 [u0, u1, some (.inl v2)] [] h := by
  refine zrun 7 3 qX11_along (o := 11) rfl ?_
  show (((nI 1) ≤ v2 → J mX11_along d 0 0 Q 0 0 21 [u0, u1, some (.inl v2)] [] h) ∧ (¬ (nI 1) ≤ v2 → J mX11_along d 0 0 Q 0 0 18 [u0, u1, some (.inl v2)] [] h))
  exact ⟨k1, k2⟩

theorem bX11_along_18 {d : Nat} {Q : Option MV → MH → Prop} {h : MH} {u0 u1 u2 : Option MV} (k : Q (some (.inl (-(nI 3)))) h) : J mX11_along d 0 0 Q 0 0 18 [u0, u1, u2] [] h := by
  refine zrun 10 1 qX11_along (o := 11) rfl ?_
  show J mX11_along d 0 0 Q 0 0 20 [u0, u1, u2] [.inl (-(nI 3))] h
  exact J_iret (ty := .int) (zat qX11_along 11 (by rfl)) rfl rfl (Nat.le_refl 0) (Nat.le_refl 0) k

theorem bX11_along_21 {d d' : Nat} {Q : Option MV → MH → Prop} {h : MH} {u2 : Option MV} {v1 : Int32} (hr : zRf h) (hd : d' + 1 ≤ d) (k : Con mX11_laysAlong d' 0 0 [.inr (.inr 111), .inl v1] h (zrv fun h' => J mX11_along d 0 0 Q 0 0 26 [some (.inr (.inr 111)), some (.inl v1), u2] [] h')) : J mX11_along d 0 0 Q 0 0 21 [some (.inr (.inr 111)), some (.inl v1), u2] [] h := by
  refine zrun 12 2 qX11_along (o := 11) rfl ?_
  show J mX11_along d 0 0 Q 0 0 23 [some (.inr (.inr 111)), some (.inl v1), u2] [.inl v1, .inr (.inr 111)] h
  exact zcVv (as := [.inl v1]) (zat qX11_along 14 (by rfl)) l11_373 rfl hd rfl (Nat.le_of_ble_eq_true rfl) zle0 (ci := 11) (by decide) rfl (zo hr (by decide) rfl) k

theorem bX11_along_26 {d d' : Nat} {Q : Option MV → MH → Prop} {h : MH} {u1 : Option MV} {v2 : Int32} (hr : zRf h) (hd : d' + 1 ≤ d) (k : Con mX11_isTime d' 0 0 [.inr (.inr 111), .inl v2] h (zri fun (x : Int32) h' => J mX11_along d 0 0 Q 0 0 31 [some (.inr (.inr 111)), u1, some (.inl v2)] [.inl x] h')) : J mX11_along d 0 0 Q 0 0 26 [some (.inr (.inr 111)), u1, some (.inl v2)] [] h := by
  refine zrun 15 2 qX11_along (o := 11) rfl ?_
  show J mX11_along d 0 0 Q 0 0 28 [some (.inr (.inr 111)), u1, some (.inl v2)] [.inl v2, .inr (.inr 111)] h
  exact zcVi (as := [.inl v2]) (zat qX11_along 17 (by rfl)) l11_324 rfl hd rfl (Nat.le_of_ble_eq_true rfl) zle0 (ci := 11) (by decide) rfl (zo hr (by decide) rfl) k

theorem bX11_along_31 {d : Nat} {Q : Option MV → MH → Prop} {h : MH} {u0 u1 u2 : Option MV} {vs0 : Int32} (k1 : vs0 = 0 → J mX11_along d 0 0 Q 0 0 38 [u0, u1, u2] [] h) (k2 : ¬ vs0 = 0 → J mX11_along d 0 0 Q 0 0 34 [u0, u1, u2] [] h) : J mX11_along d 0 0 Q 0 0 31 [u0, u1, u2] [.inl vs0] h := by
  refine zrun 18 1 qX11_along (o := 11) rfl ?_
  show ((vs0 = 0 → J mX11_along d 0 0 Q 0 0 38 [u0, u1, u2] [] h) ∧ (¬ vs0 = 0 → J mX11_along d 0 0 Q 0 0 34 [u0, u1, u2] [] h))
  exact ⟨k1, k2⟩

theorem bX11_along_34 {d : Nat} {Q : Option MV → MH → Prop} {h : MH} {u0 u1 u2 : Option MV} (k : J mX11_along d 0 0 Q 0 0 39 [u0, u1, u2] [.inl (nI 1)] h) : J mX11_along d 0 0 Q 0 0 34 [u0, u1, u2] [] h := by
  refine zrun 19 2 qX11_along (o := 11) rfl ?_
  show J mX11_along d 0 0 Q 0 0 39 [u0, u1, u2] [.inl (nI 1)] h
  exact k

theorem bX11_along_38 {d : Nat} {Q : Option MV → MH → Prop} {h : MH} {u0 u1 u2 : Option MV} (k : J mX11_along d 0 0 Q 0 0 39 [u0, u1, u2] [.inl (nI 0)] h) : J mX11_along d 0 0 Q 0 0 38 [u0, u1, u2] [] h := by
  refine zrun 21 1 qX11_along (o := 11) rfl ?_
  show J mX11_along d 0 0 Q 0 0 39 [u0, u1, u2] [.inl (nI 0)] h
  exact k

theorem bX11_along_39 {d : Nat} {Q : Option MV → MH → Prop} {h : MH} {u0 u1 u2 : Option MV} {vs0 : Int32} (k : Q (some (.inl vs0)) h) : J mX11_along d 0 0 Q 0 0 39 [u0, u1, u2] [.inl vs0] h := by
  exact J_iret (ty := .int) (zat qX11_along 22 (by rfl)) rfl rfl (Nat.le_refl 0) (Nat.le_refl 0) k

theorem bX11_alongs_0 {d d' : Nat} {Q : Option MV → MH → Prop} {h : MH} {u2 : Option MV} {v1 : Int32} (hr : zRf h) (hd : d' + 1 ≤ d) (k : Con mX11_isFew d' 0 0 [.inr (.inr 111), .inl v1] (zsI h 111 0 (nI 0)) (zri fun (x : Int32) h' => J mX11_alongs d 0 0 Q 0 0 10 [some (.inr (.inr 111)), some (.inl v1), u2] [.inl x] h')) : J mX11_alongs d 0 0 Q 0 0 0 [some (.inr (.inr 111)), some (.inl v1), u2] [] h := by
  refine zrun 0 5 qX11_alongs (o := 11) rfl ?_
  show zokO h 111 11 ∧ J mX11_alongs d 0 0 Q 0 0 7 [some (.inr (.inr 111)), some (.inl v1), u2] [.inl v1, .inr (.inr 111)] (zsI h 111 0 (nI 0))
  exact ⟨(zo hr (by decide) rfl), zcVi (as := [.inl v1]) (zat qX11_alongs 5 (by rfl)) l11_370 rfl hd rfl (Nat.le_of_ble_eq_true rfl) zle0 (ci := 11) (by decide) rfl (show zokO _ _ _ from (zo hr (by decide) rfl)) k⟩

theorem bX11_alongs_10 {d : Nat} {Q : Option MV → MH → Prop} {h : MH} {u0 u1 u2 : Option MV} {vs0 : Int32} (k1 : ¬ vs0 = 0 → J mX11_alongs d 0 0 Q 0 0 16 [u0, u1, u2] [] h) (k2 : vs0 = 0 → J mX11_alongs d 0 0 Q 0 0 13 [u0, u1, u2] [] h) : J mX11_alongs d 0 0 Q 0 0 10 [u0, u1, u2] [.inl vs0] h := by
  refine zrun 6 1 qX11_alongs (o := 11) rfl ?_
  show ((¬ vs0 = 0 → J mX11_alongs d 0 0 Q 0 0 16 [u0, u1, u2] [] h) ∧ (vs0 = 0 → J mX11_alongs d 0 0 Q 0 0 13 [u0, u1, u2] [] h))
  exact ⟨k1, k2⟩

theorem bX11_alongs_13 {d : Nat} {Q : Option MV → MH → Prop} {h : MH} {u0 u1 u2 : Option MV} (k : Q (some (.inl (-(nI 3)))) h) : J mX11_alongs d 0 0 Q 0 0 13 [u0, u1, u2] [] h := by
  refine zrun 7 1 qX11_alongs (o := 11) rfl ?_
  show J mX11_alongs d 0 0 Q 0 0 15 [u0, u1, u2] [.inl (-(nI 3))] h
  exact J_iret (ty := .int) (zat qX11_alongs 8 (by rfl)) rfl rfl (Nat.le_refl 0) (Nat.le_refl 0) k

theorem bX11_alongs_16 {d d' : Nat} {Q : Option MV → MH → Prop} {h : MH} {u2 : Option MV} {v1 : Int32} (hr : zRf h) (hd : d' + 1 ≤ d) (k : Con mX11_laysAlong d' 0 0 [.inr (.inr 111), .inl v1] h (zrv fun h' => J mX11_alongs d 0 0 Q 0 0 21 [some (.inr (.inr 111)), some (.inl v1), u2] [] h')) : J mX11_alongs d 0 0 Q 0 0 16 [some (.inr (.inr 111)), some (.inl v1), u2] [] h := by
  refine zrun 9 2 qX11_alongs (o := 11) rfl ?_
  show J mX11_alongs d 0 0 Q 0 0 18 [some (.inr (.inr 111)), some (.inl v1), u2] [.inl v1, .inr (.inr 111)] h
  exact zcVv (as := [.inl v1]) (zat qX11_alongs 11 (by rfl)) l11_373 rfl hd rfl (Nat.le_of_ble_eq_true rfl) zle0 (ci := 11) (by decide) rfl (zo hr (by decide) rfl) k

theorem bX11_alongs_21 {d : Nat} {Q : Option MV → MH → Prop} {h : MH} {u0 u1 : Option MV} {v2 : Int32} (k1 : (-(nI 1)) ≤ v2 → J mX11_alongs d 0 0 Q 0 0 30 [u0, u1, some (.inl v2)] [] h) (k2 : ¬ (-(nI 1)) ≤ v2 → J mX11_alongs d 0 0 Q 0 0 26 [u0, u1, some (.inl v2)] [] h) : J mX11_alongs d 0 0 Q 0 0 21 [u0, u1, some (.inl v2)] [] h := by
  refine zrun 12 3 qX11_alongs (o := 11) rfl ?_
  show (((-(nI 1)) ≤ v2 → J mX11_alongs d 0 0 Q 0 0 30 [u0, u1, some (.inl v2)] [] h) ∧ (¬ (-(nI 1)) ≤ v2 → J mX11_alongs d 0 0 Q 0 0 26 [u0, u1, some (.inl v2)] [] h))
  exact ⟨k1, k2⟩

theorem bX11_alongs_26 {d : Nat} {Q : Option MV → MH → Prop} {h : MH} {u0 u1 u2 : Option MV} (k : J mX11_alongs d 0 0 Q 0 0 35 [u0, u1, u2] [.inl (-(nI 1))] h) : J mX11_alongs d 0 0 Q 0 0 26 [u0, u1, u2] [] h := by
  refine zrun 15 2 qX11_alongs (o := 11) rfl ?_
  show J mX11_alongs d 0 0 Q 0 0 35 [u0, u1, u2] [.inl (-(nI 1))] h
  exact k

theorem bX11_alongs_30 {d d' : Nat} {Q : Option MV → MH → Prop} {h : MH} {u1 : Option MV} {v2 : Int32} (hr : zRf h) (hd : d' + 1 ≤ d) (k : Con mX11_timeAt d' 0 0 [.inr (.inr 111), .inl v2] h (zri fun (x : Int32) h' => J mX11_alongs d 0 0 Q 0 0 35 [some (.inr (.inr 111)), u1, some (.inl v2)] [.inl x] h')) : J mX11_alongs d 0 0 Q 0 0 30 [some (.inr (.inr 111)), u1, some (.inl v2)] [] h := by
  refine zrun 17 2 qX11_alongs (o := 11) rfl ?_
  show J mX11_alongs d 0 0 Q 0 0 32 [some (.inr (.inr 111)), u1, some (.inl v2)] [.inl v2, .inr (.inr 111)] h
  exact zcVi (as := [.inl v2]) (zat qX11_alongs 19 (by rfl)) l11_345 rfl hd rfl (Nat.le_of_ble_eq_true rfl) zle0 (ci := 11) (by decide) rfl (zo hr (by decide) rfl) k

theorem bX11_alongs_35 {d : Nat} {Q : Option MV → MH → Prop} {h : MH} {u0 u1 u2 : Option MV} {vs0 : Int32} (k : Q (some (.inl vs0)) h) : J mX11_alongs d 0 0 Q 0 0 35 [u0, u1, u2] [.inl vs0] h := by
  exact J_iret (ty := .int) (zat qX11_alongs 20 (by rfl)) rfl rfl (Nat.le_refl 0) (Nat.le_refl 0) k

theorem bX11_served_0 {d d' : Nat} {Q : Option MV → MH → Prop} {h : MH} {u2 u3 u4 u5 u6 u7 : Option MV} {v1 : Int32} (hr : zRf h) (hd : d' + 1 ≤ d) (k : Con mX11_hears d' 0 0 [.inr (.inr 111), .inl v1] h (zrv fun h' => J mX11_served d 0 0 Q 0 0 5 [some (.inr (.inr 111)), some (.inl v1), u2, u3, u4, u5, u6, u7] [] h')) : J mX11_served d 0 0 Q 0 0 0 [some (.inr (.inr 111)), some (.inl v1), u2, u3, u4, u5, u6, u7] [] h := by
  refine zrun 0 2 qX11_served (o := 11) rfl ?_
  show J mX11_served d 0 0 Q 0 0 2 [some (.inr (.inr 111)), some (.inl v1), u2, u3, u4, u5, u6, u7] [.inl v1, .inr (.inr 111)] h
  exact zcVv (as := [.inl v1]) (zat qX11_served 2 (by rfl)) l11_281 rfl hd rfl (Nat.le_of_ble_eq_true rfl) zle0 (ci := 11) (by decide) rfl (zo hr (by decide) rfl) k

theorem bX11_served_5 {d : Nat} {Q : Option MV → MH → Prop} {h : MH} {u0 u1 u2 u4 u5 u6 u7 : Option MV} {v3 : Int32} (k : J mX11_served d 0 0 Q 0 0 11 [u0, u1, u2, some (.inl v3), some (.inl (nI 0)), some (.inl (nI 0)), u6, u7] [] h) : J mX11_served d 0 0 Q 0 0 5 [u0, u1, u2, some (.inl v3), u4, u5, u6, u7] [] h := by
  refine zrun 3 4 qX11_served (o := 11) rfl ?_
  show J mX11_served d 0 0 Q 0 0 11 [u0, u1, u2, some (.inl v3), some (.inl (nI 0)), some (.inl (nI 0)), u6, u7] [] h
  exact k

theorem bX11_served_11 {d : Nat} {Q : Option MV → MH → Prop} {h : MH} {u1 u3 u4 u6 u7 : Option MV} {v5 v2 : Int32} (hr : zRf h) (g0 : vp_in v2 4) (k1 : (h.1 141 v2.toNatClampNeg) ≤ v5 → J mX11_served d 0 0 Q 0 0 102 [some (.inr (.inr 111)), u1, some (.inl v2), u3, u4, some (.inl v5), u6, u7] [] h) (k2 : ¬ (h.1 141 v2.toNatClampNeg) ≤ v5 → J mX11_served d 0 0 Q 0 0 22 [some (.inr (.inr 111)), u1, some (.inl v2), u3, u4, some (.inl v5), u6, u7] [] h) : J mX11_served d 0 0 Q 0 0 11 [some (.inr (.inr 111)), u1, some (.inl v2), u3, u4, some (.inl v5), u6, u7] [] h := by
  refine zrun 7 6 qX11_served (o := 11) rfl ?_
  show zokO h 111 11 ∧ zokA h (h.2.2.1 111 54) 20 v2 ∧ (((h.1 (h.2.2.1 111 54) v2.toNatClampNeg) ≤ v5 → J mX11_served d 0 0 Q 0 0 102 [some (.inr (.inr 111)), u1, some (.inl v2), u3, u4, some (.inl v5), u6, u7] [] h) ∧ (¬ (h.1 (h.2.2.1 111 54) v2.toNatClampNeg) ≤ v5 → J mX11_served d 0 0 Q 0 0 22 [some (.inr (.inr 111)), u1, some (.inl v2), u3, u4, some (.inl v5), u6, u7] [] h))
  rw [(show h.2.2.1 111 54 = 141 from (hr.at (by decide) (by decide) (by rfl)))]
  exact ⟨(zo hr (by decide) rfl), (zia hr (by decide) (by rfl) g0), k1, k2⟩

theorem bX11_served_22 {d : Nat} {Q : Option MV → MH → Prop} {h : MH} {u0 u1 u2 u3 u4 u6 u7 : Option MV} {v5 : Int32} (k : J mX11_served d 0 0 Q 0 0 28 [u0, u1, u2, u3, u4, some (.inl v5), some (.inl (nI 0)), some (.inl (nI 0))] [] h) : J mX11_served d 0 0 Q 0 0 22 [u0, u1, u2, u3, u4, some (.inl v5), u6, u7] [] h := by
  refine zrun 13 4 qX11_served (o := 11) rfl ?_
  show J mX11_served d 0 0 Q 0 0 28 [u0, u1, u2, u3, u4, some (.inl v5), some (.inl (nI 0)), some (.inl (nI 0))] [] h
  exact k

theorem bX11_served_28 {d : Nat} {Q : Option MV → MH → Prop} {h : MH} {u1 u2 u3 u4 u5 u6 : Option MV} {v7 : Int32} (hr : zRf h) (k1 : (h.1 111 32) ≤ v7 → J mX11_served d 0 0 Q 0 0 81 [some (.inr (.inr 111)), u1, u2, u3, u4, u5, u6, some (.inl v7)] [] h) (k2 : ¬ (h.1 111 32) ≤ v7 → J mX11_served d 0 0 Q 0 0 37 [some (.inr (.inr 111)), u1, u2, u3, u4, u5, u6, some (.inl v7)] [] h) : J mX11_served d 0 0 Q 0 0 28 [some (.inr (.inr 111)), u1, u2, u3, u4, u5, u6, some (.inl v7)] [] h := by
  refine zrun 17 4 qX11_served (o := 11) rfl ?_
  show zokO h 111 11 ∧ (((h.1 111 32) ≤ v7 → J mX11_served d 0 0 Q 0 0 81 [some (.inr (.inr 111)), u1, u2, u3, u4, u5, u6, some (.inl v7)] [] h) ∧ (¬ (h.1 111 32) ≤ v7 → J mX11_served d 0 0 Q 0 0 37 [some (.inr (.inr 111)), u1, u2, u3, u4, u5, u6, some (.inl v7)] [] h))
  exact ⟨(zo hr (by decide) rfl), k1, k2⟩

theorem bX11_served_37 {d : Nat} {Q : Option MV → MH → Prop} {h : MH} {u0 u1 u2 u3 u4 u5 u7 : Option MV} {v6 : Int32} (k1 : ¬ v6 = 0 → J mX11_served d 0 0 Q 0 0 68 [u0, u1, u2, u3, u4, u5, some (.inl v6), u7] [] h) (k2 : v6 = 0 → J mX11_served d 0 0 Q 0 0 42 [u0, u1, u2, u3, u4, u5, some (.inl v6), u7] [] h) : J mX11_served d 0 0 Q 0 0 37 [u0, u1, u2, u3, u4, u5, some (.inl v6), u7] [] h := by
  refine zrun 21 2 qX11_served (o := 11) rfl ?_
  show ((¬ v6 = 0 → J mX11_served d 0 0 Q 0 0 68 [u0, u1, u2, u3, u4, u5, some (.inl v6), u7] [] h) ∧ (v6 = 0 → J mX11_served d 0 0 Q 0 0 42 [u0, u1, u2, u3, u4, u5, some (.inl v6), u7] [] h))
  exact ⟨k1, k2⟩

theorem bX11_served_42 {d d' : Nat} {Q : Option MV → MH → Prop} {h : MH} {u1 u4 u6 : Option MV} {v2 v5 v7 v3 : Int32} (hr : zRf h) (g0 : vp_in (((nI 40) * v2) + v5) 160) (g1 : vp_in v7 40) (hd : d' + 1 ≤ d) (k : Con mX11_isNear d' 0 0 [.inr (.inl (h.2.1 142 (((nI 40) * v2) + v5).toNatClampNeg)), .inl (h.1 126 v7.toNatClampNeg), .inl v3] h (zri fun (x : Int32) h' => J mX11_served d 0 0 Q 0 0 65 [some (.inr (.inr 111)), u1, some (.inl v2), some (.inl v3), u4, some (.inl v5), u6, some (.inl v7)] [.inl x] h')) : J mX11_served d 0 0 Q 0 0 42 [some (.inr (.inr 111)), u1, some (.inl v2), some (.inl v3), u4, some (.inl v5), u6, some (.inl v7)] [] h := by
  refine zrun 23 13 qX11_served (o := 11) rfl ?_
  show zokO h 111 11 ∧ zokA h (h.2.2.1 111 55) 21 (((nI 40) * v2) + v5) ∧ zokO h 111 11 ∧ zokA h (h.2.2.1 111 31) 20 v7 ∧ J mX11_served d 0 0 Q 0 0 62 [some (.inr (.inr 111)), u1, some (.inl v2), some (.inl v3), u4, some (.inl v5), u6, some (.inl v7)] [.inl v3, .inl (h.1 (h.2.2.1 111 31) v7.toNatClampNeg), .inr (.inl (h.2.1 (h.2.2.1 111 55) (((nI 40) * v2) + v5).toNatClampNeg))] h
  rw [(show h.2.2.1 111 55 = 142 from (hr.at (by decide) (by decide) (by rfl))), (show h.2.2.1 111 31 = 126 from (hr.at (by decide) (by decide) (by rfl)))]
  exact ⟨(zo hr (by decide) rfl), (zia hr (by decide) (by rfl) g0), (zo hr (by decide) rfl), (zia hr (by decide) (by rfl) g1), zcSi (as := [.inr (.inl (h.2.1 142 (((nI 40) * v2) + v5).toNatClampNeg)), .inl (h.1 126 v7.toNatClampNeg), .inl v3]) (zat qX11_served 36 (by rfl)) l11_376 rfl hd rfl (Nat.le_of_ble_eq_true rfl) zle0 k⟩

theorem bX11_served_65 {d : Nat} {Q : Option MV → MH → Prop} {h : MH} {u0 u1 u2 u3 u4 u5 u6 u7 : Option MV} {vs0 : Int32} (k1 : vs0 = 0 → J mX11_served d 0 0 Q 0 0 72 [u0, u1, u2, u3, u4, u5, u6, u7] [] h) (k2 : ¬ vs0 = 0 → J mX11_served d 0 0 Q 0 0 68 [u0, u1, u2, u3, u4, u5, u6, u7] [] h) : J mX11_served d 0 0 Q 0 0 65 [u0, u1, u2, u3, u4, u5, u6, u7] [.inl vs0] h := by
  refine zrun 37 1 qX11_served (o := 11) rfl ?_
  show ((vs0 = 0 → J mX11_served d 0 0 Q 0 0 72 [u0, u1, u2, u3, u4, u5, u6, u7] [] h) ∧ (¬ vs0 = 0 → J mX11_served d 0 0 Q 0 0 68 [u0, u1, u2, u3, u4, u5, u6, u7] [] h))
  exact ⟨k1, k2⟩

theorem bX11_served_68 {d : Nat} {Q : Option MV → MH → Prop} {h : MH} {u0 u1 u2 u3 u4 u5 u6 u7 : Option MV} (k : J mX11_served d 0 0 Q 0 0 73 [u0, u1, u2, u3, u4, u5, u6, u7] [.inl (nI 1)] h) : J mX11_served d 0 0 Q 0 0 68 [u0, u1, u2, u3, u4, u5, u6, u7] [] h := by
  refine zrun 38 2 qX11_served (o := 11) rfl ?_
  show J mX11_served d 0 0 Q 0 0 73 [u0, u1, u2, u3, u4, u5, u6, u7] [.inl (nI 1)] h
  exact k

theorem bX11_served_72 {d : Nat} {Q : Option MV → MH → Prop} {h : MH} {u0 u1 u2 u3 u4 u5 u6 u7 : Option MV} (k : J mX11_served d 0 0 Q 0 0 73 [u0, u1, u2, u3, u4, u5, u6, u7] [.inl (nI 0)] h) : J mX11_served d 0 0 Q 0 0 72 [u0, u1, u2, u3, u4, u5, u6, u7] [] h := by
  refine zrun 40 1 qX11_served (o := 11) rfl ?_
  show J mX11_served d 0 0 Q 0 0 73 [u0, u1, u2, u3, u4, u5, u6, u7] [.inl (nI 0)] h
  exact k

theorem bX11_served_73 {d : Nat} {Q : Option MV → MH → Prop} {h : MH} {u0 u1 u2 u3 u4 u6 : Option MV} {vs0 v5 v7 : Int32} (k : J mX11_served d 0 0 Q 0 0 28 [u0, u1, u2, u3, u4, some (.inl v5), some (.inl vs0), some (.inl (v7 + nI 1))] [] h) : J mX11_served d 0 0 Q 0 0 73 [u0, u1, u2, u3, u4, some (.inl v5), u6, some (.inl v7)] [.inl vs0] h := by
  refine zrun 41 3 qX11_served (o := 11) rfl ?_
  show J mX11_served d 0 0 Q 0 0 28 [u0, u1, u2, u3, u4, some (.inl v5), some (.inl vs0), some (.inl (v7 + nI 1))] [] h
  exact k

theorem bX11_served_81 {d : Nat} {Q : Option MV → MH → Prop} {h : MH} {u0 u1 u2 u3 u5 u7 : Option MV} {v4 v6 : Int32} (k1 : v6 = 0 → J mX11_served d 0 0 Q 0 0 92 [u0, u1, u2, u3, some (.inl v4), u5, some (.inl v6), u7] [.inl v4] h) (k2 : ¬ v6 = 0 → J mX11_served d 0 0 Q 0 0 88 [u0, u1, u2, u3, some (.inl v4), u5, some (.inl v6), u7] [.inl v4] h) : J mX11_served d 0 0 Q 0 0 81 [u0, u1, u2, u3, some (.inl v4), u5, some (.inl v6), u7] [] h := by
  refine zrun 44 3 qX11_served (o := 11) rfl ?_
  show ((v6 = 0 → J mX11_served d 0 0 Q 0 0 92 [u0, u1, u2, u3, some (.inl v4), u5, some (.inl v6), u7] [.inl v4] h) ∧ (¬ v6 = 0 → J mX11_served d 0 0 Q 0 0 88 [u0, u1, u2, u3, some (.inl v4), u5, some (.inl v6), u7] [.inl v4] h))
  exact ⟨k1, k2⟩

theorem bX11_served_88 {d : Nat} {Q : Option MV → MH → Prop} {h : MH} {u0 u1 u2 u3 u4 u5 u6 u7 : Option MV} {vs0 : Int32} (k : J mX11_served d 0 0 Q 0 0 93 [u0, u1, u2, u3, u4, u5, u6, u7] [.inl (nI 1), .inl vs0] h) : J mX11_served d 0 0 Q 0 0 88 [u0, u1, u2, u3, u4, u5, u6, u7] [.inl vs0] h := by
  refine zrun 47 2 qX11_served (o := 11) rfl ?_
  show J mX11_served d 0 0 Q 0 0 93 [u0, u1, u2, u3, u4, u5, u6, u7] [.inl (nI 1), .inl vs0] h
  exact k

theorem bX11_served_92 {d : Nat} {Q : Option MV → MH → Prop} {h : MH} {u0 u1 u2 u3 u4 u5 u6 u7 : Option MV} {vs0 : Int32} (k : J mX11_served d 0 0 Q 0 0 93 [u0, u1, u2, u3, u4, u5, u6, u7] [.inl (nI 0), .inl vs0] h) : J mX11_served d 0 0 Q 0 0 92 [u0, u1, u2, u3, u4, u5, u6, u7] [.inl vs0] h := by
  refine zrun 49 1 qX11_served (o := 11) rfl ?_
  show J mX11_served d 0 0 Q 0 0 93 [u0, u1, u2, u3, u4, u5, u6, u7] [.inl (nI 0), .inl vs0] h
  exact k

theorem bX11_served_93 {d : Nat} {Q : Option MV → MH → Prop} {h : MH} {u0 u1 u2 u4 u6 u7 : Option MV} {vs0 vs1 v3 v5 : Int32} (k : J mX11_served d 0 0 Q 0 0 11 [u0, u1, u2, some (.inl v3), some (.inl (vs0 + vs1)), some (.inl (v5 + nI 1)), u6, u7] [] h) : J mX11_served d 0 0 Q 0 0 93 [u0, u1, u2, some (.inl v3), u4, some (.inl v5), u6, u7] [.inl vs1, .inl vs0] h := by
  refine zrun 50 4 qX11_served (o := 11) rfl ?_
  show J mX11_served d 0 0 Q 0 0 11 [u0, u1, u2, some (.inl v3), some (.inl (vs0 + vs1)), some (.inl (v5 + nI 1)), u6, u7] [] h
  exact k

theorem bX11_served_102 {d : Nat} {Q : Option MV → MH → Prop} {h : MH} {u0 u1 u2 u3 u5 u6 u7 : Option MV} {v4 : Int32} (k : Q (some (.inl v4)) h) : J mX11_served d 0 0 Q 0 0 102 [u0, u1, u2, u3, some (.inl v4), u5, u6, u7] [] h := by
  refine zrun 54 1 qX11_served (o := 11) rfl ?_
  show J mX11_served d 0 0 Q 0 0 104 [u0, u1, u2, u3, some (.inl v4), u5, u6, u7] [.inl v4] h
  exact J_iret (ty := .int) (zat qX11_served 55 (by rfl)) rfl rfl (Nat.le_refl 0) (Nat.le_refl 0) k

theorem bX11_isNear_0 {d d' : Nat} {Q : Option MV → MH → Prop} {h : MH} {u1 : Option MV} {v2 v3 : Int32} {v0 : Int64} (hd : d' + 1 ≤ d) (k : Con mX11_within d' 0 0 [.inr (.inl v0), .inr (.inl (v2.toInt64 - v3.toInt64)), .inr (.inl (v2.toInt64 + v3.toInt64))] h (zri fun (x : Int32) h' => J mX11_isNear d 0 0 Q 0 0 14 [some (.inr (.inl v0)), u1, some (.inl v2), some (.inl v3)] [.inl x] h')) : J mX11_isNear d 0 0 Q 0 0 0 [some (.inr (.inl v0)), u1, some (.inl v2), some (.inl v3)] [] h := by
  refine zrun 0 11 qX11_isNear (o := 11) rfl ?_
  show J mX11_isNear d 0 0 Q 0 0 11 [some (.inr (.inl v0)), u1, some (.inl v2), some (.inl v3)] [.inr (.inl (v2.toInt64 + v3.toInt64)), .inr (.inl (v2.toInt64 - v3.toInt64)), .inr (.inl v0)] h
  exact zcSi (as := [.inr (.inl v0), .inr (.inl (v2.toInt64 - v3.toInt64)), .inr (.inl (v2.toInt64 + v3.toInt64))]) (zat qX11_isNear 11 (by rfl)) l11_178 rfl hd rfl (Nat.le_of_ble_eq_true rfl) zle0 k

theorem bX11_isNear_14 {d : Nat} {Q : Option MV → MH → Prop} {h : MH} {u0 u1 u2 u3 : Option MV} {vs0 : Int32} (gn : vs0 = 0 ∨ vs0 = 1) (k : Q (some (.inl vs0)) h) : J mX11_isNear d 0 0 Q 0 0 14 [u0, u1, u2, u3] [.inl vs0] h := by
  exact J_iret (ty := .boolean) (zat qX11_isNear 12 (by rfl)) rfl (znz gn) (Nat.le_refl 0) (Nat.le_refl 0) k

theorem bX11_serves_0 {d d' : Nat} {Q : Option MV → MH → Prop} {h : MH} {u2 u3 : Option MV} {v1 : Int32} (hr : zRf h) (hd : d' + 1 ≤ d) (k : Con mX11_isPlan d' 0 0 [.inl v1] (zsI h 111 0 (nI 0)) (zri fun (x : Int32) h' => J mX11_serves d 0 0 Q 0 0 9 [some (.inr (.inr 111)), some (.inl v1), u2, u3] [.inl x] h')) : J mX11_serves d 0 0 Q 0 0 0 [some (.inr (.inr 111)), some (.inl v1), u2, u3] [] h := by
  refine zrun 0 4 qX11_serves (o := 11) rfl ?_
  show zokO h 111 11 ∧ J mX11_serves d 0 0 Q 0 0 6 [some (.inr (.inr 111)), some (.inl v1), u2, u3] [.inl v1] (zsI h 111 0 (nI 0))
  exact ⟨(zo hr (by decide) rfl), zcSi (as := [.inl v1]) (zat qX11_serves 4 (by rfl)) l11_261 rfl hd rfl (Nat.le_of_ble_eq_true rfl) zle0 k⟩

theorem bX11_serves_9 {d : Nat} {Q : Option MV → MH → Prop} {h : MH} {u0 u1 u2 u3 : Option MV} {vs0 : Int32} (k1 : vs0 = 0 → J mX11_serves d 0 0 Q 0 0 24 [u0, u1, u2, u3] [] h) (k2 : ¬ vs0 = 0 → J mX11_serves d 0 0 Q 0 0 12 [u0, u1, u2, u3] [] h) : J mX11_serves d 0 0 Q 0 0 9 [u0, u1, u2, u3] [.inl vs0] h := by
  refine zrun 5 1 qX11_serves (o := 11) rfl ?_
  show ((vs0 = 0 → J mX11_serves d 0 0 Q 0 0 24 [u0, u1, u2, u3] [] h) ∧ (¬ vs0 = 0 → J mX11_serves d 0 0 Q 0 0 12 [u0, u1, u2, u3] [] h))
  exact ⟨k1, k2⟩

theorem bX11_serves_12 {d d' : Nat} {Q : Option MV → MH → Prop} {h : MH} {u0 u1 u3 : Option MV} {v2 : Int32} (hd : d' + 1 ≤ d) (k : Con mX11_within d' 0 0 [.inr (.inl v2.toInt64), .inr (.inl (lN 0)), .inr (.inl (3 : Int64))] h (zri fun (x : Int32) h' => J mX11_serves d 0 0 Q 0 0 21 [u0, u1, some (.inl v2), u3] [.inl x] h')) : J mX11_serves d 0 0 Q 0 0 12 [u0, u1, some (.inl v2), u3] [] h := by
  refine zrun 6 4 qX11_serves (o := 11) rfl ?_
  show J mX11_serves d 0 0 Q 0 0 18 [u0, u1, some (.inl v2), u3] [.inr (.inl (3 : Int64)), .inr (.inl (lN 0)), .inr (.inl v2.toInt64)] h
  exact zcSi (as := [.inr (.inl v2.toInt64), .inr (.inl (lN 0)), .inr (.inl (3 : Int64))]) (zat qX11_serves 10 (by rfl)) l11_178 rfl hd rfl (Nat.le_of_ble_eq_true rfl) zle0 k

theorem bX11_serves_21 {d : Nat} {Q : Option MV → MH → Prop} {h : MH} {u0 u1 u2 u3 : Option MV} {vs0 : Int32} (k1 : ¬ vs0 = 0 → J mX11_serves d 0 0 Q 0 0 27 [u0, u1, u2, u3] [] h) (k2 : vs0 = 0 → J mX11_serves d 0 0 Q 0 0 24 [u0, u1, u2, u3] [] h) : J mX11_serves d 0 0 Q 0 0 21 [u0, u1, u2, u3] [.inl vs0] h := by
  refine zrun 11 1 qX11_serves (o := 11) rfl ?_
  show ((¬ vs0 = 0 → J mX11_serves d 0 0 Q 0 0 27 [u0, u1, u2, u3] [] h) ∧ (vs0 = 0 → J mX11_serves d 0 0 Q 0 0 24 [u0, u1, u2, u3] [] h))
  exact ⟨k1, k2⟩

theorem bX11_serves_24 {d : Nat} {Q : Option MV → MH → Prop} {h : MH} {u0 u1 u2 u3 : Option MV} (k : Q (some (.inl (-(nI 2)))) h) : J mX11_serves d 0 0 Q 0 0 24 [u0, u1, u2, u3] [] h := by
  refine zrun 12 1 qX11_serves (o := 11) rfl ?_
  show J mX11_serves d 0 0 Q 0 0 26 [u0, u1, u2, u3] [.inl (-(nI 2))] h
  exact J_iret (ty := .int) (zat qX11_serves 13 (by rfl)) rfl rfl (Nat.le_refl 0) (Nat.le_refl 0) k

theorem bX11_serves_27 {d : Nat} {Q : Option MV → MH → Prop} {h : MH} {u1 u3 : Option MV} {v2 : Int32} (hr : zRf h) (g0 : vp_in v2 4) (k1 : ¬ (h.1 140 v2.toNatClampNeg) = (-(nI 1)) → J mX11_serves d 0 0 Q 0 0 40 [some (.inr (.inr 111)), u1, some (.inl v2), u3] [] h) (k2 : (h.1 140 v2.toNatClampNeg) = (-(nI 1)) → J mX11_serves d 0 0 Q 0 0 37 [some (.inr (.inr 111)), u1, some (.inl v2), u3] [] h) : J mX11_serves d 0 0 Q 0 0 27 [some (.inr (.inr 111)), u1, some (.inl v2), u3] [] h := by
  refine zrun 14 6 qX11_serves (o := 11) rfl ?_
  show zokO h 111 11 ∧ zokA h (h.2.2.1 111 53) 20 v2 ∧ ((¬ (h.1 (h.2.2.1 111 53) v2.toNatClampNeg) = (-(nI 1)) → J mX11_serves d 0 0 Q 0 0 40 [some (.inr (.inr 111)), u1, some (.inl v2), u3] [] h) ∧ ((h.1 (h.2.2.1 111 53) v2.toNatClampNeg) = (-(nI 1)) → J mX11_serves d 0 0 Q 0 0 37 [some (.inr (.inr 111)), u1, some (.inl v2), u3] [] h))
  rw [(show h.2.2.1 111 53 = 140 from (hr.at (by decide) (by decide) (by rfl)))]
  exact ⟨(zo hr (by decide) rfl), (zia hr (by decide) (by rfl) g0), k1, k2⟩

theorem bX11_serves_37 {d : Nat} {Q : Option MV → MH → Prop} {h : MH} {u0 u1 u2 u3 : Option MV} (k : Q (some (.inl (-(nI 6)))) h) : J mX11_serves d 0 0 Q 0 0 37 [u0, u1, u2, u3] [] h := by
  refine zrun 20 1 qX11_serves (o := 11) rfl ?_
  show J mX11_serves d 0 0 Q 0 0 39 [u0, u1, u2, u3] [.inl (-(nI 6))] h
  exact J_iret (ty := .int) (zat qX11_serves 21 (by rfl)) rfl rfl (Nat.le_refl 0) (Nat.le_refl 0) k

theorem bX11_serves_40 {d : Nat} {Q : Option MV → MH → Prop} {h : MH} {u0 u1 u2 : Option MV} {v3 : Int32} (k1 : 0 ≤ v3 → J mX11_serves d 0 0 Q 0 0 49 [u0, u1, u2, some (.inl v3)] [] h) (k2 : ¬ 0 ≤ v3 → J mX11_serves d 0 0 Q 0 0 44 [u0, u1, u2, some (.inl v3)] [] h) : J mX11_serves d 0 0 Q 0 0 40 [u0, u1, u2, some (.inl v3)] [] h := by
  refine zrun 22 2 qX11_serves (o := 11) rfl ?_
  show ((0 ≤ v3 → J mX11_serves d 0 0 Q 0 0 49 [u0, u1, u2, some (.inl v3)] [] h) ∧ (¬ 0 ≤ v3 → J mX11_serves d 0 0 Q 0 0 44 [u0, u1, u2, some (.inl v3)] [] h))
  exact ⟨k1, k2⟩

theorem bX11_serves_44 {d : Nat} {Q : Option MV → MH → Prop} {h : MH} {u0 u1 u2 u3 : Option MV} (k : J mX11_serves d 0 0 Q 0 0 56 [u0, u1, u2, u3] [.inl (-(nI 3))] h) : J mX11_serves d 0 0 Q 0 0 44 [u0, u1, u2, u3] [] h := by
  refine zrun 24 2 qX11_serves (o := 11) rfl ?_
  show J mX11_serves d 0 0 Q 0 0 56 [u0, u1, u2, u3] [.inl (-(nI 3))] h
  exact k

theorem bX11_serves_49 {d d' : Nat} {Q : Option MV → MH → Prop} {h : MH} {v1 v2 v3 : Int32} (hr : zRf h) (hd : d' + 1 ≤ d) (k : Con mX11_served d' 0 0 [.inr (.inr 111), .inl v1, .inl v2, .inl v3] h (zri fun (x : Int32) h' => J mX11_serves d 0 0 Q 0 0 56 [some (.inr (.inr 111)), some (.inl v1), some (.inl v2), some (.inl v3)] [.inl x] h')) : J mX11_serves d 0 0 Q 0 0 49 [some (.inr (.inr 111)), some (.inl v1), some (.inl v2), some (.inl v3)] [] h := by
  refine zrun 26 4 qX11_serves (o := 11) rfl ?_
  show J mX11_serves d 0 0 Q 0 0 53 [some (.inr (.inr 111)), some (.inl v1), some (.inl v2), some (.inl v3)] [.inl v3, .inl v2, .inl v1, .inr (.inr 111)] h
  exact zcVi (as := [.inl v1, .inl v2, .inl v3]) (zat qX11_serves 30 (by rfl)) l11_380 rfl hd rfl (Nat.le_of_ble_eq_true rfl) zle0 (ci := 11) (by decide) rfl (zo hr (by decide) rfl) k

theorem bX11_serves_56 {d : Nat} {Q : Option MV → MH → Prop} {h : MH} {u0 u1 u2 u3 : Option MV} {vs0 : Int32} (k : Q (some (.inl vs0)) h) : J mX11_serves d 0 0 Q 0 0 56 [u0, u1, u2, u3] [.inl vs0] h := by
  exact J_iret (ty := .int) (zat qX11_serves 31 (by rfl)) rfl rfl (Nat.le_refl 0) (Nat.le_refl 0) k

theorem bX11_fittest_0 {d d' : Nat} {Q : Option MV → MH → Prop} {h : MH} {u2 u3 u4 u5 u6 : Option MV} {v1 : Int32} (hr : zRf h) (hd : d' + 1 ≤ d) (k : Con mX11_within d' 0 0 [.inr (.inl v1.toInt64), .inr (.inl (lN 0)), .inr (.inl (3 : Int64))] (zsI h 111 0 (nI 0)) (zri fun (x : Int32) h' => J mX11_fittest d 0 0 Q 0 0 14 [some (.inr (.inr 111)), some (.inl v1), u2, u3, u4, u5, u6] [.inl x] h')) : J mX11_fittest d 0 0 Q 0 0 0 [some (.inr (.inr 111)), some (.inl v1), u2, u3, u4, u5, u6] [] h := by
  refine zrun 0 7 qX11_fittest (o := 11) rfl ?_
  show zokO h 111 11 ∧ J mX11_fittest d 0 0 Q 0 0 11 [some (.inr (.inr 111)), some (.inl v1), u2, u3, u4, u5, u6] [.inr (.inl (3 : Int64)), .inr (.inl (lN 0)), .inr (.inl v1.toInt64)] (zsI h 111 0 (nI 0))
  exact ⟨(zo hr (by decide) rfl), zcSi (as := [.inr (.inl v1.toInt64), .inr (.inl (lN 0)), .inr (.inl (3 : Int64))]) (zat qX11_fittest 7 (by rfl)) l11_178 rfl hd rfl (Nat.le_of_ble_eq_true rfl) zle0 k⟩

theorem bX11_fittest_14 {d : Nat} {Q : Option MV → MH → Prop} {h : MH} {u0 u1 u2 u3 u4 u5 u6 : Option MV} {vs0 : Int32} (k1 : ¬ vs0 = 0 → J mX11_fittest d 0 0 Q 0 0 20 [u0, u1, u2, u3, u4, u5, u6] [] h) (k2 : vs0 = 0 → J mX11_fittest d 0 0 Q 0 0 17 [u0, u1, u2, u3, u4, u5, u6] [] h) : J mX11_fittest d 0 0 Q 0 0 14 [u0, u1, u2, u3, u4, u5, u6] [.inl vs0] h := by
  refine zrun 8 1 qX11_fittest (o := 11) rfl ?_
  show ((¬ vs0 = 0 → J mX11_fittest d 0 0 Q 0 0 20 [u0, u1, u2, u3, u4, u5, u6] [] h) ∧ (vs0 = 0 → J mX11_fittest d 0 0 Q 0 0 17 [u0, u1, u2, u3, u4, u5, u6] [] h))
  exact ⟨k1, k2⟩

theorem bX11_fittest_17 {d : Nat} {Q : Option MV → MH → Prop} {h : MH} {u0 u1 u2 u3 u4 u5 u6 : Option MV} (k : Q (some (.inl (-(nI 2)))) h) : J mX11_fittest d 0 0 Q 0 0 17 [u0, u1, u2, u3, u4, u5, u6] [] h := by
  refine zrun 9 1 qX11_fittest (o := 11) rfl ?_
  show J mX11_fittest d 0 0 Q 0 0 19 [u0, u1, u2, u3, u4, u5, u6] [.inl (-(nI 2))] h
  exact J_iret (ty := .int) (zat qX11_fittest 10 (by rfl)) rfl rfl (Nat.le_refl 0) (Nat.le_refl 0) k

theorem bX11_fittest_20 {d : Nat} {Q : Option MV → MH → Prop} {h : MH} {u2 u3 u4 u5 u6 : Option MV} {v1 : Int32} (hr : zRf h) (g0 : vp_in v1 4) (k1 : ¬ (h.1 140 v1.toNatClampNeg) = (-(nI 1)) → J mX11_fittest d 0 0 Q 0 0 33 [some (.inr (.inr 111)), some (.inl v1), u2, u3, u4, u5, u6] [] h) (k2 : (h.1 140 v1.toNatClampNeg) = (-(nI 1)) → J mX11_fittest d 0 0 Q 0 0 30 [some (.inr (.inr 111)), some (.inl v1), u2, u3, u4, u5, u6] [] h) : J mX11_fittest d 0 0 Q 0 0 20 [some (.inr (.inr 111)), some (.inl v1), u2, u3, u4, u5, u6] [] h := by
  refine zrun 11 6 qX11_fittest (o := 11) rfl ?_
  show zokO h 111 11 ∧ zokA h (h.2.2.1 111 53) 20 v1 ∧ ((¬ (h.1 (h.2.2.1 111 53) v1.toNatClampNeg) = (-(nI 1)) → J mX11_fittest d 0 0 Q 0 0 33 [some (.inr (.inr 111)), some (.inl v1), u2, u3, u4, u5, u6] [] h) ∧ ((h.1 (h.2.2.1 111 53) v1.toNatClampNeg) = (-(nI 1)) → J mX11_fittest d 0 0 Q 0 0 30 [some (.inr (.inr 111)), some (.inl v1), u2, u3, u4, u5, u6] [] h))
  rw [(show h.2.2.1 111 53 = 140 from (hr.at (by decide) (by decide) (by rfl)))]
  exact ⟨(zo hr (by decide) rfl), (zia hr (by decide) (by rfl) g0), k1, k2⟩

theorem bX11_fittest_30 {d : Nat} {Q : Option MV → MH → Prop} {h : MH} {u0 u1 u2 u3 u4 u5 u6 : Option MV} (k : Q (some (.inl (-(nI 6)))) h) : J mX11_fittest d 0 0 Q 0 0 30 [u0, u1, u2, u3, u4, u5, u6] [] h := by
  refine zrun 17 1 qX11_fittest (o := 11) rfl ?_
  show J mX11_fittest d 0 0 Q 0 0 32 [u0, u1, u2, u3, u4, u5, u6] [.inl (-(nI 6))] h
  exact J_iret (ty := .int) (zat qX11_fittest 18 (by rfl)) rfl rfl (Nat.le_refl 0) (Nat.le_refl 0) k

theorem bX11_fittest_33 {d : Nat} {Q : Option MV → MH → Prop} {h : MH} {u0 u1 u3 u4 u5 u6 : Option MV} {v2 : Int32} (k1 : 0 ≤ v2 → J mX11_fittest d 0 0 Q 0 0 40 [u0, u1, some (.inl v2), u3, u4, u5, u6] [] h) (k2 : ¬ 0 ≤ v2 → J mX11_fittest d 0 0 Q 0 0 37 [u0, u1, some (.inl v2), u3, u4, u5, u6] [] h) : J mX11_fittest d 0 0 Q 0 0 33 [u0, u1, some (.inl v2), u3, u4, u5, u6] [] h := by
  refine zrun 19 2 qX11_fittest (o := 11) rfl ?_
  show ((0 ≤ v2 → J mX11_fittest d 0 0 Q 0 0 40 [u0, u1, some (.inl v2), u3, u4, u5, u6] [] h) ∧ (¬ 0 ≤ v2 → J mX11_fittest d 0 0 Q 0 0 37 [u0, u1, some (.inl v2), u3, u4, u5, u6] [] h))
  exact ⟨k1, k2⟩

theorem bX11_fittest_37 {d : Nat} {Q : Option MV → MH → Prop} {h : MH} {u0 u1 u2 u3 u4 u5 u6 : Option MV} (k : Q (some (.inl (-(nI 3)))) h) : J mX11_fittest d 0 0 Q 0 0 37 [u0, u1, u2, u3, u4, u5, u6] [] h := by
  refine zrun 21 1 qX11_fittest (o := 11) rfl ?_
  show J mX11_fittest d 0 0 Q 0 0 39 [u0, u1, u2, u3, u4, u5, u6] [.inl (-(nI 3))] h
  exact J_iret (ty := .int) (zat qX11_fittest 22 (by rfl)) rfl rfl (Nat.le_refl 0) (Nat.le_refl 0) k

theorem bX11_fittest_40 {d : Nat} {Q : Option MV → MH → Prop} {h : MH} {u0 u1 u3 u4 u5 u6 : Option MV} {v2 : Int32} (k : J mX11_fittest d 0 0 Q 0 0 48 [u0, u1, some (.inl v2), some (.inl (nI 0)), some (.inl (-(nI 1))), some (.inl (nI 0)), u6] [] h) : J mX11_fittest d 0 0 Q 0 0 40 [u0, u1, some (.inl v2), u3, u4, u5, u6] [] h := by
  refine zrun 23 6 qX11_fittest (o := 11) rfl ?_
  show J mX11_fittest d 0 0 Q 0 0 48 [u0, u1, some (.inl v2), some (.inl (nI 0)), some (.inl (-(nI 1))), some (.inl (nI 0)), u6] [] h
  exact k

theorem bX11_fittest_48 {d : Nat} {Q : Option MV → MH → Prop} {h : MH} {u0 u1 u2 u3 u4 u6 : Option MV} {v5 : Int32} (k1 : (nI 4) ≤ v5 → J mX11_fittest d 0 0 Q 0 0 87 [u0, u1, u2, u3, u4, some (.inl v5), u6] [] h) (k2 : ¬ (nI 4) ≤ v5 → J mX11_fittest d 0 0 Q 0 0 54 [u0, u1, u2, u3, u4, some (.inl v5), u6] [] h) : J mX11_fittest d 0 0 Q 0 0 48 [u0, u1, u2, u3, u4, some (.inl v5), u6] [] h := by
  refine zrun 29 3 qX11_fittest (o := 11) rfl ?_
  show (((nI 4) ≤ v5 → J mX11_fittest d 0 0 Q 0 0 87 [u0, u1, u2, u3, u4, some (.inl v5), u6] [] h) ∧ (¬ (nI 4) ≤ v5 → J mX11_fittest d 0 0 Q 0 0 54 [u0, u1, u2, u3, u4, some (.inl v5), u6] [] h))
  exact ⟨k1, k2⟩

theorem bX11_fittest_54 {d d' : Nat} {Q : Option MV → MH → Prop} {h : MH} {u3 u4 u6 : Option MV} {v5 v1 v2 : Int32} (hr : zRf h) (hd : d' + 1 ≤ d) (k : Con mX11_served d' 0 0 [.inr (.inr 111), .inl v5, .inl v1, .inl v2] h (zri fun (x : Int32) h' => J mX11_fittest d 0 0 Q 0 0 62 [some (.inr (.inr 111)), some (.inl v1), some (.inl v2), u3, u4, some (.inl v5), u6] [.inl x] h')) : J mX11_fittest d 0 0 Q 0 0 54 [some (.inr (.inr 111)), some (.inl v1), some (.inl v2), u3, u4, some (.inl v5), u6] [] h := by
  refine zrun 32 4 qX11_fittest (o := 11) rfl ?_
  show J mX11_fittest d 0 0 Q 0 0 59 [some (.inr (.inr 111)), some (.inl v1), some (.inl v2), u3, u4, some (.inl v5), u6] [.inl v2, .inl v1, .inl v5, .inr (.inr 111)] h
  exact zcVi (as := [.inl v5, .inl v1, .inl v2]) (zat qX11_fittest 36 (by rfl)) l11_380 rfl hd rfl (Nat.le_of_ble_eq_true rfl) zle0 (ci := 11) (by decide) rfl (zo hr (by decide) rfl) k

theorem bX11_fittest_62 {d : Nat} {Q : Option MV → MH → Prop} {h : MH} {u0 u1 u2 u3 u6 : Option MV} {vs0 v5 v4 : Int32} (k1 : v4 < vs0 → J mX11_fittest d 0 0 Q 0 0 74 [u0, u1, u2, u3, some (.inl v4), some (.inl v5), some (.inl vs0)] [] h) (k2 : ¬ v4 < vs0 → J mX11_fittest d 0 0 Q 0 0 71 [u0, u1, u2, u3, some (.inl v4), some (.inl v5), some (.inl vs0)] [] h) : J mX11_fittest d 0 0 Q 0 0 62 [u0, u1, u2, u3, some (.inl v4), some (.inl v5), u6] [.inl vs0] h := by
  refine zrun 37 4 qX11_fittest (o := 11) rfl ?_
  show ((v4 < vs0 → J mX11_fittest d 0 0 Q 0 0 74 [u0, u1, u2, u3, some (.inl v4), some (.inl v5), some (.inl vs0)] [] h) ∧ (¬ v4 < vs0 → J mX11_fittest d 0 0 Q 0 0 71 [u0, u1, u2, u3, some (.inl v4), some (.inl v5), some (.inl vs0)] [] h))
  exact ⟨k1, k2⟩

theorem bX11_fittest_71 {d : Nat} {Q : Option MV → MH → Prop} {h : MH} {u0 u1 u2 u3 u4 u5 u6 : Option MV} (k : J mX11_fittest d 0 0 Q 0 0 81 [u0, u1, u2, u3, u4, u5, u6] [] h) : J mX11_fittest d 0 0 Q 0 0 71 [u0, u1, u2, u3, u4, u5, u6] [] h := by
  refine zrun 41 1 qX11_fittest (o := 11) rfl ?_
  show J mX11_fittest d 0 0 Q 0 0 81 [u0, u1, u2, u3, u4, u5, u6] [] h
  exact k

theorem bX11_fittest_74 {d : Nat} {Q : Option MV → MH → Prop} {h : MH} {u0 u1 u4 : Option MV} {v6 v3 v5 v2 : Int32} (k : J mX11_fittest d 0 0 Q 0 0 81 [u0, u1, some (.inl v2), some (.inl v5), some (.inl v6), some (.inl v5), some (.inl v6)] [] h) : J mX11_fittest d 0 0 Q 0 0 74 [u0, u1, some (.inl v2), some (.inl v3), u4, some (.inl v5), some (.inl v6)] [] h := by
  refine zrun 42 4 qX11_fittest (o := 11) rfl ?_
  show J mX11_fittest d 0 0 Q 0 0 81 [u0, u1, some (.inl v2), some (.inl v5), some (.inl v6), some (.inl v5), some (.inl v6)] [] h
  exact k

theorem bX11_fittest_81 {d : Nat} {Q : Option MV → MH → Prop} {h : MH} {u0 u1 u2 u3 u6 : Option MV} {v5 v4 : Int32} (k : J mX11_fittest d 0 0 Q 0 0 48 [u0, u1, u2, u3, some (.inl v4), some (.inl (v5 + nI 1)), u6] [] h) : J mX11_fittest d 0 0 Q 0 0 81 [u0, u1, u2, u3, some (.inl v4), some (.inl v5), u6] [] h := by
  refine zrun 46 2 qX11_fittest (o := 11) rfl ?_
  show J mX11_fittest d 0 0 Q 0 0 48 [u0, u1, u2, u3, some (.inl v4), some (.inl (v5 + nI 1)), u6] [] h
  exact k

theorem bX11_fittest_87 {d : Nat} {Q : Option MV → MH → Prop} {h : MH} {u0 u1 u2 u4 u5 u6 : Option MV} {v3 : Int32} (k : Q (some (.inl v3)) h) : J mX11_fittest d 0 0 Q 0 0 87 [u0, u1, u2, some (.inl v3), u4, u5, u6] [] h := by
  refine zrun 48 1 qX11_fittest (o := 11) rfl ?_
  show J mX11_fittest d 0 0 Q 0 0 88 [u0, u1, u2, some (.inl v3), u4, u5, u6] [.inl v3] h
  exact J_iret (ty := .int) (zat qX11_fittest 49 (by rfl)) rfl rfl (Nat.le_refl 0) (Nat.le_refl 0) k

theorem bX11_mayBe_0 {d d' : Nat} {Q : Option MV → MH → Prop} {h : MH} {u2 u3 u4 u5 : Option MV} {v1 : Int32} (hr : zRf h) (hd : d' + 1 ≤ d) (k : Con mX11_hears d' 0 0 [.inr (.inr 111), .inl v1] h (zrv fun h' => J mX11_mayBe d 0 0 Q 0 0 5 [some (.inr (.inr 111)), some (.inl v1), u2, u3, u4, u5] [] h')) : J mX11_mayBe d 0 0 Q 0 0 0 [some (.inr (.inr 111)), some (.inl v1), u2, u3, u4, u5] [] h := by
  refine zrun 0 2 qX11_mayBe (o := 11) rfl ?_
  show J mX11_mayBe d 0 0 Q 0 0 2 [some (.inr (.inr 111)), some (.inl v1), u2, u3, u4, u5] [.inl v1, .inr (.inr 111)] h
  exact zcVv (as := [.inl v1]) (zat qX11_mayBe 2 (by rfl)) l11_281 rfl hd rfl (Nat.le_of_ble_eq_true rfl) zle0 (ci := 11) (by decide) rfl (zo hr (by decide) rfl) k

theorem bX11_mayBe_5 {d : Nat} {Q : Option MV → MH → Prop} {h : MH} {u0 u1 u2 u4 u5 : Option MV} {v3 : Int32} (k : J mX11_mayBe d 0 0 Q 0 0 8 [u0, u1, u2, some (.inl v3), some (.inl (nI 0)), u5] [] h) : J mX11_mayBe d 0 0 Q 0 0 5 [u0, u1, u2, some (.inl v3), u4, u5] [] h := by
  refine zrun 3 2 qX11_mayBe (o := 11) rfl ?_
  show J mX11_mayBe d 0 0 Q 0 0 8 [u0, u1, u2, some (.inl v3), some (.inl (nI 0)), u5] [] h
  exact k

theorem bX11_mayBe_8 {d : Nat} {Q : Option MV → MH → Prop} {h : MH} {u1 u2 u3 u5 : Option MV} {v4 : Int32} (hr : zRf h) (k1 : (h.1 111 32) ≤ v4 → J mX11_mayBe d 0 0 Q 0 0 31 [some (.inr (.inr 111)), u1, u2, u3, some (.inl v4), u5] [] h) (k2 : ¬ (h.1 111 32) ≤ v4 → J mX11_mayBe d 0 0 Q 0 0 17 [some (.inr (.inr 111)), u1, u2, u3, some (.inl v4), u5] [] h) : J mX11_mayBe d 0 0 Q 0 0 8 [some (.inr (.inr 111)), u1, u2, u3, some (.inl v4), u5] [] h := by
  refine zrun 5 4 qX11_mayBe (o := 11) rfl ?_
  show zokO h 111 11 ∧ (((h.1 111 32) ≤ v4 → J mX11_mayBe d 0 0 Q 0 0 31 [some (.inr (.inr 111)), u1, u2, u3, some (.inl v4), u5] [] h) ∧ (¬ (h.1 111 32) ≤ v4 → J mX11_mayBe d 0 0 Q 0 0 17 [some (.inr (.inr 111)), u1, u2, u3, some (.inl v4), u5] [] h))
  exact ⟨(zo hr (by decide) rfl), k1, k2⟩

theorem bX11_mayBe_17 {d : Nat} {Q : Option MV → MH → Prop} {h : MH} {u1 u2 u5 : Option MV} {v4 v3 : Int32} (hr : zRf h) (g0 : vp_in v4 40) (k : J mX11_mayBe d 0 0 Q 0 0 8 [some (.inr (.inr 111)), u1, u2, some (.inl v3), some (.inl (v4 + nI 1)), u5] [] (zsI h 139 v4.toNatClampNeg (nI 0))) : J mX11_mayBe d 0 0 Q 0 0 17 [some (.inr (.inr 111)), u1, u2, some (.inl v3), some (.inl v4), u5] [] h := by
  refine zrun 9 7 qX11_mayBe (o := 11) rfl ?_
  show zokO h 111 11 ∧ (zokA h (h.2.2.1 111 52) 22 v4 ∧ ((nI 0) = 0 ∨ (nI 0) = 1)) ∧ J mX11_mayBe d 0 0 Q 0 0 8 [some (.inr (.inr 111)), u1, u2, some (.inl v3), some (.inl (v4 + nI 1)), u5] [] (zsI h (h.2.2.1 111 52) v4.toNatClampNeg (nI 0))
  rw [(show h.2.2.1 111 52 = 139 from (hr.at (by decide) (by decide) (by rfl)))]
  exact ⟨(zo hr (by decide) rfl), ⟨(zia hr (by decide) (by rfl) g0), Or.inl rfl⟩, k⟩

theorem bX11_mayBe_31 {d : Nat} {Q : Option MV → MH → Prop} {h : MH} {u0 u1 u2 u4 u5 : Option MV} {v3 : Int32} (k : J mX11_mayBe d 0 0 Q 0 0 37 [u0, u1, u2, some (.inl v3), some (.inl (nI 0)), some (.inl (nI 0))] [] h) : J mX11_mayBe d 0 0 Q 0 0 31 [u0, u1, u2, some (.inl v3), u4, u5] [] h := by
  refine zrun 16 4 qX11_mayBe (o := 11) rfl ?_
  show J mX11_mayBe d 0 0 Q 0 0 37 [u0, u1, u2, some (.inl v3), some (.inl (nI 0)), some (.inl (nI 0))] [] h
  exact k

theorem bX11_mayBe_37 {d : Nat} {Q : Option MV → MH → Prop} {h : MH} {u1 u3 u4 : Option MV} {v5 v2 : Int32} (hr : zRf h) (g0 : vp_in v2 4) (k1 : (h.1 141 v2.toNatClampNeg) ≤ v5 → J mX11_mayBe d 0 0 Q 0 0 117 [some (.inr (.inr 111)), u1, some (.inl v2), u3, u4, some (.inl v5)] [] h) (k2 : ¬ (h.1 141 v2.toNatClampNeg) ≤ v5 → J mX11_mayBe d 0 0 Q 0 0 48 [some (.inr (.inr 111)), u1, some (.inl v2), u3, u4, some (.inl v5)] [] h) : J mX11_mayBe d 0 0 Q 0 0 37 [some (.inr (.inr 111)), u1, some (.inl v2), u3, u4, some (.inl v5)] [] h := by
  refine zrun 20 6 qX11_mayBe (o := 11) rfl ?_
  show zokO h 111 11 ∧ zokA h (h.2.2.1 111 54) 20 v2 ∧ (((h.1 (h.2.2.1 111 54) v2.toNatClampNeg) ≤ v5 → J mX11_mayBe d 0 0 Q 0 0 117 [some (.inr (.inr 111)), u1, some (.inl v2), u3, u4, some (.inl v5)] [] h) ∧ (¬ (h.1 (h.2.2.1 111 54) v2.toNatClampNeg) ≤ v5 → J mX11_mayBe d 0 0 Q 0 0 48 [some (.inr (.inr 111)), u1, some (.inl v2), u3, u4, some (.inl v5)] [] h))
  rw [(show h.2.2.1 111 54 = 141 from (hr.at (by decide) (by decide) (by rfl)))]
  exact ⟨(zo hr (by decide) rfl), (zia hr (by decide) (by rfl) g0), k1, k2⟩

theorem bX11_mayBe_48 {d : Nat} {Q : Option MV → MH → Prop} {h : MH} {u1 u2 u3 u5 : Option MV} {v4 : Int32} (hr : zRf h) (k1 : (h.1 111 32) ≤ v4 → J mX11_mayBe d 0 0 Q 0 0 89 [some (.inr (.inr 111)), u1, u2, u3, some (.inl v4), u5] [] h) (k2 : ¬ (h.1 111 32) ≤ v4 → J mX11_mayBe d 0 0 Q 0 0 57 [some (.inr (.inr 111)), u1, u2, u3, some (.inl v4), u5] [] h) : J mX11_mayBe d 0 0 Q 0 0 48 [some (.inr (.inr 111)), u1, u2, u3, some (.inl v4), u5] [] h := by
  refine zrun 26 4 qX11_mayBe (o := 11) rfl ?_
  show zokO h 111 11 ∧ (((h.1 111 32) ≤ v4 → J mX11_mayBe d 0 0 Q 0 0 89 [some (.inr (.inr 111)), u1, u2, u3, some (.inl v4), u5] [] h) ∧ (¬ (h.1 111 32) ≤ v4 → J mX11_mayBe d 0 0 Q 0 0 57 [some (.inr (.inr 111)), u1, u2, u3, some (.inl v4), u5] [] h))
  exact ⟨(zo hr (by decide) rfl), k1, k2⟩

theorem bX11_mayBe_57 {d d' : Nat} {Q : Option MV → MH → Prop} {h : MH} {u1 : Option MV} {v2 v5 v4 v3 : Int32} (hr : zRf h) (g0 : vp_in (((nI 40) * v2) + v5) 160) (g1 : vp_in v4 40) (hd : d' + 1 ≤ d) (k : Con mX11_isNear d' 0 0 [.inr (.inl (h.2.1 142 (((nI 40) * v2) + v5).toNatClampNeg)), .inl (h.1 126 v4.toNatClampNeg), .inl v3] h (zri fun (x : Int32) h' => J mX11_mayBe d 0 0 Q 0 0 80 [some (.inr (.inr 111)), u1, some (.inl v2), some (.inl v3), some (.inl v4), some (.inl v5)] [.inl x] h')) : J mX11_mayBe d 0 0 Q 0 0 57 [some (.inr (.inr 111)), u1, some (.inl v2), some (.inl v3), some (.inl v4), some (.inl v5)] [] h := by
  refine zrun 30 13 qX11_mayBe (o := 11) rfl ?_
  show zokO h 111 11 ∧ zokA h (h.2.2.1 111 55) 21 (((nI 40) * v2) + v5) ∧ zokO h 111 11 ∧ zokA h (h.2.2.1 111 31) 20 v4 ∧ J mX11_mayBe d 0 0 Q 0 0 77 [some (.inr (.inr 111)), u1, some (.inl v2), some (.inl v3), some (.inl v4), some (.inl v5)] [.inl v3, .inl (h.1 (h.2.2.1 111 31) v4.toNatClampNeg), .inr (.inl (h.2.1 (h.2.2.1 111 55) (((nI 40) * v2) + v5).toNatClampNeg))] h
  rw [(show h.2.2.1 111 55 = 142 from (hr.at (by decide) (by decide) (by rfl))), (show h.2.2.1 111 31 = 126 from (hr.at (by decide) (by decide) (by rfl)))]
  exact ⟨(zo hr (by decide) rfl), (zia hr (by decide) (by rfl) g0), (zo hr (by decide) rfl), (zia hr (by decide) (by rfl) g1), zcSi (as := [.inr (.inl (h.2.1 142 (((nI 40) * v2) + v5).toNatClampNeg)), .inl (h.1 126 v4.toNatClampNeg), .inl v3]) (zat qX11_mayBe 43 (by rfl)) l11_376 rfl hd rfl (Nat.le_of_ble_eq_true rfl) zle0 k⟩

theorem bX11_mayBe_80 {d : Nat} {Q : Option MV → MH → Prop} {h : MH} {u0 u1 u2 u3 u4 u5 : Option MV} {vs0 : Int32} (k1 : ¬ vs0 = 0 → J mX11_mayBe d 0 0 Q 0 0 89 [u0, u1, u2, u3, u4, u5] [] h) (k2 : vs0 = 0 → J mX11_mayBe d 0 0 Q 0 0 83 [u0, u1, u2, u3, u4, u5] [] h) : J mX11_mayBe d 0 0 Q 0 0 80 [u0, u1, u2, u3, u4, u5] [.inl vs0] h := by
  refine zrun 44 1 qX11_mayBe (o := 11) rfl ?_
  show ((¬ vs0 = 0 → J mX11_mayBe d 0 0 Q 0 0 89 [u0, u1, u2, u3, u4, u5] [] h) ∧ (vs0 = 0 → J mX11_mayBe d 0 0 Q 0 0 83 [u0, u1, u2, u3, u4, u5] [] h))
  exact ⟨k1, k2⟩

theorem bX11_mayBe_83 {d : Nat} {Q : Option MV → MH → Prop} {h : MH} {u0 u1 u2 u5 : Option MV} {v4 v3 : Int32} (k : J mX11_mayBe d 0 0 Q 0 0 48 [u0, u1, u2, some (.inl v3), some (.inl (v4 + nI 1)), u5] [] h) : J mX11_mayBe d 0 0 Q 0 0 83 [u0, u1, u2, some (.inl v3), some (.inl v4), u5] [] h := by
  refine zrun 45 2 qX11_mayBe (o := 11) rfl ?_
  show J mX11_mayBe d 0 0 Q 0 0 48 [u0, u1, u2, some (.inl v3), some (.inl (v4 + nI 1)), u5] [] h
  exact k

theorem bX11_mayBe_89 {d : Nat} {Q : Option MV → MH → Prop} {h : MH} {u1 u2 u3 u5 : Option MV} {v4 : Int32} (hr : zRf h) (k1 : ¬ v4 = (h.1 111 32) → J mX11_mayBe d 0 0 Q 0 0 100 [some (.inr (.inr 111)), u1, u2, u3, some (.inl v4), u5] [] h) (k2 : v4 = (h.1 111 32) → J mX11_mayBe d 0 0 Q 0 0 98 [some (.inr (.inr 111)), u1, u2, u3, some (.inl v4), u5] [] h) : J mX11_mayBe d 0 0 Q 0 0 89 [some (.inr (.inr 111)), u1, u2, u3, some (.inl v4), u5] [] h := by
  refine zrun 47 4 qX11_mayBe (o := 11) rfl ?_
  show zokO h 111 11 ∧ ((¬ v4 = (h.1 111 32) → J mX11_mayBe d 0 0 Q 0 0 100 [some (.inr (.inr 111)), u1, u2, u3, some (.inl v4), u5] [] h) ∧ (v4 = (h.1 111 32) → J mX11_mayBe d 0 0 Q 0 0 98 [some (.inr (.inr 111)), u1, u2, u3, some (.inl v4), u5] [] h))
  exact ⟨(zo hr (by decide) rfl), k1, k2⟩

theorem bX11_mayBe_98 {d : Nat} {Q : Option MV → MH → Prop} {h : MH} {u0 u1 u2 u3 u4 u5 : Option MV} (k : Q (some (.inl (nI 0))) h) : J mX11_mayBe d 0 0 Q 0 0 98 [u0, u1, u2, u3, u4, u5] [] h := by
  refine zrun 51 1 qX11_mayBe (o := 11) rfl ?_
  show J mX11_mayBe d 0 0 Q 0 0 99 [u0, u1, u2, u3, u4, u5] [.inl (nI 0)] h
  exact J_iret (ty := .boolean) (zat qX11_mayBe 52 (by rfl)) rfl (by decide) (Nat.le_refl 0) (Nat.le_refl 0) k

theorem bX11_mayBe_100 {d : Nat} {Q : Option MV → MH → Prop} {h : MH} {u1 u2 : Option MV} {v4 v3 v5 : Int32} (hr : zRf h) (g0 : vp_in v4 40) (k : J mX11_mayBe d 0 0 Q 0 0 37 [some (.inr (.inr 111)), u1, u2, some (.inl v3), some (.inl (v4 + nI 1)), some (.inl (v5 + nI 1))] [] (zsI h 139 v4.toNatClampNeg (nI 1))) : J mX11_mayBe d 0 0 Q 0 0 100 [some (.inr (.inr 111)), u1, u2, some (.inl v3), some (.inl v4), some (.inl v5)] [] h := by
  refine zrun 53 8 qX11_mayBe (o := 11) rfl ?_
  show zokO h 111 11 ∧ (zokA h (h.2.2.1 111 52) 22 v4 ∧ ((nI 1) = 0 ∨ (nI 1) = 1)) ∧ J mX11_mayBe d 0 0 Q 0 0 37 [some (.inr (.inr 111)), u1, u2, some (.inl v3), some (.inl (v4 + nI 1)), some (.inl (v5 + nI 1))] [] (zsI h (h.2.2.1 111 52) v4.toNatClampNeg (nI 1))
  rw [(show h.2.2.1 111 52 = 139 from (hr.at (by decide) (by decide) (by rfl)))]
  exact ⟨(zo hr (by decide) rfl), ⟨(zia hr (by decide) (by rfl) g0), Or.inr rfl⟩, k⟩

theorem bX11_mayBe_117 {d : Nat} {Q : Option MV → MH → Prop} {h : MH} {u0 u1 u2 u3 u4 u5 : Option MV} (k : Q (some (.inl (nI 1))) h) : J mX11_mayBe d 0 0 Q 0 0 117 [u0, u1, u2, u3, u4, u5] [] h := by
  refine zrun 61 1 qX11_mayBe (o := 11) rfl ?_
  show J mX11_mayBe d 0 0 Q 0 0 118 [u0, u1, u2, u3, u4, u5] [.inl (nI 1)] h
  exact J_iret (ty := .boolean) (zat qX11_mayBe 62 (by rfl)) rfl (by decide) (Nat.le_refl 0) (Nat.le_refl 0) k

theorem bX11_log_0 {d d' : Nat} {Q : Option MV → MH → Prop} {h : MH} {v1 : Int32} (hr : zRf h) (hd : d' + 1 ≤ d) (k : Con mX11_within d' 0 0 [.inr (.inl v1.toInt64), .inr (.inl (lN 0)), .inr (.inl (3 : Int64))] (zsI h 111 0 (nI 0)) (zri fun (x : Int32) h' => J mX11_log d 0 0 Q 0 0 14 [some (.inr (.inr 111)), some (.inl v1)] [.inl x] h')) : J mX11_log d 0 0 Q 0 0 0 [some (.inr (.inr 111)), some (.inl v1)] [] h := by
  refine zrun 0 7 qX11_log (o := 11) rfl ?_
  show zokO h 111 11 ∧ J mX11_log d 0 0 Q 0 0 11 [some (.inr (.inr 111)), some (.inl v1)] [.inr (.inl (3 : Int64)), .inr (.inl (lN 0)), .inr (.inl v1.toInt64)] (zsI h 111 0 (nI 0))
  exact ⟨(zo hr (by decide) rfl), zcSi (as := [.inr (.inl v1.toInt64), .inr (.inl (lN 0)), .inr (.inl (3 : Int64))]) (zat qX11_log 7 (by rfl)) l11_178 rfl hd rfl (Nat.le_of_ble_eq_true rfl) zle0 k⟩

theorem bX11_log_14 {d : Nat} {Q : Option MV → MH → Prop} {h : MH} {u0 u1 : Option MV} {vs0 : Int32} (k1 : ¬ vs0 = 0 → J mX11_log d 0 0 Q 0 0 20 [u0, u1] [] h) (k2 : vs0 = 0 → J mX11_log d 0 0 Q 0 0 17 [u0, u1] [] h) : J mX11_log d 0 0 Q 0 0 14 [u0, u1] [.inl vs0] h := by
  refine zrun 8 1 qX11_log (o := 11) rfl ?_
  show ((¬ vs0 = 0 → J mX11_log d 0 0 Q 0 0 20 [u0, u1] [] h) ∧ (vs0 = 0 → J mX11_log d 0 0 Q 0 0 17 [u0, u1] [] h))
  exact ⟨k1, k2⟩

theorem bX11_log_17 {d : Nat} {Q : Option MV → MH → Prop} {h : MH} {u0 u1 : Option MV} (k : Q (some (.inl (-(nI 2)))) h) : J mX11_log d 0 0 Q 0 0 17 [u0, u1] [] h := by
  refine zrun 9 1 qX11_log (o := 11) rfl ?_
  show J mX11_log d 0 0 Q 0 0 19 [u0, u1] [.inl (-(nI 2))] h
  exact J_iret (ty := .int) (zat qX11_log 10 (by rfl)) rfl rfl (Nat.le_refl 0) (Nat.le_refl 0) k

theorem bX11_log_20 {d : Nat} {Q : Option MV → MH → Prop} {h : MH} {v1 : Int32} (hr : zRf h) (g0 : vp_in v1 4) (k1 : ¬ (h.1 140 v1.toNatClampNeg) = (-(nI 1)) → J mX11_log d 0 0 Q 0 0 33 [some (.inr (.inr 111)), some (.inl v1)] [] h) (k2 : (h.1 140 v1.toNatClampNeg) = (-(nI 1)) → J mX11_log d 0 0 Q 0 0 30 [some (.inr (.inr 111)), some (.inl v1)] [] h) : J mX11_log d 0 0 Q 0 0 20 [some (.inr (.inr 111)), some (.inl v1)] [] h := by
  refine zrun 11 6 qX11_log (o := 11) rfl ?_
  show zokO h 111 11 ∧ zokA h (h.2.2.1 111 53) 20 v1 ∧ ((¬ (h.1 (h.2.2.1 111 53) v1.toNatClampNeg) = (-(nI 1)) → J mX11_log d 0 0 Q 0 0 33 [some (.inr (.inr 111)), some (.inl v1)] [] h) ∧ ((h.1 (h.2.2.1 111 53) v1.toNatClampNeg) = (-(nI 1)) → J mX11_log d 0 0 Q 0 0 30 [some (.inr (.inr 111)), some (.inl v1)] [] h))
  rw [(show h.2.2.1 111 53 = 140 from (hr.at (by decide) (by decide) (by rfl)))]
  exact ⟨(zo hr (by decide) rfl), (zia hr (by decide) (by rfl) g0), k1, k2⟩

theorem bX11_log_30 {d : Nat} {Q : Option MV → MH → Prop} {h : MH} {u0 u1 : Option MV} (k : Q (some (.inl (-(nI 6)))) h) : J mX11_log d 0 0 Q 0 0 30 [u0, u1] [] h := by
  refine zrun 17 1 qX11_log (o := 11) rfl ?_
  show J mX11_log d 0 0 Q 0 0 32 [u0, u1] [.inl (-(nI 6))] h
  exact J_iret (ty := .int) (zat qX11_log 18 (by rfl)) rfl rfl (Nat.le_refl 0) (Nat.le_refl 0) k

theorem bX11_log_33 {d d' : Nat} {Q : Option MV → MH → Prop} {h : MH} {v1 : Int32} (hr : zRf h) (hd : d' + 1 ≤ d) (k : Con mX11_plansOf d' 0 0 [.inr (.inr 111), .inl v1, .inl (nI 0)] h (zri fun (x : Int32) h' => J mX11_log d 0 0 Q 0 0 39 [some (.inr (.inr 111)), some (.inl v1)] [.inl x] h')) : J mX11_log d 0 0 Q 0 0 33 [some (.inr (.inr 111)), some (.inl v1)] [] h := by
  refine zrun 19 3 qX11_log (o := 11) rfl ?_
  show J mX11_log d 0 0 Q 0 0 36 [some (.inr (.inr 111)), some (.inl v1)] [.inl (nI 0), .inl v1, .inr (.inr 111)] h
  exact zcVi (as := [.inl v1, .inl (nI 0)]) (zat qX11_log 22 (by rfl)) l11_384 rfl hd rfl (Nat.le_of_ble_eq_true rfl) zle0 (ci := 11) (by decide) rfl (zo hr (by decide) rfl) k

theorem bX11_log_39 {d : Nat} {Q : Option MV → MH → Prop} {h : MH} {u0 u1 : Option MV} {vs0 : Int32} (k : Q (some (.inl vs0)) h) : J mX11_log d 0 0 Q 0 0 39 [u0, u1] [.inl vs0] h := by
  exact J_iret (ty := .int) (zat qX11_log 23 (by rfl)) rfl rfl (Nat.le_refl 0) (Nat.le_refl 0) k

theorem bX11_plansOf_0 {d : Nat} {Q : Option MV → MH → Prop} {h : MH} {u0 u1 u3 u4 : Option MV} {v2 : Int32} (k : J mX11_plansOf d 0 0 Q 0 0 5 [u0, u1, some (.inl v2), some (.inl (nI 0)), some (.inl (nI 0))] [] h) : J mX11_plansOf d 0 0 Q 0 0 0 [u0, u1, some (.inl v2), u3, u4] [] h := by
  refine zrun 0 4 qX11_plansOf (o := 11) rfl ?_
  show J mX11_plansOf d 0 0 Q 0 0 5 [u0, u1, some (.inl v2), some (.inl (nI 0)), some (.inl (nI 0))] [] h
  exact k

theorem bX11_plansOf_5 {d : Nat} {Q : Option MV → MH → Prop} {h : MH} {u0 u1 u2 u3 : Option MV} {v4 : Int32} (k1 : (nI 4) ≤ v4 → J mX11_plansOf d 0 0 Q 0 0 39 [u0, u1, u2, u3, some (.inl v4)] [] h) (k2 : ¬ (nI 4) ≤ v4 → J mX11_plansOf d 0 0 Q 0 0 11 [u0, u1, u2, u3, some (.inl v4)] [] h) : J mX11_plansOf d 0 0 Q 0 0 5 [u0, u1, u2, u3, some (.inl v4)] [] h := by
  refine zrun 4 3 qX11_plansOf (o := 11) rfl ?_
  show (((nI 4) ≤ v4 → J mX11_plansOf d 0 0 Q 0 0 39 [u0, u1, u2, u3, some (.inl v4)] [] h) ∧ (¬ (nI 4) ≤ v4 → J mX11_plansOf d 0 0 Q 0 0 11 [u0, u1, u2, u3, some (.inl v4)] [] h))
  exact ⟨k1, k2⟩

theorem bX11_plansOf_11 {d d' : Nat} {Q : Option MV → MH → Prop} {h : MH} {v3 v4 v1 v2 : Int32} (hr : zRf h) (hd : d' + 1 ≤ d) (k : Con mX11_mayBe d' 0 0 [.inr (.inr 111), .inl v4, .inl v1, .inl v2] h (zri fun (x : Int32) h' => J mX11_plansOf d 0 0 Q 0 0 20 [some (.inr (.inr 111)), some (.inl v1), some (.inl v2), some (.inl v3), some (.inl v4)] [.inl x, .inl v3] h')) : J mX11_plansOf d 0 0 Q 0 0 11 [some (.inr (.inr 111)), some (.inl v1), some (.inl v2), some (.inl v3), some (.inl v4)] [] h := by
  refine zrun 7 5 qX11_plansOf (o := 11) rfl ?_
  show J mX11_plansOf d 0 0 Q 0 0 17 [some (.inr (.inr 111)), some (.inl v1), some (.inl v2), some (.inl v3), some (.inl v4)] [.inl v2, .inl v1, .inl v4, .inr (.inr 111), .inl v3] h
  exact zcVi (as := [.inl v4, .inl v1, .inl v2]) (zat qX11_plansOf 12 (by rfl)) l11_387 rfl hd rfl (Nat.le_of_ble_eq_true rfl) zle0 (ci := 11) (by decide) rfl (zo hr (by decide) rfl) k

theorem bX11_plansOf_20 {d : Nat} {Q : Option MV → MH → Prop} {h : MH} {u0 u1 u2 u3 u4 : Option MV} {vs0 vs1 : Int32} (k1 : vs1 = 0 → J mX11_plansOf d 0 0 Q 0 0 30 [u0, u1, u2, u3, u4] [.inl vs0] h) (k2 : ¬ vs1 = 0 → J mX11_plansOf d 0 0 Q 0 0 23 [u0, u1, u2, u3, u4] [.inl vs0] h) : J mX11_plansOf d 0 0 Q 0 0 20 [u0, u1, u2, u3, u4] [.inl vs1, .inl vs0] h := by
  refine zrun 13 1 qX11_plansOf (o := 11) rfl ?_
  show ((vs1 = 0 → J mX11_plansOf d 0 0 Q 0 0 30 [u0, u1, u2, u3, u4] [.inl vs0] h) ∧ (¬ vs1 = 0 → J mX11_plansOf d 0 0 Q 0 0 23 [u0, u1, u2, u3, u4] [.inl vs0] h))
  exact ⟨k1, k2⟩

theorem bX11_plansOf_23 {d : Nat} {Q : Option MV → MH → Prop} {h : MH} {u0 u1 u2 u3 : Option MV} {vs0 v4 : Int32} (k : J mX11_plansOf d 0 0 Q 0 0 31 [u0, u1, u2, u3, some (.inl v4)] [.inl ((nI 1) <<< (v4 &&& 31)), .inl vs0] h) : J mX11_plansOf d 0 0 Q 0 0 23 [u0, u1, u2, u3, some (.inl v4)] [.inl vs0] h := by
  refine zrun 14 4 qX11_plansOf (o := 11) rfl ?_
  show J mX11_plansOf d 0 0 Q 0 0 31 [u0, u1, u2, u3, some (.inl v4)] [.inl ((nI 1) <<< (v4 &&& 31)), .inl vs0] h
  exact k

theorem bX11_plansOf_30 {d : Nat} {Q : Option MV → MH → Prop} {h : MH} {u0 u1 u2 u3 u4 : Option MV} {vs0 : Int32} (k : J mX11_plansOf d 0 0 Q 0 0 31 [u0, u1, u2, u3, u4] [.inl (nI 0), .inl vs0] h) : J mX11_plansOf d 0 0 Q 0 0 30 [u0, u1, u2, u3, u4] [.inl vs0] h := by
  refine zrun 18 1 qX11_plansOf (o := 11) rfl ?_
  show J mX11_plansOf d 0 0 Q 0 0 31 [u0, u1, u2, u3, u4] [.inl (nI 0), .inl vs0] h
  exact k

theorem bX11_plansOf_31 {d : Nat} {Q : Option MV → MH → Prop} {h : MH} {u0 u1 u3 : Option MV} {vs0 vs1 v2 v4 : Int32} (k : J mX11_plansOf d 0 0 Q 0 0 5 [u0, u1, some (.inl v2), some (.inl (vs0 ||| vs1)), some (.inl (v4 + nI 1))] [] h) : J mX11_plansOf d 0 0 Q 0 0 31 [u0, u1, some (.inl v2), u3, some (.inl v4)] [.inl vs1, .inl vs0] h := by
  refine zrun 19 4 qX11_plansOf (o := 11) rfl ?_
  show J mX11_plansOf d 0 0 Q 0 0 5 [u0, u1, some (.inl v2), some (.inl (vs0 ||| vs1)), some (.inl (v4 + nI 1))] [] h
  exact k

theorem bX11_plansOf_39 {d : Nat} {Q : Option MV → MH → Prop} {h : MH} {u0 u1 u2 u4 : Option MV} {v3 : Int32} (k : Q (some (.inl v3)) h) : J mX11_plansOf d 0 0 Q 0 0 39 [u0, u1, u2, some (.inl v3), u4] [] h := by
  refine zrun 23 1 qX11_plansOf (o := 11) rfl ?_
  show J mX11_plansOf d 0 0 Q 0 0 40 [u0, u1, u2, some (.inl v3), u4] [.inl v3] h
  exact J_iret (ty := .int) (zat qX11_plansOf 24 (by rfl)) rfl rfl (Nat.le_refl 0) (Nat.le_refl 0) k

theorem bX11_nearly_0 {d d' : Nat} {Q : Option MV → MH → Prop} {h : MH} {u2 : Option MV} {v1 : Int32} (hr : zRf h) (hd : d' + 1 ≤ d) (k : Con mX11_within d' 0 0 [.inr (.inl v1.toInt64), .inr (.inl (lN 0)), .inr (.inl (3 : Int64))] (zsI h 111 0 (nI 0)) (zri fun (x : Int32) h' => J mX11_nearly d 0 0 Q 0 0 14 [some (.inr (.inr 111)), some (.inl v1), u2] [.inl x] h')) : J mX11_nearly d 0 0 Q 0 0 0 [some (.inr (.inr 111)), some (.inl v1), u2] [] h := by
  refine zrun 0 7 qX11_nearly (o := 11) rfl ?_
  show zokO h 111 11 ∧ J mX11_nearly d 0 0 Q 0 0 11 [some (.inr (.inr 111)), some (.inl v1), u2] [.inr (.inl (3 : Int64)), .inr (.inl (lN 0)), .inr (.inl v1.toInt64)] (zsI h 111 0 (nI 0))
  exact ⟨(zo hr (by decide) rfl), zcSi (as := [.inr (.inl v1.toInt64), .inr (.inl (lN 0)), .inr (.inl (3 : Int64))]) (zat qX11_nearly 7 (by rfl)) l11_178 rfl hd rfl (Nat.le_of_ble_eq_true rfl) zle0 k⟩

theorem bX11_nearly_14 {d : Nat} {Q : Option MV → MH → Prop} {h : MH} {u0 u1 u2 : Option MV} {vs0 : Int32} (k1 : ¬ vs0 = 0 → J mX11_nearly d 0 0 Q 0 0 20 [u0, u1, u2] [] h) (k2 : vs0 = 0 → J mX11_nearly d 0 0 Q 0 0 17 [u0, u1, u2] [] h) : J mX11_nearly d 0 0 Q 0 0 14 [u0, u1, u2] [.inl vs0] h := by
  refine zrun 8 1 qX11_nearly (o := 11) rfl ?_
  show ((¬ vs0 = 0 → J mX11_nearly d 0 0 Q 0 0 20 [u0, u1, u2] [] h) ∧ (vs0 = 0 → J mX11_nearly d 0 0 Q 0 0 17 [u0, u1, u2] [] h))
  exact ⟨k1, k2⟩

theorem bX11_nearly_17 {d : Nat} {Q : Option MV → MH → Prop} {h : MH} {u0 u1 u2 : Option MV} (k : Q (some (.inl (-(nI 2)))) h) : J mX11_nearly d 0 0 Q 0 0 17 [u0, u1, u2] [] h := by
  refine zrun 9 1 qX11_nearly (o := 11) rfl ?_
  show J mX11_nearly d 0 0 Q 0 0 19 [u0, u1, u2] [.inl (-(nI 2))] h
  exact J_iret (ty := .int) (zat qX11_nearly 10 (by rfl)) rfl rfl (Nat.le_refl 0) (Nat.le_refl 0) k

theorem bX11_nearly_20 {d : Nat} {Q : Option MV → MH → Prop} {h : MH} {u2 : Option MV} {v1 : Int32} (hr : zRf h) (g0 : vp_in v1 4) (k1 : ¬ (h.1 140 v1.toNatClampNeg) = (-(nI 1)) → J mX11_nearly d 0 0 Q 0 0 33 [some (.inr (.inr 111)), some (.inl v1), u2] [] h) (k2 : (h.1 140 v1.toNatClampNeg) = (-(nI 1)) → J mX11_nearly d 0 0 Q 0 0 30 [some (.inr (.inr 111)), some (.inl v1), u2] [] h) : J mX11_nearly d 0 0 Q 0 0 20 [some (.inr (.inr 111)), some (.inl v1), u2] [] h := by
  refine zrun 11 6 qX11_nearly (o := 11) rfl ?_
  show zokO h 111 11 ∧ zokA h (h.2.2.1 111 53) 20 v1 ∧ ((¬ (h.1 (h.2.2.1 111 53) v1.toNatClampNeg) = (-(nI 1)) → J mX11_nearly d 0 0 Q 0 0 33 [some (.inr (.inr 111)), some (.inl v1), u2] [] h) ∧ ((h.1 (h.2.2.1 111 53) v1.toNatClampNeg) = (-(nI 1)) → J mX11_nearly d 0 0 Q 0 0 30 [some (.inr (.inr 111)), some (.inl v1), u2] [] h))
  rw [(show h.2.2.1 111 53 = 140 from (hr.at (by decide) (by decide) (by rfl)))]
  exact ⟨(zo hr (by decide) rfl), (zia hr (by decide) (by rfl) g0), k1, k2⟩

theorem bX11_nearly_30 {d : Nat} {Q : Option MV → MH → Prop} {h : MH} {u0 u1 u2 : Option MV} (k : Q (some (.inl (-(nI 6)))) h) : J mX11_nearly d 0 0 Q 0 0 30 [u0, u1, u2] [] h := by
  refine zrun 17 1 qX11_nearly (o := 11) rfl ?_
  show J mX11_nearly d 0 0 Q 0 0 32 [u0, u1, u2] [.inl (-(nI 6))] h
  exact J_iret (ty := .int) (zat qX11_nearly 18 (by rfl)) rfl rfl (Nat.le_refl 0) (Nat.le_refl 0) k

theorem bX11_nearly_33 {d : Nat} {Q : Option MV → MH → Prop} {h : MH} {u0 u1 : Option MV} {v2 : Int32} (k1 : 0 ≤ v2 → J mX11_nearly d 0 0 Q 0 0 42 [u0, u1, some (.inl v2)] [] h) (k2 : ¬ 0 ≤ v2 → J mX11_nearly d 0 0 Q 0 0 37 [u0, u1, some (.inl v2)] [] h) : J mX11_nearly d 0 0 Q 0 0 33 [u0, u1, some (.inl v2)] [] h := by
  refine zrun 19 2 qX11_nearly (o := 11) rfl ?_
  show ((0 ≤ v2 → J mX11_nearly d 0 0 Q 0 0 42 [u0, u1, some (.inl v2)] [] h) ∧ (¬ 0 ≤ v2 → J mX11_nearly d 0 0 Q 0 0 37 [u0, u1, some (.inl v2)] [] h))
  exact ⟨k1, k2⟩

theorem bX11_nearly_37 {d : Nat} {Q : Option MV → MH → Prop} {h : MH} {u0 u1 u2 : Option MV} (k : J mX11_nearly d 0 0 Q 0 0 48 [u0, u1, u2] [.inl (-(nI 3))] h) : J mX11_nearly d 0 0 Q 0 0 37 [u0, u1, u2] [] h := by
  refine zrun 21 2 qX11_nearly (o := 11) rfl ?_
  show J mX11_nearly d 0 0 Q 0 0 48 [u0, u1, u2] [.inl (-(nI 3))] h
  exact k

theorem bX11_nearly_42 {d d' : Nat} {Q : Option MV → MH → Prop} {h : MH} {v1 v2 : Int32} (hr : zRf h) (hd : d' + 1 ≤ d) (k : Con mX11_plansOf d' 0 0 [.inr (.inr 111), .inl v1, .inl v2] h (zri fun (x : Int32) h' => J mX11_nearly d 0 0 Q 0 0 48 [some (.inr (.inr 111)), some (.inl v1), some (.inl v2)] [.inl x] h')) : J mX11_nearly d 0 0 Q 0 0 42 [some (.inr (.inr 111)), some (.inl v1), some (.inl v2)] [] h := by
  refine zrun 23 3 qX11_nearly (o := 11) rfl ?_
  show J mX11_nearly d 0 0 Q 0 0 45 [some (.inr (.inr 111)), some (.inl v1), some (.inl v2)] [.inl v2, .inl v1, .inr (.inr 111)] h
  exact zcVi (as := [.inl v1, .inl v2]) (zat qX11_nearly 26 (by rfl)) l11_384 rfl hd rfl (Nat.le_of_ble_eq_true rfl) zle0 (ci := 11) (by decide) rfl (zo hr (by decide) rfl) k

theorem bX11_nearly_48 {d : Nat} {Q : Option MV → MH → Prop} {h : MH} {u0 u1 u2 : Option MV} {vs0 : Int32} (k : Q (some (.inl vs0)) h) : J mX11_nearly d 0 0 Q 0 0 48 [u0, u1, u2] [.inl vs0] h := by
  exact J_iret (ty := .int) (zat qX11_nearly 27 (by rfl)) rfl rfl (Nat.le_refl 0) (Nat.le_refl 0) k

theorem bX11_missed_0 {d d' : Nat} {Q : Option MV → MH → Prop} {h : MH} {u2 u3 u4 u5 : Option MV} {v1 : Int32} (hr : zRf h) (hd : d' + 1 ≤ d) (k : Con mX11_isPlan d' 0 0 [.inl v1] (zsI h 111 0 (nI 0)) (zri fun (x : Int32) h' => J mX11_missed d 0 0 Q 0 0 9 [some (.inr (.inr 111)), some (.inl v1), u2, u3, u4, u5] [.inl x] h')) : J mX11_missed d 0 0 Q 0 0 0 [some (.inr (.inr 111)), some (.inl v1), u2, u3, u4, u5] [] h := by
  refine zrun 0 4 qX11_missed (o := 11) rfl ?_
  show zokO h 111 11 ∧ J mX11_missed d 0 0 Q 0 0 6 [some (.inr (.inr 111)), some (.inl v1), u2, u3, u4, u5] [.inl v1] (zsI h 111 0 (nI 0))
  exact ⟨(zo hr (by decide) rfl), zcSi (as := [.inl v1]) (zat qX11_missed 4 (by rfl)) l11_261 rfl hd rfl (Nat.le_of_ble_eq_true rfl) zle0 k⟩

theorem bX11_missed_9 {d : Nat} {Q : Option MV → MH → Prop} {h : MH} {u0 u1 u2 u3 u4 u5 : Option MV} {vs0 : Int32} (k1 : vs0 = 0 → J mX11_missed d 0 0 Q 0 0 24 [u0, u1, u2, u3, u4, u5] [] h) (k2 : ¬ vs0 = 0 → J mX11_missed d 0 0 Q 0 0 12 [u0, u1, u2, u3, u4, u5] [] h) : J mX11_missed d 0 0 Q 0 0 9 [u0, u1, u2, u3, u4, u5] [.inl vs0] h := by
  refine zrun 5 1 qX11_missed (o := 11) rfl ?_
  show ((vs0 = 0 → J mX11_missed d 0 0 Q 0 0 24 [u0, u1, u2, u3, u4, u5] [] h) ∧ (¬ vs0 = 0 → J mX11_missed d 0 0 Q 0 0 12 [u0, u1, u2, u3, u4, u5] [] h))
  exact ⟨k1, k2⟩

theorem bX11_missed_12 {d d' : Nat} {Q : Option MV → MH → Prop} {h : MH} {u0 u1 u3 u4 u5 : Option MV} {v2 : Int32} (hd : d' + 1 ≤ d) (k : Con mX11_within d' 0 0 [.inr (.inl v2.toInt64), .inr (.inl (lN 0)), .inr (.inl (3 : Int64))] h (zri fun (x : Int32) h' => J mX11_missed d 0 0 Q 0 0 21 [u0, u1, some (.inl v2), u3, u4, u5] [.inl x] h')) : J mX11_missed d 0 0 Q 0 0 12 [u0, u1, some (.inl v2), u3, u4, u5] [] h := by
  refine zrun 6 4 qX11_missed (o := 11) rfl ?_
  show J mX11_missed d 0 0 Q 0 0 18 [u0, u1, some (.inl v2), u3, u4, u5] [.inr (.inl (3 : Int64)), .inr (.inl (lN 0)), .inr (.inl v2.toInt64)] h
  exact zcSi (as := [.inr (.inl v2.toInt64), .inr (.inl (lN 0)), .inr (.inl (3 : Int64))]) (zat qX11_missed 10 (by rfl)) l11_178 rfl hd rfl (Nat.le_of_ble_eq_true rfl) zle0 k

theorem bX11_missed_21 {d : Nat} {Q : Option MV → MH → Prop} {h : MH} {u0 u1 u2 u3 u4 u5 : Option MV} {vs0 : Int32} (k1 : ¬ vs0 = 0 → J mX11_missed d 0 0 Q 0 0 27 [u0, u1, u2, u3, u4, u5] [] h) (k2 : vs0 = 0 → J mX11_missed d 0 0 Q 0 0 24 [u0, u1, u2, u3, u4, u5] [] h) : J mX11_missed d 0 0 Q 0 0 21 [u0, u1, u2, u3, u4, u5] [.inl vs0] h := by
  refine zrun 11 1 qX11_missed (o := 11) rfl ?_
  show ((¬ vs0 = 0 → J mX11_missed d 0 0 Q 0 0 27 [u0, u1, u2, u3, u4, u5] [] h) ∧ (vs0 = 0 → J mX11_missed d 0 0 Q 0 0 24 [u0, u1, u2, u3, u4, u5] [] h))
  exact ⟨k1, k2⟩

theorem bX11_missed_24 {d : Nat} {Q : Option MV → MH → Prop} {h : MH} {u0 u1 u2 u3 u4 u5 : Option MV} (k : Q (some (.inl (-(nI 2)))) h) : J mX11_missed d 0 0 Q 0 0 24 [u0, u1, u2, u3, u4, u5] [] h := by
  refine zrun 12 1 qX11_missed (o := 11) rfl ?_
  show J mX11_missed d 0 0 Q 0 0 26 [u0, u1, u2, u3, u4, u5] [.inl (-(nI 2))] h
  exact J_iret (ty := .int) (zat qX11_missed 13 (by rfl)) rfl rfl (Nat.le_refl 0) (Nat.le_refl 0) k

theorem bX11_missed_27 {d : Nat} {Q : Option MV → MH → Prop} {h : MH} {u1 u3 u4 u5 : Option MV} {v2 : Int32} (hr : zRf h) (g0 : vp_in v2 4) (k1 : ¬ (h.1 140 v2.toNatClampNeg) = (-(nI 1)) → J mX11_missed d 0 0 Q 0 0 40 [some (.inr (.inr 111)), u1, some (.inl v2), u3, u4, u5] [] h) (k2 : (h.1 140 v2.toNatClampNeg) = (-(nI 1)) → J mX11_missed d 0 0 Q 0 0 37 [some (.inr (.inr 111)), u1, some (.inl v2), u3, u4, u5] [] h) : J mX11_missed d 0 0 Q 0 0 27 [some (.inr (.inr 111)), u1, some (.inl v2), u3, u4, u5] [] h := by
  refine zrun 14 6 qX11_missed (o := 11) rfl ?_
  show zokO h 111 11 ∧ zokA h (h.2.2.1 111 53) 20 v2 ∧ ((¬ (h.1 (h.2.2.1 111 53) v2.toNatClampNeg) = (-(nI 1)) → J mX11_missed d 0 0 Q 0 0 40 [some (.inr (.inr 111)), u1, some (.inl v2), u3, u4, u5] [] h) ∧ ((h.1 (h.2.2.1 111 53) v2.toNatClampNeg) = (-(nI 1)) → J mX11_missed d 0 0 Q 0 0 37 [some (.inr (.inr 111)), u1, some (.inl v2), u3, u4, u5] [] h))
  rw [(show h.2.2.1 111 53 = 140 from (hr.at (by decide) (by decide) (by rfl)))]
  exact ⟨(zo hr (by decide) rfl), (zia hr (by decide) (by rfl) g0), k1, k2⟩

theorem bX11_missed_37 {d : Nat} {Q : Option MV → MH → Prop} {h : MH} {u0 u1 u2 u3 u4 u5 : Option MV} (k : Q (some (.inl (-(nI 6)))) h) : J mX11_missed d 0 0 Q 0 0 37 [u0, u1, u2, u3, u4, u5] [] h := by
  refine zrun 20 1 qX11_missed (o := 11) rfl ?_
  show J mX11_missed d 0 0 Q 0 0 39 [u0, u1, u2, u3, u4, u5] [.inl (-(nI 6))] h
  exact J_iret (ty := .int) (zat qX11_missed 21 (by rfl)) rfl rfl (Nat.le_refl 0) (Nat.le_refl 0) k

theorem bX11_missed_40 {d d' : Nat} {Q : Option MV → MH → Prop} {h : MH} {u3 u4 u5 : Option MV} {v1 v2 : Int32} (hr : zRf h) (hd : d' + 1 ≤ d) (k : Con mX11_mayBe d' 0 0 [.inr (.inr 111), .inl v1, .inl v2, .inl (nI 0)] h (zri fun (x : Int32) h' => J mX11_missed d 0 0 Q 0 0 47 [some (.inr (.inr 111)), some (.inl v1), some (.inl v2), u3, u4, u5] [.inl x] h')) : J mX11_missed d 0 0 Q 0 0 40 [some (.inr (.inr 111)), some (.inl v1), some (.inl v2), u3, u4, u5] [] h := by
  refine zrun 22 4 qX11_missed (o := 11) rfl ?_
  show J mX11_missed d 0 0 Q 0 0 44 [some (.inr (.inr 111)), some (.inl v1), some (.inl v2), u3, u4, u5] [.inl (nI 0), .inl v2, .inl v1, .inr (.inr 111)] h
  exact zcVi (as := [.inl v1, .inl v2, .inl (nI 0)]) (zat qX11_missed 26 (by rfl)) l11_387 rfl hd rfl (Nat.le_of_ble_eq_true rfl) zle0 (ci := 11) (by decide) rfl (zo hr (by decide) rfl) k

theorem bX11_missed_47 {d : Nat} {Q : Option MV → MH → Prop} {h : MH} {u0 u1 u2 u3 u4 u5 : Option MV} {vs0 : Int32} (k1 : ¬ vs0 = 0 → J mX11_missed d 0 0 Q 0 0 52 [u0, u1, u2, u3, u4, u5] [] h) (k2 : vs0 = 0 → J mX11_missed d 0 0 Q 0 0 50 [u0, u1, u2, u3, u4, u5] [] h) : J mX11_missed d 0 0 Q 0 0 47 [u0, u1, u2, u3, u4, u5] [.inl vs0] h := by
  refine zrun 27 1 qX11_missed (o := 11) rfl ?_
  show ((¬ vs0 = 0 → J mX11_missed d 0 0 Q 0 0 52 [u0, u1, u2, u3, u4, u5] [] h) ∧ (vs0 = 0 → J mX11_missed d 0 0 Q 0 0 50 [u0, u1, u2, u3, u4, u5] [] h))
  exact ⟨k1, k2⟩

theorem bX11_missed_50 {d : Nat} {Q : Option MV → MH → Prop} {h : MH} {u0 u1 u2 u3 u4 u5 : Option MV} (k : Q (some (.inl (-(nI 1)))) h) : J mX11_missed d 0 0 Q 0 0 50 [u0, u1, u2, u3, u4, u5] [] h := by
  refine zrun 28 1 qX11_missed (o := 11) rfl ?_
  show J mX11_missed d 0 0 Q 0 0 51 [u0, u1, u2, u3, u4, u5] [.inl (-(nI 1))] h
  exact J_iret (ty := .int) (zat qX11_missed 29 (by rfl)) rfl rfl (Nat.le_refl 0) (Nat.le_refl 0) k

theorem bX11_missed_52 {d : Nat} {Q : Option MV → MH → Prop} {h : MH} {u0 u1 u2 u4 u5 : Option MV} {v3 : Int32} (k : J mX11_missed d 0 0 Q 0 0 58 [u0, u1, u2, some (.inl v3), some (.inl (nI 0)), some (.inl (nI 0))] [] h) : J mX11_missed d 0 0 Q 0 0 52 [u0, u1, u2, some (.inl v3), u4, u5] [] h := by
  refine zrun 30 4 qX11_missed (o := 11) rfl ?_
  show J mX11_missed d 0 0 Q 0 0 58 [u0, u1, u2, some (.inl v3), some (.inl (nI 0)), some (.inl (nI 0))] [] h
  exact k

theorem bX11_missed_58 {d : Nat} {Q : Option MV → MH → Prop} {h : MH} {u1 u2 u3 u4 : Option MV} {v5 : Int32} (hr : zRf h) (k1 : (h.1 111 32) ≤ v5 → J mX11_missed d 0 0 Q 0 0 98 [some (.inr (.inr 111)), u1, u2, u3, u4, some (.inl v5)] [] h) (k2 : ¬ (h.1 111 32) ≤ v5 → J mX11_missed d 0 0 Q 0 0 67 [some (.inr (.inr 111)), u1, u2, u3, u4, some (.inl v5)] [] h) : J mX11_missed d 0 0 Q 0 0 58 [some (.inr (.inr 111)), u1, u2, u3, u4, some (.inl v5)] [] h := by
  refine zrun 34 4 qX11_missed (o := 11) rfl ?_
  show zokO h 111 11 ∧ (((h.1 111 32) ≤ v5 → J mX11_missed d 0 0 Q 0 0 98 [some (.inr (.inr 111)), u1, u2, u3, u4, some (.inl v5)] [] h) ∧ (¬ (h.1 111 32) ≤ v5 → J mX11_missed d 0 0 Q 0 0 67 [some (.inr (.inr 111)), u1, u2, u3, u4, some (.inl v5)] [] h))
  exact ⟨(zo hr (by decide) rfl), k1, k2⟩

theorem bX11_missed_67 {d : Nat} {Q : Option MV → MH → Prop} {h : MH} {u1 u2 u3 u4 : Option MV} {v5 : Int32} (hr : zRf h) (g0 : vp_in v5 40) (k1 : (h.1 139 v5.toNatClampNeg) = 0 → J mX11_missed d 0 0 Q 0 0 80 [some (.inr (.inr 111)), u1, u2, u3, u4, some (.inl v5)] [] h) (k2 : ¬ (h.1 139 v5.toNatClampNeg) = 0 → J mX11_missed d 0 0 Q 0 0 77 [some (.inr (.inr 111)), u1, u2, u3, u4, some (.inl v5)] [] h) : J mX11_missed d 0 0 Q 0 0 67 [some (.inr (.inr 111)), u1, u2, u3, u4, some (.inl v5)] [] h := by
  refine zrun 38 5 qX11_missed (o := 11) rfl ?_
  show zokO h 111 11 ∧ zokA h (h.2.2.1 111 52) 22 v5 ∧ (((h.1 (h.2.2.1 111 52) v5.toNatClampNeg) = 0 → J mX11_missed d 0 0 Q 0 0 80 [some (.inr (.inr 111)), u1, u2, u3, u4, some (.inl v5)] [] h) ∧ (¬ (h.1 (h.2.2.1 111 52) v5.toNatClampNeg) = 0 → J mX11_missed d 0 0 Q 0 0 77 [some (.inr (.inr 111)), u1, u2, u3, u4, some (.inl v5)] [] h))
  rw [(show h.2.2.1 111 52 = 139 from (hr.at (by decide) (by decide) (by rfl)))]
  exact ⟨(zo hr (by decide) rfl), (zia hr (by decide) (by rfl) g0), k1, k2⟩

theorem bX11_missed_77 {d : Nat} {Q : Option MV → MH → Prop} {h : MH} {u0 u1 u2 u3 u4 u5 : Option MV} (k : J mX11_missed d 0 0 Q 0 0 92 [u0, u1, u2, u3, u4, u5] [] h) : J mX11_missed d 0 0 Q 0 0 77 [u0, u1, u2, u3, u4, u5] [] h := by
  refine zrun 43 1 qX11_missed (o := 11) rfl ?_
  show J mX11_missed d 0 0 Q 0 0 92 [u0, u1, u2, u3, u4, u5] [] h
  exact k

theorem bX11_missed_80 {d : Nat} {Q : Option MV → MH → Prop} {h : MH} {u0 u1 u2 u5 : Option MV} {v4 v3 : Int32} (k1 : ¬ v4 = v3 → J mX11_missed d 0 0 Q 0 0 89 [u0, u1, u2, some (.inl v3), some (.inl v4), u5] [] h) (k2 : v4 = v3 → J mX11_missed d 0 0 Q 0 0 86 [u0, u1, u2, some (.inl v3), some (.inl v4), u5] [] h) : J mX11_missed d 0 0 Q 0 0 80 [u0, u1, u2, some (.inl v3), some (.inl v4), u5] [] h := by
  refine zrun 44 3 qX11_missed (o := 11) rfl ?_
  show ((¬ v4 = v3 → J mX11_missed d 0 0 Q 0 0 89 [u0, u1, u2, some (.inl v3), some (.inl v4), u5] [] h) ∧ (v4 = v3 → J mX11_missed d 0 0 Q 0 0 86 [u0, u1, u2, some (.inl v3), some (.inl v4), u5] [] h))
  exact ⟨k1, k2⟩

theorem bX11_missed_86 {d : Nat} {Q : Option MV → MH → Prop} {h : MH} {u0 u1 u2 u3 u4 : Option MV} {v5 : Int32} (k : Q (some (.inl v5)) h) : J mX11_missed d 0 0 Q 0 0 86 [u0, u1, u2, u3, u4, some (.inl v5)] [] h := by
  refine zrun 47 1 qX11_missed (o := 11) rfl ?_
  show J mX11_missed d 0 0 Q 0 0 88 [u0, u1, u2, u3, u4, some (.inl v5)] [.inl v5] h
  exact J_iret (ty := .int) (zat qX11_missed 48 (by rfl)) rfl rfl (Nat.le_refl 0) (Nat.le_refl 0) k

theorem bX11_missed_89 {d : Nat} {Q : Option MV → MH → Prop} {h : MH} {u0 u1 u2 u5 : Option MV} {v4 v3 : Int32} (k : J mX11_missed d 0 0 Q 0 0 92 [u0, u1, u2, some (.inl v3), some (.inl (v4 + nI 1)), u5] [] h) : J mX11_missed d 0 0 Q 0 0 89 [u0, u1, u2, some (.inl v3), some (.inl v4), u5] [] h := by
  refine zrun 49 1 qX11_missed (o := 11) rfl ?_
  show J mX11_missed d 0 0 Q 0 0 92 [u0, u1, u2, some (.inl v3), some (.inl (v4 + nI 1)), u5] [] h
  exact k

theorem bX11_missed_92 {d : Nat} {Q : Option MV → MH → Prop} {h : MH} {u0 u1 u2 u3 : Option MV} {v5 v4 : Int32} (k : J mX11_missed d 0 0 Q 0 0 58 [u0, u1, u2, u3, some (.inl v4), some (.inl (v5 + nI 1))] [] h) : J mX11_missed d 0 0 Q 0 0 92 [u0, u1, u2, u3, some (.inl v4), some (.inl v5)] [] h := by
  refine zrun 50 2 qX11_missed (o := 11) rfl ?_
  show J mX11_missed d 0 0 Q 0 0 58 [u0, u1, u2, u3, some (.inl v4), some (.inl (v5 + nI 1))] [] h
  exact k

theorem bX11_missed_98 {d : Nat} {Q : Option MV → MH → Prop} {h : MH} {u0 u1 u2 u4 u5 : Option MV} {v3 : Int32} (k1 : ¬ v3 = (-(nI 1)) → J mX11_missed d 0 0 Q 0 0 108 [u0, u1, u2, some (.inl v3), u4, u5] [] h) (k2 : v3 = (-(nI 1)) → J mX11_missed d 0 0 Q 0 0 103 [u0, u1, u2, some (.inl v3), u4, u5] [] h) : J mX11_missed d 0 0 Q 0 0 98 [u0, u1, u2, some (.inl v3), u4, u5] [] h := by
  refine zrun 52 3 qX11_missed (o := 11) rfl ?_
  show ((¬ v3 = (-(nI 1)) → J mX11_missed d 0 0 Q 0 0 108 [u0, u1, u2, some (.inl v3), u4, u5] [] h) ∧ (v3 = (-(nI 1)) → J mX11_missed d 0 0 Q 0 0 103 [u0, u1, u2, some (.inl v3), u4, u5] [] h))
  exact ⟨k1, k2⟩

theorem bX11_missed_103 {d : Nat} {Q : Option MV → MH → Prop} {h : MH} {u0 u1 u2 u3 u5 : Option MV} {v4 : Int32} (k : J mX11_missed d 0 0 Q 0 0 109 [u0, u1, u2, u3, some (.inl v4), u5] [.inl v4] h) : J mX11_missed d 0 0 Q 0 0 103 [u0, u1, u2, u3, some (.inl v4), u5] [] h := by
  refine zrun 55 2 qX11_missed (o := 11) rfl ?_
  show J mX11_missed d 0 0 Q 0 0 109 [u0, u1, u2, u3, some (.inl v4), u5] [.inl v4] h
  exact k

theorem bX11_missed_108 {d : Nat} {Q : Option MV → MH → Prop} {h : MH} {u0 u1 u2 u3 u4 u5 : Option MV} (k : J mX11_missed d 0 0 Q 0 0 109 [u0, u1, u2, u3, u4, u5] [.inl (-(nI 1))] h) : J mX11_missed d 0 0 Q 0 0 108 [u0, u1, u2, u3, u4, u5] [] h := by
  refine zrun 57 1 qX11_missed (o := 11) rfl ?_
  show J mX11_missed d 0 0 Q 0 0 109 [u0, u1, u2, u3, u4, u5] [.inl (-(nI 1))] h
  exact k

theorem bX11_missed_109 {d : Nat} {Q : Option MV → MH → Prop} {h : MH} {u0 u1 u2 u3 u4 u5 : Option MV} {vs0 : Int32} (k : Q (some (.inl vs0)) h) : J mX11_missed d 0 0 Q 0 0 109 [u0, u1, u2, u3, u4, u5] [.inl vs0] h := by
  exact J_iret (ty := .int) (zat qX11_missed 58 (by rfl)) rfl rfl (Nat.le_refl 0) (Nat.le_refl 0) k

theorem bX11_stolen_0 {d d' : Nat} {Q : Option MV → MH → Prop} {h : MH} {u2 u3 u4 : Option MV} {v1 : Int32} (hr : zRf h) (hd : d' + 1 ≤ d) (k : Con mX11_isPlan d' 0 0 [.inl v1] (zsI h 111 0 (nI 0)) (zri fun (x : Int32) h' => J mX11_stolen d 0 0 Q 0 0 9 [some (.inr (.inr 111)), some (.inl v1), u2, u3, u4] [.inl x] h')) : J mX11_stolen d 0 0 Q 0 0 0 [some (.inr (.inr 111)), some (.inl v1), u2, u3, u4] [] h := by
  refine zrun 0 4 qX11_stolen (o := 11) rfl ?_
  show zokO h 111 11 ∧ J mX11_stolen d 0 0 Q 0 0 6 [some (.inr (.inr 111)), some (.inl v1), u2, u3, u4] [.inl v1] (zsI h 111 0 (nI 0))
  exact ⟨(zo hr (by decide) rfl), zcSi (as := [.inl v1]) (zat qX11_stolen 4 (by rfl)) l11_261 rfl hd rfl (Nat.le_of_ble_eq_true rfl) zle0 k⟩

theorem bX11_stolen_9 {d : Nat} {Q : Option MV → MH → Prop} {h : MH} {u0 u1 u2 u3 u4 : Option MV} {vs0 : Int32} (k1 : vs0 = 0 → J mX11_stolen d 0 0 Q 0 0 24 [u0, u1, u2, u3, u4] [] h) (k2 : ¬ vs0 = 0 → J mX11_stolen d 0 0 Q 0 0 12 [u0, u1, u2, u3, u4] [] h) : J mX11_stolen d 0 0 Q 0 0 9 [u0, u1, u2, u3, u4] [.inl vs0] h := by
  refine zrun 5 1 qX11_stolen (o := 11) rfl ?_
  show ((vs0 = 0 → J mX11_stolen d 0 0 Q 0 0 24 [u0, u1, u2, u3, u4] [] h) ∧ (¬ vs0 = 0 → J mX11_stolen d 0 0 Q 0 0 12 [u0, u1, u2, u3, u4] [] h))
  exact ⟨k1, k2⟩

theorem bX11_stolen_12 {d d' : Nat} {Q : Option MV → MH → Prop} {h : MH} {u0 u1 u3 u4 : Option MV} {v2 : Int32} (hd : d' + 1 ≤ d) (k : Con mX11_within d' 0 0 [.inr (.inl v2.toInt64), .inr (.inl (lN 0)), .inr (.inl (3 : Int64))] h (zri fun (x : Int32) h' => J mX11_stolen d 0 0 Q 0 0 21 [u0, u1, some (.inl v2), u3, u4] [.inl x] h')) : J mX11_stolen d 0 0 Q 0 0 12 [u0, u1, some (.inl v2), u3, u4] [] h := by
  refine zrun 6 4 qX11_stolen (o := 11) rfl ?_
  show J mX11_stolen d 0 0 Q 0 0 18 [u0, u1, some (.inl v2), u3, u4] [.inr (.inl (3 : Int64)), .inr (.inl (lN 0)), .inr (.inl v2.toInt64)] h
  exact zcSi (as := [.inr (.inl v2.toInt64), .inr (.inl (lN 0)), .inr (.inl (3 : Int64))]) (zat qX11_stolen 10 (by rfl)) l11_178 rfl hd rfl (Nat.le_of_ble_eq_true rfl) zle0 k

theorem bX11_stolen_21 {d : Nat} {Q : Option MV → MH → Prop} {h : MH} {u0 u1 u2 u3 u4 : Option MV} {vs0 : Int32} (k1 : ¬ vs0 = 0 → J mX11_stolen d 0 0 Q 0 0 27 [u0, u1, u2, u3, u4] [] h) (k2 : vs0 = 0 → J mX11_stolen d 0 0 Q 0 0 24 [u0, u1, u2, u3, u4] [] h) : J mX11_stolen d 0 0 Q 0 0 21 [u0, u1, u2, u3, u4] [.inl vs0] h := by
  refine zrun 11 1 qX11_stolen (o := 11) rfl ?_
  show ((¬ vs0 = 0 → J mX11_stolen d 0 0 Q 0 0 27 [u0, u1, u2, u3, u4] [] h) ∧ (vs0 = 0 → J mX11_stolen d 0 0 Q 0 0 24 [u0, u1, u2, u3, u4] [] h))
  exact ⟨k1, k2⟩

theorem bX11_stolen_24 {d : Nat} {Q : Option MV → MH → Prop} {h : MH} {u0 u1 u2 u3 u4 : Option MV} (k : Q (some (.inl (-(nI 2)))) h) : J mX11_stolen d 0 0 Q 0 0 24 [u0, u1, u2, u3, u4] [] h := by
  refine zrun 12 1 qX11_stolen (o := 11) rfl ?_
  show J mX11_stolen d 0 0 Q 0 0 26 [u0, u1, u2, u3, u4] [.inl (-(nI 2))] h
  exact J_iret (ty := .int) (zat qX11_stolen 13 (by rfl)) rfl rfl (Nat.le_refl 0) (Nat.le_refl 0) k

theorem bX11_stolen_27 {d : Nat} {Q : Option MV → MH → Prop} {h : MH} {u1 u3 u4 : Option MV} {v2 : Int32} (hr : zRf h) (g0 : vp_in v2 4) (k1 : ¬ (h.1 140 v2.toNatClampNeg) = (-(nI 1)) → J mX11_stolen d 0 0 Q 0 0 40 [some (.inr (.inr 111)), u1, some (.inl v2), u3, u4] [] h) (k2 : (h.1 140 v2.toNatClampNeg) = (-(nI 1)) → J mX11_stolen d 0 0 Q 0 0 37 [some (.inr (.inr 111)), u1, some (.inl v2), u3, u4] [] h) : J mX11_stolen d 0 0 Q 0 0 27 [some (.inr (.inr 111)), u1, some (.inl v2), u3, u4] [] h := by
  refine zrun 14 6 qX11_stolen (o := 11) rfl ?_
  show zokO h 111 11 ∧ zokA h (h.2.2.1 111 53) 20 v2 ∧ ((¬ (h.1 (h.2.2.1 111 53) v2.toNatClampNeg) = (-(nI 1)) → J mX11_stolen d 0 0 Q 0 0 40 [some (.inr (.inr 111)), u1, some (.inl v2), u3, u4] [] h) ∧ ((h.1 (h.2.2.1 111 53) v2.toNatClampNeg) = (-(nI 1)) → J mX11_stolen d 0 0 Q 0 0 37 [some (.inr (.inr 111)), u1, some (.inl v2), u3, u4] [] h))
  rw [(show h.2.2.1 111 53 = 140 from (hr.at (by decide) (by decide) (by rfl)))]
  exact ⟨(zo hr (by decide) rfl), (zia hr (by decide) (by rfl) g0), k1, k2⟩

theorem bX11_stolen_37 {d : Nat} {Q : Option MV → MH → Prop} {h : MH} {u0 u1 u2 u3 u4 : Option MV} (k : Q (some (.inl (-(nI 6)))) h) : J mX11_stolen d 0 0 Q 0 0 37 [u0, u1, u2, u3, u4] [] h := by
  refine zrun 20 1 qX11_stolen (o := 11) rfl ?_
  show J mX11_stolen d 0 0 Q 0 0 39 [u0, u1, u2, u3, u4] [.inl (-(nI 6))] h
  exact J_iret (ty := .int) (zat qX11_stolen 21 (by rfl)) rfl rfl (Nat.le_refl 0) (Nat.le_refl 0) k

theorem bX11_stolen_40 {d d' : Nat} {Q : Option MV → MH → Prop} {h : MH} {u1 u2 u3 u4 : Option MV} (hr : zRf h) (hd : d' + 1 ≤ d) (k : Con mX11_asTold d' 0 0 [.inr (.inr 111)] h (zrv fun h' => J mX11_stolen d 0 0 Q 0 0 44 [some (.inr (.inr 111)), u1, u2, u3, u4] [] h')) : J mX11_stolen d 0 0 Q 0 0 40 [some (.inr (.inr 111)), u1, u2, u3, u4] [] h := by
  refine zrun 22 1 qX11_stolen (o := 11) rfl ?_
  show J mX11_stolen d 0 0 Q 0 0 41 [some (.inr (.inr 111)), u1, u2, u3, u4] [.inr (.inr 111)] h
  exact zcVv (as := []) (zat qX11_stolen 23 (by rfl)) l11_266 rfl hd rfl (Nat.le_of_ble_eq_true rfl) zle0 (ci := 11) (by decide) rfl (zo hr (by decide) rfl) k

theorem bX11_stolen_44 {d d' : Nat} {Q : Option MV → MH → Prop} {h : MH} {u2 u3 u4 : Option MV} {v1 : Int32} (hr : zRf h) (hd : d' + 1 ≤ d) (k : Con mX11_runs d' 0 0 [.inr (.inr 111), .inl v1, .inl (-(nI 1))] h (zrv fun h' => J mX11_stolen d 0 0 Q 0 0 50 [some (.inr (.inr 111)), some (.inl v1), u2, u3, u4] [] h')) : J mX11_stolen d 0 0 Q 0 0 44 [some (.inr (.inr 111)), some (.inl v1), u2, u3, u4] [] h := by
  refine zrun 24 3 qX11_stolen (o := 11) rfl ?_
  show J mX11_stolen d 0 0 Q 0 0 47 [some (.inr (.inr 111)), some (.inl v1), u2, u3, u4] [.inl (-(nI 1)), .inl v1, .inr (.inr 111)] h
  exact zcVv (as := [.inl v1, .inl (-(nI 1))]) (zat qX11_stolen 27 (by rfl)) l11_269 rfl hd rfl (Nat.le_of_ble_eq_true rfl) zle0 (ci := 11) (by decide) rfl (zo hr (by decide) rfl) k

theorem bX11_stolen_50 {d : Nat} {Q : Option MV → MH → Prop} {h : MH} {u0 u1 u3 u4 : Option MV} {v2 : Int32} (k : J mX11_stolen d 0 0 Q 0 0 55 [u0, u1, some (.inl v2), some (.inl (nI 0)), some (.inl (nI 0))] [] h) : J mX11_stolen d 0 0 Q 0 0 50 [u0, u1, some (.inl v2), u3, u4] [] h := by
  refine zrun 28 4 qX11_stolen (o := 11) rfl ?_
  show J mX11_stolen d 0 0 Q 0 0 55 [u0, u1, some (.inl v2), some (.inl (nI 0)), some (.inl (nI 0))] [] h
  exact k

theorem bX11_stolen_55 {d : Nat} {Q : Option MV → MH → Prop} {h : MH} {u1 u2 u3 : Option MV} {v4 : Int32} (hr : zRf h) (g0 : vp_in (nI 0) 2166) (k1 : (h.1 112 0) ≤ v4 → J mX11_stolen d 0 0 Q 0 0 122 [some (.inr (.inr 111)), u1, u2, u3, some (.inl v4)] [] h) (k2 : ¬ (h.1 112 0) ≤ v4 → J mX11_stolen d 0 0 Q 0 0 66 [some (.inr (.inr 111)), u1, u2, u3, some (.inl v4)] [] h) : J mX11_stolen d 0 0 Q 0 0 55 [some (.inr (.inr 111)), u1, u2, u3, some (.inl v4)] [] h := by
  refine zrun 32 6 qX11_stolen (o := 11) rfl ?_
  show zokO h 111 11 ∧ zokA h (h.2.2.1 111 1) 20 (nI 0) ∧ (((h.1 (h.2.2.1 111 1) 0) ≤ v4 → J mX11_stolen d 0 0 Q 0 0 122 [some (.inr (.inr 111)), u1, u2, u3, some (.inl v4)] [] h) ∧ (¬ (h.1 (h.2.2.1 111 1) 0) ≤ v4 → J mX11_stolen d 0 0 Q 0 0 66 [some (.inr (.inr 111)), u1, u2, u3, some (.inl v4)] [] h))
  rw [(show h.2.2.1 111 1 = 112 from (hr.at (by decide) (by decide) (by rfl)))]
  exact ⟨(zo hr (by decide) rfl), (zia hr (by decide) (by rfl) g0), k1, k2⟩

theorem bX11_stolen_66 {d : Nat} {Q : Option MV → MH → Prop} {h : MH} {u1 u3 : Option MV} {v4 v2 : Int32} (hr : zRf h) (g0 : vp_in v2 4) (k1 : (h.1 141 v2.toNatClampNeg) ≤ v4 → J mX11_stolen d 0 0 Q 0 0 122 [some (.inr (.inr 111)), u1, some (.inl v2), u3, some (.inl v4)] [] h) (k2 : ¬ (h.1 141 v2.toNatClampNeg) ≤ v4 → J mX11_stolen d 0 0 Q 0 0 77 [some (.inr (.inr 111)), u1, some (.inl v2), u3, some (.inl v4)] [] h) : J mX11_stolen d 0 0 Q 0 0 66 [some (.inr (.inr 111)), u1, some (.inl v2), u3, some (.inl v4)] [] h := by
  refine zrun 38 6 qX11_stolen (o := 11) rfl ?_
  show zokO h 111 11 ∧ zokA h (h.2.2.1 111 54) 20 v2 ∧ (((h.1 (h.2.2.1 111 54) v2.toNatClampNeg) ≤ v4 → J mX11_stolen d 0 0 Q 0 0 122 [some (.inr (.inr 111)), u1, some (.inl v2), u3, some (.inl v4)] [] h) ∧ (¬ (h.1 (h.2.2.1 111 54) v2.toNatClampNeg) ≤ v4 → J mX11_stolen d 0 0 Q 0 0 77 [some (.inr (.inr 111)), u1, some (.inl v2), u3, some (.inl v4)] [] h))
  rw [(show h.2.2.1 111 54 = 141 from (hr.at (by decide) (by decide) (by rfl)))]
  exact ⟨(zo hr (by decide) rfl), (zia hr (by decide) (by rfl) g0), k1, k2⟩

theorem bX11_stolen_77 {d : Nat} {Q : Option MV → MH → Prop} {h : MH} {u1 : Option MV} {v3 v2 v4 : Int32} (hr : zRf h) (g0 : vp_in (((nI 40) * v2) + v4) 160) (g1 : vp_in v4 8) (k1 : 0 ≤ (lg_cmp (h.2.1 142 (((nI 40) * v2) + v4).toNatClampNeg) (((h.1 117 v4.toNatClampNeg) / (nI 256)).toInt64)) → J mX11_stolen d 0 0 Q 0 0 113 [some (.inr (.inr 111)), u1, some (.inl v2), some (.inl v3), some (.inl v4)] [.inl v3] h) (k2 : ¬ 0 ≤ (lg_cmp (h.2.1 142 (((nI 40) * v2) + v4).toNatClampNeg) (((h.1 117 v4.toNatClampNeg) / (nI 256)).toInt64)) → J mX11_stolen d 0 0 Q 0 0 106 [some (.inr (.inr 111)), u1, some (.inl v2), some (.inl v3), some (.inl v4)] [.inl v3] h) : J mX11_stolen d 0 0 Q 0 0 77 [some (.inr (.inr 111)), u1, some (.inl v2), some (.inl v3), some (.inl v4)] [] h := by
  refine zrun 44 18 qX11_stolen (o := 11) rfl ?_
  show zokO h 111 11 ∧ zokA h (h.2.2.1 111 55) 21 (((nI 40) * v2) + v4) ∧ zokO h 111 11 ∧ zokA h (h.2.2.1 111 16) 20 v4 ∧ ¬ (nI 256) = 0 ∧ ((0 ≤ (lg_cmp (h.2.1 (h.2.2.1 111 55) (((nI 40) * v2) + v4).toNatClampNeg) (((h.1 (h.2.2.1 111 16) v4.toNatClampNeg) / (nI 256)).toInt64)) → J mX11_stolen d 0 0 Q 0 0 113 [some (.inr (.inr 111)), u1, some (.inl v2), some (.inl v3), some (.inl v4)] [.inl v3] h) ∧ (¬ 0 ≤ (lg_cmp (h.2.1 (h.2.2.1 111 55) (((nI 40) * v2) + v4).toNatClampNeg) (((h.1 (h.2.2.1 111 16) v4.toNatClampNeg) / (nI 256)).toInt64)) → J mX11_stolen d 0 0 Q 0 0 106 [some (.inr (.inr 111)), u1, some (.inl v2), some (.inl v3), some (.inl v4)] [.inl v3] h))
  rw [(show h.2.2.1 111 55 = 142 from (hr.at (by decide) (by decide) (by rfl))), (show h.2.2.1 111 16 = 117 from (hr.at (by decide) (by decide) (by rfl)))]
  exact ⟨(zo hr (by decide) rfl), (zia hr (by decide) (by rfl) g0), (zo hr (by decide) rfl), (zia hr (by decide) (by rfl) g1), (by decide), k1, k2⟩

theorem bX11_stolen_106 {d : Nat} {Q : Option MV → MH → Prop} {h : MH} {u0 u1 u2 u3 : Option MV} {vs0 v4 : Int32} (k : J mX11_stolen d 0 0 Q 0 0 114 [u0, u1, u2, u3, some (.inl v4)] [.inl ((nI 1) <<< (v4 &&& 31)), .inl vs0] h) : J mX11_stolen d 0 0 Q 0 0 106 [u0, u1, u2, u3, some (.inl v4)] [.inl vs0] h := by
  refine zrun 62 4 qX11_stolen (o := 11) rfl ?_
  show J mX11_stolen d 0 0 Q 0 0 114 [u0, u1, u2, u3, some (.inl v4)] [.inl ((nI 1) <<< (v4 &&& 31)), .inl vs0] h
  exact k

theorem bX11_stolen_113 {d : Nat} {Q : Option MV → MH → Prop} {h : MH} {u0 u1 u2 u3 u4 : Option MV} {vs0 : Int32} (k : J mX11_stolen d 0 0 Q 0 0 114 [u0, u1, u2, u3, u4] [.inl (nI 0), .inl vs0] h) : J mX11_stolen d 0 0 Q 0 0 113 [u0, u1, u2, u3, u4] [.inl vs0] h := by
  refine zrun 66 1 qX11_stolen (o := 11) rfl ?_
  show J mX11_stolen d 0 0 Q 0 0 114 [u0, u1, u2, u3, u4] [.inl (nI 0), .inl vs0] h
  exact k

theorem bX11_stolen_114 {d : Nat} {Q : Option MV → MH → Prop} {h : MH} {u0 u1 u3 : Option MV} {vs0 vs1 v2 v4 : Int32} (k : J mX11_stolen d 0 0 Q 0 0 55 [u0, u1, some (.inl v2), some (.inl (vs0 ||| vs1)), some (.inl (v4 + nI 1))] [] h) : J mX11_stolen d 0 0 Q 0 0 114 [u0, u1, some (.inl v2), u3, some (.inl v4)] [.inl vs1, .inl vs0] h := by
  refine zrun 67 4 qX11_stolen (o := 11) rfl ?_
  show J mX11_stolen d 0 0 Q 0 0 55 [u0, u1, some (.inl v2), some (.inl (vs0 ||| vs1)), some (.inl (v4 + nI 1))] [] h
  exact k

theorem bX11_stolen_122 {d : Nat} {Q : Option MV → MH → Prop} {h : MH} {u0 u1 u2 u4 : Option MV} {v3 : Int32} (k : Q (some (.inl v3)) h) : J mX11_stolen d 0 0 Q 0 0 122 [u0, u1, u2, some (.inl v3), u4] [] h := by
  refine zrun 71 1 qX11_stolen (o := 11) rfl ?_
  show J mX11_stolen d 0 0 Q 0 0 123 [u0, u1, u2, some (.inl v3), u4] [.inl v3] h
  exact J_iret (ty := .int) (zat qX11_stolen 72 (by rfl)) rfl rfl (Nat.le_refl 0) (Nat.le_refl 0) k

theorem bX11_cut_0 {d : Nat} {Q : Option MV → MH → Prop} {h : MH} {u0 u1 : Option MV} {v2 : Int32} (k1 : ¬ v2 = 0 → J mX11_cut d 0 0 Q 0 0 11 [u0, u1, some (.inl v2)] [] h) (k2 : v2 = 0 → J mX11_cut d 0 0 Q 0 0 4 [u0, u1, some (.inl v2)] [] h) : J mX11_cut d 0 0 Q 0 0 0 [u0, u1, some (.inl v2)] [] h := by
  refine zrun 0 2 qX11_cut (o := 11) rfl ?_
  show ((¬ v2 = 0 → J mX11_cut d 0 0 Q 0 0 11 [u0, u1, some (.inl v2)] [] h) ∧ (v2 = 0 → J mX11_cut d 0 0 Q 0 0 4 [u0, u1, some (.inl v2)] [] h))
  exact ⟨k1, k2⟩

theorem bX11_cut_4 {d : Nat} {Q : Option MV → MH → Prop} {h : MH} {u1 u2 : Option MV} {v0 : Int64} (k : J mX11_cut d 0 0 Q 0 0 35 [some (.inr (.inl v0)), u1, u2] [.inr (.inl v0.toInt32.toInt8.toInt32.toInt64)] h) : J mX11_cut d 0 0 Q 0 0 4 [some (.inr (.inl v0)), u1, u2] [] h := by
  refine zrun 2 5 qX11_cut (o := 11) rfl ?_
  show J mX11_cut d 0 0 Q 0 0 35 [some (.inr (.inl v0)), u1, u2] [.inr (.inl v0.toInt32.toInt8.toInt32.toInt64)] h
  exact k

theorem bX11_cut_11 {d : Nat} {Q : Option MV → MH → Prop} {h : MH} {u0 u1 : Option MV} {v2 : Int32} (k1 : ¬ v2 = (nI 1) → J mX11_cut d 0 0 Q 0 0 23 [u0, u1, some (.inl v2)] [] h) (k2 : v2 = (nI 1) → J mX11_cut d 0 0 Q 0 0 16 [u0, u1, some (.inl v2)] [] h) : J mX11_cut d 0 0 Q 0 0 11 [u0, u1, some (.inl v2)] [] h := by
  refine zrun 7 3 qX11_cut (o := 11) rfl ?_
  show ((¬ v2 = (nI 1) → J mX11_cut d 0 0 Q 0 0 23 [u0, u1, some (.inl v2)] [] h) ∧ (v2 = (nI 1) → J mX11_cut d 0 0 Q 0 0 16 [u0, u1, some (.inl v2)] [] h))
  exact ⟨k1, k2⟩

theorem bX11_cut_16 {d : Nat} {Q : Option MV → MH → Prop} {h : MH} {u1 u2 : Option MV} {v0 : Int64} (k : J mX11_cut d 0 0 Q 0 0 35 [some (.inr (.inl v0)), u1, u2] [.inr (.inl v0.toInt32.toInt16.toInt32.toInt64)] h) : J mX11_cut d 0 0 Q 0 0 16 [some (.inr (.inl v0)), u1, u2] [] h := by
  refine zrun 10 5 qX11_cut (o := 11) rfl ?_
  show J mX11_cut d 0 0 Q 0 0 35 [some (.inr (.inl v0)), u1, u2] [.inr (.inl v0.toInt32.toInt16.toInt32.toInt64)] h
  exact k

theorem bX11_cut_23 {d : Nat} {Q : Option MV → MH → Prop} {h : MH} {u0 u1 : Option MV} {v2 : Int32} (k1 : ¬ v2 = (nI 2) → J mX11_cut d 0 0 Q 0 0 34 [u0, u1, some (.inl v2)] [] h) (k2 : v2 = (nI 2) → J mX11_cut d 0 0 Q 0 0 28 [u0, u1, some (.inl v2)] [] h) : J mX11_cut d 0 0 Q 0 0 23 [u0, u1, some (.inl v2)] [] h := by
  refine zrun 15 3 qX11_cut (o := 11) rfl ?_
  show ((¬ v2 = (nI 2) → J mX11_cut d 0 0 Q 0 0 34 [u0, u1, some (.inl v2)] [] h) ∧ (v2 = (nI 2) → J mX11_cut d 0 0 Q 0 0 28 [u0, u1, some (.inl v2)] [] h))
  exact ⟨k1, k2⟩

theorem bX11_cut_28 {d : Nat} {Q : Option MV → MH → Prop} {h : MH} {u1 u2 : Option MV} {v0 : Int64} (k : J mX11_cut d 0 0 Q 0 0 35 [some (.inr (.inl v0)), u1, u2] [.inr (.inl v0.toInt32.toInt64)] h) : J mX11_cut d 0 0 Q 0 0 28 [some (.inr (.inl v0)), u1, u2] [] h := by
  refine zrun 18 4 qX11_cut (o := 11) rfl ?_
  show J mX11_cut d 0 0 Q 0 0 35 [some (.inr (.inl v0)), u1, u2] [.inr (.inl v0.toInt32.toInt64)] h
  exact k

theorem bX11_cut_34 {d : Nat} {Q : Option MV → MH → Prop} {h : MH} {u1 u2 : Option MV} {v0 : Int64} (k : J mX11_cut d 0 0 Q 0 0 35 [some (.inr (.inl v0)), u1, u2] [.inr (.inl v0)] h) : J mX11_cut d 0 0 Q 0 0 34 [some (.inr (.inl v0)), u1, u2] [] h := by
  refine zrun 22 1 qX11_cut (o := 11) rfl ?_
  show J mX11_cut d 0 0 Q 0 0 35 [some (.inr (.inl v0)), u1, u2] [.inr (.inl v0)] h
  exact k

theorem bX11_cut_35 {d : Nat} {Q : Option MV → MH → Prop} {h : MH} {u0 u1 u2 : Option MV} {vs0 : Int64} (k : Q (some (.inr (.inl vs0))) h) : J mX11_cut d 0 0 Q 0 0 35 [u0, u1, u2] [.inr (.inl vs0)] h := by
  exact J_lret (zat qX11_cut 23 (by rfl)) rfl (Nat.le_refl 0) (Nat.le_refl 0) k

theorem bX11_numbers_0 {d d' : Nat} {Q : Option MV → MH → Prop} {h : MH} {u2 u3 u4 : Option MV} {v1 : Int32} (hr : zRf h) (hd : d' + 1 ≤ d) (k : Con mX11_within d' 0 0 [.inr (.inl v1.toInt64), .inr (.inl (lN 0)), .inr (.inl (3 : Int64))] (zsI h 111 0 (nI 0)) (zri fun (x : Int32) h' => J mX11_numbers d 0 0 Q 0 0 14 [some (.inr (.inr 111)), some (.inl v1), u2, u3, u4] [.inl x] h')) : J mX11_numbers d 0 0 Q 0 0 0 [some (.inr (.inr 111)), some (.inl v1), u2, u3, u4] [] h := by
  refine zrun 0 7 qX11_numbers (o := 11) rfl ?_
  show zokO h 111 11 ∧ J mX11_numbers d 0 0 Q 0 0 11 [some (.inr (.inr 111)), some (.inl v1), u2, u3, u4] [.inr (.inl (3 : Int64)), .inr (.inl (lN 0)), .inr (.inl v1.toInt64)] (zsI h 111 0 (nI 0))
  exact ⟨(zo hr (by decide) rfl), zcSi (as := [.inr (.inl v1.toInt64), .inr (.inl (lN 0)), .inr (.inl (3 : Int64))]) (zat qX11_numbers 7 (by rfl)) l11_178 rfl hd rfl (Nat.le_of_ble_eq_true rfl) zle0 k⟩

theorem bX11_numbers_14 {d : Nat} {Q : Option MV → MH → Prop} {h : MH} {u0 u1 u2 u3 u4 : Option MV} {vs0 : Int32} (k1 : vs0 = 0 → J mX11_numbers d 0 0 Q 0 0 29 [u0, u1, u2, u3, u4] [] h) (k2 : ¬ vs0 = 0 → J mX11_numbers d 0 0 Q 0 0 17 [u0, u1, u2, u3, u4] [] h) : J mX11_numbers d 0 0 Q 0 0 14 [u0, u1, u2, u3, u4] [.inl vs0] h := by
  refine zrun 8 1 qX11_numbers (o := 11) rfl ?_
  show ((vs0 = 0 → J mX11_numbers d 0 0 Q 0 0 29 [u0, u1, u2, u3, u4] [] h) ∧ (¬ vs0 = 0 → J mX11_numbers d 0 0 Q 0 0 17 [u0, u1, u2, u3, u4] [] h))
  exact ⟨k1, k2⟩

theorem bX11_numbers_17 {d d' : Nat} {Q : Option MV → MH → Prop} {h : MH} {u0 u1 u3 u4 : Option MV} {v2 : Int32} (hd : d' + 1 ≤ d) (k : Con mX11_within d' 0 0 [.inr (.inl v2.toInt64), .inr (.inl (lN 0)), .inr (.inl (3 : Int64))] h (zri fun (x : Int32) h' => J mX11_numbers d 0 0 Q 0 0 26 [u0, u1, some (.inl v2), u3, u4] [.inl x] h')) : J mX11_numbers d 0 0 Q 0 0 17 [u0, u1, some (.inl v2), u3, u4] [] h := by
  refine zrun 9 4 qX11_numbers (o := 11) rfl ?_
  show J mX11_numbers d 0 0 Q 0 0 23 [u0, u1, some (.inl v2), u3, u4] [.inr (.inl (3 : Int64)), .inr (.inl (lN 0)), .inr (.inl v2.toInt64)] h
  exact zcSi (as := [.inr (.inl v2.toInt64), .inr (.inl (lN 0)), .inr (.inl (3 : Int64))]) (zat qX11_numbers 13 (by rfl)) l11_178 rfl hd rfl (Nat.le_of_ble_eq_true rfl) zle0 k

theorem bX11_numbers_26 {d : Nat} {Q : Option MV → MH → Prop} {h : MH} {u0 u1 u2 u3 u4 : Option MV} {vs0 : Int32} (k1 : ¬ vs0 = 0 → J mX11_numbers d 0 0 Q 0 0 32 [u0, u1, u2, u3, u4] [] h) (k2 : vs0 = 0 → J mX11_numbers d 0 0 Q 0 0 29 [u0, u1, u2, u3, u4] [] h) : J mX11_numbers d 0 0 Q 0 0 26 [u0, u1, u2, u3, u4] [.inl vs0] h := by
  refine zrun 14 1 qX11_numbers (o := 11) rfl ?_
  show ((¬ vs0 = 0 → J mX11_numbers d 0 0 Q 0 0 32 [u0, u1, u2, u3, u4] [] h) ∧ (vs0 = 0 → J mX11_numbers d 0 0 Q 0 0 29 [u0, u1, u2, u3, u4] [] h))
  exact ⟨k1, k2⟩

theorem bX11_numbers_29 {d : Nat} {Q : Option MV → MH → Prop} {h : MH} {u0 u1 u2 u3 u4 : Option MV} (k : Q (some (.inl (-(nI 2)))) h) : J mX11_numbers d 0 0 Q 0 0 29 [u0, u1, u2, u3, u4] [] h := by
  refine zrun 15 1 qX11_numbers (o := 11) rfl ?_
  show J mX11_numbers d 0 0 Q 0 0 31 [u0, u1, u2, u3, u4] [.inl (-(nI 2))] h
  exact J_iret (ty := .int) (zat qX11_numbers 16 (by rfl)) rfl rfl (Nat.le_refl 0) (Nat.le_refl 0) k

theorem bX11_numbers_32 {d d' : Nat} {Q : Option MV → MH → Prop} {h : MH} {u0 u1 u2 u4 : Option MV} {v3 : Int32} (hd : d' + 1 ≤ d) (k : Con mX11_within d' 0 0 [.inr (.inl v3.toInt64), .inr (.inl (lN 0)), .inr (.inl (40 : Int64))] h (zri fun (x : Int32) h' => J mX11_numbers d 0 0 Q 0 0 41 [u0, u1, u2, some (.inl v3), u4] [.inl x] h')) : J mX11_numbers d 0 0 Q 0 0 32 [u0, u1, u2, some (.inl v3), u4] [] h := by
  refine zrun 17 4 qX11_numbers (o := 11) rfl ?_
  show J mX11_numbers d 0 0 Q 0 0 38 [u0, u1, u2, some (.inl v3), u4] [.inr (.inl (40 : Int64)), .inr (.inl (lN 0)), .inr (.inl v3.toInt64)] h
  exact zcSi (as := [.inr (.inl v3.toInt64), .inr (.inl (lN 0)), .inr (.inl (40 : Int64))]) (zat qX11_numbers 21 (by rfl)) l11_178 rfl hd rfl (Nat.le_of_ble_eq_true rfl) zle0 k

theorem bX11_numbers_41 {d : Nat} {Q : Option MV → MH → Prop} {h : MH} {u0 u1 u2 u3 u4 : Option MV} {vs0 : Int32} (k1 : ¬ vs0 = 0 → J mX11_numbers d 0 0 Q 0 0 47 [u0, u1, u2, u3, u4] [] h) (k2 : vs0 = 0 → J mX11_numbers d 0 0 Q 0 0 44 [u0, u1, u2, u3, u4] [] h) : J mX11_numbers d 0 0 Q 0 0 41 [u0, u1, u2, u3, u4] [.inl vs0] h := by
  refine zrun 22 1 qX11_numbers (o := 11) rfl ?_
  show ((¬ vs0 = 0 → J mX11_numbers d 0 0 Q 0 0 47 [u0, u1, u2, u3, u4] [] h) ∧ (vs0 = 0 → J mX11_numbers d 0 0 Q 0 0 44 [u0, u1, u2, u3, u4] [] h))
  exact ⟨k1, k2⟩

theorem bX11_numbers_44 {d : Nat} {Q : Option MV → MH → Prop} {h : MH} {u0 u1 u2 u3 u4 : Option MV} (k : Q (some (.inl (-(nI 3)))) h) : J mX11_numbers d 0 0 Q 0 0 44 [u0, u1, u2, u3, u4] [] h := by
  refine zrun 23 1 qX11_numbers (o := 11) rfl ?_
  show J mX11_numbers d 0 0 Q 0 0 46 [u0, u1, u2, u3, u4] [.inl (-(nI 3))] h
  exact J_iret (ty := .int) (zat qX11_numbers 24 (by rfl)) rfl rfl (Nat.le_refl 0) (Nat.le_refl 0) k

theorem bX11_numbers_47 {d : Nat} {Q : Option MV → MH → Prop} {h : MH} {u4 : Option MV} {v1 v2 v3 : Int32} (hr : zRf h) (g0 : vp_in v1 4) (k : J mX11_numbers d 0 0 Q 0 0 64 [some (.inr (.inr 111)), some (.inl v1), some (.inl v2), some (.inl v3), some (.inl (nI 0))] [] (zsI (zsI h 140 v1.toNatClampNeg v2) 141 v1.toNatClampNeg v3)) : J mX11_numbers d 0 0 Q 0 0 47 [some (.inr (.inr 111)), some (.inl v1), some (.inl v2), some (.inl v3), u4] [] h := by
  refine zrun 25 12 qX11_numbers (o := 11) rfl ?_
  show zokO h 111 11 ∧ zokA h (h.2.2.1 111 53) 20 v1 ∧ zokO (zsI h (h.2.2.1 111 53) v1.toNatClampNeg v2) 111 11 ∧ zokA (zsI h (h.2.2.1 111 53) v1.toNatClampNeg v2) (h.2.2.1 111 54) 20 v1 ∧ J mX11_numbers d 0 0 Q 0 0 64 [some (.inr (.inr 111)), some (.inl v1), some (.inl v2), some (.inl v3), some (.inl (nI 0))] [] (zsI (zsI h (h.2.2.1 111 53) v1.toNatClampNeg v2) (h.2.2.1 111 54) v1.toNatClampNeg v3)
  rw [(show h.2.2.1 111 53 = 140 from (hr.at (by decide) (by decide) (by rfl))), (show h.2.2.1 111 54 = 141 from (hr.at (by decide) (by decide) (by rfl)))]
  exact ⟨(zo hr (by decide) rfl), (zia hr (by decide) (by rfl) g0), (zo hr (by decide) rfl), (zia hr (by decide) (by rfl) g0), k⟩

theorem bX11_numbers_64 {d : Nat} {Q : Option MV → MH → Prop} {h : MH} {u0 u1 u2 : Option MV} {v4 v3 : Int32} (k1 : v3 ≤ v4 → J mX11_numbers d 0 0 Q 0 0 89 [u0, u1, u2, some (.inl v3), some (.inl v4)] [] h) (k2 : ¬ v3 ≤ v4 → J mX11_numbers d 0 0 Q 0 0 70 [u0, u1, u2, some (.inl v3), some (.inl v4)] [] h) : J mX11_numbers d 0 0 Q 0 0 64 [u0, u1, u2, some (.inl v3), some (.inl v4)] [] h := by
  refine zrun 37 3 qX11_numbers (o := 11) rfl ?_
  show ((v3 ≤ v4 → J mX11_numbers d 0 0 Q 0 0 89 [u0, u1, u2, some (.inl v3), some (.inl v4)] [] h) ∧ (¬ v3 ≤ v4 → J mX11_numbers d 0 0 Q 0 0 70 [u0, u1, u2, some (.inl v3), some (.inl v4)] [] h))
  exact ⟨k1, k2⟩

theorem bX11_numbers_70 {d : Nat} {Q : Option MV → MH → Prop} {h : MH} {u2 : Option MV} {v1 v4 v3 : Int32} (hr : zRf h) (g0 : vp_in (((nI 40) * v1) + v4) 160) (k : J mX11_numbers d 0 0 Q 0 0 64 [some (.inr (.inr 111)), some (.inl v1), u2, some (.inl v3), some (.inl (v4 + nI 1))] [] (zsL h 142 (((nI 40) * v1) + v4).toNatClampNeg (lN 0))) : J mX11_numbers d 0 0 Q 0 0 70 [some (.inr (.inr 111)), some (.inl v1), u2, some (.inl v3), some (.inl v4)] [] h := by
  refine zrun 40 11 qX11_numbers (o := 11) rfl ?_
  show zokO h 111 11 ∧ zokA h (h.2.2.1 111 55) 21 (((nI 40) * v1) + v4) ∧ J mX11_numbers d 0 0 Q 0 0 64 [some (.inr (.inr 111)), some (.inl v1), u2, some (.inl v3), some (.inl (v4 + nI 1))] [] (zsL h (h.2.2.1 111 55) (((nI 40) * v1) + v4).toNatClampNeg (lN 0))
  rw [(show h.2.2.1 111 55 = 142 from (hr.at (by decide) (by decide) (by rfl)))]
  exact ⟨(zo hr (by decide) rfl), (zia hr (by decide) (by rfl) g0), k⟩

theorem bX11_numbers_89 {d : Nat} {Q : Option MV → MH → Prop} {h : MH} {u0 u1 u2 u3 u4 : Option MV} (k : Q (some (.inl (nI 0))) h) : J mX11_numbers d 0 0 Q 0 0 89 [u0, u1, u2, u3, u4] [] h := by
  refine zrun 51 1 qX11_numbers (o := 11) rfl ?_
  show J mX11_numbers d 0 0 Q 0 0 90 [u0, u1, u2, u3, u4] [.inl (nI 0)] h
  exact J_iret (ty := .int) (zat qX11_numbers 52 (by rfl)) rfl rfl (Nat.le_refl 0) (Nat.le_refl 0) k

theorem bX11_write_0 {d d' : Nat} {Q : Option MV → MH → Prop} {h : MH} {u2 u3 u4 : Option MV} {v1 : Int32} (hr : zRf h) (hd : d' + 1 ≤ d) (k : Con mX11_within d' 0 0 [.inr (.inl v1.toInt64), .inr (.inl (lN 0)), .inr (.inl (3 : Int64))] (zsI h 111 0 (nI 0)) (zri fun (x : Int32) h' => J mX11_write d 0 0 Q 0 0 14 [some (.inr (.inr 111)), some (.inl v1), u2, u3, u4] [.inl x] h')) : J mX11_write d 0 0 Q 0 0 0 [some (.inr (.inr 111)), some (.inl v1), u2, u3, u4] [] h := by
  refine zrun 0 7 qX11_write (o := 11) rfl ?_
  show zokO h 111 11 ∧ J mX11_write d 0 0 Q 0 0 11 [some (.inr (.inr 111)), some (.inl v1), u2, u3, u4] [.inr (.inl (3 : Int64)), .inr (.inl (lN 0)), .inr (.inl v1.toInt64)] (zsI h 111 0 (nI 0))
  exact ⟨(zo hr (by decide) rfl), zcSi (as := [.inr (.inl v1.toInt64), .inr (.inl (lN 0)), .inr (.inl (3 : Int64))]) (zat qX11_write 7 (by rfl)) l11_178 rfl hd rfl (Nat.le_of_ble_eq_true rfl) zle0 k⟩

theorem bX11_write_14 {d : Nat} {Q : Option MV → MH → Prop} {h : MH} {u0 u1 u2 u3 u4 : Option MV} {vs0 : Int32} (k1 : ¬ vs0 = 0 → J mX11_write d 0 0 Q 0 0 21 [u0, u1, u2, u3, u4] [] h) (k2 : vs0 = 0 → J mX11_write d 0 0 Q 0 0 17 [u0, u1, u2, u3, u4] [] h) : J mX11_write d 0 0 Q 0 0 14 [u0, u1, u2, u3, u4] [.inl vs0] h := by
  refine zrun 8 1 qX11_write (o := 11) rfl ?_
  show ((¬ vs0 = 0 → J mX11_write d 0 0 Q 0 0 21 [u0, u1, u2, u3, u4] [] h) ∧ (vs0 = 0 → J mX11_write d 0 0 Q 0 0 17 [u0, u1, u2, u3, u4] [] h))
  exact ⟨k1, k2⟩

theorem bX11_write_17 {d : Nat} {Q : Option MV → MH → Prop} {h : MH} {u0 u1 u2 u3 u4 : Option MV} (k : Q (some (.inr (.inl (-2 : Int64)))) h) : J mX11_write d 0 0 Q 0 0 17 [u0, u1, u2, u3, u4] [] h := by
  refine zrun 9 1 qX11_write (o := 11) rfl ?_
  show J mX11_write d 0 0 Q 0 0 20 [u0, u1, u2, u3, u4] [.inr (.inl (-2 : Int64))] h
  exact J_lret (zat qX11_write 10 (by rfl)) rfl (Nat.le_refl 0) (Nat.le_refl 0) k

theorem bX11_write_21 {d : Nat} {Q : Option MV → MH → Prop} {h : MH} {u2 u3 u4 : Option MV} {v1 : Int32} (hr : zRf h) (g0 : vp_in v1 4) (k1 : ¬ (h.1 140 v1.toNatClampNeg) = (-(nI 1)) → J mX11_write d 0 0 Q 0 0 35 [some (.inr (.inr 111)), some (.inl v1), u2, u3, u4] [] h) (k2 : (h.1 140 v1.toNatClampNeg) = (-(nI 1)) → J mX11_write d 0 0 Q 0 0 31 [some (.inr (.inr 111)), some (.inl v1), u2, u3, u4] [] h) : J mX11_write d 0 0 Q 0 0 21 [some (.inr (.inr 111)), some (.inl v1), u2, u3, u4] [] h := by
  refine zrun 11 6 qX11_write (o := 11) rfl ?_
  show zokO h 111 11 ∧ zokA h (h.2.2.1 111 53) 20 v1 ∧ ((¬ (h.1 (h.2.2.1 111 53) v1.toNatClampNeg) = (-(nI 1)) → J mX11_write d 0 0 Q 0 0 35 [some (.inr (.inr 111)), some (.inl v1), u2, u3, u4] [] h) ∧ ((h.1 (h.2.2.1 111 53) v1.toNatClampNeg) = (-(nI 1)) → J mX11_write d 0 0 Q 0 0 31 [some (.inr (.inr 111)), some (.inl v1), u2, u3, u4] [] h))
  rw [(show h.2.2.1 111 53 = 140 from (hr.at (by decide) (by decide) (by rfl)))]
  exact ⟨(zo hr (by decide) rfl), (zia hr (by decide) (by rfl) g0), k1, k2⟩

theorem bX11_write_31 {d : Nat} {Q : Option MV → MH → Prop} {h : MH} {u0 u1 u2 u3 u4 : Option MV} (k : Q (some (.inr (.inl (-6 : Int64)))) h) : J mX11_write d 0 0 Q 0 0 31 [u0, u1, u2, u3, u4] [] h := by
  refine zrun 17 1 qX11_write (o := 11) rfl ?_
  show J mX11_write d 0 0 Q 0 0 34 [u0, u1, u2, u3, u4] [.inr (.inl (-6 : Int64))] h
  exact J_lret (zat qX11_write 18 (by rfl)) rfl (Nat.le_refl 0) (Nat.le_refl 0) k

theorem bX11_write_35 {d d' : Nat} {Q : Option MV → MH → Prop} {h : MH} {u3 u4 : Option MV} {v2 v1 : Int32} (hr : zRf h) (g0 : vp_in v1 4) (hd : d' + 1 ≤ d) (k : Con mX11_within d' 0 0 [.inr (.inl v2.toInt64), .inr (.inl (lN 0)), .inr (.inl (((h.1 141 v1.toNatClampNeg) - (nI 1)).toInt64))] h (zri fun (x : Int32) h' => J mX11_write d 0 0 Q 0 0 50 [some (.inr (.inr 111)), some (.inl v1), some (.inl v2), u3, u4] [.inl x] h')) : J mX11_write d 0 0 Q 0 0 35 [some (.inr (.inr 111)), some (.inl v1), some (.inl v2), u3, u4] [] h := by
  refine zrun 19 10 qX11_write (o := 11) rfl ?_
  show zokO h 111 11 ∧ zokA h (h.2.2.1 111 54) 20 v1 ∧ J mX11_write d 0 0 Q 0 0 47 [some (.inr (.inr 111)), some (.inl v1), some (.inl v2), u3, u4] [.inr (.inl (((h.1 (h.2.2.1 111 54) v1.toNatClampNeg) - (nI 1)).toInt64)), .inr (.inl (lN 0)), .inr (.inl v2.toInt64)] h
  rw [(show h.2.2.1 111 54 = 141 from (hr.at (by decide) (by decide) (by rfl)))]
  exact ⟨(zo hr (by decide) rfl), (zia hr (by decide) (by rfl) g0), zcSi (as := [.inr (.inl v2.toInt64), .inr (.inl (lN 0)), .inr (.inl (((h.1 141 v1.toNatClampNeg) - (nI 1)).toInt64))]) (zat qX11_write 29 (by rfl)) l11_178 rfl hd rfl (Nat.le_of_ble_eq_true rfl) zle0 k⟩

theorem bX11_write_50 {d : Nat} {Q : Option MV → MH → Prop} {h : MH} {u0 u1 u2 u3 u4 : Option MV} {vs0 : Int32} (k1 : ¬ vs0 = 0 → J mX11_write d 0 0 Q 0 0 57 [u0, u1, u2, u3, u4] [] h) (k2 : vs0 = 0 → J mX11_write d 0 0 Q 0 0 53 [u0, u1, u2, u3, u4] [] h) : J mX11_write d 0 0 Q 0 0 50 [u0, u1, u2, u3, u4] [.inl vs0] h := by
  refine zrun 30 1 qX11_write (o := 11) rfl ?_
  show ((¬ vs0 = 0 → J mX11_write d 0 0 Q 0 0 57 [u0, u1, u2, u3, u4] [] h) ∧ (vs0 = 0 → J mX11_write d 0 0 Q 0 0 53 [u0, u1, u2, u3, u4] [] h))
  exact ⟨k1, k2⟩

theorem bX11_write_53 {d : Nat} {Q : Option MV → MH → Prop} {h : MH} {u0 u1 u2 u3 u4 : Option MV} (k : Q (some (.inr (.inl (-7 : Int64)))) h) : J mX11_write d 0 0 Q 0 0 53 [u0, u1, u2, u3, u4] [] h := by
  refine zrun 31 1 qX11_write (o := 11) rfl ?_
  show J mX11_write d 0 0 Q 0 0 56 [u0, u1, u2, u3, u4] [.inr (.inl (-7 : Int64))] h
  exact J_lret (zat qX11_write 32 (by rfl)) rfl (Nat.le_refl 0) (Nat.le_refl 0) k

theorem bX11_write_57 {d d' : Nat} {Q : Option MV → MH → Prop} {h : MH} {u4 : Option MV} {v1 v2 : Int32} {v3 : Int64} (hr : zRf h) (g0 : vp_in v1 4) (hd : d' + 1 ≤ d) (k : Con mX11_cut d' 0 0 [.inr (.inl v3), .inl (h.1 140 v1.toNatClampNeg)] h (zrl fun (x : Int64) h' => J mX11_write d 0 0 Q 0 0 77 [some (.inr (.inr 111)), some (.inl v1), some (.inl v2), some (.inr (.inl v3)), u4] [.inr (.inl x), .inl (((nI 40) * v1) + v2), .inr (.inr 142)] h')) : J mX11_write d 0 0 Q 0 0 57 [some (.inr (.inr 111)), some (.inl v1), some (.inl v2), some (.inr (.inl v3)), u4] [] h := by
  refine zrun 33 12 qX11_write (o := 11) rfl ?_
  show zokO h 111 11 ∧ zokO h 111 11 ∧ zokA h (h.2.2.1 111 53) 20 v1 ∧ J mX11_write d 0 0 Q 0 0 74 [some (.inr (.inr 111)), some (.inl v1), some (.inl v2), some (.inr (.inl v3)), u4] [.inl (h.1 (h.2.2.1 111 53) v1.toNatClampNeg), .inr (.inl v3), .inl (((nI 40) * v1) + v2), .inr (.inr (h.2.2.1 111 55))] h
  rw [(show h.2.2.1 111 55 = 142 from (hr.at (by decide) (by decide) (by rfl))), (show h.2.2.1 111 53 = 140 from (hr.at (by decide) (by decide) (by rfl)))]
  exact ⟨(zo hr (by decide) rfl), (zo hr (by decide) rfl), (zia hr (by decide) (by rfl) g0), zcSl (as := [.inr (.inl v3), .inl (h.1 140 v1.toNatClampNeg)]) (zat qX11_write 45 (by rfl)) l11_399 rfl hd rfl (Nat.le_of_ble_eq_true rfl) zle0 k⟩

theorem bX11_write_77 {d : Nat} {Q : Option MV → MH → Prop} {h : MH} {u3 u4 : Option MV} {vs1 v1 v2 : Int32} {vs2 : Int64} {vs0 : Nat} (hr : zRf h) (g0 : zokA h vs0 21 vs1) (g1 : vp_in (((nI 40) * v1) + v2) 160) (k : Q (some (.inr (.inl ((zsL h vs0 vs1.toNatClampNeg vs2).2.1 142 (((nI 40) * v1) + v2).toNatClampNeg)))) (zsL h vs0 vs1.toNatClampNeg vs2)) : J mX11_write d 0 0 Q 0 0 77 [some (.inr (.inr 111)), some (.inl v1), some (.inl v2), u3, u4] [.inr (.inl vs2), .inl vs1, .inr (.inr vs0)] h := by
  refine zrun 46 9 qX11_write (o := 11) rfl ?_
  show zokA h vs0 21 vs1 ∧ zokO (zsL h vs0 vs1.toNatClampNeg vs2) 111 11 ∧ zokA (zsL h vs0 vs1.toNatClampNeg vs2) (h.2.2.1 111 55) 21 (((nI 40) * v1) + v2) ∧ J mX11_write d 0 0 Q 0 0 89 [some (.inr (.inr 111)), some (.inl v1), some (.inl v2), u3, u4] [.inr (.inl ((zsL h vs0 vs1.toNatClampNeg vs2).2.1 (h.2.2.1 111 55) (((nI 40) * v1) + v2).toNatClampNeg))] (zsL h vs0 vs1.toNatClampNeg vs2)
  rw [(show h.2.2.1 111 55 = 142 from (hr.at (by decide) (by decide) (by rfl)))]
  exact ⟨g0, (zo hr (by decide) rfl), (zia hr (by decide) (by rfl) g1), J_lret (zat qX11_write 55 (by rfl)) rfl (Nat.le_refl 0) (Nat.le_refl 0) k⟩

theorem bX11_copy_0 {d d' : Nat} {Q : Option MV → MH → Prop} {h : MH} {u2 u3 : Option MV} {v1 : Int32} (hr : zRf h) (hd : d' + 1 ≤ d) (k : Con mX11_isPlan d' 0 0 [.inl v1] (zsI h 111 0 (nI 0)) (zri fun (x : Int32) h' => J mX11_copy d 0 0 Q 0 0 9 [some (.inr (.inr 111)), some (.inl v1), u2, u3] [.inl x] h')) : J mX11_copy d 0 0 Q 0 0 0 [some (.inr (.inr 111)), some (.inl v1), u2, u3] [] h := by
  refine zrun 0 4 qX11_copy (o := 11) rfl ?_
  show zokO h 111 11 ∧ J mX11_copy d 0 0 Q 0 0 6 [some (.inr (.inr 111)), some (.inl v1), u2, u3] [.inl v1] (zsI h 111 0 (nI 0))
  exact ⟨(zo hr (by decide) rfl), zcSi (as := [.inl v1]) (zat qX11_copy 4 (by rfl)) l11_261 rfl hd rfl (Nat.le_of_ble_eq_true rfl) zle0 k⟩

theorem bX11_copy_9 {d : Nat} {Q : Option MV → MH → Prop} {h : MH} {u0 u1 u2 u3 : Option MV} {vs0 : Int32} (k1 : vs0 = 0 → J mX11_copy d 0 0 Q 0 0 24 [u0, u1, u2, u3] [] h) (k2 : ¬ vs0 = 0 → J mX11_copy d 0 0 Q 0 0 12 [u0, u1, u2, u3] [] h) : J mX11_copy d 0 0 Q 0 0 9 [u0, u1, u2, u3] [.inl vs0] h := by
  refine zrun 5 1 qX11_copy (o := 11) rfl ?_
  show ((vs0 = 0 → J mX11_copy d 0 0 Q 0 0 24 [u0, u1, u2, u3] [] h) ∧ (¬ vs0 = 0 → J mX11_copy d 0 0 Q 0 0 12 [u0, u1, u2, u3] [] h))
  exact ⟨k1, k2⟩

theorem bX11_copy_12 {d d' : Nat} {Q : Option MV → MH → Prop} {h : MH} {u0 u1 u3 : Option MV} {v2 : Int32} (hd : d' + 1 ≤ d) (k : Con mX11_within d' 0 0 [.inr (.inl v2.toInt64), .inr (.inl (lN 0)), .inr (.inl (3 : Int64))] h (zri fun (x : Int32) h' => J mX11_copy d 0 0 Q 0 0 21 [u0, u1, some (.inl v2), u3] [.inl x] h')) : J mX11_copy d 0 0 Q 0 0 12 [u0, u1, some (.inl v2), u3] [] h := by
  refine zrun 6 4 qX11_copy (o := 11) rfl ?_
  show J mX11_copy d 0 0 Q 0 0 18 [u0, u1, some (.inl v2), u3] [.inr (.inl (3 : Int64)), .inr (.inl (lN 0)), .inr (.inl v2.toInt64)] h
  exact zcSi (as := [.inr (.inl v2.toInt64), .inr (.inl (lN 0)), .inr (.inl (3 : Int64))]) (zat qX11_copy 10 (by rfl)) l11_178 rfl hd rfl (Nat.le_of_ble_eq_true rfl) zle0 k

theorem bX11_copy_21 {d : Nat} {Q : Option MV → MH → Prop} {h : MH} {u0 u1 u2 u3 : Option MV} {vs0 : Int32} (k1 : ¬ vs0 = 0 → J mX11_copy d 0 0 Q 0 0 27 [u0, u1, u2, u3] [] h) (k2 : vs0 = 0 → J mX11_copy d 0 0 Q 0 0 24 [u0, u1, u2, u3] [] h) : J mX11_copy d 0 0 Q 0 0 21 [u0, u1, u2, u3] [.inl vs0] h := by
  refine zrun 11 1 qX11_copy (o := 11) rfl ?_
  show ((¬ vs0 = 0 → J mX11_copy d 0 0 Q 0 0 27 [u0, u1, u2, u3] [] h) ∧ (vs0 = 0 → J mX11_copy d 0 0 Q 0 0 24 [u0, u1, u2, u3] [] h))
  exact ⟨k1, k2⟩

theorem bX11_copy_24 {d : Nat} {Q : Option MV → MH → Prop} {h : MH} {u0 u1 u2 u3 : Option MV} (k : Q (some (.inl (-(nI 2)))) h) : J mX11_copy d 0 0 Q 0 0 24 [u0, u1, u2, u3] [] h := by
  refine zrun 12 1 qX11_copy (o := 11) rfl ?_
  show J mX11_copy d 0 0 Q 0 0 26 [u0, u1, u2, u3] [.inl (-(nI 2))] h
  exact J_iret (ty := .int) (zat qX11_copy 13 (by rfl)) rfl rfl (Nat.le_refl 0) (Nat.le_refl 0) k

theorem bX11_copy_27 {d : Nat} {Q : Option MV → MH → Prop} {h : MH} {u1 u3 : Option MV} {v2 : Int32} (hr : zRf h) (g0 : vp_in v2 4) (k1 : ¬ (h.1 140 v2.toNatClampNeg) = (-(nI 1)) → J mX11_copy d 0 0 Q 0 0 40 [some (.inr (.inr 111)), u1, some (.inl v2), u3] [] h) (k2 : (h.1 140 v2.toNatClampNeg) = (-(nI 1)) → J mX11_copy d 0 0 Q 0 0 37 [some (.inr (.inr 111)), u1, some (.inl v2), u3] [] h) : J mX11_copy d 0 0 Q 0 0 27 [some (.inr (.inr 111)), u1, some (.inl v2), u3] [] h := by
  refine zrun 14 6 qX11_copy (o := 11) rfl ?_
  show zokO h 111 11 ∧ zokA h (h.2.2.1 111 53) 20 v2 ∧ ((¬ (h.1 (h.2.2.1 111 53) v2.toNatClampNeg) = (-(nI 1)) → J mX11_copy d 0 0 Q 0 0 40 [some (.inr (.inr 111)), u1, some (.inl v2), u3] [] h) ∧ ((h.1 (h.2.2.1 111 53) v2.toNatClampNeg) = (-(nI 1)) → J mX11_copy d 0 0 Q 0 0 37 [some (.inr (.inr 111)), u1, some (.inl v2), u3] [] h))
  rw [(show h.2.2.1 111 53 = 140 from (hr.at (by decide) (by decide) (by rfl)))]
  exact ⟨(zo hr (by decide) rfl), (zia hr (by decide) (by rfl) g0), k1, k2⟩

theorem bX11_copy_37 {d : Nat} {Q : Option MV → MH → Prop} {h : MH} {u0 u1 u2 u3 : Option MV} (k : Q (some (.inl (-(nI 6)))) h) : J mX11_copy d 0 0 Q 0 0 37 [u0, u1, u2, u3] [] h := by
  refine zrun 20 1 qX11_copy (o := 11) rfl ?_
  show J mX11_copy d 0 0 Q 0 0 39 [u0, u1, u2, u3] [.inl (-(nI 6))] h
  exact J_iret (ty := .int) (zat qX11_copy 21 (by rfl)) rfl rfl (Nat.le_refl 0) (Nat.le_refl 0) k

theorem bX11_copy_40 {d d' : Nat} {Q : Option MV → MH → Prop} {h : MH} {u2 u3 : Option MV} {v1 : Int32} (hr : zRf h) (hd : d' + 1 ≤ d) (k : Con mX11_hears d' 0 0 [.inr (.inr 111), .inl v1] h (zrv fun h' => J mX11_copy d 0 0 Q 0 0 45 [some (.inr (.inr 111)), some (.inl v1), u2, u3] [] h')) : J mX11_copy d 0 0 Q 0 0 40 [some (.inr (.inr 111)), some (.inl v1), u2, u3] [] h := by
  refine zrun 22 2 qX11_copy (o := 11) rfl ?_
  show J mX11_copy d 0 0 Q 0 0 42 [some (.inr (.inr 111)), some (.inl v1), u2, u3] [.inl v1, .inr (.inr 111)] h
  exact zcVv (as := [.inl v1]) (zat qX11_copy 24 (by rfl)) l11_281 rfl hd rfl (Nat.le_of_ble_eq_true rfl) zle0 (ci := 11) (by decide) rfl (zo hr (by decide) rfl) k

theorem bX11_copy_45 {d : Nat} {Q : Option MV → MH → Prop} {h : MH} {u1 u3 : Option MV} {v2 : Int32} (hr : zRf h) (g0 : vp_in v2 4) (k1 : (h.1 111 32) ≤ (h.1 141 v2.toNatClampNeg) → J mX11_copy d 0 0 Q 0 0 61 [some (.inr (.inr 111)), u1, some (.inl v2), u3] [] h) (k2 : ¬ (h.1 111 32) ≤ (h.1 141 v2.toNatClampNeg) → J mX11_copy d 0 0 Q 0 0 58 [some (.inr (.inr 111)), u1, some (.inl v2), u3] [] h) : J mX11_copy d 0 0 Q 0 0 45 [some (.inr (.inr 111)), u1, some (.inl v2), u3] [] h := by
  refine zrun 25 7 qX11_copy (o := 11) rfl ?_
  show zokO h 111 11 ∧ zokA h (h.2.2.1 111 54) 20 v2 ∧ zokO h 111 11 ∧ (((h.1 111 32) ≤ (h.1 (h.2.2.1 111 54) v2.toNatClampNeg) → J mX11_copy d 0 0 Q 0 0 61 [some (.inr (.inr 111)), u1, some (.inl v2), u3] [] h) ∧ (¬ (h.1 111 32) ≤ (h.1 (h.2.2.1 111 54) v2.toNatClampNeg) → J mX11_copy d 0 0 Q 0 0 58 [some (.inr (.inr 111)), u1, some (.inl v2), u3] [] h))
  rw [(show h.2.2.1 111 54 = 141 from (hr.at (by decide) (by decide) (by rfl)))]
  exact ⟨(zo hr (by decide) rfl), (zia hr (by decide) (by rfl) g0), (zo hr (by decide) rfl), k1, k2⟩

theorem bX11_copy_58 {d : Nat} {Q : Option MV → MH → Prop} {h : MH} {u0 u1 u2 u3 : Option MV} (k : Q (some (.inl (-(nI 7)))) h) : J mX11_copy d 0 0 Q 0 0 58 [u0, u1, u2, u3] [] h := by
  refine zrun 32 1 qX11_copy (o := 11) rfl ?_
  show J mX11_copy d 0 0 Q 0 0 60 [u0, u1, u2, u3] [.inl (-(nI 7))] h
  exact J_iret (ty := .int) (zat qX11_copy 33 (by rfl)) rfl rfl (Nat.le_refl 0) (Nat.le_refl 0) k

theorem bX11_copy_61 {d : Nat} {Q : Option MV → MH → Prop} {h : MH} {u0 u1 u3 : Option MV} {v2 : Int32} (k : J mX11_copy d 0 0 Q 0 0 63 [u0, u1, some (.inl v2), some (.inl (nI 0))] [] h) : J mX11_copy d 0 0 Q 0 0 61 [u0, u1, some (.inl v2), u3] [] h := by
  refine zrun 34 2 qX11_copy (o := 11) rfl ?_
  show J mX11_copy d 0 0 Q 0 0 63 [u0, u1, some (.inl v2), some (.inl (nI 0))] [] h
  exact k

theorem bX11_copy_63 {d : Nat} {Q : Option MV → MH → Prop} {h : MH} {u1 u2 : Option MV} {v3 : Int32} (hr : zRf h) (k1 : (h.1 111 32) ≤ v3 → J mX11_copy d 0 0 Q 0 0 104 [some (.inr (.inr 111)), u1, u2, some (.inl v3)] [] h) (k2 : ¬ (h.1 111 32) ≤ v3 → J mX11_copy d 0 0 Q 0 0 71 [some (.inr (.inr 111)), u1, u2, some (.inl v3)] [] h) : J mX11_copy d 0 0 Q 0 0 63 [some (.inr (.inr 111)), u1, u2, some (.inl v3)] [] h := by
  refine zrun 36 4 qX11_copy (o := 11) rfl ?_
  show zokO h 111 11 ∧ (((h.1 111 32) ≤ v3 → J mX11_copy d 0 0 Q 0 0 104 [some (.inr (.inr 111)), u1, u2, some (.inl v3)] [] h) ∧ (¬ (h.1 111 32) ≤ v3 → J mX11_copy d 0 0 Q 0 0 71 [some (.inr (.inr 111)), u1, u2, some (.inl v3)] [] h))
  exact ⟨(zo hr (by decide) rfl), k1, k2⟩

theorem bX11_copy_71 {d d' : Nat} {Q : Option MV → MH → Prop} {h : MH} {u1 : Option MV} {v2 v3 : Int32} (hr : zRf h) (g0 : vp_in v3 40) (g1 : vp_in v2 4) (hd : d' + 1 ≤ d) (k : Con mX11_cut d' 0 0 [.inr (.inl ((h.1 126 v3.toNatClampNeg).toInt64)), .inl (h.1 140 v2.toNatClampNeg)] h (zrl fun (x : Int64) h' => J mX11_copy d 0 0 Q 0 0 97 [some (.inr (.inr 111)), u1, some (.inl v2), some (.inl v3)] [.inr (.inl x), .inl (((nI 40) * v2) + v3), .inr (.inr 142)] h')) : J mX11_copy d 0 0 Q 0 0 71 [some (.inr (.inr 111)), u1, some (.inl v2), some (.inl v3)] [] h := by
  refine zrun 40 16 qX11_copy (o := 11) rfl ?_
  show zokO h 111 11 ∧ zokO h 111 11 ∧ zokA h (h.2.2.1 111 31) 20 v3 ∧ zokO h 111 11 ∧ zokA h (h.2.2.1 111 53) 20 v2 ∧ J mX11_copy d 0 0 Q 0 0 94 [some (.inr (.inr 111)), u1, some (.inl v2), some (.inl v3)] [.inl (h.1 (h.2.2.1 111 53) v2.toNatClampNeg), .inr (.inl ((h.1 (h.2.2.1 111 31) v3.toNatClampNeg).toInt64)), .inl (((nI 40) * v2) + v3), .inr (.inr (h.2.2.1 111 55))] h
  rw [(show h.2.2.1 111 55 = 142 from (hr.at (by decide) (by decide) (by rfl))), (show h.2.2.1 111 31 = 126 from (hr.at (by decide) (by decide) (by rfl))), (show h.2.2.1 111 53 = 140 from (hr.at (by decide) (by decide) (by rfl)))]
  exact ⟨(zo hr (by decide) rfl), (zo hr (by decide) rfl), (zia hr (by decide) (by rfl) g0), (zo hr (by decide) rfl), (zia hr (by decide) (by rfl) g1), zcSl (as := [.inr (.inl ((h.1 126 v3.toNatClampNeg).toInt64)), .inl (h.1 140 v2.toNatClampNeg)]) (zat qX11_copy 56 (by rfl)) l11_399 rfl hd rfl (Nat.le_of_ble_eq_true rfl) zle0 k⟩

theorem bX11_copy_97 {d : Nat} {Q : Option MV → MH → Prop} {h : MH} {u0 u1 : Option MV} {vs1 v3 v2 : Int32} {vs2 : Int64} {vs0 : Nat} (g0 : zokA h vs0 21 vs1) (k : J mX11_copy d 0 0 Q 0 0 63 [u0, u1, some (.inl v2), some (.inl (v3 + nI 1))] [] (zsL h vs0 vs1.toNatClampNeg vs2)) : J mX11_copy d 0 0 Q 0 0 97 [u0, u1, some (.inl v2), some (.inl v3)] [.inr (.inl vs2), .inl vs1, .inr (.inr vs0)] h := by
  refine zrun 57 3 qX11_copy (o := 11) rfl ?_
  show zokA h vs0 21 vs1 ∧ J mX11_copy d 0 0 Q 0 0 63 [u0, u1, some (.inl v2), some (.inl (v3 + nI 1))] [] (zsL h vs0 vs1.toNatClampNeg vs2)
  exact ⟨g0, k⟩

theorem bX11_copy_104 {d : Nat} {Q : Option MV → MH → Prop} {h : MH} {u1 u2 u3 : Option MV} (hr : zRf h) (k : Q (some (.inl (h.1 111 32))) h) : J mX11_copy d 0 0 Q 0 0 104 [some (.inr (.inr 111)), u1, u2, u3] [] h := by
  refine zrun 60 2 qX11_copy (o := 11) rfl ?_
  show zokO h 111 11 ∧ J mX11_copy d 0 0 Q 0 0 108 [some (.inr (.inr 111)), u1, u2, u3] [.inl (h.1 111 32)] h
  exact ⟨(zo hr (by decide) rfl), J_iret (ty := .int) (zat qX11_copy 62 (by rfl)) rfl rfl (Nat.le_refl 0) (Nat.le_refl 0) k⟩

theorem bX11_image_0 {d d' : Nat} {Q : Option MV → MH → Prop} {h : MH} {u2 : Option MV} {v1 : Int32} (hr : zRf h) (hd : d' + 1 ≤ d) (k : Con mX11_within d' 0 0 [.inr (.inl v1.toInt64), .inr (.inl (lN 0)), .inr (.inl (lN 1))] (zsI h 111 0 (nI 0)) (zri fun (x : Int32) h' => J mX11_image d 0 0 Q 0 0 12 [some (.inr (.inr 111)), some (.inl v1), u2] [.inl x] h')) : J mX11_image d 0 0 Q 0 0 0 [some (.inr (.inr 111)), some (.inl v1), u2] [] h := by
  refine zrun 0 7 qX11_image (o := 11) rfl ?_
  show zokO h 111 11 ∧ J mX11_image d 0 0 Q 0 0 9 [some (.inr (.inr 111)), some (.inl v1), u2] [.inr (.inl (lN 1)), .inr (.inl (lN 0)), .inr (.inl v1.toInt64)] (zsI h 111 0 (nI 0))
  exact ⟨(zo hr (by decide) rfl), zcSi (as := [.inr (.inl v1.toInt64), .inr (.inl (lN 0)), .inr (.inl (lN 1))]) (zat qX11_image 7 (by rfl)) l11_178 rfl hd rfl (Nat.le_of_ble_eq_true rfl) zle0 k⟩

theorem bX11_image_12 {d : Nat} {Q : Option MV → MH → Prop} {h : MH} {u0 u1 u2 : Option MV} {vs0 : Int32} (k1 : ¬ vs0 = 0 → J mX11_image d 0 0 Q 0 0 18 [u0, u1, u2] [] h) (k2 : vs0 = 0 → J mX11_image d 0 0 Q 0 0 15 [u0, u1, u2] [] h) : J mX11_image d 0 0 Q 0 0 12 [u0, u1, u2] [.inl vs0] h := by
  refine zrun 8 1 qX11_image (o := 11) rfl ?_
  show ((¬ vs0 = 0 → J mX11_image d 0 0 Q 0 0 18 [u0, u1, u2] [] h) ∧ (vs0 = 0 → J mX11_image d 0 0 Q 0 0 15 [u0, u1, u2] [] h))
  exact ⟨k1, k2⟩

theorem bX11_image_15 {d : Nat} {Q : Option MV → MH → Prop} {h : MH} {u0 u1 u2 : Option MV} (k : Q (some (.inl (-(nI 2)))) h) : J mX11_image d 0 0 Q 0 0 15 [u0, u1, u2] [] h := by
  refine zrun 9 1 qX11_image (o := 11) rfl ?_
  show J mX11_image d 0 0 Q 0 0 17 [u0, u1, u2] [.inl (-(nI 2))] h
  exact J_iret (ty := .int) (zat qX11_image 10 (by rfl)) rfl rfl (Nat.le_refl 0) (Nat.le_refl 0) k

theorem bX11_image_18 {d : Nat} {Q : Option MV → MH → Prop} {h : MH} {u0 u2 : Option MV} {v1 : Int32} (k : J mX11_image d 0 0 Q 0 0 20 [u0, some (.inl v1), some (.inl (nI 0))] [] h) : J mX11_image d 0 0 Q 0 0 18 [u0, some (.inl v1), u2] [] h := by
  refine zrun 11 2 qX11_image (o := 11) rfl ?_
  show J mX11_image d 0 0 Q 0 0 20 [u0, some (.inl v1), some (.inl (nI 0))] [] h
  exact k

theorem bX11_image_20 {d : Nat} {Q : Option MV → MH → Prop} {h : MH} {u0 u1 : Option MV} {v2 : Int32} (k1 : (nI 722) ≤ v2 → J mX11_image d 0 0 Q 0 0 53 [u0, u1, some (.inl v2)] [] h) (k2 : ¬ (nI 722) ≤ v2 → J mX11_image d 0 0 Q 0 0 27 [u0, u1, some (.inl v2)] [] h) : J mX11_image d 0 0 Q 0 0 20 [u0, u1, some (.inl v2)] [] h := by
  refine zrun 13 3 qX11_image (o := 11) rfl ?_
  show (((nI 722) ≤ v2 → J mX11_image d 0 0 Q 0 0 53 [u0, u1, some (.inl v2)] [] h) ∧ (¬ (nI 722) ≤ v2 → J mX11_image d 0 0 Q 0 0 27 [u0, u1, some (.inl v2)] [] h))
  exact ⟨k1, k2⟩

theorem bX11_image_27 {d : Nat} {Q : Option MV → MH → Prop} {h : MH} {v1 v2 : Int32} (hr : zRf h) (g0 : vp_in v2 2166) (g1 : vp_in (((nI 722) * (v1 + (nI 1))) + v2) 2166) (k : J mX11_image d 0 0 Q 0 0 20 [some (.inr (.inr 111)), some (.inl v1), some (.inl (v2 + nI 1))] [] (zsI h 112 (((nI 722) * (v1 + (nI 1))) + v2).toNatClampNeg (h.1 112 v2.toNatClampNeg))) : J mX11_image d 0 0 Q 0 0 27 [some (.inr (.inr 111)), some (.inl v1), some (.inl v2)] [] h := by
  refine zrun 16 16 qX11_image (o := 11) rfl ?_
  show zokO h 111 11 ∧ zokO h 111 11 ∧ zokA h (h.2.2.1 111 1) 20 v2 ∧ zokA h (h.2.2.1 111 1) 20 (((nI 722) * (v1 + (nI 1))) + v2) ∧ J mX11_image d 0 0 Q 0 0 20 [some (.inr (.inr 111)), some (.inl v1), some (.inl (v2 + nI 1))] [] (zsI h (h.2.2.1 111 1) (((nI 722) * (v1 + (nI 1))) + v2).toNatClampNeg (h.1 (h.2.2.1 111 1) v2.toNatClampNeg))
  rw [(show h.2.2.1 111 1 = 112 from (hr.at (by decide) (by decide) (by rfl)))]
  exact ⟨(zo hr (by decide) rfl), (zo hr (by decide) rfl), (zia hr (by decide) (by rfl) g0), (zia hr (by decide) (by rfl) g1), k⟩

theorem bX11_image_53 {d : Nat} {Q : Option MV → MH → Prop} {h : MH} {u2 : Option MV} {v1 : Int32} (hr : zRf h) (g0 : vp_in v1 2) (k : Q (some (.inl (nI 0))) (zsI h 113 v1.toNatClampNeg (nI 1))) : J mX11_image d 0 0 Q 0 0 53 [some (.inr (.inr 111)), some (.inl v1), u2] [] h := by
  refine zrun 32 6 qX11_image (o := 11) rfl ?_
  show zokO h 111 11 ∧ (zokA h (h.2.2.1 111 2) 22 v1 ∧ ((nI 1) = 0 ∨ (nI 1) = 1)) ∧ J mX11_image d 0 0 Q 0 0 61 [some (.inr (.inr 111)), some (.inl v1), u2] [.inl (nI 0)] (zsI h (h.2.2.1 111 2) v1.toNatClampNeg (nI 1))
  rw [(show h.2.2.1 111 2 = 113 from (hr.at (by decide) (by decide) (by rfl)))]
  exact ⟨(zo hr (by decide) rfl), ⟨(zia hr (by decide) (by rfl) g0), Or.inr rfl⟩, J_iret (ty := .int) (zat qX11_image 38 (by rfl)) rfl rfl (Nat.le_refl 0) (Nat.le_refl 0) k⟩

theorem bX11_restore_0 {d d' : Nat} {Q : Option MV → MH → Prop} {h : MH} {u2 : Option MV} {v1 : Int32} (hr : zRf h) (hd : d' + 1 ≤ d) (k : Con mX11_within d' 0 0 [.inr (.inl v1.toInt64), .inr (.inl (lN 0)), .inr (.inl (lN 1))] (zsI h 111 0 (nI 0)) (zri fun (x : Int32) h' => J mX11_restore d 0 0 Q 0 0 12 [some (.inr (.inr 111)), some (.inl v1), u2] [.inl x] h')) : J mX11_restore d 0 0 Q 0 0 0 [some (.inr (.inr 111)), some (.inl v1), u2] [] h := by
  refine zrun 0 7 qX11_restore (o := 11) rfl ?_
  show zokO h 111 11 ∧ J mX11_restore d 0 0 Q 0 0 9 [some (.inr (.inr 111)), some (.inl v1), u2] [.inr (.inl (lN 1)), .inr (.inl (lN 0)), .inr (.inl v1.toInt64)] (zsI h 111 0 (nI 0))
  exact ⟨(zo hr (by decide) rfl), zcSi (as := [.inr (.inl v1.toInt64), .inr (.inl (lN 0)), .inr (.inl (lN 1))]) (zat qX11_restore 7 (by rfl)) l11_178 rfl hd rfl (Nat.le_of_ble_eq_true rfl) zle0 k⟩

theorem bX11_restore_12 {d : Nat} {Q : Option MV → MH → Prop} {h : MH} {u0 u1 u2 : Option MV} {vs0 : Int32} (k1 : ¬ vs0 = 0 → J mX11_restore d 0 0 Q 0 0 18 [u0, u1, u2] [] h) (k2 : vs0 = 0 → J mX11_restore d 0 0 Q 0 0 15 [u0, u1, u2] [] h) : J mX11_restore d 0 0 Q 0 0 12 [u0, u1, u2] [.inl vs0] h := by
  refine zrun 8 1 qX11_restore (o := 11) rfl ?_
  show ((¬ vs0 = 0 → J mX11_restore d 0 0 Q 0 0 18 [u0, u1, u2] [] h) ∧ (vs0 = 0 → J mX11_restore d 0 0 Q 0 0 15 [u0, u1, u2] [] h))
  exact ⟨k1, k2⟩

theorem bX11_restore_15 {d : Nat} {Q : Option MV → MH → Prop} {h : MH} {u0 u1 u2 : Option MV} (k : Q (some (.inl (-(nI 2)))) h) : J mX11_restore d 0 0 Q 0 0 15 [u0, u1, u2] [] h := by
  refine zrun 9 1 qX11_restore (o := 11) rfl ?_
  show J mX11_restore d 0 0 Q 0 0 17 [u0, u1, u2] [.inl (-(nI 2))] h
  exact J_iret (ty := .int) (zat qX11_restore 10 (by rfl)) rfl rfl (Nat.le_refl 0) (Nat.le_refl 0) k

theorem bX11_restore_18 {d : Nat} {Q : Option MV → MH → Prop} {h : MH} {u2 : Option MV} {v1 : Int32} (hr : zRf h) (g0 : vp_in v1 2) (k1 : ¬ (h.1 113 v1.toNatClampNeg) = 0 → J mX11_restore d 0 0 Q 0 0 30 [some (.inr (.inr 111)), some (.inl v1), u2] [] h) (k2 : (h.1 113 v1.toNatClampNeg) = 0 → J mX11_restore d 0 0 Q 0 0 27 [some (.inr (.inr 111)), some (.inl v1), u2] [] h) : J mX11_restore d 0 0 Q 0 0 18 [some (.inr (.inr 111)), some (.inl v1), u2] [] h := by
  refine zrun 11 5 qX11_restore (o := 11) rfl ?_
  show zokO h 111 11 ∧ zokA h (h.2.2.1 111 2) 22 v1 ∧ ((¬ (h.1 (h.2.2.1 111 2) v1.toNatClampNeg) = 0 → J mX11_restore d 0 0 Q 0 0 30 [some (.inr (.inr 111)), some (.inl v1), u2] [] h) ∧ ((h.1 (h.2.2.1 111 2) v1.toNatClampNeg) = 0 → J mX11_restore d 0 0 Q 0 0 27 [some (.inr (.inr 111)), some (.inl v1), u2] [] h))
  rw [(show h.2.2.1 111 2 = 113 from (hr.at (by decide) (by decide) (by rfl)))]
  exact ⟨(zo hr (by decide) rfl), (zia hr (by decide) (by rfl) g0), k1, k2⟩

theorem bX11_restore_27 {d : Nat} {Q : Option MV → MH → Prop} {h : MH} {u0 u1 u2 : Option MV} (k : Q (some (.inl (-(nI 5)))) h) : J mX11_restore d 0 0 Q 0 0 27 [u0, u1, u2] [] h := by
  refine zrun 16 1 qX11_restore (o := 11) rfl ?_
  show J mX11_restore d 0 0 Q 0 0 29 [u0, u1, u2] [.inl (-(nI 5))] h
  exact J_iret (ty := .int) (zat qX11_restore 17 (by rfl)) rfl rfl (Nat.le_refl 0) (Nat.le_refl 0) k

theorem bX11_restore_30 {d : Nat} {Q : Option MV → MH → Prop} {h : MH} {u0 u2 : Option MV} {v1 : Int32} (k : J mX11_restore d 0 0 Q 0 0 32 [u0, some (.inl v1), some (.inl (nI 0))] [] h) : J mX11_restore d 0 0 Q 0 0 30 [u0, some (.inl v1), u2] [] h := by
  refine zrun 18 2 qX11_restore (o := 11) rfl ?_
  show J mX11_restore d 0 0 Q 0 0 32 [u0, some (.inl v1), some (.inl (nI 0))] [] h
  exact k

theorem bX11_restore_32 {d : Nat} {Q : Option MV → MH → Prop} {h : MH} {u0 u1 : Option MV} {v2 : Int32} (k1 : (nI 722) ≤ v2 → J mX11_restore d 0 0 Q 0 0 65 [u0, u1, some (.inl v2)] [] h) (k2 : ¬ (nI 722) ≤ v2 → J mX11_restore d 0 0 Q 0 0 39 [u0, u1, some (.inl v2)] [] h) : J mX11_restore d 0 0 Q 0 0 32 [u0, u1, some (.inl v2)] [] h := by
  refine zrun 20 3 qX11_restore (o := 11) rfl ?_
  show (((nI 722) ≤ v2 → J mX11_restore d 0 0 Q 0 0 65 [u0, u1, some (.inl v2)] [] h) ∧ (¬ (nI 722) ≤ v2 → J mX11_restore d 0 0 Q 0 0 39 [u0, u1, some (.inl v2)] [] h))
  exact ⟨k1, k2⟩

theorem bX11_restore_39 {d : Nat} {Q : Option MV → MH → Prop} {h : MH} {v2 v1 : Int32} (hr : zRf h) (g0 : vp_in (((nI 722) * (v1 + (nI 1))) + v2) 2166) (g1 : vp_in v2 2166) (k : J mX11_restore d 0 0 Q 0 0 32 [some (.inr (.inr 111)), some (.inl v1), some (.inl (v2 + nI 1))] [] (zsI h 112 v2.toNatClampNeg (h.1 112 (((nI 722) * (v1 + (nI 1))) + v2).toNatClampNeg))) : J mX11_restore d 0 0 Q 0 0 39 [some (.inr (.inr 111)), some (.inl v1), some (.inl v2)] [] h := by
  refine zrun 23 16 qX11_restore (o := 11) rfl ?_
  show zokO h 111 11 ∧ zokO h 111 11 ∧ zokA h (h.2.2.1 111 1) 20 (((nI 722) * (v1 + (nI 1))) + v2) ∧ zokA h (h.2.2.1 111 1) 20 v2 ∧ J mX11_restore d 0 0 Q 0 0 32 [some (.inr (.inr 111)), some (.inl v1), some (.inl (v2 + nI 1))] [] (zsI h (h.2.2.1 111 1) v2.toNatClampNeg (h.1 (h.2.2.1 111 1) (((nI 722) * (v1 + (nI 1))) + v2).toNatClampNeg))
  rw [(show h.2.2.1 111 1 = 112 from (hr.at (by decide) (by decide) (by rfl)))]
  exact ⟨(zo hr (by decide) rfl), (zo hr (by decide) rfl), (zia hr (by decide) (by rfl) g0), (zia hr (by decide) (by rfl) g1), k⟩

theorem bX11_restore_65 {d : Nat} {Q : Option MV → MH → Prop} {h : MH} {u0 u1 u2 : Option MV} (k : Q (some (.inl (nI 0))) h) : J mX11_restore d 0 0 Q 0 0 65 [u0, u1, u2] [] h := by
  refine zrun 39 1 qX11_restore (o := 11) rfl ?_
  show J mX11_restore d 0 0 Q 0 0 66 [u0, u1, u2] [.inl (nI 0)] h
  exact J_iret (ty := .int) (zat qX11_restore 40 (by rfl)) rfl rfl (Nat.le_refl 0) (Nat.le_refl 0) k

theorem bX11_count_0 {d d' : Nat} {Q : Option MV → MH → Prop} {h : MH} {u2 u3 : Option MV} {v1 : Int32} (hr : zRf h) (hd : d' + 1 ≤ d) (k : Con mX11_within d' 0 0 [.inr (.inl v1.toInt64), .inr (.inl (lN 1)), .inr (.inl (4 : Int64))] (zsI h 111 0 (nI 0)) (zri fun (x : Int32) h' => J mX11_count d 0 0 Q 0 0 14 [some (.inr (.inr 111)), some (.inl v1), u2, u3] [.inl x] h')) : J mX11_count d 0 0 Q 0 0 0 [some (.inr (.inr 111)), some (.inl v1), u2, u3] [] h := by
  refine zrun 0 7 qX11_count (o := 11) rfl ?_
  show zokO h 111 11 ∧ J mX11_count d 0 0 Q 0 0 11 [some (.inr (.inr 111)), some (.inl v1), u2, u3] [.inr (.inl (4 : Int64)), .inr (.inl (lN 1)), .inr (.inl v1.toInt64)] (zsI h 111 0 (nI 0))
  exact ⟨(zo hr (by decide) rfl), zcSi (as := [.inr (.inl v1.toInt64), .inr (.inl (lN 1)), .inr (.inl (4 : Int64))]) (zat qX11_count 7 (by rfl)) l11_178 rfl hd rfl (Nat.le_of_ble_eq_true rfl) zle0 k⟩

theorem bX11_count_14 {d : Nat} {Q : Option MV → MH → Prop} {h : MH} {u0 u1 u2 u3 : Option MV} {vs0 : Int32} (k1 : vs0 = 0 → J mX11_count d 0 0 Q 0 0 32 [u0, u1, u2, u3] [] h) (k2 : ¬ vs0 = 0 → J mX11_count d 0 0 Q 0 0 17 [u0, u1, u2, u3] [] h) : J mX11_count d 0 0 Q 0 0 14 [u0, u1, u2, u3] [.inl vs0] h := by
  refine zrun 8 1 qX11_count (o := 11) rfl ?_
  show ((vs0 = 0 → J mX11_count d 0 0 Q 0 0 32 [u0, u1, u2, u3] [] h) ∧ (¬ vs0 = 0 → J mX11_count d 0 0 Q 0 0 17 [u0, u1, u2, u3] [] h))
  exact ⟨k1, k2⟩

theorem bX11_count_17 {d d' : Nat} {Q : Option MV → MH → Prop} {h : MH} {u2 u3 : Option MV} {v1 : Int32} (hr : zRf h) (hd : d' + 1 ≤ d) (k : Con mX11_planAt d' 0 0 [.inl (v1 - (nI 1))] h (zri fun (x : Int32) h' => J mX11_count d 0 0 Q 0 0 29 [some (.inr (.inr 111)), some (.inl v1), u2, u3] [.inl x, .inl (nI 74), .inr (.inr 112)] h')) : J mX11_count d 0 0 Q 0 0 17 [some (.inr (.inr 111)), some (.inl v1), u2, u3] [] h := by
  refine zrun 9 6 qX11_count (o := 11) rfl ?_
  show zokO h 111 11 ∧ J mX11_count d 0 0 Q 0 0 26 [some (.inr (.inr 111)), some (.inl v1), u2, u3] [.inl (v1 - (nI 1)), .inl (nI 74), .inr (.inr (h.2.2.1 111 1))] h
  rw [(show h.2.2.1 111 1 = 112 from (hr.at (by decide) (by decide) (by rfl)))]
  exact ⟨(zo hr (by decide) rfl), zcSi (as := [.inl (v1 - (nI 1))]) (zat qX11_count 15 (by rfl)) l11_215 rfl hd rfl (Nat.le_of_ble_eq_true rfl) zle0 k⟩

theorem bX11_count_29 {d : Nat} {Q : Option MV → MH → Prop} {h : MH} {u0 u1 u2 u3 : Option MV} {vs1 vs2 : Int32} {vs0 : Nat} (g0 : zokA h vs0 20 (vs1 + vs2)) (k : Q (some (.inl (h.1 vs0 (vs1 + vs2).toNatClampNeg))) h) : J mX11_count d 0 0 Q 0 0 29 [u0, u1, u2, u3] [.inl vs2, .inl vs1, .inr (.inr vs0)] h := by
  refine zrun 16 2 qX11_count (o := 11) rfl ?_
  show zokA h vs0 20 (vs1 + vs2) ∧ J mX11_count d 0 0 Q 0 0 31 [u0, u1, u2, u3] [.inl (h.1 vs0 (vs1 + vs2).toNatClampNeg)] h
  exact ⟨g0, J_iret (ty := .int) (zat qX11_count 18 (by rfl)) rfl rfl (Nat.le_refl 0) (Nat.le_refl 0) k⟩

theorem bX11_count_32 {d : Nat} {Q : Option MV → MH → Prop} {h : MH} {u0 u2 u3 : Option MV} {v1 : Int32} (k : J mX11_count d 0 0 Q 0 0 36 [u0, some (.inl v1), some (.inl (nI 0)), some (.inl (nI 0))] [] h) : J mX11_count d 0 0 Q 0 0 32 [u0, some (.inl v1), u2, u3] [] h := by
  refine zrun 19 4 qX11_count (o := 11) rfl ?_
  show J mX11_count d 0 0 Q 0 0 36 [u0, some (.inl v1), some (.inl (nI 0)), some (.inl (nI 0))] [] h
  exact k

theorem bX11_count_36 {d : Nat} {Q : Option MV → MH → Prop} {h : MH} {u1 u2 : Option MV} {v3 : Int32} (hr : zRf h) (g0 : vp_in (nI 0) 2166) (k1 : (h.1 112 0) ≤ v3 → J mX11_count d 0 0 Q 0 0 64 [some (.inr (.inr 111)), u1, u2, some (.inl v3)] [] h) (k2 : ¬ (h.1 112 0) ≤ v3 → J mX11_count d 0 0 Q 0 0 46 [some (.inr (.inr 111)), u1, u2, some (.inl v3)] [] h) : J mX11_count d 0 0 Q 0 0 36 [some (.inr (.inr 111)), u1, u2, some (.inl v3)] [] h := by
  refine zrun 23 6 qX11_count (o := 11) rfl ?_
  show zokO h 111 11 ∧ zokA h (h.2.2.1 111 1) 20 (nI 0) ∧ (((h.1 (h.2.2.1 111 1) 0) ≤ v3 → J mX11_count d 0 0 Q 0 0 64 [some (.inr (.inr 111)), u1, u2, some (.inl v3)] [] h) ∧ (¬ (h.1 (h.2.2.1 111 1) 0) ≤ v3 → J mX11_count d 0 0 Q 0 0 46 [some (.inr (.inr 111)), u1, u2, some (.inl v3)] [] h))
  rw [(show h.2.2.1 111 1 = 112 from (hr.at (by decide) (by decide) (by rfl)))]
  exact ⟨(zo hr (by decide) rfl), (zia hr (by decide) (by rfl) g0), k1, k2⟩

theorem bX11_count_46 {d : Nat} {Q : Option MV → MH → Prop} {h : MH} {v2 v3 v1 : Int32} (hr : zRf h) (g0 : vp_in ((nI 57) + v3) 2166) (k : J mX11_count d 0 0 Q 0 0 36 [some (.inr (.inr 111)), some (.inl v1), some (.inl (v2 + (h.1 112 ((nI 57) + v3).toNatClampNeg))), some (.inl (v3 + nI 1))] [] h) : J mX11_count d 0 0 Q 0 0 46 [some (.inr (.inr 111)), some (.inl v1), some (.inl v2), some (.inl v3)] [] h := by
  refine zrun 29 11 qX11_count (o := 11) rfl ?_
  show zokO h 111 11 ∧ zokA h (h.2.2.1 111 1) 20 ((nI 57) + v3) ∧ J mX11_count d 0 0 Q 0 0 36 [some (.inr (.inr 111)), some (.inl v1), some (.inl (v2 + (h.1 (h.2.2.1 111 1) ((nI 57) + v3).toNatClampNeg))), some (.inl (v3 + nI 1))] [] h
  rw [(show h.2.2.1 111 1 = 112 from (hr.at (by decide) (by decide) (by rfl)))]
  exact ⟨(zo hr (by decide) rfl), (zia hr (by decide) (by rfl) g0), k⟩

theorem bX11_count_64 {d : Nat} {Q : Option MV → MH → Prop} {h : MH} {u0 u2 u3 : Option MV} {v1 : Int32} (k : J mX11_count d 0 0 Q 0 0 65 [u0, some (.inl v1), u2, u3] [.inl v1] h) : J mX11_count d 0 0 Q 0 0 64 [u0, some (.inl v1), u2, u3] [] h := by
  refine zrun 40 1 qX11_count (o := 11) rfl ?_
  show J mX11_count d 0 0 Q 0 0 65 [u0, some (.inl v1), u2, u3] [.inl v1] h
  exact k

theorem bX11_count_112 {d : Nat} {Q : Option MV → MH → Prop} {h : MH} {u1 u2 u3 : Option MV} (hr : zRf h) (g0 : vp_in (nI 0) 2166) (k : Q (some (.inl (h.1 112 0))) h) : J mX11_count d 0 0 Q 0 0 112 [some (.inr (.inr 111)), u1, u2, u3] [] h := by
  refine zrun 41 4 qX11_count (o := 11) rfl ?_
  show zokO h 111 11 ∧ zokA h (h.2.2.1 111 1) 20 (nI 0) ∧ J mX11_count d 0 0 Q 0 0 118 [some (.inr (.inr 111)), u1, u2, u3] [.inl (h.1 (h.2.2.1 111 1) 0)] h
  rw [(show h.2.2.1 111 1 = 112 from (hr.at (by decide) (by decide) (by rfl)))]
  exact ⟨(zo hr (by decide) rfl), (zia hr (by decide) (by rfl) g0), J_iret (ty := .int) (zat qX11_count 45 (by rfl)) rfl rfl (Nat.le_refl 0) (Nat.le_refl 0) k⟩

theorem bX11_count_119 {d : Nat} {Q : Option MV → MH → Prop} {h : MH} {u1 u2 u3 : Option MV} (hr : zRf h) (k : Q (some (.inl (h.1 111 5))) h) : J mX11_count d 0 0 Q 0 0 119 [some (.inr (.inr 111)), u1, u2, u3] [] h := by
  refine zrun 46 2 qX11_count (o := 11) rfl ?_
  show zokO h 111 11 ∧ J mX11_count d 0 0 Q 0 0 123 [some (.inr (.inr 111)), u1, u2, u3] [.inl (h.1 111 5)] h
  exact ⟨(zo hr (by decide) rfl), J_iret (ty := .int) (zat qX11_count 48 (by rfl)) rfl rfl (Nat.le_refl 0) (Nat.le_refl 0) k⟩

theorem bX11_count_124 {d : Nat} {Q : Option MV → MH → Prop} {h : MH} {u1 u2 u3 : Option MV} (hr : zRf h) (g0 : vp_in (nI 73) 2166) (k : Q (some (.inl (h.1 112 73))) h) : J mX11_count d 0 0 Q 0 0 124 [some (.inr (.inr 111)), u1, u2, u3] [] h := by
  refine zrun 49 4 qX11_count (o := 11) rfl ?_
  show zokO h 111 11 ∧ zokA h (h.2.2.1 111 1) 20 (nI 73) ∧ J mX11_count d 0 0 Q 0 0 131 [some (.inr (.inr 111)), u1, u2, u3] [.inl (h.1 (h.2.2.1 111 1) 73)] h
  rw [(show h.2.2.1 111 1 = 112 from (hr.at (by decide) (by decide) (by rfl)))]
  exact ⟨(zo hr (by decide) rfl), (zia hr (by decide) (by rfl) g0), J_iret (ty := .int) (zat qX11_count 53 (by rfl)) rfl rfl (Nat.le_refl 0) (Nat.le_refl 0) k⟩

theorem bX11_count_132 {d : Nat} {Q : Option MV → MH → Prop} {h : MH} {u0 u1 u3 : Option MV} {v2 : Int32} (k : Q (some (.inl v2)) h) : J mX11_count d 0 0 Q 0 0 132 [u0, u1, some (.inl v2), u3] [] h := by
  refine zrun 54 1 qX11_count (o := 11) rfl ?_
  show J mX11_count d 0 0 Q 0 0 133 [u0, u1, some (.inl v2), u3] [.inl v2] h
  exact J_iret (ty := .int) (zat qX11_count 55 (by rfl)) rfl rfl (Nat.le_refl 0) (Nat.le_refl 0) k

theorem bX11_count_134 {d : Nat} {Q : Option MV → MH → Prop} {h : MH} {u0 u1 u2 u3 : Option MV} (k : Q (some (.inl (-(nI 1)))) h) : J mX11_count d 0 0 Q 0 0 134 [u0, u1, u2, u3] [] h := by
  refine zrun 56 1 qX11_count (o := 11) rfl ?_
  show J mX11_count d 0 0 Q 0 0 135 [u0, u1, u2, u3] [.inl (-(nI 1))] h
  exact J_iret (ty := .int) (zat qX11_count 57 (by rfl)) rfl rfl (Nat.le_refl 0) (Nat.le_refl 0) k

