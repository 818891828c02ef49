theorem bX10_init_4 {d mc ms cs ss : Nat} {Q : Option MV → MH → Prop} {h : MH} {u1 : Option MV} (hc : cs ≤ mc ∧ ss ≤ ms) (k : J mX10_init d mc ms Q cs ss 5 [some (.inr (.inr 1)), u1] [.inr (.inr 1)] h) : J mX10_init d mc ms Q cs ss 4 [some (.inr (.inr 1)), u1] [] h := by
  refine zrun 2 1 qX10_init (o := 10) rfl ?_
  show J mX10_init d mc ms Q cs ss 5 [some (.inr (.inr 1)), u1] [.inr (.inr 1)] h
  exact k

theorem bX10_init_151 {d mc ms cs ss : Nat} {Q : Option MV → MH → Prop} {h : MH} {u0 : Option MV} {v1 : Int32} (hc : cs ≤ mc ∧ ss ≤ ms) (k1 : (nI 4) ≤ v1 → J mX10_init d mc ms Q cs ss 175 [u0, some (.inl v1)] [] h) (k2 : ¬ (nI 4) ≤ v1 → J mX10_init d mc ms Q cs ss 156 [u0, some (.inl v1)] [] h) : J mX10_init d mc ms Q cs ss 151 [u0, some (.inl v1)] [] h := by
  refine zrun 57 3 qX10_init (o := 10) rfl ?_
  show (((nI 4) ≤ v1 → J mX10_init d mc ms Q cs ss 175 [u0, some (.inl v1)] [] h) ∧ (¬ (nI 4) ≤ v1 → J mX10_init d mc ms Q cs ss 156 [u0, some (.inl v1)] [] h))
  exact ⟨k1, k2⟩

theorem bX10_init_156 {d mc ms cs ss : Nat} {Q : Option MV → MH → Prop} {h : MH} {v1 : Int32} (hr : zRf h) (hc : cs ≤ mc ∧ ss ≤ ms) (k : J mX10_init d mc ms Q cs ss 161 [some (.inr (.inr 1)), some (.inl v1)] [.inl v1, .inr (.inr 47)] h) : J mX10_init d mc ms Q cs ss 156 [some (.inr (.inr 1)), some (.inl v1)] [] h := by
  refine zrun 60 3 qX10_init (o := 10) rfl ?_
  show zokO h 1 10 ∧ J mX10_init d mc ms Q cs ss 161 [some (.inr (.inr 1)), some (.inl v1)] [.inl v1, .inr (.inr (h.2.2.1 1 6))] h
  rw [(show h.2.2.1 1 6 = 47 from (hr.at (by decide) (by decide) (by rfl)))]
  exact ⟨(zo hr (by decide) rfl), k⟩

theorem bX10_init_169 {d mc ms cs ss : Nat} {Q : Option MV → MH → Prop} {h : MH} {v1 : Int32} (hc : cs ≤ mc ∧ ss ≤ ms) (k : J mX10_init d mc ms Q cs ss 151 [some (.inr (.inr 1)), some (.inl (v1 + nI 1))] [] h) : J mX10_init d mc ms Q cs ss 169 [some (.inr (.inr 1)), some (.inl v1)] [] h := by
  refine zrun 66 2 qX10_init (o := 10) rfl ?_
  show J mX10_init d mc ms Q cs ss 151 [some (.inr (.inr 1)), some (.inl (v1 + nI 1))] [] h
  exact k

theorem bX10_init_175 {d mc ms cs ss : Nat} {Q : Option MV → MH → Prop} {h : MH} {u0 u1 : Option MV} (hc : cs ≤ mc ∧ ss ≤ ms) (k : Q none h) : J mX10_init d mc ms Q cs ss 175 [u0, u1] [] h := by
  exact J_vret (zat qX10_init 68 (by rfl)) rfl hc.1 hc.2 k

theorem bX10_feed_0 {d : Nat} {Q : Option MV → MH → Prop} {h : MH} {u1 u2 u3 u4 u5 : Option MV} (hr : zRf h) (k1 : ((h.1 1 0) + (nI 20)) ≤ (nI 400) → J mX10_feed d 0 0 Q 0 0 16 [some (.inr (.inr 1)), u1, u2, u3, u4, u5] [] h) (k2 : ¬ ((h.1 1 0) + (nI 20)) ≤ (nI 400) → J mX10_feed d 0 0 Q 0 0 13 [some (.inr (.inr 1)), u1, u2, u3, u4, u5] [] h) : J mX10_feed d 0 0 Q 0 0 0 [some (.inr (.inr 1)), u1, u2, u3, u4, u5] [] h := by
  refine zrun 0 6 qX10_feed (o := 10) rfl ?_
  show zokO h 1 10 ∧ ((((h.1 1 0) + (nI 20)) ≤ (nI 400) → J mX10_feed d 0 0 Q 0 0 16 [some (.inr (.inr 1)), u1, u2, u3, u4, u5] [] h) ∧ (¬ ((h.1 1 0) + (nI 20)) ≤ (nI 400) → J mX10_feed d 0 0 Q 0 0 13 [some (.inr (.inr 1)), u1, u2, u3, u4, u5] [] h))
  exact ⟨(zo hr (by decide) rfl), k1, k2⟩

theorem bX10_feed_13 {d : Nat} {Q : Option MV → MH → Prop} {h : MH} {u0 u1 u2 u3 u4 u5 : Option MV} (k : Q (some (.inl (-(nI 5)))) h) : J mX10_feed d 0 0 Q 0 0 13 [u0, u1, u2, u3, u4, u5] [] h := by
  refine zrun 6 1 qX10_feed (o := 10) rfl ?_
  show J mX10_feed d 0 0 Q 0 0 15 [u0, u1, u2, u3, u4, u5] [.inl (-(nI 5))] h
  exact J_iret (ty := .int) (zat qX10_feed 7 (by rfl)) rfl rfl (Nat.le_refl 0) (Nat.le_refl 0) k

theorem bX10_feed_16 {d d' : Nat} {Q : Option MV → MH → Prop} {h : MH} {u2 u3 u4 u5 : Option MV} {v1 : Int32} (hr : zRf h) (hd : d' + 1 ≤ d) (k : Con mX10_putBytes d' 0 0 [.inr (.inr 1), .inl v1] h (zrv fun h' => J mX10_feed d 0 0 Q 0 0 21 [some (.inr (.inr 1)), some (.inl v1), u2, u3, u4, u5] [] h')) : J mX10_feed d 0 0 Q 0 0 16 [some (.inr (.inr 1)), some (.inl v1), u2, u3, u4, u5] [] h := by
  refine zrun 8 2 qX10_feed (o := 10) rfl ?_
  show J mX10_feed d 0 0 Q 0 0 18 [some (.inr (.inr 1)), some (.inl v1), u2, u3, u4, u5] [.inl v1, .inr (.inr 1)] h
  exact zcVv (as := [.inl v1]) (zat qX10_feed 10 (by rfl)) l10_97 rfl hd rfl (Nat.le_of_ble_eq_true rfl) zle0 (ci := 10) (by decide) rfl (zo hr (by decide) rfl) k

theorem bX10_feed_21 {d d' : Nat} {Q : Option MV → MH → Prop} {h : MH} {u1 u3 u4 u5 : Option MV} {v2 : Int32} (hr : zRf h) (hd : d' + 1 ≤ d) (k : Con mX10_putBytes d' 0 0 [.inr (.inr 1), .inl v2] h (zrv fun h' => J mX10_feed d 0 0 Q 0 0 26 [some (.inr (.inr 1)), u1, some (.inl v2), u3, u4, u5] [] h')) : J mX10_feed d 0 0 Q 0 0 21 [some (.inr (.inr 1)), u1, some (.inl v2), u3, u4, u5] [] h := by
  refine zrun 11 2 qX10_feed (o := 10) rfl ?_
  show J mX10_feed d 0 0 Q 0 0 23 [some (.inr (.inr 1)), u1, some (.inl v2), u3, u4, u5] [.inl v2, .inr (.inr 1)] h
  exact zcVv (as := [.inl v2]) (zat qX10_feed 13 (by rfl)) l10_97 rfl hd rfl (Nat.le_of_ble_eq_true rfl) zle0 (ci := 10) (by decide) rfl (zo hr (by decide) rfl) k

theorem bX10_feed_26 {d d' : Nat} {Q : Option MV → MH → Prop} {h : MH} {u1 u2 u4 u5 : Option MV} {v3 : Int32} (hr : zRf h) (hd : d' + 1 ≤ d) (k : Con mX10_putBytes d' 0 0 [.inr (.inr 1), .inl v3] h (zrv fun h' => J mX10_feed d 0 0 Q 0 0 31 [some (.inr (.inr 1)), u1, u2, some (.inl v3), u4, u5] [] h')) : J mX10_feed d 0 0 Q 0 0 26 [some (.inr (.inr 1)), u1, u2, some (.inl v3), u4, u5] [] h := by
  refine zrun 14 2 qX10_feed (o := 10) rfl ?_
  show J mX10_feed d 0 0 Q 0 0 28 [some (.inr (.inr 1)), u1, u2, some (.inl v3), u4, u5] [.inl v3, .inr (.inr 1)] h
  exact zcVv (as := [.inl v3]) (zat qX10_feed 16 (by rfl)) l10_97 rfl hd rfl (Nat.le_of_ble_eq_true rfl) zle0 (ci := 10) (by decide) rfl (zo hr (by decide) rfl) k

theorem bX10_feed_31 {d d' : Nat} {Q : Option MV → MH → Prop} {h : MH} {u1 u2 u3 u5 : Option MV} {v4 : Int32} (hr : zRf h) (hd : d' + 1 ≤ d) (k : Con mX10_putBytes d' 0 0 [.inr (.inr 1), .inl v4] h (zrv fun h' => J mX10_feed d 0 0 Q 0 0 37 [some (.inr (.inr 1)), u1, u2, u3, some (.inl v4), u5] [] h')) : J mX10_feed d 0 0 Q 0 0 31 [some (.inr (.inr 1)), u1, u2, u3, some (.inl v4), u5] [] h := by
  refine zrun 17 2 qX10_feed (o := 10) rfl ?_
  show J mX10_feed d 0 0 Q 0 0 34 [some (.inr (.inr 1)), u1, u2, u3, some (.inl v4), u5] [.inl v4, .inr (.inr 1)] h
  exact zcVv (as := [.inl v4]) (zat qX10_feed 19 (by rfl)) l10_97 rfl hd rfl (Nat.le_of_ble_eq_true rfl) zle0 (ci := 10) (by decide) rfl (zo hr (by decide) rfl) k

theorem bX10_feed_37 {d d' : Nat} {Q : Option MV → MH → Prop} {h : MH} {u1 u2 u3 u4 : Option MV} {v5 : Int32} (hr : zRf h) (hd : d' + 1 ≤ d) (k : Con mX10_putBytes d' 0 0 [.inr (.inr 1), .inl v5] h (zrv fun h' => J mX10_feed d 0 0 Q 0 0 43 [some (.inr (.inr 1)), u1, u2, u3, u4, some (.inl v5)] [] h')) : J mX10_feed d 0 0 Q 0 0 37 [some (.inr (.inr 1)), u1, u2, u3, u4, some (.inl v5)] [] h := by
  refine zrun 20 2 qX10_feed (o := 10) rfl ?_
  show J mX10_feed d 0 0 Q 0 0 40 [some (.inr (.inr 1)), u1, u2, u3, u4, some (.inl v5)] [.inl v5, .inr (.inr 1)] h
  exact zcVv (as := [.inl v5]) (zat qX10_feed 22 (by rfl)) l10_97 rfl hd rfl (Nat.le_of_ble_eq_true rfl) zle0 (ci := 10) (by decide) rfl (zo hr (by decide) rfl) k

theorem bX10_feed_43 {d : Nat} {Q : Option MV → MH → Prop} {h : MH} {u1 u2 u3 u4 u5 : Option MV} (hr : zRf h) (k : Q (some (.inl (h.1 1 0))) h) : J mX10_feed d 0 0 Q 0 0 43 [some (.inr (.inr 1)), u1, u2, u3, u4, u5] [] h := by
  refine zrun 23 2 qX10_feed (o := 10) rfl ?_
  show zokO h 1 10 ∧ J mX10_feed d 0 0 Q 0 0 47 [some (.inr (.inr 1)), u1, u2, u3, u4, u5] [.inl (h.1 1 0)] h
  exact ⟨(zo hr (by decide) rfl), J_iret (ty := .int) (zat qX10_feed 25 (by rfl)) rfl rfl (Nat.le_refl 0) (Nat.le_refl 0) k⟩

theorem bX10_putBytes_0 {d : Nat} {Q : Option MV → MH → Prop} {h : MH} {u0 u2 : Option MV} {v1 : Int32} (k : J mX10_putBytes d 0 0 Q 0 0 3 [u0, some (.inl v1), some (.inl (nI 24))] [] h) : J mX10_putBytes d 0 0 Q 0 0 0 [u0, some (.inl v1), u2] [] h := by
  refine zrun 0 2 qX10_putBytes (o := 10) rfl ?_
  show J mX10_putBytes d 0 0 Q 0 0 3 [u0, some (.inl v1), some (.inl (nI 24))] [] h
  exact k

theorem bX10_putBytes_3 {d : Nat} {Q : Option MV → MH → Prop} {h : MH} {u0 u1 : Option MV} {v2 : Int32} (k1 : v2 < 0 → J mX10_putBytes d 0 0 Q 0 0 52 [u0, u1, some (.inl v2)] [] h) (k2 : ¬ v2 < 0 → J mX10_putBytes d 0 0 Q 0 0 7 [u0, u1, some (.inl v2)] [] h) : J mX10_putBytes d 0 0 Q 0 0 3 [u0, u1, some (.inl v2)] [] h := by
  refine zrun 2 2 qX10_putBytes (o := 10) rfl ?_
  show ((v2 < 0 → J mX10_putBytes d 0 0 Q 0 0 52 [u0, u1, some (.inl v2)] [] h) ∧ (¬ v2 < 0 → J mX10_putBytes d 0 0 Q 0 0 7 [u0, u1, some (.inl v2)] [] h))
  exact ⟨k1, k2⟩

theorem bX10_putBytes_7 {d : Nat} {Q : Option MV → MH → Prop} {h : MH} {u1 u2 : Option MV} (hr : zRf h) (k1 : (nI 400) ≤ (h.1 1 0) → J mX10_putBytes d 0 0 Q 0 0 46 [some (.inr (.inr 1)), u1, u2] [] h) (k2 : ¬ (nI 400) ≤ (h.1 1 0) → J mX10_putBytes d 0 0 Q 0 0 17 [some (.inr (.inr 1)), u1, u2] [] h) : J mX10_putBytes d 0 0 Q 0 0 7 [some (.inr (.inr 1)), u1, u2] [] h := by
  refine zrun 4 4 qX10_putBytes (o := 10) rfl ?_
  show zokO h 1 10 ∧ (((nI 400) ≤ (h.1 1 0) → J mX10_putBytes d 0 0 Q 0 0 46 [some (.inr (.inr 1)), u1, u2] [] h) ∧ (¬ (nI 400) ≤ (h.1 1 0) → J mX10_putBytes d 0 0 Q 0 0 17 [some (.inr (.inr 1)), u1, u2] [] h))
  exact ⟨(zo hr (by decide) rfl), k1, k2⟩

theorem bX10_putBytes_17 {d : Nat} {Q : Option MV → MH → Prop} {h : MH} {v1 v2 : Int32} (hr : zRf h) (g0 : vp_in (h.1 1 0) 400) (k : J mX10_putBytes d 0 0 Q 0 0 46 [some (.inr (.inr 1)), some (.inl v1), some (.inl v2)] [] (zsI (zsI h 3 (h.1 1 0).toNatClampNeg (((v1.toUInt32 >>> (v2.toUInt32 &&& Int32.toUInt32 31)).toInt32) &&& (nI 255))) 1 0 (((zsI h 3 (h.1 1 0).toNatClampNeg (((v1.toUInt32 >>> (v2.toUInt32 &&& Int32.toUInt32 31)).toInt32) &&& (nI 255))).1 1 0) + (nI 1)))) : J mX10_putBytes d 0 0 Q 0 0 17 [some (.inr (.inr 1)), some (.inl v1), some (.inl v2)] [] h := by
  refine zrun 8 17 qX10_putBytes (o := 10) rfl ?_
  show zokO h 1 10 ∧ zokO h (h.2.2.1 1 1) 6 ∧ zokO h 1 10 ∧ zokA h (h.2.2.1 (h.2.2.1 1 1) 0) 20 (h.1 1 0) ∧ zokO (zsI h (h.2.2.1 (h.2.2.1 1 1) 0) (h.1 1 0).toNatClampNeg (((v1.toUInt32 >>> (v2.toUInt32 &&& Int32.toUInt32 31)).toInt32) &&& (nI 255))) 1 10 ∧ zokO (zsI h (h.2.2.1 (h.2.2.1 1 1) 0) (h.1 1 0).toNatClampNeg (((v1.toUInt32 >>> (v2.toUInt32 &&& Int32.toUInt32 31)).toInt32) &&& (nI 255))) 1 10 ∧ J mX10_putBytes d 0 0 Q 0 0 46 [some (.inr (.inr 1)), some (.inl v1), some (.inl v2)] [] (zsI (zsI h (h.2.2.1 (h.2.2.1 1 1) 0) (h.1 1 0).toNatClampNeg (((v1.toUInt32 >>> (v2.toUInt32 &&& Int32.toUInt32 31)).toInt32) &&& (nI 255))) 1 0 (((zsI h (h.2.2.1 (h.2.2.1 1 1) 0) (h.1 1 0).toNatClampNeg (((v1.toUInt32 >>> (v2.toUInt32 &&& Int32.toUInt32 31)).toInt32) &&& (nI 255))).1 1 0) + (nI 1)))
  rw [(show h.2.2.1 1 1 = 2 from (hr.at (by decide) (by decide) (by rfl))), (show h.2.2.1 2 0 = 3 from (hr.at (by decide) (by decide) (by rfl)))]
  exact ⟨(zo hr (by decide) rfl), (zo hr (by decide) rfl), (zo hr (by decide) rfl), (zia hr (by decide) (by rfl) g0), (zo hr (by decide) rfl), (zo hr (by decide) rfl), k⟩

theorem bX10_putBytes_46 {d : Nat} {Q : Option MV → MH → Prop} {h : MH} {u0 : Option MV} {v2 v1 : Int32} (k : J mX10_putBytes d 0 0 Q 0 0 3 [u0, some (.inl v1), some (.inl (v2 + -(nI 8)))] [] h) : J mX10_putBytes d 0 0 Q 0 0 46 [u0, some (.inl v1), some (.inl v2)] [] h := by
  refine zrun 25 2 qX10_putBytes (o := 10) rfl ?_
  show J mX10_putBytes d 0 0 Q 0 0 3 [u0, some (.inl v1), some (.inl (v2 + -(nI 8)))] [] h
  exact k

theorem bX10_putBytes_52 {d : Nat} {Q : Option MV → MH → Prop} {h : MH} {u0 u1 u2 : Option MV} (k : Q none h) : J mX10_putBytes d 0 0 Q 0 0 52 [u0, u1, u2] [] h := by
  exact J_vret (zat qX10_putBytes 27 (by rfl)) rfl (Nat.le_refl 0) (Nat.le_refl 0) k

theorem bX10_cellar_0 {d : Nat} {Q : Option MV → MH → Prop} {h : MH} {u0 : Option MV} {v1 : Int32} (k1 : v1 < 0 → J mX10_cellar d 0 0 Q 0 0 12 [u0, some (.inl v1)] [] h) (k2 : ¬ v1 < 0 → J mX10_cellar d 0 0 Q 0 0 4 [u0, some (.inl v1)] [] h) : J mX10_cellar d 0 0 Q 0 0 0 [u0, some (.inl v1)] [] h := by
  refine zrun 0 2 qX10_cellar (o := 10) rfl ?_
  show ((v1 < 0 → J mX10_cellar d 0 0 Q 0 0 12 [u0, some (.inl v1)] [] h) ∧ (¬ v1 < 0 → J mX10_cellar d 0 0 Q 0 0 4 [u0, some (.inl v1)] [] h))
  exact ⟨k1, k2⟩

theorem bX10_cellar_4 {d : Nat} {Q : Option MV → MH → Prop} {h : MH} {v1 : Int32} (hr : zRf h) (k1 : v1 ≤ (h.1 1 0) → J mX10_cellar d 0 0 Q 0 0 15 [some (.inr (.inr 1)), some (.inl v1)] [] h) (k2 : ¬ v1 ≤ (h.1 1 0) → J mX10_cellar d 0 0 Q 0 0 12 [some (.inr (.inr 1)), some (.inl v1)] [] h) : J mX10_cellar d 0 0 Q 0 0 4 [some (.inr (.inr 1)), some (.inl v1)] [] h := by
  refine zrun 2 4 qX10_cellar (o := 10) rfl ?_
  show zokO h 1 10 ∧ ((v1 ≤ (h.1 1 0) → J mX10_cellar d 0 0 Q 0 0 15 [some (.inr (.inr 1)), some (.inl v1)] [] h) ∧ (¬ v1 ≤ (h.1 1 0) → J mX10_cellar d 0 0 Q 0 0 12 [some (.inr (.inr 1)), some (.inl v1)] [] h))
  exact ⟨(zo hr (by decide) rfl), k1, k2⟩

theorem bX10_cellar_12 {d : Nat} {Q : Option MV → MH → Prop} {h : MH} {u0 u1 : Option MV} (k : Q (some (.inl (-(nI 3)))) h) : J mX10_cellar d 0 0 Q 0 0 12 [u0, u1] [] h := by
  refine zrun 6 1 qX10_cellar (o := 10) rfl ?_
  show J mX10_cellar d 0 0 Q 0 0 14 [u0, u1] [.inl (-(nI 3))] h
  exact J_iret (ty := .int) (zat qX10_cellar 7 (by rfl)) rfl rfl (Nat.le_refl 0) (Nat.le_refl 0) k

theorem bX10_cellar_15 {d d' : Nat} {Q : Option MV → MH → Prop} {h : MH} {v1 : Int32} (hr : zRf h) (hd : d' + 1 ≤ d) (k : Con mX6_readCellar d' 0 0 [.inr (.inr 2), .inr (.inr 4), .inl v1] (zsI h 1 0 (nI 0)) (zri fun (x : Int32) h' => J mX10_cellar d 0 0 Q 0 0 32 [some (.inr (.inr 1)), some (.inl v1)] [.inl x] h')) : J mX10_cellar d 0 0 Q 0 0 15 [some (.inr (.inr 1)), some (.inl v1)] [] h := by
  refine zrun 8 8 qX10_cellar (o := 10) rfl ?_
  show zokO h 1 10 ∧ zokO (zsI h 1 0 (nI 0)) 1 10 ∧ zokO (zsI h 1 0 (nI 0)) 1 10 ∧ J mX10_cellar d 0 0 Q 0 0 29 [some (.inr (.inr 1)), some (.inl v1)] [.inl v1, .inr (.inr (h.2.2.1 1 2)), .inr (.inr (h.2.2.1 1 1))] (zsI h 1 0 (nI 0))
  rw [(show h.2.2.1 1 1 = 2 from (hr.at (by decide) (by decide) (by rfl))), (show h.2.2.1 1 2 = 4 from (hr.at (by decide) (by decide) (by rfl)))]
  exact ⟨(zo hr (by decide) rfl), (zo hr (by decide) rfl), (zo hr (by decide) rfl), zcVi (as := [.inr (.inr 4), .inl v1]) (zat qX10_cellar 16 (by rfl)) l10_104 rfl hd rfl (Nat.le_of_ble_eq_true rfl) zle0 (ci := 6) (by decide) rfl (show zokO _ _ _ from (zo hr (by decide) rfl)) k⟩

theorem bX10_cellar_32 {d : Nat} {Q : Option MV → MH → Prop} {h : MH} {u0 u1 : Option MV} {vs0 : Int32} (k1 : ¬ vs0 = 0 → J mX10_cellar d 0 0 Q 0 0 46 [u0, u1] [] h) (k2 : vs0 = 0 → J mX10_cellar d 0 0 Q 0 0 35 [u0, u1] [] h) : J mX10_cellar d 0 0 Q 0 0 32 [u0, u1] [.inl vs0] h := by
  refine zrun 17 1 qX10_cellar (o := 10) rfl ?_
  show ((¬ vs0 = 0 → J mX10_cellar d 0 0 Q 0 0 46 [u0, u1] [] h) ∧ (vs0 = 0 → J mX10_cellar d 0 0 Q 0 0 35 [u0, u1] [] h))
  exact ⟨k1, k2⟩

theorem bX10_cellar_35 {d : Nat} {Q : Option MV → MH → Prop} {h : MH} {u1 : Option MV} (hr : zRf h) (k : Q (some (.inl ((-(nI 30)) - (h.1 2 6)))) h) : J mX10_cellar d 0 0 Q 0 0 35 [some (.inr (.inr 1)), u1] [] h := by
  refine zrun 18 5 qX10_cellar (o := 10) rfl ?_
  show zokO h 1 10 ∧ zokO h (h.2.2.1 1 1) 6 ∧ J mX10_cellar d 0 0 Q 0 0 45 [some (.inr (.inr 1)), u1] [.inl ((-(nI 30)) - (h.1 (h.2.2.1 1 1) 6))] h
  rw [(show h.2.2.1 1 1 = 2 from (hr.at (by decide) (by decide) (by rfl)))]
  exact ⟨(zo hr (by decide) rfl), (zo hr (by decide) rfl), J_iret (ty := .int) (zat qX10_cellar 23 (by rfl)) rfl rfl (Nat.le_refl 0) (Nat.le_refl 0) k⟩

theorem bX10_cellar_46 {d d' : Nat} {Q : Option MV → MH → Prop} {h : MH} {u1 : Option MV} (hr : zRf h) (hd : d' + 1 ≤ d) (k : Con mX2_takeFrom d' 0 0 [.inr (.inr 16), .inr (.inr 4)] h (zrv fun h' => J mX10_cellar d 0 0 Q 0 0 60 [some (.inr (.inr 1)), u1] [] h')) : J mX10_cellar d 0 0 Q 0 0 46 [some (.inr (.inr 1)), u1] [] h := by
  refine zrun 24 5 qX10_cellar (o := 10) rfl ?_
  show zokO h 1 10 ∧ zokO h (h.2.2.1 1 4) 1 ∧ zokO h 1 10 ∧ J mX10_cellar d 0 0 Q 0 0 57 [some (.inr (.inr 1)), u1] [.inr (.inr (h.2.2.1 1 2)), .inr (.inr (h.2.2.1 (h.2.2.1 1 4) 0))] h
  rw [(show h.2.2.1 1 4 = 15 from (hr.at (by decide) (by decide) (by rfl))), (show h.2.2.1 15 0 = 16 from (hr.at (by decide) (by decide) (by rfl))), (show h.2.2.1 1 2 = 4 from (hr.at (by decide) (by decide) (by rfl)))]
  exact ⟨(zo hr (by decide) rfl), (zo hr (by decide) rfl), (zo hr (by decide) rfl), zcVv (as := [.inr (.inr 4)]) (zat qX10_cellar 29 (by rfl)) l10_114 rfl hd rfl (Nat.le_of_ble_eq_true rfl) zle0 (ci := 2) (by decide) rfl (zo hr (by decide) rfl) k⟩

theorem bX10_cellar_60 {d d' : Nat} {Q : Option MV → MH → Prop} {h : MH} {u1 : Option MV} (hr : zRf h) (hd : d' + 1 ≤ d) (k : Con mX10_forgetCellar d' 0 0 [.inr (.inr 1)] h (zrv fun h' => J mX10_cellar d 0 0 Q 0 0 64 [some (.inr (.inr 1)), u1] [] h')) : J mX10_cellar d 0 0 Q 0 0 60 [some (.inr (.inr 1)), u1] [] h := by
  refine zrun 30 1 qX10_cellar (o := 10) rfl ?_
  show J mX10_cellar d 0 0 Q 0 0 61 [some (.inr (.inr 1)), u1] [.inr (.inr 1)] h
  exact zcVv (as := []) (zat qX10_cellar 31 (by rfl)) l10_118 rfl hd rfl (Nat.le_of_ble_eq_true rfl) zle0 (ci := 10) (by decide) rfl (zo hr (by decide) rfl) k

theorem bX10_cellar_64 {d : Nat} {Q : Option MV → MH → Prop} {h : MH} {u1 : Option MV} (hr : zRf h) (k : Q (some (.inl (h.1 16 0))) h) : J mX10_cellar d 0 0 Q 0 0 64 [some (.inr (.inr 1)), u1] [] h := by
  refine zrun 32 4 qX10_cellar (o := 10) rfl ?_
  show zokO h 1 10 ∧ zokO h (h.2.2.1 1 4) 1 ∧ zokO h (h.2.2.1 (h.2.2.1 1 4) 0) 2 ∧ J mX10_cellar d 0 0 Q 0 0 74 [some (.inr (.inr 1)), u1] [.inl (h.1 (h.2.2.1 (h.2.2.1 1 4) 0) 0)] h
  rw [(show h.2.2.1 1 4 = 15 from (hr.at (by decide) (by decide) (by rfl))), (show h.2.2.1 15 0 = 16 from (hr.at (by decide) (by decide) (by rfl)))]
  exact ⟨(zo hr (by decide) rfl), (zo hr (by decide) rfl), (zo hr (by decide) rfl), J_iret (ty := .int) (zat qX10_cellar 36 (by rfl)) rfl rfl (Nat.le_refl 0) (Nat.le_refl 0) k⟩

theorem bX10_plan_0 {d d' : Nat} {Q : Option MV → MH → Prop} {h : MH} {u0 u2 : Option MV} {v1 : Int32} (hd : d' + 1 ≤ d) (k : Con mX10_isPlan d' 0 0 [.inl v1] h (zri fun (x : Int32) h' => J mX10_plan d 0 0 Q 0 0 4 [u0, some (.inl v1), u2] [.inl x] h')) : J mX10_plan d 0 0 Q 0 0 0 [u0, some (.inl v1), u2] [] h := by
  refine zrun 0 1 qX10_plan (o := 10) rfl ?_
  show J mX10_plan d 0 0 Q 0 0 1 [u0, some (.inl v1), u2] [.inl v1] h
  exact zcSi (as := [.inl v1]) (zat qX10_plan 1 (by rfl)) l10_124 rfl hd rfl (Nat.le_of_ble_eq_true rfl) zle0 k

theorem bX10_plan_4 {d : Nat} {Q : Option MV → MH → Prop} {h : MH} {u0 u1 u2 : Option MV} {vs0 : Int32} (k1 : ¬ vs0 = 0 → J mX10_plan d 0 0 Q 0 0 10 [u0, u1, u2] [] h) (k2 : vs0 = 0 → J mX10_plan d 0 0 Q 0 0 7 [u0, u1, u2] [] h) : J mX10_plan d 0 0 Q 0 0 4 [u0, u1, u2] [.inl vs0] h := by
  refine zrun 2 1 qX10_plan (o := 10) rfl ?_
  show ((¬ vs0 = 0 → J mX10_plan d 0 0 Q 0 0 10 [u0, u1, u2] [] h) ∧ (vs0 = 0 → J mX10_plan d 0 0 Q 0 0 7 [u0, u1, u2] [] h))
  exact ⟨k1, k2⟩

theorem bX10_plan_7 {d : Nat} {Q : Option MV → MH → Prop} {h : MH} {u0 u1 u2 : Option MV} (k : Q (some (.inl (-(nI 2)))) h) : J mX10_plan d 0 0 Q 0 0 7 [u0, u1, u2] [] h := by
  refine zrun 3 1 qX10_plan (o := 10) rfl ?_
  show J mX10_plan d 0 0 Q 0 0 9 [u0, u1, u2] [.inl (-(nI 2))] h
  exact J_iret (ty := .int) (zat qX10_plan 4 (by rfl)) rfl rfl (Nat.le_refl 0) (Nat.le_refl 0) k

theorem bX10_plan_10 {d : Nat} {Q : Option MV → MH → Prop} {h : MH} {u0 u1 : Option MV} {v2 : Int32} (k1 : v2 < 0 → J mX10_plan d 0 0 Q 0 0 22 [u0, u1, some (.inl v2)] [] h) (k2 : ¬ v2 < 0 → J mX10_plan d 0 0 Q 0 0 14 [u0, u1, some (.inl v2)] [] h) : J mX10_plan d 0 0 Q 0 0 10 [u0, u1, some (.inl v2)] [] h := by
  refine zrun 5 2 qX10_plan (o := 10) rfl ?_
  show ((v2 < 0 → J mX10_plan d 0 0 Q 0 0 22 [u0, u1, some (.inl v2)] [] h) ∧ (¬ v2 < 0 → J mX10_plan d 0 0 Q 0 0 14 [u0, u1, some (.inl v2)] [] h))
  exact ⟨k1, k2⟩

theorem bX10_plan_14 {d : Nat} {Q : Option MV → MH → Prop} {h : MH} {u1 : Option MV} {v2 : Int32} (hr : zRf h) (k1 : v2 ≤ (h.1 1 0) → J mX10_plan d 0 0 Q 0 0 25 [some (.inr (.inr 1)), u1, some (.inl v2)] [] h) (k2 : ¬ v2 ≤ (h.1 1 0) → J mX10_plan d 0 0 Q 0 0 22 [some (.inr (.inr 1)), u1, some (.inl v2)] [] h) : J mX10_plan d 0 0 Q 0 0 14 [some (.inr (.inr 1)), u1, some (.inl v2)] [] h := by
  refine zrun 7 4 qX10_plan (o := 10) rfl ?_
  show zokO h 1 10 ∧ ((v2 ≤ (h.1 1 0) → J mX10_plan d 0 0 Q 0 0 25 [some (.inr (.inr 1)), u1, some (.inl v2)] [] h) ∧ (¬ v2 ≤ (h.1 1 0) → J mX10_plan d 0 0 Q 0 0 22 [some (.inr (.inr 1)), u1, some (.inl v2)] [] h))
  exact ⟨(zo hr (by decide) rfl), k1, k2⟩

theorem bX10_plan_22 {d : Nat} {Q : Option MV → MH → Prop} {h : MH} {u0 u1 u2 : Option MV} (k : Q (some (.inl (-(nI 3)))) h) : J mX10_plan d 0 0 Q 0 0 22 [u0, u1, u2] [] h := by
  refine zrun 11 1 qX10_plan (o := 10) rfl ?_
  show J mX10_plan d 0 0 Q 0 0 24 [u0, u1, u2] [.inl (-(nI 3))] h
  exact J_iret (ty := .int) (zat qX10_plan 12 (by rfl)) rfl rfl (Nat.le_refl 0) (Nat.le_refl 0) k

theorem bX10_plan_25 {d d' : Nat} {Q : Option MV → MH → Prop} {h : MH} {u1 : Option MV} {v2 : Int32} (hr : zRf h) (hd : d' + 1 ≤ d) (k : Con mX6_readPlan d' 0 0 [.inr (.inr 2), .inr (.inr 9), .inl v2] (zsI h 1 0 (nI 0)) (zri fun (x : Int32) h' => J mX10_plan d 0 0 Q 0 0 42 [some (.inr (.inr 1)), u1, some (.inl v2)] [.inl x] h')) : J mX10_plan d 0 0 Q 0 0 25 [some (.inr (.inr 1)), u1, some (.inl v2)] [] h := by
  refine zrun 13 8 qX10_plan (o := 10) rfl ?_
  show zokO h 1 10 ∧ zokO (zsI h 1 0 (nI 0)) 1 10 ∧ zokO (zsI h 1 0 (nI 0)) 1 10 ∧ J mX10_plan d 0 0 Q 0 0 39 [some (.inr (.inr 1)), u1, some (.inl v2)] [.inl v2, .inr (.inr (h.2.2.1 1 3)), .inr (.inr (h.2.2.1 1 1))] (zsI h 1 0 (nI 0))
  rw [(show h.2.2.1 1 1 = 2 from (hr.at (by decide) (by decide) (by rfl))), (show h.2.2.1 1 3 = 9 from (hr.at (by decide) (by decide) (by rfl)))]
  exact ⟨(zo hr (by decide) rfl), (zo hr (by decide) rfl), (zo hr (by decide) rfl), zcVi (as := [.inr (.inr 9), .inl v2]) (zat qX10_plan 21 (by rfl)) l10_128 rfl hd rfl (Nat.le_of_ble_eq_true rfl) zle0 (ci := 6) (by decide) rfl (show zokO _ _ _ from (zo hr (by decide) rfl)) k⟩

theorem bX10_plan_42 {d : Nat} {Q : Option MV → MH → Prop} {h : MH} {u0 u1 u2 : Option MV} {vs0 : Int32} (k1 : ¬ vs0 = 0 → J mX10_plan d 0 0 Q 0 0 56 [u0, u1, u2] [] h) (k2 : vs0 = 0 → J mX10_plan d 0 0 Q 0 0 45 [u0, u1, u2] [] h) : J mX10_plan d 0 0 Q 0 0 42 [u0, u1, u2] [.inl vs0] h := by
  refine zrun 22 1 qX10_plan (o := 10) rfl ?_
  show ((¬ vs0 = 0 → J mX10_plan d 0 0 Q 0 0 56 [u0, u1, u2] [] h) ∧ (vs0 = 0 → J mX10_plan d 0 0 Q 0 0 45 [u0, u1, u2] [] h))
  exact ⟨k1, k2⟩

theorem bX10_plan_45 {d : Nat} {Q : Option MV → MH → Prop} {h : MH} {u1 u2 : Option MV} (hr : zRf h) (k : Q (some (.inl ((-(nI 30)) - (h.1 2 6)))) h) : J mX10_plan d 0 0 Q 0 0 45 [some (.inr (.inr 1)), u1, u2] [] h := by
  refine zrun 23 5 qX10_plan (o := 10) rfl ?_
  show zokO h 1 10 ∧ zokO h (h.2.2.1 1 1) 6 ∧ J mX10_plan d 0 0 Q 0 0 55 [some (.inr (.inr 1)), u1, u2] [.inl ((-(nI 30)) - (h.1 (h.2.2.1 1 1) 6))] h
  rw [(show h.2.2.1 1 1 = 2 from (hr.at (by decide) (by decide) (by rfl)))]
  exact ⟨(zo hr (by decide) rfl), (zo hr (by decide) rfl), J_iret (ty := .int) (zat qX10_plan 28 (by rfl)) rfl rfl (Nat.le_refl 0) (Nat.le_refl 0) k⟩

theorem bX10_plan_56 {d d' : Nat} {Q : Option MV → MH → Prop} {h : MH} {u2 : Option MV} {v1 : Int32} (hr : zRf h) (g0 : vp_in v1 4) (hd : d' + 1 ≤ d) (k : Con mX5_takeFrom d' 0 0 [.inr (.inr (22 + 6 * v1.toNatClampNeg)), .inr (.inr 9)] h (zrv fun h' => J mX10_plan d 0 0 Q 0 0 72 [some (.inr (.inr 1)), some (.inl v1), u2] [] h')) : J mX10_plan d 0 0 Q 0 0 56 [some (.inr (.inr 1)), some (.inl v1), u2] [] h := by
  refine zrun 29 7 qX10_plan (o := 10) rfl ?_
  show zokO h 1 10 ∧ zokO h (h.2.2.1 1 4) 1 ∧ zokR h (h.2.2.1 (h.2.2.1 1 4) 1) v1 ∧ zokO h 1 10 ∧ J mX10_plan d 0 0 Q 0 0 69 [some (.inr (.inr 1)), some (.inl v1), u2] [.inr (.inr (h.2.2.1 1 3)), .inr (.inr (h.2.2.1 (h.2.2.1 (h.2.2.1 1 4) 1) v1.toNatClampNeg))] h
  rw [(show h.2.2.1 1 4 = 15 from (hr.at (by decide) (by decide) (by rfl))), (show h.2.2.1 15 1 = 21 from (hr.at (by decide) (by decide) (by rfl))), (show h.2.2.1 21 v1.toNatClampNeg = (22 + 6 * v1.toNatClampNeg) from (hr.a30 (by decide) (by have := hr.n; omega) (by rfl) (vp_lt g0))), (show h.2.2.1 1 3 = 9 from (hr.at (by decide) (by decide) (by rfl)))]
  exact ⟨(zo hr (by decide) rfl), (zo hr (by decide) rfl), (zir_ hr (by decide) (by rfl) (by decide) g0), (zo hr (by decide) rfl), zcVv (as := [.inr (.inr 9)]) (zat qX10_plan 36 (by rfl)) l10_136 rfl hd rfl (Nat.le_of_ble_eq_true rfl) zle0 (ci := 5) (by decide) rfl (zpl hr g0) k⟩

theorem bX10_plan_72 {d : Nat} {Q : Option MV → MH → Prop} {h : MH} {u2 : Option MV} {v1 : Int32} (hr : zRf h) (g0 : vp_in v1 4) (k : Q (some (.inl ((zsI h 58 0 (-(nI 1))).1 (22 + 6 * v1.toNatClampNeg) 0))) (zsI h 58 0 (-(nI 1)))) : J mX10_plan d 0 0 Q 0 0 72 [some (.inr (.inr 1)), some (.inl v1), u2] [] h := by
  refine zrun 37 10 qX10_plan (o := 10) rfl ?_
  show zokO h 1 10 ∧ zokO h (h.2.2.1 1 9) 4 ∧ zokO (zsI h (h.2.2.1 1 9) 0 (-(nI 1))) 1 10 ∧ zokO (zsI h (h.2.2.1 1 9) 0 (-(nI 1))) (h.2.2.1 1 4) 1 ∧ zokR (zsI h (h.2.2.1 1 9) 0 (-(nI 1))) (h.2.2.1 (h.2.2.1 1 4) 1) v1 ∧ zokO (zsI h (h.2.2.1 1 9) 0 (-(nI 1))) (h.2.2.1 (h.2.2.1 (h.2.2.1 1 4) 1) v1.toNatClampNeg) 5 ∧ J mX10_plan d 0 0 Q 0 0 92 [some (.inr (.inr 1)), some (.inl v1), u2] [.inl ((zsI h (h.2.2.1 1 9) 0 (-(nI 1))).1 (h.2.2.1 (h.2.2.1 (h.2.2.1 1 4) 1) v1.toNatClampNeg) 0)] (zsI h (h.2.2.1 1 9) 0 (-(nI 1)))
  rw [(show h.2.2.1 1 9 = 58 from (hr.at (by decide) (by decide) (by rfl))), (show h.2.2.1 1 4 = 15 from (hr.at (by decide) (by decide) (by rfl))), (show h.2.2.1 15 1 = 21 from (hr.at (by decide) (by decide) (by rfl))), (show h.2.2.1 21 v1.toNatClampNeg = (22 + 6 * v1.toNatClampNeg) from (hr.a30 (by decide) (by have := hr.n; omega) (by rfl) (vp_lt g0)))]
  exact ⟨(zo hr (by decide) rfl), (zo hr (by decide) rfl), (zo hr (by decide) rfl), (zo hr (by decide) rfl), (zir_ hr (by decide) (by rfl) (by decide) g0), (zpl hr g0), J_iret (ty := .int) (zat qX10_plan 47 (by rfl)) rfl rfl (Nat.le_refl 0) (Nat.le_refl 0) k⟩

theorem bX10_fault_0 {d : Nat} {Q : Option MV → MH → Prop} {h : MH} {u0 : Option MV} {v1 : Int32} (k1 : ¬ v1 = 0 → J mX10_fault d 0 0 Q 0 0 12 [u0, some (.inl v1)] [] h) (k2 : v1 = 0 → J mX10_fault d 0 0 Q 0 0 4 [u0, some (.inl v1)] [] h) : J mX10_fault d 0 0 Q 0 0 0 [u0, some (.inl v1)] [] h := by
  refine zrun 0 2 qX10_fault (o := 10) rfl ?_
  show ((¬ v1 = 0 → J mX10_fault d 0 0 Q 0 0 12 [u0, some (.inl v1)] [] h) ∧ (v1 = 0 → J mX10_fault d 0 0 Q 0 0 4 [u0, some (.inl v1)] [] h))
  exact ⟨k1, k2⟩

theorem bX10_fault_4 {d : Nat} {Q : Option MV → MH → Prop} {h : MH} {u1 : Option MV} (hr : zRf h) (k : Q (some (.inl (h.1 2 6))) h) : J mX10_fault d 0 0 Q 0 0 4 [some (.inr (.inr 1)), u1] [] h := by
  refine zrun 2 3 qX10_fault (o := 10) rfl ?_
  show zokO h 1 10 ∧ zokO h (h.2.2.1 1 1) 6 ∧ J mX10_fault d 0 0 Q 0 0 11 [some (.inr (.inr 1)), u1] [.inl (h.1 (h.2.2.1 1 1) 6)] h
  rw [(show h.2.2.1 1 1 = 2 from (hr.at (by decide) (by decide) (by rfl)))]
  exact ⟨(zo hr (by decide) rfl), (zo hr (by decide) rfl), J_iret (ty := .int) (zat qX10_fault 5 (by rfl)) rfl rfl (Nat.le_refl 0) (Nat.le_refl 0) k⟩

theorem bX10_fault_12 {d : Nat} {Q : Option MV → MH → Prop} {h : MH} {u0 : Option MV} {v1 : Int32} (k1 : ¬ v1 = (nI 1) → J mX10_fault d 0 0 Q 0 0 27 [u0, some (.inl v1)] [] h) (k2 : v1 = (nI 1) → J mX10_fault d 0 0 Q 0 0 17 [u0, some (.inl v1)] [] h) : J mX10_fault d 0 0 Q 0 0 12 [u0, some (.inl v1)] [] h := by
  refine zrun 6 3 qX10_fault (o := 10) rfl ?_
  show ((¬ v1 = (nI 1) → J mX10_fault d 0 0 Q 0 0 27 [u0, some (.inl v1)] [] h) ∧ (v1 = (nI 1) → J mX10_fault d 0 0 Q 0 0 17 [u0, some (.inl v1)] [] h))
  exact ⟨k1, k2⟩

theorem bX10_fault_17 {d : Nat} {Q : Option MV → MH → Prop} {h : MH} {u1 : Option MV} (hr : zRf h) (k : J mX10_fault d 0 0 Q 0 0 28 [some (.inr (.inr 1)), u1] [.inl (h.1 2 7)] h) : J mX10_fault d 0 0 Q 0 0 17 [some (.inr (.inr 1)), u1] [] h := by
  refine zrun 9 4 qX10_fault (o := 10) rfl ?_
  show zokO h 1 10 ∧ zokO h (h.2.2.1 1 1) 6 ∧ J mX10_fault d 0 0 Q 0 0 28 [some (.inr (.inr 1)), u1] [.inl (h.1 (h.2.2.1 1 1) 7)] h
  rw [(show h.2.2.1 1 1 = 2 from (hr.at (by decide) (by decide) (by rfl)))]
  exact ⟨(zo hr (by decide) rfl), (zo hr (by decide) rfl), k⟩

theorem bX10_fault_27 {d : Nat} {Q : Option MV → MH → Prop} {h : MH} {u0 u1 : Option MV} (k : J mX10_fault d 0 0 Q 0 0 28 [u0, u1] [.inl (-(nI 1))] h) : J mX10_fault d 0 0 Q 0 0 27 [u0, u1] [] h := by
  refine zrun 13 1 qX10_fault (o := 10) rfl ?_
  show J mX10_fault d 0 0 Q 0 0 28 [u0, u1] [.inl (-(nI 1))] h
  exact k

theorem bX10_fault_28 {d : Nat} {Q : Option MV → MH → Prop} {h : MH} {u0 u1 : Option MV} {vs0 : Int32} (k : Q (some (.inl vs0)) h) : J mX10_fault d 0 0 Q 0 0 28 [u0, u1] [.inl vs0] h := by
  exact J_iret (ty := .int) (zat qX10_fault 14 (by rfl)) rfl rfl (Nat.le_refl 0) (Nat.le_refl 0) k

theorem bX10_candle_0 {d d' : Nat} {Q : Option MV → MH → Prop} {h : MH} {u3 : Option MV} {v2 v1 : Int32} (hr : zRf h) (hd : d' + 1 ≤ d) (k : Con mX2_has d' 0 0 [.inr (.inr 16), .inl v1] h (zri fun (x : Int32) h' => J mX10_candle d 0 0 Q 0 0 13 [some (.inr (.inr 1)), some (.inl v1), some (.inl v2), some (.inr (.inr 16))] [.inl x] h')) : J mX10_candle d 0 0 Q 0 0 0 [some (.inr (.inr 1)), some (.inl v1), some (.inl v2), u3] [] h := by
  refine zrun 0 6 qX10_candle (o := 10) rfl ?_
  show zokO h 1 10 ∧ zokO h (h.2.2.1 1 4) 1 ∧ J mX10_candle d 0 0 Q 0 0 10 [some (.inr (.inr 1)), some (.inl v1), some (.inl v2), some (.inr (.inr (h.2.2.1 (h.2.2.1 1 4) 0)))] [.inl v1, .inr (.inr (h.2.2.1 (h.2.2.1 1 4) 0))] h
  rw [(show h.2.2.1 1 4 = 15 from (hr.at (by decide) (by decide) (by rfl))), (show h.2.2.1 15 0 = 16 from (hr.at (by decide) (by decide) (by rfl)))]
  exact ⟨(zo hr (by decide) rfl), (zo hr (by decide) rfl), zcVi (as := [.inl v1]) (zat qX10_candle 6 (by rfl)) l10_148 rfl hd rfl (Nat.le_of_ble_eq_true rfl) zle0 (ci := 2) (by decide) rfl (zo hr (by decide) rfl) k⟩

theorem bX10_candle_13 {d : Nat} {Q : Option MV → MH → Prop} {h : MH} {u0 u1 u2 u3 : Option MV} {vs0 : Int32} (k1 : ¬ vs0 = 0 → J mX10_candle d 0 0 Q 0 0 19 [u0, u1, u2, u3] [] h) (k2 : vs0 = 0 → J mX10_candle d 0 0 Q 0 0 16 [u0, u1, u2, u3] [] h) : J mX10_candle d 0 0 Q 0 0 13 [u0, u1, u2, u3] [.inl vs0] h := by
  refine zrun 7 1 qX10_candle (o := 10) rfl ?_
  show ((¬ vs0 = 0 → J mX10_candle d 0 0 Q 0 0 19 [u0, u1, u2, u3] [] h) ∧ (vs0 = 0 → J mX10_candle d 0 0 Q 0 0 16 [u0, u1, u2, u3] [] h))
  exact ⟨k1, k2⟩

theorem bX10_candle_16 {d : Nat} {Q : Option MV → MH → Prop} {h : MH} {u0 u1 u2 u3 : Option MV} (k : Q (some (.inl (-(nI 2)))) h) : J mX10_candle d 0 0 Q 0 0 16 [u0, u1, u2, u3] [] h := by
  refine zrun 8 1 qX10_candle (o := 10) rfl ?_
  show J mX10_candle d 0 0 Q 0 0 18 [u0, u1, u2, u3] [.inl (-(nI 2))] h
  exact J_iret (ty := .int) (zat qX10_candle 9 (by rfl)) rfl rfl (Nat.le_refl 0) (Nat.le_refl 0) k

theorem bX10_candle_19 {d : Nat} {Q : Option MV → MH → Prop} {h : MH} {u0 u1 u3 : Option MV} {v2 : Int32} (k1 : ¬ v2 = 0 → J mX10_candle d 0 0 Q 0 0 30 [u0, u1, some (.inl v2), u3] [] h) (k2 : v2 = 0 → J mX10_candle d 0 0 Q 0 0 23 [u0, u1, some (.inl v2), u3] [] h) : J mX10_candle d 0 0 Q 0 0 19 [u0, u1, some (.inl v2), u3] [] h := by
  refine zrun 10 2 qX10_candle (o := 10) rfl ?_
  show ((¬ v2 = 0 → J mX10_candle d 0 0 Q 0 0 30 [u0, u1, some (.inl v2), u3] [] h) ∧ (v2 = 0 → J mX10_candle d 0 0 Q 0 0 23 [u0, u1, some (.inl v2), u3] [] h))
  exact ⟨k1, k2⟩

theorem bX10_candle_23 {d : Nat} {Q : Option MV → MH → Prop} {h : MH} {u0 u2 : Option MV} {v1 : Int32} {v3 : Nat} (hr : zRf h) (g0 : zokO h v3 2) (g1 : vp_in v1 8) (k : Q (some (.inl (h.1 (v3 + 1) v1.toNatClampNeg))) h) : J mX10_candle d 0 0 Q 0 0 23 [u0, some (.inl v1), u2, some (.inr (.inr v3))] [] h := by
  refine zrun 12 4 qX10_candle (o := 10) rfl ?_
  show zokO h v3 2 ∧ zokA h (h.2.2.1 v3 1) 20 v1 ∧ J mX10_candle d 0 0 Q 0 0 29 [u0, some (.inl v1), u2, some (.inr (.inr v3))] [.inl (h.1 (h.2.2.1 v3 1) v1.toNatClampNeg)] h
  rw [(show h.2.2.1 v3 1 = (v3 + 1) from (hr.f2 1 g0 (by decide)))]
  exact ⟨g0, (zca hr g0 (by decide) (by decide) g1), J_iret (ty := .int) (zat qX10_candle 16 (by rfl)) rfl rfl (Nat.le_refl 0) (Nat.le_refl 0) k⟩

theorem bX10_candle_30 {d : Nat} {Q : Option MV → MH → Prop} {h : MH} {u0 u1 u3 : Option MV} {v2 : Int32} (k1 : ¬ v2 = (nI 1) → J mX10_candle d 0 0 Q 0 0 45 [u0, u1, some (.inl v2), u3] [] h) (k2 : v2 = (nI 1) → J mX10_candle d 0 0 Q 0 0 35 [u0, u1, some (.inl v2), u3] [] h) : J mX10_candle d 0 0 Q 0 0 30 [u0, u1, some (.inl v2), u3] [] h := by
  refine zrun 17 3 qX10_candle (o := 10) rfl ?_
  show ((¬ v2 = (nI 1) → J mX10_candle d 0 0 Q 0 0 45 [u0, u1, some (.inl v2), u3] [] h) ∧ (v2 = (nI 1) → J mX10_candle d 0 0 Q 0 0 35 [u0, u1, some (.inl v2), u3] [] h))
  exact ⟨k1, k2⟩

theorem bX10_candle_35 {d d' : Nat} {Q : Option MV → MH → Prop} {h : MH} {u0 u2 : Option MV} {v1 : Int32} {v3 : Nat} (gr : zokO h v3 2) (hd : d' + 1 ≤ d) (k : Con mX2_sparksOf d' 0 0 [.inr (.inr v3), .inl v1] h (zri fun (x : Int32) h' => J mX10_candle d 0 0 Q 0 0 40 [u0, some (.inl v1), u2, some (.inr (.inr v3))] [.inl x] h')) : J mX10_candle d 0 0 Q 0 0 35 [u0, some (.inl v1), u2, some (.inr (.inr v3))] [] h := by
  refine zrun 20 2 qX10_candle (o := 10) rfl ?_
  show J mX10_candle d 0 0 Q 0 0 37 [u0, some (.inl v1), u2, some (.inr (.inr v3))] [.inl v1, .inr (.inr v3)] h
  exact zcVi (as := [.inl v1]) (zat qX10_candle 22 (by rfl)) l10_154 rfl hd rfl (Nat.le_of_ble_eq_true rfl) zle0 (ci := 2) (by decide) rfl gr k

theorem bX10_candle_40 {d : Nat} {Q : Option MV → MH → Prop} {h : MH} {u0 u1 u2 u3 : Option MV} {vs0 : Int32} (k : Q (some (.inl (vs0 / (nI 256)))) h) : J mX10_candle d 0 0 Q 0 0 40 [u0, u1, u2, u3] [.inl vs0] h := by
  refine zrun 23 2 qX10_candle (o := 10) rfl ?_
  show ¬ (nI 256) = 0 ∧ J mX10_candle d 0 0 Q 0 0 44 [u0, u1, u2, u3] [.inl (vs0 / (nI 256))] h
  exact ⟨(by decide), J_iret (ty := .int) (zat qX10_candle 25 (by rfl)) rfl rfl (Nat.le_refl 0) (Nat.le_refl 0) k⟩

theorem bX10_candle_45 {d : Nat} {Q : Option MV → MH → Prop} {h : MH} {u0 u1 u3 : Option MV} {v2 : Int32} (k1 : ¬ v2 = (nI 2) → J mX10_candle d 0 0 Q 0 0 57 [u0, u1, some (.inl v2), u3] [] h) (k2 : v2 = (nI 2) → J mX10_candle d 0 0 Q 0 0 50 [u0, u1, some (.inl v2), u3] [] h) : J mX10_candle d 0 0 Q 0 0 45 [u0, u1, some (.inl v2), u3] [] h := by
  refine zrun 26 3 qX10_candle (o := 10) rfl ?_
  show ((¬ v2 = (nI 2) → J mX10_candle d 0 0 Q 0 0 57 [u0, u1, some (.inl v2), u3] [] h) ∧ (v2 = (nI 2) → J mX10_candle d 0 0 Q 0 0 50 [u0, u1, some (.inl v2), u3] [] h))
  exact ⟨k1, k2⟩

theorem bX10_candle_50 {d : Nat} {Q : Option MV → MH → Prop} {h : MH} {u0 u2 : Option MV} {v1 : Int32} {v3 : Nat} (hr : zRf h) (g0 : zokO h v3 2) (g1 : vp_in v1 8) (k : Q (some (.inl (h.1 (v3 + 3) v1.toNatClampNeg))) h) : J mX10_candle d 0 0 Q 0 0 50 [u0, some (.inl v1), u2, some (.inr (.inr v3))] [] h := by
  refine zrun 29 4 qX10_candle (o := 10) rfl ?_
  show zokO h v3 2 ∧ zokA h (h.2.2.1 v3 3) 20 v1 ∧ J mX10_candle d 0 0 Q 0 0 56 [u0, some (.inl v1), u2, some (.inr (.inr v3))] [.inl (h.1 (h.2.2.1 v3 3) v1.toNatClampNeg)] h
  rw [(show h.2.2.1 v3 3 = (v3 + 3) from (hr.f2 3 g0 (by decide)))]
  exact ⟨g0, (zca hr g0 (by decide) (by decide) g1), J_iret (ty := .int) (zat qX10_candle 33 (by rfl)) rfl rfl (Nat.le_refl 0) (Nat.le_refl 0) k⟩

theorem bX10_candle_57 {d : Nat} {Q : Option MV → MH → Prop} {h : MH} {u0 u1 u3 : Option MV} {v2 : Int32} (k1 : ¬ v2 = (nI 3) → J mX10_candle d 0 0 Q 0 0 69 [u0, u1, some (.inl v2), u3] [] h) (k2 : v2 = (nI 3) → J mX10_candle d 0 0 Q 0 0 62 [u0, u1, some (.inl v2), u3] [] h) : J mX10_candle d 0 0 Q 0 0 57 [u0, u1, some (.inl v2), u3] [] h := by
  refine zrun 34 3 qX10_candle (o := 10) rfl ?_
  show ((¬ v2 = (nI 3) → J mX10_candle d 0 0 Q 0 0 69 [u0, u1, some (.inl v2), u3] [] h) ∧ (v2 = (nI 3) → J mX10_candle d 0 0 Q 0 0 62 [u0, u1, some (.inl v2), u3] [] h))
  exact ⟨k1, k2⟩

theorem bX10_candle_62 {d : Nat} {Q : Option MV → MH → Prop} {h : MH} {u0 u2 : Option MV} {v1 : Int32} {v3 : Nat} (hr : zRf h) (g0 : zokO h v3 2) (g1 : vp_in v1 8) (k : Q (some (.inl (h.1 (v3 + 4) v1.toNatClampNeg))) h) : J mX10_candle d 0 0 Q 0 0 62 [u0, some (.inl v1), u2, some (.inr (.inr v3))] [] h := by
  refine zrun 37 4 qX10_candle (o := 10) rfl ?_
  show zokO h v3 2 ∧ zokA h (h.2.2.1 v3 4) 20 v1 ∧ J mX10_candle d 0 0 Q 0 0 68 [u0, some (.inl v1), u2, some (.inr (.inr v3))] [.inl (h.1 (h.2.2.1 v3 4) v1.toNatClampNeg)] h
  rw [(show h.2.2.1 v3 4 = (v3 + 4) from (hr.f2 4 g0 (by decide)))]
  exact ⟨g0, (zca hr g0 (by decide) (by decide) g1), J_iret (ty := .int) (zat qX10_candle 41 (by rfl)) rfl rfl (Nat.le_refl 0) (Nat.le_refl 0) k⟩

theorem bX10_candle_69 {d : Nat} {Q : Option MV → MH → Prop} {h : MH} {u0 u1 u3 : Option MV} {v2 : Int32} (k1 : v2 < (nI 10) → J mX10_candle d 0 0 Q 0 0 88 [u0, u1, some (.inl v2), u3] [] h) (k2 : ¬ v2 < (nI 10) → J mX10_candle d 0 0 Q 0 0 75 [u0, u1, some (.inl v2), u3] [] h) : J mX10_candle d 0 0 Q 0 0 69 [u0, u1, some (.inl v2), u3] [] h := by
  refine zrun 42 3 qX10_candle (o := 10) rfl ?_
  show ((v2 < (nI 10) → J mX10_candle d 0 0 Q 0 0 88 [u0, u1, some (.inl v2), u3] [] h) ∧ (¬ v2 < (nI 10) → J mX10_candle d 0 0 Q 0 0 75 [u0, u1, some (.inl v2), u3] [] h))
  exact ⟨k1, k2⟩

theorem bX10_candle_75 {d : Nat} {Q : Option MV → MH → Prop} {h : MH} {u0 : Option MV} {v2 v1 : Int32} {v3 : Nat} (hr : zRf h) (g0 : zokO h v3 2) (g1 : vp_in v1 8) (k1 : (v2 - (nI 10)) < (h.1 (v3 + 1) v1.toNatClampNeg) → J mX10_candle d 0 0 Q 0 0 91 [u0, some (.inl v1), some (.inl v2), some (.inr (.inr v3))] [] h) (k2 : ¬ (v2 - (nI 10)) < (h.1 (v3 + 1) v1.toNatClampNeg) → J mX10_candle d 0 0 Q 0 0 88 [u0, some (.inl v1), some (.inl v2), some (.inr (.inr v3))] [] h) : J mX10_candle d 0 0 Q 0 0 75 [u0, some (.inl v1), some (.inl v2), some (.inr (.inr v3))] [] h := by
  refine zrun 45 8 qX10_candle (o := 10) rfl ?_
  show zokO h v3 2 ∧ zokA h (h.2.2.1 v3 1) 20 v1 ∧ (((v2 - (nI 10)) < (h.1 (h.2.2.1 v3 1) v1.toNatClampNeg) → J mX10_candle d 0 0 Q 0 0 91 [u0, some (.inl v1), some (.inl v2), some (.inr (.inr v3))] [] h) ∧ (¬ (v2 - (nI 10)) < (h.1 (h.2.2.1 v3 1) v1.toNatClampNeg) → J mX10_candle d 0 0 Q 0 0 88 [u0, some (.inl v1), some (.inl v2), some (.inr (.inr v3))] [] h))
  rw [(show h.2.2.1 v3 1 = (v3 + 1) from (hr.f2 1 g0 (by decide)))]
  exact ⟨g0, (zca hr g0 (by decide) (by decide) g1), k1, k2⟩

theorem bX10_candle_88 {d : Nat} {Q : Option MV → MH → Prop} {h : MH} {u0 u1 u2 u3 : Option MV} (k : Q (some (.inl (-(nI 2)))) h) : J mX10_candle d 0 0 Q 0 0 88 [u0, u1, u2, u3] [] h := by
  refine zrun 53 1 qX10_candle (o := 10) rfl ?_
  show J mX10_candle d 0 0 Q 0 0 90 [u0, u1, u2, u3] [.inl (-(nI 2))] h
  exact J_iret (ty := .int) (zat qX10_candle 54 (by rfl)) rfl rfl (Nat.le_refl 0) (Nat.le_refl 0) k

theorem bX10_candle_91 {d d' : Nat} {Q : Option MV → MH → Prop} {h : MH} {u0 : Option MV} {v1 v2 : Int32} {v3 : Nat} (gr : zokO h v3 2) (hd : d' + 1 ≤ d) (k : Con mX2_sparksOfPiece d' 0 0 [.inr (.inr v3), .inl v1, .inl (v2 - (nI 10))] h (zri fun (x : Int32) h' => J mX10_candle d 0 0 Q 0 0 100 [u0, some (.inl v1), some (.inl v2), some (.inr (.inr v3))] [.inl x] h')) : J mX10_candle d 0 0 Q 0 0 91 [u0, some (.inl v1), some (.inl v2), some (.inr (.inr v3))] [] h := by
  refine zrun 55 5 qX10_candle (o := 10) rfl ?_
  show J mX10_candle d 0 0 Q 0 0 97 [u0, some (.inl v1), some (.inl v2), some (.inr (.inr v3))] [.inl (v2 - (nI 10)), .inl v1, .inr (.inr v3)] h
  exact zcVi (as := [.inl v1, .inl (v2 - (nI 10))]) (zat qX10_candle 60 (by rfl)) l10_164 rfl hd rfl (Nat.le_of_ble_eq_true rfl) zle0 (ci := 2) (by decide) rfl gr k

theorem bX10_candle_100 {d : Nat} {Q : Option MV → MH → Prop} {h : MH} {u0 u1 u2 u3 : Option MV} {vs0 : Int32} (k : Q (some (.inl (vs0 / (nI 256)))) h) : J mX10_candle d 0 0 Q 0 0 100 [u0, u1, u2, u3] [.inl vs0] h := by
  refine zrun 61 2 qX10_candle (o := 10) rfl ?_
  show ¬ (nI 256) = 0 ∧ J mX10_candle d 0 0 Q 0 0 104 [u0, u1, u2, u3] [.inl (vs0 / (nI 256))] h
  exact ⟨(by decide), J_iret (ty := .int) (zat qX10_candle 63 (by rfl)) rfl rfl (Nat.le_refl 0) (Nat.le_refl 0) k⟩

theorem bX10_forgetCellar_0 {d : Nat} {Q : Option MV → MH → Prop} {h : MH} (hr : zRf h) (k : Q none (zsI (zsI (zsI (zsI h 58 0 (-(nI 1))) 97 0 (nI 0)) 99 0 (nI 0)) 101 0 (nI 0))) : J mX10_forgetCellar d 0 0 Q 0 0 0 [some (.inr (.inr 1))] [] h := by
  refine zrun 0 16 qX10_forgetCellar (o := 10) rfl ?_
  show zokO h 1 10 ∧ zokO h (h.2.2.1 1 9) 4 ∧ zokO (zsI h (h.2.2.1 1 9) 0 (-(nI 1))) 1 10 ∧ zokO (zsI h (h.2.2.1 1 9) 0 (-(nI 1))) (h.2.2.1 1 12) 3 ∧ zokO (zsI (zsI h (h.2.2.1 1 9) 0 (-(nI 1))) (h.2.2.1 1 12) 0 (nI 0)) 1 10 ∧ zokO (zsI (zsI h (h.2.2.1 1 9) 0 (-(nI 1))) (h.2.2.1 1 12) 0 (nI 0)) (h.2.2.1 1 13) 3 ∧ zokO (zsI (zsI (zsI h (h.2.2.1 1 9) 0 (-(nI 1))) (h.2.2.1 1 12) 0 (nI 0)) (h.2.2.1 1 13) 0 (nI 0)) 1 10 ∧ zokO (zsI (zsI (zsI h (h.2.2.1 1 9) 0 (-(nI 1))) (h.2.2.1 1 12) 0 (nI 0)) (h.2.2.1 1 13) 0 (nI 0)) (h.2.2.1 1 14) 3 ∧ J mX10_forgetCellar d 0 0 Q 0 0 32 [some (.inr (.inr 1))] [] (zsI (zsI (zsI (zsI h (h.2.2.1 1 9) 0 (-(nI 1))) (h.2.2.1 1 12) 0 (nI 0)) (h.2.2.1 1 13) 0 (nI 0)) (h.2.2.1 1 14) 0 (nI 0))
  rw [(show h.2.2.1 1 9 = 58 from (hr.at (by decide) (by decide) (by rfl))), (show h.2.2.1 1 12 = 97 from (hr.at (by decide) (by decide) (by rfl))), (show h.2.2.1 1 13 = 99 from (hr.at (by decide) (by decide) (by rfl))), (show h.2.2.1 1 14 = 101 from (hr.at (by decide) (by decide) (by rfl)))]
  exact ⟨(zo hr (by decide) rfl), (zo hr (by decide) rfl), (zo hr (by decide) rfl), (zo hr (by decide) rfl), (zo hr (by decide) rfl), (zo hr (by decide) rfl), (zo hr (by decide) rfl), (zo hr (by decide) rfl), J_vret (zat qX10_forgetCellar 16 (by rfl)) rfl (Nat.le_refl 0) (Nat.le_refl 0) k⟩

theorem bX10_isPlan_0 {d : Nat} {Q : Option MV → MH → Prop} {h : MH} {v0 : Int32} (k1 : v0 < 0 → J mX10_isPlan d 0 0 Q 0 0 13 [some (.inl v0)] [] h) (k2 : ¬ v0 < 0 → J mX10_isPlan d 0 0 Q 0 0 4 [some (.inl v0)] [] h) : J mX10_isPlan d 0 0 Q 0 0 0 [some (.inl v0)] [] h := by
  refine zrun 0 2 qX10_isPlan (o := 10) rfl ?_
  show ((v0 < 0 → J mX10_isPlan d 0 0 Q 0 0 13 [some (.inl v0)] [] h) ∧ (¬ v0 < 0 → J mX10_isPlan d 0 0 Q 0 0 4 [some (.inl v0)] [] h))
  exact ⟨k1, k2⟩

theorem bX10_isPlan_4 {d : Nat} {Q : Option MV → MH → Prop} {h : MH} {v0 : Int32} (k1 : (nI 4) ≤ v0 → J mX10_isPlan d 0 0 Q 0 0 13 [some (.inl v0)] [] h) (k2 : ¬ (nI 4) ≤ v0 → J mX10_isPlan d 0 0 Q 0 0 9 [some (.inl v0)] [] h) : J mX10_isPlan d 0 0 Q 0 0 4 [some (.inl v0)] [] h := by
  refine zrun 2 3 qX10_isPlan (o := 10) rfl ?_
  show (((nI 4) ≤ v0 → J mX10_isPlan d 0 0 Q 0 0 13 [some (.inl v0)] [] h) ∧ (¬ (nI 4) ≤ v0 → J mX10_isPlan d 0 0 Q 0 0 9 [some (.inl v0)] [] h))
  exact ⟨k1, k2⟩

theorem bX10_isPlan_9 {d : Nat} {Q : Option MV → MH → Prop} {h : MH} {u0 : Option MV} (k : J mX10_isPlan d 0 0 Q 0 0 14 [u0] [.inl (nI 1)] h) : J mX10_isPlan d 0 0 Q 0 0 9 [u0] [] h := by
  refine zrun 5 2 qX10_isPlan (o := 10) rfl ?_
  show J mX10_isPlan d 0 0 Q 0 0 14 [u0] [.inl (nI 1)] h
  exact k

theorem bX10_isPlan_13 {d : Nat} {Q : Option MV → MH → Prop} {h : MH} {u0 : Option MV} (k : J mX10_isPlan d 0 0 Q 0 0 14 [u0] [.inl (nI 0)] h) : J mX10_isPlan d 0 0 Q 0 0 13 [u0] [] h := by
  refine zrun 7 1 qX10_isPlan (o := 10) rfl ?_
  show J mX10_isPlan d 0 0 Q 0 0 14 [u0] [.inl (nI 0)] h
  exact k

theorem bX10_isPlan_14 {d : Nat} {Q : Option MV → MH → Prop} {h : MH} {u0 : Option MV} {vs0 : Int32} (gn : vs0 = 0 ∨ vs0 = 1) (k : Q (some (.inl vs0)) h) : J mX10_isPlan d 0 0 Q 0 0 14 [u0] [.inl vs0] h := by
  exact J_iret (ty := .boolean) (zat qX10_isPlan 8 (by rfl)) rfl (znz gn) (Nat.le_refl 0) (Nat.le_refl 0) k

theorem bX10_length_0 {d d' : Nat} {Q : Option MV → MH → Prop} {h : MH} {u3 : Option MV} {v2 v1 : Int32} (hr : zRf h) (hd : d' + 1 ≤ d) (k : Con mX2_has d' 0 0 [.inr (.inr 16), .inl v1] h (zri fun (x : Int32) h' => J mX10_length d 0 0 Q 0 0 13 [some (.inr (.inr 1)), some (.inl v1), some (.inl v2), some (.inr (.inr 16))] [.inl x] h')) : J mX10_length d 0 0 Q 0 0 0 [some (.inr (.inr 1)), some (.inl v1), some (.inl v2), u3] [] h := by
  refine zrun 0 6 qX10_length (o := 10) rfl ?_
  show zokO h 1 10 ∧ zokO h (h.2.2.1 1 4) 1 ∧ J mX10_length d 0 0 Q 0 0 10 [some (.inr (.inr 1)), some (.inl v1), some (.inl v2), some (.inr (.inr (h.2.2.1 (h.2.2.1 1 4) 0)))] [.inl v1, .inr (.inr (h.2.2.1 (h.2.2.1 1 4) 0))] h
  rw [(show h.2.2.1 1 4 = 15 from (hr.at (by decide) (by decide) (by rfl))), (show h.2.2.1 15 0 = 16 from (hr.at (by decide) (by decide) (by rfl)))]
  exact ⟨(zo hr (by decide) rfl), (zo hr (by decide) rfl), zcVi (as := [.inl v1]) (zat qX10_length 6 (by rfl)) l10_148 rfl hd rfl (Nat.le_of_ble_eq_true rfl) zle0 (ci := 2) (by decide) rfl (zo hr (by decide) rfl) k⟩

theorem bX10_length_13 {d : Nat} {Q : Option MV → MH → Prop} {h : MH} {u0 u1 u2 u3 : Option MV} {vs0 : Int32} (k1 : ¬ vs0 = 0 → J mX10_length d 0 0 Q 0 0 19 [u0, u1, u2, u3] [] h) (k2 : vs0 = 0 → J mX10_length d 0 0 Q 0 0 16 [u0, u1, u2, u3] [] h) : J mX10_length d 0 0 Q 0 0 13 [u0, u1, u2, u3] [.inl vs0] h := by
  refine zrun 7 1 qX10_length (o := 10) rfl ?_
  show ((¬ vs0 = 0 → J mX10_length d 0 0 Q 0 0 19 [u0, u1, u2, u3] [] h) ∧ (vs0 = 0 → J mX10_length d 0 0 Q 0 0 16 [u0, u1, u2, u3] [] h))
  exact ⟨k1, k2⟩

theorem bX10_length_16 {d : Nat} {Q : Option MV → MH → Prop} {h : MH} {u0 u1 u2 u3 : Option MV} (k : Q (some (.inl (-(nI 2)))) h) : J mX10_length d 0 0 Q 0 0 16 [u0, u1, u2, u3] [] h := by
  refine zrun 8 1 qX10_length (o := 10) rfl ?_
  show J mX10_length d 0 0 Q 0 0 18 [u0, u1, u2, u3] [.inl (-(nI 2))] h
  exact J_iret (ty := .int) (zat qX10_length 9 (by rfl)) rfl rfl (Nat.le_refl 0) (Nat.le_refl 0) k

theorem bX10_length_19 {d : Nat} {Q : Option MV → MH → Prop} {h : MH} {u0 u1 u3 : Option MV} {v2 : Int32} (k1 : v2 < 0 → J mX10_length d 0 0 Q 0 0 32 [u0, u1, some (.inl v2), u3] [] h) (k2 : ¬ v2 < 0 → J mX10_length d 0 0 Q 0 0 23 [u0, u1, some (.inl v2), u3] [] h) : J mX10_length d 0 0 Q 0 0 19 [u0, u1, some (.inl v2), u3] [] h := by
  refine zrun 10 2 qX10_length (o := 10) rfl ?_
  show ((v2 < 0 → J mX10_length d 0 0 Q 0 0 32 [u0, u1, some (.inl v2), u3] [] h) ∧ (¬ v2 < 0 → J mX10_length d 0 0 Q 0 0 23 [u0, u1, some (.inl v2), u3] [] h))
  exact ⟨k1, k2⟩

theorem bX10_length_23 {d d' : Nat} {Q : Option MV → MH → Prop} {h : MH} {u0 : Option MV} {v2 v1 : Int32} {v3 : Nat} (gr : zokO h v3 2) (hd : d' + 1 ≤ d) (k : Con mX2_sparksOf d' 0 0 [.inr (.inr v3), .inl v1] h (zri fun (x : Int32) h' => J mX10_length d 0 0 Q 0 0 29 [u0, some (.inl v1), some (.inl v2), some (.inr (.inr v3))] [.inl x, .inl v2] h')) : J mX10_length d 0 0 Q 0 0 23 [u0, some (.inl v1), some (.inl v2), some (.inr (.inr v3))] [] h := by
  refine zrun 12 3 qX10_length (o := 10) rfl ?_
  show J mX10_length d 0 0 Q 0 0 26 [u0, some (.inl v1), some (.inl v2), some (.inr (.inr v3))] [.inl v1, .inr (.inr v3), .inl v2] h
  exact zcVi (as := [.inl v1]) (zat qX10_length 15 (by rfl)) l10_154 rfl hd rfl (Nat.le_of_ble_eq_true rfl) zle0 (ci := 2) (by decide) rfl gr k

theorem bX10_length_29 {d : Nat} {Q : Option MV → MH → Prop} {h : MH} {u0 u1 u2 u3 : Option MV} {vs0 vs1 : Int32} (k1 : vs0 ≤ vs1 → J mX10_length d 0 0 Q 0 0 35 [u0, u1, u2, u3] [] h) (k2 : ¬ vs0 ≤ vs1 → J mX10_length d 0 0 Q 0 0 32 [u0, u1, u2, u3] [] h) : J mX10_length d 0 0 Q 0 0 29 [u0, u1, u2, u3] [.inl vs1, .inl vs0] h := by
  refine zrun 16 1 qX10_length (o := 10) rfl ?_
  show ((vs0 ≤ vs1 → J mX10_length d 0 0 Q 0 0 35 [u0, u1, u2, u3] [] h) ∧ (¬ vs0 ≤ vs1 → J mX10_length d 0 0 Q 0 0 32 [u0, u1, u2, u3] [] h))
  exact ⟨k1, k2⟩

theorem bX10_length_32 {d : Nat} {Q : Option MV → MH → Prop} {h : MH} {u0 u1 u2 u3 : Option MV} (k : Q (some (.inl (-(nI 3)))) h) : J mX10_length d 0 0 Q 0 0 32 [u0, u1, u2, u3] [] h := by
  refine zrun 17 1 qX10_length (o := 10) rfl ?_
  show J mX10_length d 0 0 Q 0 0 34 [u0, u1, u2, u3] [.inl (-(nI 3))] h
  exact J_iret (ty := .int) (zat qX10_length 18 (by rfl)) rfl rfl (Nat.le_refl 0) (Nat.le_refl 0) k

theorem bX10_length_35 {d d' : Nat} {Q : Option MV → MH → Prop} {h : MH} {u0 : Option MV} {v1 v2 : Int32} {v3 : Nat} (gr : zokO h v3 2) (hd : d' + 1 ≤ d) (k : Con mX2_thousandths d' 0 0 [.inr (.inr v3), .inl v1, .inl v2, .inl (nI 1)] h (zri fun (x : Int32) h' => J mX10_length d 0 0 Q 0 0 42 [u0, some (.inl v1), some (.inl v2), some (.inr (.inr v3))] [.inl x] h')) : J mX10_length d 0 0 Q 0 0 35 [u0, some (.inl v1), some (.inl v2), some (.inr (.inr v3))] [] h := by
  refine zrun 19 4 qX10_length (o := 10) rfl ?_
  show J mX10_length d 0 0 Q 0 0 39 [u0, some (.inl v1), some (.inl v2), some (.inr (.inr v3))] [.inl (nI 1), .inl v2, .inl v1, .inr (.inr v3)] h
  exact zcVi (as := [.inl v1, .inl v2, .inl (nI 1)]) (zat qX10_length 23 (by rfl)) l10_171 rfl hd rfl (Nat.le_of_ble_eq_true rfl) zle0 (ci := 2) (by decide) rfl gr k

theorem bX10_length_42 {d : Nat} {Q : Option MV → MH → Prop} {h : MH} {u0 u1 u2 u3 : Option MV} {vs0 : Int32} (k : Q (some (.inl vs0)) h) : J mX10_length d 0 0 Q 0 0 42 [u0, u1, u2, u3] [.inl vs0] h := by
  exact J_iret (ty := .int) (zat qX10_length 24 (by rfl)) rfl rfl (Nat.le_refl 0) (Nat.le_refl 0) k

theorem bX10_meet_0 {d d' : Nat} {Q : Option MV → MH → Prop} {h : MH} {u2 : Option MV} {v1 : Int32} (hr : zRf h) (hd : d' + 1 ≤ d) (k : Con mX2_has d' 0 0 [.inr (.inr 16), .inl v1] h (zri fun (x : Int32) h' => J mX10_meet d 0 0 Q 0 0 13 [some (.inr (.inr 1)), some (.inl v1), some (.inr (.inr 16))] [.inl x] h')) : J mX10_meet d 0 0 Q 0 0 0 [some (.inr (.inr 1)), some (.inl v1), u2] [] h := by
  refine zrun 0 6 qX10_meet (o := 10) rfl ?_
  show zokO h 1 10 ∧ zokO h (h.2.2.1 1 4) 1 ∧ J mX10_meet d 0 0 Q 0 0 10 [some (.inr (.inr 1)), some (.inl v1), some (.inr (.inr (h.2.2.1 (h.2.2.1 1 4) 0)))] [.inl v1, .inr (.inr (h.2.2.1 (h.2.2.1 1 4) 0))] h
  rw [(show h.2.2.1 1 4 = 15 from (hr.at (by decide) (by decide) (by rfl))), (show h.2.2.1 15 0 = 16 from (hr.at (by decide) (by decide) (by rfl)))]
  exact ⟨(zo hr (by decide) rfl), (zo hr (by decide) rfl), zcVi (as := [.inl v1]) (zat qX10_meet 6 (by rfl)) l10_148 rfl hd rfl (Nat.le_of_ble_eq_true rfl) zle0 (ci := 2) (by decide) rfl (zo hr (by decide) rfl) k⟩

theorem bX10_meet_13 {d : Nat} {Q : Option MV → MH → Prop} {h : MH} {u0 u1 u2 : Option MV} {vs0 : Int32} (k1 : ¬ vs0 = 0 → J mX10_meet d 0 0 Q 0 0 19 [u0, u1, u2] [] h) (k2 : vs0 = 0 → J mX10_meet d 0 0 Q 0 0 16 [u0, u1, u2] [] h) : J mX10_meet d 0 0 Q 0 0 13 [u0, u1, u2] [.inl vs0] h := by
  refine zrun 7 1 qX10_meet (o := 10) rfl ?_
  show ((¬ vs0 = 0 → J mX10_meet d 0 0 Q 0 0 19 [u0, u1, u2] [] h) ∧ (vs0 = 0 → J mX10_meet d 0 0 Q 0 0 16 [u0, u1, u2] [] h))
  exact ⟨k1, k2⟩

theorem bX10_meet_16 {d : Nat} {Q : Option MV → MH → Prop} {h : MH} {u0 u1 u2 : Option MV} (k : Q (some (.inl (-(nI 2)))) h) : J mX10_meet d 0 0 Q 0 0 16 [u0, u1, u2] [] h := by
  refine zrun 8 1 qX10_meet (o := 10) rfl ?_
  show J mX10_meet d 0 0 Q 0 0 18 [u0, u1, u2] [.inl (-(nI 2))] h
  exact J_iret (ty := .int) (zat qX10_meet 9 (by rfl)) rfl rfl (Nat.le_refl 0) (Nat.le_refl 0) k

theorem bX10_meet_19 {d d' : Nat} {Q : Option MV → MH → Prop} {h : MH} {u0 : Option MV} {v1 : Int32} {v2 : Nat} (gr : zokO h v2 2) (hd : d' + 1 ≤ d) (k : Con mX2_sparksOf d' 0 0 [.inr (.inr v2), .inl v1] h (zri fun (x : Int32) h' => J mX10_meet d 0 0 Q 0 0 26 [u0, some (.inl v1), some (.inr (.inr v2))] [.inl x, .inl v1, .inr (.inr v2)] h')) : J mX10_meet d 0 0 Q 0 0 19 [u0, some (.inl v1), some (.inr (.inr v2))] [] h := by
  refine zrun 10 4 qX10_meet (o := 10) rfl ?_
  show J mX10_meet d 0 0 Q 0 0 23 [u0, some (.inl v1), some (.inr (.inr v2))] [.inl v1, .inr (.inr v2), .inl v1, .inr (.inr v2)] h
  exact zcVi (as := [.inl v1]) (zat qX10_meet 14 (by rfl)) l10_154 rfl hd rfl (Nat.le_of_ble_eq_true rfl) zle0 (ci := 2) (by decide) rfl gr k

theorem bX10_meet_26 {d d' : Nat} {Q : Option MV → MH → Prop} {h : MH} {u0 u1 u2 : Option MV} {vs1 vs2 : Int32} {vs0 : Nat} (gr : zokO h vs0 2) (hd : d' + 1 ≤ d) (k : Con mX2_thousandths d' 0 0 [.inr (.inr vs0), .inl vs1, .inl (vs2 / (nI 2)), .inl (nI 0)] h (zri fun (x : Int32) h' => J mX10_meet d 0 0 Q 0 0 32 [u0, u1, u2] [.inl x] h')) : J mX10_meet d 0 0 Q 0 0 26 [u0, u1, u2] [.inl vs2, .inl vs1, .inr (.inr vs0)] h := by
  refine zrun 15 3 qX10_meet (o := 10) rfl ?_
  show ¬ (nI 2) = 0 ∧ J mX10_meet d 0 0 Q 0 0 29 [u0, u1, u2] [.inl (nI 0), .inl (vs2 / (nI 2)), .inl vs1, .inr (.inr vs0)] h
  exact ⟨(by decide), zcVi (as := [.inl vs1, .inl (vs2 / (nI 2)), .inl (nI 0)]) (zat qX10_meet 18 (by rfl)) l10_171 rfl hd rfl (Nat.le_of_ble_eq_true rfl) zle0 (ci := 2) (by decide) rfl gr k⟩

theorem bX10_meet_32 {d : Nat} {Q : Option MV → MH → Prop} {h : MH} {u0 u1 u2 : Option MV} {vs0 : Int32} (k : Q (some (.inl vs0)) h) : J mX10_meet d 0 0 Q 0 0 32 [u0, u1, u2] [.inl vs0] h := by
  exact J_iret (ty := .int) (zat qX10_meet 19 (by rfl)) rfl rfl (Nat.le_refl 0) (Nat.le_refl 0) k

theorem bX10_halves_0 {d d' : Nat} {Q : Option MV → MH → Prop} {h : MH} {u2 u3 u4 u5 : Option MV} {v1 : Int32} (hr : zRf h) (hd : d' + 1 ≤ d) (k : Con mX2_has d' 0 0 [.inr (.inr 16), .inl v1] h (zri fun (x : Int32) h' => J mX10_halves d 0 0 Q 0 0 13 [some (.inr (.inr 1)), some (.inl v1), some (.inr (.inr 16)), u3, u4, u5] [.inl x] h')) : J mX10_halves d 0 0 Q 0 0 0 [some (.inr (.inr 1)), some (.inl v1), u2, u3, u4, u5] [] h := by
  refine zrun 0 6 qX10_halves (o := 10) rfl ?_
  show zokO h 1 10 ∧ zokO h (h.2.2.1 1 4) 1 ∧ J mX10_halves d 0 0 Q 0 0 10 [some (.inr (.inr 1)), some (.inl v1), some (.inr (.inr (h.2.2.1 (h.2.2.1 1 4) 0))), u3, u4, u5] [.inl v1, .inr (.inr (h.2.2.1 (h.2.2.1 1 4) 0))] h
  rw [(show h.2.2.1 1 4 = 15 from (hr.at (by decide) (by decide) (by rfl))), (show h.2.2.1 15 0 = 16 from (hr.at (by decide) (by decide) (by rfl)))]
  exact ⟨(zo hr (by decide) rfl), (zo hr (by decide) rfl), zcVi (as := [.inl v1]) (zat qX10_halves 6 (by rfl)) l10_148 rfl hd rfl (Nat.le_of_ble_eq_true rfl) zle0 (ci := 2) (by decide) rfl (zo hr (by decide) rfl) k⟩

theorem bX10_halves_13 {d : Nat} {Q : Option MV → MH → Prop} {h : MH} {u0 u1 u2 u3 u4 u5 : Option MV} {vs0 : Int32} (k1 : ¬ vs0 = 0 → J mX10_halves d 0 0 Q 0 0 19 [u0, u1, u2, u3, u4, u5] [] h) (k2 : vs0 = 0 → J mX10_halves d 0 0 Q 0 0 16 [u0, u1, u2, u3, u4, u5] [] h) : J mX10_halves d 0 0 Q 0 0 13 [u0, u1, u2, u3, u4, u5] [.inl vs0] h := by
  refine zrun 7 1 qX10_halves (o := 10) rfl ?_
  show ((¬ vs0 = 0 → J mX10_halves d 0 0 Q 0 0 19 [u0, u1, u2, u3, u4, u5] [] h) ∧ (vs0 = 0 → J mX10_halves d 0 0 Q 0 0 16 [u0, u1, u2, u3, u4, u5] [] h))
  exact ⟨k1, k2⟩

theorem bX10_halves_16 {d : Nat} {Q : Option MV → MH → Prop} {h : MH} {u0 u1 u2 u3 u4 u5 : Option MV} (k : Q (some (.inl (-(nI 2)))) h) : J mX10_halves d 0 0 Q 0 0 16 [u0, u1, u2, u3, u4, u5] [] h := by
  refine zrun 8 1 qX10_halves (o := 10) rfl ?_
  show J mX10_halves d 0 0 Q 0 0 18 [u0, u1, u2, u3, u4, u5] [.inl (-(nI 2))] h
  exact J_iret (ty := .int) (zat qX10_halves 9 (by rfl)) rfl rfl (Nat.le_refl 0) (Nat.le_refl 0) k

theorem bX10_halves_19 {d : Nat} {Q : Option MV → MH → Prop} {h : MH} {u0 u1 u3 u4 u5 : Option MV} {v2 : Nat} (k : J mX10_halves d 0 0 Q 0 0 24 [u0, u1, some (.inr (.inr v2)), some (.inl (nI 0)), some (.inl (nI 0)), u5] [] h) : J mX10_halves d 0 0 Q 0 0 19 [u0, u1, some (.inr (.inr v2)), u3, u4, u5] [] h := by
  refine zrun 10 4 qX10_halves (o := 10) rfl ?_
  show J mX10_halves d 0 0 Q 0 0 24 [u0, u1, some (.inr (.inr v2)), some (.inl (nI 0)), some (.inl (nI 0)), u5] [] h
  exact k

theorem bX10_halves_24 {d : Nat} {Q : Option MV → MH → Prop} {h : MH} {u0 u3 u5 : Option MV} {v4 v1 : Int32} {v2 : Nat} (hr : zRf h) (g0 : zokO h v2 2) (g1 : vp_in v1 8) (k1 : (h.1 (v2 + 1) v1.toNatClampNeg) ≤ v4 → J mX10_halves d 0 0 Q 0 0 77 [u0, some (.inl v1), some (.inr (.inr v2)), u3, some (.inl v4), u5] [] h) (k2 : ¬ (h.1 (v2 + 1) v1.toNatClampNeg) ≤ v4 → J mX10_halves d 0 0 Q 0 0 35 [u0, some (.inl v1), some (.inr (.inr v2)), u3, some (.inl v4), u5] [] h) : J mX10_halves d 0 0 Q 0 0 24 [u0, some (.inl v1), some (.inr (.inr v2)), u3, some (.inl v4), u5] [] h := by
  refine zrun 14 6 qX10_halves (o := 10) rfl ?_
  show zokO h v2 2 ∧ zokA h (h.2.2.1 v2 1) 20 v1 ∧ (((h.1 (h.2.2.1 v2 1) v1.toNatClampNeg) ≤ v4 → J mX10_halves d 0 0 Q 0 0 77 [u0, some (.inl v1), some (.inr (.inr v2)), u3, some (.inl v4), u5] [] h) ∧ (¬ (h.1 (h.2.2.1 v2 1) v1.toNatClampNeg) ≤ v4 → J mX10_halves d 0 0 Q 0 0 35 [u0, some (.inl v1), some (.inr (.inr v2)), u3, some (.inl v4), u5] [] h))
  rw [(show h.2.2.1 v2 1 = (v2 + 1) from (hr.f2 1 g0 (by decide)))]
  exact ⟨g0, (zca hr g0 (by decide) (by decide) g1), k1, k2⟩

theorem bX10_halves_35 {d : Nat} {Q : Option MV → MH → Prop} {h : MH} {u0 u3 u5 : Option MV} {v1 v4 : Int32} {v2 : Nat} (hr : zRf h) (g0 : zokO h v2 2) (g1 : vp_in v1 8) (hd : 1 ≤ d) (k : J mX10_halves d 0 0 Q 0 0 51 [u0, some (.inl v1), some (.inr (.inr v2)), u3, some (.inl v4), u5] [.inl (if ((h.1 (v2 + 1) v1.toNatClampNeg) - ((nI 2) * v4)) < (nI 2) then ((h.1 (v2 + 1) v1.toNatClampNeg) - ((nI 2) * v4)) else (nI 2)), .inl (nI 0)] h) : J mX10_halves d 0 0 Q 0 0 35 [u0, some (.inl v1), some (.inr (.inr v2)), u3, some (.inl v4), u5] [] h := by
  refine zrun 20 10 qX10_halves (o := 10) rfl ?_
  show zokO h v2 2 ∧ zokA h (h.2.2.1 v2 1) 20 v1 ∧ J mX10_halves d 0 0 Q 0 0 48 [u0, some (.inl v1), some (.inr (.inr v2)), u3, some (.inl v4), u5] [.inl ((h.1 (h.2.2.1 v2 1) v1.toNatClampNeg) - ((nI 2) * v4)), .inl (nI 2), .inl (nI 0)] h
  rw [(show h.2.2.1 v2 1 = (v2 + 1) from (hr.f2 1 g0 (by decide)))]
  exact ⟨g0, (zca hr g0 (by decide) (by decide) g1), zmin (zat qX10_halves 30 (by rfl)) mm10_175 rfl hd (Nat.le_of_ble_eq_true rfl) zle0 k⟩

theorem bX10_halves_51 {d : Nat} {Q : Option MV → MH → Prop} {h : MH} {u0 u1 u2 u3 u4 u5 : Option MV} {vs0 vs1 : Int32} (hd : 1 ≤ d) (k : J mX10_halves d 0 0 Q 0 0 54 [u0, u1, u2, u3, u4, u5] [.inl (if vs0 < vs1 then vs1 else vs0)] h) : J mX10_halves d 0 0 Q 0 0 51 [u0, u1, u2, u3, u4, u5] [.inl vs1, .inl vs0] h := by
  exact zmax (zat qX10_halves 31 (by rfl)) mm10_180 rfl hd (Nat.le_of_ble_eq_true rfl) zle0 k

theorem bX10_halves_54 {d d' : Nat} {Q : Option MV → MH → Prop} {h : MH} {u0 u5 : Option MV} {vs0 v4 v3 v1 : Int32} {v2 : Nat} (gr : zokO h v2 2) (hd : d' + 1 ≤ d) (k : Con mX2_sparksOfPiece d' 0 0 [.inr (.inr v2), .inl v1, .inl v4] h (zri fun (x : Int32) h' => J mX10_halves d 0 0 Q 0 0 64 [u0, some (.inl v1), some (.inr (.inr v2)), some (.inl v3), some (.inl v4), some (.inl vs0)] [.inl x, .inl v3] h')) : J mX10_halves d 0 0 Q 0 0 54 [u0, some (.inl v1), some (.inr (.inr v2)), some (.inl v3), some (.inl v4), u5] [.inl vs0] h := by
  refine zrun 32 5 qX10_halves (o := 10) rfl ?_
  show J mX10_halves d 0 0 Q 0 0 61 [u0, some (.inl v1), some (.inr (.inr v2)), some (.inl v3), some (.inl v4), some (.inl vs0)] [.inl v4, .inl v1, .inr (.inr v2), .inl v3] h
  exact zcVi (as := [.inl v1, .inl v4]) (zat qX10_halves 37 (by rfl)) l10_164 rfl hd rfl (Nat.le_of_ble_eq_true rfl) zle0 (ci := 2) (by decide) rfl gr k

theorem bX10_halves_64 {d : Nat} {Q : Option MV → MH → Prop} {h : MH} {u0 u1 u3 : Option MV} {vs0 vs1 v5 v4 : Int32} {v2 : Nat} (k : J mX10_halves d 0 0 Q 0 0 24 [u0, u1, some (.inr (.inr v2)), some (.inl (vs0 + ((vs1 / (nI 2)) * v5))), some (.inl (v4 + nI 1)), some (.inl v5)] [] h) : J mX10_halves d 0 0 Q 0 0 64 [u0, u1, some (.inr (.inr v2)), u3, some (.inl v4), some (.inl v5)] [.inl vs1, .inl vs0] h := by
  refine zrun 38 8 qX10_halves (o := 10) rfl ?_
  show ¬ (nI 2) = 0 ∧ J mX10_halves d 0 0 Q 0 0 24 [u0, u1, some (.inr (.inr v2)), some (.inl (vs0 + ((vs1 / (nI 2)) * v5))), some (.inl (v4 + nI 1)), some (.inl v5)] [] h
  exact ⟨(by decide), k⟩

theorem bX10_halves_77 {d : Nat} {Q : Option MV → MH → Prop} {h : MH} {u0 u1 u2 u4 u5 : Option MV} {v3 : Int32} (k : Q (some (.inl v3)) h) : J mX10_halves d 0 0 Q 0 0 77 [u0, u1, u2, some (.inl v3), u4, u5] [] h := by
  refine zrun 46 1 qX10_halves (o := 10) rfl ?_
  show J mX10_halves d 0 0 Q 0 0 78 [u0, u1, u2, some (.inl v3), u4, u5] [.inl v3] h
  exact J_iret (ty := .int) (zat qX10_halves 47 (by rfl)) rfl rfl (Nat.le_refl 0) (Nat.le_refl 0) k

theorem bX10_piece_0 {d d' : Nat} {Q : Option MV → MH → Prop} {h : MH} {u2 u4 : Option MV} {v3 v1 : Int32} (hr : zRf h) (hd : d' + 1 ≤ d) (k : Con mX2_has d' 0 0 [.inr (.inr 16), .inl v1] h (zri fun (x : Int32) h' => J mX10_piece d 0 0 Q 0 0 15 [some (.inr (.inr 1)), some (.inl v1), u2, some (.inl v3), some (.inr (.inr 16))] [.inl x] h')) : J mX10_piece d 0 0 Q 0 0 0 [some (.inr (.inr 1)), some (.inl v1), u2, some (.inl v3), u4] [] h := by
  refine zrun 0 6 qX10_piece (o := 10) rfl ?_
  show zokO h 1 10 ∧ zokO h (h.2.2.1 1 4) 1 ∧ J mX10_piece d 0 0 Q 0 0 12 [some (.inr (.inr 1)), some (.inl v1), u2, some (.inl v3), some (.inr (.inr (h.2.2.1 (h.2.2.1 1 4) 0)))] [.inl v1, .inr (.inr (h.2.2.1 (h.2.2.1 1 4) 0))] h
  rw [(show h.2.2.1 1 4 = 15 from (hr.at (by decide) (by decide) (by rfl))), (show h.2.2.1 15 0 = 16 from (hr.at (by decide) (by decide) (by rfl)))]
  exact ⟨(zo hr (by decide) rfl), (zo hr (by decide) rfl), zcVi (as := [.inl v1]) (zat qX10_piece 6 (by rfl)) l10_148 rfl hd rfl (Nat.le_of_ble_eq_true rfl) zle0 (ci := 2) (by decide) rfl (zo hr (by decide) rfl) k⟩

theorem bX10_piece_15 {d : Nat} {Q : Option MV → MH → Prop} {h : MH} {u0 u1 u2 u3 u4 : Option MV} {vs0 : Int32} (k1 : ¬ vs0 = 0 → J mX10_piece d 0 0 Q 0 0 21 [u0, u1, u2, u3, u4] [] h) (k2 : vs0 = 0 → J mX10_piece d 0 0 Q 0 0 18 [u0, u1, u2, u3, u4] [] h) : J mX10_piece d 0 0 Q 0 0 15 [u0, u1, u2, u3, u4] [.inl vs0] h := by
  refine zrun 7 1 qX10_piece (o := 10) rfl ?_
  show ((¬ vs0 = 0 → J mX10_piece d 0 0 Q 0 0 21 [u0, u1, u2, u3, u4] [] h) ∧ (vs0 = 0 → J mX10_piece d 0 0 Q 0 0 18 [u0, u1, u2, u3, u4] [] h))
  exact ⟨k1, k2⟩

theorem bX10_piece_18 {d : Nat} {Q : Option MV → MH → Prop} {h : MH} {u0 u1 u2 u3 u4 : Option MV} (k : Q (some (.inl (-(nI 2)))) h) : J mX10_piece d 0 0 Q 0 0 18 [u0, u1, u2, u3, u4] [] h := by
  refine zrun 8 1 qX10_piece (o := 10) rfl ?_
  show J mX10_piece d 0 0 Q 0 0 20 [u0, u1, u2, u3, u4] [.inl (-(nI 2))] h
  exact J_iret (ty := .int) (zat qX10_piece 9 (by rfl)) rfl rfl (Nat.le_refl 0) (Nat.le_refl 0) k

theorem bX10_piece_21 {d : Nat} {Q : Option MV → MH → Prop} {h : MH} {u0 u1 u3 u4 : Option MV} {v2 : Int32} (k1 : v2 < 0 → J mX10_piece d 0 0 Q 0 0 35 [u0, u1, some (.inl v2), u3, u4] [] h) (k2 : ¬ v2 < 0 → J mX10_piece d 0 0 Q 0 0 25 [u0, u1, some (.inl v2), u3, u4] [] h) : J mX10_piece d 0 0 Q 0 0 21 [u0, u1, some (.inl v2), u3, u4] [] h := by
  refine zrun 10 2 qX10_piece (o := 10) rfl ?_
  show ((v2 < 0 → J mX10_piece d 0 0 Q 0 0 35 [u0, u1, some (.inl v2), u3, u4] [] h) ∧ (¬ v2 < 0 → J mX10_piece d 0 0 Q 0 0 25 [u0, u1, some (.inl v2), u3, u4] [] h))
  exact ⟨k1, k2⟩

theorem bX10_piece_25 {d d' : Nat} {Q : Option MV → MH → Prop} {h : MH} {u0 u3 : Option MV} {v2 v1 : Int32} {v4 : Nat} (gr : zokO h v4 2) (hd : d' + 1 ≤ d) (k : Con mX2_sparksOf d' 0 0 [.inr (.inr v4), .inl v1] h (zri fun (x : Int32) h' => J mX10_piece d 0 0 Q 0 0 32 [u0, some (.inl v1), some (.inl v2), u3, some (.inr (.inr v4))] [.inl x, .inl v2] h')) : J mX10_piece d 0 0 Q 0 0 25 [u0, some (.inl v1), some (.inl v2), u3, some (.inr (.inr v4))] [] h := by
  refine zrun 12 3 qX10_piece (o := 10) rfl ?_
  show J mX10_piece d 0 0 Q 0 0 29 [u0, some (.inl v1), some (.inl v2), u3, some (.inr (.inr v4))] [.inl v1, .inr (.inr v4), .inl v2] h
  exact zcVi (as := [.inl v1]) (zat qX10_piece 15 (by rfl)) l10_154 rfl hd rfl (Nat.le_of_ble_eq_true rfl) zle0 (ci := 2) (by decide) rfl gr k

theorem bX10_piece_32 {d : Nat} {Q : Option MV → MH → Prop} {h : MH} {u0 u1 u2 u3 u4 : Option MV} {vs0 vs1 : Int32} (k1 : vs0 ≤ vs1 → J mX10_piece d 0 0 Q 0 0 38 [u0, u1, u2, u3, u4] [] h) (k2 : ¬ vs0 ≤ vs1 → J mX10_piece d 0 0 Q 0 0 35 [u0, u1, u2, u3, u4] [] h) : J mX10_piece d 0 0 Q 0 0 32 [u0, u1, u2, u3, u4] [.inl vs1, .inl vs0] h := by
  refine zrun 16 1 qX10_piece (o := 10) rfl ?_
  show ((vs0 ≤ vs1 → J mX10_piece d 0 0 Q 0 0 38 [u0, u1, u2, u3, u4] [] h) ∧ (¬ vs0 ≤ vs1 → J mX10_piece d 0 0 Q 0 0 35 [u0, u1, u2, u3, u4] [] h))
  exact ⟨k1, k2⟩

theorem bX10_piece_35 {d : Nat} {Q : Option MV → MH → Prop} {h : MH} {u0 u1 u2 u3 u4 : Option MV} (k : Q (some (.inl (-(nI 3)))) h) : J mX10_piece d 0 0 Q 0 0 35 [u0, u1, u2, u3, u4] [] h := by
  refine zrun 17 1 qX10_piece (o := 10) rfl ?_
  show J mX10_piece d 0 0 Q 0 0 37 [u0, u1, u2, u3, u4] [.inl (-(nI 3))] h
  exact J_iret (ty := .int) (zat qX10_piece 18 (by rfl)) rfl rfl (Nat.le_refl 0) (Nat.le_refl 0) k

theorem bX10_piece_38 {d d' : Nat} {Q : Option MV → MH → Prop} {h : MH} {u0 : Option MV} {v1 v2 v3 : Int32} {v4 : Nat} (gr : zokO h v4 2) (hd : d' + 1 ≤ d) (k : Con mX2_nextPiece d' 0 0 [.inr (.inr v4), .inl v1, .inl v2, .inl v3] h (zri fun (x : Int32) h' => J mX10_piece d 0 0 Q 0 0 46 [u0, some (.inl v1), some (.inl v2), some (.inl v3), some (.inr (.inr v4))] [.inl x] h')) : J mX10_piece d 0 0 Q 0 0 38 [u0, some (.inl v1), some (.inl v2), some (.inl v3), some (.inr (.inr v4))] [] h := by
  refine zrun 19 4 qX10_piece (o := 10) rfl ?_
  show J mX10_piece d 0 0 Q 0 0 43 [u0, some (.inl v1), some (.inl v2), some (.inl v3), some (.inr (.inr v4))] [.inl v3, .inl v2, .inl v1, .inr (.inr v4)] h
  exact zcVi (as := [.inl v1, .inl v2, .inl v3]) (zat qX10_piece 23 (by rfl)) l10_183 rfl hd rfl (Nat.le_of_ble_eq_true rfl) zle0 (ci := 2) (by decide) rfl gr k

theorem bX10_piece_46 {d : Nat} {Q : Option MV → MH → Prop} {h : MH} {u0 u1 u2 u3 u4 : Option MV} {vs0 : Int32} (k : Q (some (.inl vs0)) h) : J mX10_piece d 0 0 Q 0 0 46 [u0, u1, u2, u3, u4] [.inl vs0] h := by
  exact J_iret (ty := .int) (zat qX10_piece 24 (by rfl)) rfl rfl (Nat.le_refl 0) (Nat.le_refl 0) k

theorem bX10_run_0 {d d' : Nat} {Q : Option MV → MH → Prop} {h : MH} {u0 u2 : Option MV} {v1 : Int32} (hd : d' + 1 ≤ d) (k : Con mX10_isPlan d' 0 0 [.inl v1] h (zri fun (x : Int32) h' => J mX10_run d 0 0 Q 0 0 4 [u0, some (.inl v1), u2] [.inl x] h')) : J mX10_run d 0 0 Q 0 0 0 [u0, some (.inl v1), u2] [] h := by
  refine zrun 0 1 qX10_run (o := 10) rfl ?_
  show J mX10_run d 0 0 Q 0 0 1 [u0, some (.inl v1), u2] [.inl v1] h
  exact zcSi (as := [.inl v1]) (zat qX10_run 1 (by rfl)) l10_124 rfl hd rfl (Nat.le_of_ble_eq_true rfl) zle0 k

theorem bX10_run_4 {d : Nat} {Q : Option MV → MH → Prop} {h : MH} {u0 u1 u2 : Option MV} {vs0 : Int32} (k1 : vs0 = 0 → J mX10_run d 0 0 Q 0 0 16 [u0, u1, u2] [] h) (k2 : ¬ vs0 = 0 → J mX10_run d 0 0 Q 0 0 7 [u0, u1, u2] [] h) : J mX10_run d 0 0 Q 0 0 4 [u0, u1, u2] [.inl vs0] h := by
  refine zrun 2 1 qX10_run (o := 10) rfl ?_
  show ((vs0 = 0 → J mX10_run d 0 0 Q 0 0 16 [u0, u1, u2] [] h) ∧ (¬ vs0 = 0 → J mX10_run d 0 0 Q 0 0 7 [u0, u1, u2] [] h))
  exact ⟨k1, k2⟩

theorem bX10_run_7 {d : Nat} {Q : Option MV → MH → Prop} {h : MH} {u0 u1 : Option MV} {v2 : Int32} (k1 : v2 < 0 → J mX10_run d 0 0 Q 0 0 16 [u0, u1, some (.inl v2)] [] h) (k2 : ¬ v2 < 0 → J mX10_run d 0 0 Q 0 0 11 [u0, u1, some (.inl v2)] [] h) : J mX10_run d 0 0 Q 0 0 7 [u0, u1, some (.inl v2)] [] h := by
  refine zrun 3 2 qX10_run (o := 10) rfl ?_
  show ((v2 < 0 → J mX10_run d 0 0 Q 0 0 16 [u0, u1, some (.inl v2)] [] h) ∧ (¬ v2 < 0 → J mX10_run d 0 0 Q 0 0 11 [u0, u1, some (.inl v2)] [] h))
  exact ⟨k1, k2⟩

theorem bX10_run_11 {d : Nat} {Q : Option MV → MH → Prop} {h : MH} {u0 u1 : Option MV} {v2 : Int32} (k1 : v2 ≤ (nI 4) → J mX10_run d 0 0 Q 0 0 19 [u0, u1, some (.inl v2)] [] h) (k2 : ¬ v2 ≤ (nI 4) → J mX10_run d 0 0 Q 0 0 16 [u0, u1, some (.inl v2)] [] h) : J mX10_run d 0 0 Q 0 0 11 [u0, u1, some (.inl v2)] [] h := by
  refine zrun 5 3 qX10_run (o := 10) rfl ?_
  show ((v2 ≤ (nI 4) → J mX10_run d 0 0 Q 0 0 19 [u0, u1, some (.inl v2)] [] h) ∧ (¬ v2 ≤ (nI 4) → J mX10_run d 0 0 Q 0 0 16 [u0, u1, some (.inl v2)] [] h))
  exact ⟨k1, k2⟩

theorem bX10_run_16 {d : Nat} {Q : Option MV → MH → Prop} {h : MH} {u0 u1 u2 : Option MV} (k : Q (some (.inl (-(nI 2)))) h) : J mX10_run d 0 0 Q 0 0 16 [u0, u1, u2] [] h := by
  refine zrun 8 1 qX10_run (o := 10) rfl ?_
  show J mX10_run d 0 0 Q 0 0 18 [u0, u1, u2] [.inl (-(nI 2))] h
  exact J_iret (ty := .int) (zat qX10_run 9 (by rfl)) rfl rfl (Nat.le_refl 0) (Nat.le_refl 0) k

theorem bX10_run_19 {d d' : Nat} {Q : Option MV → MH → Prop} {h : MH} {u2 : Option MV} {v1 : Int32} (hr : zRf h) (hd : d' + 1 ≤ d) (k : Con mX10_playAsTold d' 0 0 [.inr (.inr 1), .inl v1] h (zrv fun h' => J mX10_run d 0 0 Q 0 0 24 [some (.inr (.inr 1)), some (.inl v1), u2] [] h')) : J mX10_run d 0 0 Q 0 0 19 [some (.inr (.inr 1)), some (.inl v1), u2] [] h := by
  refine zrun 10 2 qX10_run (o := 10) rfl ?_
  show J mX10_run d 0 0 Q 0 0 21 [some (.inr (.inr 1)), some (.inl v1), u2] [.inl v1, .inr (.inr 1)] h
  exact zcVv (as := [.inl v1]) (zat qX10_run 12 (by rfl)) l10_186 rfl hd rfl (Nat.le_of_ble_eq_true rfl) zle0 (ci := 10) (by decide) rfl (zo hr (by decide) rfl) k

theorem bX10_run_24 {d : Nat} {Q : Option MV → MH → Prop} {h : MH} {u0 u1 : Option MV} {v2 : Int32} (k : J mX10_run d 0 0 Q 0 0 25 [u0, u1, some (.inl v2)] [.inl v2] h) : J mX10_run d 0 0 Q 0 0 24 [u0, u1, some (.inl v2)] [] h := by
  refine zrun 13 1 qX10_run (o := 10) rfl ?_
  show J mX10_run d 0 0 Q 0 0 25 [u0, u1, some (.inl v2)] [.inl v2] h
  exact k

theorem bX10_run_56 {d : Nat} {Q : Option MV → MH → Prop} {h : MH} {u1 u2 : Option MV} (hr : zRf h) (k : Q (some (.inl (h.1 48 9))) h) : J mX10_run d 0 0 Q 0 0 56 [some (.inr (.inr 1)), u1, u2] [] h := by
  refine zrun 14 3 qX10_run (o := 10) rfl ?_
  show zokO h 1 10 ∧ zokO h (h.2.2.1 1 7) 8 ∧ J mX10_run d 0 0 Q 0 0 63 [some (.inr (.inr 1)), u1, u2] [.inl (h.1 (h.2.2.1 1 7) 9)] h
  rw [(show h.2.2.1 1 7 = 48 from (hr.at (by decide) (by decide) (by rfl)))]
  exact ⟨(zo hr (by decide) rfl), (zo hr (by decide) rfl), J_iret (ty := .int) (zat qX10_run 17 (by rfl)) rfl rfl (Nat.le_refl 0) (Nat.le_refl 0) k⟩

theorem bX10_run_64 {d : Nat} {Q : Option MV → MH → Prop} {h : MH} {u1 u2 : Option MV} (hr : zRf h) (k : Q (some (.inl ((h.1 48 13) / (nI 256)))) h) : J mX10_run d 0 0 Q 0 0 64 [some (.inr (.inr 1)), u1, u2] [] h := by
  refine zrun 18 5 qX10_run (o := 10) rfl ?_
  show zokO h 1 10 ∧ zokO h (h.2.2.1 1 7) 8 ∧ ¬ (nI 256) = 0 ∧ J mX10_run d 0 0 Q 0 0 75 [some (.inr (.inr 1)), u1, u2] [.inl ((h.1 (h.2.2.1 1 7) 13) / (nI 256))] h
  rw [(show h.2.2.1 1 7 = 48 from (hr.at (by decide) (by decide) (by rfl)))]
  exact ⟨(zo hr (by decide) rfl), (zo hr (by decide) rfl), (by decide), J_iret (ty := .int) (zat qX10_run 23 (by rfl)) rfl rfl (Nat.le_refl 0) (Nat.le_refl 0) k⟩

theorem bX10_run_76 {d d' : Nat} {Q : Option MV → MH → Prop} {h : MH} {u1 u2 : Option MV} (hr : zRf h) (hd : d' + 1 ≤ d) (k : Con mJ13_bitCount_95d88 d' 0 0 [.inr (.inl (h.2.1 48 10))] h (zri fun (x : Int32) h' => J mX10_run d 0 0 Q 0 0 86 [some (.inr (.inr 1)), u1, u2] [.inl x] h')) : J mX10_run d 0 0 Q 0 0 76 [some (.inr (.inr 1)), u1, u2] [] h := by
  refine zrun 24 3 qX10_run (o := 10) rfl ?_
  show zokO h 1 10 ∧ zokO h (h.2.2.1 1 7) 8 ∧ J mX10_run d 0 0 Q 0 0 83 [some (.inr (.inr 1)), u1, u2] [.inr (.inl (h.2.1 (h.2.2.1 1 7) 10))] h
  rw [(show h.2.2.1 1 7 = 48 from (hr.at (by decide) (by decide) (by rfl)))]
  exact ⟨(zo hr (by decide) rfl), (zo hr (by decide) rfl), zcSi (as := [.inr (.inl (h.2.1 48 10))]) (zat qX10_run 27 (by rfl)) l10_199 rfl hd rfl (Nat.le_of_ble_eq_true rfl) zle0 k⟩

theorem bX10_run_86 {d : Nat} {Q : Option MV → MH → Prop} {h : MH} {u0 u1 u2 : Option MV} {vs0 : Int32} (k : Q (some (.inl vs0)) h) : J mX10_run d 0 0 Q 0 0 86 [u0, u1, u2] [.inl vs0] h := by
  exact J_iret (ty := .int) (zat qX10_run 28 (by rfl)) rfl rfl (Nat.le_refl 0) (Nat.le_refl 0) k

theorem bX10_run_87 {d : Nat} {Q : Option MV → MH → Prop} {h : MH} {u1 u2 : Option MV} (hr : zRf h) (k : Q (some (.inl (h.1 48 12))) h) : J mX10_run d 0 0 Q 0 0 87 [some (.inr (.inr 1)), u1, u2] [] h := by
  refine zrun 29 3 qX10_run (o := 10) rfl ?_
  show zokO h 1 10 ∧ zokO h (h.2.2.1 1 7) 8 ∧ J mX10_run d 0 0 Q 0 0 94 [some (.inr (.inr 1)), u1, u2] [.inl (h.1 (h.2.2.1 1 7) 12)] h
  rw [(show h.2.2.1 1 7 = 48 from (hr.at (by decide) (by decide) (by rfl)))]
  exact ⟨(zo hr (by decide) rfl), (zo hr (by decide) rfl), J_iret (ty := .int) (zat qX10_run 32 (by rfl)) rfl rfl (Nat.le_refl 0) (Nat.le_refl 0) k⟩

theorem bX10_run_95 {d d' : Nat} {Q : Option MV → MH → Prop} {h : MH} {u1 u2 : Option MV} (hr : zRf h) (hd : d' + 1 ≤ d) (k : Con mX10_waxOfRun d' 0 0 [.inr (.inr 1)] h (zri fun (x : Int32) h' => J mX10_run d 0 0 Q 0 0 99 [some (.inr (.inr 1)), u1, u2] [.inl x] h')) : J mX10_run d 0 0 Q 0 0 95 [some (.inr (.inr 1)), u1, u2] [] h := by
  refine zrun 33 1 qX10_run (o := 10) rfl ?_
  show J mX10_run d 0 0 Q 0 0 96 [some (.inr (.inr 1)), u1, u2] [.inr (.inr 1)] h
  exact zcVi (as := []) (zat qX10_run 34 (by rfl)) l10_208 rfl hd rfl (Nat.le_of_ble_eq_true rfl) zle0 (ci := 10) (by decide) rfl (zo hr (by decide) rfl) k

theorem bX10_run_99 {d : Nat} {Q : Option MV → MH → Prop} {h : MH} {u0 u1 u2 : Option MV} {vs0 : Int32} (k : Q (some (.inl vs0)) h) : J mX10_run d 0 0 Q 0 0 99 [u0, u1, u2] [.inl vs0] h := by
  exact J_iret (ty := .int) (zat qX10_run 35 (by rfl)) rfl rfl (Nat.le_refl 0) (Nat.le_refl 0) k

theorem bX10_playAsTold_0 {d d' : Nat} {Q : Option MV → MH → Prop} {h : MH} {u1 : Option MV} (hr : zRf h) (hd : d' + 1 ≤ d) (k : Con mX8_lay d' 0 0 [.inr (.inr 48), .inr (.inr 16)] h (zrv fun h' => J mX10_playAsTold d 0 0 Q 0 0 14 [some (.inr (.inr 1)), u1] [] h')) : J mX10_playAsTold d 0 0 Q 0 0 0 [some (.inr (.inr 1)), u1] [] h := by
  refine zrun 0 5 qX10_playAsTold (o := 10) rfl ?_
  show zokO h 1 10 ∧ zokO h 1 10 ∧ zokO h (h.2.2.1 1 4) 1 ∧ J mX10_playAsTold d 0 0 Q 0 0 11 [some (.inr (.inr 1)), u1] [.inr (.inr (h.2.2.1 (h.2.2.1 1 4) 0)), .inr (.inr (h.2.2.1 1 7))] h
  rw [(show h.2.2.1 1 7 = 48 from (hr.at (by decide) (by decide) (by rfl))), (show h.2.2.1 1 4 = 15 from (hr.at (by decide) (by decide) (by rfl))), (show h.2.2.1 15 0 = 16 from (hr.at (by decide) (by decide) (by rfl)))]
  exact ⟨(zo hr (by decide) rfl), (zo hr (by decide) rfl), (zo hr (by decide) rfl), zcVv (as := [.inr (.inr 16)]) (zat qX10_playAsTold 5 (by rfl)) l10_212 rfl hd rfl (Nat.le_of_ble_eq_true rfl) zle0 (ci := 8) (by decide) rfl (zo hr (by decide) rfl) k⟩

theorem bX10_playAsTold_14 {d d' : Nat} {Q : Option MV → MH → Prop} {h : MH} {v1 : Int32} (hr : zRf h) (g0 : vp_in v1 4) (hd : d' + 1 ≤ d) (k : Con mX8_play d' 0 0 [.inr (.inr 48), .inr (.inr (22 + 6 * v1.toNatClampNeg)), .inl (-(nI 1)), .inl (1024000000 : Int32)] h (zrv fun h' => J mX10_playAsTold d 0 0 Q 0 0 33 [some (.inr (.inr 1)), some (.inl v1)] [] h')) : J mX10_playAsTold d 0 0 Q 0 0 14 [some (.inr (.inr 1)), some (.inl v1)] [] h := by
  refine zrun 6 9 qX10_playAsTold (o := 10) rfl ?_
  show zokO h 1 10 ∧ zokO h 1 10 ∧ zokO h (h.2.2.1 1 4) 1 ∧ zokR h (h.2.2.1 (h.2.2.1 1 4) 1) v1 ∧ J mX10_playAsTold d 0 0 Q 0 0 30 [some (.inr (.inr 1)), some (.inl v1)] [.inl (1024000000 : Int32), .inl (-(nI 1)), .inr (.inr (h.2.2.1 (h.2.2.1 (h.2.2.1 1 4) 1) v1.toNatClampNeg)), .inr (.inr (h.2.2.1 1 7))] h
  rw [(show h.2.2.1 1 7 = 48 from (hr.at (by decide) (by decide) (by rfl))), (show h.2.2.1 1 4 = 15 from (hr.at (by decide) (by decide) (by rfl))), (show h.2.2.1 15 1 = 21 from (hr.at (by decide) (by decide) (by rfl))), (show h.2.2.1 21 v1.toNatClampNeg = (22 + 6 * v1.toNatClampNeg) from (hr.a30 (by decide) (by have := hr.n; omega) (by rfl) (vp_lt g0)))]
  exact ⟨(zo hr (by decide) rfl), (zo hr (by decide) rfl), (zo hr (by decide) rfl), (zir_ hr (by decide) (by rfl) (by decide) g0), zcVv (as := [.inr (.inr (22 + 6 * v1.toNatClampNeg)), .inl (-(nI 1)), .inl (1024000000 : Int32)]) (zat qX10_playAsTold 15 (by rfl)) l10_216 rfl hd rfl (Nat.le_of_ble_eq_true rfl) zle0 (ci := 8) (by decide) rfl (zo hr (by decide) rfl) k⟩

theorem bX10_playAsTold_33 {d : Nat} {Q : Option MV → MH → Prop} {h : MH} {u0 u1 : Option MV} (k : Q none h) : J mX10_playAsTold d 0 0 Q 0 0 33 [u0, u1] [] h := by
  exact J_vret (zat qX10_playAsTold 16 (by rfl)) rfl (Nat.le_refl 0) (Nat.le_refl 0) k

theorem bX10_waxOfRun_0 {d : Nat} {Q : Option MV → MH → Prop} {h : MH} {u1 u2 u3 u4 : Option MV} (k : J mX10_waxOfRun d 0 0 Q 0 0 4 [some (.inr (.inr 1)), some (.inl (nI 0)), some (.inl (nI 0)), u3, u4] [] h) : J mX10_waxOfRun d 0 0 Q 0 0 0 [some (.inr (.inr 1)), u1, u2, u3, u4] [] h := by
  refine zrun 0 4 qX10_waxOfRun (o := 10) rfl ?_
  show J mX10_waxOfRun d 0 0 Q 0 0 4 [some (.inr (.inr 1)), some (.inl (nI 0)), some (.inl (nI 0)), u3, u4] [] h
  exact k

theorem bX10_waxOfRun_4 {d : Nat} {Q : Option MV → MH → Prop} {h : MH} {u1 u3 u4 : Option MV} {v2 : Int32} (hr : zRf h) (k1 : (h.1 16 0) ≤ v2 → J mX10_waxOfRun d 0 0 Q 0 0 73 [some (.inr (.inr 1)), u1, some (.inl v2), u3, u4] [] h) (k2 : ¬ (h.1 16 0) ≤ v2 → J mX10_waxOfRun d 0 0 Q 0 0 18 [some (.inr (.inr 1)), u1, some (.inl v2), u3, u4] [] h) : J mX10_waxOfRun d 0 0 Q 0 0 4 [some (.inr (.inr 1)), u1, some (.inl v2), u3, u4] [] h := by
  refine zrun 4 6 qX10_waxOfRun (o := 10) rfl ?_
  show zokO h 1 10 ∧ zokO h (h.2.2.1 1 4) 1 ∧ zokO h (h.2.2.1 (h.2.2.1 1 4) 0) 2 ∧ (((h.1 (h.2.2.1 (h.2.2.1 1 4) 0) 0) ≤ v2 → J mX10_waxOfRun d 0 0 Q 0 0 73 [some (.inr (.inr 1)), u1, some (.inl v2), u3, u4] [] h) ∧ (¬ (h.1 (h.2.2.1 (h.2.2.1 1 4) 0) 0) ≤ v2 → J mX10_waxOfRun d 0 0 Q 0 0 18 [some (.inr (.inr 1)), u1, some (.inl v2), u3, u4] [] h))
  rw [(show h.2.2.1 1 4 = 15 from (hr.at (by decide) (by decide) (by rfl))), (show h.2.2.1 15 0 = 16 from (hr.at (by decide) (by decide) (by rfl)))]
  exact ⟨(zo hr (by decide) rfl), (zo hr (by decide) rfl), (zo hr (by decide) rfl), k1, k2⟩

theorem bX10_waxOfRun_18 {d : Nat} {Q : Option MV → MH → Prop} {h : MH} {u1 u3 u4 : Option MV} {v2 : Int32} (hr : zRf h) (g0 : vp_in v2 8) (k1 : (lg_cmp ((h.1 49 v2.toNatClampNeg).toInt64) (lN 0)) ≤ 0 → J mX10_waxOfRun d 0 0 Q 0 0 67 [some (.inr (.inr 1)), u1, some (.inl v2), some (.inr (.inl ((h.1 49 v2.toNatClampNeg).toInt64))), none] [] h) (k2 : ¬ (lg_cmp ((h.1 49 v2.toNatClampNeg).toInt64) (lN 0)) ≤ 0 → J mX10_waxOfRun d 0 0 Q 0 0 35 [some (.inr (.inr 1)), u1, some (.inl v2), some (.inr (.inl ((h.1 49 v2.toNatClampNeg).toInt64))), none] [] h) : J mX10_waxOfRun d 0 0 Q 0 0 18 [some (.inr (.inr 1)), u1, some (.inl v2), u3, u4] [] h := by
  refine zrun 10 11 qX10_waxOfRun (o := 10) rfl ?_
  show zokO h 1 10 ∧ zokO h (h.2.2.1 1 7) 8 ∧ zokA h (h.2.2.1 (h.2.2.1 1 7) 1) 20 v2 ∧ (((lg_cmp ((h.1 (h.2.2.1 (h.2.2.1 1 7) 1) v2.toNatClampNeg).toInt64) (lN 0)) ≤ 0 → J mX10_waxOfRun d 0 0 Q 0 0 67 [some (.inr (.inr 1)), u1, some (.inl v2), some (.inr (.inl ((h.1 (h.2.2.1 (h.2.2.1 1 7) 1) v2.toNatClampNeg).toInt64))), none] [] h) ∧ (¬ (lg_cmp ((h.1 (h.2.2.1 (h.2.2.1 1 7) 1) v2.toNatClampNeg).toInt64) (lN 0)) ≤ 0 → J mX10_waxOfRun d 0 0 Q 0 0 35 [some (.inr (.inr 1)), u1, some (.inl v2), some (.inr (.inl ((h.1 (h.2.2.1 (h.2.2.1 1 7) 1) v2.toNatClampNeg).toInt64))), none] [] h))
  rw [(show h.2.2.1 1 7 = 48 from (hr.at (by decide) (by decide) (by rfl))), (show h.2.2.1 48 1 = 49 from (hr.at (by decide) (by decide) (by rfl)))]
  exact ⟨(zo hr (by decide) rfl), (zo hr (by decide) rfl), (zia hr (by decide) (by rfl) g0), k1, k2⟩

theorem bX10_waxOfRun_35 {d : Nat} {Q : Option MV → MH → Prop} {h : MH} {u4 : Option MV} {v1 v2 : Int32} {v3 : Int64} (hr : zRf h) (g0 : vp_in v2 8) (g1 : ¬ v3 = 0) (k : J mX10_waxOfRun d 0 0 Q 0 0 67 [some (.inr (.inr 1)), some (.inl (v1 + (((((h.1 19 v2.toNatClampNeg).toInt64) * (v3 - ((h.1 52 v2.toNatClampNeg).toInt64))) / v3).toInt32))), some (.inl v2), some (.inr (.inl v3)), u4] [] h) : J mX10_waxOfRun d 0 0 Q 0 0 35 [some (.inr (.inr 1)), some (.inl v1), some (.inl v2), some (.inr (.inl v3)), u4] [] h := by
  refine zrun 21 22 qX10_waxOfRun (o := 10) rfl ?_
  show zokO h 1 10 ∧ zokO h (h.2.2.1 1 4) 1 ∧ zokO h (h.2.2.1 (h.2.2.1 1 4) 0) 2 ∧ zokA h (h.2.2.1 (h.2.2.1 (h.2.2.1 1 4) 0) 3) 20 v2 ∧ zokO h 1 10 ∧ zokO h (h.2.2.1 1 7) 8 ∧ zokA h (h.2.2.1 (h.2.2.1 1 7) 4) 20 v2 ∧ ¬ v3 = 0 ∧ J mX10_waxOfRun d 0 0 Q 0 0 67 [some (.inr (.inr 1)), some (.inl (v1 + (((((h.1 (h.2.2.1 (h.2.2.1 (h.2.2.1 1 4) 0) 3) v2.toNatClampNeg).toInt64) * (v3 - ((h.1 (h.2.2.1 (h.2.2.1 1 7) 4) v2.toNatClampNeg).toInt64))) / v3).toInt32))), some (.inl v2), some (.inr (.inl v3)), u4] [] h
  rw [(show h.2.2.1 1 4 = 15 from (hr.at (by decide) (by decide) (by rfl))), (show h.2.2.1 15 0 = 16 from (hr.at (by decide) (by decide) (by rfl))), (show h.2.2.1 16 3 = 19 from (hr.at (by decide) (by decide) (by rfl))), (show h.2.2.1 1 7 = 48 from (hr.at (by decide) (by decide) (by rfl))), (show h.2.2.1 48 4 = 52 from (hr.at (by decide) (by decide) (by rfl)))]
  exact ⟨(zo hr (by decide) rfl), (zo hr (by decide) rfl), (zo hr (by decide) rfl), (zia hr (by decide) (by rfl) g0), (zo hr (by decide) rfl), (zo hr (by decide) rfl), (zia hr (by decide) (by rfl) g0), g1, k⟩

theorem bX10_waxOfRun_67 {d : Nat} {Q : Option MV → MH → Prop} {h : MH} {u0 u3 u4 : Option MV} {v2 v1 : Int32} (k : J mX10_waxOfRun d 0 0 Q 0 0 4 [u0, some (.inl v1), some (.inl (v2 + nI 1)), u3, u4] [] h) : J mX10_waxOfRun d 0 0 Q 0 0 67 [u0, some (.inl v1), some (.inl v2), u3, u4] [] h := by
  refine zrun 43 2 qX10_waxOfRun (o := 10) rfl ?_
  show J mX10_waxOfRun d 0 0 Q 0 0 4 [u0, some (.inl v1), some (.inl (v2 + nI 1)), u3, u4] [] h
  exact k

theorem bX10_waxOfRun_73 {d : Nat} {Q : Option MV → MH → Prop} {h : MH} {u0 u2 u3 u4 : Option MV} {v1 : Int32} (k : Q (some (.inl v1)) h) : J mX10_waxOfRun d 0 0 Q 0 0 73 [u0, some (.inl v1), u2, u3, u4] [] h := by
  refine zrun 45 1 qX10_waxOfRun (o := 10) rfl ?_
  show J mX10_waxOfRun d 0 0 Q 0 0 74 [u0, some (.inl v1), u2, u3, u4] [.inl v1] h
  exact J_iret (ty := .int) (zat qX10_waxOfRun 46 (by rfl)) rfl rfl (Nat.le_refl 0) (Nat.le_refl 0) k

theorem bX10_bell_0 {d d' : Nat} {Q : Option MV → MH → Prop} {h : MH} {u0 u2 : Option MV} {v1 : Int32} (hd : d' + 1 ≤ d) (k : Con mX10_isPlan d' 0 0 [.inl v1] h (zri fun (x : Int32) h' => J mX10_bell d 0 0 Q 0 0 4 [u0, some (.inl v1), u2] [.inl x] h')) : J mX10_bell d 0 0 Q 0 0 0 [u0, some (.inl v1), u2] [] h := by
  refine zrun 0 1 qX10_bell (o := 10) rfl ?_
  show J mX10_bell d 0 0 Q 0 0 1 [u0, some (.inl v1), u2] [.inl v1] h
  exact zcSi (as := [.inl v1]) (zat qX10_bell 1 (by rfl)) l10_124 rfl hd rfl (Nat.le_of_ble_eq_true rfl) zle0 k

theorem bX10_bell_4 {d : Nat} {Q : Option MV → MH → Prop} {h : MH} {u0 u1 u2 : Option MV} {vs0 : Int32} (k1 : ¬ vs0 = 0 → J mX10_bell d 0 0 Q 0 0 10 [u0, u1, u2] [] h) (k2 : vs0 = 0 → J mX10_bell d 0 0 Q 0 0 7 [u0, u1, u2] [] h) : J mX10_bell d 0 0 Q 0 0 4 [u0, u1, u2] [.inl vs0] h := by
  refine zrun 2 1 qX10_bell (o := 10) rfl ?_
  show ((¬ vs0 = 0 → J mX10_bell d 0 0 Q 0 0 10 [u0, u1, u2] [] h) ∧ (vs0 = 0 → J mX10_bell d 0 0 Q 0 0 7 [u0, u1, u2] [] h))
  exact ⟨k1, k2⟩

theorem bX10_bell_7 {d : Nat} {Q : Option MV → MH → Prop} {h : MH} {u0 u1 u2 : Option MV} (k : Q (some (.inl (-(nI 2)))) h) : J mX10_bell d 0 0 Q 0 0 7 [u0, u1, u2] [] h := by
  refine zrun 3 1 qX10_bell (o := 10) rfl ?_
  show J mX10_bell d 0 0 Q 0 0 9 [u0, u1, u2] [.inl (-(nI 2))] h
  exact J_iret (ty := .int) (zat qX10_bell 4 (by rfl)) rfl rfl (Nat.le_refl 0) (Nat.le_refl 0) k

theorem bX10_bell_10 {d d' : Nat} {Q : Option MV → MH → Prop} {h : MH} {u2 : Option MV} {v1 : Int32} (hr : zRf h) (hd : d' + 1 ≤ d) (k : Con mX10_playAsTold d' 0 0 [.inr (.inr 1), .inl v1] h (zrv fun h' => J mX10_bell d 0 0 Q 0 0 15 [some (.inr (.inr 1)), some (.inl v1), u2] [] h')) : J mX10_bell d 0 0 Q 0 0 10 [some (.inr (.inr 1)), some (.inl v1), u2] [] h := by
  refine zrun 5 2 qX10_bell (o := 10) rfl ?_
  show J mX10_bell d 0 0 Q 0 0 12 [some (.inr (.inr 1)), some (.inl v1), u2] [.inl v1, .inr (.inr 1)] h
  exact zcVv (as := [.inl v1]) (zat qX10_bell 7 (by rfl)) l10_186 rfl hd rfl (Nat.le_of_ble_eq_true rfl) zle0 (ci := 10) (by decide) rfl (zo hr (by decide) rfl) k

theorem bX10_bell_15 {d d' : Nat} {Q : Option MV → MH → Prop} {h : MH} {u1 : Option MV} {v2 : Int32} (hr : zRf h) (hd : d' + 1 ≤ d) (k : Con mX8_bellAt d' 0 0 [.inr (.inr 48), .inl v2] h (zri fun (x : Int32) h' => J mX10_bell d 0 0 Q 0 0 23 [some (.inr (.inr 1)), u1, some (.inl v2)] [.inl x] h')) : J mX10_bell d 0 0 Q 0 0 15 [some (.inr (.inr 1)), u1, some (.inl v2)] [] h := by
  refine zrun 8 3 qX10_bell (o := 10) rfl ?_
  show zokO h 1 10 ∧ J mX10_bell d 0 0 Q 0 0 20 [some (.inr (.inr 1)), u1, some (.inl v2)] [.inl v2, .inr (.inr (h.2.2.1 1 7))] h
  rw [(show h.2.2.1 1 7 = 48 from (hr.at (by decide) (by decide) (by rfl)))]
  exact ⟨(zo hr (by decide) rfl), zcVi (as := [.inl v2]) (zat qX10_bell 11 (by rfl)) l10_226 rfl hd rfl (Nat.le_of_ble_eq_true rfl) zle0 (ci := 8) (by decide) rfl (zo hr (by decide) rfl) k⟩

theorem bX10_bell_23 {d : Nat} {Q : Option MV → MH → Prop} {h : MH} {u0 u1 u2 : Option MV} {vs0 : Int32} (k : Q (some (.inl vs0)) h) : J mX10_bell d 0 0 Q 0 0 23 [u0, u1, u2] [.inl vs0] h := by
  exact J_iret (ty := .int) (zat qX10_bell 12 (by rfl)) rfl rfl (Nat.le_refl 0) (Nat.le_refl 0) k

theorem bX10_ends_0 {d d' : Nat} {Q : Option MV → MH → Prop} {h : MH} {u0 u2 : Option MV} {v1 : Int32} (hd : d' + 1 ≤ d) (k : Con mX10_isPlan d' 0 0 [.inl v1] h (zri fun (x : Int32) h' => J mX10_ends d 0 0 Q 0 0 4 [u0, some (.inl v1), u2] [.inl x] h')) : J mX10_ends d 0 0 Q 0 0 0 [u0, some (.inl v1), u2] [] h := by
  refine zrun 0 1 qX10_ends (o := 10) rfl ?_
  show J mX10_ends d 0 0 Q 0 0 1 [u0, some (.inl v1), u2] [.inl v1] h
  exact zcSi (as := [.inl v1]) (zat qX10_ends 1 (by rfl)) l10_124 rfl hd rfl (Nat.le_of_ble_eq_true rfl) zle0 k

theorem bX10_ends_4 {d : Nat} {Q : Option MV → MH → Prop} {h : MH} {u0 u1 u2 : Option MV} {vs0 : Int32} (k1 : vs0 = 0 → J mX10_ends d 0 0 Q 0 0 21 [u0, u1, u2] [] h) (k2 : ¬ vs0 = 0 → J mX10_ends d 0 0 Q 0 0 7 [u0, u1, u2] [] h) : J mX10_ends d 0 0 Q 0 0 4 [u0, u1, u2] [.inl vs0] h := by
  refine zrun 2 1 qX10_ends (o := 10) rfl ?_
  show ((vs0 = 0 → J mX10_ends d 0 0 Q 0 0 21 [u0, u1, u2] [] h) ∧ (¬ vs0 = 0 → J mX10_ends d 0 0 Q 0 0 7 [u0, u1, u2] [] h))
  exact ⟨k1, k2⟩

theorem bX10_ends_7 {d d' : Nat} {Q : Option MV → MH → Prop} {h : MH} {u1 : Option MV} {v2 : Int32} (hr : zRf h) (hd : d' + 1 ≤ d) (k : Con mX2_has d' 0 0 [.inr (.inr 16), .inl v2] h (zri fun (x : Int32) h' => J mX10_ends d 0 0 Q 0 0 18 [some (.inr (.inr 1)), u1, some (.inl v2)] [.inl x] h')) : J mX10_ends d 0 0 Q 0 0 7 [some (.inr (.inr 1)), u1, some (.inl v2)] [] h := by
  refine zrun 3 4 qX10_ends (o := 10) rfl ?_
  show zokO h 1 10 ∧ zokO h (h.2.2.1 1 4) 1 ∧ J mX10_ends d 0 0 Q 0 0 15 [some (.inr (.inr 1)), u1, some (.inl v2)] [.inl v2, .inr (.inr (h.2.2.1 (h.2.2.1 1 4) 0))] h
  rw [(show h.2.2.1 1 4 = 15 from (hr.at (by decide) (by decide) (by rfl))), (show h.2.2.1 15 0 = 16 from (hr.at (by decide) (by decide) (by rfl)))]
  exact ⟨(zo hr (by decide) rfl), (zo hr (by decide) rfl), zcVi (as := [.inl v2]) (zat qX10_ends 7 (by rfl)) l10_148 rfl hd rfl (Nat.le_of_ble_eq_true rfl) zle0 (ci := 2) (by decide) rfl (zo hr (by decide) rfl) k⟩

theorem bX10_ends_18 {d : Nat} {Q : Option MV → MH → Prop} {h : MH} {u0 u1 u2 : Option MV} {vs0 : Int32} (k1 : ¬ vs0 = 0 → J mX10_ends d 0 0 Q 0 0 24 [u0, u1, u2] [] h) (k2 : vs0 = 0 → J mX10_ends d 0 0 Q 0 0 21 [u0, u1, u2] [] h) : J mX10_ends d 0 0 Q 0 0 18 [u0, u1, u2] [.inl vs0] h := by
  refine zrun 8 1 qX10_ends (o := 10) rfl ?_
  show ((¬ vs0 = 0 → J mX10_ends d 0 0 Q 0 0 24 [u0, u1, u2] [] h) ∧ (vs0 = 0 → J mX10_ends d 0 0 Q 0 0 21 [u0, u1, u2] [] h))
  exact ⟨k1, k2⟩

theorem bX10_ends_21 {d : Nat} {Q : Option MV → MH → Prop} {h : MH} {u0 u1 u2 : Option MV} (k : Q (some (.inl (-(nI 2)))) h) : J mX10_ends d 0 0 Q 0 0 21 [u0, u1, u2] [] h := by
  refine zrun 9 1 qX10_ends (o := 10) rfl ?_
  show J mX10_ends d 0 0 Q 0 0 23 [u0, u1, u2] [.inl (-(nI 2))] h
  exact J_iret (ty := .int) (zat qX10_ends 10 (by rfl)) rfl rfl (Nat.le_refl 0) (Nat.le_refl 0) k

theorem bX10_ends_24 {d d' : Nat} {Q : Option MV → MH → Prop} {h : MH} {u2 : Option MV} {v1 : Int32} (hr : zRf h) (hd : d' + 1 ≤ d) (k : Con mX10_playAsTold d' 0 0 [.inr (.inr 1), .inl v1] h (zrv fun h' => J mX10_ends d 0 0 Q 0 0 29 [some (.inr (.inr 1)), some (.inl v1), u2] [] h')) : J mX10_ends d 0 0 Q 0 0 24 [some (.inr (.inr 1)), some (.inl v1), u2] [] h := by
  refine zrun 11 2 qX10_ends (o := 10) rfl ?_
  show J mX10_ends d 0 0 Q 0 0 26 [some (.inr (.inr 1)), some (.inl v1), u2] [.inl v1, .inr (.inr 1)] h
  exact zcVv (as := [.inl v1]) (zat qX10_ends 13 (by rfl)) l10_186 rfl hd rfl (Nat.le_of_ble_eq_true rfl) zle0 (ci := 10) (by decide) rfl (zo hr (by decide) rfl) k

theorem bX10_ends_29 {d : Nat} {Q : Option MV → MH → Prop} {h : MH} {u1 : Option MV} {v2 : Int32} (hr : zRf h) (g0 : vp_in v2 8) (k1 : ¬ (h.1 55 v2.toNatClampNeg) = (-(nI 1)) → J mX10_ends d 0 0 Q 0 0 46 [some (.inr (.inr 1)), u1, some (.inl v2)] [] h) (k2 : (h.1 55 v2.toNatClampNeg) = (-(nI 1)) → J mX10_ends d 0 0 Q 0 0 42 [some (.inr (.inr 1)), u1, some (.inl v2)] [] h) : J mX10_ends d 0 0 Q 0 0 29 [some (.inr (.inr 1)), u1, some (.inl v2)] [] h := by
  refine zrun 14 7 qX10_ends (o := 10) rfl ?_
  show zokO h 1 10 ∧ zokO h (h.2.2.1 1 7) 8 ∧ zokA h (h.2.2.1 (h.2.2.1 1 7) 7) 20 v2 ∧ ((¬ (h.1 (h.2.2.1 (h.2.2.1 1 7) 7) v2.toNatClampNeg) = (-(nI 1)) → J mX10_ends d 0 0 Q 0 0 46 [some (.inr (.inr 1)), u1, some (.inl v2)] [] h) ∧ ((h.1 (h.2.2.1 (h.2.2.1 1 7) 7) v2.toNatClampNeg) = (-(nI 1)) → J mX10_ends d 0 0 Q 0 0 42 [some (.inr (.inr 1)), u1, some (.inl v2)] [] h))
  rw [(show h.2.2.1 1 7 = 48 from (hr.at (by decide) (by decide) (by rfl))), (show h.2.2.1 48 7 = 55 from (hr.at (by decide) (by decide) (by rfl)))]
  exact ⟨(zo hr (by decide) rfl), (zo hr (by decide) rfl), (zia hr (by decide) (by rfl) g0), k1, k2⟩

theorem bX10_ends_42 {d : Nat} {Q : Option MV → MH → Prop} {h : MH} {u0 u1 u2 : Option MV} (k : J mX10_ends d 0 0 Q 0 0 59 [u0, u1, u2] [.inl (-(nI 1))] h) : J mX10_ends d 0 0 Q 0 0 42 [u0, u1, u2] [] h := by
  refine zrun 21 2 qX10_ends (o := 10) rfl ?_
  show J mX10_ends d 0 0 Q 0 0 59 [u0, u1, u2] [.inl (-(nI 1))] h
  exact k

theorem bX10_ends_46 {d : Nat} {Q : Option MV → MH → Prop} {h : MH} {u1 : Option MV} {v2 : Int32} (hr : zRf h) (g0 : vp_in v2 8) (k : J mX10_ends d 0 0 Q 0 0 59 [some (.inr (.inr 1)), u1, some (.inl v2)] [.inl ((h.1 55 v2.toNatClampNeg) / (nI 256))] h) : J mX10_ends d 0 0 Q 0 0 46 [some (.inr (.inr 1)), u1, some (.inl v2)] [] h := by
  refine zrun 23 7 qX10_ends (o := 10) rfl ?_
  show zokO h 1 10 ∧ zokO h (h.2.2.1 1 7) 8 ∧ zokA h (h.2.2.1 (h.2.2.1 1 7) 7) 20 v2 ∧ ¬ (nI 256) = 0 ∧ J mX10_ends d 0 0 Q 0 0 59 [some (.inr (.inr 1)), u1, some (.inl v2)] [.inl ((h.1 (h.2.2.1 (h.2.2.1 1 7) 7) v2.toNatClampNeg) / (nI 256))] h
  rw [(show h.2.2.1 1 7 = 48 from (hr.at (by decide) (by decide) (by rfl))), (show h.2.2.1 48 7 = 55 from (hr.at (by decide) (by decide) (by rfl)))]
  exact ⟨(zo hr (by decide) rfl), (zo hr (by decide) rfl), (zia hr (by decide) (by rfl) g0), (by decide), k⟩

theorem bX10_ends_59 {d : Nat} {Q : Option MV → MH → Prop} {h : MH} {u0 u1 u2 : Option MV} {vs0 : Int32} (k : Q (some (.inl vs0)) h) : J mX10_ends d 0 0 Q 0 0 59 [u0, u1, u2] [.inl vs0] h := by
  exact J_iret (ty := .int) (zat qX10_ends 30 (by rfl)) rfl rfl (Nat.le_refl 0) (Nat.le_refl 0) k

theorem bX10_rest_0 {d d' : Nat} {Q : Option MV → MH → Prop} {h : MH} {u0 u2 u3 : Option MV} {v1 : Int32} (hd : d' + 1 ≤ d) (k : Con mX10_isPlan d' 0 0 [.inl v1] h (zri fun (x : Int32) h' => J mX10_rest d 0 0 Q 0 0 4 [u0, some (.inl v1), u2, u3] [.inl x] h')) : J mX10_rest d 0 0 Q 0 0 0 [u0, some (.inl v1), u2, u3] [] h := by
  refine zrun 0 1 qX10_rest (o := 10) rfl ?_
  show J mX10_rest d 0 0 Q 0 0 1 [u0, some (.inl v1), u2, u3] [.inl v1] h
  exact zcSi (as := [.inl v1]) (zat qX10_rest 1 (by rfl)) l10_124 rfl hd rfl (Nat.le_of_ble_eq_true rfl) zle0 k

theorem bX10_rest_4 {d : Nat} {Q : Option MV → MH → Prop} {h : MH} {u0 u1 u2 u3 : Option MV} {vs0 : Int32} (k1 : vs0 = 0 → J mX10_rest d 0 0 Q 0 0 21 [u0, u1, u2, u3] [] h) (k2 : ¬ vs0 = 0 → J mX10_rest d 0 0 Q 0 0 7 [u0, u1, u2, u3] [] h) : J mX10_rest d 0 0 Q 0 0 4 [u0, u1, u2, u3] [.inl vs0] h := by
  refine zrun 2 1 qX10_rest (o := 10) rfl ?_
  show ((vs0 = 0 → J mX10_rest d 0 0 Q 0 0 21 [u0, u1, u2, u3] [] h) ∧ (¬ vs0 = 0 → J mX10_rest d 0 0 Q 0 0 7 [u0, u1, u2, u3] [] h))
  exact ⟨k1, k2⟩

theorem bX10_rest_7 {d d' : Nat} {Q : Option MV → MH → Prop} {h : MH} {u1 u3 : Option MV} {v2 : Int32} (hr : zRf h) (hd : d' + 1 ≤ d) (k : Con mX2_has d' 0 0 [.inr (.inr 16), .inl v2] h (zri fun (x : Int32) h' => J mX10_rest d 0 0 Q 0 0 18 [some (.inr (.inr 1)), u1, some (.inl v2), u3] [.inl x] h')) : J mX10_rest d 0 0 Q 0 0 7 [some (.inr (.inr 1)), u1, some (.inl v2), u3] [] h := by
  refine zrun 3 4 qX10_rest (o := 10) rfl ?_
  show zokO h 1 10 ∧ zokO h (h.2.2.1 1 4) 1 ∧ J mX10_rest d 0 0 Q 0 0 15 [some (.inr (.inr 1)), u1, some (.inl v2), u3] [.inl v2, .inr (.inr (h.2.2.1 (h.2.2.1 1 4) 0))] h
  rw [(show h.2.2.1 1 4 = 15 from (hr.at (by decide) (by decide) (by rfl))), (show h.2.2.1 15 0 = 16 from (hr.at (by decide) (by decide) (by rfl)))]
  exact ⟨(zo hr (by decide) rfl), (zo hr (by decide) rfl), zcVi (as := [.inl v2]) (zat qX10_rest 7 (by rfl)) l10_148 rfl hd rfl (Nat.le_of_ble_eq_true rfl) zle0 (ci := 2) (by decide) rfl (zo hr (by decide) rfl) k⟩

theorem bX10_rest_18 {d : Nat} {Q : Option MV → MH → Prop} {h : MH} {u0 u1 u2 u3 : Option MV} {vs0 : Int32} (k1 : ¬ vs0 = 0 → J mX10_rest d 0 0 Q 0 0 24 [u0, u1, u2, u3] [] h) (k2 : vs0 = 0 → J mX10_rest d 0 0 Q 0 0 21 [u0, u1, u2, u3] [] h) : J mX10_rest d 0 0 Q 0 0 18 [u0, u1, u2, u3] [.inl vs0] h := by
  refine zrun 8 1 qX10_rest (o := 10) rfl ?_
  show ((¬ vs0 = 0 → J mX10_rest d 0 0 Q 0 0 24 [u0, u1, u2, u3] [] h) ∧ (vs0 = 0 → J mX10_rest d 0 0 Q 0 0 21 [u0, u1, u2, u3] [] h))
  exact ⟨k1, k2⟩

theorem bX10_rest_21 {d : Nat} {Q : Option MV → MH → Prop} {h : MH} {u0 u1 u2 u3 : Option MV} (k : Q (some (.inl (-(nI 2)))) h) : J mX10_rest d 0 0 Q 0 0 21 [u0, u1, u2, u3] [] h := by
  refine zrun 9 1 qX10_rest (o := 10) rfl ?_
  show J mX10_rest d 0 0 Q 0 0 23 [u0, u1, u2, u3] [.inl (-(nI 2))] h
  exact J_iret (ty := .int) (zat qX10_rest 10 (by rfl)) rfl rfl (Nat.le_refl 0) (Nat.le_refl 0) k

theorem bX10_rest_24 {d : Nat} {Q : Option MV → MH → Prop} {h : MH} {u0 u1 u2 : Option MV} {v3 : Int32} (k1 : 0 ≤ v3 → J mX10_rest d 0 0 Q 0 0 31 [u0, u1, u2, some (.inl v3)] [] h) (k2 : ¬ 0 ≤ v3 → J mX10_rest d 0 0 Q 0 0 28 [u0, u1, u2, some (.inl v3)] [] h) : J mX10_rest d 0 0 Q 0 0 24 [u0, u1, u2, some (.inl v3)] [] h := by
  refine zrun 11 2 qX10_rest (o := 10) rfl ?_
  show ((0 ≤ v3 → J mX10_rest d 0 0 Q 0 0 31 [u0, u1, u2, some (.inl v3)] [] h) ∧ (¬ 0 ≤ v3 → J mX10_rest d 0 0 Q 0 0 28 [u0, u1, u2, some (.inl v3)] [] h))
  exact ⟨k1, k2⟩

theorem bX10_rest_28 {d : Nat} {Q : Option MV → MH → Prop} {h : MH} {u0 u1 u2 u3 : Option MV} (k : Q (some (.inl (-(nI 3)))) h) : J mX10_rest d 0 0 Q 0 0 28 [u0, u1, u2, u3] [] h := by
  refine zrun 13 1 qX10_rest (o := 10) rfl ?_
  show J mX10_rest d 0 0 Q 0 0 30 [u0, u1, u2, u3] [.inl (-(nI 3))] h
  exact J_iret (ty := .int) (zat qX10_rest 14 (by rfl)) rfl rfl (Nat.le_refl 0) (Nat.le_refl 0) k

theorem bX10_rest_31 {d d' : Nat} {Q : Option MV → MH → Prop} {h : MH} {u2 : Option MV} {v1 v3 : Int32} (hr : zRf h) (hd : d' + 1 ≤ d) (k : Con mX10_playUntil d' 0 0 [.inr (.inr 1), .inl v1, .inl v3] h (zrv fun h' => J mX10_rest d 0 0 Q 0 0 37 [some (.inr (.inr 1)), some (.inl v1), u2, some (.inl v3)] [] h')) : J mX10_rest d 0 0 Q 0 0 31 [some (.inr (.inr 1)), some (.inl v1), u2, some (.inl v3)] [] h := by
  refine zrun 15 3 qX10_rest (o := 10) rfl ?_
  show J mX10_rest d 0 0 Q 0 0 34 [some (.inr (.inr 1)), some (.inl v1), u2, some (.inl v3)] [.inl v3, .inl v1, .inr (.inr 1)] h
  exact zcVv (as := [.inl v1, .inl v3]) (zat qX10_rest 18 (by rfl)) l10_232 rfl hd rfl (Nat.le_of_ble_eq_true rfl) zle0 (ci := 10) (by decide) rfl (zo hr (by decide) rfl) k

theorem bX10_rest_37 {d : Nat} {Q : Option MV → MH → Prop} {h : MH} {u1 u3 : Option MV} {v2 : Int32} (hr : zRf h) (g0 : vp_in v2 8) (k : Q (some (.inl ((h.1 50 v2.toNatClampNeg) / (nI 256)))) h) : J mX10_rest d 0 0 Q 0 0 37 [some (.inr (.inr 1)), u1, some (.inl v2), u3] [] h := by
  refine zrun 19 7 qX10_rest (o := 10) rfl ?_
  show zokO h 1 10 ∧ zokO h (h.2.2.1 1 7) 8 ∧ zokA h (h.2.2.1 (h.2.2.1 1 7) 2) 20 v2 ∧ ¬ (nI 256) = 0 ∧ J mX10_rest d 0 0 Q 0 0 50 [some (.inr (.inr 1)), u1, some (.inl v2), u3] [.inl ((h.1 (h.2.2.1 (h.2.2.1 1 7) 2) v2.toNatClampNeg) / (nI 256))] h
  rw [(show h.2.2.1 1 7 = 48 from (hr.at (by decide) (by decide) (by rfl))), (show h.2.2.1 48 2 = 50 from (hr.at (by decide) (by decide) (by rfl)))]
  exact ⟨(zo hr (by decide) rfl), (zo hr (by decide) rfl), (zia hr (by decide) (by rfl) g0), (by decide), J_iret (ty := .int) (zat qX10_rest 26 (by rfl)) rfl rfl (Nat.le_refl 0) (Nat.le_refl 0) k⟩

theorem bX10_flames_0 {d d' : Nat} {Q : Option MV → MH → Prop} {h : MH} {u0 u2 u3 : Option MV} {v1 : Int32} (hd : d' + 1 ≤ d) (k : Con mX10_isPlan d' 0 0 [.inl v1] h (zri fun (x : Int32) h' => J mX10_flames d 0 0 Q 0 0 4 [u0, some (.inl v1), u2, u3] [.inl x] h')) : J mX10_flames d 0 0 Q 0 0 0 [u0, some (.inl v1), u2, u3] [] h := by
  refine zrun 0 1 qX10_flames (o := 10) rfl ?_
  show J mX10_flames d 0 0 Q 0 0 1 [u0, some (.inl v1), u2, u3] [.inl v1] h
  exact zcSi (as := [.inl v1]) (zat qX10_flames 1 (by rfl)) l10_124 rfl hd rfl (Nat.le_of_ble_eq_true rfl) zle0 k

theorem bX10_flames_4 {d : Nat} {Q : Option MV → MH → Prop} {h : MH} {u0 u1 u2 u3 : Option MV} {vs0 : Int32} (k1 : vs0 = 0 → J mX10_flames d 0 0 Q 0 0 21 [u0, u1, u2, u3] [] h) (k2 : ¬ vs0 = 0 → J mX10_flames d 0 0 Q 0 0 7 [u0, u1, u2, u3] [] h) : J mX10_flames d 0 0 Q 0 0 4 [u0, u1, u2, u3] [.inl vs0] h := by
  refine zrun 2 1 qX10_flames (o := 10) rfl ?_
  show ((vs0 = 0 → J mX10_flames d 0 0 Q 0 0 21 [u0, u1, u2, u3] [] h) ∧ (¬ vs0 = 0 → J mX10_flames d 0 0 Q 0 0 7 [u0, u1, u2, u3] [] h))
  exact ⟨k1, k2⟩

theorem bX10_flames_7 {d d' : Nat} {Q : Option MV → MH → Prop} {h : MH} {u1 u3 : Option MV} {v2 : Int32} (hr : zRf h) (hd : d' + 1 ≤ d) (k : Con mX2_has d' 0 0 [.inr (.inr 16), .inl v2] h (zri fun (x : Int32) h' => J mX10_flames d 0 0 Q 0 0 18 [some (.inr (.inr 1)), u1, some (.inl v2), u3] [.inl x] h')) : J mX10_flames d 0 0 Q 0 0 7 [some (.inr (.inr 1)), u1, some (.inl v2), u3] [] h := by
  refine zrun 3 4 qX10_flames (o := 10) rfl ?_
  show zokO h 1 10 ∧ zokO h (h.2.2.1 1 4) 1 ∧ J mX10_flames d 0 0 Q 0 0 15 [some (.inr (.inr 1)), u1, some (.inl v2), u3] [.inl v2, .inr (.inr (h.2.2.1 (h.2.2.1 1 4) 0))] h
  rw [(show h.2.2.1 1 4 = 15 from (hr.at (by decide) (by decide) (by rfl))), (show h.2.2.1 15 0 = 16 from (hr.at (by decide) (by decide) (by rfl)))]
  exact ⟨(zo hr (by decide) rfl), (zo hr (by decide) rfl), zcVi (as := [.inl v2]) (zat qX10_flames 7 (by rfl)) l10_148 rfl hd rfl (Nat.le_of_ble_eq_true rfl) zle0 (ci := 2) (by decide) rfl (zo hr (by decide) rfl) k⟩

theorem bX10_flames_18 {d : Nat} {Q : Option MV → MH → Prop} {h : MH} {u0 u1 u2 u3 : Option MV} {vs0 : Int32} (k1 : ¬ vs0 = 0 → J mX10_flames d 0 0 Q 0 0 24 [u0, u1, u2, u3] [] h) (k2 : vs0 = 0 → J mX10_flames d 0 0 Q 0 0 21 [u0, u1, u2, u3] [] h) : J mX10_flames d 0 0 Q 0 0 18 [u0, u1, u2, u3] [.inl vs0] h := by
  refine zrun 8 1 qX10_flames (o := 10) rfl ?_
  show ((¬ vs0 = 0 → J mX10_flames d 0 0 Q 0 0 24 [u0, u1, u2, u3] [] h) ∧ (vs0 = 0 → J mX10_flames d 0 0 Q 0 0 21 [u0, u1, u2, u3] [] h))
  exact ⟨k1, k2⟩

theorem bX10_flames_21 {d : Nat} {Q : Option MV → MH → Prop} {h : MH} {u0 u1 u2 u3 : Option MV} (k : Q (some (.inl (-(nI 2)))) h) : J mX10_flames d 0 0 Q 0 0 21 [u0, u1, u2, u3] [] h := by
  refine zrun 9 1 qX10_flames (o := 10) rfl ?_
  show J mX10_flames d 0 0 Q 0 0 23 [u0, u1, u2, u3] [.inl (-(nI 2))] h
  exact J_iret (ty := .int) (zat qX10_flames 10 (by rfl)) rfl rfl (Nat.le_refl 0) (Nat.le_refl 0) k

theorem bX10_flames_24 {d : Nat} {Q : Option MV → MH → Prop} {h : MH} {u0 u1 u2 : Option MV} {v3 : Int32} (k1 : 0 ≤ v3 → J mX10_flames d 0 0 Q 0 0 31 [u0, u1, u2, some (.inl v3)] [] h) (k2 : ¬ 0 ≤ v3 → J mX10_flames d 0 0 Q 0 0 28 [u0, u1, u2, some (.inl v3)] [] h) : J mX10_flames d 0 0 Q 0 0 24 [u0, u1, u2, some (.inl v3)] [] h := by
  refine zrun 11 2 qX10_flames (o := 10) rfl ?_
  show ((0 ≤ v3 → J mX10_flames d 0 0 Q 0 0 31 [u0, u1, u2, some (.inl v3)] [] h) ∧ (¬ 0 ≤ v3 → J mX10_flames d 0 0 Q 0 0 28 [u0, u1, u2, some (.inl v3)] [] h))
  exact ⟨k1, k2⟩

theorem bX10_flames_28 {d : Nat} {Q : Option MV → MH → Prop} {h : MH} {u0 u1 u2 u3 : Option MV} (k : Q (some (.inl (-(nI 3)))) h) : J mX10_flames d 0 0 Q 0 0 28 [u0, u1, u2, u3] [] h := by
  refine zrun 13 1 qX10_flames (o := 10) rfl ?_
  show J mX10_flames d 0 0 Q 0 0 30 [u0, u1, u2, u3] [.inl (-(nI 3))] h
  exact J_iret (ty := .int) (zat qX10_flames 14 (by rfl)) rfl rfl (Nat.le_refl 0) (Nat.le_refl 0) k

theorem bX10_flames_31 {d d' : Nat} {Q : Option MV → MH → Prop} {h : MH} {u2 : Option MV} {v1 v3 : Int32} (hr : zRf h) (hd : d' + 1 ≤ d) (k : Con mX10_playUntil d' 0 0 [.inr (.inr 1), .inl v1, .inl v3] h (zrv fun h' => J mX10_flames d 0 0 Q 0 0 37 [some (.inr (.inr 1)), some (.inl v1), u2, some (.inl v3)] [] h')) : J mX10_flames d 0 0 Q 0 0 31 [some (.inr (.inr 1)), some (.inl v1), u2, some (.inl v3)] [] h := by
  refine zrun 15 3 qX10_flames (o := 10) rfl ?_
  show J mX10_flames d 0 0 Q 0 0 34 [some (.inr (.inr 1)), some (.inl v1), u2, some (.inl v3)] [.inl v3, .inl v1, .inr (.inr 1)] h
  exact zcVv (as := [.inl v1, .inl v3]) (zat qX10_flames 18 (by rfl)) l10_232 rfl hd rfl (Nat.le_of_ble_eq_true rfl) zle0 (ci := 10) (by decide) rfl (zo hr (by decide) rfl) k

theorem bX10_flames_37 {d : Nat} {Q : Option MV → MH → Prop} {h : MH} {u1 u3 : Option MV} {v2 : Int32} (hr : zRf h) (g0 : vp_in v2 8) (k : Q (some (.inl (h.1 51 v2.toNatClampNeg))) h) : J mX10_flames d 0 0 Q 0 0 37 [some (.inr (.inr 1)), u1, some (.inl v2), u3] [] h := by
  refine zrun 19 5 qX10_flames (o := 10) rfl ?_
  show zokO h 1 10 ∧ zokO h (h.2.2.1 1 7) 8 ∧ zokA h (h.2.2.1 (h.2.2.1 1 7) 3) 20 v2 ∧ J mX10_flames d 0 0 Q 0 0 46 [some (.inr (.inr 1)), u1, some (.inl v2), u3] [.inl (h.1 (h.2.2.1 (h.2.2.1 1 7) 3) v2.toNatClampNeg)] h
  rw [(show h.2.2.1 1 7 = 48 from (hr.at (by decide) (by decide) (by rfl))), (show h.2.2.1 48 3 = 51 from (hr.at (by decide) (by decide) (by rfl)))]
  exact ⟨(zo hr (by decide) rfl), (zo hr (by decide) rfl), (zia hr (by decide) (by rfl) g0), J_iret (ty := .int) (zat qX10_flames 24 (by rfl)) rfl rfl (Nat.le_refl 0) (Nat.le_refl 0) k⟩

theorem bX10_playUntil_0 {d d' : Nat} {Q : Option MV → MH → Prop} {h : MH} {u1 u2 : Option MV} (hr : zRf h) (hd : d' + 1 ≤ d) (k : Con mX8_lay d' 0 0 [.inr (.inr 48), .inr (.inr 16)] h (zrv fun h' => J mX10_playUntil d 0 0 Q 0 0 14 [some (.inr (.inr 1)), u1, u2] [] h')) : J mX10_playUntil d 0 0 Q 0 0 0 [some (.inr (.inr 1)), u1, u2] [] h := by
  refine zrun 0 5 qX10_playUntil (o := 10) rfl ?_
  show zokO h 1 10 ∧ zokO h 1 10 ∧ zokO h (h.2.2.1 1 4) 1 ∧ J mX10_playUntil d 0 0 Q 0 0 11 [some (.inr (.inr 1)), u1, u2] [.inr (.inr (h.2.2.1 (h.2.2.1 1 4) 0)), .inr (.inr (h.2.2.1 1 7))] h
  rw [(show h.2.2.1 1 7 = 48 from (hr.at (by decide) (by decide) (by rfl))), (show h.2.2.1 1 4 = 15 from (hr.at (by decide) (by decide) (by rfl))), (show h.2.2.1 15 0 = 16 from (hr.at (by decide) (by decide) (by rfl)))]
  exact ⟨(zo hr (by decide) rfl), (zo hr (by decide) rfl), (zo hr (by decide) rfl), zcVv (as := [.inr (.inr 16)]) (zat qX10_playUntil 5 (by rfl)) l10_212 rfl hd rfl (Nat.le_of_ble_eq_true rfl) zle0 (ci := 8) (by decide) rfl (zo hr (by decide) rfl) k⟩

theorem bX10_playUntil_14 {d : Nat} {Q : Option MV → MH → Prop} {h : MH} {v1 v2 : Int32} (hr : zRf h) (g0 : vp_in v1 4) (hd : 1 ≤ d) (k : J mX10_playUntil d 0 0 Q 0 0 34 [some (.inr (.inr 1)), some (.inl v1), some (.inl v2)] [.inl (if (4000000 : Int32) < v2 then (4000000 : Int32) else v2), .inl (-(nI 1)), .inr (.inr (22 + 6 * v1.toNatClampNeg)), .inr (.inr 48)] h) : J mX10_playUntil d 0 0 Q 0 0 14 [some (.inr (.inr 1)), some (.inl v1), some (.inl v2)] [] h := by
  refine zrun 6 10 qX10_playUntil (o := 10) rfl ?_
  show zokO h 1 10 ∧ zokO h 1 10 ∧ zokO h (h.2.2.1 1 4) 1 ∧ zokR h (h.2.2.1 (h.2.2.1 1 4) 1) v1 ∧ J mX10_playUntil d 0 0 Q 0 0 31 [some (.inr (.inr 1)), some (.inl v1), some (.inl v2)] [.inl (4000000 : Int32), .inl v2, .inl (-(nI 1)), .inr (.inr (h.2.2.1 (h.2.2.1 (h.2.2.1 1 4) 1) v1.toNatClampNeg)), .inr (.inr (h.2.2.1 1 7))] h
  rw [(show h.2.2.1 1 7 = 48 from (hr.at (by decide) (by decide) (by rfl))), (show h.2.2.1 1 4 = 15 from (hr.at (by decide) (by decide) (by rfl))), (show h.2.2.1 15 1 = 21 from (hr.at (by decide) (by decide) (by rfl))), (show h.2.2.1 21 v1.toNatClampNeg = (22 + 6 * v1.toNatClampNeg) from (hr.a30 (by decide) (by have := hr.n; omega) (by rfl) (vp_lt g0)))]
  exact ⟨(zo hr (by decide) rfl), (zo hr (by decide) rfl), (zo hr (by decide) rfl), (zir_ hr (by decide) (by rfl) (by decide) g0), zmin (zat qX10_playUntil 16 (by rfl)) mm10_175 rfl hd (Nat.le_of_ble_eq_true rfl) zle0 k⟩

theorem bX10_playUntil_34 {d d' : Nat} {Q : Option MV → MH → Prop} {h : MH} {u0 u1 u2 : Option MV} {vs2 vs3 : Int32} {vs1 : Nat} (hr : zRf h) (hd : d' + 1 ≤ d) (k : Con mX8_play d' 0 0 [.inr (.inr 48), .inr (.inr vs1), .inl vs2, .inl (vs3 * (nI 256))] h (zrv fun h' => J mX10_playUntil d 0 0 Q 0 0 41 [u0, u1, u2] [] h')) : J mX10_playUntil d 0 0 Q 0 0 34 [u0, u1, u2] [.inl vs3, .inl vs2, .inr (.inr vs1), .inr (.inr 48)] h := by
  refine zrun 17 2 qX10_playUntil (o := 10) rfl ?_
  show J mX10_playUntil d 0 0 Q 0 0 38 [u0, u1, u2] [.inl (vs3 * (nI 256)), .inl vs2, .inr (.inr vs1), .inr (.inr 48)] h
  exact zcVv (as := [.inr (.inr vs1), .inl vs2, .inl (vs3 * (nI 256))]) (zat qX10_playUntil 19 (by rfl)) l10_216 rfl hd rfl (Nat.le_of_ble_eq_true rfl) zle0 (ci := 8) (by decide) rfl (zo hr (by decide) rfl) k

theorem bX10_playUntil_41 {d : Nat} {Q : Option MV → MH → Prop} {h : MH} {u0 u1 u2 : Option MV} (k : Q none h) : J mX10_playUntil d 0 0 Q 0 0 41 [u0, u1, u2] [] h := by
  exact J_vret (zat qX10_playUntil 20 (by rfl)) rfl (Nat.le_refl 0) (Nat.le_refl 0) k

theorem bX10_idle_0 {d d' : Nat} {Q : Option MV → MH → Prop} {h : MH} {u0 : Option MV} {v1 : Int32} (hd : d' + 1 ≤ d) (k : Con mX10_isPlan d' 0 0 [.inl v1] h (zri fun (x : Int32) h' => J mX10_idle d 0 0 Q 0 0 4 [u0, some (.inl v1)] [.inl x] h')) : J mX10_idle d 0 0 Q 0 0 0 [u0, some (.inl v1)] [] h := by
  refine zrun 0 1 qX10_idle (o := 10) rfl ?_
  show J mX10_idle d 0 0 Q 0 0 1 [u0, some (.inl v1)] [.inl v1] h
  exact zcSi (as := [.inl v1]) (zat qX10_idle 1 (by rfl)) l10_124 rfl hd rfl (Nat.le_of_ble_eq_true rfl) zle0 k

theorem bX10_idle_4 {d : Nat} {Q : Option MV → MH → Prop} {h : MH} {u0 u1 : Option MV} {vs0 : Int32} (k1 : ¬ vs0 = 0 → J mX10_idle d 0 0 Q 0 0 10 [u0, u1] [] h) (k2 : vs0 = 0 → J mX10_idle d 0 0 Q 0 0 7 [u0, u1] [] h) : J mX10_idle d 0 0 Q 0 0 4 [u0, u1] [.inl vs0] h := by
  refine zrun 2 1 qX10_idle (o := 10) rfl ?_
  show ((¬ vs0 = 0 → J mX10_idle d 0 0 Q 0 0 10 [u0, u1] [] h) ∧ (vs0 = 0 → J mX10_idle d 0 0 Q 0 0 7 [u0, u1] [] h))
  exact ⟨k1, k2⟩

theorem bX10_idle_7 {d : Nat} {Q : Option MV → MH → Prop} {h : MH} {u0 u1 : Option MV} (k : Q (some (.inl (-(nI 2)))) h) : J mX10_idle d 0 0 Q 0 0 7 [u0, u1] [] h := by
  refine zrun 3 1 qX10_idle (o := 10) rfl ?_
  show J mX10_idle d 0 0 Q 0 0 9 [u0, u1] [.inl (-(nI 2))] h
  exact J_iret (ty := .int) (zat qX10_idle 4 (by rfl)) rfl rfl (Nat.le_refl 0) (Nat.le_refl 0) k

theorem bX10_idle_10 {d d' : Nat} {Q : Option MV → MH → Prop} {h : MH} {v1 : Int32} (hr : zRf h) (hd : d' + 1 ≤ d) (k : Con mX10_playAsTold d' 0 0 [.inr (.inr 1), .inl v1] h (zrv fun h' => J mX10_idle d 0 0 Q 0 0 15 [some (.inr (.inr 1)), some (.inl v1)] [] h')) : J mX10_idle d 0 0 Q 0 0 10 [some (.inr (.inr 1)), some (.inl v1)] [] h := by
  refine zrun 5 2 qX10_idle (o := 10) rfl ?_
  show J mX10_idle d 0 0 Q 0 0 12 [some (.inr (.inr 1)), some (.inl v1)] [.inl v1, .inr (.inr 1)] h
  exact zcVv (as := [.inl v1]) (zat qX10_idle 7 (by rfl)) l10_186 rfl hd rfl (Nat.le_of_ble_eq_true rfl) zle0 (ci := 10) (by decide) rfl (zo hr (by decide) rfl) k

theorem bX10_idle_15 {d : Nat} {Q : Option MV → MH → Prop} {h : MH} {v1 : Int32} (hr : zRf h) (g0 : vp_in v1 4) (k : Q (some (.inl ((((nI 1) <<< ((h.1 (22 + 6 * v1.toNatClampNeg) 0) &&& 31)) - (nI 1)) &&& ((h.1 48 11) ^^^ (-(nI 1)))))) h) : J mX10_idle d 0 0 Q 0 0 15 [some (.inr (.inr 1)), some (.inl v1)] [] h := by
  refine zrun 8 16 qX10_idle (o := 10) rfl ?_
  show zokO h 1 10 ∧ zokO h (h.2.2.1 1 4) 1 ∧ zokR h (h.2.2.1 (h.2.2.1 1 4) 1) v1 ∧ zokO h (h.2.2.1 (h.2.2.1 (h.2.2.1 1 4) 1) v1.toNatClampNeg) 5 ∧ zokO h 1 10 ∧ zokO h (h.2.2.1 1 7) 8 ∧ J mX10_idle d 0 0 Q 0 0 41 [some (.inr (.inr 1)), some (.inl v1)] [.inl ((((nI 1) <<< ((h.1 (h.2.2.1 (h.2.2.1 (h.2.2.1 1 4) 1) v1.toNatClampNeg) 0) &&& 31)) - (nI 1)) &&& ((h.1 (h.2.2.1 1 7) 11) ^^^ (-(nI 1))))] h
  rw [(show h.2.2.1 1 4 = 15 from (hr.at (by decide) (by decide) (by rfl))), (show h.2.2.1 15 1 = 21 from (hr.at (by decide) (by decide) (by rfl))), (show h.2.2.1 21 v1.toNatClampNeg = (22 + 6 * v1.toNatClampNeg) from (hr.a30 (by decide) (by have := hr.n; omega) (by rfl) (vp_lt g0))), (show h.2.2.1 1 7 = 48 from (hr.at (by decide) (by decide) (by rfl)))]
  exact ⟨(zo hr (by decide) rfl), (zo hr (by decide) rfl), (zir_ hr (by decide) (by rfl) (by decide) g0), (zpl hr g0), (zo hr (by decide) rfl), (zo hr (by decide) rfl), J_iret (ty := .int) (zat qX10_idle 24 (by rfl)) rfl rfl (Nat.le_refl 0) (Nat.le_refl 0) k⟩

theorem bX10_vain_0 {d d' : Nat} {Q : Option MV → MH → Prop} {h : MH} {u0 u2 u3 u4 : Option MV} {v1 : Int32} (hd : d' + 1 ≤ d) (k : Con mX10_isPlan d' 0 0 [.inl v1] h (zri fun (x : Int32) h' => J mX10_vain d 0 0 Q 0 0 4 [u0, some (.inl v1), u2, u3, u4] [.inl x] h')) : J mX10_vain d 0 0 Q 0 0 0 [u0, some (.inl v1), u2, u3, u4] [] h := by
  refine zrun 0 1 qX10_vain (o := 10) rfl ?_
  show J mX10_vain d 0 0 Q 0 0 1 [u0, some (.inl v1), u2, u3, u4] [.inl v1] h
  exact zcSi (as := [.inl v1]) (zat qX10_vain 1 (by rfl)) l10_124 rfl hd rfl (Nat.le_of_ble_eq_true rfl) zle0 k

theorem bX10_vain_4 {d : Nat} {Q : Option MV → MH → Prop} {h : MH} {u0 u1 u2 u3 u4 : Option MV} {vs0 : Int32} (k1 : ¬ vs0 = 0 → J mX10_vain d 0 0 Q 0 0 10 [u0, u1, u2, u3, u4] [] h) (k2 : vs0 = 0 → J mX10_vain d 0 0 Q 0 0 7 [u0, u1, u2, u3, u4] [] h) : J mX10_vain d 0 0 Q 0 0 4 [u0, u1, u2, u3, u4] [.inl vs0] h := by
  refine zrun 2 1 qX10_vain (o := 10) rfl ?_
  show ((¬ vs0 = 0 → J mX10_vain d 0 0 Q 0 0 10 [u0, u1, u2, u3, u4] [] h) ∧ (vs0 = 0 → J mX10_vain d 0 0 Q 0 0 7 [u0, u1, u2, u3, u4] [] h))
  exact ⟨k1, k2⟩

theorem bX10_vain_7 {d : Nat} {Q : Option MV → MH → Prop} {h : MH} {u0 u1 u2 u3 u4 : Option MV} (k : Q (some (.inl (-(nI 2)))) h) : J mX10_vain d 0 0 Q 0 0 7 [u0, u1, u2, u3, u4] [] h := by
  refine zrun 3 1 qX10_vain (o := 10) rfl ?_
  show J mX10_vain d 0 0 Q 0 0 9 [u0, u1, u2, u3, u4] [.inl (-(nI 2))] h
  exact J_iret (ty := .int) (zat qX10_vain 4 (by rfl)) rfl rfl (Nat.le_refl 0) (Nat.le_refl 0) k

theorem bX10_vain_10 {d d' : Nat} {Q : Option MV → MH → Prop} {h : MH} {u2 u3 u4 : Option MV} {v1 : Int32} (hr : zRf h) (hd : d' + 1 ≤ d) (k : Con mX10_playAsTold d' 0 0 [.inr (.inr 1), .inl v1] h (zrv fun h' => J mX10_vain d 0 0 Q 0 0 15 [some (.inr (.inr 1)), some (.inl v1), u2, u3, u4] [] h')) : J mX10_vain d 0 0 Q 0 0 10 [some (.inr (.inr 1)), some (.inl v1), u2, u3, u4] [] h := by
  refine zrun 5 2 qX10_vain (o := 10) rfl ?_
  show J mX10_vain d 0 0 Q 0 0 12 [some (.inr (.inr 1)), some (.inl v1), u2, u3, u4] [.inl v1, .inr (.inr 1)] h
  exact zcVv (as := [.inl v1]) (zat qX10_vain 7 (by rfl)) l10_186 rfl hd rfl (Nat.le_of_ble_eq_true rfl) zle0 (ci := 10) (by decide) rfl (zo hr (by decide) rfl) k

theorem bX10_vain_15 {d : Nat} {Q : Option MV → MH → Prop} {h : MH} {u0 u1 u3 u4 : Option MV} {v2 : Int32} (k : J mX10_vain d 0 0 Q 0 0 20 [u0, u1, some (.inl v2), some (.inl (nI 0)), some (.inl (nI 0))] [] h) : J mX10_vain d 0 0 Q 0 0 15 [u0, u1, some (.inl v2), u3, u4] [] h := by
  refine zrun 8 4 qX10_vain (o := 10) rfl ?_
  show J mX10_vain d 0 0 Q 0 0 20 [u0, u1, some (.inl v2), some (.inl (nI 0)), some (.inl (nI 0))] [] h
  exact k

theorem bX10_vain_20 {d : Nat} {Q : Option MV → MH → Prop} {h : MH} {u0 u1 u2 u3 : Option MV} {v4 : Int32} (k1 : (nI 40) ≤ v4 → J mX10_vain d 0 0 Q 0 0 61 [u0, u1, u2, u3, some (.inl v4)] [] h) (k2 : ¬ (nI 40) ≤ v4 → J mX10_vain d 0 0 Q 0 0 27 [u0, u1, u2, u3, some (.inl v4)] [] h) : J mX10_vain d 0 0 Q 0 0 20 [u0, u1, u2, u3, some (.inl v4)] [] h := by
  refine zrun 12 3 qX10_vain (o := 10) rfl ?_
  show (((nI 40) ≤ v4 → J mX10_vain d 0 0 Q 0 0 61 [u0, u1, u2, u3, some (.inl v4)] [] h) ∧ (¬ (nI 40) ≤ v4 → J mX10_vain d 0 0 Q 0 0 27 [u0, u1, u2, u3, some (.inl v4)] [] h))
  exact ⟨k1, k2⟩

theorem bX10_vain_27 {d : Nat} {Q : Option MV → MH → Prop} {h : MH} {u1 u2 u3 : Option MV} {v4 : Int32} (hr : zRf h) (k1 : (lg_cmp ((((h.2.1 48 10).toUInt64 >>> (v4.toInt64.toUInt64 &&& Int64.toUInt64 63)).toInt64) &&& (lN 1)) (lN 0)) = 0 → J mX10_vain d 0 0 Q 0 0 55 [some (.inr (.inr 1)), u1, u2, u3, some (.inl v4)] [] h) (k2 : ¬ (lg_cmp ((((h.2.1 48 10).toUInt64 >>> (v4.toInt64.toUInt64 &&& Int64.toUInt64 63)).toInt64) &&& (lN 1)) (lN 0)) = 0 → J mX10_vain d 0 0 Q 0 0 44 [some (.inr (.inr 1)), u1, u2, u3, some (.inl v4)] [] h) : J mX10_vain d 0 0 Q 0 0 27 [some (.inr (.inr 1)), u1, u2, u3, some (.inl v4)] [] h := by
  refine zrun 15 10 qX10_vain (o := 10) rfl ?_
  show zokO h 1 10 ∧ zokO h (h.2.2.1 1 7) 8 ∧ (((lg_cmp ((((h.2.1 (h.2.2.1 1 7) 10).toUInt64 >>> (v4.toInt64.toUInt64 &&& Int64.toUInt64 63)).toInt64) &&& (lN 1)) (lN 0)) = 0 → J mX10_vain d 0 0 Q 0 0 55 [some (.inr (.inr 1)), u1, u2, u3, some (.inl v4)] [] h) ∧ (¬ (lg_cmp ((((h.2.1 (h.2.2.1 1 7) 10).toUInt64 >>> (v4.toInt64.toUInt64 &&& Int64.toUInt64 63)).toInt64) &&& (lN 1)) (lN 0)) = 0 → J mX10_vain d 0 0 Q 0 0 44 [some (.inr (.inr 1)), u1, u2, u3, some (.inl v4)] [] h))
  rw [(show h.2.2.1 1 7 = 48 from (hr.at (by decide) (by decide) (by rfl)))]
  exact ⟨(zo hr (by decide) rfl), (zo hr (by decide) rfl), k1, k2⟩

theorem bX10_vain_44 {d : Nat} {Q : Option MV → MH → Prop} {h : MH} {u0 u1 u4 : Option MV} {v3 v2 : Int32} (k1 : ¬ v3 = v2 → J mX10_vain d 0 0 Q 0 0 52 [u0, u1, some (.inl v2), some (.inl v3), u4] [] h) (k2 : v3 = v2 → J mX10_vain d 0 0 Q 0 0 49 [u0, u1, some (.inl v2), some (.inl v3), u4] [] h) : J mX10_vain d 0 0 Q 0 0 44 [u0, u1, some (.inl v2), some (.inl v3), u4] [] h := by
  refine zrun 25 3 qX10_vain (o := 10) rfl ?_
  show ((¬ v3 = v2 → J mX10_vain d 0 0 Q 0 0 52 [u0, u1, some (.inl v2), some (.inl v3), u4] [] h) ∧ (v3 = v2 → J mX10_vain d 0 0 Q 0 0 49 [u0, u1, some (.inl v2), some (.inl v3), u4] [] h))
  exact ⟨k1, k2⟩

theorem bX10_vain_49 {d : Nat} {Q : Option MV → MH → Prop} {h : MH} {u0 u1 u2 u3 : Option MV} {v4 : Int32} (k : Q (some (.inl v4)) h) : J mX10_vain d 0 0 Q 0 0 49 [u0, u1, u2, u3, some (.inl v4)] [] h := by
  refine zrun 28 1 qX10_vain (o := 10) rfl ?_
  show J mX10_vain d 0 0 Q 0 0 51 [u0, u1, u2, u3, some (.inl v4)] [.inl v4] h
  exact J_iret (ty := .int) (zat qX10_vain 29 (by rfl)) rfl rfl (Nat.le_refl 0) (Nat.le_refl 0) k

theorem bX10_vain_52 {d : Nat} {Q : Option MV → MH → Prop} {h : MH} {u0 u1 u4 : Option MV} {v3 v2 : Int32} (k : J mX10_vain d 0 0 Q 0 0 55 [u0, u1, some (.inl v2), some (.inl (v3 + nI 1)), u4] [] h) : J mX10_vain d 0 0 Q 0 0 52 [u0, u1, some (.inl v2), some (.inl v3), u4] [] h := by
  refine zrun 30 1 qX10_vain (o := 10) rfl ?_
  show J mX10_vain d 0 0 Q 0 0 55 [u0, u1, some (.inl v2), some (.inl (v3 + nI 1)), u4] [] h
  exact k

theorem bX10_vain_55 {d : Nat} {Q : Option MV → MH → Prop} {h : MH} {u0 u1 u2 : Option MV} {v4 v3 : Int32} (k : J mX10_vain d 0 0 Q 0 0 20 [u0, u1, u2, some (.inl v3), some (.inl (v4 + nI 1))] [] h) : J mX10_vain d 0 0 Q 0 0 55 [u0, u1, u2, some (.inl v3), some (.inl v4)] [] h := by
  refine zrun 31 2 qX10_vain (o := 10) rfl ?_
  show J mX10_vain d 0 0 Q 0 0 20 [u0, u1, u2, some (.inl v3), some (.inl (v4 + nI 1))] [] h
  exact k

theorem bX10_vain_61 {d : Nat} {Q : Option MV → MH → Prop} {h : MH} {u0 u1 u2 u3 u4 : Option MV} (k : Q (some (.inl (-(nI 1)))) h) : J mX10_vain d 0 0 Q 0 0 61 [u0, u1, u2, u3, u4] [] h := by
  refine zrun 33 1 qX10_vain (o := 10) rfl ?_
  show J mX10_vain d 0 0 Q 0 0 62 [u0, u1, u2, u3, u4] [.inl (-(nI 1))] h
  exact J_iret (ty := .int) (zat qX10_vain 34 (by rfl)) rfl rfl (Nat.le_refl 0) (Nat.le_refl 0) k

theorem bX10_spare_0 {d d' : Nat} {Q : Option MV → MH → Prop} {h : MH} {u0 u2 u3 u4 u5 : Option MV} {v1 : Int32} (hd : d' + 1 ≤ d) (k : Con mX10_isPlan d' 0 0 [.inl v1] h (zri fun (x : Int32) h' => J mX10_spare d 0 0 Q 0 0 4 [u0, some (.inl v1), u2, u3, u4, u5] [.inl x] h')) : J mX10_spare d 0 0 Q 0 0 0 [u0, some (.inl v1), u2, u3, u4, u5] [] h := by
  refine zrun 0 1 qX10_spare (o := 10) rfl ?_
  show J mX10_spare d 0 0 Q 0 0 1 [u0, some (.inl v1), u2, u3, u4, u5] [.inl v1] h
  exact zcSi (as := [.inl v1]) (zat qX10_spare 1 (by rfl)) l10_124 rfl hd rfl (Nat.le_of_ble_eq_true rfl) zle0 k

theorem bX10_spare_4 {d : Nat} {Q : Option MV → MH → Prop} {h : MH} {u0 u1 u2 u3 u4 u5 : Option MV} {vs0 : Int32} (k1 : ¬ vs0 = 0 → J mX10_spare d 0 0 Q 0 0 10 [u0, u1, u2, u3, u4, u5] [] h) (k2 : vs0 = 0 → J mX10_spare d 0 0 Q 0 0 7 [u0, u1, u2, u3, u4, u5] [] h) : J mX10_spare d 0 0 Q 0 0 4 [u0, u1, u2, u3, u4, u5] [.inl vs0] h := by
  refine zrun 2 1 qX10_spare (o := 10) rfl ?_
  show ((¬ vs0 = 0 → J mX10_spare d 0 0 Q 0 0 10 [u0, u1, u2, u3, u4, u5] [] h) ∧ (vs0 = 0 → J mX10_spare d 0 0 Q 0 0 7 [u0, u1, u2, u3, u4, u5] [] h))
  exact ⟨k1, k2⟩

theorem bX10_spare_7 {d : Nat} {Q : Option MV → MH → Prop} {h : MH} {u0 u1 u2 u3 u4 u5 : Option MV} (k : Q (some (.inl (-(nI 2)))) h) : J mX10_spare d 0 0 Q 0 0 7 [u0, u1, u2, u3, u4, u5] [] h := by
  refine zrun 3 1 qX10_spare (o := 10) rfl ?_
  show J mX10_spare d 0 0 Q 0 0 9 [u0, u1, u2, u3, u4, u5] [.inl (-(nI 2))] h
  exact J_iret (ty := .int) (zat qX10_spare 4 (by rfl)) rfl rfl (Nat.le_refl 0) (Nat.le_refl 0) k

theorem bX10_spare_10 {d d' : Nat} {Q : Option MV → MH → Prop} {h : MH} {u2 u3 u4 u5 : Option MV} {v1 : Int32} (hr : zRf h) (hd : d' + 1 ≤ d) (k : Con mX10_playAsTold d' 0 0 [.inr (.inr 1), .inl v1] h (zrv fun h' => J mX10_spare d 0 0 Q 0 0 15 [some (.inr (.inr 1)), some (.inl v1), u2, u3, u4, u5] [] h')) : J mX10_spare d 0 0 Q 0 0 10 [some (.inr (.inr 1)), some (.inl v1), u2, u3, u4, u5] [] h := by
  refine zrun 5 2 qX10_spare (o := 10) rfl ?_
  show J mX10_spare d 0 0 Q 0 0 12 [some (.inr (.inr 1)), some (.inl v1), u2, u3, u4, u5] [.inl v1, .inr (.inr 1)] h
  exact zcVv (as := [.inl v1]) (zat qX10_spare 7 (by rfl)) l10_186 rfl hd rfl (Nat.le_of_ble_eq_true rfl) zle0 (ci := 10) (by decide) rfl (zo hr (by decide) rfl) k

theorem bX10_spare_15 {d d' : Nat} {Q : Option MV → MH → Prop} {h : MH} {u1 u2 u3 u4 u5 : Option MV} (hr : zRf h) (hd : d' + 1 ≤ d) (k : Con mX10_keepBells d' 0 0 [.inr (.inr 1)] h (zri fun (x : Int32) h' => J mX10_spare d 0 0 Q 0 0 19 [some (.inr (.inr 1)), u1, u2, u3, u4, u5] [.inl x] h')) : J mX10_spare d 0 0 Q 0 0 15 [some (.inr (.inr 1)), u1, u2, u3, u4, u5] [] h := by
  refine zrun 8 1 qX10_spare (o := 10) rfl ?_
  show J mX10_spare d 0 0 Q 0 0 16 [some (.inr (.inr 1)), u1, u2, u3, u4, u5] [.inr (.inr 1)] h
  exact zcVi (as := []) (zat qX10_spare 9 (by rfl)) l10_246 rfl hd rfl (Nat.le_of_ble_eq_true rfl) zle0 (ci := 10) (by decide) rfl (zo hr (by decide) rfl) k

theorem bX10_spare_19 {d : Nat} {Q : Option MV → MH → Prop} {h : MH} {u0 u1 u3 u4 u5 : Option MV} {vs0 v2 : Int32} (k : J mX10_spare d 0 0 Q 0 0 26 [u0, u1, some (.inl v2), some (.inl vs0), some (.inl (nI 0)), some (.inl (nI 0))] [] h) : J mX10_spare d 0 0 Q 0 0 19 [u0, u1, some (.inl v2), u3, u4, u5] [.inl vs0] h := by
  refine zrun 10 5 qX10_spare (o := 10) rfl ?_
  show J mX10_spare d 0 0 Q 0 0 26 [u0, u1, some (.inl v2), some (.inl vs0), some (.inl (nI 0)), some (.inl (nI 0))] [] h
  exact k

theorem bX10_spare_26 {d : Nat} {Q : Option MV → MH → Prop} {h : MH} {u2 u3 u4 : Option MV} {v5 v1 : Int32} (hr : zRf h) (g0 : vp_in v1 4) (k1 : (h.1 (22 + 6 * v1.toNatClampNeg) 1) ≤ v5 → J mX10_spare d 0 0 Q 0 0 89 [some (.inr (.inr 1)), some (.inl v1), u2, u3, u4, some (.inl v5)] [] h) (k2 : ¬ (h.1 (22 + 6 * v1.toNatClampNeg) 1) ≤ v5 → J mX10_spare d 0 0 Q 0 0 43 [some (.inr (.inr 1)), some (.inl v1), u2, u3, u4, some (.inl v5)] [] h) : J mX10_spare d 0 0 Q 0 0 26 [some (.inr (.inr 1)), some (.inl v1), u2, u3, u4, some (.inl v5)] [] h := by
  refine zrun 15 8 qX10_spare (o := 10) rfl ?_
  show zokO h 1 10 ∧ zokO h (h.2.2.1 1 4) 1 ∧ zokR h (h.2.2.1 (h.2.2.1 1 4) 1) v1 ∧ zokO h (h.2.2.1 (h.2.2.1 (h.2.2.1 1 4) 1) v1.toNatClampNeg) 5 ∧ (((h.1 (h.2.2.1 (h.2.2.1 (h.2.2.1 1 4) 1) v1.toNatClampNeg) 1) ≤ v5 → J mX10_spare d 0 0 Q 0 0 89 [some (.inr (.inr 1)), some (.inl v1), u2, u3, u4, some (.inl v5)] [] h) ∧ (¬ (h.1 (h.2.2.1 (h.2.2.1 (h.2.2.1 1 4) 1) v1.toNatClampNeg) 1) ≤ v5 → J mX10_spare d 0 0 Q 0 0 43 [some (.inr (.inr 1)), some (.inl v1), u2, u3, u4, some (.inl v5)] [] h))
  rw [(show h.2.2.1 1 4 = 15 from (hr.at (by decide) (by decide) (by rfl))), (show h.2.2.1 15 1 = 21 from (hr.at (by decide) (by decide) (by rfl))), (show h.2.2.1 21 v1.toNatClampNeg = (22 + 6 * v1.toNatClampNeg) from (hr.a30 (by decide) (by have := hr.n; omega) (by rfl) (vp_lt g0)))]
  exact ⟨(zo hr (by decide) rfl), (zo hr (by decide) rfl), (zir_ hr (by decide) (by rfl) (by decide) g0), (zpl hr g0), k1, k2⟩

theorem bX10_spare_43 {d d' : Nat} {Q : Option MV → MH → Prop} {h : MH} {u2 u3 u4 : Option MV} {v1 v5 : Int32} (hr : zRf h) (g0 : vp_in v1 4) (hd : d' + 1 ≤ d) (k : Con mX8_play d' 0 0 [.inr (.inr 48), .inr (.inr (22 + 6 * v1.toNatClampNeg)), .inl v5, .inl (1024000000 : Int32)] h (zrv fun h' => J mX10_spare d 0 0 Q 0 0 63 [some (.inr (.inr 1)), some (.inl v1), u2, u3, u4, some (.inl v5)] [] h')) : J mX10_spare d 0 0 Q 0 0 43 [some (.inr (.inr 1)), some (.inl v1), u2, u3, u4, some (.inl v5)] [] h := by
  refine zrun 23 9 qX10_spare (o := 10) rfl ?_
  show zokO h 1 10 ∧ zokO h 1 10 ∧ zokO h (h.2.2.1 1 4) 1 ∧ zokR h (h.2.2.1 (h.2.2.1 1 4) 1) v1 ∧ J mX10_spare d 0 0 Q 0 0 60 [some (.inr (.inr 1)), some (.inl v1), u2, u3, u4, some (.inl v5)] [.inl (1024000000 : Int32), .inl v5, .inr (.inr (h.2.2.1 (h.2.2.1 (h.2.2.1 1 4) 1) v1.toNatClampNeg)), .inr (.inr (h.2.2.1 1 7))] h
  rw [(show h.2.2.1 1 7 = 48 from (hr.at (by decide) (by decide) (by rfl))), (show h.2.2.1 1 4 = 15 from (hr.at (by decide) (by decide) (by rfl))), (show h.2.2.1 15 1 = 21 from (hr.at (by decide) (by decide) (by rfl))), (show h.2.2.1 21 v1.toNatClampNeg = (22 + 6 * v1.toNatClampNeg) from (hr.a30 (by decide) (by have := hr.n; omega) (by rfl) (vp_lt g0)))]
  exact ⟨(zo hr (by decide) rfl), (zo hr (by decide) rfl), (zo hr (by decide) rfl), (zir_ hr (by decide) (by rfl) (by decide) g0), zcVv (as := [.inr (.inr (22 + 6 * v1.toNatClampNeg)), .inl v5, .inl (1024000000 : Int32)]) (zat qX10_spare 32 (by rfl)) l10_216 rfl hd rfl (Nat.le_of_ble_eq_true rfl) zle0 (ci := 8) (by decide) rfl (zo hr (by decide) rfl) k⟩

theorem bX10_spare_63 {d d' : Nat} {Q : Option MV → MH → Prop} {h : MH} {u1 u2 u4 u5 : Option MV} {v3 : Int32} (hr : zRf h) (hd : d' + 1 ≤ d) (k : Con mX10_ringsAsKept d' 0 0 [.inr (.inr 1), .inl v3] h (zri fun (x : Int32) h' => J mX10_spare d 0 0 Q 0 0 68 [some (.inr (.inr 1)), u1, u2, some (.inl v3), u4, u5] [.inl x] h')) : J mX10_spare d 0 0 Q 0 0 63 [some (.inr (.inr 1)), u1, u2, some (.inl v3), u4, u5] [] h := by
  refine zrun 33 2 qX10_spare (o := 10) rfl ?_
  show J mX10_spare d 0 0 Q 0 0 65 [some (.inr (.inr 1)), u1, u2, some (.inl v3), u4, u5] [.inl v3, .inr (.inr 1)] h
  exact zcVi (as := [.inl v3]) (zat qX10_spare 35 (by rfl)) l10_252 rfl hd rfl (Nat.le_of_ble_eq_true rfl) zle0 (ci := 10) (by decide) rfl (zo hr (by decide) rfl) k

theorem bX10_spare_68 {d : Nat} {Q : Option MV → MH → Prop} {h : MH} {u0 u1 u2 u3 u4 u5 : Option MV} {vs0 : Int32} (k1 : vs0 = 0 → J mX10_spare d 0 0 Q 0 0 83 [u0, u1, u2, u3, u4, u5] [] h) (k2 : ¬ vs0 = 0 → J mX10_spare d 0 0 Q 0 0 71 [u0, u1, u2, u3, u4, u5] [] h) : J mX10_spare d 0 0 Q 0 0 68 [u0, u1, u2, u3, u4, u5] [.inl vs0] h := by
  refine zrun 36 1 qX10_spare (o := 10) rfl ?_
  show ((vs0 = 0 → J mX10_spare d 0 0 Q 0 0 83 [u0, u1, u2, u3, u4, u5] [] h) ∧ (¬ vs0 = 0 → J mX10_spare d 0 0 Q 0 0 71 [u0, u1, u2, u3, u4, u5] [] h))
  exact ⟨k1, k2⟩

theorem bX10_spare_71 {d : Nat} {Q : Option MV → MH → Prop} {h : MH} {u0 u1 u3 u5 : Option MV} {v4 v2 : Int32} (k1 : ¬ v4 = v2 → J mX10_spare d 0 0 Q 0 0 80 [u0, u1, some (.inl v2), u3, some (.inl v4), u5] [] h) (k2 : v4 = v2 → J mX10_spare d 0 0 Q 0 0 77 [u0, u1, some (.inl v2), u3, some (.inl v4), u5] [] h) : J mX10_spare d 0 0 Q 0 0 71 [u0, u1, some (.inl v2), u3, some (.inl v4), u5] [] h := by
  refine zrun 37 3 qX10_spare (o := 10) rfl ?_
  show ((¬ v4 = v2 → J mX10_spare d 0 0 Q 0 0 80 [u0, u1, some (.inl v2), u3, some (.inl v4), u5] [] h) ∧ (v4 = v2 → J mX10_spare d 0 0 Q 0 0 77 [u0, u1, some (.inl v2), u3, some (.inl v4), u5] [] h))
  exact ⟨k1, k2⟩

theorem bX10_spare_77 {d : Nat} {Q : Option MV → MH → Prop} {h : MH} {u0 u1 u2 u3 u4 : Option MV} {v5 : Int32} (k : Q (some (.inl v5)) h) : J mX10_spare d 0 0 Q 0 0 77 [u0, u1, u2, u3, u4, some (.inl v5)] [] h := by
  refine zrun 40 1 qX10_spare (o := 10) rfl ?_
  show J mX10_spare d 0 0 Q 0 0 79 [u0, u1, u2, u3, u4, some (.inl v5)] [.inl v5] h
  exact J_iret (ty := .int) (zat qX10_spare 41 (by rfl)) rfl rfl (Nat.le_refl 0) (Nat.le_refl 0) k

theorem bX10_spare_80 {d : Nat} {Q : Option MV → MH → Prop} {h : MH} {u0 u1 u2 u5 : Option MV} {v4 v3 : Int32} (k : J mX10_spare d 0 0 Q 0 0 83 [u0, u1, u2, some (.inl v3), some (.inl (v4 + nI 1)), u5] [] h) : J mX10_spare d 0 0 Q 0 0 80 [u0, u1, u2, some (.inl v3), some (.inl v4), u5] [] h := by
  refine zrun 42 1 qX10_spare (o := 10) rfl ?_
  show J mX10_spare d 0 0 Q 0 0 83 [u0, u1, u2, some (.inl v3), some (.inl (v4 + nI 1)), u5] [] h
  exact k

theorem bX10_spare_83 {d : Nat} {Q : Option MV → MH → Prop} {h : MH} {u0 u1 u2 u3 : Option MV} {v5 v4 : Int32} (k : J mX10_spare d 0 0 Q 0 0 26 [u0, u1, u2, u3, some (.inl v4), some (.inl (v5 + nI 1))] [] h) : J mX10_spare d 0 0 Q 0 0 83 [u0, u1, u2, u3, some (.inl v4), some (.inl v5)] [] h := by
  refine zrun 43 2 qX10_spare (o := 10) rfl ?_
  show J mX10_spare d 0 0 Q 0 0 26 [u0, u1, u2, u3, some (.inl v4), some (.inl (v5 + nI 1))] [] h
  exact k

theorem bX10_spare_89 {d : Nat} {Q : Option MV → MH → Prop} {h : MH} {u0 u1 u2 u3 u4 u5 : Option MV} (k : Q (some (.inl (-(nI 1)))) h) : J mX10_spare d 0 0 Q 0 0 89 [u0, u1, u2, u3, u4, u5] [] h := by
  refine zrun 45 1 qX10_spare (o := 10) rfl ?_
  show J mX10_spare d 0 0 Q 0 0 90 [u0, u1, u2, u3, u4, u5] [.inl (-(nI 1))] h
  exact J_iret (ty := .int) (zat qX10_spare 46 (by rfl)) rfl rfl (Nat.le_refl 0) (Nat.le_refl 0) k

theorem bX10_keepBells_0 {d : Nat} {Q : Option MV → MH → Prop} {h : MH} (hr : zRf h) (hd : 1 ≤ d) (k : J mX10_keepBells d 0 0 Q 0 0 18 [some (.inr (.inr 1))] [] (zcI h 56 57 0 0 40)) : J mX10_keepBells d 0 0 Q 0 0 0 [some (.inr (.inr 1))] [] h := by
  refine zrun 0 8 qX10_keepBells (o := 10) rfl ?_
  show zokO h 1 10 ∧ zokO h (h.2.2.1 1 7) 8 ∧ zokO h 1 10 ∧ J mX10_keepBells d 0 0 Q 0 0 15 [some (.inr (.inr 1))] [.inl (nI 40), .inl (nI 0), .inr (.inr (h.2.2.1 1 8)), .inl (nI 0), .inr (.inr (h.2.2.1 (h.2.2.1 1 7) 8))] h
  rw [(show h.2.2.1 1 7 = 48 from (hr.at (by decide) (by decide) (by rfl))), (show h.2.2.1 48 8 = 56 from (hr.at (by decide) (by decide) (by rfl))), (show h.2.2.1 1 8 = 57 from (hr.at (by decide) (by decide) (by rfl)))]
  exact ⟨(zo hr (by decide) rfl), (zo hr (by decide) rfl), (zo hr (by decide) rfl), zcopy (N := 40) (zat qX10_keepBells 8 (by rfl)) cp10_258 rfl hd (Nat.le_of_ble_eq_true rfl) ⟨by decide, by have := hr.n; show _ ≤ h.2.2.2; omega, rfl⟩ ⟨by decide, by have := hr.n; show _ ≤ h.2.2.2; omega, rfl⟩ (by decide) k⟩

theorem bX10_keepBells_18 {d : Nat} {Q : Option MV → MH → Prop} {h : MH} (hr : zRf h) (k : Q (some (.inl (h.1 48 9))) h) : J mX10_keepBells d 0 0 Q 0 0 18 [some (.inr (.inr 1))] [] h := by
  refine zrun 9 3 qX10_keepBells (o := 10) rfl ?_
  show zokO h 1 10 ∧ zokO h (h.2.2.1 1 7) 8 ∧ J mX10_keepBells d 0 0 Q 0 0 25 [some (.inr (.inr 1))] [.inl (h.1 (h.2.2.1 1 7) 9)] h
  rw [(show h.2.2.1 1 7 = 48 from (hr.at (by decide) (by decide) (by rfl)))]
  exact ⟨(zo hr (by decide) rfl), (zo hr (by decide) rfl), J_iret (ty := .int) (zat qX10_keepBells 12 (by rfl)) rfl rfl (Nat.le_refl 0) (Nat.le_refl 0) k⟩

theorem bX10_ringsAsKept_0 {d : Nat} {Q : Option MV → MH → Prop} {h : MH} {u2 : Option MV} {v1 : Int32} (hr : zRf h) (k1 : (h.1 48 9) = v1 → J mX10_ringsAsKept d 0 0 Q 0 0 13 [some (.inr (.inr 1)), some (.inl v1), u2] [] h) (k2 : ¬ (h.1 48 9) = v1 → J mX10_ringsAsKept d 0 0 Q 0 0 11 [some (.inr (.inr 1)), some (.inl v1), u2] [] h) : J mX10_ringsAsKept d 0 0 Q 0 0 0 [some (.inr (.inr 1)), some (.inl v1), u2] [] h := by
  refine zrun 0 5 qX10_ringsAsKept (o := 10) rfl ?_
  show zokO h 1 10 ∧ zokO h (h.2.2.1 1 7) 8 ∧ (((h.1 (h.2.2.1 1 7) 9) = v1 → J mX10_ringsAsKept d 0 0 Q 0 0 13 [some (.inr (.inr 1)), some (.inl v1), u2] [] h) ∧ (¬ (h.1 (h.2.2.1 1 7) 9) = v1 → J mX10_ringsAsKept d 0 0 Q 0 0 11 [some (.inr (.inr 1)), some (.inl v1), u2] [] h))
  rw [(show h.2.2.1 1 7 = 48 from (hr.at (by decide) (by decide) (by rfl)))]
  exact ⟨(zo hr (by decide) rfl), (zo hr (by decide) rfl), k1, k2⟩

theorem bX10_ringsAsKept_11 {d : Nat} {Q : Option MV → MH → Prop} {h : MH} {u0 u1 u2 : Option MV} (k : Q (some (.inl (nI 0))) h) : J mX10_ringsAsKept d 0 0 Q 0 0 11 [u0, u1, u2] [] h := by
  refine zrun 5 1 qX10_ringsAsKept (o := 10) rfl ?_
  show J mX10_ringsAsKept d 0 0 Q 0 0 12 [u0, u1, u2] [.inl (nI 0)] h
  exact J_iret (ty := .boolean) (zat qX10_ringsAsKept 6 (by rfl)) rfl (by decide) (Nat.le_refl 0) (Nat.le_refl 0) k

theorem bX10_ringsAsKept_13 {d : Nat} {Q : Option MV → MH → Prop} {h : MH} {u0 u2 : Option MV} {v1 : Int32} (k : J mX10_ringsAsKept d 0 0 Q 0 0 15 [u0, some (.inl v1), some (.inl (nI 0))] [] h) : J mX10_ringsAsKept d 0 0 Q 0 0 13 [u0, some (.inl v1), u2] [] h := by
  refine zrun 7 2 qX10_ringsAsKept (o := 10) rfl ?_
  show J mX10_ringsAsKept d 0 0 Q 0 0 15 [u0, some (.inl v1), some (.inl (nI 0))] [] h
  exact k

theorem bX10_ringsAsKept_15 {d : Nat} {Q : Option MV → MH → Prop} {h : MH} {u1 : Option MV} {v2 : Int32} (hr : zRf h) (k1 : (h.1 48 9) ≤ v2 → J mX10_ringsAsKept d 0 0 Q 0 0 52 [some (.inr (.inr 1)), u1, some (.inl v2)] [] h) (k2 : ¬ (h.1 48 9) ≤ v2 → J mX10_ringsAsKept d 0 0 Q 0 0 26 [some (.inr (.inr 1)), u1, some (.inl v2)] [] h) : J mX10_ringsAsKept d 0 0 Q 0 0 15 [some (.inr (.inr 1)), u1, some (.inl v2)] [] h := by
  refine zrun 9 5 qX10_ringsAsKept (o := 10) rfl ?_
  show zokO h 1 10 ∧ zokO h (h.2.2.1 1 7) 8 ∧ (((h.1 (h.2.2.1 1 7) 9) ≤ v2 → J mX10_ringsAsKept d 0 0 Q 0 0 52 [some (.inr (.inr 1)), u1, some (.inl v2)] [] h) ∧ (¬ (h.1 (h.2.2.1 1 7) 9) ≤ v2 → J mX10_ringsAsKept d 0 0 Q 0 0 26 [some (.inr (.inr 1)), u1, some (.inl v2)] [] h))
  rw [(show h.2.2.1 1 7 = 48 from (hr.at (by decide) (by decide) (by rfl)))]
  exact ⟨(zo hr (by decide) rfl), (zo hr (by decide) rfl), k1, k2⟩

theorem bX10_ringsAsKept_26 {d : Nat} {Q : Option MV → MH → Prop} {h : MH} {u1 : Option MV} {v2 : Int32} (hr : zRf h) (g0 : vp_in v2 40) (k1 : (h.1 56 v2.toNatClampNeg) = (h.1 57 v2.toNatClampNeg) → J mX10_ringsAsKept d 0 0 Q 0 0 46 [some (.inr (.inr 1)), u1, some (.inl v2)] [] h) (k2 : ¬ (h.1 56 v2.toNatClampNeg) = (h.1 57 v2.toNatClampNeg) → J mX10_ringsAsKept d 0 0 Q 0 0 44 [some (.inr (.inr 1)), u1, some (.inl v2)] [] h) : J mX10_ringsAsKept d 0 0 Q 0 0 26 [some (.inr (.inr 1)), u1, some (.inl v2)] [] h := by
  refine zrun 14 10 qX10_ringsAsKept (o := 10) rfl ?_
  show zokO h 1 10 ∧ zokO h (h.2.2.1 1 7) 8 ∧ zokA h (h.2.2.1 (h.2.2.1 1 7) 8) 20 v2 ∧ zokO h 1 10 ∧ zokA h (h.2.2.1 1 8) 20 v2 ∧ (((h.1 (h.2.2.1 (h.2.2.1 1 7) 8) v2.toNatClampNeg) = (h.1 (h.2.2.1 1 8) v2.toNatClampNeg) → J mX10_ringsAsKept d 0 0 Q 0 0 46 [some (.inr (.inr 1)), u1, some (.inl v2)] [] h) ∧ (¬ (h.1 (h.2.2.1 (h.2.2.1 1 7) 8) v2.toNatClampNeg) = (h.1 (h.2.2.1 1 8) v2.toNatClampNeg) → J mX10_ringsAsKept d 0 0 Q 0 0 44 [some (.inr (.inr 1)), u1, some (.inl v2)] [] h))
  rw [(show h.2.2.1 1 7 = 48 from (hr.at (by decide) (by decide) (by rfl))), (show h.2.2.1 48 8 = 56 from (hr.at (by decide) (by decide) (by rfl))), (show h.2.2.1 1 8 = 57 from (hr.at (by decide) (by decide) (by rfl)))]
  exact ⟨(zo hr (by decide) rfl), (zo hr (by decide) rfl), (zia hr (by decide) (by rfl) g0), (zo hr (by decide) rfl), (zia hr (by decide) (by rfl) g0), k1, k2⟩

theorem bX10_ringsAsKept_44 {d : Nat} {Q : Option MV → MH → Prop} {h : MH} {u0 u1 u2 : Option MV} (k : Q (some (.inl (nI 0))) h) : J mX10_ringsAsKept d 0 0 Q 0 0 44 [u0, u1, u2] [] h := by
  refine zrun 24 1 qX10_ringsAsKept (o := 10) rfl ?_
  show J mX10_ringsAsKept d 0 0 Q 0 0 45 [u0, u1, u2] [.inl (nI 0)] h
  exact J_iret (ty := .boolean) (zat qX10_ringsAsKept 25 (by rfl)) rfl (by decide) (Nat.le_refl 0) (Nat.le_refl 0) k

theorem bX10_ringsAsKept_46 {d : Nat} {Q : Option MV → MH → Prop} {h : MH} {u0 : Option MV} {v2 v1 : Int32} (k : J mX10_ringsAsKept d 0 0 Q 0 0 15 [u0, some (.inl v1), some (.inl (v2 + nI 1))] [] h) : J mX10_ringsAsKept d 0 0 Q 0 0 46 [u0, some (.inl v1), some (.inl v2)] [] h := by
  refine zrun 26 2 qX10_ringsAsKept (o := 10) rfl ?_
  show J mX10_ringsAsKept d 0 0 Q 0 0 15 [u0, some (.inl v1), some (.inl (v2 + nI 1))] [] h
  exact k

theorem bX10_ringsAsKept_52 {d : Nat} {Q : Option MV → MH → Prop} {h : MH} {u0 u1 u2 : Option MV} (k : Q (some (.inl (nI 1))) h) : J mX10_ringsAsKept d 0 0 Q 0 0 52 [u0, u1, u2] [] h := by
  refine zrun 28 1 qX10_ringsAsKept (o := 10) rfl ?_
  show J mX10_ringsAsKept d 0 0 Q 0 0 53 [u0, u1, u2] [.inl (nI 1)] h
  exact J_iret (ty := .boolean) (zat qX10_ringsAsKept 29 (by rfl)) rfl (by decide) (Nat.le_refl 0) (Nat.le_refl 0) k

theorem bX10_would_0 {d d' : Nat} {Q : Option MV → MH → Prop} {h : MH} {u0 u2 u3 u4 u5 u6 : Option MV} {v1 : Int32} (hd : d' + 1 ≤ d) (k : Con mX10_isPlan d' 0 0 [.inl v1] h (zri fun (x : Int32) h' => J mX10_would d 0 0 Q 0 0 4 [u0, some (.inl v1), u2, u3, u4, u5, u6] [.inl x] h')) : J mX10_would d 0 0 Q 0 0 0 [u0, some (.inl v1), u2, u3, u4, u5, u6] [] h := by
  refine zrun 0 1 qX10_would (o := 10) rfl ?_
  show J mX10_would d 0 0 Q 0 0 1 [u0, some (.inl v1), u2, u3, u4, u5, u6] [.inl v1] h
  exact zcSi (as := [.inl v1]) (zat qX10_would 1 (by rfl)) l10_124 rfl hd rfl (Nat.le_of_ble_eq_true rfl) zle0 k

theorem bX10_would_4 {d : Nat} {Q : Option MV → MH → Prop} {h : MH} {u0 u1 u2 u3 u4 u5 u6 : Option MV} {vs0 : Int32} (k1 : vs0 = 0 → J mX10_would d 0 0 Q 0 0 21 [u0, u1, u2, u3, u4, u5, u6] [] h) (k2 : ¬ vs0 = 0 → J mX10_would d 0 0 Q 0 0 7 [u0, u1, u2, u3, u4, u5, u6] [] h) : J mX10_would d 0 0 Q 0 0 4 [u0, u1, u2, u3, u4, u5, u6] [.inl vs0] h := by
  refine zrun 2 1 qX10_would (o := 10) rfl ?_
  show ((vs0 = 0 → J mX10_would d 0 0 Q 0 0 21 [u0, u1, u2, u3, u4, u5, u6] [] h) ∧ (¬ vs0 = 0 → J mX10_would d 0 0 Q 0 0 7 [u0, u1, u2, u3, u4, u5, u6] [] h))
  exact ⟨k1, k2⟩

theorem bX10_would_7 {d d' : Nat} {Q : Option MV → MH → Prop} {h : MH} {u1 u2 u4 u5 u6 : Option MV} {v3 : Int32} (hr : zRf h) (hd : d' + 1 ≤ d) (k : Con mX2_has d' 0 0 [.inr (.inr 16), .inl v3] h (zri fun (x : Int32) h' => J mX10_would d 0 0 Q 0 0 18 [some (.inr (.inr 1)), u1, u2, some (.inl v3), u4, u5, u6] [.inl x] h')) : J mX10_would d 0 0 Q 0 0 7 [some (.inr (.inr 1)), u1, u2, some (.inl v3), u4, u5, u6] [] h := by
  refine zrun 3 4 qX10_would (o := 10) rfl ?_
  show zokO h 1 10 ∧ zokO h (h.2.2.1 1 4) 1 ∧ J mX10_would d 0 0 Q 0 0 15 [some (.inr (.inr 1)), u1, u2, some (.inl v3), u4, u5, u6] [.inl v3, .inr (.inr (h.2.2.1 (h.2.2.1 1 4) 0))] h
  rw [(show h.2.2.1 1 4 = 15 from (hr.at (by decide) (by decide) (by rfl))), (show h.2.2.1 15 0 = 16 from (hr.at (by decide) (by decide) (by rfl)))]
  exact ⟨(zo hr (by decide) rfl), (zo hr (by decide) rfl), zcVi (as := [.inl v3]) (zat qX10_would 7 (by rfl)) l10_148 rfl hd rfl (Nat.le_of_ble_eq_true rfl) zle0 (ci := 2) (by decide) rfl (zo hr (by decide) rfl) k⟩

theorem bX10_would_18 {d : Nat} {Q : Option MV → MH → Prop} {h : MH} {u0 u1 u2 u3 u4 u5 u6 : Option MV} {vs0 : Int32} (k1 : ¬ vs0 = 0 → J mX10_would d 0 0 Q 0 0 24 [u0, u1, u2, u3, u4, u5, u6] [] h) (k2 : vs0 = 0 → J mX10_would d 0 0 Q 0 0 21 [u0, u1, u2, u3, u4, u5, u6] [] h) : J mX10_would d 0 0 Q 0 0 18 [u0, u1, u2, u3, u4, u5, u6] [.inl vs0] h := by
  refine zrun 8 1 qX10_would (o := 10) rfl ?_
  show ((¬ vs0 = 0 → J mX10_would d 0 0 Q 0 0 24 [u0, u1, u2, u3, u4, u5, u6] [] h) ∧ (vs0 = 0 → J mX10_would d 0 0 Q 0 0 21 [u0, u1, u2, u3, u4, u5, u6] [] h))
  exact ⟨k1, k2⟩

theorem bX10_would_21 {d : Nat} {Q : Option MV → MH → Prop} {h : MH} {u0 u1 u2 u3 u4 u5 u6 : Option MV} (k : Q (some (.inl (-(nI 2)))) h) : J mX10_would d 0 0 Q 0 0 21 [u0, u1, u2, u3, u4, u5, u6] [] h := by
  refine zrun 9 1 qX10_would (o := 10) rfl ?_
  show J mX10_would d 0 0 Q 0 0 23 [u0, u1, u2, u3, u4, u5, u6] [.inl (-(nI 2))] h
  exact J_iret (ty := .int) (zat qX10_would 10 (by rfl)) rfl rfl (Nat.le_refl 0) (Nat.le_refl 0) k

theorem bX10_would_24 {d d' : Nat} {Q : Option MV → MH → Prop} {h : MH} {u1 u2 u4 u5 u6 : Option MV} {v3 : Int32} (hr : zRf h) (hd : d' + 1 ≤ d) (k : Con mX2_sparksOf d' 0 0 [.inr (.inr 16), .inl v3] h (zri fun (x : Int32) h' => J mX10_would d 0 0 Q 0 0 35 [some (.inr (.inr 1)), u1, u2, some (.inl v3), u4, u5, u6] [.inl x] h')) : J mX10_would d 0 0 Q 0 0 24 [some (.inr (.inr 1)), u1, u2, some (.inl v3), u4, u5, u6] [] h := by
  refine zrun 11 4 qX10_would (o := 10) rfl ?_
  show zokO h 1 10 ∧ zokO h (h.2.2.1 1 4) 1 ∧ J mX10_would d 0 0 Q 0 0 32 [some (.inr (.inr 1)), u1, u2, some (.inl v3), u4, u5, u6] [.inl v3, .inr (.inr (h.2.2.1 (h.2.2.1 1 4) 0))] h
  rw [(show h.2.2.1 1 4 = 15 from (hr.at (by decide) (by decide) (by rfl))), (show h.2.2.1 15 0 = 16 from (hr.at (by decide) (by decide) (by rfl)))]
  exact ⟨(zo hr (by decide) rfl), (zo hr (by decide) rfl), zcVi (as := [.inl v3]) (zat qX10_would 15 (by rfl)) l10_154 rfl hd rfl (Nat.le_of_ble_eq_true rfl) zle0 (ci := 2) (by decide) rfl (zo hr (by decide) rfl) k⟩

theorem bX10_would_35 {d : Nat} {Q : Option MV → MH → Prop} {h : MH} {u0 u1 u2 u3 u5 u6 : Option MV} {vs0 v4 : Int32} (k1 : (lg_cmp (vs0.toInt64 + v4.toInt64) (lN 1)) < 0 → J mX10_would d 0 0 Q 0 0 58 [u0, u1, u2, u3, some (.inl v4), some (.inr (.inl (vs0.toInt64 + v4.toInt64))), none] [] h) (k2 : ¬ (lg_cmp (vs0.toInt64 + v4.toInt64) (lN 1)) < 0 → J mX10_would d 0 0 Q 0 0 49 [u0, u1, u2, u3, some (.inl v4), some (.inr (.inl (vs0.toInt64 + v4.toInt64))), none] [] h) : J mX10_would d 0 0 Q 0 0 35 [u0, u1, u2, u3, some (.inl v4), u5, u6] [.inl vs0] h := by
  refine zrun 16 9 qX10_would (o := 10) rfl ?_
  show (((lg_cmp (vs0.toInt64 + v4.toInt64) (lN 1)) < 0 → J mX10_would d 0 0 Q 0 0 58 [u0, u1, u2, u3, some (.inl v4), some (.inr (.inl (vs0.toInt64 + v4.toInt64))), none] [] h) ∧ (¬ (lg_cmp (vs0.toInt64 + v4.toInt64) (lN 1)) < 0 → J mX10_would d 0 0 Q 0 0 49 [u0, u1, u2, u3, some (.inl v4), some (.inr (.inl (vs0.toInt64 + v4.toInt64))), none] [] h))
  exact ⟨k1, k2⟩

theorem bX10_would_49 {d : Nat} {Q : Option MV → MH → Prop} {h : MH} {u0 u1 u2 u3 u4 u6 : Option MV} {v5 : Int64} (k1 : (lg_cmp v5 (200000 : Int64)) ≤ 0 → J mX10_would d 0 0 Q 0 0 61 [u0, u1, u2, u3, u4, some (.inr (.inl v5)), u6] [] h) (k2 : ¬ (lg_cmp v5 (200000 : Int64)) ≤ 0 → J mX10_would d 0 0 Q 0 0 58 [u0, u1, u2, u3, u4, some (.inr (.inl v5)), u6] [] h) : J mX10_would d 0 0 Q 0 0 49 [u0, u1, u2, u3, u4, some (.inr (.inl v5)), u6] [] h := by
  refine zrun 25 4 qX10_would (o := 10) rfl ?_
  show (((lg_cmp v5 (200000 : Int64)) ≤ 0 → J mX10_would d 0 0 Q 0 0 61 [u0, u1, u2, u3, u4, some (.inr (.inl v5)), u6] [] h) ∧ (¬ (lg_cmp v5 (200000 : Int64)) ≤ 0 → J mX10_would d 0 0 Q 0 0 58 [u0, u1, u2, u3, u4, some (.inr (.inl v5)), u6] [] h))
  exact ⟨k1, k2⟩

theorem bX10_would_58 {d : Nat} {Q : Option MV → MH → Prop} {h : MH} {u0 u1 u2 u3 u4 u5 u6 : Option MV} (k : Q (some (.inl (-(nI 3)))) h) : J mX10_would d 0 0 Q 0 0 58 [u0, u1, u2, u3, u4, u5, u6] [] h := by
  refine zrun 29 1 qX10_would (o := 10) rfl ?_
  show J mX10_would d 0 0 Q 0 0 60 [u0, u1, u2, u3, u4, u5, u6] [.inl (-(nI 3))] h
  exact J_iret (ty := .int) (zat qX10_would 30 (by rfl)) rfl rfl (Nat.le_refl 0) (Nat.le_refl 0) k

theorem bX10_would_61 {d d' : Nat} {Q : Option MV → MH → Prop} {h : MH} {u1 u2 u3 u4 u5 u6 : Option MV} (hr : zRf h) (hd : d' + 1 ≤ d) (k : Con mX8_lay d' 0 0 [.inr (.inr 48), .inr (.inr 16)] h (zrv fun h' => J mX10_would d 0 0 Q 0 0 75 [some (.inr (.inr 1)), u1, u2, u3, u4, u5, u6] [] h')) : J mX10_would d 0 0 Q 0 0 61 [some (.inr (.inr 1)), u1, u2, u3, u4, u5, u6] [] h := by
  refine zrun 31 5 qX10_would (o := 10) rfl ?_
  show zokO h 1 10 ∧ zokO h 1 10 ∧ zokO h (h.2.2.1 1 4) 1 ∧ J mX10_would d 0 0 Q 0 0 72 [some (.inr (.inr 1)), u1, u2, u3, u4, u5, u6] [.inr (.inr (h.2.2.1 (h.2.2.1 1 4) 0)), .inr (.inr (h.2.2.1 1 7))] h
  rw [(show h.2.2.1 1 7 = 48 from (hr.at (by decide) (by decide) (by rfl))), (show h.2.2.1 1 4 = 15 from (hr.at (by decide) (by decide) (by rfl))), (show h.2.2.1 15 0 = 16 from (hr.at (by decide) (by decide) (by rfl)))]
  exact ⟨(zo hr (by decide) rfl), (zo hr (by decide) rfl), (zo hr (by decide) rfl), zcVv (as := [.inr (.inr 16)]) (zat qX10_would 36 (by rfl)) l10_212 rfl hd rfl (Nat.le_of_ble_eq_true rfl) zle0 (ci := 8) (by decide) rfl (zo hr (by decide) rfl) k⟩

theorem bX10_would_75 {d d' : Nat} {Q : Option MV → MH → Prop} {h : MH} {u2 u4 u6 : Option MV} {v3 v1 : Int32} {v5 : Int64} (hr : zRf h) (g0 : vp_in v3 8) (g1 : vp_in v1 4) (hd : d' + 1 ≤ d) (k : Con mX8_play d' 0 0 [.inr (.inr 48), .inr (.inr (22 + 6 * v1.toNatClampNeg)), .inl (-(nI 1)), .inl (1024000000 : Int32)] (zsI h 49 v3.toNatClampNeg (v5.toInt32 * (nI 256))) (zrv fun h' => J mX10_would d 0 0 Q 0 0 110 [some (.inr (.inr 1)), some (.inl v1), u2, some (.inl v3), u4, some (.inr (.inl v5)), u6] [] h')) : J mX10_would d 0 0 Q 0 0 75 [some (.inr (.inr 1)), some (.inl v1), u2, some (.inl v3), u4, some (.inr (.inl v5)), u6] [] h := by
  refine zrun 37 18 qX10_would (o := 10) rfl ?_
  show zokO h 1 10 ∧ zokO h (h.2.2.1 1 7) 8 ∧ zokA h (h.2.2.1 (h.2.2.1 1 7) 1) 20 v3 ∧ zokO (zsI h (h.2.2.1 (h.2.2.1 1 7) 1) v3.toNatClampNeg (v5.toInt32 * (nI 256))) 1 10 ∧ zokO (zsI h (h.2.2.1 (h.2.2.1 1 7) 1) v3.toNatClampNeg (v5.toInt32 * (nI 256))) 1 10 ∧ zokO (zsI h (h.2.2.1 (h.2.2.1 1 7) 1) v3.toNatClampNeg (v5.toInt32 * (nI 256))) (h.2.2.1 1 4) 1 ∧ zokR (zsI h (h.2.2.1 (h.2.2.1 1 7) 1) v3.toNatClampNeg (v5.toInt32 * (nI 256))) (h.2.2.1 (h.2.2.1 1 4) 1) v1 ∧ J mX10_would d 0 0 Q 0 0 107 [some (.inr (.inr 1)), some (.inl v1), u2, some (.inl v3), u4, some (.inr (.inl v5)), u6] [.inl (1024000000 : Int32), .inl (-(nI 1)), .inr (.inr (h.2.2.1 (h.2.2.1 (h.2.2.1 1 4) 1) v1.toNatClampNeg)), .inr (.inr (h.2.2.1 1 7))] (zsI h (h.2.2.1 (h.2.2.1 1 7) 1) v3.toNatClampNeg (v5.toInt32 * (nI 256)))
  rw [(show h.2.2.1 1 7 = 48 from (hr.at (by decide) (by decide) (by rfl))), (show h.2.2.1 48 1 = 49 from (hr.at (by decide) (by decide) (by rfl))), (show h.2.2.1 1 4 = 15 from (hr.at (by decide) (by decide) (by rfl))), (show h.2.2.1 15 1 = 21 from (hr.at (by decide) (by decide) (by rfl))), (show h.2.2.1 21 v1.toNatClampNeg = (22 + 6 * v1.toNatClampNeg) from (hr.a30 (by decide) (by have := hr.n; omega) (by rfl) (vp_lt g1)))]
  exact ⟨(zo hr (by decide) rfl), (zo hr (by decide) rfl), (zia hr (by decide) (by rfl) g0), (zo hr (by decide) rfl), (zo hr (by decide) rfl), (zo hr (by decide) rfl), (zir_ hr (by decide) (by rfl) (by decide) g1), zcVv (as := [.inr (.inr (22 + 6 * v1.toNatClampNeg)), .inl (-(nI 1)), .inl (1024000000 : Int32)]) (zat qX10_would 55 (by rfl)) l10_216 rfl hd rfl (Nat.le_of_ble_eq_true rfl) zle0 (ci := 8) (by decide) rfl (show zokO _ _ _ from (zo hr (by decide) rfl)) k⟩

theorem bX10_would_110 {d d' : Nat} {Q : Option MV → MH → Prop} {h : MH} {u1 u3 u4 u5 u6 : Option MV} {v2 : Int32} (hr : zRf h) (hd : d' + 1 ≤ d) (k : Con mX8_bellAt d' 0 0 [.inr (.inr 48), .inl v2] h (zri fun (x : Int32) h' => J mX10_would d 0 0 Q 0 0 118 [some (.inr (.inr 1)), u1, some (.inl v2), u3, u4, u5, u6] [.inl x] h')) : J mX10_would d 0 0 Q 0 0 110 [some (.inr (.inr 1)), u1, some (.inl v2), u3, u4, u5, u6] [] h := by
  refine zrun 56 3 qX10_would (o := 10) rfl ?_
  show zokO h 1 10 ∧ J mX10_would d 0 0 Q 0 0 115 [some (.inr (.inr 1)), u1, some (.inl v2), u3, u4, u5, u6] [.inl v2, .inr (.inr (h.2.2.1 1 7))] h
  rw [(show h.2.2.1 1 7 = 48 from (hr.at (by decide) (by decide) (by rfl)))]
  exact ⟨(zo hr (by decide) rfl), zcVi (as := [.inl v2]) (zat qX10_would 59 (by rfl)) l10_226 rfl hd rfl (Nat.le_of_ble_eq_true rfl) zle0 (ci := 8) (by decide) rfl (zo hr (by decide) rfl) k⟩

theorem bX10_would_118 {d : Nat} {Q : Option MV → MH → Prop} {h : MH} {u0 u1 u2 u3 u4 u5 u6 : Option MV} {vs0 : Int32} (k : Q (some (.inl vs0)) h) : J mX10_would d 0 0 Q 0 0 118 [u0, u1, u2, u3, u4, u5, u6] [.inl vs0] h := by
  exact J_iret (ty := .int) (zat qX10_would 60 (by rfl)) rfl rfl (Nat.le_refl 0) (Nat.le_refl 0) k

theorem bX10_off_0 {d d' : Nat} {Q : Option MV → MH → Prop} {h : MH} {u0 u2 u3 : Option MV} {v1 : Int32} (hd : d' + 1 ≤ d) (k : Con mX10_isPlan d' 0 0 [.inl v1] h (zri fun (x : Int32) h' => J mX10_off d 0 0 Q 0 0 4 [u0, some (.inl v1), u2, u3] [.inl x] h')) : J mX10_off d 0 0 Q 0 0 0 [u0, some (.inl v1), u2, u3] [] h := by
  refine zrun 0 1 qX10_off (o := 10) rfl ?_
  show J mX10_off d 0 0 Q 0 0 1 [u0, some (.inl v1), u2, u3] [.inl v1] h
  exact zcSi (as := [.inl v1]) (zat qX10_off 1 (by rfl)) l10_124 rfl hd rfl (Nat.le_of_ble_eq_true rfl) zle0 k

theorem bX10_off_4 {d : Nat} {Q : Option MV → MH → Prop} {h : MH} {u0 u1 u2 u3 : Option MV} {vs0 : Int32} (k1 : vs0 = 0 → J mX10_off d 0 0 Q 0 0 16 [u0, u1, u2, u3] [] h) (k2 : ¬ vs0 = 0 → J mX10_off d 0 0 Q 0 0 7 [u0, u1, u2, u3] [] h) : J mX10_off d 0 0 Q 0 0 4 [u0, u1, u2, u3] [.inl vs0] h := by
  refine zrun 2 1 qX10_off (o := 10) rfl ?_
  show ((vs0 = 0 → J mX10_off d 0 0 Q 0 0 16 [u0, u1, u2, u3] [] h) ∧ (¬ vs0 = 0 → J mX10_off d 0 0 Q 0 0 7 [u0, u1, u2, u3] [] h))
  exact ⟨k1, k2⟩

theorem bX10_off_7 {d : Nat} {Q : Option MV → MH → Prop} {h : MH} {u0 u1 u2 : Option MV} {v3 : Int32} (k1 : v3 < 0 → J mX10_off d 0 0 Q 0 0 16 [u0, u1, u2, some (.inl v3)] [] h) (k2 : ¬ v3 < 0 → J mX10_off d 0 0 Q 0 0 11 [u0, u1, u2, some (.inl v3)] [] h) : J mX10_off d 0 0 Q 0 0 7 [u0, u1, u2, some (.inl v3)] [] h := by
  refine zrun 3 2 qX10_off (o := 10) rfl ?_
  show ((v3 < 0 → J mX10_off d 0 0 Q 0 0 16 [u0, u1, u2, some (.inl v3)] [] h) ∧ (¬ v3 < 0 → J mX10_off d 0 0 Q 0 0 11 [u0, u1, u2, some (.inl v3)] [] h))
  exact ⟨k1, k2⟩

theorem bX10_off_11 {d : Nat} {Q : Option MV → MH → Prop} {h : MH} {u0 u1 u2 : Option MV} {v3 : Int32} (k1 : v3 ≤ (nI 1) → J mX10_off d 0 0 Q 0 0 19 [u0, u1, u2, some (.inl v3)] [] h) (k2 : ¬ v3 ≤ (nI 1) → J mX10_off d 0 0 Q 0 0 16 [u0, u1, u2, some (.inl v3)] [] h) : J mX10_off d 0 0 Q 0 0 11 [u0, u1, u2, some (.inl v3)] [] h := by
  refine zrun 5 3 qX10_off (o := 10) rfl ?_
  show ((v3 ≤ (nI 1) → J mX10_off d 0 0 Q 0 0 19 [u0, u1, u2, some (.inl v3)] [] h) ∧ (¬ v3 ≤ (nI 1) → J mX10_off d 0 0 Q 0 0 16 [u0, u1, u2, some (.inl v3)] [] h))
  exact ⟨k1, k2⟩

theorem bX10_off_16 {d : Nat} {Q : Option MV → MH → Prop} {h : MH} {u0 u1 u2 u3 : Option MV} (k : Q (some (.inl (-(nI 2)))) h) : J mX10_off d 0 0 Q 0 0 16 [u0, u1, u2, u3] [] h := by
  refine zrun 8 1 qX10_off (o := 10) rfl ?_
  show J mX10_off d 0 0 Q 0 0 18 [u0, u1, u2, u3] [.inl (-(nI 2))] h
  exact J_iret (ty := .int) (zat qX10_off 9 (by rfl)) rfl rfl (Nat.le_refl 0) (Nat.le_refl 0) k

theorem bX10_off_19 {d : Nat} {Q : Option MV → MH → Prop} {h : MH} {u0 u1 u3 : Option MV} {v2 : Int32} (k1 : 0 ≤ v2 → J mX10_off d 0 0 Q 0 0 26 [u0, u1, some (.inl v2), u3] [] h) (k2 : ¬ 0 ≤ v2 → J mX10_off d 0 0 Q 0 0 23 [u0, u1, some (.inl v2), u3] [] h) : J mX10_off d 0 0 Q 0 0 19 [u0, u1, some (.inl v2), u3] [] h := by
  refine zrun 10 2 qX10_off (o := 10) rfl ?_
  show ((0 ≤ v2 → J mX10_off d 0 0 Q 0 0 26 [u0, u1, some (.inl v2), u3] [] h) ∧ (¬ 0 ≤ v2 → J mX10_off d 0 0 Q 0 0 23 [u0, u1, some (.inl v2), u3] [] h))
  exact ⟨k1, k2⟩

theorem bX10_off_23 {d : Nat} {Q : Option MV → MH → Prop} {h : MH} {u0 u1 u2 u3 : Option MV} (k : Q (some (.inl (-(nI 3)))) h) : J mX10_off d 0 0 Q 0 0 23 [u0, u1, u2, u3] [] h := by
  refine zrun 12 1 qX10_off (o := 10) rfl ?_
  show J mX10_off d 0 0 Q 0 0 25 [u0, u1, u2, u3] [.inl (-(nI 3))] h
  exact J_iret (ty := .int) (zat qX10_off 13 (by rfl)) rfl rfl (Nat.le_refl 0) (Nat.le_refl 0) k

theorem bX10_off_26 {d : Nat} {Q : Option MV → MH → Prop} {h : MH} {u2 u3 : Option MV} {v1 : Int32} (hr : zRf h) (k1 : (h.1 58 0) = v1 → J mX10_off d 0 0 Q 0 0 72 [some (.inr (.inr 1)), some (.inl v1), u2, u3] [] h) (k2 : ¬ (h.1 58 0) = v1 → J mX10_off d 0 0 Q 0 0 37 [some (.inr (.inr 1)), some (.inl v1), u2, u3] [] h) : J mX10_off d 0 0 Q 0 0 26 [some (.inr (.inr 1)), some (.inl v1), u2, u3] [] h := by
  refine zrun 14 5 qX10_off (o := 10) rfl ?_
  show zokO h 1 10 ∧ zokO h (h.2.2.1 1 9) 4 ∧ (((h.1 (h.2.2.1 1 9) 0) = v1 → J mX10_off d 0 0 Q 0 0 72 [some (.inr (.inr 1)), some (.inl v1), u2, u3] [] h) ∧ (¬ (h.1 (h.2.2.1 1 9) 0) = v1 → J mX10_off d 0 0 Q 0 0 37 [some (.inr (.inr 1)), some (.inl v1), u2, u3] [] h))
  rw [(show h.2.2.1 1 9 = 58 from (hr.at (by decide) (by decide) (by rfl)))]
  exact ⟨(zo hr (by decide) rfl), (zo hr (by decide) rfl), k1, k2⟩

theorem bX10_off_37 {d d' : Nat} {Q : Option MV → MH → Prop} {h : MH} {u2 u3 : Option MV} {v1 : Int32} (hr : zRf h) (g0 : vp_in v1 4) (hd : d' + 1 ≤ d) (k : Con mX4_tryAll d' 0 0 [.inr (.inr 58), .inr (.inr 48), .inr (.inr 16), .inr (.inr (22 + 6 * v1.toNatClampNeg))] h (zrv fun h' => J mX10_off d 0 0 Q 0 0 64 [some (.inr (.inr 1)), some (.inl v1), u2, u3] [] h')) : J mX10_off d 0 0 Q 0 0 37 [some (.inr (.inr 1)), some (.inl v1), u2, u3] [] h := by
  refine zrun 19 12 qX10_off (o := 10) rfl ?_
  show zokO h 1 10 ∧ zokO h 1 10 ∧ zokO h 1 10 ∧ zokO h (h.2.2.1 1 4) 1 ∧ zokO h 1 10 ∧ zokO h (h.2.2.1 1 4) 1 ∧ zokR h (h.2.2.1 (h.2.2.1 1 4) 1) v1 ∧ J mX10_off d 0 0 Q 0 0 61 [some (.inr (.inr 1)), some (.inl v1), u2, u3] [.inr (.inr (h.2.2.1 (h.2.2.1 (h.2.2.1 1 4) 1) v1.toNatClampNeg)), .inr (.inr (h.2.2.1 (h.2.2.1 1 4) 0)), .inr (.inr (h.2.2.1 1 7)), .inr (.inr (h.2.2.1 1 9))] h
  rw [(show h.2.2.1 1 9 = 58 from (hr.at (by decide) (by decide) (by rfl))), (show h.2.2.1 1 7 = 48 from (hr.at (by decide) (by decide) (by rfl))), (show h.2.2.1 1 4 = 15 from (hr.at (by decide) (by decide) (by rfl))), (show h.2.2.1 15 0 = 16 from (hr.at (by decide) (by decide) (by rfl))), (show h.2.2.1 15 1 = 21 from (hr.at (by decide) (by decide) (by rfl))), (show h.2.2.1 21 v1.toNatClampNeg = (22 + 6 * v1.toNatClampNeg) from (hr.a30 (by decide) (by have := hr.n; omega) (by rfl) (vp_lt g0)))]
  exact ⟨(zo hr (by decide) rfl), (zo hr (by decide) rfl), (zo hr (by decide) rfl), (zo hr (by decide) rfl), (zo hr (by decide) rfl), (zo hr (by decide) rfl), (zir_ hr (by decide) (by rfl) (by decide) g0), zcVv (as := [.inr (.inr 48), .inr (.inr 16), .inr (.inr (22 + 6 * v1.toNatClampNeg))]) (zat qX10_off 31 (by rfl)) l10_266 rfl hd rfl (Nat.le_of_ble_eq_true rfl) zle0 (ci := 4) (by decide) rfl (zo hr (by decide) rfl) k⟩

theorem bX10_off_64 {d : Nat} {Q : Option MV → MH → Prop} {h : MH} {u2 u3 : Option MV} {v1 : Int32} (hr : zRf h) (k : J mX10_off d 0 0 Q 0 0 72 [some (.inr (.inr 1)), some (.inl v1), u2, u3] [] (zsI h 58 0 v1)) : J mX10_off d 0 0 Q 0 0 64 [some (.inr (.inr 1)), some (.inl v1), u2, u3] [] h := by
  refine zrun 32 4 qX10_off (o := 10) rfl ?_
  show zokO h 1 10 ∧ zokO h (h.2.2.1 1 9) 4 ∧ J mX10_off d 0 0 Q 0 0 72 [some (.inr (.inr 1)), some (.inl v1), u2, u3] [] (zsI h (h.2.2.1 1 9) 0 v1)
  rw [(show h.2.2.1 1 9 = 58 from (hr.at (by decide) (by decide) (by rfl)))]
  exact ⟨(zo hr (by decide) rfl), (zo hr (by decide) rfl), k⟩

theorem bX10_off_72 {d : Nat} {Q : Option MV → MH → Prop} {h : MH} {u1 u3 : Option MV} {v2 : Int32} (hr : zRf h) (k1 : v2 < (h.1 58 1) → J mX10_off d 0 0 Q 0 0 85 [some (.inr (.inr 1)), u1, some (.inl v2), u3] [] h) (k2 : ¬ v2 < (h.1 58 1) → J mX10_off d 0 0 Q 0 0 83 [some (.inr (.inr 1)), u1, some (.inl v2), u3] [] h) : J mX10_off d 0 0 Q 0 0 72 [some (.inr (.inr 1)), u1, some (.inl v2), u3] [] h := by
  refine zrun 36 5 qX10_off (o := 10) rfl ?_
  show zokO h 1 10 ∧ zokO h (h.2.2.1 1 9) 4 ∧ ((v2 < (h.1 (h.2.2.1 1 9) 1) → J mX10_off d 0 0 Q 0 0 85 [some (.inr (.inr 1)), u1, some (.inl v2), u3] [] h) ∧ (¬ v2 < (h.1 (h.2.2.1 1 9) 1) → J mX10_off d 0 0 Q 0 0 83 [some (.inr (.inr 1)), u1, some (.inl v2), u3] [] h))
  rw [(show h.2.2.1 1 9 = 58 from (hr.at (by decide) (by decide) (by rfl)))]
  exact ⟨(zo hr (by decide) rfl), (zo hr (by decide) rfl), k1, k2⟩

theorem bX10_off_83 {d : Nat} {Q : Option MV → MH → Prop} {h : MH} {u0 u1 u2 u3 : Option MV} (k : Q (some (.inl (-(nI 1)))) h) : J mX10_off d 0 0 Q 0 0 83 [u0, u1, u2, u3] [] h := by
  refine zrun 41 1 qX10_off (o := 10) rfl ?_
  show J mX10_off d 0 0 Q 0 0 84 [u0, u1, u2, u3] [.inl (-(nI 1))] h
  exact J_iret (ty := .int) (zat qX10_off 42 (by rfl)) rfl rfl (Nat.le_refl 0) (Nat.le_refl 0) k

theorem bX10_off_85 {d : Nat} {Q : Option MV → MH → Prop} {h : MH} {u0 u1 u2 : Option MV} {v3 : Int32} (k1 : ¬ v3 = 0 → J mX10_off d 0 0 Q 0 0 101 [u0, u1, u2, some (.inl v3)] [] h) (k2 : v3 = 0 → J mX10_off d 0 0 Q 0 0 89 [u0, u1, u2, some (.inl v3)] [] h) : J mX10_off d 0 0 Q 0 0 85 [u0, u1, u2, some (.inl v3)] [] h := by
  refine zrun 43 2 qX10_off (o := 10) rfl ?_
  show ((¬ v3 = 0 → J mX10_off d 0 0 Q 0 0 101 [u0, u1, u2, some (.inl v3)] [] h) ∧ (v3 = 0 → J mX10_off d 0 0 Q 0 0 89 [u0, u1, u2, some (.inl v3)] [] h))
  exact ⟨k1, k2⟩

theorem bX10_off_89 {d : Nat} {Q : Option MV → MH → Prop} {h : MH} {u1 u3 : Option MV} {v2 : Int32} (hr : zRf h) (g0 : vp_in v2 40) (k : J mX10_off d 0 0 Q 0 0 110 [some (.inr (.inr 1)), u1, some (.inl v2), u3] [.inl (h.1 59 v2.toNatClampNeg)] h) : J mX10_off d 0 0 Q 0 0 89 [some (.inr (.inr 1)), u1, some (.inl v2), u3] [] h := by
  refine zrun 45 6 qX10_off (o := 10) rfl ?_
  show zokO h 1 10 ∧ zokO h (h.2.2.1 1 9) 4 ∧ zokA h (h.2.2.1 (h.2.2.1 1 9) 2) 20 v2 ∧ J mX10_off d 0 0 Q 0 0 110 [some (.inr (.inr 1)), u1, some (.inl v2), u3] [.inl (h.1 (h.2.2.1 (h.2.2.1 1 9) 2) v2.toNatClampNeg)] h
  rw [(show h.2.2.1 1 9 = 58 from (hr.at (by decide) (by decide) (by rfl))), (show h.2.2.1 58 2 = 59 from (hr.at (by decide) (by decide) (by rfl)))]
  exact ⟨(zo hr (by decide) rfl), (zo hr (by decide) rfl), (zia hr (by decide) (by rfl) g0), k⟩

theorem bX10_off_101 {d : Nat} {Q : Option MV → MH → Prop} {h : MH} {u1 u3 : Option MV} {v2 : Int32} (hr : zRf h) (g0 : vp_in v2 40) (k : J mX10_off d 0 0 Q 0 0 110 [some (.inr (.inr 1)), u1, some (.inl v2), u3] [.inl (h.1 60 v2.toNatClampNeg)] h) : J mX10_off d 0 0 Q 0 0 101 [some (.inr (.inr 1)), u1, some (.inl v2), u3] [] h := by
  refine zrun 51 5 qX10_off (o := 10) rfl ?_
  show zokO h 1 10 ∧ zokO h (h.2.2.1 1 9) 4 ∧ zokA h (h.2.2.1 (h.2.2.1 1 9) 3) 20 v2 ∧ J mX10_off d 0 0 Q 0 0 110 [some (.inr (.inr 1)), u1, some (.inl v2), u3] [.inl (h.1 (h.2.2.1 (h.2.2.1 1 9) 3) v2.toNatClampNeg)] h
  rw [(show h.2.2.1 1 9 = 58 from (hr.at (by decide) (by decide) (by rfl))), (show h.2.2.1 58 3 = 60 from (hr.at (by decide) (by decide) (by rfl)))]
  exact ⟨(zo hr (by decide) rfl), (zo hr (by decide) rfl), (zia hr (by decide) (by rfl) g0), k⟩

theorem bX10_off_110 {d : Nat} {Q : Option MV → MH → Prop} {h : MH} {u0 u1 u2 u3 : Option MV} {vs0 : Int32} (k : Q (some (.inl (vs0 / (nI 256)))) h) : J mX10_off d 0 0 Q 0 0 110 [u0, u1, u2, u3] [.inl vs0] h := by
  refine zrun 56 2 qX10_off (o := 10) rfl ?_
  show ¬ (nI 256) = 0 ∧ J mX10_off d 0 0 Q 0 0 114 [u0, u1, u2, u3] [.inl (vs0 / (nI 256))] h
  exact ⟨(by decide), J_iret (ty := .int) (zat qX10_off 58 (by rfl)) rfl rfl (Nat.le_refl 0) (Nat.le_refl 0) k⟩

theorem bX10_night_0 {d d' : Nat} {Q : Option MV → MH → Prop} {h : MH} {u0 u2 u3 u4 u5 u6 u7 : Option MV} {v1 : Int32} (hd : d' + 1 ≤ d) (k : Con mX10_isPlan d' 0 0 [.inl v1] h (zri fun (x : Int32) h' => J mX10_night d 0 0 Q 0 0 4 [u0, some (.inl v1), u2, u3, u4, u5, u6, u7] [.inl x] h')) : J mX10_night d 0 0 Q 0 0 0 [u0, some (.inl v1), u2, u3, u4, u5, u6, u7] [] h := by
  refine zrun 0 1 qX10_night (o := 10) rfl ?_
  show J mX10_night d 0 0 Q 0 0 1 [u0, some (.inl v1), u2, u3, u4, u5, u6, u7] [.inl v1] h
  exact zcSi (as := [.inl v1]) (zat qX10_night 1 (by rfl)) l10_124 rfl hd rfl (Nat.le_of_ble_eq_true rfl) zle0 k

theorem bX10_night_4 {d : Nat} {Q : Option MV → MH → Prop} {h : MH} {u0 u1 u2 u3 u4 u5 u6 u7 : Option MV} {vs0 : Int32} (k1 : ¬ vs0 = 0 → J mX10_night d 0 0 Q 0 0 10 [u0, u1, u2, u3, u4, u5, u6, u7] [] h) (k2 : vs0 = 0 → J mX10_night d 0 0 Q 0 0 7 [u0, u1, u2, u3, u4, u5, u6, u7] [] h) : J mX10_night d 0 0 Q 0 0 4 [u0, u1, u2, u3, u4, u5, u6, u7] [.inl vs0] h := by
  refine zrun 2 1 qX10_night (o := 10) rfl ?_
  show ((¬ vs0 = 0 → J mX10_night d 0 0 Q 0 0 10 [u0, u1, u2, u3, u4, u5, u6, u7] [] h) ∧ (vs0 = 0 → J mX10_night d 0 0 Q 0 0 7 [u0, u1, u2, u3, u4, u5, u6, u7] [] h))
  exact ⟨k1, k2⟩

theorem bX10_night_7 {d : Nat} {Q : Option MV → MH → Prop} {h : MH} {u0 u1 u2 u3 u4 u5 u6 u7 : Option MV} (k : Q (some (.inl (-(nI 2)))) h) : J mX10_night d 0 0 Q 0 0 7 [u0, u1, u2, u3, u4, u5, u6, u7] [] h := by
  refine zrun 3 1 qX10_night (o := 10) rfl ?_
  show J mX10_night d 0 0 Q 0 0 9 [u0, u1, u2, u3, u4, u5, u6, u7] [.inl (-(nI 2))] h
  exact J_iret (ty := .int) (zat qX10_night 4 (by rfl)) rfl rfl (Nat.le_refl 0) (Nat.le_refl 0) k

theorem bX10_night_10 {d d' : Nat} {Q : Option MV → MH → Prop} {h : MH} {u1 u2 u3 u4 u5 u6 u7 : Option MV} (hr : zRf h) (hd : d' + 1 ≤ d) (k : Con mX8_lay d' 0 0 [.inr (.inr 48), .inr (.inr 16)] h (zrv fun h' => J mX10_night d 0 0 Q 0 0 24 [some (.inr (.inr 1)), u1, u2, u3, u4, u5, u6, u7] [] h')) : J mX10_night d 0 0 Q 0 0 10 [some (.inr (.inr 1)), u1, u2, u3, u4, u5, u6, u7] [] h := by
  refine zrun 5 5 qX10_night (o := 10) rfl ?_
  show zokO h 1 10 ∧ zokO h 1 10 ∧ zokO h (h.2.2.1 1 4) 1 ∧ J mX10_night d 0 0 Q 0 0 21 [some (.inr (.inr 1)), u1, u2, u3, u4, u5, u6, u7] [.inr (.inr (h.2.2.1 (h.2.2.1 1 4) 0)), .inr (.inr (h.2.2.1 1 7))] h
  rw [(show h.2.2.1 1 7 = 48 from (hr.at (by decide) (by decide) (by rfl))), (show h.2.2.1 1 4 = 15 from (hr.at (by decide) (by decide) (by rfl))), (show h.2.2.1 15 0 = 16 from (hr.at (by decide) (by decide) (by rfl)))]
  exact ⟨(zo hr (by decide) rfl), (zo hr (by decide) rfl), (zo hr (by decide) rfl), zcVv (as := [.inr (.inr 16)]) (zat qX10_night 10 (by rfl)) l10_212 rfl hd rfl (Nat.le_of_ble_eq_true rfl) zle0 (ci := 8) (by decide) rfl (zo hr (by decide) rfl) k⟩

theorem bX10_night_24 {d : Nat} {Q : Option MV → MH → Prop} {h : MH} {u0 u1 u4 u5 u6 u7 : Option MV} {v2 v3 : Int32} (k : J mX10_night d 0 0 Q 0 0 30 [u0, u1, some (.inl v2), some (.inl v3), some (.inl v2), some (.inl (nI 0)), u6, u7] [] h) : J mX10_night d 0 0 Q 0 0 24 [u0, u1, some (.inl v2), some (.inl v3), u4, u5, u6, u7] [] h := by
  refine zrun 11 4 qX10_night (o := 10) rfl ?_
  show J mX10_night d 0 0 Q 0 0 30 [u0, u1, some (.inl v2), some (.inl v3), some (.inl v2), some (.inl (nI 0)), u6, u7] [] h
  exact k

theorem bX10_night_30 {d : Nat} {Q : Option MV → MH → Prop} {h : MH} {u1 u2 u3 u4 u6 u7 : Option MV} {v5 : Int32} (hr : zRf h) (k1 : (h.1 16 0) ≤ v5 → J mX10_night d 0 0 Q 0 0 130 [some (.inr (.inr 1)), u1, u2, u3, u4, some (.inl v5), u6, u7] [] h) (k2 : ¬ (h.1 16 0) ≤ v5 → J mX10_night d 0 0 Q 0 0 45 [some (.inr (.inr 1)), u1, u2, u3, u4, some (.inl v5), u6, u7] [] h) : J mX10_night d 0 0 Q 0 0 30 [some (.inr (.inr 1)), u1, u2, u3, u4, some (.inl v5), u6, u7] [] h := by
  refine zrun 15 6 qX10_night (o := 10) rfl ?_
  show zokO h 1 10 ∧ zokO h (h.2.2.1 1 4) 1 ∧ zokO h (h.2.2.1 (h.2.2.1 1 4) 0) 2 ∧ (((h.1 (h.2.2.1 (h.2.2.1 1 4) 0) 0) ≤ v5 → J mX10_night d 0 0 Q 0 0 130 [some (.inr (.inr 1)), u1, u2, u3, u4, some (.inl v5), u6, u7] [] h) ∧ (¬ (h.1 (h.2.2.1 (h.2.2.1 1 4) 0) 0) ≤ v5 → J mX10_night d 0 0 Q 0 0 45 [some (.inr (.inr 1)), u1, u2, u3, u4, some (.inl v5), u6, u7] [] h))
  rw [(show h.2.2.1 1 4 = 15 from (hr.at (by decide) (by decide) (by rfl))), (show h.2.2.1 15 0 = 16 from (hr.at (by decide) (by decide) (by rfl)))]
  exact ⟨(zo hr (by decide) rfl), (zo hr (by decide) rfl), (zo hr (by decide) rfl), k1, k2⟩

theorem bX10_night_45 {d d' : Nat} {Q : Option MV → MH → Prop} {h : MH} {u1 u2 u6 u7 : Option MV} {v4 v3 v5 : Int32} (hr : zRf h) (g0 : vp_in v5 8) (g1 : ¬ (((nI 2) * (h.1 20 v5.toNatClampNeg)) + (nI 1)) = 0) (hd : d' + 1 ≤ d) (k : Con mX2_sparksOf d' 0 0 [.inr (.inr 16), .inl v5] h (zri fun (x : Int32) h' => J mX10_night d 0 0 Q 0 0 113 [some (.inr (.inr 1)), u1, u2, some (.inl v3), some (.inl (((1103515245 : Int32) * v4) + (nI 12345))), some (.inl v5), some (.inl (h.1 20 v5.toNatClampNeg)), some (.inl (((nI 100) + ((((((1103515245 : Int32) * v4) + (nI 12345)).toUInt32 >>> ((nI 16).toUInt32 &&& Int32.toUInt32 31)).toInt32) - (((((1103515245 : Int32) * v4) + (nI 12345)).toUInt32 >>> ((nI 16).toUInt32 &&& Int32.toUInt32 31)).toInt32) / (((nI 2) * (h.1 20 v5.toNatClampNeg)) + (nI 1)) * (((nI 2) * (h.1 20 v5.toNatClampNeg)) + (nI 1)))) - (h.1 20 v5.toNatClampNeg)))] [.inl x, .inl v5, .inr (.inr 49)] h')) : J mX10_night d 0 0 Q 0 0 45 [some (.inr (.inr 1)), u1, u2, some (.inl v3), some (.inl v4), some (.inl v5), u6, u7] [] h := by
  refine zrun 21 35 qX10_night (o := 10) rfl ?_
  show zokO h 1 10 ∧ zokO h (h.2.2.1 1 4) 1 ∧ zokO h (h.2.2.1 (h.2.2.1 1 4) 0) 2 ∧ zokA h (h.2.2.1 (h.2.2.1 (h.2.2.1 1 4) 0) 4) 20 v5 ∧ ¬ (((nI 2) * (h.1 (h.2.2.1 (h.2.2.1 (h.2.2.1 1 4) 0) 4) v5.toNatClampNeg)) + (nI 1)) = 0 ∧ zokO h 1 10 ∧ zokO h (h.2.2.1 1 7) 8 ∧ zokO h 1 10 ∧ zokO h (h.2.2.1 1 4) 1 ∧ J mX10_night d 0 0 Q 0 0 110 [some (.inr (.inr 1)), u1, u2, some (.inl v3), some (.inl (((1103515245 : Int32) * v4) + (nI 12345))), some (.inl v5), some (.inl (h.1 (h.2.2.1 (h.2.2.1 (h.2.2.1 1 4) 0) 4) v5.toNatClampNeg)), some (.inl (((nI 100) + ((((((1103515245 : Int32) * v4) + (nI 12345)).toUInt32 >>> ((nI 16).toUInt32 &&& Int32.toUInt32 31)).toInt32) - (((((1103515245 : Int32) * v4) + (nI 12345)).toUInt32 >>> ((nI 16).toUInt32 &&& Int32.toUInt32 31)).toInt32) / (((nI 2) * (h.1 (h.2.2.1 (h.2.2.1 (h.2.2.1 1 4) 0) 4) v5.toNatClampNeg)) + (nI 1)) * (((nI 2) * (h.1 (h.2.2.1 (h.2.2.1 (h.2.2.1 1 4) 0) 4) v5.toNatClampNeg)) + (nI 1)))) - (h.1 (h.2.2.1 (h.2.2.1 (h.2.2.1 1 4) 0) 4) v5.toNatClampNeg)))] [.inl v5, .inr (.inr (h.2.2.1 (h.2.2.1 1 4) 0)), .inl v5, .inr (.inr (h.2.2.1 (h.2.2.1 1 7) 1))] h
  rw [(show h.2.2.1 1 4 = 15 from (hr.at (by decide) (by decide) (by rfl))), (show h.2.2.1 15 0 = 16 from (hr.at (by decide) (by decide) (by rfl))), (show h.2.2.1 16 4 = 20 from (hr.at (by decide) (by decide) (by rfl))), (show h.2.2.1 1 7 = 48 from (hr.at (by decide) (by decide) (by rfl))), (show h.2.2.1 48 1 = 49 from (hr.at (by decide) (by decide) (by rfl)))]
  exact ⟨(zo hr (by decide) rfl), (zo hr (by decide) rfl), (zo hr (by decide) rfl), (zia hr (by decide) (by rfl) g0), g1, (zo hr (by decide) rfl), (zo hr (by decide) rfl), (zo hr (by decide) rfl), (zo hr (by decide) rfl), zcVi (as := [.inl v5]) (zat qX10_night 56 (by rfl)) l10_154 rfl hd rfl (Nat.le_of_ble_eq_true rfl) zle0 (ci := 2) (by decide) rfl (zo hr (by decide) rfl) k⟩

theorem bX10_night_113 {d : Nat} {Q : Option MV → MH → Prop} {h : MH} {u0 u1 u2 u3 u6 : Option MV} {vs1 vs2 v7 v5 v4 : Int32} {vs0 : Nat} (g0 : zokA h vs0 20 vs1) (k : J mX10_night d 0 0 Q 0 0 30 [u0, u1, u2, u3, some (.inl v4), some (.inl (v5 + nI 1)), u6, some (.inl v7)] [] (zsI h vs0 vs1.toNatClampNeg (((vs2 * v7) / (nI 100)) * (nI 256)))) : J mX10_night d 0 0 Q 0 0 113 [u0, u1, u2, u3, some (.inl v4), some (.inl v5), u6, some (.inl v7)] [.inl vs2, .inl vs1, .inr (.inr vs0)] h := by
  refine zrun 57 9 qX10_night (o := 10) rfl ?_
  show ¬ (nI 100) = 0 ∧ zokA h vs0 20 vs1 ∧ J mX10_night d 0 0 Q 0 0 30 [u0, u1, u2, u3, some (.inl v4), some (.inl (v5 + nI 1)), u6, some (.inl v7)] [] (zsI h vs0 vs1.toNatClampNeg (((vs2 * v7) / (nI 100)) * (nI 256)))
  exact ⟨(by decide), g0, k⟩

theorem bX10_night_130 {d d' : Nat} {Q : Option MV → MH → Prop} {h : MH} {u2 u3 u4 u5 u6 u7 : Option MV} {v1 : Int32} (hr : zRf h) (g0 : vp_in v1 4) (hd : d' + 1 ≤ d) (k : Con mX8_play d' 0 0 [.inr (.inr 48), .inr (.inr (22 + 6 * v1.toNatClampNeg)), .inl (-(nI 1)), .inl (1024000000 : Int32)] h (zrv fun h' => J mX10_night d 0 0 Q 0 0 149 [some (.inr (.inr 1)), some (.inl v1), u2, u3, u4, u5, u6, u7] [] h')) : J mX10_night d 0 0 Q 0 0 130 [some (.inr (.inr 1)), some (.inl v1), u2, u3, u4, u5, u6, u7] [] h := by
  refine zrun 66 9 qX10_night (o := 10) rfl ?_
  show zokO h 1 10 ∧ zokO h 1 10 ∧ zokO h (h.2.2.1 1 4) 1 ∧ zokR h (h.2.2.1 (h.2.2.1 1 4) 1) v1 ∧ J mX10_night d 0 0 Q 0 0 146 [some (.inr (.inr 1)), some (.inl v1), u2, u3, u4, u5, u6, u7] [.inl (1024000000 : Int32), .inl (-(nI 1)), .inr (.inr (h.2.2.1 (h.2.2.1 (h.2.2.1 1 4) 1) v1.toNatClampNeg)), .inr (.inr (h.2.2.1 1 7))] h
  rw [(show h.2.2.1 1 7 = 48 from (hr.at (by decide) (by decide) (by rfl))), (show h.2.2.1 1 4 = 15 from (hr.at (by decide) (by decide) (by rfl))), (show h.2.2.1 15 1 = 21 from (hr.at (by decide) (by decide) (by rfl))), (show h.2.2.1 21 v1.toNatClampNeg = (22 + 6 * v1.toNatClampNeg) from (hr.a30 (by decide) (by have := hr.n; omega) (by rfl) (vp_lt g0)))]
  exact ⟨(zo hr (by decide) rfl), (zo hr (by decide) rfl), (zo hr (by decide) rfl), (zir_ hr (by decide) (by rfl) (by decide) g0), zcVv (as := [.inr (.inr (22 + 6 * v1.toNatClampNeg)), .inl (-(nI 1)), .inl (1024000000 : Int32)]) (zat qX10_night 75 (by rfl)) l10_216 rfl hd rfl (Nat.le_of_ble_eq_true rfl) zle0 (ci := 8) (by decide) rfl (zo hr (by decide) rfl) k⟩

theorem bX10_night_149 {d d' : Nat} {Q : Option MV → MH → Prop} {h : MH} {u1 u2 u4 u5 u6 u7 : Option MV} {v3 : Int32} (hr : zRf h) (hd : d' + 1 ≤ d) (k : Con mX8_bellAt d' 0 0 [.inr (.inr 48), .inl v3] h (zri fun (x : Int32) h' => J mX10_night d 0 0 Q 0 0 157 [some (.inr (.inr 1)), u1, u2, some (.inl v3), u4, u5, u6, u7] [.inl x] h')) : J mX10_night d 0 0 Q 0 0 149 [some (.inr (.inr 1)), u1, u2, some (.inl v3), u4, u5, u6, u7] [] h := by
  refine zrun 76 3 qX10_night (o := 10) rfl ?_
  show zokO h 1 10 ∧ J mX10_night d 0 0 Q 0 0 154 [some (.inr (.inr 1)), u1, u2, some (.inl v3), u4, u5, u6, u7] [.inl v3, .inr (.inr (h.2.2.1 1 7))] h
  rw [(show h.2.2.1 1 7 = 48 from (hr.at (by decide) (by decide) (by rfl)))]
  exact ⟨(zo hr (by decide) rfl), zcVi (as := [.inl v3]) (zat qX10_night 79 (by rfl)) l10_226 rfl hd rfl (Nat.le_of_ble_eq_true rfl) zle0 (ci := 8) (by decide) rfl (zo hr (by decide) rfl) k⟩

theorem bX10_night_157 {d : Nat} {Q : Option MV → MH → Prop} {h : MH} {u0 u1 u2 u3 u4 u5 u6 u7 : Option MV} {vs0 : Int32} (k : Q (some (.inl vs0)) h) : J mX10_night d 0 0 Q 0 0 157 [u0, u1, u2, u3, u4, u5, u6, u7] [.inl vs0] h := by
  exact J_iret (ty := .int) (zat qX10_night 80 (by rfl)) rfl rfl (Nat.le_refl 0) (Nat.le_refl 0) k

theorem bX10_chime_0 {d d' : Nat} {Q : Option MV → MH → Prop} {h : MH} {u0 u2 u3 u4 u5 u6 : Option MV} {v1 : Int32} (hd : d' + 1 ≤ d) (k : Con mX10_isPlan d' 0 0 [.inl v1] h (zri fun (x : Int32) h' => J mX10_chime d 0 0 Q 0 0 4 [u0, some (.inl v1), u2, u3, u4, u5, u6] [.inl x] h')) : J mX10_chime d 0 0 Q 0 0 0 [u0, some (.inl v1), u2, u3, u4, u5, u6] [] h := by
  refine zrun 0 1 qX10_chime (o := 10) rfl ?_
  show J mX10_chime d 0 0 Q 0 0 1 [u0, some (.inl v1), u2, u3, u4, u5, u6] [.inl v1] h
  exact zcSi (as := [.inl v1]) (zat qX10_chime 1 (by rfl)) l10_124 rfl hd rfl (Nat.le_of_ble_eq_true rfl) zle0 k

theorem bX10_chime_4 {d : Nat} {Q : Option MV → MH → Prop} {h : MH} {u0 u1 u2 u3 u4 u5 u6 : Option MV} {vs0 : Int32} (k1 : vs0 = 0 → J mX10_chime d 0 0 Q 0 0 14 [u0, u1, u2, u3, u4, u5, u6] [] h) (k2 : ¬ vs0 = 0 → J mX10_chime d 0 0 Q 0 0 7 [u0, u1, u2, u3, u4, u5, u6] [] h) : J mX10_chime d 0 0 Q 0 0 4 [u0, u1, u2, u3, u4, u5, u6] [.inl vs0] h := by
  refine zrun 2 1 qX10_chime (o := 10) rfl ?_
  show ((vs0 = 0 → J mX10_chime d 0 0 Q 0 0 14 [u0, u1, u2, u3, u4, u5, u6] [] h) ∧ (¬ vs0 = 0 → J mX10_chime d 0 0 Q 0 0 7 [u0, u1, u2, u3, u4, u5, u6] [] h))
  exact ⟨k1, k2⟩

theorem bX10_chime_7 {d d' : Nat} {Q : Option MV → MH → Prop} {h : MH} {u0 u1 u3 u4 u5 u6 : Option MV} {v2 : Int32} (hd : d' + 1 ≤ d) (k : Con mX10_isPlan d' 0 0 [.inl v2] h (zri fun (x : Int32) h' => J mX10_chime d 0 0 Q 0 0 11 [u0, u1, some (.inl v2), u3, u4, u5, u6] [.inl x] h')) : J mX10_chime d 0 0 Q 0 0 7 [u0, u1, some (.inl v2), u3, u4, u5, u6] [] h := by
  refine zrun 3 1 qX10_chime (o := 10) rfl ?_
  show J mX10_chime d 0 0 Q 0 0 8 [u0, u1, some (.inl v2), u3, u4, u5, u6] [.inl v2] h
  exact zcSi (as := [.inl v2]) (zat qX10_chime 4 (by rfl)) l10_124 rfl hd rfl (Nat.le_of_ble_eq_true rfl) zle0 k

theorem bX10_chime_11 {d : Nat} {Q : Option MV → MH → Prop} {h : MH} {u0 u1 u2 u3 u4 u5 u6 : Option MV} {vs0 : Int32} (k1 : ¬ vs0 = 0 → J mX10_chime d 0 0 Q 0 0 17 [u0, u1, u2, u3, u4, u5, u6] [] h) (k2 : vs0 = 0 → J mX10_chime d 0 0 Q 0 0 14 [u0, u1, u2, u3, u4, u5, u6] [] h) : J mX10_chime d 0 0 Q 0 0 11 [u0, u1, u2, u3, u4, u5, u6] [.inl vs0] h := by
  refine zrun 5 1 qX10_chime (o := 10) rfl ?_
  show ((¬ vs0 = 0 → J mX10_chime d 0 0 Q 0 0 17 [u0, u1, u2, u3, u4, u5, u6] [] h) ∧ (vs0 = 0 → J mX10_chime d 0 0 Q 0 0 14 [u0, u1, u2, u3, u4, u5, u6] [] h))
  exact ⟨k1, k2⟩

theorem bX10_chime_14 {d : Nat} {Q : Option MV → MH → Prop} {h : MH} {u0 u1 u2 u3 u4 u5 u6 : Option MV} (k : Q (some (.inl (-(nI 2)))) h) : J mX10_chime d 0 0 Q 0 0 14 [u0, u1, u2, u3, u4, u5, u6] [] h := by
  refine zrun 6 1 qX10_chime (o := 10) rfl ?_
  show J mX10_chime d 0 0 Q 0 0 16 [u0, u1, u2, u3, u4, u5, u6] [.inl (-(nI 2))] h
  exact J_iret (ty := .int) (zat qX10_chime 7 (by rfl)) rfl rfl (Nat.le_refl 0) (Nat.le_refl 0) k

theorem bX10_chime_17 {d d' : Nat} {Q : Option MV → MH → Prop} {h : MH} {u2 u3 u4 u5 u6 : Option MV} {v1 : Int32} (hr : zRf h) (hd : d' + 1 ≤ d) (k : Con mX10_playAsTold d' 0 0 [.inr (.inr 1), .inl v1] h (zrv fun h' => J mX10_chime d 0 0 Q 0 0 22 [some (.inr (.inr 1)), some (.inl v1), u2, u3, u4, u5, u6] [] h')) : J mX10_chime d 0 0 Q 0 0 17 [some (.inr (.inr 1)), some (.inl v1), u2, u3, u4, u5, u6] [] h := by
  refine zrun 8 2 qX10_chime (o := 10) rfl ?_
  show J mX10_chime d 0 0 Q 0 0 19 [some (.inr (.inr 1)), some (.inl v1), u2, u3, u4, u5, u6] [.inl v1, .inr (.inr 1)] h
  exact zcVv (as := [.inl v1]) (zat qX10_chime 10 (by rfl)) l10_186 rfl hd rfl (Nat.le_of_ble_eq_true rfl) zle0 (ci := 10) (by decide) rfl (zo hr (by decide) rfl) k

theorem bX10_chime_22 {d d' : Nat} {Q : Option MV → MH → Prop} {h : MH} {u1 u2 u3 u4 u5 u6 : Option MV} (hr : zRf h) (hd : d' + 1 ≤ d) (k : Con mX10_keepBells d' 0 0 [.inr (.inr 1)] h (zri fun (x : Int32) h' => J mX10_chime d 0 0 Q 0 0 26 [some (.inr (.inr 1)), u1, u2, u3, u4, u5, u6] [.inl x] h')) : J mX10_chime d 0 0 Q 0 0 22 [some (.inr (.inr 1)), u1, u2, u3, u4, u5, u6] [] h := by
  refine zrun 11 1 qX10_chime (o := 10) rfl ?_
  show J mX10_chime d 0 0 Q 0 0 23 [some (.inr (.inr 1)), u1, u2, u3, u4, u5, u6] [.inr (.inr 1)] h
  exact zcVi (as := []) (zat qX10_chime 12 (by rfl)) l10_246 rfl hd rfl (Nat.le_of_ble_eq_true rfl) zle0 (ci := 10) (by decide) rfl (zo hr (by decide) rfl) k

theorem bX10_chime_26 {d d' : Nat} {Q : Option MV → MH → Prop} {h : MH} {u1 u3 u4 u5 u6 : Option MV} {vs0 v2 : Int32} (hr : zRf h) (hd : d' + 1 ≤ d) (k : Con mX10_playAsTold d' 0 0 [.inr (.inr 1), .inl v2] h (zrv fun h' => J mX10_chime d 0 0 Q 0 0 32 [some (.inr (.inr 1)), u1, some (.inl v2), some (.inl vs0), u4, u5, u6] [] h')) : J mX10_chime d 0 0 Q 0 0 26 [some (.inr (.inr 1)), u1, some (.inl v2), u3, u4, u5, u6] [.inl vs0] h := by
  refine zrun 13 3 qX10_chime (o := 10) rfl ?_
  show J mX10_chime d 0 0 Q 0 0 29 [some (.inr (.inr 1)), u1, some (.inl v2), some (.inl vs0), u4, u5, u6] [.inl v2, .inr (.inr 1)] h
  exact zcVv (as := [.inl v2]) (zat qX10_chime 16 (by rfl)) l10_186 rfl hd rfl (Nat.le_of_ble_eq_true rfl) zle0 (ci := 10) (by decide) rfl (zo hr (by decide) rfl) k

theorem bX10_chime_32 {d : Nat} {Q : Option MV → MH → Prop} {h : MH} {u0 u1 u2 u4 u5 u6 : Option MV} {v3 : Int32} (k : J mX10_chime d 0 0 Q 0 0 38 [u0, u1, u2, some (.inl v3), some (.inl (nI 0)), some (.inl (nI 0)), u6] [] h) : J mX10_chime d 0 0 Q 0 0 32 [u0, u1, u2, some (.inl v3), u4, u5, u6] [] h := by
  refine zrun 17 4 qX10_chime (o := 10) rfl ?_
  show J mX10_chime d 0 0 Q 0 0 38 [u0, u1, u2, some (.inl v3), some (.inl (nI 0)), some (.inl (nI 0)), u6] [] h
  exact k

theorem bX10_chime_38 {d : Nat} {Q : Option MV → MH → Prop} {h : MH} {u0 u1 u2 u4 u6 : Option MV} {v5 v3 : Int32} (k1 : v3 ≤ v5 → J mX10_chime d 0 0 Q 0 0 94 [u0, u1, u2, some (.inl v3), u4, some (.inl v5), u6] [] h) (k2 : ¬ v3 ≤ v5 → J mX10_chime d 0 0 Q 0 0 44 [u0, u1, u2, some (.inl v3), u4, some (.inl v5), u6] [] h) : J mX10_chime d 0 0 Q 0 0 38 [u0, u1, u2, some (.inl v3), u4, some (.inl v5), u6] [] h := by
  refine zrun 21 3 qX10_chime (o := 10) rfl ?_
  show ((v3 ≤ v5 → J mX10_chime d 0 0 Q 0 0 94 [u0, u1, u2, some (.inl v3), u4, some (.inl v5), u6] [] h) ∧ (¬ v3 ≤ v5 → J mX10_chime d 0 0 Q 0 0 44 [u0, u1, u2, some (.inl v3), u4, some (.inl v5), u6] [] h))
  exact ⟨k1, k2⟩

theorem bX10_chime_44 {d : Nat} {Q : Option MV → MH → Prop} {h : MH} {u0 u1 u2 u3 u4 u6 : Option MV} {v5 : Int32} (k : J mX10_chime d 0 0 Q 0 0 47 [u0, u1, u2, u3, u4, some (.inl v5), some (.inl (nI 0))] [] h) : J mX10_chime d 0 0 Q 0 0 44 [u0, u1, u2, u3, u4, some (.inl v5), u6] [] h := by
  refine zrun 24 2 qX10_chime (o := 10) rfl ?_
  show J mX10_chime d 0 0 Q 0 0 47 [u0, u1, u2, u3, u4, some (.inl v5), some (.inl (nI 0))] [] h
  exact k

theorem bX10_chime_47 {d : Nat} {Q : Option MV → MH → Prop} {h : MH} {u1 u2 u3 u4 u5 : Option MV} {v6 : Int32} (hr : zRf h) (k1 : (h.1 48 9) ≤ v6 → J mX10_chime d 0 0 Q 0 0 88 [some (.inr (.inr 1)), u1, u2, u3, u4, u5, some (.inl v6)] [] h) (k2 : ¬ (h.1 48 9) ≤ v6 → J mX10_chime d 0 0 Q 0 0 59 [some (.inr (.inr 1)), u1, u2, u3, u4, u5, some (.inl v6)] [] h) : J mX10_chime d 0 0 Q 0 0 47 [some (.inr (.inr 1)), u1, u2, u3, u4, u5, some (.inl v6)] [] h := by
  refine zrun 26 5 qX10_chime (o := 10) rfl ?_
  show zokO h 1 10 ∧ zokO h (h.2.2.1 1 7) 8 ∧ (((h.1 (h.2.2.1 1 7) 9) ≤ v6 → J mX10_chime d 0 0 Q 0 0 88 [some (.inr (.inr 1)), u1, u2, u3, u4, u5, some (.inl v6)] [] h) ∧ (¬ (h.1 (h.2.2.1 1 7) 9) ≤ v6 → J mX10_chime d 0 0 Q 0 0 59 [some (.inr (.inr 1)), u1, u2, u3, u4, u5, some (.inl v6)] [] h))
  rw [(show h.2.2.1 1 7 = 48 from (hr.at (by decide) (by decide) (by rfl)))]
  exact ⟨(zo hr (by decide) rfl), (zo hr (by decide) rfl), k1, k2⟩

theorem bX10_chime_59 {d : Nat} {Q : Option MV → MH → Prop} {h : MH} {u1 u2 u3 u4 : Option MV} {v5 v6 : Int32} (hr : zRf h) (g0 : vp_in v5 40) (g1 : vp_in v6 40) (k1 : ¬ (h.1 57 v5.toNatClampNeg) = (h.1 56 v6.toNatClampNeg) → J mX10_chime d 0 0 Q 0 0 82 [some (.inr (.inr 1)), u1, u2, u3, u4, some (.inl v5), some (.inl v6)] [] h) (k2 : (h.1 57 v5.toNatClampNeg) = (h.1 56 v6.toNatClampNeg) → J mX10_chime d 0 0 Q 0 0 79 [some (.inr (.inr 1)), u1, u2, u3, u4, some (.inl v5), some (.inl v6)] [] h) : J mX10_chime d 0 0 Q 0 0 59 [some (.inr (.inr 1)), u1, u2, u3, u4, some (.inl v5), some (.inl v6)] [] h := by
  refine zrun 31 10 qX10_chime (o := 10) rfl ?_
  show zokO h 1 10 ∧ zokA h (h.2.2.1 1 8) 20 v5 ∧ zokO h 1 10 ∧ zokO h (h.2.2.1 1 7) 8 ∧ zokA h (h.2.2.1 (h.2.2.1 1 7) 8) 20 v6 ∧ ((¬ (h.1 (h.2.2.1 1 8) v5.toNatClampNeg) = (h.1 (h.2.2.1 (h.2.2.1 1 7) 8) v6.toNatClampNeg) → J mX10_chime d 0 0 Q 0 0 82 [some (.inr (.inr 1)), u1, u2, u3, u4, some (.inl v5), some (.inl v6)] [] h) ∧ ((h.1 (h.2.2.1 1 8) v5.toNatClampNeg) = (h.1 (h.2.2.1 (h.2.2.1 1 7) 8) v6.toNatClampNeg) → J mX10_chime d 0 0 Q 0 0 79 [some (.inr (.inr 1)), u1, u2, u3, u4, some (.inl v5), some (.inl v6)] [] h))
  rw [(show h.2.2.1 1 8 = 57 from (hr.at (by decide) (by decide) (by rfl))), (show h.2.2.1 1 7 = 48 from (hr.at (by decide) (by decide) (by rfl))), (show h.2.2.1 48 8 = 56 from (hr.at (by decide) (by decide) (by rfl)))]
  exact ⟨(zo hr (by decide) rfl), (zia hr (by decide) (by rfl) g0), (zo hr (by decide) rfl), (zo hr (by decide) rfl), (zia hr (by decide) (by rfl) g1), k1, k2⟩

theorem bX10_chime_79 {d : Nat} {Q : Option MV → MH → Prop} {h : MH} {u0 u1 u2 u5 u6 : Option MV} {v4 v3 : Int32} (k : J mX10_chime d 0 0 Q 0 0 82 [u0, u1, u2, some (.inl v3), some (.inl (v4 + nI 1)), u5, u6] [] h) : J mX10_chime d 0 0 Q 0 0 79 [u0, u1, u2, some (.inl v3), some (.inl v4), u5, u6] [] h := by
  refine zrun 41 1 qX10_chime (o := 10) rfl ?_
  show J mX10_chime d 0 0 Q 0 0 82 [u0, u1, u2, some (.inl v3), some (.inl (v4 + nI 1)), u5, u6] [] h
  exact k

theorem bX10_chime_82 {d : Nat} {Q : Option MV → MH → Prop} {h : MH} {u0 u1 u2 u3 u4 : Option MV} {v6 v5 : Int32} (k : J mX10_chime d 0 0 Q 0 0 47 [u0, u1, u2, u3, u4, some (.inl v5), some (.inl (v6 + nI 1))] [] h) : J mX10_chime d 0 0 Q 0 0 82 [u0, u1, u2, u3, u4, some (.inl v5), some (.inl v6)] [] h := by
  refine zrun 42 2 qX10_chime (o := 10) rfl ?_
  show J mX10_chime d 0 0 Q 0 0 47 [u0, u1, u2, u3, u4, some (.inl v5), some (.inl (v6 + nI 1))] [] h
  exact k

theorem bX10_chime_88 {d : Nat} {Q : Option MV → MH → Prop} {h : MH} {u0 u1 u2 u3 u6 : Option MV} {v5 v4 : Int32} (k : J mX10_chime d 0 0 Q 0 0 38 [u0, u1, u2, u3, some (.inl v4), some (.inl (v5 + nI 1)), u6] [] h) : J mX10_chime d 0 0 Q 0 0 88 [u0, u1, u2, u3, some (.inl v4), some (.inl v5), u6] [] h := by
  refine zrun 44 2 qX10_chime (o := 10) rfl ?_
  show J mX10_chime d 0 0 Q 0 0 38 [u0, u1, u2, u3, some (.inl v4), some (.inl (v5 + nI 1)), u6] [] h
  exact k

theorem bX10_chime_94 {d : Nat} {Q : Option MV → MH → Prop} {h : MH} {u0 u1 u2 u3 u5 u6 : Option MV} {v4 : Int32} (k : Q (some (.inl v4)) h) : J mX10_chime d 0 0 Q 0 0 94 [u0, u1, u2, u3, some (.inl v4), u5, u6] [] h := by
  refine zrun 46 1 qX10_chime (o := 10) rfl ?_
  show J mX10_chime d 0 0 Q 0 0 96 [u0, u1, u2, u3, some (.inl v4), u5, u6] [.inl v4] h
  exact J_iret (ty := .int) (zat qX10_chime 47 (by rfl)) rfl rfl (Nat.le_refl 0) (Nat.le_refl 0) k

theorem bX10_days_0 {d d' : Nat} {Q : Option MV → MH → Prop} {h : MH} {u0 u2 u3 : Option MV} {v1 : Int32} (hd : d' + 1 ≤ d) (k : Con mX10_isPlan d' 0 0 [.inl v1] h (zri fun (x : Int32) h' => J mX10_days d 0 0 Q 0 0 4 [u0, some (.inl v1), u2, u3] [.inl x] h')) : J mX10_days d 0 0 Q 0 0 0 [u0, some (.inl v1), u2, u3] [] h := by
  refine zrun 0 1 qX10_days (o := 10) rfl ?_
  show J mX10_days d 0 0 Q 0 0 1 [u0, some (.inl v1), u2, u3] [.inl v1] h
  exact zcSi (as := [.inl v1]) (zat qX10_days 1 (by rfl)) l10_124 rfl hd rfl (Nat.le_of_ble_eq_true rfl) zle0 k

theorem bX10_days_4 {d : Nat} {Q : Option MV → MH → Prop} {h : MH} {u0 u1 u2 u3 : Option MV} {vs0 : Int32} (k1 : vs0 = 0 → J mX10_days d 0 0 Q 0 0 26 [u0, u1, u2, u3] [] h) (k2 : ¬ vs0 = 0 → J mX10_days d 0 0 Q 0 0 7 [u0, u1, u2, u3] [] h) : J mX10_days d 0 0 Q 0 0 4 [u0, u1, u2, u3] [.inl vs0] h := by
  refine zrun 2 1 qX10_days (o := 10) rfl ?_
  show ((vs0 = 0 → J mX10_days d 0 0 Q 0 0 26 [u0, u1, u2, u3] [] h) ∧ (¬ vs0 = 0 → J mX10_days d 0 0 Q 0 0 7 [u0, u1, u2, u3] [] h))
  exact ⟨k1, k2⟩

theorem bX10_days_7 {d : Nat} {Q : Option MV → MH → Prop} {h : MH} {u0 u1 u2 : Option MV} {v3 : Int32} (k1 : v3 = (-(nI 1)) → J mX10_days d 0 0 Q 0 0 29 [u0, u1, u2, some (.inl v3)] [] h) (k2 : ¬ v3 = (-(nI 1)) → J mX10_days d 0 0 Q 0 0 12 [u0, u1, u2, some (.inl v3)] [] h) : J mX10_days d 0 0 Q 0 0 7 [u0, u1, u2, some (.inl v3)] [] h := by
  refine zrun 3 3 qX10_days (o := 10) rfl ?_
  show ((v3 = (-(nI 1)) → J mX10_days d 0 0 Q 0 0 29 [u0, u1, u2, some (.inl v3)] [] h) ∧ (¬ v3 = (-(nI 1)) → J mX10_days d 0 0 Q 0 0 12 [u0, u1, u2, some (.inl v3)] [] h))
  exact ⟨k1, k2⟩

theorem bX10_days_12 {d d' : Nat} {Q : Option MV → MH → Prop} {h : MH} {u1 u2 : Option MV} {v3 : Int32} (hr : zRf h) (hd : d' + 1 ≤ d) (k : Con mX2_has d' 0 0 [.inr (.inr 16), .inl v3] h (zri fun (x : Int32) h' => J mX10_days d 0 0 Q 0 0 23 [some (.inr (.inr 1)), u1, u2, some (.inl v3)] [.inl x] h')) : J mX10_days d 0 0 Q 0 0 12 [some (.inr (.inr 1)), u1, u2, some (.inl v3)] [] h := by
  refine zrun 6 4 qX10_days (o := 10) rfl ?_
  show zokO h 1 10 ∧ zokO h (h.2.2.1 1 4) 1 ∧ J mX10_days d 0 0 Q 0 0 20 [some (.inr (.inr 1)), u1, u2, some (.inl v3)] [.inl v3, .inr (.inr (h.2.2.1 (h.2.2.1 1 4) 0))] h
  rw [(show h.2.2.1 1 4 = 15 from (hr.at (by decide) (by decide) (by rfl))), (show h.2.2.1 15 0 = 16 from (hr.at (by decide) (by decide) (by rfl)))]
  exact ⟨(zo hr (by decide) rfl), (zo hr (by decide) rfl), zcVi (as := [.inl v3]) (zat qX10_days 10 (by rfl)) l10_148 rfl hd rfl (Nat.le_of_ble_eq_true rfl) zle0 (ci := 2) (by decide) rfl (zo hr (by decide) rfl) k⟩

theorem bX10_days_23 {d : Nat} {Q : Option MV → MH → Prop} {h : MH} {u0 u1 u2 u3 : Option MV} {vs0 : Int32} (k1 : ¬ vs0 = 0 → J mX10_days d 0 0 Q 0 0 29 [u0, u1, u2, u3] [] h) (k2 : vs0 = 0 → J mX10_days d 0 0 Q 0 0 26 [u0, u1, u2, u3] [] h) : J mX10_days d 0 0 Q 0 0 23 [u0, u1, u2, u3] [.inl vs0] h := by
  refine zrun 11 1 qX10_days (o := 10) rfl ?_
  show ((¬ vs0 = 0 → J mX10_days d 0 0 Q 0 0 29 [u0, u1, u2, u3] [] h) ∧ (vs0 = 0 → J mX10_days d 0 0 Q 0 0 26 [u0, u1, u2, u3] [] h))
  exact ⟨k1, k2⟩

theorem bX10_days_26 {d : Nat} {Q : Option MV → MH → Prop} {h : MH} {u0 u1 u2 u3 : Option MV} (k : Q (some (.inl (-(nI 2)))) h) : J mX10_days d 0 0 Q 0 0 26 [u0, u1, u2, u3] [] h := by
  refine zrun 12 1 qX10_days (o := 10) rfl ?_
  show J mX10_days d 0 0 Q 0 0 28 [u0, u1, u2, u3] [.inl (-(nI 2))] h
  exact J_iret (ty := .int) (zat qX10_days 13 (by rfl)) rfl rfl (Nat.le_refl 0) (Nat.le_refl 0) k

theorem bX10_days_29 {d : Nat} {Q : Option MV → MH → Prop} {h : MH} {u0 u1 u3 : Option MV} {v2 : Int32} (k1 : v2 < (nI 1) → J mX10_days d 0 0 Q 0 0 41 [u0, u1, some (.inl v2), u3] [] h) (k2 : ¬ v2 < (nI 1) → J mX10_days d 0 0 Q 0 0 34 [u0, u1, some (.inl v2), u3] [] h) : J mX10_days d 0 0 Q 0 0 29 [u0, u1, some (.inl v2), u3] [] h := by
  refine zrun 14 3 qX10_days (o := 10) rfl ?_
  show ((v2 < (nI 1) → J mX10_days d 0 0 Q 0 0 41 [u0, u1, some (.inl v2), u3] [] h) ∧ (¬ v2 < (nI 1) → J mX10_days d 0 0 Q 0 0 34 [u0, u1, some (.inl v2), u3] [] h))
  exact ⟨k1, k2⟩

theorem bX10_days_34 {d : Nat} {Q : Option MV → MH → Prop} {h : MH} {u0 u1 u3 : Option MV} {v2 : Int32} (k1 : v2 ≤ (nI 400) → J mX10_days d 0 0 Q 0 0 44 [u0, u1, some (.inl v2), u3] [] h) (k2 : ¬ v2 ≤ (nI 400) → J mX10_days d 0 0 Q 0 0 41 [u0, u1, some (.inl v2), u3] [] h) : J mX10_days d 0 0 Q 0 0 34 [u0, u1, some (.inl v2), u3] [] h := by
  refine zrun 17 3 qX10_days (o := 10) rfl ?_
  show ((v2 ≤ (nI 400) → J mX10_days d 0 0 Q 0 0 44 [u0, u1, some (.inl v2), u3] [] h) ∧ (¬ v2 ≤ (nI 400) → J mX10_days d 0 0 Q 0 0 41 [u0, u1, some (.inl v2), u3] [] h))
  exact ⟨k1, k2⟩

theorem bX10_days_41 {d : Nat} {Q : Option MV → MH → Prop} {h : MH} {u0 u1 u2 u3 : Option MV} (k : Q (some (.inl (-(nI 3)))) h) : J mX10_days d 0 0 Q 0 0 41 [u0, u1, u2, u3] [] h := by
  refine zrun 20 1 qX10_days (o := 10) rfl ?_
  show J mX10_days d 0 0 Q 0 0 43 [u0, u1, u2, u3] [.inl (-(nI 3))] h
  exact J_iret (ty := .int) (zat qX10_days 21 (by rfl)) rfl rfl (Nat.le_refl 0) (Nat.le_refl 0) k

theorem bX10_days_44 {d d' : Nat} {Q : Option MV → MH → Prop} {h : MH} {u2 u3 : Option MV} {v1 : Int32} (hr : zRf h) (hd : d' + 1 ≤ d) (k : Con mX10_playAsTold d' 0 0 [.inr (.inr 1), .inl v1] h (zrv fun h' => J mX10_days d 0 0 Q 0 0 49 [some (.inr (.inr 1)), some (.inl v1), u2, u3] [] h')) : J mX10_days d 0 0 Q 0 0 44 [some (.inr (.inr 1)), some (.inl v1), u2, u3] [] h := by
  refine zrun 22 2 qX10_days (o := 10) rfl ?_
  show J mX10_days d 0 0 Q 0 0 46 [some (.inr (.inr 1)), some (.inl v1), u2, u3] [.inl v1, .inr (.inr 1)] h
  exact zcVv (as := [.inl v1]) (zat qX10_days 24 (by rfl)) l10_186 rfl hd rfl (Nat.le_of_ble_eq_true rfl) zle0 (ci := 10) (by decide) rfl (zo hr (by decide) rfl) k

theorem bX10_days_49 {d : Nat} {Q : Option MV → MH → Prop} {h : MH} {u0 u1 u2 : Option MV} {v3 : Int32} (k1 : ¬ v3 = (-(nI 1)) → J mX10_days d 0 0 Q 0 0 61 [u0, u1, u2, some (.inl v3)] [] h) (k2 : v3 = (-(nI 1)) → J mX10_days d 0 0 Q 0 0 54 [u0, u1, u2, some (.inl v3)] [] h) : J mX10_days d 0 0 Q 0 0 49 [u0, u1, u2, some (.inl v3)] [] h := by
  refine zrun 25 3 qX10_days (o := 10) rfl ?_
  show ((¬ v3 = (-(nI 1)) → J mX10_days d 0 0 Q 0 0 61 [u0, u1, u2, some (.inl v3)] [] h) ∧ (v3 = (-(nI 1)) → J mX10_days d 0 0 Q 0 0 54 [u0, u1, u2, some (.inl v3)] [] h))
  exact ⟨k1, k2⟩

theorem bX10_days_54 {d d' : Nat} {Q : Option MV → MH → Prop} {h : MH} {u1 u2 u3 : Option MV} (hr : zRf h) (hd : d' + 1 ≤ d) (k : Con mX10_waxOfRun d' 0 0 [.inr (.inr 1)] h (zri fun (x : Int32) h' => J mX10_days d 0 0 Q 0 0 58 [some (.inr (.inr 1)), u1, u2, u3] [.inl x] h')) : J mX10_days d 0 0 Q 0 0 54 [some (.inr (.inr 1)), u1, u2, u3] [] h := by
  refine zrun 28 1 qX10_days (o := 10) rfl ?_
  show J mX10_days d 0 0 Q 0 0 55 [some (.inr (.inr 1)), u1, u2, u3] [.inr (.inr 1)] h
  exact zcVi (as := []) (zat qX10_days 29 (by rfl)) l10_208 rfl hd rfl (Nat.le_of_ble_eq_true rfl) zle0 (ci := 10) (by decide) rfl (zo hr (by decide) rfl) k

theorem bX10_days_58 {d : Nat} {Q : Option MV → MH → Prop} {h : MH} {u0 u1 u3 : Option MV} {vs0 v2 : Int32} (k : Q (some (.inl (vs0 * v2))) h) : J mX10_days d 0 0 Q 0 0 58 [u0, u1, some (.inl v2), u3] [.inl vs0] h := by
  refine zrun 30 2 qX10_days (o := 10) rfl ?_
  show J mX10_days d 0 0 Q 0 0 60 [u0, u1, some (.inl v2), u3] [.inl (vs0 * v2)] h
  exact J_iret (ty := .int) (zat qX10_days 32 (by rfl)) rfl rfl (Nat.le_refl 0) (Nat.le_refl 0) k

theorem bX10_days_61 {d : Nat} {Q : Option MV → MH → Prop} {h : MH} {u1 u2 : Option MV} {v3 : Int32} (hr : zRf h) (g0 : vp_in v3 8) (k1 : (h.1 49 v3.toNatClampNeg) ≤ (h.1 52 v3.toNatClampNeg) → J mX10_days d 0 0 Q 0 0 86 [some (.inr (.inr 1)), u1, u2, some (.inl v3)] [] h) (k2 : ¬ (h.1 49 v3.toNatClampNeg) ≤ (h.1 52 v3.toNatClampNeg) → J mX10_days d 0 0 Q 0 0 82 [some (.inr (.inr 1)), u1, u2, some (.inl v3)] [] h) : J mX10_days d 0 0 Q 0 0 61 [some (.inr (.inr 1)), u1, u2, some (.inl v3)] [] h := by
  refine zrun 33 11 qX10_days (o := 10) rfl ?_
  show zokO h 1 10 ∧ zokO h (h.2.2.1 1 7) 8 ∧ zokA h (h.2.2.1 (h.2.2.1 1 7) 4) 20 v3 ∧ zokO h 1 10 ∧ zokO h (h.2.2.1 1 7) 8 ∧ zokA h (h.2.2.1 (h.2.2.1 1 7) 1) 20 v3 ∧ (((h.1 (h.2.2.1 (h.2.2.1 1 7) 1) v3.toNatClampNeg) ≤ (h.1 (h.2.2.1 (h.2.2.1 1 7) 4) v3.toNatClampNeg) → J mX10_days d 0 0 Q 0 0 86 [some (.inr (.inr 1)), u1, u2, some (.inl v3)] [] h) ∧ (¬ (h.1 (h.2.2.1 (h.2.2.1 1 7) 1) v3.toNatClampNeg) ≤ (h.1 (h.2.2.1 (h.2.2.1 1 7) 4) v3.toNatClampNeg) → J mX10_days d 0 0 Q 0 0 82 [some (.inr (.inr 1)), u1, u2, some (.inl v3)] [] h))
  rw [(show h.2.2.1 1 7 = 48 from (hr.at (by decide) (by decide) (by rfl))), (show h.2.2.1 48 4 = 52 from (hr.at (by decide) (by decide) (by rfl))), (show h.2.2.1 48 1 = 49 from (hr.at (by decide) (by decide) (by rfl)))]
  exact ⟨(zo hr (by decide) rfl), (zo hr (by decide) rfl), (zia hr (by decide) (by rfl) g0), (zo hr (by decide) rfl), (zo hr (by decide) rfl), (zia hr (by decide) (by rfl) g0), k1, k2⟩

theorem bX10_days_82 {d : Nat} {Q : Option MV → MH → Prop} {h : MH} {u0 u1 u3 : Option MV} {v2 : Int32} (k : J mX10_days d 0 0 Q 0 0 87 [u0, u1, some (.inl v2), u3] [.inl v2] h) : J mX10_days d 0 0 Q 0 0 82 [u0, u1, some (.inl v2), u3] [] h := by
  refine zrun 44 2 qX10_days (o := 10) rfl ?_
  show J mX10_days d 0 0 Q 0 0 87 [u0, u1, some (.inl v2), u3] [.inl v2] h
  exact k

theorem bX10_days_86 {d : Nat} {Q : Option MV → MH → Prop} {h : MH} {u0 u1 u2 u3 : Option MV} (k : J mX10_days d 0 0 Q 0 0 87 [u0, u1, u2, u3] [.inl (nI 0)] h) : J mX10_days d 0 0 Q 0 0 86 [u0, u1, u2, u3] [] h := by
  refine zrun 46 1 qX10_days (o := 10) rfl ?_
  show J mX10_days d 0 0 Q 0 0 87 [u0, u1, u2, u3] [.inl (nI 0)] h
  exact k

theorem bX10_days_87 {d : Nat} {Q : Option MV → MH → Prop} {h : MH} {u0 u1 u2 u3 : Option MV} {vs0 : Int32} (k : Q (some (.inl vs0)) h) : J mX10_days d 0 0 Q 0 0 87 [u0, u1, u2, u3] [.inl vs0] h := by
  exact J_iret (ty := .int) (zat qX10_days 47 (by rfl)) rfl rfl (Nat.le_refl 0) (Nat.le_refl 0) k

theorem bX10_can_0 {d d' : Nat} {Q : Option MV → MH → Prop} {h : MH} {u2 u3 : Option MV} {v1 : Int32} (hr : zRf h) (hd : d' + 1 ≤ d) (k : Con mX10_isSet d' 0 0 [.inr (.inr 1), .inl v1, .inl (nI 4)] h (zri fun (x : Int32) h' => J mX10_can d 0 0 Q 0 0 6 [some (.inr (.inr 1)), some (.inl v1), u2, u3] [.inl x] h')) : J mX10_can d 0 0 Q 0 0 0 [some (.inr (.inr 1)), some (.inl v1), u2, u3] [] h := by
  refine zrun 0 3 qX10_can (o := 10) rfl ?_
  show J mX10_can d 0 0 Q 0 0 3 [some (.inr (.inr 1)), some (.inl v1), u2, u3] [.inl (nI 4), .inl v1, .inr (.inr 1)] h
  exact zcVi (as := [.inl v1, .inl (nI 4)]) (zat qX10_can 3 (by rfl)) l10_280 rfl hd rfl (Nat.le_of_ble_eq_true rfl) zle0 (ci := 10) (by decide) rfl (zo hr (by decide) rfl) k

theorem bX10_can_6 {d : Nat} {Q : Option MV → MH → Prop} {h : MH} {u0 u1 u2 u3 : Option MV} {vs0 : Int32} (k1 : vs0 = 0 → J mX10_can d 0 0 Q 0 0 14 [u0, u1, u2, u3] [] h) (k2 : ¬ vs0 = 0 → J mX10_can d 0 0 Q 0 0 9 [u0, u1, u2, u3] [] h) : J mX10_can d 0 0 Q 0 0 6 [u0, u1, u2, u3] [.inl vs0] h := by
  refine zrun 4 1 qX10_can (o := 10) rfl ?_
  show ((vs0 = 0 → J mX10_can d 0 0 Q 0 0 14 [u0, u1, u2, u3] [] h) ∧ (¬ vs0 = 0 → J mX10_can d 0 0 Q 0 0 9 [u0, u1, u2, u3] [] h))
  exact ⟨k1, k2⟩

theorem bX10_can_9 {d : Nat} {Q : Option MV → MH → Prop} {h : MH} {u0 u1 u2 : Option MV} {v3 : Int32} (k1 : (nI 1) ≤ v3 → J mX10_can d 0 0 Q 0 0 17 [u0, u1, u2, some (.inl v3)] [] h) (k2 : ¬ (nI 1) ≤ v3 → J mX10_can d 0 0 Q 0 0 14 [u0, u1, u2, some (.inl v3)] [] h) : J mX10_can d 0 0 Q 0 0 9 [u0, u1, u2, some (.inl v3)] [] h := by
  refine zrun 5 3 qX10_can (o := 10) rfl ?_
  show (((nI 1) ≤ v3 → J mX10_can d 0 0 Q 0 0 17 [u0, u1, u2, some (.inl v3)] [] h) ∧ (¬ (nI 1) ≤ v3 → J mX10_can d 0 0 Q 0 0 14 [u0, u1, u2, some (.inl v3)] [] h))
  exact ⟨k1, k2⟩

theorem bX10_can_14 {d : Nat} {Q : Option MV → MH → Prop} {h : MH} {u0 u1 u2 u3 : Option MV} (k : Q (some (.inl (-(nI 3)))) h) : J mX10_can d 0 0 Q 0 0 14 [u0, u1, u2, u3] [] h := by
  refine zrun 8 1 qX10_can (o := 10) rfl ?_
  show J mX10_can d 0 0 Q 0 0 16 [u0, u1, u2, u3] [.inl (-(nI 3))] h
  exact J_iret (ty := .int) (zat qX10_can 9 (by rfl)) rfl rfl (Nat.le_refl 0) (Nat.le_refl 0) k

theorem bX10_can_17 {d d' : Nat} {Q : Option MV → MH → Prop} {h : MH} {v1 v2 v3 : Int32} (hr : zRf h) (hd : d' + 1 ≤ d) (k : Con mX10_isTold d' 0 0 [.inr (.inr 1), .inl v1, .inl v2, .inl v3] h (zri fun (x : Int32) h' => J mX10_can d 0 0 Q 0 0 24 [some (.inr (.inr 1)), some (.inl v1), some (.inl v2), some (.inl v3)] [.inl x] h')) : J mX10_can d 0 0 Q 0 0 17 [some (.inr (.inr 1)), some (.inl v1), some (.inl v2), some (.inl v3)] [] h := by
  refine zrun 10 4 qX10_can (o := 10) rfl ?_
  show J mX10_can d 0 0 Q 0 0 21 [some (.inr (.inr 1)), some (.inl v1), some (.inl v2), some (.inl v3)] [.inl v3, .inl v2, .inl v1, .inr (.inr 1)] h
  exact zcVi (as := [.inl v1, .inl v2, .inl v3]) (zat qX10_can 14 (by rfl)) l10_284 rfl hd rfl (Nat.le_of_ble_eq_true rfl) zle0 (ci := 10) (by decide) rfl (zo hr (by decide) rfl) k

theorem bX10_can_24 {d : Nat} {Q : Option MV → MH → Prop} {h : MH} {u0 u1 u2 u3 : Option MV} {vs0 : Int32} (k1 : vs0 = 0 → J mX10_can d 0 0 Q 0 0 31 [u0, u1, u2, u3] [] h) (k2 : ¬ vs0 = 0 → J mX10_can d 0 0 Q 0 0 27 [u0, u1, u2, u3] [] h) : J mX10_can d 0 0 Q 0 0 24 [u0, u1, u2, u3] [.inl vs0] h := by
  refine zrun 15 1 qX10_can (o := 10) rfl ?_
  show ((vs0 = 0 → J mX10_can d 0 0 Q 0 0 31 [u0, u1, u2, u3] [] h) ∧ (¬ vs0 = 0 → J mX10_can d 0 0 Q 0 0 27 [u0, u1, u2, u3] [] h))
  exact ⟨k1, k2⟩

theorem bX10_can_27 {d : Nat} {Q : Option MV → MH → Prop} {h : MH} {u0 u1 u2 u3 : Option MV} (k : J mX10_can d 0 0 Q 0 0 32 [u0, u1, u2, u3] [.inl (nI 1)] h) : J mX10_can d 0 0 Q 0 0 27 [u0, u1, u2, u3] [] h := by
  refine zrun 16 2 qX10_can (o := 10) rfl ?_
  show J mX10_can d 0 0 Q 0 0 32 [u0, u1, u2, u3] [.inl (nI 1)] h
  exact k

theorem bX10_can_31 {d : Nat} {Q : Option MV → MH → Prop} {h : MH} {u0 u1 u2 u3 : Option MV} (k : J mX10_can d 0 0 Q 0 0 32 [u0, u1, u2, u3] [.inl (nI 0)] h) : J mX10_can d 0 0 Q 0 0 31 [u0, u1, u2, u3] [] h := by
  refine zrun 18 1 qX10_can (o := 10) rfl ?_
  show J mX10_can d 0 0 Q 0 0 32 [u0, u1, u2, u3] [.inl (nI 0)] h
  exact k

theorem bX10_can_32 {d : Nat} {Q : Option MV → MH → Prop} {h : MH} {u0 u1 u2 u3 : Option MV} {vs0 : Int32} (k : Q (some (.inl vs0)) h) : J mX10_can d 0 0 Q 0 0 32 [u0, u1, u2, u3] [.inl vs0] h := by
  exact J_iret (ty := .int) (zat qX10_can 19 (by rfl)) rfl rfl (Nat.le_refl 0) (Nat.le_refl 0) k

theorem bX10_isSet_0 {d : Nat} {Q : Option MV → MH → Prop} {h : MH} {u0 u2 : Option MV} {v1 : Int32} (k1 : v1 ≤ 0 → J mX10_isSet d 0 0 Q 0 0 32 [u0, some (.inl v1), u2] [] h) (k2 : ¬ v1 ≤ 0 → J mX10_isSet d 0 0 Q 0 0 4 [u0, some (.inl v1), u2] [] h) : J mX10_isSet d 0 0 Q 0 0 0 [u0, some (.inl v1), u2] [] h := by
  refine zrun 0 2 qX10_isSet (o := 10) rfl ?_
  show ((v1 ≤ 0 → J mX10_isSet d 0 0 Q 0 0 32 [u0, some (.inl v1), u2] [] h) ∧ (¬ v1 ≤ 0 → J mX10_isSet d 0 0 Q 0 0 4 [u0, some (.inl v1), u2] [] h))
  exact ⟨k1, k2⟩

theorem bX10_isSet_4 {d : Nat} {Q : Option MV → MH → Prop} {h : MH} {u2 : Option MV} {v1 : Int32} (hr : zRf h) (k1 : ((nI 1) <<< ((h.1 16 0) &&& 31)) ≤ v1 → J mX10_isSet d 0 0 Q 0 0 32 [some (.inr (.inr 1)), some (.inl v1), u2] [] h) (k2 : ¬ ((nI 1) <<< ((h.1 16 0) &&& 31)) ≤ v1 → J mX10_isSet d 0 0 Q 0 0 20 [some (.inr (.inr 1)), some (.inl v1), u2] [] h) : J mX10_isSet d 0 0 Q 0 0 4 [some (.inr (.inr 1)), some (.inl v1), u2] [] h := by
  refine zrun 2 8 qX10_isSet (o := 10) rfl ?_
  show zokO h 1 10 ∧ zokO h (h.2.2.1 1 4) 1 ∧ zokO h (h.2.2.1 (h.2.2.1 1 4) 0) 2 ∧ ((((nI 1) <<< ((h.1 (h.2.2.1 (h.2.2.1 1 4) 0) 0) &&& 31)) ≤ v1 → J mX10_isSet d 0 0 Q 0 0 32 [some (.inr (.inr 1)), some (.inl v1), u2] [] h) ∧ (¬ ((nI 1) <<< ((h.1 (h.2.2.1 (h.2.2.1 1 4) 0) 0) &&& 31)) ≤ v1 → J mX10_isSet d 0 0 Q 0 0 20 [some (.inr (.inr 1)), some (.inl v1), u2] [] h))
  rw [(show h.2.2.1 1 4 = 15 from (hr.at (by decide) (by decide) (by rfl))), (show h.2.2.1 15 0 = 16 from (hr.at (by decide) (by decide) (by rfl)))]
  exact ⟨(zo hr (by decide) rfl), (zo hr (by decide) rfl), (zo hr (by decide) rfl), k1, k2⟩

theorem bX10_isSet_20 {d d' : Nat} {Q : Option MV → MH → Prop} {h : MH} {u0 u2 : Option MV} {v1 : Int32} (hd : d' + 1 ≤ d) (k : Con mJ6_bitCount_0f7a4 d' 0 0 [.inl v1] h (zri fun (x : Int32) h' => J mX10_isSet d 0 0 Q 0 0 24 [u0, some (.inl v1), u2] [.inl x] h')) : J mX10_isSet d 0 0 Q 0 0 20 [u0, some (.inl v1), u2] [] h := by
  refine zrun 10 1 qX10_isSet (o := 10) rfl ?_
  show J mX10_isSet d 0 0 Q 0 0 21 [u0, some (.inl v1), u2] [.inl v1] h
  exact zcSi (as := [.inl v1]) (zat qX10_isSet 11 (by rfl)) l10_288 rfl hd rfl (Nat.le_of_ble_eq_true rfl) zle0 k

theorem bX10_isSet_24 {d : Nat} {Q : Option MV → MH → Prop} {h : MH} {u0 u1 : Option MV} {vs0 v2 : Int32} (k1 : v2 < vs0 → J mX10_isSet d 0 0 Q 0 0 32 [u0, u1, some (.inl v2)] [] h) (k2 : ¬ v2 < vs0 → J mX10_isSet d 0 0 Q 0 0 28 [u0, u1, some (.inl v2)] [] h) : J mX10_isSet d 0 0 Q 0 0 24 [u0, u1, some (.inl v2)] [.inl vs0] h := by
  refine zrun 12 2 qX10_isSet (o := 10) rfl ?_
  show ((v2 < vs0 → J mX10_isSet d 0 0 Q 0 0 32 [u0, u1, some (.inl v2)] [] h) ∧ (¬ v2 < vs0 → J mX10_isSet d 0 0 Q 0 0 28 [u0, u1, some (.inl v2)] [] h))
  exact ⟨k1, k2⟩

theorem bX10_isSet_28 {d : Nat} {Q : Option MV → MH → Prop} {h : MH} {u0 u1 u2 : Option MV} (k : J mX10_isSet d 0 0 Q 0 0 33 [u0, u1, u2] [.inl (nI 1)] h) : J mX10_isSet d 0 0 Q 0 0 28 [u0, u1, u2] [] h := by
  refine zrun 14 2 qX10_isSet (o := 10) rfl ?_
  show J mX10_isSet d 0 0 Q 0 0 33 [u0, u1, u2] [.inl (nI 1)] h
  exact k

theorem bX10_isSet_32 {d : Nat} {Q : Option MV → MH → Prop} {h : MH} {u0 u1 u2 : Option MV} (k : J mX10_isSet d 0 0 Q 0 0 33 [u0, u1, u2] [.inl (nI 0)] h) : J mX10_isSet d 0 0 Q 0 0 32 [u0, u1, u2] [] h := by
  refine zrun 16 1 qX10_isSet (o := 10) rfl ?_
  show J mX10_isSet d 0 0 Q 0 0 33 [u0, u1, u2] [.inl (nI 0)] h
  exact k

theorem bX10_isSet_33 {d : Nat} {Q : Option MV → MH → Prop} {h : MH} {u0 u1 u2 : Option MV} {vs0 : Int32} (gn : vs0 = 0 ∨ vs0 = 1) (k : Q (some (.inl vs0)) h) : J mX10_isSet d 0 0 Q 0 0 33 [u0, u1, u2] [.inl vs0] h := by
  exact J_iret (ty := .boolean) (zat qX10_isSet 17 (by rfl)) rfl (znz gn) (Nat.le_refl 0) (Nat.le_refl 0) k

theorem bX10_isTold_0 {d : Nat} {Q : Option MV → MH → Prop} {h : MH} {u0 u1 u3 u4 : Option MV} {v2 : Int32} (k1 : v2 = 0 → J mX10_isTold d 0 0 Q 0 0 11 [u0, u1, some (.inl v2), u3, u4] [] h) (k2 : ¬ v2 = 0 → J mX10_isTold d 0 0 Q 0 0 4 [u0, u1, some (.inl v2), u3, u4] [] h) : J mX10_isTold d 0 0 Q 0 0 0 [u0, u1, some (.inl v2), u3, u4] [] h := by
  refine zrun 0 2 qX10_isTold (o := 10) rfl ?_
  show ((v2 = 0 → J mX10_isTold d 0 0 Q 0 0 11 [u0, u1, some (.inl v2), u3, u4] [] h) ∧ (¬ v2 = 0 → J mX10_isTold d 0 0 Q 0 0 4 [u0, u1, some (.inl v2), u3, u4] [] h))
  exact ⟨k1, k2⟩

theorem bX10_isTold_4 {d : Nat} {Q : Option MV → MH → Prop} {h : MH} {u1 u2 u3 u4 : Option MV} (hr : zRf h) (k : J mX10_isTold d 0 0 Q 0 0 15 [some (.inr (.inr 1)), u1, u2, u3, u4] [.inr (.inr 99)] h) : J mX10_isTold d 0 0 Q 0 0 4 [some (.inr (.inr 1)), u1, u2, u3, u4] [] h := by
  refine zrun 2 3 qX10_isTold (o := 10) rfl ?_
  show zokO h 1 10 ∧ J mX10_isTold d 0 0 Q 0 0 15 [some (.inr (.inr 1)), u1, u2, u3, u4] [.inr (.inr (h.2.2.1 1 13))] h
  rw [(show h.2.2.1 1 13 = 99 from (hr.at (by decide) (by decide) (by rfl)))]
  exact ⟨(zo hr (by decide) rfl), k⟩

theorem bX10_isTold_11 {d : Nat} {Q : Option MV → MH → Prop} {h : MH} {u1 u2 u3 u4 : Option MV} (hr : zRf h) (k : J mX10_isTold d 0 0 Q 0 0 15 [some (.inr (.inr 1)), u1, u2, u3, u4] [.inr (.inr 97)] h) : J mX10_isTold d 0 0 Q 0 0 11 [some (.inr (.inr 1)), u1, u2, u3, u4] [] h := by
  refine zrun 5 2 qX10_isTold (o := 10) rfl ?_
  show zokO h 1 10 ∧ J mX10_isTold d 0 0 Q 0 0 15 [some (.inr (.inr 1)), u1, u2, u3, u4] [.inr (.inr (h.2.2.1 1 12))] h
  rw [(show h.2.2.1 1 12 = 97 from (hr.at (by decide) (by decide) (by rfl)))]
  exact ⟨(zo hr (by decide) rfl), k⟩

theorem bX10_isTold_15 {d : Nat} {Q : Option MV → MH → Prop} {h : MH} {u0 u2 u4 : Option MV} {v3 v1 : Int32} {vs0 : Nat} (g0 : zokO h vs0 3) (k1 : ¬ (h.1 vs0 0) = v1 → J mX10_isTold d 0 0 Q 0 0 33 [u0, some (.inl v1), u2, some (.inl v3), some (.inr (.inr vs0))] [] h) (k2 : (h.1 vs0 0) = v1 → J mX10_isTold d 0 0 Q 0 0 26 [u0, some (.inl v1), u2, some (.inl v3), some (.inr (.inr vs0))] [] h) : J mX10_isTold d 0 0 Q 0 0 15 [u0, some (.inl v1), u2, some (.inl v3), u4] [.inr (.inr vs0)] h := by
  refine zrun 7 5 qX10_isTold (o := 10) rfl ?_
  show zokO h vs0 3 ∧ ((¬ (h.1 vs0 0) = v1 → J mX10_isTold d 0 0 Q 0 0 33 [u0, some (.inl v1), u2, some (.inl v3), some (.inr (.inr vs0))] [] h) ∧ ((h.1 vs0 0) = v1 → J mX10_isTold d 0 0 Q 0 0 26 [u0, some (.inl v1), u2, some (.inl v3), some (.inr (.inr vs0))] [] h))
  exact ⟨g0, k1, k2⟩

theorem bX10_isTold_26 {d d' : Nat} {Q : Option MV → MH → Prop} {h : MH} {u0 u1 u2 : Option MV} {v3 : Int32} {v4 : Nat} (gr : zokO h v4 3) (hd : d' + 1 ≤ d) (k : Con mX3_has d' 0 0 [.inr (.inr v4), .inl v3] h (zri fun (x : Int32) h' => J mX10_isTold d 0 0 Q 0 0 32 [u0, u1, u2, some (.inl v3), some (.inr (.inr v4))] [.inl x] h')) : J mX10_isTold d 0 0 Q 0 0 26 [u0, u1, u2, some (.inl v3), some (.inr (.inr v4))] [] h := by
  refine zrun 12 2 qX10_isTold (o := 10) rfl ?_
  show J mX10_isTold d 0 0 Q 0 0 29 [u0, u1, u2, some (.inl v3), some (.inr (.inr v4))] [.inl v3, .inr (.inr v4)] h
  exact zcVi (as := [.inl v3]) (zat qX10_isTold 14 (by rfl)) l10_292 rfl hd rfl (Nat.le_of_ble_eq_true rfl) zle0 (ci := 3) (by decide) rfl gr k

theorem bX10_isTold_32 {d : Nat} {Q : Option MV → MH → Prop} {h : MH} {u0 u1 u2 u3 u4 : Option MV} {vs0 : Int32} (gn : vs0 = 0 ∨ vs0 = 1) (k : Q (some (.inl vs0)) h) : J mX10_isTold d 0 0 Q 0 0 32 [u0, u1, u2, u3, u4] [.inl vs0] h := by
  exact J_iret (ty := .boolean) (zat qX10_isTold 15 (by rfl)) rfl (znz gn) (Nat.le_refl 0) (Nat.le_refl 0) k

theorem bX10_isTold_33 {d d' : Nat} {Q : Option MV → MH → Prop} {h : MH} {u3 u4 : Option MV} {v1 v2 : Int32} (hr : zRf h) (hd : d' + 1 ≤ d) (k : Con mX9_lay d' 0 0 [.inr (.inr 62), .inr (.inr 16), .inl v1, .inl v2] h (zrv fun h' => J mX10_isTold d 0 0 Q 0 0 49 [some (.inr (.inr 1)), some (.inl v1), some (.inl v2), u3, u4] [] h')) : J mX10_isTold d 0 0 Q 0 0 33 [some (.inr (.inr 1)), some (.inl v1), some (.inl v2), u3, u4] [] h := by
  refine zrun 16 7 qX10_isTold (o := 10) rfl ?_
  show zokO h 1 10 ∧ zokO h 1 10 ∧ zokO h (h.2.2.1 1 4) 1 ∧ J mX10_isTold d 0 0 Q 0 0 46 [some (.inr (.inr 1)), some (.inl v1), some (.inl v2), u3, u4] [.inl v2, .inl v1, .inr (.inr (h.2.2.1 (h.2.2.1 1 4) 0)), .inr (.inr (h.2.2.1 1 10))] h
  rw [(show h.2.2.1 1 10 = 62 from (hr.at (by decide) (by decide) (by rfl))), (show h.2.2.1 1 4 = 15 from (hr.at (by decide) (by decide) (by rfl))), (show h.2.2.1 15 0 = 16 from (hr.at (by decide) (by decide) (by rfl)))]
  exact ⟨(zo hr (by decide) rfl), (zo hr (by decide) rfl), (zo hr (by decide) rfl), zcVv (as := [.inr (.inr 16), .inl v1, .inl v2]) (zat qX10_isTold 23 (by rfl)) l10_293 rfl hd rfl (Nat.le_of_ble_eq_true rfl) zle0 (ci := 9) (by decide) rfl (zo hr (by decide) rfl) k⟩

theorem bX10_isTold_49 {d d' : Nat} {Q : Option MV → MH → Prop} {h : MH} {u1 u2 u4 : Option MV} {v3 : Int32} (hr : zRf h) (hd : d' + 1 ≤ d) (k : Con mX9_seek d' 0 0 [.inr (.inr 62), .inl (nI 1), .inl v3] h (zri fun (x : Int32) h' => J mX10_isTold d 0 0 Q 0 0 58 [some (.inr (.inr 1)), u1, u2, some (.inl v3), u4] [.inl x] h')) : J mX10_isTold d 0 0 Q 0 0 49 [some (.inr (.inr 1)), u1, u2, some (.inl v3), u4] [] h := by
  refine zrun 24 4 qX10_isTold (o := 10) rfl ?_
  show zokO h 1 10 ∧ J mX10_isTold d 0 0 Q 0 0 55 [some (.inr (.inr 1)), u1, u2, some (.inl v3), u4] [.inl v3, .inl (nI 1), .inr (.inr (h.2.2.1 1 10))] h
  rw [(show h.2.2.1 1 10 = 62 from (hr.at (by decide) (by decide) (by rfl)))]
  exact ⟨(zo hr (by decide) rfl), zcVi (as := [.inl (nI 1), .inl v3]) (zat qX10_isTold 28 (by rfl)) l10_296 rfl hd rfl (Nat.le_of_ble_eq_true rfl) zle0 (ci := 9) (by decide) rfl (zo hr (by decide) rfl) k⟩

theorem bX10_isTold_58 {d : Nat} {Q : Option MV → MH → Prop} {h : MH} {u0 u1 u2 u3 u4 : Option MV} {vs0 : Int32} (gn : vs0 = 0 ∨ vs0 = 1) (k : Q (some (.inl vs0)) h) : J mX10_isTold d 0 0 Q 0 0 58 [u0, u1, u2, u3, u4] [.inl vs0] h := by
  exact J_iret (ty := .boolean) (zat qX10_isTold 29 (by rfl)) rfl (znz gn) (Nat.le_refl 0) (Nat.le_refl 0) k

theorem bX10_allTold_0 {d : Nat} {Q : Option MV → MH → Prop} {h : MH} {u0 u1 u3 : Option MV} {v2 : Int32} (k1 : v2 = 0 → J mX10_allTold d 0 0 Q 0 0 11 [u0, u1, some (.inl v2), u3] [] h) (k2 : ¬ v2 = 0 → J mX10_allTold d 0 0 Q 0 0 4 [u0, u1, some (.inl v2), u3] [] h) : J mX10_allTold d 0 0 Q 0 0 0 [u0, u1, some (.inl v2), u3] [] h := by
  refine zrun 0 2 qX10_allTold (o := 10) rfl ?_
  show ((v2 = 0 → J mX10_allTold d 0 0 Q 0 0 11 [u0, u1, some (.inl v2), u3] [] h) ∧ (¬ v2 = 0 → J mX10_allTold d 0 0 Q 0 0 4 [u0, u1, some (.inl v2), u3] [] h))
  exact ⟨k1, k2⟩

theorem bX10_allTold_4 {d : Nat} {Q : Option MV → MH → Prop} {h : MH} {u1 u2 u3 : Option MV} (hr : zRf h) (k : J mX10_allTold d 0 0 Q 0 0 15 [some (.inr (.inr 1)), u1, u2, u3] [.inr (.inr 99)] h) : J mX10_allTold d 0 0 Q 0 0 4 [some (.inr (.inr 1)), u1, u2, u3] [] h := by
  refine zrun 2 3 qX10_allTold (o := 10) rfl ?_
  show zokO h 1 10 ∧ J mX10_allTold d 0 0 Q 0 0 15 [some (.inr (.inr 1)), u1, u2, u3] [.inr (.inr (h.2.2.1 1 13))] h
  rw [(show h.2.2.1 1 13 = 99 from (hr.at (by decide) (by decide) (by rfl)))]
  exact ⟨(zo hr (by decide) rfl), k⟩

theorem bX10_allTold_11 {d : Nat} {Q : Option MV → MH → Prop} {h : MH} {u1 u2 u3 : Option MV} (hr : zRf h) (k : J mX10_allTold d 0 0 Q 0 0 15 [some (.inr (.inr 1)), u1, u2, u3] [.inr (.inr 97)] h) : J mX10_allTold d 0 0 Q 0 0 11 [some (.inr (.inr 1)), u1, u2, u3] [] h := by
  refine zrun 5 2 qX10_allTold (o := 10) rfl ?_
  show zokO h 1 10 ∧ J mX10_allTold d 0 0 Q 0 0 15 [some (.inr (.inr 1)), u1, u2, u3] [.inr (.inr (h.2.2.1 1 12))] h
  rw [(show h.2.2.1 1 12 = 97 from (hr.at (by decide) (by decide) (by rfl)))]
  exact ⟨(zo hr (by decide) rfl), k⟩

theorem bX10_allTold_15 {d : Nat} {Q : Option MV → MH → Prop} {h : MH} {u0 u3 : Option MV} {v2 v1 : Int32} {vs0 : Nat} (g0 : zokO h vs0 3) (k1 : (h.1 vs0 0) = v1 → J mX10_allTold d 0 0 Q 0 0 57 [u0, some (.inl v1), some (.inl v2), some (.inr (.inr vs0))] [] h) (k2 : ¬ (h.1 vs0 0) = v1 → J mX10_allTold d 0 0 Q 0 0 24 [u0, some (.inl v1), some (.inl v2), some (.inr (.inr vs0))] [] h) : J mX10_allTold d 0 0 Q 0 0 15 [u0, some (.inl v1), some (.inl v2), u3] [.inr (.inr vs0)] h := by
  refine zrun 7 5 qX10_allTold (o := 10) rfl ?_
  show zokO h vs0 3 ∧ (((h.1 vs0 0) = v1 → J mX10_allTold d 0 0 Q 0 0 57 [u0, some (.inl v1), some (.inl v2), some (.inr (.inr vs0))] [] h) ∧ (¬ (h.1 vs0 0) = v1 → J mX10_allTold d 0 0 Q 0 0 24 [u0, some (.inl v1), some (.inl v2), some (.inr (.inr vs0))] [] h))
  exact ⟨g0, k1, k2⟩

theorem bX10_allTold_24 {d d' : Nat} {Q : Option MV → MH → Prop} {h : MH} {u0 u1 u2 : Option MV} {v3 : Nat} (gr : zokO h v3 3) (hd : d' + 1 ≤ d) (k : Con mX3_clear d' 0 0 [.inr (.inr v3)] h (zrv fun h' => J mX10_allTold d 0 0 Q 0 0 28 [u0, u1, u2, some (.inr (.inr v3))] [] h')) : J mX10_allTold d 0 0 Q 0 0 24 [u0, u1, u2, some (.inr (.inr v3))] [] h := by
  refine zrun 12 1 qX10_allTold (o := 10) rfl ?_
  show J mX10_allTold d 0 0 Q 0 0 25 [u0, u1, u2, some (.inr (.inr v3))] [.inr (.inr v3)] h
  exact zcVv (as := []) (zat qX10_allTold 13 (by rfl)) l10_299 rfl hd rfl (Nat.le_of_ble_eq_true rfl) zle0 (ci := 3) (by decide) rfl gr k

theorem bX10_allTold_28 {d d' : Nat} {Q : Option MV → MH → Prop} {h : MH} {u3 : Option MV} {v1 v2 : Int32} (hr : zRf h) (hd : d' + 1 ≤ d) (k : Con mX9_lay d' 0 0 [.inr (.inr 62), .inr (.inr 16), .inl v1, .inl v2] h (zrv fun h' => J mX10_allTold d 0 0 Q 0 0 44 [some (.inr (.inr 1)), some (.inl v1), some (.inl v2), u3] [] h')) : J mX10_allTold d 0 0 Q 0 0 28 [some (.inr (.inr 1)), some (.inl v1), some (.inl v2), u3] [] h := by
  refine zrun 14 7 qX10_allTold (o := 10) rfl ?_
  show zokO h 1 10 ∧ zokO h 1 10 ∧ zokO h (h.2.2.1 1 4) 1 ∧ J mX10_allTold d 0 0 Q 0 0 41 [some (.inr (.inr 1)), some (.inl v1), some (.inl v2), u3] [.inl v2, .inl v1, .inr (.inr (h.2.2.1 (h.2.2.1 1 4) 0)), .inr (.inr (h.2.2.1 1 10))] h
  rw [(show h.2.2.1 1 10 = 62 from (hr.at (by decide) (by decide) (by rfl))), (show h.2.2.1 1 4 = 15 from (hr.at (by decide) (by decide) (by rfl))), (show h.2.2.1 15 0 = 16 from (hr.at (by decide) (by decide) (by rfl)))]
  exact ⟨(zo hr (by decide) rfl), (zo hr (by decide) rfl), (zo hr (by decide) rfl), zcVv (as := [.inr (.inr 16), .inl v1, .inl v2]) (zat qX10_allTold 21 (by rfl)) l10_293 rfl hd rfl (Nat.le_of_ble_eq_true rfl) zle0 (ci := 9) (by decide) rfl (zo hr (by decide) rfl) k⟩

theorem bX10_allTold_44 {d d' : Nat} {Q : Option MV → MH → Prop} {h : MH} {u1 u2 : Option MV} {v3 : Nat} (hr : zRf h) (hd : d' + 1 ≤ d) (k : Con mX9_markAll d' 0 0 [.inr (.inr 62), .inr (.inr v3)] h (zrv fun h' => J mX10_allTold d 0 0 Q 0 0 52 [some (.inr (.inr 1)), u1, u2, some (.inr (.inr v3))] [] h')) : J mX10_allTold d 0 0 Q 0 0 44 [some (.inr (.inr 1)), u1, u2, some (.inr (.inr v3))] [] h := by
  refine zrun 22 3 qX10_allTold (o := 10) rfl ?_
  show zokO h 1 10 ∧ J mX10_allTold d 0 0 Q 0 0 49 [some (.inr (.inr 1)), u1, u2, some (.inr (.inr v3))] [.inr (.inr v3), .inr (.inr (h.2.2.1 1 10))] h
  rw [(show h.2.2.1 1 10 = 62 from (hr.at (by decide) (by decide) (by rfl)))]
  exact ⟨(zo hr (by decide) rfl), zcVv (as := [.inr (.inr v3)]) (zat qX10_allTold 25 (by rfl)) l10_302 rfl hd rfl (Nat.le_of_ble_eq_true rfl) zle0 (ci := 9) (by decide) rfl (zo hr (by decide) rfl) k⟩

theorem bX10_allTold_52 {d : Nat} {Q : Option MV → MH → Prop} {h : MH} {u0 u2 : Option MV} {v1 : Int32} {v3 : Nat} (g0 : zokO h v3 3) (k : J mX10_allTold d 0 0 Q 0 0 57 [u0, some (.inl v1), u2, some (.inr (.inr v3))] [] (zsI h v3 0 v1)) : J mX10_allTold d 0 0 Q 0 0 52 [u0, some (.inl v1), u2, some (.inr (.inr v3))] [] h := by
  refine zrun 26 3 qX10_allTold (o := 10) rfl ?_
  show zokO h v3 3 ∧ J mX10_allTold d 0 0 Q 0 0 57 [u0, some (.inl v1), u2, some (.inr (.inr v3))] [] (zsI h v3 0 v1)
  exact ⟨(g0), k⟩

theorem bX10_allTold_57 {d : Nat} {Q : Option MV → MH → Prop} {h : MH} {u0 u1 u2 : Option MV} {v3 : Nat} (k : Q (some (.inr (.inr v3))) h) : J mX10_allTold d 0 0 Q 0 0 57 [u0, u1, u2, some (.inr (.inr v3))] [] h := by
  refine zrun 29 1 qX10_allTold (o := 10) rfl ?_
  show J mX10_allTold d 0 0 Q 0 0 58 [u0, u1, u2, some (.inr (.inr v3))] [.inr (.inr v3)] h
  exact J_aret (zat qX10_allTold 30 (by rfl)) rfl (Nat.le_refl 0) (Nat.le_refl 0) k

theorem bX10_time_0 {d d' : Nat} {Q : Option MV → MH → Prop} {h : MH} {u2 u3 : Option MV} {v1 : Int32} (hr : zRf h) (hd : d' + 1 ≤ d) (k : Con mX10_isSet d' 0 0 [.inr (.inr 1), .inl v1, .inl (nI 4)] h (zri fun (x : Int32) h' => J mX10_time d 0 0 Q 0 0 6 [some (.inr (.inr 1)), some (.inl v1), u2, u3] [.inl x] h')) : J mX10_time d 0 0 Q 0 0 0 [some (.inr (.inr 1)), some (.inl v1), u2, u3] [] h := by
  refine zrun 0 3 qX10_time (o := 10) rfl ?_
  show J mX10_time d 0 0 Q 0 0 3 [some (.inr (.inr 1)), some (.inl v1), u2, u3] [.inl (nI 4), .inl v1, .inr (.inr 1)] h
  exact zcVi (as := [.inl v1, .inl (nI 4)]) (zat qX10_time 3 (by rfl)) l10_280 rfl hd rfl (Nat.le_of_ble_eq_true rfl) zle0 (ci := 10) (by decide) rfl (zo hr (by decide) rfl) k

theorem bX10_time_6 {d : Nat} {Q : Option MV → MH → Prop} {h : MH} {u0 u1 u2 u3 : Option MV} {vs0 : Int32} (k1 : ¬ vs0 = 0 → J mX10_time d 0 0 Q 0 0 12 [u0, u1, u2, u3] [] h) (k2 : vs0 = 0 → J mX10_time d 0 0 Q 0 0 9 [u0, u1, u2, u3] [] h) : J mX10_time d 0 0 Q 0 0 6 [u0, u1, u2, u3] [.inl vs0] h := by
  refine zrun 4 1 qX10_time (o := 10) rfl ?_
  show ((¬ vs0 = 0 → J mX10_time d 0 0 Q 0 0 12 [u0, u1, u2, u3] [] h) ∧ (vs0 = 0 → J mX10_time d 0 0 Q 0 0 9 [u0, u1, u2, u3] [] h))
  exact ⟨k1, k2⟩

theorem bX10_time_9 {d : Nat} {Q : Option MV → MH → Prop} {h : MH} {u0 u1 u2 u3 : Option MV} (k : Q (some (.inl (-(nI 3)))) h) : J mX10_time d 0 0 Q 0 0 9 [u0, u1, u2, u3] [] h := by
  refine zrun 5 1 qX10_time (o := 10) rfl ?_
  show J mX10_time d 0 0 Q 0 0 11 [u0, u1, u2, u3] [.inl (-(nI 3))] h
  exact J_iret (ty := .int) (zat qX10_time 6 (by rfl)) rfl rfl (Nat.le_refl 0) (Nat.le_refl 0) k

theorem bX10_time_12 {d d' : Nat} {Q : Option MV → MH → Prop} {h : MH} {u3 : Option MV} {v1 v2 : Int32} (hr : zRf h) (hd : d' + 1 ≤ d) (k : Con mX10_allTold d' 0 0 [.inr (.inr 1), .inl v1, .inl v2] h (zrr fun (x : Nat) h' => J mX10_time d 0 0 Q 0 0 18 [some (.inr (.inr 1)), some (.inl v1), some (.inl v2), u3] [.inr (.inr x)] h')) : J mX10_time d 0 0 Q 0 0 12 [some (.inr (.inr 1)), some (.inl v1), some (.inl v2), u3] [] h := by
  refine zrun 7 3 qX10_time (o := 10) rfl ?_
  show J mX10_time d 0 0 Q 0 0 15 [some (.inr (.inr 1)), some (.inl v1), some (.inl v2), u3] [.inl v2, .inl v1, .inr (.inr 1)] h
  exact zcVr (as := [.inl v1, .inl v2]) (zat qX10_time 10 (by rfl)) l10_306 rfl hd rfl (Nat.le_of_ble_eq_true rfl) zle0 (ci := 10) (by decide) rfl (zo hr (by decide) rfl) k

theorem bX10_time_18 {d d' : Nat} {Q : Option MV → MH → Prop} {h : MH} {u0 u1 u2 : Option MV} {v3 : Int32} {vs0 : Nat} (hd : d' + 1 ≤ d) (k : Con mX10_pick d' 0 0 [.inr (.inr vs0), .inl v3] h (zri fun (x : Int32) h' => J mX10_time d 0 0 Q 0 0 22 [u0, u1, u2, some (.inl v3)] [.inl x] h')) : J mX10_time d 0 0 Q 0 0 18 [u0, u1, u2, some (.inl v3)] [.inr (.inr vs0)] h := by
  refine zrun 11 1 qX10_time (o := 10) rfl ?_
  show J mX10_time d 0 0 Q 0 0 19 [u0, u1, u2, some (.inl v3)] [.inl v3, .inr (.inr vs0)] h
  exact zcSi (as := [.inr (.inr vs0), .inl v3]) (zat qX10_time 12 (by rfl)) l10_310 rfl hd rfl (Nat.le_of_ble_eq_true rfl) zle0 k

theorem bX10_time_22 {d : Nat} {Q : Option MV → MH → Prop} {h : MH} {u0 u1 u2 u3 : Option MV} {vs0 : Int32} (k : Q (some (.inl vs0)) h) : J mX10_time d 0 0 Q 0 0 22 [u0, u1, u2, u3] [.inl vs0] h := by
  exact J_iret (ty := .int) (zat qX10_time 13 (by rfl)) rfl rfl (Nat.le_refl 0) (Nat.le_refl 0) k

theorem bX10_pick_0 {d : Nat} {Q : Option MV → MH → Prop} {h : MH} {u0 : Option MV} {v1 : Int32} (k1 : ¬ v1 = (-(nI 1)) → J mX10_pick d 0 0 Q 0 0 12 [u0, some (.inl v1)] [] h) (k2 : v1 = (-(nI 1)) → J mX10_pick d 0 0 Q 0 0 5 [u0, some (.inl v1)] [] h) : J mX10_pick d 0 0 Q 0 0 0 [u0, some (.inl v1)] [] h := by
  refine zrun 0 3 qX10_pick (o := 10) rfl ?_
  show ((¬ v1 = (-(nI 1)) → J mX10_pick d 0 0 Q 0 0 12 [u0, some (.inl v1)] [] h) ∧ (v1 = (-(nI 1)) → J mX10_pick d 0 0 Q 0 0 5 [u0, some (.inl v1)] [] h))
  exact ⟨k1, k2⟩

theorem bX10_pick_5 {d d' : Nat} {Q : Option MV → MH → Prop} {h : MH} {u1 : Option MV} {v0 : Nat} (gr : zokO h v0 3) (hd : d' + 1 ≤ d) (k : Con mX3_size d' 0 0 [.inr (.inr v0)] h (zri fun (x : Int32) h' => J mX10_pick d 0 0 Q 0 0 9 [some (.inr (.inr v0)), u1] [.inl x] h')) : J mX10_pick d 0 0 Q 0 0 5 [some (.inr (.inr v0)), u1] [] h := by
  refine zrun 3 1 qX10_pick (o := 10) rfl ?_
  show J mX10_pick d 0 0 Q 0 0 6 [some (.inr (.inr v0)), u1] [.inr (.inr v0)] h
  exact zcVi (as := []) (zat qX10_pick 4 (by rfl)) l10_314 rfl hd rfl (Nat.le_of_ble_eq_true rfl) zle0 (ci := 3) (by decide) rfl gr k

theorem bX10_pick_9 {d : Nat} {Q : Option MV → MH → Prop} {h : MH} {u0 u1 : Option MV} {vs0 : Int32} (k : J mX10_pick d 0 0 Q 0 0 17 [u0, u1] [.inl vs0] h) : J mX10_pick d 0 0 Q 0 0 9 [u0, u1] [.inl vs0] h := by
  refine zrun 5 1 qX10_pick (o := 10) rfl ?_
  show J mX10_pick d 0 0 Q 0 0 17 [u0, u1] [.inl vs0] h
  exact k

theorem bX10_pick_12 {d d' : Nat} {Q : Option MV → MH → Prop} {h : MH} {v1 : Int32} {v0 : Nat} (gr : zokO h v0 3) (hd : d' + 1 ≤ d) (k : Con mX3_nth d' 0 0 [.inr (.inr v0), .inl v1] h (zri fun (x : Int32) h' => J mX10_pick d 0 0 Q 0 0 17 [some (.inr (.inr v0)), some (.inl v1)] [.inl x] h')) : J mX10_pick d 0 0 Q 0 0 12 [some (.inr (.inr v0)), some (.inl v1)] [] h := by
  refine zrun 6 2 qX10_pick (o := 10) rfl ?_
  show J mX10_pick d 0 0 Q 0 0 14 [some (.inr (.inr v0)), some (.inl v1)] [.inl v1, .inr (.inr v0)] h
  exact zcVi (as := [.inl v1]) (zat qX10_pick 8 (by rfl)) l10_317 rfl hd rfl (Nat.le_of_ble_eq_true rfl) zle0 (ci := 3) (by decide) rfl gr k

theorem bX10_pick_17 {d : Nat} {Q : Option MV → MH → Prop} {h : MH} {u0 u1 : Option MV} {vs0 : Int32} (k : Q (some (.inl vs0)) h) : J mX10_pick d 0 0 Q 0 0 17 [u0, u1] [.inl vs0] h := by
  exact J_iret (ty := .int) (zat qX10_pick 9 (by rfl)) rfl rfl (Nat.le_refl 0) (Nat.le_refl 0) k

theorem bX10_between_0 {d d' : Nat} {Q : Option MV → MH → Prop} {h : MH} {u2 u3 : Option MV} {v1 : Int32} (hr : zRf h) (hd : d' + 1 ≤ d) (k : Con mX10_isSet d' 0 0 [.inr (.inr 1), .inl v1, .inl (nI 4)] h (zri fun (x : Int32) h' => J mX10_between d 0 0 Q 0 0 6 [some (.inr (.inr 1)), some (.inl v1), u2, u3] [.inl x] h')) : J mX10_between d 0 0 Q 0 0 0 [some (.inr (.inr 1)), some (.inl v1), u2, u3] [] h := by
  refine zrun 0 3 qX10_between (o := 10) rfl ?_
  show J mX10_between d 0 0 Q 0 0 3 [some (.inr (.inr 1)), some (.inl v1), u2, u3] [.inl (nI 4), .inl v1, .inr (.inr 1)] h
  exact zcVi (as := [.inl v1, .inl (nI 4)]) (zat qX10_between 3 (by rfl)) l10_280 rfl hd rfl (Nat.le_of_ble_eq_true rfl) zle0 (ci := 10) (by decide) rfl (zo hr (by decide) rfl) k

theorem bX10_between_6 {d : Nat} {Q : Option MV → MH → Prop} {h : MH} {u0 u1 u2 u3 : Option MV} {vs0 : Int32} (k1 : vs0 = 0 → J mX10_between d 0 0 Q 0 0 14 [u0, u1, u2, u3] [] h) (k2 : ¬ vs0 = 0 → J mX10_between d 0 0 Q 0 0 9 [u0, u1, u2, u3] [] h) : J mX10_between d 0 0 Q 0 0 6 [u0, u1, u2, u3] [.inl vs0] h := by
  refine zrun 4 1 qX10_between (o := 10) rfl ?_
  show ((vs0 = 0 → J mX10_between d 0 0 Q 0 0 14 [u0, u1, u2, u3] [] h) ∧ (¬ vs0 = 0 → J mX10_between d 0 0 Q 0 0 9 [u0, u1, u2, u3] [] h))
  exact ⟨k1, k2⟩

theorem bX10_between_9 {d : Nat} {Q : Option MV → MH → Prop} {h : MH} {u0 u1 u2 : Option MV} {v3 : Int32} (k1 : (nI 1) ≤ v3 → J mX10_between d 0 0 Q 0 0 17 [u0, u1, u2, some (.inl v3)] [] h) (k2 : ¬ (nI 1) ≤ v3 → J mX10_between d 0 0 Q 0 0 14 [u0, u1, u2, some (.inl v3)] [] h) : J mX10_between d 0 0 Q 0 0 9 [u0, u1, u2, some (.inl v3)] [] h := by
  refine zrun 5 3 qX10_between (o := 10) rfl ?_
  show (((nI 1) ≤ v3 → J mX10_between d 0 0 Q 0 0 17 [u0, u1, u2, some (.inl v3)] [] h) ∧ (¬ (nI 1) ≤ v3 → J mX10_between d 0 0 Q 0 0 14 [u0, u1, u2, some (.inl v3)] [] h))
  exact ⟨k1, k2⟩

theorem bX10_between_14 {d : Nat} {Q : Option MV → MH → Prop} {h : MH} {u0 u1 u2 u3 : Option MV} (k : Q (some (.inl (-(nI 3)))) h) : J mX10_between d 0 0 Q 0 0 14 [u0, u1, u2, u3] [] h := by
  refine zrun 8 1 qX10_between (o := 10) rfl ?_
  show J mX10_between d 0 0 Q 0 0 16 [u0, u1, u2, u3] [.inl (-(nI 3))] h
  exact J_iret (ty := .int) (zat qX10_between 9 (by rfl)) rfl rfl (Nat.le_refl 0) (Nat.le_refl 0) k

theorem bX10_between_17 {d d' : Nat} {Q : Option MV → MH → Prop} {h : MH} {u3 : Option MV} {v1 v2 : Int32} (hr : zRf h) (hd : d' + 1 ≤ d) (k : Con mX9_lay d' 0 0 [.inr (.inr 62), .inr (.inr 16), .inl v1, .inl v2] h (zrv fun h' => J mX10_between d 0 0 Q 0 0 33 [some (.inr (.inr 1)), some (.inl v1), some (.inl v2), u3] [] h')) : J mX10_between d 0 0 Q 0 0 17 [some (.inr (.inr 1)), some (.inl v1), some (.inl v2), u3] [] h := by
  refine zrun 10 7 qX10_between (o := 10) rfl ?_
  show zokO h 1 10 ∧ zokO h 1 10 ∧ zokO h (h.2.2.1 1 4) 1 ∧ J mX10_between d 0 0 Q 0 0 30 [some (.inr (.inr 1)), some (.inl v1), some (.inl v2), u3] [.inl v2, .inl v1, .inr (.inr (h.2.2.1 (h.2.2.1 1 4) 0)), .inr (.inr (h.2.2.1 1 10))] h
  rw [(show h.2.2.1 1 10 = 62 from (hr.at (by decide) (by decide) (by rfl))), (show h.2.2.1 1 4 = 15 from (hr.at (by decide) (by decide) (by rfl))), (show h.2.2.1 15 0 = 16 from (hr.at (by decide) (by decide) (by rfl)))]
  exact ⟨(zo hr (by decide) rfl), (zo hr (by decide) rfl), (zo hr (by decide) rfl), zcVv (as := [.inr (.inr 16), .inl v1, .inl v2]) (zat qX10_between 17 (by rfl)) l10_293 rfl hd rfl (Nat.le_of_ble_eq_true rfl) zle0 (ci := 9) (by decide) rfl (zo hr (by decide) rfl) k⟩

theorem bX10_between_33 {d d' : Nat} {Q : Option MV → MH → Prop} {h : MH} {u1 u2 : Option MV} {v3 : Int32} (hr : zRf h) (hd : d' + 1 ≤ d) (k : Con mX9_seek d' 0 0 [.inr (.inr 62), .inl (nI 4), .inl v3] h (zri fun (x : Int32) h' => J mX10_between d 0 0 Q 0 0 42 [some (.inr (.inr 1)), u1, u2, some (.inl v3)] [.inl x] h')) : J mX10_between d 0 0 Q 0 0 33 [some (.inr (.inr 1)), u1, u2, some (.inl v3)] [] h := by
  refine zrun 18 4 qX10_between (o := 10) rfl ?_
  show zokO h 1 10 ∧ J mX10_between d 0 0 Q 0 0 39 [some (.inr (.inr 1)), u1, u2, some (.inl v3)] [.inl v3, .inl (nI 4), .inr (.inr (h.2.2.1 1 10))] h
  rw [(show h.2.2.1 1 10 = 62 from (hr.at (by decide) (by decide) (by rfl)))]
  exact ⟨(zo hr (by decide) rfl), zcVi (as := [.inl (nI 4), .inl v3]) (zat qX10_between 22 (by rfl)) l10_296 rfl hd rfl (Nat.le_of_ble_eq_true rfl) zle0 (ci := 9) (by decide) rfl (zo hr (by decide) rfl) k⟩

theorem bX10_between_42 {d : Nat} {Q : Option MV → MH → Prop} {h : MH} {u0 u1 u2 u3 : Option MV} {vs0 : Int32} (k1 : vs0 = 0 → J mX10_between d 0 0 Q 0 0 49 [u0, u1, u2, u3] [] h) (k2 : ¬ vs0 = 0 → J mX10_between d 0 0 Q 0 0 45 [u0, u1, u2, u3] [] h) : J mX10_between d 0 0 Q 0 0 42 [u0, u1, u2, u3] [.inl vs0] h := by
  refine zrun 23 1 qX10_between (o := 10) rfl ?_
  show ((vs0 = 0 → J mX10_between d 0 0 Q 0 0 49 [u0, u1, u2, u3] [] h) ∧ (¬ vs0 = 0 → J mX10_between d 0 0 Q 0 0 45 [u0, u1, u2, u3] [] h))
  exact ⟨k1, k2⟩

theorem bX10_between_45 {d : Nat} {Q : Option MV → MH → Prop} {h : MH} {u0 u1 u2 u3 : Option MV} (k : J mX10_between d 0 0 Q 0 0 50 [u0, u1, u2, u3] [.inl (nI 1)] h) : J mX10_between d 0 0 Q 0 0 45 [u0, u1, u2, u3] [] h := by
  refine zrun 24 2 qX10_between (o := 10) rfl ?_
  show J mX10_between d 0 0 Q 0 0 50 [u0, u1, u2, u3] [.inl (nI 1)] h
  exact k

theorem bX10_between_49 {d : Nat} {Q : Option MV → MH → Prop} {h : MH} {u0 u1 u2 u3 : Option MV} (k : J mX10_between d 0 0 Q 0 0 50 [u0, u1, u2, u3] [.inl (nI 0)] h) : J mX10_between d 0 0 Q 0 0 49 [u0, u1, u2, u3] [] h := by
  refine zrun 26 1 qX10_between (o := 10) rfl ?_
  show J mX10_between d 0 0 Q 0 0 50 [u0, u1, u2, u3] [.inl (nI 0)] h
  exact k

theorem bX10_between_50 {d : Nat} {Q : Option MV → MH → Prop} {h : MH} {u0 u1 u2 u3 : Option MV} {vs0 : Int32} (k : Q (some (.inl vs0)) h) : J mX10_between d 0 0 Q 0 0 50 [u0, u1, u2, u3] [.inl vs0] h := by
  exact J_iret (ty := .int) (zat qX10_between 27 (by rfl)) rfl rfl (Nat.le_refl 0) (Nat.le_refl 0) k

theorem bX10_least_0 {d : Nat} {Q : Option MV → MH → Prop} {h : MH} {u0 u1 u2 u4 u5 : Option MV} {v3 : Int32} (k1 : v3 < 0 → J mX10_least d 0 0 Q 0 0 9 [u0, u1, u2, some (.inl v3), u4, u5] [] h) (k2 : ¬ v3 < 0 → J mX10_least d 0 0 Q 0 0 4 [u0, u1, u2, some (.inl v3), u4, u5] [] h) : J mX10_least d 0 0 Q 0 0 0 [u0, u1, u2, some (.inl v3), u4, u5] [] h := by
  refine zrun 0 2 qX10_least (o := 10) rfl ?_
  show ((v3 < 0 → J mX10_least d 0 0 Q 0 0 9 [u0, u1, u2, some (.inl v3), u4, u5] [] h) ∧ (¬ v3 < 0 → J mX10_least d 0 0 Q 0 0 4 [u0, u1, u2, some (.inl v3), u4, u5] [] h))
  exact ⟨k1, k2⟩

theorem bX10_least_4 {d : Nat} {Q : Option MV → MH → Prop} {h : MH} {u0 u1 u2 u4 u5 : Option MV} {v3 : Int32} (k1 : v3 ≤ (nI 1) → J mX10_least d 0 0 Q 0 0 12 [u0, u1, u2, some (.inl v3), u4, u5] [] h) (k2 : ¬ v3 ≤ (nI 1) → J mX10_least d 0 0 Q 0 0 9 [u0, u1, u2, some (.inl v3), u4, u5] [] h) : J mX10_least d 0 0 Q 0 0 4 [u0, u1, u2, some (.inl v3), u4, u5] [] h := by
  refine zrun 2 3 qX10_least (o := 10) rfl ?_
  show ((v3 ≤ (nI 1) → J mX10_least d 0 0 Q 0 0 12 [u0, u1, u2, some (.inl v3), u4, u5] [] h) ∧ (¬ v3 ≤ (nI 1) → J mX10_least d 0 0 Q 0 0 9 [u0, u1, u2, some (.inl v3), u4, u5] [] h))
  exact ⟨k1, k2⟩

theorem bX10_least_9 {d : Nat} {Q : Option MV → MH → Prop} {h : MH} {u0 u1 u2 u3 u4 u5 : Option MV} (k : Q (some (.inl (-(nI 2)))) h) : J mX10_least d 0 0 Q 0 0 9 [u0, u1, u2, u3, u4, u5] [] h := by
  refine zrun 5 1 qX10_least (o := 10) rfl ?_
  show J mX10_least d 0 0 Q 0 0 11 [u0, u1, u2, u3, u4, u5] [.inl (-(nI 2))] h
  exact J_iret (ty := .int) (zat qX10_least 6 (by rfl)) rfl rfl (Nat.le_refl 0) (Nat.le_refl 0) k

theorem bX10_least_12 {d : Nat} {Q : Option MV → MH → Prop} {h : MH} {u0 u2 u3 u4 u5 : Option MV} {v1 : Int32} (k1 : (nI 1) ≤ v1 → J mX10_least d 0 0 Q 0 0 20 [u0, some (.inl v1), u2, u3, u4, u5] [] h) (k2 : ¬ (nI 1) ≤ v1 → J mX10_least d 0 0 Q 0 0 17 [u0, some (.inl v1), u2, u3, u4, u5] [] h) : J mX10_least d 0 0 Q 0 0 12 [u0, some (.inl v1), u2, u3, u4, u5] [] h := by
  refine zrun 7 3 qX10_least (o := 10) rfl ?_
  show (((nI 1) ≤ v1 → J mX10_least d 0 0 Q 0 0 20 [u0, some (.inl v1), u2, u3, u4, u5] [] h) ∧ (¬ (nI 1) ≤ v1 → J mX10_least d 0 0 Q 0 0 17 [u0, some (.inl v1), u2, u3, u4, u5] [] h))
  exact ⟨k1, k2⟩

theorem bX10_least_17 {d : Nat} {Q : Option MV → MH → Prop} {h : MH} {u0 u1 u2 u3 u4 u5 : Option MV} (k : Q (some (.inl (-(nI 3)))) h) : J mX10_least d 0 0 Q 0 0 17 [u0, u1, u2, u3, u4, u5] [] h := by
  refine zrun 10 1 qX10_least (o := 10) rfl ?_
  show J mX10_least d 0 0 Q 0 0 19 [u0, u1, u2, u3, u4, u5] [.inl (-(nI 3))] h
  exact J_iret (ty := .int) (zat qX10_least 11 (by rfl)) rfl rfl (Nat.le_refl 0) (Nat.le_refl 0) k

theorem bX10_least_20 {d : Nat} {Q : Option MV → MH → Prop} {h : MH} {u0 u1 u2 u4 u5 : Option MV} {v3 : Int32} (k : J mX10_least d 0 0 Q 0 0 23 [u0, u1, u2, some (.inl v3), some (.inl (nI 1)), u5] [] h) : J mX10_least d 0 0 Q 0 0 20 [u0, u1, u2, some (.inl v3), u4, u5] [] h := by
  refine zrun 12 2 qX10_least (o := 10) rfl ?_
  show J mX10_least d 0 0 Q 0 0 23 [u0, u1, u2, some (.inl v3), some (.inl (nI 1)), u5] [] h
  exact k

theorem bX10_least_23 {d : Nat} {Q : Option MV → MH → Prop} {h : MH} {u0 u1 u2 u3 u5 : Option MV} {v4 : Int32} (k1 : (nI 4) < v4 → J mX10_least d 0 0 Q 0 0 94 [u0, u1, u2, u3, some (.inl v4), u5] [] h) (k2 : ¬ (nI 4) < v4 → J mX10_least d 0 0 Q 0 0 29 [u0, u1, u2, u3, some (.inl v4), u5] [] h) : J mX10_least d 0 0 Q 0 0 23 [u0, u1, u2, u3, some (.inl v4), u5] [] h := by
  refine zrun 14 3 qX10_least (o := 10) rfl ?_
  show (((nI 4) < v4 → J mX10_least d 0 0 Q 0 0 94 [u0, u1, u2, u3, some (.inl v4), u5] [] h) ∧ (¬ (nI 4) < v4 → J mX10_least d 0 0 Q 0 0 29 [u0, u1, u2, u3, some (.inl v4), u5] [] h))
  exact ⟨k1, k2⟩

theorem bX10_least_29 {d : Nat} {Q : Option MV → MH → Prop} {h : MH} {u0 u1 u2 u3 u5 : Option MV} {v4 : Int32} (k : J mX10_least d 0 0 Q 0 0 32 [u0, u1, u2, u3, some (.inl v4), some (.inl (nI 1))] [] h) : J mX10_least d 0 0 Q 0 0 29 [u0, u1, u2, u3, some (.inl v4), u5] [] h := by
  refine zrun 17 2 qX10_least (o := 10) rfl ?_
  show J mX10_least d 0 0 Q 0 0 32 [u0, u1, u2, u3, some (.inl v4), some (.inl (nI 1))] [] h
  exact k

theorem bX10_least_32 {d : Nat} {Q : Option MV → MH → Prop} {h : MH} {u1 u2 u3 u4 : Option MV} {v5 : Int32} (hr : zRf h) (k1 : ((nI 1) <<< ((h.1 16 0) &&& 31)) ≤ v5 → J mX10_least d 0 0 Q 0 0 88 [some (.inr (.inr 1)), u1, u2, u3, u4, some (.inl v5)] [] h) (k2 : ¬ ((nI 1) <<< ((h.1 16 0) &&& 31)) ≤ v5 → J mX10_least d 0 0 Q 0 0 49 [some (.inr (.inr 1)), u1, u2, u3, u4, some (.inl v5)] [] h) : J mX10_least d 0 0 Q 0 0 32 [some (.inr (.inr 1)), u1, u2, u3, u4, some (.inl v5)] [] h := by
  refine zrun 19 8 qX10_least (o := 10) rfl ?_
  show zokO h 1 10 ∧ zokO h (h.2.2.1 1 4) 1 ∧ zokO h (h.2.2.1 (h.2.2.1 1 4) 0) 2 ∧ ((((nI 1) <<< ((h.1 (h.2.2.1 (h.2.2.1 1 4) 0) 0) &&& 31)) ≤ v5 → J mX10_least d 0 0 Q 0 0 88 [some (.inr (.inr 1)), u1, u2, u3, u4, some (.inl v5)] [] h) ∧ (¬ ((nI 1) <<< ((h.1 (h.2.2.1 (h.2.2.1 1 4) 0) 0) &&& 31)) ≤ v5 → J mX10_least d 0 0 Q 0 0 49 [some (.inr (.inr 1)), u1, u2, u3, u4, some (.inl v5)] [] h))
  rw [(show h.2.2.1 1 4 = 15 from (hr.at (by decide) (by decide) (by rfl))), (show h.2.2.1 15 0 = 16 from (hr.at (by decide) (by decide) (by rfl)))]
  exact ⟨(zo hr (by decide) rfl), (zo hr (by decide) rfl), (zo hr (by decide) rfl), k1, k2⟩

theorem bX10_least_49 {d d' : Nat} {Q : Option MV → MH → Prop} {h : MH} {u0 u1 u2 u3 u4 : Option MV} {v5 : Int32} (hd : d' + 1 ≤ d) (k : Con mJ6_bitCount_0f7a4 d' 0 0 [.inl v5] h (zri fun (x : Int32) h' => J mX10_least d 0 0 Q 0 0 54 [u0, u1, u2, u3, u4, some (.inl v5)] [.inl x] h')) : J mX10_least d 0 0 Q 0 0 49 [u0, u1, u2, u3, u4, some (.inl v5)] [] h := by
  refine zrun 27 1 qX10_least (o := 10) rfl ?_
  show J mX10_least d 0 0 Q 0 0 51 [u0, u1, u2, u3, u4, some (.inl v5)] [.inl v5] h
  exact zcSi (as := [.inl v5]) (zat qX10_least 28 (by rfl)) l10_288 rfl hd rfl (Nat.le_of_ble_eq_true rfl) zle0 k

theorem bX10_least_54 {d : Nat} {Q : Option MV → MH → Prop} {h : MH} {u0 u1 u2 u3 u5 : Option MV} {vs0 v4 : Int32} (k1 : ¬ vs0 = v4 → J mX10_least d 0 0 Q 0 0 82 [u0, u1, u2, u3, some (.inl v4), u5] [] h) (k2 : vs0 = v4 → J mX10_least d 0 0 Q 0 0 59 [u0, u1, u2, u3, some (.inl v4), u5] [] h) : J mX10_least d 0 0 Q 0 0 54 [u0, u1, u2, u3, some (.inl v4), u5] [.inl vs0] h := by
  refine zrun 29 2 qX10_least (o := 10) rfl ?_
  show ((¬ vs0 = v4 → J mX10_least d 0 0 Q 0 0 82 [u0, u1, u2, u3, some (.inl v4), u5] [] h) ∧ (vs0 = v4 → J mX10_least d 0 0 Q 0 0 59 [u0, u1, u2, u3, some (.inl v4), u5] [] h))
  exact ⟨k1, k2⟩

theorem bX10_least_59 {d d' : Nat} {Q : Option MV → MH → Prop} {h : MH} {u3 u4 : Option MV} {v5 v2 v1 : Int32} (hr : zRf h) (hd : d' + 1 ≤ d) (k : Con mX10_isTold d' 0 0 [.inr (.inr 1), .inl v5, .inl v2, .inl v1] h (zri fun (x : Int32) h' => J mX10_least d 0 0 Q 0 0 67 [some (.inr (.inr 1)), some (.inl v1), some (.inl v2), u3, u4, some (.inl v5)] [.inl x] h')) : J mX10_least d 0 0 Q 0 0 59 [some (.inr (.inr 1)), some (.inl v1), some (.inl v2), u3, u4, some (.inl v5)] [] h := by
  refine zrun 31 4 qX10_least (o := 10) rfl ?_
  show J mX10_least d 0 0 Q 0 0 64 [some (.inr (.inr 1)), some (.inl v1), some (.inl v2), u3, u4, some (.inl v5)] [.inl v1, .inl v2, .inl v5, .inr (.inr 1)] h
  exact zcVi (as := [.inl v5, .inl v2, .inl v1]) (zat qX10_least 35 (by rfl)) l10_284 rfl hd rfl (Nat.le_of_ble_eq_true rfl) zle0 (ci := 10) (by decide) rfl (zo hr (by decide) rfl) k

theorem bX10_least_67 {d : Nat} {Q : Option MV → MH → Prop} {h : MH} {u0 u1 u2 u3 u4 u5 : Option MV} {vs0 : Int32} (k1 : vs0 = 0 → J mX10_least d 0 0 Q 0 0 82 [u0, u1, u2, u3, u4, u5] [] h) (k2 : ¬ vs0 = 0 → J mX10_least d 0 0 Q 0 0 70 [u0, u1, u2, u3, u4, u5] [] h) : J mX10_least d 0 0 Q 0 0 67 [u0, u1, u2, u3, u4, u5] [.inl vs0] h := by
  refine zrun 36 1 qX10_least (o := 10) rfl ?_
  show ((vs0 = 0 → J mX10_least d 0 0 Q 0 0 82 [u0, u1, u2, u3, u4, u5] [] h) ∧ (¬ vs0 = 0 → J mX10_least d 0 0 Q 0 0 70 [u0, u1, u2, u3, u4, u5] [] h))
  exact ⟨k1, k2⟩

theorem bX10_least_70 {d : Nat} {Q : Option MV → MH → Prop} {h : MH} {u0 u1 u2 u4 u5 : Option MV} {v3 : Int32} (k1 : ¬ v3 = 0 → J mX10_least d 0 0 Q 0 0 79 [u0, u1, u2, some (.inl v3), u4, u5] [] h) (k2 : v3 = 0 → J mX10_least d 0 0 Q 0 0 74 [u0, u1, u2, some (.inl v3), u4, u5] [] h) : J mX10_least d 0 0 Q 0 0 70 [u0, u1, u2, some (.inl v3), u4, u5] [] h := by
  refine zrun 37 2 qX10_least (o := 10) rfl ?_
  show ((¬ v3 = 0 → J mX10_least d 0 0 Q 0 0 79 [u0, u1, u2, some (.inl v3), u4, u5] [] h) ∧ (v3 = 0 → J mX10_least d 0 0 Q 0 0 74 [u0, u1, u2, some (.inl v3), u4, u5] [] h))
  exact ⟨k1, k2⟩

theorem bX10_least_74 {d : Nat} {Q : Option MV → MH → Prop} {h : MH} {u0 u1 u2 u3 u5 : Option MV} {v4 : Int32} (k : J mX10_least d 0 0 Q 0 0 81 [u0, u1, u2, u3, some (.inl v4), u5] [.inl v4] h) : J mX10_least d 0 0 Q 0 0 74 [u0, u1, u2, u3, some (.inl v4), u5] [] h := by
  refine zrun 39 2 qX10_least (o := 10) rfl ?_
  show J mX10_least d 0 0 Q 0 0 81 [u0, u1, u2, u3, some (.inl v4), u5] [.inl v4] h
  exact k

theorem bX10_least_79 {d : Nat} {Q : Option MV → MH → Prop} {h : MH} {u0 u1 u2 u3 u4 : Option MV} {v5 : Int32} (k : J mX10_least d 0 0 Q 0 0 81 [u0, u1, u2, u3, u4, some (.inl v5)] [.inl v5] h) : J mX10_least d 0 0 Q 0 0 79 [u0, u1, u2, u3, u4, some (.inl v5)] [] h := by
  refine zrun 41 1 qX10_least (o := 10) rfl ?_
  show J mX10_least d 0 0 Q 0 0 81 [u0, u1, u2, u3, u4, some (.inl v5)] [.inl v5] h
  exact k

theorem bX10_least_81 {d : Nat} {Q : Option MV → MH → Prop} {h : MH} {u0 u1 u2 u3 u4 u5 : Option MV} {vs0 : Int32} (k : Q (some (.inl vs0)) h) : J mX10_least d 0 0 Q 0 0 81 [u0, u1, u2, u3, u4, u5] [.inl vs0] h := by
  exact J_iret (ty := .int) (zat qX10_least 42 (by rfl)) rfl rfl (Nat.le_refl 0) (Nat.le_refl 0) k

theorem bX10_least_82 {d : Nat} {Q : Option MV → MH → Prop} {h : MH} {u0 u1 u2 u3 : Option MV} {v5 v4 : Int32} (k : J mX10_least d 0 0 Q 0 0 32 [u0, u1, u2, u3, some (.inl v4), some (.inl (v5 + nI 1))] [] h) : J mX10_least d 0 0 Q 0 0 82 [u0, u1, u2, u3, some (.inl v4), some (.inl v5)] [] h := by
  refine zrun 43 2 qX10_least (o := 10) rfl ?_
  show J mX10_least d 0 0 Q 0 0 32 [u0, u1, u2, u3, some (.inl v4), some (.inl (v5 + nI 1))] [] h
  exact k

theorem bX10_least_88 {d : Nat} {Q : Option MV → MH → Prop} {h : MH} {u0 u1 u2 u5 : Option MV} {v4 v3 : Int32} (k : J mX10_least d 0 0 Q 0 0 23 [u0, u1, u2, some (.inl v3), some (.inl (v4 + nI 1)), u5] [] h) : J mX10_least d 0 0 Q 0 0 88 [u0, u1, u2, some (.inl v3), some (.inl v4), u5] [] h := by
  refine zrun 45 2 qX10_least (o := 10) rfl ?_
  show J mX10_least d 0 0 Q 0 0 23 [u0, u1, u2, some (.inl v3), some (.inl (v4 + nI 1)), u5] [] h
  exact k

theorem bX10_least_94 {d : Nat} {Q : Option MV → MH → Prop} {h : MH} {u0 u1 u2 u3 u4 u5 : Option MV} (k : Q (some (.inl (-(nI 1)))) h) : J mX10_least d 0 0 Q 0 0 94 [u0, u1, u2, u3, u4, u5] [] h := by
  refine zrun 47 1 qX10_least (o := 10) rfl ?_
  show J mX10_least d 0 0 Q 0 0 95 [u0, u1, u2, u3, u4, u5] [.inl (-(nI 1))] h
  exact J_iret (ty := .int) (zat qX10_least 48 (by rfl)) rfl rfl (Nat.le_refl 0) (Nat.le_refl 0) k

theorem bX10_fewest_0 {d d' : Nat} {Q : Option MV → MH → Prop} {h : MH} {u2 u3 : Option MV} {v1 : Int32} (hr : zRf h) (hd : d' + 1 ≤ d) (k : Con mX10_isSet d' 0 0 [.inr (.inr 1), .inl v1, .inl (nI 4)] h (zri fun (x : Int32) h' => J mX10_fewest d 0 0 Q 0 0 6 [some (.inr (.inr 1)), some (.inl v1), u2, u3] [.inl x] h')) : J mX10_fewest d 0 0 Q 0 0 0 [some (.inr (.inr 1)), some (.inl v1), u2, u3] [] h := by
  refine zrun 0 3 qX10_fewest (o := 10) rfl ?_
  show J mX10_fewest d 0 0 Q 0 0 3 [some (.inr (.inr 1)), some (.inl v1), u2, u3] [.inl (nI 4), .inl v1, .inr (.inr 1)] h
  exact zcVi (as := [.inl v1, .inl (nI 4)]) (zat qX10_fewest 3 (by rfl)) l10_280 rfl hd rfl (Nat.le_of_ble_eq_true rfl) zle0 (ci := 10) (by decide) rfl (zo hr (by decide) rfl) k

theorem bX10_fewest_6 {d : Nat} {Q : Option MV → MH → Prop} {h : MH} {u0 u1 u2 u3 : Option MV} {vs0 : Int32} (k1 : vs0 = 0 → J mX10_fewest d 0 0 Q 0 0 14 [u0, u1, u2, u3] [] h) (k2 : ¬ vs0 = 0 → J mX10_fewest d 0 0 Q 0 0 9 [u0, u1, u2, u3] [] h) : J mX10_fewest d 0 0 Q 0 0 6 [u0, u1, u2, u3] [.inl vs0] h := by
  refine zrun 4 1 qX10_fewest (o := 10) rfl ?_
  show ((vs0 = 0 → J mX10_fewest d 0 0 Q 0 0 14 [u0, u1, u2, u3] [] h) ∧ (¬ vs0 = 0 → J mX10_fewest d 0 0 Q 0 0 9 [u0, u1, u2, u3] [] h))
  exact ⟨k1, k2⟩

theorem bX10_fewest_9 {d : Nat} {Q : Option MV → MH → Prop} {h : MH} {u0 u1 u2 : Option MV} {v3 : Int32} (k1 : (nI 1) ≤ v3 → J mX10_fewest d 0 0 Q 0 0 17 [u0, u1, u2, some (.inl v3)] [] h) (k2 : ¬ (nI 1) ≤ v3 → J mX10_fewest d 0 0 Q 0 0 14 [u0, u1, u2, some (.inl v3)] [] h) : J mX10_fewest d 0 0 Q 0 0 9 [u0, u1, u2, some (.inl v3)] [] h := by
  refine zrun 5 3 qX10_fewest (o := 10) rfl ?_
  show (((nI 1) ≤ v3 → J mX10_fewest d 0 0 Q 0 0 17 [u0, u1, u2, some (.inl v3)] [] h) ∧ (¬ (nI 1) ≤ v3 → J mX10_fewest d 0 0 Q 0 0 14 [u0, u1, u2, some (.inl v3)] [] h))
  exact ⟨k1, k2⟩

theorem bX10_fewest_14 {d : Nat} {Q : Option MV → MH → Prop} {h : MH} {u0 u1 u2 u3 : Option MV} (k : Q (some (.inl (-(nI 3)))) h) : J mX10_fewest d 0 0 Q 0 0 14 [u0, u1, u2, u3] [] h := by
  refine zrun 8 1 qX10_fewest (o := 10) rfl ?_
  show J mX10_fewest d 0 0 Q 0 0 16 [u0, u1, u2, u3] [.inl (-(nI 3))] h
  exact J_iret (ty := .int) (zat qX10_fewest 9 (by rfl)) rfl rfl (Nat.le_refl 0) (Nat.le_refl 0) k

theorem bX10_fewest_17 {d d' : Nat} {Q : Option MV → MH → Prop} {h : MH} {u3 : Option MV} {v1 v2 : Int32} (hr : zRf h) (hd : d' + 1 ≤ d) (k : Con mX9_lay d' 0 0 [.inr (.inr 62), .inr (.inr 16), .inl v1, .inl v2] h (zrv fun h' => J mX10_fewest d 0 0 Q 0 0 33 [some (.inr (.inr 1)), some (.inl v1), some (.inl v2), u3] [] h')) : J mX10_fewest d 0 0 Q 0 0 17 [some (.inr (.inr 1)), some (.inl v1), some (.inl v2), u3] [] h := by
  refine zrun 10 7 qX10_fewest (o := 10) rfl ?_
  show zokO h 1 10 ∧ zokO h 1 10 ∧ zokO h (h.2.2.1 1 4) 1 ∧ J mX10_fewest d 0 0 Q 0 0 30 [some (.inr (.inr 1)), some (.inl v1), some (.inl v2), u3] [.inl v2, .inl v1, .inr (.inr (h.2.2.1 (h.2.2.1 1 4) 0)), .inr (.inr (h.2.2.1 1 10))] h
  rw [(show h.2.2.1 1 10 = 62 from (hr.at (by decide) (by decide) (by rfl))), (show h.2.2.1 1 4 = 15 from (hr.at (by decide) (by decide) (by rfl))), (show h.2.2.1 15 0 = 16 from (hr.at (by decide) (by decide) (by rfl)))]
  exact ⟨(zo hr (by decide) rfl), (zo hr (by decide) rfl), (zo hr (by decide) rfl), zcVv (as := [.inr (.inr 16), .inl v1, .inl v2]) (zat qX10_fewest 17 (by rfl)) l10_293 rfl hd rfl (Nat.le_of_ble_eq_true rfl) zle0 (ci := 9) (by decide) rfl (zo hr (by decide) rfl) k⟩

theorem bX10_fewest_33 {d d' : Nat} {Q : Option MV → MH → Prop} {h : MH} {u1 u2 : Option MV} {v3 : Int32} (hr : zRf h) (hd : d' + 1 ≤ d) (k : Con mX9_seek d' 0 0 [.inr (.inr 62), .inl (nI 2), .inl v3] h (zri fun (x : Int32) h' => J mX10_fewest d 0 0 Q 0 0 42 [some (.inr (.inr 1)), u1, u2, some (.inl v3)] [.inl x] h')) : J mX10_fewest d 0 0 Q 0 0 33 [some (.inr (.inr 1)), u1, u2, some (.inl v3)] [] h := by
  refine zrun 18 4 qX10_fewest (o := 10) rfl ?_
  show zokO h 1 10 ∧ J mX10_fewest d 0 0 Q 0 0 39 [some (.inr (.inr 1)), u1, u2, some (.inl v3)] [.inl v3, .inl (nI 2), .inr (.inr (h.2.2.1 1 10))] h
  rw [(show h.2.2.1 1 10 = 62 from (hr.at (by decide) (by decide) (by rfl)))]
  exact ⟨(zo hr (by decide) rfl), zcVi (as := [.inl (nI 2), .inl v3]) (zat qX10_fewest 22 (by rfl)) l10_296 rfl hd rfl (Nat.le_of_ble_eq_true rfl) zle0 (ci := 9) (by decide) rfl (zo hr (by decide) rfl) k⟩

theorem bX10_fewest_42 {d : Nat} {Q : Option MV → MH → Prop} {h : MH} {u0 u1 u2 u3 : Option MV} {vs0 : Int32} (k1 : vs0 = 0 → J mX10_fewest d 0 0 Q 0 0 55 [u0, u1, u2, u3] [] h) (k2 : ¬ vs0 = 0 → J mX10_fewest d 0 0 Q 0 0 45 [u0, u1, u2, u3] [] h) : J mX10_fewest d 0 0 Q 0 0 42 [u0, u1, u2, u3] [.inl vs0] h := by
  refine zrun 23 1 qX10_fewest (o := 10) rfl ?_
  show ((vs0 = 0 → J mX10_fewest d 0 0 Q 0 0 55 [u0, u1, u2, u3] [] h) ∧ (¬ vs0 = 0 → J mX10_fewest d 0 0 Q 0 0 45 [u0, u1, u2, u3] [] h))
  exact ⟨k1, k2⟩

theorem bX10_fewest_45 {d : Nat} {Q : Option MV → MH → Prop} {h : MH} {u1 u2 u3 : Option MV} (hr : zRf h) (k : J mX10_fewest d 0 0 Q 0 0 56 [some (.inr (.inr 1)), u1, u2, u3] [.inl (h.1 62 8)] h) : J mX10_fewest d 0 0 Q 0 0 45 [some (.inr (.inr 1)), u1, u2, u3] [] h := by
  refine zrun 24 4 qX10_fewest (o := 10) rfl ?_
  show zokO h 1 10 ∧ zokO h (h.2.2.1 1 10) 9 ∧ J mX10_fewest d 0 0 Q 0 0 56 [some (.inr (.inr 1)), u1, u2, u3] [.inl (h.1 (h.2.2.1 1 10) 8)] h
  rw [(show h.2.2.1 1 10 = 62 from (hr.at (by decide) (by decide) (by rfl)))]
  exact ⟨(zo hr (by decide) rfl), (zo hr (by decide) rfl), k⟩

theorem bX10_fewest_55 {d : Nat} {Q : Option MV → MH → Prop} {h : MH} {u0 u1 u2 u3 : Option MV} (k : J mX10_fewest d 0 0 Q 0 0 56 [u0, u1, u2, u3] [.inl (-(nI 1))] h) : J mX10_fewest d 0 0 Q 0 0 55 [u0, u1, u2, u3] [] h := by
  refine zrun 28 1 qX10_fewest (o := 10) rfl ?_
  show J mX10_fewest d 0 0 Q 0 0 56 [u0, u1, u2, u3] [.inl (-(nI 1))] h
  exact k

theorem bX10_fewest_56 {d : Nat} {Q : Option MV → MH → Prop} {h : MH} {u0 u1 u2 u3 : Option MV} {vs0 : Int32} (k : Q (some (.inl vs0)) h) : J mX10_fewest d 0 0 Q 0 0 56 [u0, u1, u2, u3] [.inl vs0] h := by
  exact J_iret (ty := .int) (zat qX10_fewest 29 (by rfl)) rfl rfl (Nat.le_refl 0) (Nat.le_refl 0) k

theorem bX10_burnt_0 {d d' : Nat} {Q : Option MV → MH → Prop} {h : MH} {u2 u3 : Option MV} {v1 : Int32} (hr : zRf h) (hd : d' + 1 ≤ d) (k : Con mX10_isSet d' 0 0 [.inr (.inr 1), .inl v1, .inl (nI 4)] h (zri fun (x : Int32) h' => J mX10_burnt d 0 0 Q 0 0 6 [some (.inr (.inr 1)), some (.inl v1), u2, u3] [.inl x] h')) : J mX10_burnt d 0 0 Q 0 0 0 [some (.inr (.inr 1)), some (.inl v1), u2, u3] [] h := by
  refine zrun 0 3 qX10_burnt (o := 10) rfl ?_
  show J mX10_burnt d 0 0 Q 0 0 3 [some (.inr (.inr 1)), some (.inl v1), u2, u3] [.inl (nI 4), .inl v1, .inr (.inr 1)] h
  exact zcVi (as := [.inl v1, .inl (nI 4)]) (zat qX10_burnt 3 (by rfl)) l10_280 rfl hd rfl (Nat.le_of_ble_eq_true rfl) zle0 (ci := 10) (by decide) rfl (zo hr (by decide) rfl) k

theorem bX10_burnt_6 {d : Nat} {Q : Option MV → MH → Prop} {h : MH} {u0 u1 u2 u3 : Option MV} {vs0 : Int32} (k1 : vs0 = 0 → J mX10_burnt d 0 0 Q 0 0 14 [u0, u1, u2, u3] [] h) (k2 : ¬ vs0 = 0 → J mX10_burnt d 0 0 Q 0 0 9 [u0, u1, u2, u3] [] h) : J mX10_burnt d 0 0 Q 0 0 6 [u0, u1, u2, u3] [.inl vs0] h := by
  refine zrun 4 1 qX10_burnt (o := 10) rfl ?_
  show ((vs0 = 0 → J mX10_burnt d 0 0 Q 0 0 14 [u0, u1, u2, u3] [] h) ∧ (¬ vs0 = 0 → J mX10_burnt d 0 0 Q 0 0 9 [u0, u1, u2, u3] [] h))
  exact ⟨k1, k2⟩

theorem bX10_burnt_9 {d : Nat} {Q : Option MV → MH → Prop} {h : MH} {u0 u1 u2 : Option MV} {v3 : Int32} (k1 : (nI 1) ≤ v3 → J mX10_burnt d 0 0 Q 0 0 17 [u0, u1, u2, some (.inl v3)] [] h) (k2 : ¬ (nI 1) ≤ v3 → J mX10_burnt d 0 0 Q 0 0 14 [u0, u1, u2, some (.inl v3)] [] h) : J mX10_burnt d 0 0 Q 0 0 9 [u0, u1, u2, some (.inl v3)] [] h := by
  refine zrun 5 3 qX10_burnt (o := 10) rfl ?_
  show (((nI 1) ≤ v3 → J mX10_burnt d 0 0 Q 0 0 17 [u0, u1, u2, some (.inl v3)] [] h) ∧ (¬ (nI 1) ≤ v3 → J mX10_burnt d 0 0 Q 0 0 14 [u0, u1, u2, some (.inl v3)] [] h))
  exact ⟨k1, k2⟩

theorem bX10_burnt_14 {d : Nat} {Q : Option MV → MH → Prop} {h : MH} {u0 u1 u2 u3 : Option MV} (k : Q (some (.inl (-(nI 3)))) h) : J mX10_burnt d 0 0 Q 0 0 14 [u0, u1, u2, u3] [] h := by
  refine zrun 8 1 qX10_burnt (o := 10) rfl ?_
  show J mX10_burnt d 0 0 Q 0 0 16 [u0, u1, u2, u3] [.inl (-(nI 3))] h
  exact J_iret (ty := .int) (zat qX10_burnt 9 (by rfl)) rfl rfl (Nat.le_refl 0) (Nat.le_refl 0) k

theorem bX10_burnt_17 {d d' : Nat} {Q : Option MV → MH → Prop} {h : MH} {u3 : Option MV} {v1 v2 : Int32} (hr : zRf h) (hd : d' + 1 ≤ d) (k : Con mX9_lay d' 0 0 [.inr (.inr 62), .inr (.inr 16), .inl v1, .inl v2] h (zrv fun h' => J mX10_burnt d 0 0 Q 0 0 33 [some (.inr (.inr 1)), some (.inl v1), some (.inl v2), u3] [] h')) : J mX10_burnt d 0 0 Q 0 0 17 [some (.inr (.inr 1)), some (.inl v1), some (.inl v2), u3] [] h := by
  refine zrun 10 7 qX10_burnt (o := 10) rfl ?_
  show zokO h 1 10 ∧ zokO h 1 10 ∧ zokO h (h.2.2.1 1 4) 1 ∧ J mX10_burnt d 0 0 Q 0 0 30 [some (.inr (.inr 1)), some (.inl v1), some (.inl v2), u3] [.inl v2, .inl v1, .inr (.inr (h.2.2.1 (h.2.2.1 1 4) 0)), .inr (.inr (h.2.2.1 1 10))] h
  rw [(show h.2.2.1 1 10 = 62 from (hr.at (by decide) (by decide) (by rfl))), (show h.2.2.1 1 4 = 15 from (hr.at (by decide) (by decide) (by rfl))), (show h.2.2.1 15 0 = 16 from (hr.at (by decide) (by decide) (by rfl)))]
  exact ⟨(zo hr (by decide) rfl), (zo hr (by decide) rfl), (zo hr (by decide) rfl), zcVv (as := [.inr (.inr 16), .inl v1, .inl v2]) (zat qX10_burnt 17 (by rfl)) l10_293 rfl hd rfl (Nat.le_of_ble_eq_true rfl) zle0 (ci := 9) (by decide) rfl (zo hr (by decide) rfl) k⟩

theorem bX10_burnt_33 {d d' : Nat} {Q : Option MV → MH → Prop} {h : MH} {u1 u2 : Option MV} {v3 : Int32} (hr : zRf h) (hd : d' + 1 ≤ d) (k : Con mX9_seek d' 0 0 [.inr (.inr 62), .inl (nI 3), .inl v3] h (zri fun (x : Int32) h' => J mX10_burnt d 0 0 Q 0 0 42 [some (.inr (.inr 1)), u1, u2, some (.inl v3)] [.inl x] h')) : J mX10_burnt d 0 0 Q 0 0 33 [some (.inr (.inr 1)), u1, u2, some (.inl v3)] [] h := by
  refine zrun 18 4 qX10_burnt (o := 10) rfl ?_
  show zokO h 1 10 ∧ J mX10_burnt d 0 0 Q 0 0 39 [some (.inr (.inr 1)), u1, u2, some (.inl v3)] [.inl v3, .inl (nI 3), .inr (.inr (h.2.2.1 1 10))] h
  rw [(show h.2.2.1 1 10 = 62 from (hr.at (by decide) (by decide) (by rfl)))]
  exact ⟨(zo hr (by decide) rfl), zcVi (as := [.inl (nI 3), .inl v3]) (zat qX10_burnt 22 (by rfl)) l10_296 rfl hd rfl (Nat.le_of_ble_eq_true rfl) zle0 (ci := 9) (by decide) rfl (zo hr (by decide) rfl) k⟩

theorem bX10_burnt_42 {d : Nat} {Q : Option MV → MH → Prop} {h : MH} {u0 u1 u2 u3 : Option MV} {vs0 : Int32} (k1 : vs0 = 0 → J mX10_burnt d 0 0 Q 0 0 55 [u0, u1, u2, u3] [] h) (k2 : ¬ vs0 = 0 → J mX10_burnt d 0 0 Q 0 0 45 [u0, u1, u2, u3] [] h) : J mX10_burnt d 0 0 Q 0 0 42 [u0, u1, u2, u3] [.inl vs0] h := by
  refine zrun 23 1 qX10_burnt (o := 10) rfl ?_
  show ((vs0 = 0 → J mX10_burnt d 0 0 Q 0 0 55 [u0, u1, u2, u3] [] h) ∧ (¬ vs0 = 0 → J mX10_burnt d 0 0 Q 0 0 45 [u0, u1, u2, u3] [] h))
  exact ⟨k1, k2⟩

theorem bX10_burnt_45 {d : Nat} {Q : Option MV → MH → Prop} {h : MH} {u1 u2 u3 : Option MV} (hr : zRf h) (k : J mX10_burnt d 0 0 Q 0 0 56 [some (.inr (.inr 1)), u1, u2, u3] [.inl (h.1 62 8)] h) : J mX10_burnt d 0 0 Q 0 0 45 [some (.inr (.inr 1)), u1, u2, u3] [] h := by
  refine zrun 24 4 qX10_burnt (o := 10) rfl ?_
  show zokO h 1 10 ∧ zokO h (h.2.2.1 1 10) 9 ∧ J mX10_burnt d 0 0 Q 0 0 56 [some (.inr (.inr 1)), u1, u2, u3] [.inl (h.1 (h.2.2.1 1 10) 8)] h
  rw [(show h.2.2.1 1 10 = 62 from (hr.at (by decide) (by decide) (by rfl)))]
  exact ⟨(zo hr (by decide) rfl), (zo hr (by decide) rfl), k⟩

theorem bX10_burnt_55 {d : Nat} {Q : Option MV → MH → Prop} {h : MH} {u0 u1 u2 u3 : Option MV} (k : J mX10_burnt d 0 0 Q 0 0 56 [u0, u1, u2, u3] [.inl (-(nI 1))] h) : J mX10_burnt d 0 0 Q 0 0 55 [u0, u1, u2, u3] [] h := by
  refine zrun 28 1 qX10_burnt (o := 10) rfl ?_
  show J mX10_burnt d 0 0 Q 0 0 56 [u0, u1, u2, u3] [.inl (-(nI 1))] h
  exact k

theorem bX10_burnt_56 {d : Nat} {Q : Option MV → MH → Prop} {h : MH} {u0 u1 u2 u3 : Option MV} {vs0 : Int32} (k : Q (some (.inl vs0)) h) : J mX10_burnt d 0 0 Q 0 0 56 [u0, u1, u2, u3] [.inl vs0] h := by
  exact J_iret (ty := .int) (zat qX10_burnt 29 (by rfl)) rfl rfl (Nat.le_refl 0) (Nat.le_refl 0) k

theorem bX10_given_0 {d d' : Nat} {Q : Option MV → MH → Prop} {h : MH} {u2 u3 u4 : Option MV} {v1 : Int32} (hr : zRf h) (hd : d' + 1 ≤ d) (k : Con mX10_isSet d' 0 0 [.inr (.inr 1), .inl v1, .inl (nI 4)] h (zri fun (x : Int32) h' => J mX10_given d 0 0 Q 0 0 6 [some (.inr (.inr 1)), some (.inl v1), u2, u3, u4] [.inl x] h')) : J mX10_given d 0 0 Q 0 0 0 [some (.inr (.inr 1)), some (.inl v1), u2, u3, u4] [] h := by
  refine zrun 0 3 qX10_given (o := 10) rfl ?_
  show J mX10_given d 0 0 Q 0 0 3 [some (.inr (.inr 1)), some (.inl v1), u2, u3, u4] [.inl (nI 4), .inl v1, .inr (.inr 1)] h
  exact zcVi (as := [.inl v1, .inl (nI 4)]) (zat qX10_given 3 (by rfl)) l10_280 rfl hd rfl (Nat.le_of_ble_eq_true rfl) zle0 (ci := 10) (by decide) rfl (zo hr (by decide) rfl) k

theorem bX10_given_6 {d : Nat} {Q : Option MV → MH → Prop} {h : MH} {u0 u1 u2 u3 u4 : Option MV} {vs0 : Int32} (k1 : vs0 = 0 → J mX10_given d 0 0 Q 0 0 14 [u0, u1, u2, u3, u4] [] h) (k2 : ¬ vs0 = 0 → J mX10_given d 0 0 Q 0 0 9 [u0, u1, u2, u3, u4] [] h) : J mX10_given d 0 0 Q 0 0 6 [u0, u1, u2, u3, u4] [.inl vs0] h := by
  refine zrun 4 1 qX10_given (o := 10) rfl ?_
  show ((vs0 = 0 → J mX10_given d 0 0 Q 0 0 14 [u0, u1, u2, u3, u4] [] h) ∧ (¬ vs0 = 0 → J mX10_given d 0 0 Q 0 0 9 [u0, u1, u2, u3, u4] [] h))
  exact ⟨k1, k2⟩

theorem bX10_given_9 {d : Nat} {Q : Option MV → MH → Prop} {h : MH} {u0 u1 u2 u4 : Option MV} {v3 : Int32} (k1 : (nI 1) ≤ v3 → J mX10_given d 0 0 Q 0 0 17 [u0, u1, u2, some (.inl v3), u4] [] h) (k2 : ¬ (nI 1) ≤ v3 → J mX10_given d 0 0 Q 0 0 14 [u0, u1, u2, some (.inl v3), u4] [] h) : J mX10_given d 0 0 Q 0 0 9 [u0, u1, u2, some (.inl v3), u4] [] h := by
  refine zrun 5 3 qX10_given (o := 10) rfl ?_
  show (((nI 1) ≤ v3 → J mX10_given d 0 0 Q 0 0 17 [u0, u1, u2, some (.inl v3), u4] [] h) ∧ (¬ (nI 1) ≤ v3 → J mX10_given d 0 0 Q 0 0 14 [u0, u1, u2, some (.inl v3), u4] [] h))
  exact ⟨k1, k2⟩

theorem bX10_given_14 {d : Nat} {Q : Option MV → MH → Prop} {h : MH} {u0 u1 u2 u3 u4 : Option MV} (k : Q (some (.inl (-(nI 3)))) h) : J mX10_given d 0 0 Q 0 0 14 [u0, u1, u2, u3, u4] [] h := by
  refine zrun 8 1 qX10_given (o := 10) rfl ?_
  show J mX10_given d 0 0 Q 0 0 16 [u0, u1, u2, u3, u4] [.inl (-(nI 3))] h
  exact J_iret (ty := .int) (zat qX10_given 9 (by rfl)) rfl rfl (Nat.le_refl 0) (Nat.le_refl 0) k

theorem bX10_given_17 {d d' : Nat} {Q : Option MV → MH → Prop} {h : MH} {u3 u4 : Option MV} {v1 v2 : Int32} (hr : zRf h) (hd : d' + 1 ≤ d) (k : Con mX9_lay d' 0 0 [.inr (.inr 62), .inr (.inr 16), .inl v1, .inl v2] h (zrv fun h' => J mX10_given d 0 0 Q 0 0 33 [some (.inr (.inr 1)), some (.inl v1), some (.inl v2), u3, u4] [] h')) : J mX10_given d 0 0 Q 0 0 17 [some (.inr (.inr 1)), some (.inl v1), some (.inl v2), u3, u4] [] h := by
  refine zrun 10 7 qX10_given (o := 10) rfl ?_
  show zokO h 1 10 ∧ zokO h 1 10 ∧ zokO h (h.2.2.1 1 4) 1 ∧ J mX10_given d 0 0 Q 0 0 30 [some (.inr (.inr 1)), some (.inl v1), some (.inl v2), u3, u4] [.inl v2, .inl v1, .inr (.inr (h.2.2.1 (h.2.2.1 1 4) 0)), .inr (.inr (h.2.2.1 1 10))] h
  rw [(show h.2.2.1 1 10 = 62 from (hr.at (by decide) (by decide) (by rfl))), (show h.2.2.1 1 4 = 15 from (hr.at (by decide) (by decide) (by rfl))), (show h.2.2.1 15 0 = 16 from (hr.at (by decide) (by decide) (by rfl)))]
  exact ⟨(zo hr (by decide) rfl), (zo hr (by decide) rfl), (zo hr (by decide) rfl), zcVv (as := [.inr (.inr 16), .inl v1, .inl v2]) (zat qX10_given 17 (by rfl)) l10_293 rfl hd rfl (Nat.le_of_ble_eq_true rfl) zle0 (ci := 9) (by decide) rfl (zo hr (by decide) rfl) k⟩

theorem bX10_given_33 {d d' : Nat} {Q : Option MV → MH → Prop} {h : MH} {u1 u2 u4 : Option MV} {v3 : Int32} (hr : zRf h) (hd : d' + 1 ≤ d) (k : Con mX9_seek d' 0 0 [.inr (.inr 62), .inl (nI 1), .inl v3] h (zri fun (x : Int32) h' => J mX10_given d 0 0 Q 0 0 42 [some (.inr (.inr 1)), u1, u2, some (.inl v3), u4] [.inl x] h')) : J mX10_given d 0 0 Q 0 0 33 [some (.inr (.inr 1)), u1, u2, some (.inl v3), u4] [] h := by
  refine zrun 18 4 qX10_given (o := 10) rfl ?_
  show zokO h 1 10 ∧ J mX10_given d 0 0 Q 0 0 39 [some (.inr (.inr 1)), u1, u2, some (.inl v3), u4] [.inl v3, .inl (nI 1), .inr (.inr (h.2.2.1 1 10))] h
  rw [(show h.2.2.1 1 10 = 62 from (hr.at (by decide) (by decide) (by rfl)))]
  exact ⟨(zo hr (by decide) rfl), zcVi (as := [.inl (nI 1), .inl v3]) (zat qX10_given 22 (by rfl)) l10_296 rfl hd rfl (Nat.le_of_ble_eq_true rfl) zle0 (ci := 9) (by decide) rfl (zo hr (by decide) rfl) k⟩

theorem bX10_given_42 {d : Nat} {Q : Option MV → MH → Prop} {h : MH} {u0 u1 u2 u3 u4 : Option MV} {vs0 : Int32} (k1 : ¬ vs0 = 0 → J mX10_given d 0 0 Q 0 0 47 [u0, u1, u2, u3, u4] [] h) (k2 : vs0 = 0 → J mX10_given d 0 0 Q 0 0 45 [u0, u1, u2, u3, u4] [] h) : J mX10_given d 0 0 Q 0 0 42 [u0, u1, u2, u3, u4] [.inl vs0] h := by
  refine zrun 23 1 qX10_given (o := 10) rfl ?_
  show ((¬ vs0 = 0 → J mX10_given d 0 0 Q 0 0 47 [u0, u1, u2, u3, u4] [] h) ∧ (vs0 = 0 → J mX10_given d 0 0 Q 0 0 45 [u0, u1, u2, u3, u4] [] h))
  exact ⟨k1, k2⟩

theorem bX10_given_45 {d : Nat} {Q : Option MV → MH → Prop} {h : MH} {u0 u1 u2 u3 u4 : Option MV} (k : Q (some (.inl (-(nI 1)))) h) : J mX10_given d 0 0 Q 0 0 45 [u0, u1, u2, u3, u4] [] h := by
  refine zrun 24 1 qX10_given (o := 10) rfl ?_
  show J mX10_given d 0 0 Q 0 0 46 [u0, u1, u2, u3, u4] [.inl (-(nI 1))] h
  exact J_iret (ty := .int) (zat qX10_given 25 (by rfl)) rfl rfl (Nat.le_refl 0) (Nat.le_refl 0) k

theorem bX10_given_47 {d : Nat} {Q : Option MV → MH → Prop} {h : MH} {u0 u1 u2 u3 : Option MV} {v4 : Int32} (k1 : ¬ v4 = (-(nI 1)) → J mX10_given d 0 0 Q 0 0 63 [u0, u1, u2, u3, some (.inl v4)] [] h) (k2 : v4 = (-(nI 1)) → J mX10_given d 0 0 Q 0 0 53 [u0, u1, u2, u3, some (.inl v4)] [] h) : J mX10_given d 0 0 Q 0 0 47 [u0, u1, u2, u3, some (.inl v4)] [] h := by
  refine zrun 26 3 qX10_given (o := 10) rfl ?_
  show ((¬ v4 = (-(nI 1)) → J mX10_given d 0 0 Q 0 0 63 [u0, u1, u2, u3, some (.inl v4)] [] h) ∧ (v4 = (-(nI 1)) → J mX10_given d 0 0 Q 0 0 53 [u0, u1, u2, u3, some (.inl v4)] [] h))
  exact ⟨k1, k2⟩

theorem bX10_given_53 {d : Nat} {Q : Option MV → MH → Prop} {h : MH} {u1 u2 u3 u4 : Option MV} (hr : zRf h) (k : J mX10_given d 0 0 Q 0 0 72 [some (.inr (.inr 1)), u1, u2, u3, u4] [.inl (h.1 62 9)] h) : J mX10_given d 0 0 Q 0 0 53 [some (.inr (.inr 1)), u1, u2, u3, u4] [] h := by
  refine zrun 29 4 qX10_given (o := 10) rfl ?_
  show zokO h 1 10 ∧ zokO h (h.2.2.1 1 10) 9 ∧ J mX10_given d 0 0 Q 0 0 72 [some (.inr (.inr 1)), u1, u2, u3, u4] [.inl (h.1 (h.2.2.1 1 10) 9)] h
  rw [(show h.2.2.1 1 10 = 62 from (hr.at (by decide) (by decide) (by rfl)))]
  exact ⟨(zo hr (by decide) rfl), (zo hr (by decide) rfl), k⟩

theorem bX10_given_63 {d d' : Nat} {Q : Option MV → MH → Prop} {h : MH} {u1 u2 u3 : Option MV} {v4 : Int32} (hr : zRf h) (hd : d' + 1 ≤ d) (k : Con mX9_digits d' 0 0 [.inr (.inr 62), .inl v4] h (zri fun (x : Int32) h' => J mX10_given d 0 0 Q 0 0 72 [some (.inr (.inr 1)), u1, u2, u3, some (.inl v4)] [.inl x] h')) : J mX10_given d 0 0 Q 0 0 63 [some (.inr (.inr 1)), u1, u2, u3, some (.inl v4)] [] h := by
  refine zrun 33 3 qX10_given (o := 10) rfl ?_
  show zokO h 1 10 ∧ J mX10_given d 0 0 Q 0 0 69 [some (.inr (.inr 1)), u1, u2, u3, some (.inl v4)] [.inl v4, .inr (.inr (h.2.2.1 1 10))] h
  rw [(show h.2.2.1 1 10 = 62 from (hr.at (by decide) (by decide) (by rfl)))]
  exact ⟨(zo hr (by decide) rfl), zcVi (as := [.inl v4]) (zat qX10_given 36 (by rfl)) l10_326 rfl hd rfl (Nat.le_of_ble_eq_true rfl) zle0 (ci := 9) (by decide) rfl (zo hr (by decide) rfl) k⟩

theorem bX10_given_72 {d : Nat} {Q : Option MV → MH → Prop} {h : MH} {u0 u1 u2 u3 u4 : Option MV} {vs0 : Int32} (k : Q (some (.inl vs0)) h) : J mX10_given d 0 0 Q 0 0 72 [u0, u1, u2, u3, u4] [.inl vs0] h := by
  exact J_iret (ty := .int) (zat qX10_given 37 (by rfl)) rfl rfl (Nat.le_refl 0) (Nat.le_refl 0) k

theorem bX10_lacks_0 {d d' : Nat} {Q : Option MV → MH → Prop} {h : MH} {u2 u3 u4 u5 u6 u7 u8 : Option MV} {v1 : Int32} (hr : zRf h) (hd : d' + 1 ≤ d) (k : Con mX10_isSet d' 0 0 [.inr (.inr 1), .inl v1, .inl (nI 4)] h (zri fun (x : Int32) h' => J mX10_lacks d 0 0 Q 0 0 6 [some (.inr (.inr 1)), some (.inl v1), u2, u3, u4, u5, u6, u7, u8] [.inl x] h')) : J mX10_lacks d 0 0 Q 0 0 0 [some (.inr (.inr 1)), some (.inl v1), u2, u3, u4, u5, u6, u7, u8] [] h := by
  refine zrun 0 3 qX10_lacks (o := 10) rfl ?_
  show J mX10_lacks d 0 0 Q 0 0 3 [some (.inr (.inr 1)), some (.inl v1), u2, u3, u4, u5, u6, u7, u8] [.inl (nI 4), .inl v1, .inr (.inr 1)] h
  exact zcVi (as := [.inl v1, .inl (nI 4)]) (zat qX10_lacks 3 (by rfl)) l10_280 rfl hd rfl (Nat.le_of_ble_eq_true rfl) zle0 (ci := 10) (by decide) rfl (zo hr (by decide) rfl) k

theorem bX10_lacks_6 {d : Nat} {Q : Option MV → MH → Prop} {h : MH} {u0 u1 u2 u3 u4 u5 u6 u7 u8 : Option MV} {vs0 : Int32} (k1 : vs0 = 0 → J mX10_lacks d 0 0 Q 0 0 15 [u0, u1, u2, u3, u4, u5, u6, u7, u8] [] h) (k2 : ¬ vs0 = 0 → J mX10_lacks d 0 0 Q 0 0 9 [u0, u1, u2, u3, u4, u5, u6, u7, u8] [] h) : J mX10_lacks d 0 0 Q 0 0 6 [u0, u1, u2, u3, u4, u5, u6, u7, u8] [.inl vs0] h := by
  refine zrun 4 1 qX10_lacks (o := 10) rfl ?_
  show ((vs0 = 0 → J mX10_lacks d 0 0 Q 0 0 15 [u0, u1, u2, u3, u4, u5, u6, u7, u8] [] h) ∧ (¬ vs0 = 0 → J mX10_lacks d 0 0 Q 0 0 9 [u0, u1, u2, u3, u4, u5, u6, u7, u8] [] h))
  exact ⟨k1, k2⟩

theorem bX10_lacks_9 {d : Nat} {Q : Option MV → MH → Prop} {h : MH} {u0 u1 u2 u4 u5 u6 u7 u8 : Option MV} {v3 : Int32} (k1 : (nI 64) ≤ v3 → J mX10_lacks d 0 0 Q 0 0 18 [u0, u1, u2, some (.inl v3), u4, u5, u6, u7, u8] [] h) (k2 : ¬ (nI 64) ≤ v3 → J mX10_lacks d 0 0 Q 0 0 15 [u0, u1, u2, some (.inl v3), u4, u5, u6, u7, u8] [] h) : J mX10_lacks d 0 0 Q 0 0 9 [u0, u1, u2, some (.inl v3), u4, u5, u6, u7, u8] [] h := by
  refine zrun 5 3 qX10_lacks (o := 10) rfl ?_
  show (((nI 64) ≤ v3 → J mX10_lacks d 0 0 Q 0 0 18 [u0, u1, u2, some (.inl v3), u4, u5, u6, u7, u8] [] h) ∧ (¬ (nI 64) ≤ v3 → J mX10_lacks d 0 0 Q 0 0 15 [u0, u1, u2, some (.inl v3), u4, u5, u6, u7, u8] [] h))
  exact ⟨k1, k2⟩

theorem bX10_lacks_15 {d : Nat} {Q : Option MV → MH → Prop} {h : MH} {u0 u1 u2 u3 u4 u5 u6 u7 u8 : Option MV} (k : Q (some (.inl (-(nI 3)))) h) : J mX10_lacks d 0 0 Q 0 0 15 [u0, u1, u2, u3, u4, u5, u6, u7, u8] [] h := by
  refine zrun 8 1 qX10_lacks (o := 10) rfl ?_
  show J mX10_lacks d 0 0 Q 0 0 17 [u0, u1, u2, u3, u4, u5, u6, u7, u8] [.inl (-(nI 3))] h
  exact J_iret (ty := .int) (zat qX10_lacks 9 (by rfl)) rfl rfl (Nat.le_refl 0) (Nat.le_refl 0) k

theorem bX10_lacks_18 {d d' : Nat} {Q : Option MV → MH → Prop} {h : MH} {u3 u4 u5 u6 u7 u8 : Option MV} {v1 v2 : Int32} (hr : zRf h) (hd : d' + 1 ≤ d) (k : Con mX10_allTold d' 0 0 [.inr (.inr 1), .inl v1, .inl v2] h (zrr fun (x : Nat) h' => J mX10_lacks d 0 0 Q 0 0 24 [some (.inr (.inr 1)), some (.inl v1), some (.inl v2), u3, u4, u5, u6, u7, u8] [.inr (.inr x)] h')) : J mX10_lacks d 0 0 Q 0 0 18 [some (.inr (.inr 1)), some (.inl v1), some (.inl v2), u3, u4, u5, u6, u7, u8] [] h := by
  refine zrun 10 3 qX10_lacks (o := 10) rfl ?_
  show J mX10_lacks d 0 0 Q 0 0 21 [some (.inr (.inr 1)), some (.inl v1), some (.inl v2), u3, u4, u5, u6, u7, u8] [.inl v2, .inl v1, .inr (.inr 1)] h
  exact zcVr (as := [.inl v1, .inl v2]) (zat qX10_lacks 13 (by rfl)) l10_306 rfl hd rfl (Nat.le_of_ble_eq_true rfl) zle0 (ci := 10) (by decide) rfl (zo hr (by decide) rfl) k

theorem bX10_lacks_24 {d d' : Nat} {Q : Option MV → MH → Prop} {h : MH} {u2 u3 u5 u6 u7 u8 : Option MV} {v4 v1 : Int32} {vs0 : Nat} (hr : zRf h) (hd : d' + 1 ≤ d) (k : Con mX2_sparksOfSet d' 0 0 [.inr (.inr 16), .inl v1] h (zri fun (x : Int32) h' => J mX10_lacks d 0 0 Q 0 0 37 [some (.inr (.inr 1)), some (.inl v1), u2, u3, some (.inl v4), some (.inr (.inr vs0)), u6, u7, u8] [.inl x] h')) : J mX10_lacks d 0 0 Q 0 0 24 [some (.inr (.inr 1)), some (.inl v1), u2, u3, some (.inl v4), u5, u6, u7, u8] [.inr (.inr vs0)] h := by
  refine zrun 14 5 qX10_lacks (o := 10) rfl ?_
  show zokO h 1 10 ∧ zokO h (h.2.2.1 1 4) 1 ∧ J mX10_lacks d 0 0 Q 0 0 34 [some (.inr (.inr 1)), some (.inl v1), u2, u3, some (.inl v4), some (.inr (.inr vs0)), u6, u7, u8] [.inl v1, .inr (.inr (h.2.2.1 (h.2.2.1 1 4) 0))] h
  rw [(show h.2.2.1 1 4 = 15 from (hr.at (by decide) (by decide) (by rfl))), (show h.2.2.1 15 0 = 16 from (hr.at (by decide) (by decide) (by rfl)))]
  exact ⟨(zo hr (by decide) rfl), (zo hr (by decide) rfl), zcVi (as := [.inl v1]) (zat qX10_lacks 19 (by rfl)) l10_329 rfl hd rfl (Nat.le_of_ble_eq_true rfl) zle0 (ci := 2) (by decide) rfl (zo hr (by decide) rfl) k⟩

theorem bX10_lacks_37 {d : Nat} {Q : Option MV → MH → Prop} {h : MH} {u0 u1 u2 u3 u4 u6 u7 u8 : Option MV} {vs0 : Int32} {v5 : Nat} (k : J mX10_lacks d 0 0 Q 0 0 45 [u0, u1, u2, u3, u4, some (.inr (.inr v5)), some (.inl vs0), some (.inl (nI 0)), some (.inl (nI 1))] [] h) : J mX10_lacks d 0 0 Q 0 0 37 [u0, u1, u2, u3, u4, some (.inr (.inr v5)), u6, u7, u8] [.inl vs0] h := by
  refine zrun 20 5 qX10_lacks (o := 10) rfl ?_
  show J mX10_lacks d 0 0 Q 0 0 45 [u0, u1, u2, u3, u4, some (.inr (.inr v5)), some (.inl vs0), some (.inl (nI 0)), some (.inl (nI 1))] [] h
  exact k

theorem bX10_lacks_45 {d : Nat} {Q : Option MV → MH → Prop} {h : MH} {u0 u1 u2 u4 u5 u7 : Option MV} {v8 v6 v3 : Int32} (g0 : ¬ v3 = 0) (k1 : (v6 / v3) < v8 → J mX10_lacks d 0 0 Q 0 0 87 [u0, u1, u2, some (.inl v3), u4, u5, some (.inl v6), u7, some (.inl v8)] [] h) (k2 : ¬ (v6 / v3) < v8 → J mX10_lacks d 0 0 Q 0 0 54 [u0, u1, u2, some (.inl v3), u4, u5, some (.inl v6), u7, some (.inl v8)] [] h) : J mX10_lacks d 0 0 Q 0 0 45 [u0, u1, u2, some (.inl v3), u4, u5, some (.inl v6), u7, some (.inl v8)] [] h := by
  refine zrun 25 5 qX10_lacks (o := 10) rfl ?_
  show ¬ v3 = 0 ∧ (((v6 / v3) < v8 → J mX10_lacks d 0 0 Q 0 0 87 [u0, u1, u2, some (.inl v3), u4, u5, some (.inl v6), u7, some (.inl v8)] [] h) ∧ (¬ (v6 / v3) < v8 → J mX10_lacks d 0 0 Q 0 0 54 [u0, u1, u2, some (.inl v3), u4, u5, some (.inl v6), u7, some (.inl v8)] [] h))
  exact ⟨g0, k1, k2⟩

theorem bX10_lacks_54 {d d' : Nat} {Q : Option MV → MH → Prop} {h : MH} {u0 u1 u2 u4 u6 u7 : Option MV} {v8 v3 : Int32} {v5 : Nat} (gr : zokO h v5 3) (hd : d' + 1 ≤ d) (k : Con mX3_has d' 0 0 [.inr (.inr v5), .inl (v8 * v3)] h (zri fun (x : Int32) h' => J mX10_lacks d 0 0 Q 0 0 63 [u0, u1, u2, some (.inl v3), u4, some (.inr (.inr v5)), u6, u7, some (.inl v8)] [.inl x] h')) : J mX10_lacks d 0 0 Q 0 0 54 [u0, u1, u2, some (.inl v3), u4, some (.inr (.inr v5)), u6, u7, some (.inl v8)] [] h := by
  refine zrun 30 4 qX10_lacks (o := 10) rfl ?_
  show J mX10_lacks d 0 0 Q 0 0 60 [u0, u1, u2, some (.inl v3), u4, some (.inr (.inr v5)), u6, u7, some (.inl v8)] [.inl (v8 * v3), .inr (.inr v5)] h
  exact zcVi (as := [.inl (v8 * v3)]) (zat qX10_lacks 34 (by rfl)) l10_292 rfl hd rfl (Nat.le_of_ble_eq_true rfl) zle0 (ci := 3) (by decide) rfl gr k

theorem bX10_lacks_63 {d : Nat} {Q : Option MV → MH → Prop} {h : MH} {u0 u1 u2 u3 u4 u5 u6 u7 u8 : Option MV} {vs0 : Int32} (k1 : ¬ vs0 = 0 → J mX10_lacks d 0 0 Q 0 0 81 [u0, u1, u2, u3, u4, u5, u6, u7, u8] [] h) (k2 : vs0 = 0 → J mX10_lacks d 0 0 Q 0 0 66 [u0, u1, u2, u3, u4, u5, u6, u7, u8] [] h) : J mX10_lacks d 0 0 Q 0 0 63 [u0, u1, u2, u3, u4, u5, u6, u7, u8] [.inl vs0] h := by
  refine zrun 35 1 qX10_lacks (o := 10) rfl ?_
  show ((¬ vs0 = 0 → J mX10_lacks d 0 0 Q 0 0 81 [u0, u1, u2, u3, u4, u5, u6, u7, u8] [] h) ∧ (vs0 = 0 → J mX10_lacks d 0 0 Q 0 0 66 [u0, u1, u2, u3, u4, u5, u6, u7, u8] [] h))
  exact ⟨k1, k2⟩

theorem bX10_lacks_66 {d : Nat} {Q : Option MV → MH → Prop} {h : MH} {u0 u1 u2 u3 u5 u6 u8 : Option MV} {v7 v4 : Int32} (k1 : ¬ v7 = v4 → J mX10_lacks d 0 0 Q 0 0 78 [u0, u1, u2, u3, some (.inl v4), u5, u6, some (.inl v7), u8] [] h) (k2 : v7 = v4 → J mX10_lacks d 0 0 Q 0 0 73 [u0, u1, u2, u3, some (.inl v4), u5, u6, some (.inl v7), u8] [] h) : J mX10_lacks d 0 0 Q 0 0 66 [u0, u1, u2, u3, some (.inl v4), u5, u6, some (.inl v7), u8] [] h := by
  refine zrun 36 3 qX10_lacks (o := 10) rfl ?_
  show ((¬ v7 = v4 → J mX10_lacks d 0 0 Q 0 0 78 [u0, u1, u2, u3, some (.inl v4), u5, u6, some (.inl v7), u8] [] h) ∧ (v7 = v4 → J mX10_lacks d 0 0 Q 0 0 73 [u0, u1, u2, u3, some (.inl v4), u5, u6, some (.inl v7), u8] [] h))
  exact ⟨k1, k2⟩

theorem bX10_lacks_73 {d : Nat} {Q : Option MV → MH → Prop} {h : MH} {u0 u1 u2 u4 u5 u6 u7 : Option MV} {v8 v3 : Int32} (k : Q (some (.inl (v8 * v3))) h) : J mX10_lacks d 0 0 Q 0 0 73 [u0, u1, u2, some (.inl v3), u4, u5, u6, u7, some (.inl v8)] [] h := by
  refine zrun 39 3 qX10_lacks (o := 10) rfl ?_
  show J mX10_lacks d 0 0 Q 0 0 77 [u0, u1, u2, some (.inl v3), u4, u5, u6, u7, some (.inl v8)] [.inl (v8 * v3)] h
  exact J_iret (ty := .int) (zat qX10_lacks 42 (by rfl)) rfl rfl (Nat.le_refl 0) (Nat.le_refl 0) k

theorem bX10_lacks_78 {d : Nat} {Q : Option MV → MH → Prop} {h : MH} {u0 u1 u2 u3 u4 u5 u8 : Option MV} {v7 v6 : Int32} (k : J mX10_lacks d 0 0 Q 0 0 81 [u0, u1, u2, u3, u4, u5, some (.inl v6), some (.inl (v7 + nI 1)), u8] [] h) : J mX10_lacks d 0 0 Q 0 0 78 [u0, u1, u2, u3, u4, u5, some (.inl v6), some (.inl v7), u8] [] h := by
  refine zrun 43 1 qX10_lacks (o := 10) rfl ?_
  show J mX10_lacks d 0 0 Q 0 0 81 [u0, u1, u2, u3, u4, u5, some (.inl v6), some (.inl (v7 + nI 1)), u8] [] h
  exact k

theorem bX10_lacks_81 {d : Nat} {Q : Option MV → MH → Prop} {h : MH} {u0 u1 u2 u3 u4 u5 u6 : Option MV} {v8 v7 : Int32} (k : J mX10_lacks d 0 0 Q 0 0 45 [u0, u1, u2, u3, u4, u5, u6, some (.inl v7), some (.inl (v8 + nI 1))] [] h) : J mX10_lacks d 0 0 Q 0 0 81 [u0, u1, u2, u3, u4, u5, u6, some (.inl v7), some (.inl v8)] [] h := by
  refine zrun 44 2 qX10_lacks (o := 10) rfl ?_
  show J mX10_lacks d 0 0 Q 0 0 45 [u0, u1, u2, u3, u4, u5, u6, some (.inl v7), some (.inl (v8 + nI 1))] [] h
  exact k

theorem bX10_lacks_87 {d : Nat} {Q : Option MV → MH → Prop} {h : MH} {u0 u1 u2 u3 u5 u6 u7 u8 : Option MV} {v4 : Int32} (k1 : ¬ v4 = (-(nI 1)) → J mX10_lacks d 0 0 Q 0 0 98 [u0, u1, u2, u3, some (.inl v4), u5, u6, u7, u8] [] h) (k2 : v4 = (-(nI 1)) → J mX10_lacks d 0 0 Q 0 0 93 [u0, u1, u2, u3, some (.inl v4), u5, u6, u7, u8] [] h) : J mX10_lacks d 0 0 Q 0 0 87 [u0, u1, u2, u3, some (.inl v4), u5, u6, u7, u8] [] h := by
  refine zrun 46 3 qX10_lacks (o := 10) rfl ?_
  show ((¬ v4 = (-(nI 1)) → J mX10_lacks d 0 0 Q 0 0 98 [u0, u1, u2, u3, some (.inl v4), u5, u6, u7, u8] [] h) ∧ (v4 = (-(nI 1)) → J mX10_lacks d 0 0 Q 0 0 93 [u0, u1, u2, u3, some (.inl v4), u5, u6, u7, u8] [] h))
  exact ⟨k1, k2⟩

theorem bX10_lacks_93 {d : Nat} {Q : Option MV → MH → Prop} {h : MH} {u0 u1 u2 u3 u4 u5 u6 u8 : Option MV} {v7 : Int32} (k : J mX10_lacks d 0 0 Q 0 0 99 [u0, u1, u2, u3, u4, u5, u6, some (.inl v7), u8] [.inl v7] h) : J mX10_lacks d 0 0 Q 0 0 93 [u0, u1, u2, u3, u4, u5, u6, some (.inl v7), u8] [] h := by
  refine zrun 49 2 qX10_lacks (o := 10) rfl ?_
  show J mX10_lacks d 0 0 Q 0 0 99 [u0, u1, u2, u3, u4, u5, u6, some (.inl v7), u8] [.inl v7] h
  exact k

theorem bX10_lacks_98 {d : Nat} {Q : Option MV → MH → Prop} {h : MH} {u0 u1 u2 u3 u4 u5 u6 u7 u8 : Option MV} (k : J mX10_lacks d 0 0 Q 0 0 99 [u0, u1, u2, u3, u4, u5, u6, u7, u8] [.inl (-(nI 1))] h) : J mX10_lacks d 0 0 Q 0 0 98 [u0, u1, u2, u3, u4, u5, u6, u7, u8] [] h := by
  refine zrun 51 1 qX10_lacks (o := 10) rfl ?_
  show J mX10_lacks d 0 0 Q 0 0 99 [u0, u1, u2, u3, u4, u5, u6, u7, u8] [.inl (-(nI 1))] h
  exact k

theorem bX10_lacks_99 {d : Nat} {Q : Option MV → MH → Prop} {h : MH} {u0 u1 u2 u3 u4 u5 u6 u7 u8 : Option MV} {vs0 : Int32} (k : Q (some (.inl vs0)) h) : J mX10_lacks d 0 0 Q 0 0 99 [u0, u1, u2, u3, u4, u5, u6, u7, u8] [.inl vs0] h := by
  exact J_iret (ty := .int) (zat qX10_lacks 52 (by rfl)) rfl rfl (Nat.le_refl 0) (Nat.le_refl 0) k

theorem bX10_together_0 {d d' : Nat} {Q : Option MV → MH → Prop} {h : MH} {u0 u1 u2 : Option MV} {v3 : Int32} (hd : d' + 1 ≤ d) (k : Con mX10_isRow d' 0 0 [.inl v3] h (zri fun (x : Int32) h' => J mX10_together d 0 0 Q 0 0 4 [u0, u1, u2, some (.inl v3)] [.inl x] h')) : J mX10_together d 0 0 Q 0 0 0 [u0, u1, u2, some (.inl v3)] [] h := by
  refine zrun 0 1 qX10_together (o := 10) rfl ?_
  show J mX10_together d 0 0 Q 0 0 1 [u0, u1, u2, some (.inl v3)] [.inl v3] h
  exact zcSi (as := [.inl v3]) (zat qX10_together 1 (by rfl)) l10_332 rfl hd rfl (Nat.le_of_ble_eq_true rfl) zle0 k

theorem bX10_together_4 {d : Nat} {Q : Option MV → MH → Prop} {h : MH} {u0 u1 u2 u3 : Option MV} {vs0 : Int32} (k1 : ¬ vs0 = 0 → J mX10_together d 0 0 Q 0 0 10 [u0, u1, u2, u3] [] h) (k2 : vs0 = 0 → J mX10_together d 0 0 Q 0 0 7 [u0, u1, u2, u3] [] h) : J mX10_together d 0 0 Q 0 0 4 [u0, u1, u2, u3] [.inl vs0] h := by
  refine zrun 2 1 qX10_together (o := 10) rfl ?_
  show ((¬ vs0 = 0 → J mX10_together d 0 0 Q 0 0 10 [u0, u1, u2, u3] [] h) ∧ (vs0 = 0 → J mX10_together d 0 0 Q 0 0 7 [u0, u1, u2, u3] [] h))
  exact ⟨k1, k2⟩

theorem bX10_together_7 {d : Nat} {Q : Option MV → MH → Prop} {h : MH} {u0 u1 u2 u3 : Option MV} (k : Q (some (.inl (-(nI 2)))) h) : J mX10_together d 0 0 Q 0 0 7 [u0, u1, u2, u3] [] h := by
  refine zrun 3 1 qX10_together (o := 10) rfl ?_
  show J mX10_together d 0 0 Q 0 0 9 [u0, u1, u2, u3] [.inl (-(nI 2))] h
  exact J_iret (ty := .int) (zat qX10_together 4 (by rfl)) rfl rfl (Nat.le_refl 0) (Nat.le_refl 0) k

theorem bX10_together_10 {d : Nat} {Q : Option MV → MH → Prop} {h : MH} {u1 u2 : Option MV} {v3 : Int32} (hr : zRf h) (g0 : vp_in v3 4) (k1 : ¬ (h.1 (103 + 2 * v3.toNatClampNeg) 0) = 0 → J mX10_together d 0 0 Q 0 0 25 [some (.inr (.inr 1)), u1, u2, some (.inl v3)] [] h) (k2 : (h.1 (103 + 2 * v3.toNatClampNeg) 0) = 0 → J mX10_together d 0 0 Q 0 0 22 [some (.inr (.inr 1)), u1, u2, some (.inl v3)] [] h) : J mX10_together d 0 0 Q 0 0 10 [some (.inr (.inr 1)), u1, u2, some (.inl v3)] [] h := by
  refine zrun 5 6 qX10_together (o := 10) rfl ?_
  show zokO h 1 10 ∧ zokR h (h.2.2.1 1 6) v3 ∧ zokO h (h.2.2.1 (h.2.2.1 1 6) v3.toNatClampNeg) 7 ∧ ((¬ (h.1 (h.2.2.1 (h.2.2.1 1 6) v3.toNatClampNeg) 0) = 0 → J mX10_together d 0 0 Q 0 0 25 [some (.inr (.inr 1)), u1, u2, some (.inl v3)] [] h) ∧ ((h.1 (h.2.2.1 (h.2.2.1 1 6) v3.toNatClampNeg) 0) = 0 → J mX10_together d 0 0 Q 0 0 22 [some (.inr (.inr 1)), u1, u2, some (.inl v3)] [] h))
  rw [(show h.2.2.1 1 6 = 47 from (hr.at (by decide) (by decide) (by rfl))), (show h.2.2.1 47 v3.toNatClampNeg = (103 + 2 * v3.toNatClampNeg) from (hr.a32 (vp_lt g0)))]
  exact ⟨(zo hr (by decide) rfl), (zir_ hr (by decide) (by rfl) (by decide) g0), (zrw hr g0), k1, k2⟩

theorem bX10_together_22 {d : Nat} {Q : Option MV → MH → Prop} {h : MH} {u0 u1 u2 u3 : Option MV} (k : Q (some (.inl (-(nI 6)))) h) : J mX10_together d 0 0 Q 0 0 22 [u0, u1, u2, u3] [] h := by
  refine zrun 11 1 qX10_together (o := 10) rfl ?_
  show J mX10_together d 0 0 Q 0 0 24 [u0, u1, u2, u3] [.inl (-(nI 6))] h
  exact J_iret (ty := .int) (zat qX10_together 12 (by rfl)) rfl rfl (Nat.le_refl 0) (Nat.le_refl 0) k

theorem bX10_together_25 {d d' : Nat} {Q : Option MV → MH → Prop} {h : MH} {u2 u3 : Option MV} {v1 : Int32} (hr : zRf h) (hd : d' + 1 ≤ d) (k : Con mX10_isSet d' 0 0 [.inr (.inr 1), .inl v1, .inl (nI 4)] h (zri fun (x : Int32) h' => J mX10_together d 0 0 Q 0 0 31 [some (.inr (.inr 1)), some (.inl v1), u2, u3] [.inl x] h')) : J mX10_together d 0 0 Q 0 0 25 [some (.inr (.inr 1)), some (.inl v1), u2, u3] [] h := by
  refine zrun 13 3 qX10_together (o := 10) rfl ?_
  show J mX10_together d 0 0 Q 0 0 28 [some (.inr (.inr 1)), some (.inl v1), u2, u3] [.inl (nI 4), .inl v1, .inr (.inr 1)] h
  exact zcVi (as := [.inl v1, .inl (nI 4)]) (zat qX10_together 16 (by rfl)) l10_280 rfl hd rfl (Nat.le_of_ble_eq_true rfl) zle0 (ci := 10) (by decide) rfl (zo hr (by decide) rfl) k

theorem bX10_together_31 {d : Nat} {Q : Option MV → MH → Prop} {h : MH} {u0 u1 u2 u3 : Option MV} {vs0 : Int32} (k1 : ¬ vs0 = 0 → J mX10_together d 0 0 Q 0 0 37 [u0, u1, u2, u3] [] h) (k2 : vs0 = 0 → J mX10_together d 0 0 Q 0 0 34 [u0, u1, u2, u3] [] h) : J mX10_together d 0 0 Q 0 0 31 [u0, u1, u2, u3] [.inl vs0] h := by
  refine zrun 17 1 qX10_together (o := 10) rfl ?_
  show ((¬ vs0 = 0 → J mX10_together d 0 0 Q 0 0 37 [u0, u1, u2, u3] [] h) ∧ (vs0 = 0 → J mX10_together d 0 0 Q 0 0 34 [u0, u1, u2, u3] [] h))
  exact ⟨k1, k2⟩

theorem bX10_together_34 {d : Nat} {Q : Option MV → MH → Prop} {h : MH} {u0 u1 u2 u3 : Option MV} (k : Q (some (.inl (-(nI 3)))) h) : J mX10_together d 0 0 Q 0 0 34 [u0, u1, u2, u3] [] h := by
  refine zrun 18 1 qX10_together (o := 10) rfl ?_
  show J mX10_together d 0 0 Q 0 0 36 [u0, u1, u2, u3] [.inl (-(nI 3))] h
  exact J_iret (ty := .int) (zat qX10_together 19 (by rfl)) rfl rfl (Nat.le_refl 0) (Nat.le_refl 0) k

theorem bX10_together_37 {d d' : Nat} {Q : Option MV → MH → Prop} {h : MH} {u1 u2 : Option MV} {v3 : Int32} (hr : zRf h) (g0 : vp_in v3 4) (hd : d' + 1 ≤ d) (k : Con mX9_want d' 0 0 [.inr (.inr 62), .inr (.inr (103 + 2 * v3.toNatClampNeg))] h (zri fun (x : Int32) h' => J mX10_together d 0 0 Q 0 0 50 [some (.inr (.inr 1)), u1, u2, some (.inl v3)] [.inl x] h')) : J mX10_together d 0 0 Q 0 0 37 [some (.inr (.inr 1)), u1, u2, some (.inl v3)] [] h := by
  refine zrun 20 6 qX10_together (o := 10) rfl ?_
  show zokO h 1 10 ∧ zokO h 1 10 ∧ zokR h (h.2.2.1 1 6) v3 ∧ J mX10_together d 0 0 Q 0 0 47 [some (.inr (.inr 1)), u1, u2, some (.inl v3)] [.inr (.inr (h.2.2.1 (h.2.2.1 1 6) v3.toNatClampNeg)), .inr (.inr (h.2.2.1 1 10))] h
  rw [(show h.2.2.1 1 10 = 62 from (hr.at (by decide) (by decide) (by rfl))), (show h.2.2.1 1 6 = 47 from (hr.at (by decide) (by decide) (by rfl))), (show h.2.2.1 47 v3.toNatClampNeg = (103 + 2 * v3.toNatClampNeg) from (hr.a32 (vp_lt g0)))]
  exact ⟨(zo hr (by decide) rfl), (zo hr (by decide) rfl), (zir_ hr (by decide) (by rfl) (by decide) g0), zcVi (as := [.inr (.inr (103 + 2 * v3.toNatClampNeg))]) (zat qX10_together 26 (by rfl)) l10_339 rfl hd rfl (Nat.le_of_ble_eq_true rfl) zle0 (ci := 9) (by decide) rfl (zo hr (by decide) rfl) k⟩

theorem bX10_together_50 {d : Nat} {Q : Option MV → MH → Prop} {h : MH} {u0 u1 u2 u3 : Option MV} {vs0 : Int32} (k1 : vs0 = 0 → J mX10_together d 0 0 Q 0 0 66 [u0, u1, u2, u3] [] h) (k2 : ¬ vs0 = 0 → J mX10_together d 0 0 Q 0 0 53 [u0, u1, u2, u3] [] h) : J mX10_together d 0 0 Q 0 0 50 [u0, u1, u2, u3] [.inl vs0] h := by
  refine zrun 27 1 qX10_together (o := 10) rfl ?_
  show ((vs0 = 0 → J mX10_together d 0 0 Q 0 0 66 [u0, u1, u2, u3] [] h) ∧ (¬ vs0 = 0 → J mX10_together d 0 0 Q 0 0 53 [u0, u1, u2, u3] [] h))
  exact ⟨k1, k2⟩

theorem bX10_together_53 {d d' : Nat} {Q : Option MV → MH → Prop} {h : MH} {u3 : Option MV} {v1 v2 : Int32} (hr : zRf h) (hd : d' + 1 ≤ d) (k : Con mX10_areTogether d' 0 0 [.inr (.inr 1), .inl v1, .inl v2] h (zri fun (x : Int32) h' => J mX10_together d 0 0 Q 0 0 59 [some (.inr (.inr 1)), some (.inl v1), some (.inl v2), u3] [.inl x] h')) : J mX10_together d 0 0 Q 0 0 53 [some (.inr (.inr 1)), some (.inl v1), some (.inl v2), u3] [] h := by
  refine zrun 28 3 qX10_together (o := 10) rfl ?_
  show J mX10_together d 0 0 Q 0 0 56 [some (.inr (.inr 1)), some (.inl v1), some (.inl v2), u3] [.inl v2, .inl v1, .inr (.inr 1)] h
  exact zcVi (as := [.inl v1, .inl v2]) (zat qX10_together 31 (by rfl)) l10_343 rfl hd rfl (Nat.le_of_ble_eq_true rfl) zle0 (ci := 10) (by decide) rfl (zo hr (by decide) rfl) k

theorem bX10_together_59 {d : Nat} {Q : Option MV → MH → Prop} {h : MH} {u0 u1 u2 u3 : Option MV} {vs0 : Int32} (k1 : vs0 = 0 → J mX10_together d 0 0 Q 0 0 66 [u0, u1, u2, u3] [] h) (k2 : ¬ vs0 = 0 → J mX10_together d 0 0 Q 0 0 62 [u0, u1, u2, u3] [] h) : J mX10_together d 0 0 Q 0 0 59 [u0, u1, u2, u3] [.inl vs0] h := by
  refine zrun 32 1 qX10_together (o := 10) rfl ?_
  show ((vs0 = 0 → J mX10_together d 0 0 Q 0 0 66 [u0, u1, u2, u3] [] h) ∧ (¬ vs0 = 0 → J mX10_together d 0 0 Q 0 0 62 [u0, u1, u2, u3] [] h))
  exact ⟨k1, k2⟩

theorem bX10_together_62 {d : Nat} {Q : Option MV → MH → Prop} {h : MH} {u0 u1 u2 u3 : Option MV} (k : J mX10_together d 0 0 Q 0 0 67 [u0, u1, u2, u3] [.inl (nI 1)] h) : J mX10_together d 0 0 Q 0 0 62 [u0, u1, u2, u3] [] h := by
  refine zrun 33 2 qX10_together (o := 10) rfl ?_
  show J mX10_together d 0 0 Q 0 0 67 [u0, u1, u2, u3] [.inl (nI 1)] h
  exact k

theorem bX10_together_66 {d : Nat} {Q : Option MV → MH → Prop} {h : MH} {u0 u1 u2 u3 : Option MV} (k : J mX10_together d 0 0 Q 0 0 67 [u0, u1, u2, u3] [.inl (nI 0)] h) : J mX10_together d 0 0 Q 0 0 66 [u0, u1, u2, u3] [] h := by
  refine zrun 35 1 qX10_together (o := 10) rfl ?_
  show J mX10_together d 0 0 Q 0 0 67 [u0, u1, u2, u3] [.inl (nI 0)] h
  exact k

theorem bX10_together_67 {d : Nat} {Q : Option MV → MH → Prop} {h : MH} {u0 u1 u2 u3 : Option MV} {vs0 : Int32} (k : Q (some (.inl vs0)) h) : J mX10_together d 0 0 Q 0 0 67 [u0, u1, u2, u3] [.inl vs0] h := by
  exact J_iret (ty := .int) (zat qX10_together 36 (by rfl)) rfl rfl (Nat.le_refl 0) (Nat.le_refl 0) k

theorem bX10_areTogether_0 {d d' : Nat} {Q : Option MV → MH → Prop} {h : MH} {v1 v2 : Int32} (hr : zRf h) (hd : d' + 1 ≤ d) (k : Con mX9_lay d' 0 0 [.inr (.inr 62), .inr (.inr 16), .inl v1, .inl v2] h (zrv fun h' => J mX10_areTogether d 0 0 Q 0 0 16 [some (.inr (.inr 1)), some (.inl v1), some (.inl v2)] [] h')) : J mX10_areTogether d 0 0 Q 0 0 0 [some (.inr (.inr 1)), some (.inl v1), some (.inl v2)] [] h := by
  refine zrun 0 7 qX10_areTogether (o := 10) rfl ?_
  show zokO h 1 10 ∧ zokO h 1 10 ∧ zokO h (h.2.2.1 1 4) 1 ∧ J mX10_areTogether d 0 0 Q 0 0 13 [some (.inr (.inr 1)), some (.inl v1), some (.inl v2)] [.inl v2, .inl v1, .inr (.inr (h.2.2.1 (h.2.2.1 1 4) 0)), .inr (.inr (h.2.2.1 1 10))] h
  rw [(show h.2.2.1 1 10 = 62 from (hr.at (by decide) (by decide) (by rfl))), (show h.2.2.1 1 4 = 15 from (hr.at (by decide) (by decide) (by rfl))), (show h.2.2.1 15 0 = 16 from (hr.at (by decide) (by decide) (by rfl)))]
  exact ⟨(zo hr (by decide) rfl), (zo hr (by decide) rfl), (zo hr (by decide) rfl), zcVv (as := [.inr (.inr 16), .inl v1, .inl v2]) (zat qX10_areTogether 7 (by rfl)) l10_293 rfl hd rfl (Nat.le_of_ble_eq_true rfl) zle0 (ci := 9) (by decide) rfl (zo hr (by decide) rfl) k⟩

theorem bX10_areTogether_16 {d d' : Nat} {Q : Option MV → MH → Prop} {h : MH} {u1 u2 : Option MV} (hr : zRf h) (hd : d' + 1 ≤ d) (k : Con mX9_seekWanted d' 0 0 [.inr (.inr 62)] h (zri fun (x : Int32) h' => J mX10_areTogether d 0 0 Q 0 0 23 [some (.inr (.inr 1)), u1, u2] [.inl x] h')) : J mX10_areTogether d 0 0 Q 0 0 16 [some (.inr (.inr 1)), u1, u2] [] h := by
  refine zrun 8 2 qX10_areTogether (o := 10) rfl ?_
  show zokO h 1 10 ∧ J mX10_areTogether d 0 0 Q 0 0 20 [some (.inr (.inr 1)), u1, u2] [.inr (.inr (h.2.2.1 1 10))] h
  rw [(show h.2.2.1 1 10 = 62 from (hr.at (by decide) (by decide) (by rfl)))]
  exact ⟨(zo hr (by decide) rfl), zcVi (as := []) (zat qX10_areTogether 10 (by rfl)) l10_347 rfl hd rfl (Nat.le_of_ble_eq_true rfl) zle0 (ci := 9) (by decide) rfl (zo hr (by decide) rfl) k⟩

theorem bX10_areTogether_23 {d : Nat} {Q : Option MV → MH → Prop} {h : MH} {u0 u1 u2 : Option MV} {vs0 : Int32} (gn : vs0 = 0 ∨ vs0 = 1) (k : Q (some (.inl vs0)) h) : J mX10_areTogether d 0 0 Q 0 0 23 [u0, u1, u2] [.inl vs0] h := by
  exact J_iret (ty := .boolean) (zat qX10_areTogether 11 (by rfl)) rfl (znz gn) (Nat.le_refl 0) (Nat.le_refl 0) k

theorem bX10_leastFor_0 {d d' : Nat} {Q : Option MV → MH → Prop} {h : MH} {u0 u2 u3 u4 : Option MV} {v1 : Int32} (hd : d' + 1 ≤ d) (k : Con mX10_isRow d' 0 0 [.inl v1] h (zri fun (x : Int32) h' => J mX10_leastFor d 0 0 Q 0 0 4 [u0, some (.inl v1), u2, u3, u4] [.inl x] h')) : J mX10_leastFor d 0 0 Q 0 0 0 [u0, some (.inl v1), u2, u3, u4] [] h := by
  refine zrun 0 1 qX10_leastFor (o := 10) rfl ?_
  show J mX10_leastFor d 0 0 Q 0 0 1 [u0, some (.inl v1), u2, u3, u4] [.inl v1] h
  exact zcSi (as := [.inl v1]) (zat qX10_leastFor 1 (by rfl)) l10_332 rfl hd rfl (Nat.le_of_ble_eq_true rfl) zle0 k

theorem bX10_leastFor_4 {d : Nat} {Q : Option MV → MH → Prop} {h : MH} {u0 u1 u2 u3 u4 : Option MV} {vs0 : Int32} (k1 : ¬ vs0 = 0 → J mX10_leastFor d 0 0 Q 0 0 10 [u0, u1, u2, u3, u4] [] h) (k2 : vs0 = 0 → J mX10_leastFor d 0 0 Q 0 0 7 [u0, u1, u2, u3, u4] [] h) : J mX10_leastFor d 0 0 Q 0 0 4 [u0, u1, u2, u3, u4] [.inl vs0] h := by
  refine zrun 2 1 qX10_leastFor (o := 10) rfl ?_
  show ((¬ vs0 = 0 → J mX10_leastFor d 0 0 Q 0 0 10 [u0, u1, u2, u3, u4] [] h) ∧ (vs0 = 0 → J mX10_leastFor d 0 0 Q 0 0 7 [u0, u1, u2, u3, u4] [] h))
  exact ⟨k1, k2⟩

theorem bX10_leastFor_7 {d : Nat} {Q : Option MV → MH → Prop} {h : MH} {u0 u1 u2 u3 u4 : Option MV} (k : Q (some (.inl (-(nI 2)))) h) : J mX10_leastFor d 0 0 Q 0 0 7 [u0, u1, u2, u3, u4] [] h := by
  refine zrun 3 1 qX10_leastFor (o := 10) rfl ?_
  show J mX10_leastFor d 0 0 Q 0 0 9 [u0, u1, u2, u3, u4] [.inl (-(nI 2))] h
  exact J_iret (ty := .int) (zat qX10_leastFor 4 (by rfl)) rfl rfl (Nat.le_refl 0) (Nat.le_refl 0) k

theorem bX10_leastFor_10 {d : Nat} {Q : Option MV → MH → Prop} {h : MH} {u2 u3 u4 : Option MV} {v1 : Int32} (hr : zRf h) (g0 : vp_in v1 4) (k1 : ¬ (h.1 (103 + 2 * v1.toNatClampNeg) 0) = 0 → J mX10_leastFor d 0 0 Q 0 0 25 [some (.inr (.inr 1)), some (.inl v1), u2, u3, u4] [] h) (k2 : (h.1 (103 + 2 * v1.toNatClampNeg) 0) = 0 → J mX10_leastFor d 0 0 Q 0 0 22 [some (.inr (.inr 1)), some (.inl v1), u2, u3, u4] [] h) : J mX10_leastFor d 0 0 Q 0 0 10 [some (.inr (.inr 1)), some (.inl v1), u2, u3, u4] [] h := by
  refine zrun 5 6 qX10_leastFor (o := 10) rfl ?_
  show zokO h 1 10 ∧ zokR h (h.2.2.1 1 6) v1 ∧ zokO h (h.2.2.1 (h.2.2.1 1 6) v1.toNatClampNeg) 7 ∧ ((¬ (h.1 (h.2.2.1 (h.2.2.1 1 6) v1.toNatClampNeg) 0) = 0 → J mX10_leastFor d 0 0 Q 0 0 25 [some (.inr (.inr 1)), some (.inl v1), u2, u3, u4] [] h) ∧ ((h.1 (h.2.2.1 (h.2.2.1 1 6) v1.toNatClampNeg) 0) = 0 → J mX10_leastFor d 0 0 Q 0 0 22 [some (.inr (.inr 1)), some (.inl v1), u2, u3, u4] [] h))
  rw [(show h.2.2.1 1 6 = 47 from (hr.at (by decide) (by decide) (by rfl))), (show h.2.2.1 47 v1.toNatClampNeg = (103 + 2 * v1.toNatClampNeg) from (hr.a32 (vp_lt g0)))]
  exact ⟨(zo hr (by decide) rfl), (zir_ hr (by decide) (by rfl) (by decide) g0), (zrw hr g0), k1, k2⟩

theorem bX10_leastFor_22 {d : Nat} {Q : Option MV → MH → Prop} {h : MH} {u0 u1 u2 u3 u4 : Option MV} (k : Q (some (.inl (-(nI 6)))) h) : J mX10_leastFor d 0 0 Q 0 0 22 [u0, u1, u2, u3, u4] [] h := by
  refine zrun 11 1 qX10_leastFor (o := 10) rfl ?_
  show J mX10_leastFor d 0 0 Q 0 0 24 [u0, u1, u2, u3, u4] [.inl (-(nI 6))] h
  exact J_iret (ty := .int) (zat qX10_leastFor 12 (by rfl)) rfl rfl (Nat.le_refl 0) (Nat.le_refl 0) k

theorem bX10_leastFor_25 {d d' : Nat} {Q : Option MV → MH → Prop} {h : MH} {u2 u3 u4 : Option MV} {v1 : Int32} (hr : zRf h) (g0 : vp_in v1 4) (hd : d' + 1 ≤ d) (k : Con mX9_want d' 0 0 [.inr (.inr 62), .inr (.inr (103 + 2 * v1.toNatClampNeg))] h (zri fun (x : Int32) h' => J mX10_leastFor d 0 0 Q 0 0 38 [some (.inr (.inr 1)), some (.inl v1), u2, u3, u4] [.inl x] h')) : J mX10_leastFor d 0 0 Q 0 0 25 [some (.inr (.inr 1)), some (.inl v1), u2, u3, u4] [] h := by
  refine zrun 13 6 qX10_leastFor (o := 10) rfl ?_
  show zokO h 1 10 ∧ zokO h 1 10 ∧ zokR h (h.2.2.1 1 6) v1 ∧ J mX10_leastFor d 0 0 Q 0 0 35 [some (.inr (.inr 1)), some (.inl v1), u2, u3, u4] [.inr (.inr (h.2.2.1 (h.2.2.1 1 6) v1.toNatClampNeg)), .inr (.inr (h.2.2.1 1 10))] h
  rw [(show h.2.2.1 1 10 = 62 from (hr.at (by decide) (by decide) (by rfl))), (show h.2.2.1 1 6 = 47 from (hr.at (by decide) (by decide) (by rfl))), (show h.2.2.1 47 v1.toNatClampNeg = (103 + 2 * v1.toNatClampNeg) from (hr.a32 (vp_lt g0)))]
  exact ⟨(zo hr (by decide) rfl), (zo hr (by decide) rfl), (zir_ hr (by decide) (by rfl) (by decide) g0), zcVi (as := [.inr (.inr (103 + 2 * v1.toNatClampNeg))]) (zat qX10_leastFor 19 (by rfl)) l10_339 rfl hd rfl (Nat.le_of_ble_eq_true rfl) zle0 (ci := 9) (by decide) rfl (zo hr (by decide) rfl) k⟩

theorem bX10_leastFor_38 {d : Nat} {Q : Option MV → MH → Prop} {h : MH} {u0 u1 u2 u3 u4 : Option MV} {vs0 : Int32} (k1 : ¬ vs0 = 0 → J mX10_leastFor d 0 0 Q 0 0 43 [u0, u1, u2, u3, u4] [] h) (k2 : vs0 = 0 → J mX10_leastFor d 0 0 Q 0 0 41 [u0, u1, u2, u3, u4] [] h) : J mX10_leastFor d 0 0 Q 0 0 38 [u0, u1, u2, u3, u4] [.inl vs0] h := by
  refine zrun 20 1 qX10_leastFor (o := 10) rfl ?_
  show ((¬ vs0 = 0 → J mX10_leastFor d 0 0 Q 0 0 43 [u0, u1, u2, u3, u4] [] h) ∧ (vs0 = 0 → J mX10_leastFor d 0 0 Q 0 0 41 [u0, u1, u2, u3, u4] [] h))
  exact ⟨k1, k2⟩

theorem bX10_leastFor_41 {d : Nat} {Q : Option MV → MH → Prop} {h : MH} {u0 u1 u2 u3 u4 : Option MV} (k : Q (some (.inl (-(nI 1)))) h) : J mX10_leastFor d 0 0 Q 0 0 41 [u0, u1, u2, u3, u4] [] h := by
  refine zrun 21 1 qX10_leastFor (o := 10) rfl ?_
  show J mX10_leastFor d 0 0 Q 0 0 42 [u0, u1, u2, u3, u4] [.inl (-(nI 1))] h
  exact J_iret (ty := .int) (zat qX10_leastFor 22 (by rfl)) rfl rfl (Nat.le_refl 0) (Nat.le_refl 0) k

theorem bX10_leastFor_43 {d : Nat} {Q : Option MV → MH → Prop} {h : MH} {u0 u1 u3 u4 : Option MV} {v2 : Int32} (k : J mX10_leastFor d 0 0 Q 0 0 45 [u0, u1, some (.inl v2), some (.inl (nI 1)), u4] [] h) : J mX10_leastFor d 0 0 Q 0 0 43 [u0, u1, some (.inl v2), u3, u4] [] h := by
  refine zrun 23 2 qX10_leastFor (o := 10) rfl ?_
  show J mX10_leastFor d 0 0 Q 0 0 45 [u0, u1, some (.inl v2), some (.inl (nI 1)), u4] [] h
  exact k

theorem bX10_leastFor_45 {d : Nat} {Q : Option MV → MH → Prop} {h : MH} {u0 u1 u2 u4 : Option MV} {v3 : Int32} (k1 : (nI 4) < v3 → J mX10_leastFor d 0 0 Q 0 0 104 [u0, u1, u2, some (.inl v3), u4] [] h) (k2 : ¬ (nI 4) < v3 → J mX10_leastFor d 0 0 Q 0 0 50 [u0, u1, u2, some (.inl v3), u4] [] h) : J mX10_leastFor d 0 0 Q 0 0 45 [u0, u1, u2, some (.inl v3), u4] [] h := by
  refine zrun 25 3 qX10_leastFor (o := 10) rfl ?_
  show (((nI 4) < v3 → J mX10_leastFor d 0 0 Q 0 0 104 [u0, u1, u2, some (.inl v3), u4] [] h) ∧ (¬ (nI 4) < v3 → J mX10_leastFor d 0 0 Q 0 0 50 [u0, u1, u2, some (.inl v3), u4] [] h))
  exact ⟨k1, k2⟩

theorem bX10_leastFor_50 {d : Nat} {Q : Option MV → MH → Prop} {h : MH} {u0 u1 u2 u4 : Option MV} {v3 : Int32} (k : J mX10_leastFor d 0 0 Q 0 0 53 [u0, u1, u2, some (.inl v3), some (.inl (nI 1))] [] h) : J mX10_leastFor d 0 0 Q 0 0 50 [u0, u1, u2, some (.inl v3), u4] [] h := by
  refine zrun 28 2 qX10_leastFor (o := 10) rfl ?_
  show J mX10_leastFor d 0 0 Q 0 0 53 [u0, u1, u2, some (.inl v3), some (.inl (nI 1))] [] h
  exact k

theorem bX10_leastFor_53 {d : Nat} {Q : Option MV → MH → Prop} {h : MH} {u1 u2 u3 : Option MV} {v4 : Int32} (hr : zRf h) (k1 : ((nI 1) <<< ((h.1 16 0) &&& 31)) ≤ v4 → J mX10_leastFor d 0 0 Q 0 0 98 [some (.inr (.inr 1)), u1, u2, u3, some (.inl v4)] [] h) (k2 : ¬ ((nI 1) <<< ((h.1 16 0) &&& 31)) ≤ v4 → J mX10_leastFor d 0 0 Q 0 0 70 [some (.inr (.inr 1)), u1, u2, u3, some (.inl v4)] [] h) : J mX10_leastFor d 0 0 Q 0 0 53 [some (.inr (.inr 1)), u1, u2, u3, some (.inl v4)] [] h := by
  refine zrun 30 8 qX10_leastFor (o := 10) rfl ?_
  show zokO h 1 10 ∧ zokO h (h.2.2.1 1 4) 1 ∧ zokO h (h.2.2.1 (h.2.2.1 1 4) 0) 2 ∧ ((((nI 1) <<< ((h.1 (h.2.2.1 (h.2.2.1 1 4) 0) 0) &&& 31)) ≤ v4 → J mX10_leastFor d 0 0 Q 0 0 98 [some (.inr (.inr 1)), u1, u2, u3, some (.inl v4)] [] h) ∧ (¬ ((nI 1) <<< ((h.1 (h.2.2.1 (h.2.2.1 1 4) 0) 0) &&& 31)) ≤ v4 → J mX10_leastFor d 0 0 Q 0 0 70 [some (.inr (.inr 1)), u1, u2, u3, some (.inl v4)] [] h))
  rw [(show h.2.2.1 1 4 = 15 from (hr.at (by decide) (by decide) (by rfl))), (show h.2.2.1 15 0 = 16 from (hr.at (by decide) (by decide) (by rfl)))]
  exact ⟨(zo hr (by decide) rfl), (zo hr (by decide) rfl), (zo hr (by decide) rfl), k1, k2⟩

theorem bX10_leastFor_70 {d d' : Nat} {Q : Option MV → MH → Prop} {h : MH} {u0 u1 u2 u3 : Option MV} {v4 : Int32} (hd : d' + 1 ≤ d) (k : Con mJ6_bitCount_0f7a4 d' 0 0 [.inl v4] h (zri fun (x : Int32) h' => J mX10_leastFor d 0 0 Q 0 0 75 [u0, u1, u2, u3, some (.inl v4)] [.inl x] h')) : J mX10_leastFor d 0 0 Q 0 0 70 [u0, u1, u2, u3, some (.inl v4)] [] h := by
  refine zrun 38 1 qX10_leastFor (o := 10) rfl ?_
  show J mX10_leastFor d 0 0 Q 0 0 72 [u0, u1, u2, u3, some (.inl v4)] [.inl v4] h
  exact zcSi (as := [.inl v4]) (zat qX10_leastFor 39 (by rfl)) l10_288 rfl hd rfl (Nat.le_of_ble_eq_true rfl) zle0 k

theorem bX10_leastFor_75 {d : Nat} {Q : Option MV → MH → Prop} {h : MH} {u0 u1 u2 u4 : Option MV} {vs0 v3 : Int32} (k1 : ¬ vs0 = v3 → J mX10_leastFor d 0 0 Q 0 0 92 [u0, u1, u2, some (.inl v3), u4] [] h) (k2 : vs0 = v3 → J mX10_leastFor d 0 0 Q 0 0 79 [u0, u1, u2, some (.inl v3), u4] [] h) : J mX10_leastFor d 0 0 Q 0 0 75 [u0, u1, u2, some (.inl v3), u4] [.inl vs0] h := by
  refine zrun 40 2 qX10_leastFor (o := 10) rfl ?_
  show ((¬ vs0 = v3 → J mX10_leastFor d 0 0 Q 0 0 92 [u0, u1, u2, some (.inl v3), u4] [] h) ∧ (vs0 = v3 → J mX10_leastFor d 0 0 Q 0 0 79 [u0, u1, u2, some (.inl v3), u4] [] h))
  exact ⟨k1, k2⟩

theorem bX10_leastFor_79 {d d' : Nat} {Q : Option MV → MH → Prop} {h : MH} {u1 u3 : Option MV} {v4 v2 : Int32} (hr : zRf h) (hd : d' + 1 ≤ d) (k : Con mX10_areTogether d' 0 0 [.inr (.inr 1), .inl v4, .inl v2] h (zri fun (x : Int32) h' => J mX10_leastFor d 0 0 Q 0 0 86 [some (.inr (.inr 1)), u1, some (.inl v2), u3, some (.inl v4)] [.inl x] h')) : J mX10_leastFor d 0 0 Q 0 0 79 [some (.inr (.inr 1)), u1, some (.inl v2), u3, some (.inl v4)] [] h := by
  refine zrun 42 3 qX10_leastFor (o := 10) rfl ?_
  show J mX10_leastFor d 0 0 Q 0 0 83 [some (.inr (.inr 1)), u1, some (.inl v2), u3, some (.inl v4)] [.inl v2, .inl v4, .inr (.inr 1)] h
  exact zcVi (as := [.inl v4, .inl v2]) (zat qX10_leastFor 45 (by rfl)) l10_343 rfl hd rfl (Nat.le_of_ble_eq_true rfl) zle0 (ci := 10) (by decide) rfl (zo hr (by decide) rfl) k

theorem bX10_leastFor_86 {d : Nat} {Q : Option MV → MH → Prop} {h : MH} {u0 u1 u2 u3 u4 : Option MV} {vs0 : Int32} (k1 : vs0 = 0 → J mX10_leastFor d 0 0 Q 0 0 92 [u0, u1, u2, u3, u4] [] h) (k2 : ¬ vs0 = 0 → J mX10_leastFor d 0 0 Q 0 0 89 [u0, u1, u2, u3, u4] [] h) : J mX10_leastFor d 0 0 Q 0 0 86 [u0, u1, u2, u3, u4] [.inl vs0] h := by
  refine zrun 46 1 qX10_leastFor (o := 10) rfl ?_
  show ((vs0 = 0 → J mX10_leastFor d 0 0 Q 0 0 92 [u0, u1, u2, u3, u4] [] h) ∧ (¬ vs0 = 0 → J mX10_leastFor d 0 0 Q 0 0 89 [u0, u1, u2, u3, u4] [] h))
  exact ⟨k1, k2⟩

theorem bX10_leastFor_89 {d : Nat} {Q : Option MV → MH → Prop} {h : MH} {u0 u1 u2 u3 : Option MV} {v4 : Int32} (k : Q (some (.inl v4)) h) : J mX10_leastFor d 0 0 Q 0 0 89 [u0, u1, u2, u3, some (.inl v4)] [] h := by
  refine zrun 47 1 qX10_leastFor (o := 10) rfl ?_
  show J mX10_leastFor d 0 0 Q 0 0 91 [u0, u1, u2, u3, some (.inl v4)] [.inl v4] h
  exact J_iret (ty := .int) (zat qX10_leastFor 48 (by rfl)) rfl rfl (Nat.le_refl 0) (Nat.le_refl 0) k

theorem bX10_leastFor_92 {d : Nat} {Q : Option MV → MH → Prop} {h : MH} {u0 u1 u2 : Option MV} {v4 v3 : Int32} (k : J mX10_leastFor d 0 0 Q 0 0 53 [u0, u1, u2, some (.inl v3), some (.inl (v4 + nI 1))] [] h) : J mX10_leastFor d 0 0 Q 0 0 92 [u0, u1, u2, some (.inl v3), some (.inl v4)] [] h := by
  refine zrun 49 2 qX10_leastFor (o := 10) rfl ?_
  show J mX10_leastFor d 0 0 Q 0 0 53 [u0, u1, u2, some (.inl v3), some (.inl (v4 + nI 1))] [] h
  exact k

theorem bX10_leastFor_98 {d : Nat} {Q : Option MV → MH → Prop} {h : MH} {u0 u1 u4 : Option MV} {v3 v2 : Int32} (k : J mX10_leastFor d 0 0 Q 0 0 45 [u0, u1, some (.inl v2), some (.inl (v3 + nI 1)), u4] [] h) : J mX10_leastFor d 0 0 Q 0 0 98 [u0, u1, some (.inl v2), some (.inl v3), u4] [] h := by
  refine zrun 51 2 qX10_leastFor (o := 10) rfl ?_
  show J mX10_leastFor d 0 0 Q 0 0 45 [u0, u1, some (.inl v2), some (.inl (v3 + nI 1)), u4] [] h
  exact k

theorem bX10_leastFor_104 {d : Nat} {Q : Option MV → MH → Prop} {h : MH} {u0 u1 u2 u3 u4 : Option MV} (k : Q (some (.inl (-(nI 1)))) h) : J mX10_leastFor d 0 0 Q 0 0 104 [u0, u1, u2, u3, u4] [] h := by
  refine zrun 53 1 qX10_leastFor (o := 10) rfl ?_
  show J mX10_leastFor d 0 0 Q 0 0 105 [u0, u1, u2, u3, u4] [.inl (-(nI 1))] h
  exact J_iret (ty := .int) (zat qX10_leastFor 54 (by rfl)) rfl rfl (Nat.le_refl 0) (Nat.le_refl 0) k

theorem bX10_nearest_0 {d d' : Nat} {Q : Option MV → MH → Prop} {h : MH} {u2 u3 u4 u5 u6 : Option MV} {v1 : Int32} (hr : zRf h) (hd : d' + 1 ≤ d) (k : Con mX10_isSet d' 0 0 [.inr (.inr 1), .inl v1, .inl (nI 4)] h (zri fun (x : Int32) h' => J mX10_nearest d 0 0 Q 0 0 6 [some (.inr (.inr 1)), some (.inl v1), u2, u3, u4, u5, u6] [.inl x] h')) : J mX10_nearest d 0 0 Q 0 0 0 [some (.inr (.inr 1)), some (.inl v1), u2, u3, u4, u5, u6] [] h := by
  refine zrun 0 3 qX10_nearest (o := 10) rfl ?_
  show J mX10_nearest d 0 0 Q 0 0 3 [some (.inr (.inr 1)), some (.inl v1), u2, u3, u4, u5, u6] [.inl (nI 4), .inl v1, .inr (.inr 1)] h
  exact zcVi (as := [.inl v1, .inl (nI 4)]) (zat qX10_nearest 3 (by rfl)) l10_280 rfl hd rfl (Nat.le_of_ble_eq_true rfl) zle0 (ci := 10) (by decide) rfl (zo hr (by decide) rfl) k

theorem bX10_nearest_6 {d : Nat} {Q : Option MV → MH → Prop} {h : MH} {u0 u1 u2 u3 u4 u5 u6 : Option MV} {vs0 : Int32} (k1 : vs0 = 0 → J mX10_nearest d 0 0 Q 0 0 14 [u0, u1, u2, u3, u4, u5, u6] [] h) (k2 : ¬ vs0 = 0 → J mX10_nearest d 0 0 Q 0 0 9 [u0, u1, u2, u3, u4, u5, u6] [] h) : J mX10_nearest d 0 0 Q 0 0 6 [u0, u1, u2, u3, u4, u5, u6] [.inl vs0] h := by
  refine zrun 4 1 qX10_nearest (o := 10) rfl ?_
  show ((vs0 = 0 → J mX10_nearest d 0 0 Q 0 0 14 [u0, u1, u2, u3, u4, u5, u6] [] h) ∧ (¬ vs0 = 0 → J mX10_nearest d 0 0 Q 0 0 9 [u0, u1, u2, u3, u4, u5, u6] [] h))
  exact ⟨k1, k2⟩

theorem bX10_nearest_9 {d : Nat} {Q : Option MV → MH → Prop} {h : MH} {u0 u1 u2 u4 u5 u6 : Option MV} {v3 : Int32} (k1 : (nI 1) ≤ v3 → J mX10_nearest d 0 0 Q 0 0 17 [u0, u1, u2, some (.inl v3), u4, u5, u6] [] h) (k2 : ¬ (nI 1) ≤ v3 → J mX10_nearest d 0 0 Q 0 0 14 [u0, u1, u2, some (.inl v3), u4, u5, u6] [] h) : J mX10_nearest d 0 0 Q 0 0 9 [u0, u1, u2, some (.inl v3), u4, u5, u6] [] h := by
  refine zrun 5 3 qX10_nearest (o := 10) rfl ?_
  show (((nI 1) ≤ v3 → J mX10_nearest d 0 0 Q 0 0 17 [u0, u1, u2, some (.inl v3), u4, u5, u6] [] h) ∧ (¬ (nI 1) ≤ v3 → J mX10_nearest d 0 0 Q 0 0 14 [u0, u1, u2, some (.inl v3), u4, u5, u6] [] h))
  exact ⟨k1, k2⟩

theorem bX10_nearest_14 {d : Nat} {Q : Option MV → MH → Prop} {h : MH} {u0 u1 u2 u3 u4 u5 u6 : Option MV} (k : Q (some (.inl (-(nI 3)))) h) : J mX10_nearest d 0 0 Q 0 0 14 [u0, u1, u2, u3, u4, u5, u6] [] h := by
  refine zrun 8 1 qX10_nearest (o := 10) rfl ?_
  show J mX10_nearest d 0 0 Q 0 0 16 [u0, u1, u2, u3, u4, u5, u6] [.inl (-(nI 3))] h
  exact J_iret (ty := .int) (zat qX10_nearest 9 (by rfl)) rfl rfl (Nat.le_refl 0) (Nat.le_refl 0) k

theorem bX10_nearest_17 {d d' : Nat} {Q : Option MV → MH → Prop} {h : MH} {u3 u4 u5 u6 : Option MV} {v1 v2 : Int32} (hr : zRf h) (hd : d' + 1 ≤ d) (k : Con mX10_allTold d' 0 0 [.inr (.inr 1), .inl v1, .inl v2] h (zrr fun (x : Nat) h' => J mX10_nearest d 0 0 Q 0 0 23 [some (.inr (.inr 1)), some (.inl v1), some (.inl v2), u3, u4, u5, u6] [.inr (.inr x)] h')) : J mX10_nearest d 0 0 Q 0 0 17 [some (.inr (.inr 1)), some (.inl v1), some (.inl v2), u3, u4, u5, u6] [] h := by
  refine zrun 10 3 qX10_nearest (o := 10) rfl ?_
  show J mX10_nearest d 0 0 Q 0 0 20 [some (.inr (.inr 1)), some (.inl v1), some (.inl v2), u3, u4, u5, u6] [.inl v2, .inl v1, .inr (.inr 1)] h
  exact zcVr (as := [.inl v1, .inl v2]) (zat qX10_nearest 13 (by rfl)) l10_306 rfl hd rfl (Nat.le_of_ble_eq_true rfl) zle0 (ci := 10) (by decide) rfl (zo hr (by decide) rfl) k

theorem bX10_nearest_23 {d d' : Nat} {Q : Option MV → MH → Prop} {h : MH} {u0 u1 u2 u4 u5 u6 : Option MV} {v3 : Int32} {vs0 : Nat} (gr : zokO h vs0 3) (hd : d' + 1 ≤ d) (k : Con mX3_lastUpTo d' 0 0 [.inr (.inr vs0), .inl v3] h (zri fun (x : Int32) h' => J mX10_nearest d 0 0 Q 0 0 31 [u0, u1, u2, some (.inl v3), some (.inr (.inr vs0)), u5, u6] [.inl x] h')) : J mX10_nearest d 0 0 Q 0 0 23 [u0, u1, u2, some (.inl v3), u4, u5, u6] [.inr (.inr vs0)] h := by
  refine zrun 14 3 qX10_nearest (o := 10) rfl ?_
  show J mX10_nearest d 0 0 Q 0 0 28 [u0, u1, u2, some (.inl v3), some (.inr (.inr vs0)), u5, u6] [.inl v3, .inr (.inr vs0)] h
  exact zcVi (as := [.inl v3]) (zat qX10_nearest 17 (by rfl)) l10_351 rfl hd rfl (Nat.le_of_ble_eq_true rfl) zle0 (ci := 3) (by decide) rfl gr k

theorem bX10_nearest_31 {d d' : Nat} {Q : Option MV → MH → Prop} {h : MH} {u0 u1 u2 u5 u6 : Option MV} {vs0 v3 : Int32} {v4 : Nat} (gr : zokO h v4 3) (hd : d' + 1 ≤ d) (k : Con mX3_firstFrom d' 0 0 [.inr (.inr v4), .inl v3] h (zri fun (x : Int32) h' => J mX10_nearest d 0 0 Q 0 0 39 [u0, u1, u2, some (.inl v3), some (.inr (.inr v4)), some (.inl vs0), u6] [.inl x] h')) : J mX10_nearest d 0 0 Q 0 0 31 [u0, u1, u2, some (.inl v3), some (.inr (.inr v4)), u5, u6] [.inl vs0] h := by
  refine zrun 18 3 qX10_nearest (o := 10) rfl ?_
  show J mX10_nearest d 0 0 Q 0 0 36 [u0, u1, u2, some (.inl v3), some (.inr (.inr v4)), some (.inl vs0), u6] [.inl v3, .inr (.inr v4)] h
  exact zcVi (as := [.inl v3]) (zat qX10_nearest 21 (by rfl)) l10_354 rfl hd rfl (Nat.le_of_ble_eq_true rfl) zle0 (ci := 3) (by decide) rfl gr k

theorem bX10_nearest_39 {d : Nat} {Q : Option MV → MH → Prop} {h : MH} {u0 u1 u2 u3 u4 u6 : Option MV} {vs0 v5 : Int32} (k1 : v5 = (-(nI 1)) → J mX10_nearest d 0 0 Q 0 0 53 [u0, u1, u2, u3, u4, some (.inl v5), some (.inl vs0)] [] h) (k2 : ¬ v5 = (-(nI 1)) → J mX10_nearest d 0 0 Q 0 0 47 [u0, u1, u2, u3, u4, some (.inl v5), some (.inl vs0)] [] h) : J mX10_nearest d 0 0 Q 0 0 39 [u0, u1, u2, u3, u4, some (.inl v5), u6] [.inl vs0] h := by
  refine zrun 22 4 qX10_nearest (o := 10) rfl ?_
  show ((v5 = (-(nI 1)) → J mX10_nearest d 0 0 Q 0 0 53 [u0, u1, u2, u3, u4, some (.inl v5), some (.inl vs0)] [] h) ∧ (¬ v5 = (-(nI 1)) → J mX10_nearest d 0 0 Q 0 0 47 [u0, u1, u2, u3, u4, some (.inl v5), some (.inl vs0)] [] h))
  exact ⟨k1, k2⟩

theorem bX10_nearest_47 {d : Nat} {Q : Option MV → MH → Prop} {h : MH} {u0 u1 u2 u3 u4 u5 : Option MV} {v6 : Int32} (k1 : ¬ v6 = (-(nI 1)) → J mX10_nearest d 0 0 Q 0 0 61 [u0, u1, u2, u3, u4, u5, some (.inl v6)] [] h) (k2 : v6 = (-(nI 1)) → J mX10_nearest d 0 0 Q 0 0 53 [u0, u1, u2, u3, u4, u5, some (.inl v6)] [] h) : J mX10_nearest d 0 0 Q 0 0 47 [u0, u1, u2, u3, u4, u5, some (.inl v6)] [] h := by
  refine zrun 26 3 qX10_nearest (o := 10) rfl ?_
  show ((¬ v6 = (-(nI 1)) → J mX10_nearest d 0 0 Q 0 0 61 [u0, u1, u2, u3, u4, u5, some (.inl v6)] [] h) ∧ (v6 = (-(nI 1)) → J mX10_nearest d 0 0 Q 0 0 53 [u0, u1, u2, u3, u4, u5, some (.inl v6)] [] h))
  exact ⟨k1, k2⟩

theorem bX10_nearest_53 {d : Nat} {Q : Option MV → MH → Prop} {h : MH} {u0 u1 u2 u3 u4 : Option MV} {v5 v6 : Int32} (hd : 1 ≤ d) (k : J mX10_nearest d 0 0 Q 0 0 60 [u0, u1, u2, u3, u4, some (.inl v5), some (.inl v6)] [.inl (if v5 < v6 then v6 else v5)] h) : J mX10_nearest d 0 0 Q 0 0 53 [u0, u1, u2, u3, u4, some (.inl v5), some (.inl v6)] [] h := by
  refine zrun 29 2 qX10_nearest (o := 10) rfl ?_
  show J mX10_nearest d 0 0 Q 0 0 57 [u0, u1, u2, u3, u4, some (.inl v5), some (.inl v6)] [.inl v6, .inl v5] h
  exact zmax (zat qX10_nearest 31 (by rfl)) mm10_180 rfl hd (Nat.le_of_ble_eq_true rfl) zle0 k

theorem bX10_nearest_60 {d : Nat} {Q : Option MV → MH → Prop} {h : MH} {u0 u1 u2 u3 u4 u5 u6 : Option MV} {vs0 : Int32} (k : Q (some (.inl vs0)) h) : J mX10_nearest d 0 0 Q 0 0 60 [u0, u1, u2, u3, u4, u5, u6] [.inl vs0] h := by
  exact J_iret (ty := .int) (zat qX10_nearest 32 (by rfl)) rfl rfl (Nat.le_refl 0) (Nat.le_refl 0) k

theorem bX10_nearest_61 {d : Nat} {Q : Option MV → MH → Prop} {h : MH} {u0 u1 u2 u4 : Option MV} {v3 v5 v6 : Int32} (k1 : (v6 - v3) < (v3 - v5) → J mX10_nearest d 0 0 Q 0 0 77 [u0, u1, u2, some (.inl v3), u4, some (.inl v5), some (.inl v6)] [] h) (k2 : ¬ (v6 - v3) < (v3 - v5) → J mX10_nearest d 0 0 Q 0 0 72 [u0, u1, u2, some (.inl v3), u4, some (.inl v5), some (.inl v6)] [] h) : J mX10_nearest d 0 0 Q 0 0 61 [u0, u1, u2, some (.inl v3), u4, some (.inl v5), some (.inl v6)] [] h := by
  refine zrun 33 7 qX10_nearest (o := 10) rfl ?_
  show (((v6 - v3) < (v3 - v5) → J mX10_nearest d 0 0 Q 0 0 77 [u0, u1, u2, some (.inl v3), u4, some (.inl v5), some (.inl v6)] [] h) ∧ (¬ (v6 - v3) < (v3 - v5) → J mX10_nearest d 0 0 Q 0 0 72 [u0, u1, u2, some (.inl v3), u4, some (.inl v5), some (.inl v6)] [] h))
  exact ⟨k1, k2⟩

theorem bX10_nearest_72 {d : Nat} {Q : Option MV → MH → Prop} {h : MH} {u0 u1 u2 u3 u4 u6 : Option MV} {v5 : Int32} (k : J mX10_nearest d 0 0 Q 0 0 79 [u0, u1, u2, u3, u4, some (.inl v5), u6] [.inl v5] h) : J mX10_nearest d 0 0 Q 0 0 72 [u0, u1, u2, u3, u4, some (.inl v5), u6] [] h := by
  refine zrun 40 2 qX10_nearest (o := 10) rfl ?_
  show J mX10_nearest d 0 0 Q 0 0 79 [u0, u1, u2, u3, u4, some (.inl v5), u6] [.inl v5] h
  exact k

theorem bX10_nearest_77 {d : Nat} {Q : Option MV → MH → Prop} {h : MH} {u0 u1 u2 u3 u4 u5 : Option MV} {v6 : Int32} (k : J mX10_nearest d 0 0 Q 0 0 79 [u0, u1, u2, u3, u4, u5, some (.inl v6)] [.inl v6] h) : J mX10_nearest d 0 0 Q 0 0 77 [u0, u1, u2, u3, u4, u5, some (.inl v6)] [] h := by
  refine zrun 42 1 qX10_nearest (o := 10) rfl ?_
  show J mX10_nearest d 0 0 Q 0 0 79 [u0, u1, u2, u3, u4, u5, some (.inl v6)] [.inl v6] h
  exact k

theorem bX10_nearest_79 {d : Nat} {Q : Option MV → MH → Prop} {h : MH} {u0 u1 u2 u3 u4 u5 u6 : Option MV} {vs0 : Int32} (k : Q (some (.inl vs0)) h) : J mX10_nearest d 0 0 Q 0 0 79 [u0, u1, u2, u3, u4, u5, u6] [.inl vs0] h := by
  exact J_iret (ty := .int) (zat qX10_nearest 43 (by rfl)) rfl rfl (Nat.le_refl 0) (Nat.le_refl 0) k

theorem bX10_along_0 {d d' : Nat} {Q : Option MV → MH → Prop} {h : MH} {u2 : Option MV} {v1 : Int32} (hr : zRf h) (hd : d' + 1 ≤ d) (k : Con mX10_isSet d' 0 0 [.inr (.inr 1), .inl v1, .inl (nI 2)] h (zri fun (x : Int32) h' => J mX10_along d 0 0 Q 0 0 6 [some (.inr (.inr 1)), some (.inl v1), u2] [.inl x] h')) : J mX10_along d 0 0 Q 0 0 0 [some (.inr (.inr 1)), some (.inl v1), u2] [] h := by
  refine zrun 0 3 qX10_along (o := 10) rfl ?_
  show J mX10_along d 0 0 Q 0 0 3 [some (.inr (.inr 1)), some (.inl v1), u2] [.inl (nI 2), .inl v1, .inr (.inr 1)] h
  exact zcVi (as := [.inl v1, .inl (nI 2)]) (zat qX10_along 3 (by rfl)) l10_280 rfl hd rfl (Nat.le_of_ble_eq_true rfl) zle0 (ci := 10) (by decide) rfl (zo hr (by decide) rfl) k

theorem bX10_along_6 {d : Nat} {Q : Option MV → MH → Prop} {h : MH} {u0 u1 u2 : Option MV} {vs0 : Int32} (k1 : vs0 = 0 → J mX10_along d 0 0 Q 0 0 14 [u0, u1, u2] [] h) (k2 : ¬ vs0 = 0 → J mX10_along d 0 0 Q 0 0 9 [u0, u1, u2] [] h) : J mX10_along d 0 0 Q 0 0 6 [u0, u1, u2] [.inl vs0] h := by
  refine zrun 4 1 qX10_along (o := 10) rfl ?_
  show ((vs0 = 0 → J mX10_along d 0 0 Q 0 0 14 [u0, u1, u2] [] h) ∧ (¬ vs0 = 0 → J mX10_along d 0 0 Q 0 0 9 [u0, u1, u2] [] h))
  exact ⟨k1, k2⟩

theorem bX10_along_9 {d : Nat} {Q : Option MV → MH → Prop} {h : MH} {u0 u1 : Option MV} {v2 : Int32} (k1 : (nI 1) ≤ v2 → J mX10_along d 0 0 Q 0 0 17 [u0, u1, some (.inl v2)] [] h) (k2 : ¬ (nI 1) ≤ v2 → J mX10_along d 0 0 Q 0 0 14 [u0, u1, some (.inl v2)] [] h) : J mX10_along d 0 0 Q 0 0 9 [u0, u1, some (.inl v2)] [] h := by
  refine zrun 5 3 qX10_along (o := 10) rfl ?_
  show (((nI 1) ≤ v2 → J mX10_along d 0 0 Q 0 0 17 [u0, u1, some (.inl v2)] [] h) ∧ (¬ (nI 1) ≤ v2 → J mX10_along d 0 0 Q 0 0 14 [u0, u1, some (.inl v2)] [] h))
  exact ⟨k1, k2⟩

theorem bX10_along_14 {d : Nat} {Q : Option MV → MH → Prop} {h : MH} {u0 u1 u2 : Option MV} (k : Q (some (.inl (-(nI 3)))) h) : J mX10_along d 0 0 Q 0 0 14 [u0, u1, u2] [] h := by
  refine zrun 8 1 qX10_along (o := 10) rfl ?_
  show J mX10_along d 0 0 Q 0 0 16 [u0, u1, u2] [.inl (-(nI 3))] h
  exact J_iret (ty := .int) (zat qX10_along 9 (by rfl)) rfl rfl (Nat.le_refl 0) (Nat.le_refl 0) k

theorem bX10_along_17 {d d' : Nat} {Q : Option MV → MH → Prop} {h : MH} {u2 : Option MV} {v1 : Int32} (hr : zRf h) (hd : d' + 1 ≤ d) (k : Con mX10_allAlong d' 0 0 [.inr (.inr 1), .inl v1] h (zrr fun (x : Nat) h' => J mX10_along d 0 0 Q 0 0 22 [some (.inr (.inr 1)), some (.inl v1), u2] [.inr (.inr x)] h')) : J mX10_along d 0 0 Q 0 0 17 [some (.inr (.inr 1)), some (.inl v1), u2] [] h := by
  refine zrun 10 2 qX10_along (o := 10) rfl ?_
  show J mX10_along d 0 0 Q 0 0 19 [some (.inr (.inr 1)), some (.inl v1), u2] [.inl v1, .inr (.inr 1)] h
  exact zcVr (as := [.inl v1]) (zat qX10_along 12 (by rfl)) l10_357 rfl hd rfl (Nat.le_of_ble_eq_true rfl) zle0 (ci := 10) (by decide) rfl (zo hr (by decide) rfl) k

theorem bX10_along_22 {d d' : Nat} {Q : Option MV → MH → Prop} {h : MH} {u0 u1 : Option MV} {v2 : Int32} {vs0 : Nat} (gr : zokO h vs0 3) (hd : d' + 1 ≤ d) (k : Con mX3_has d' 0 0 [.inr (.inr vs0), .inl v2] h (zri fun (x : Int32) h' => J mX10_along d 0 0 Q 0 0 26 [u0, u1, some (.inl v2)] [.inl x] h')) : J mX10_along d 0 0 Q 0 0 22 [u0, u1, some (.inl v2)] [.inr (.inr vs0)] h := by
  refine zrun 13 1 qX10_along (o := 10) rfl ?_
  show J mX10_along d 0 0 Q 0 0 23 [u0, u1, some (.inl v2)] [.inl v2, .inr (.inr vs0)] h
  exact zcVi (as := [.inl v2]) (zat qX10_along 14 (by rfl)) l10_292 rfl hd rfl (Nat.le_of_ble_eq_true rfl) zle0 (ci := 3) (by decide) rfl gr k

theorem bX10_along_26 {d : Nat} {Q : Option MV → MH → Prop} {h : MH} {u0 u1 u2 : Option MV} {vs0 : Int32} (k1 : vs0 = 0 → J mX10_along d 0 0 Q 0 0 33 [u0, u1, u2] [] h) (k2 : ¬ vs0 = 0 → J mX10_along d 0 0 Q 0 0 29 [u0, u1, u2] [] h) : J mX10_along d 0 0 Q 0 0 26 [u0, u1, u2] [.inl vs0] h := by
  refine zrun 15 1 qX10_along (o := 10) rfl ?_
  show ((vs0 = 0 → J mX10_along d 0 0 Q 0 0 33 [u0, u1, u2] [] h) ∧ (¬ vs0 = 0 → J mX10_along d 0 0 Q 0 0 29 [u0, u1, u2] [] h))
  exact ⟨k1, k2⟩

theorem bX10_along_29 {d : Nat} {Q : Option MV → MH → Prop} {h : MH} {u0 u1 u2 : Option MV} (k : J mX10_along d 0 0 Q 0 0 34 [u0, u1, u2] [.inl (nI 1)] h) : J mX10_along d 0 0 Q 0 0 29 [u0, u1, u2] [] h := by
  refine zrun 16 2 qX10_along (o := 10) rfl ?_
  show J mX10_along d 0 0 Q 0 0 34 [u0, u1, u2] [.inl (nI 1)] h
  exact k

theorem bX10_along_33 {d : Nat} {Q : Option MV → MH → Prop} {h : MH} {u0 u1 u2 : Option MV} (k : J mX10_along d 0 0 Q 0 0 34 [u0, u1, u2] [.inl (nI 0)] h) : J mX10_along d 0 0 Q 0 0 33 [u0, u1, u2] [] h := by
  refine zrun 18 1 qX10_along (o := 10) rfl ?_
  show J mX10_along d 0 0 Q 0 0 34 [u0, u1, u2] [.inl (nI 0)] h
  exact k

theorem bX10_along_34 {d : Nat} {Q : Option MV → MH → Prop} {h : MH} {u0 u1 u2 : Option MV} {vs0 : Int32} (k : Q (some (.inl vs0)) h) : J mX10_along d 0 0 Q 0 0 34 [u0, u1, u2] [.inl vs0] h := by
  exact J_iret (ty := .int) (zat qX10_along 19 (by rfl)) rfl rfl (Nat.le_refl 0) (Nat.le_refl 0) k

theorem bX10_alongs_0 {d d' : Nat} {Q : Option MV → MH → Prop} {h : MH} {u2 : Option MV} {v1 : Int32} (hr : zRf h) (hd : d' + 1 ≤ d) (k : Con mX10_isSet d' 0 0 [.inr (.inr 1), .inl v1, .inl (nI 2)] h (zri fun (x : Int32) h' => J mX10_alongs d 0 0 Q 0 0 6 [some (.inr (.inr 1)), some (.inl v1), u2] [.inl x] h')) : J mX10_alongs d 0 0 Q 0 0 0 [some (.inr (.inr 1)), some (.inl v1), u2] [] h := by
  refine zrun 0 3 qX10_alongs (o := 10) rfl ?_
  show J mX10_alongs d 0 0 Q 0 0 3 [some (.inr (.inr 1)), some (.inl v1), u2] [.inl (nI 2), .inl v1, .inr (.inr 1)] h
  exact zcVi (as := [.inl v1, .inl (nI 2)]) (zat qX10_alongs 3 (by rfl)) l10_280 rfl hd rfl (Nat.le_of_ble_eq_true rfl) zle0 (ci := 10) (by decide) rfl (zo hr (by decide) rfl) k

theorem bX10_alongs_6 {d : Nat} {Q : Option MV → MH → Prop} {h : MH} {u0 u1 u2 : Option MV} {vs0 : Int32} (k1 : ¬ vs0 = 0 → J mX10_alongs d 0 0 Q 0 0 12 [u0, u1, u2] [] h) (k2 : vs0 = 0 → J mX10_alongs d 0 0 Q 0 0 9 [u0, u1, u2] [] h) : J mX10_alongs d 0 0 Q 0 0 6 [u0, u1, u2] [.inl vs0] h := by
  refine zrun 4 1 qX10_alongs (o := 10) rfl ?_
  show ((¬ vs0 = 0 → J mX10_alongs d 0 0 Q 0 0 12 [u0, u1, u2] [] h) ∧ (vs0 = 0 → J mX10_alongs d 0 0 Q 0 0 9 [u0, u1, u2] [] h))
  exact ⟨k1, k2⟩

theorem bX10_alongs_9 {d : Nat} {Q : Option MV → MH → Prop} {h : MH} {u0 u1 u2 : Option MV} (k : Q (some (.inl (-(nI 3)))) h) : J mX10_alongs d 0 0 Q 0 0 9 [u0, u1, u2] [] h := by
  refine zrun 5 1 qX10_alongs (o := 10) rfl ?_
  show J mX10_alongs d 0 0 Q 0 0 11 [u0, u1, u2] [.inl (-(nI 3))] h
  exact J_iret (ty := .int) (zat qX10_alongs 6 (by rfl)) rfl rfl (Nat.le_refl 0) (Nat.le_refl 0) k

theorem bX10_alongs_12 {d d' : Nat} {Q : Option MV → MH → Prop} {h : MH} {u2 : Option MV} {v1 : Int32} (hr : zRf h) (hd : d' + 1 ≤ d) (k : Con mX10_allAlong d' 0 0 [.inr (.inr 1), .inl v1] h (zrr fun (x : Nat) h' => J mX10_alongs d 0 0 Q 0 0 17 [some (.inr (.inr 1)), some (.inl v1), u2] [.inr (.inr x)] h')) : J mX10_alongs d 0 0 Q 0 0 12 [some (.inr (.inr 1)), some (.inl v1), u2] [] h := by
  refine zrun 7 2 qX10_alongs (o := 10) rfl ?_
  show J mX10_alongs d 0 0 Q 0 0 14 [some (.inr (.inr 1)), some (.inl v1), u2] [.inl v1, .inr (.inr 1)] h
  exact zcVr (as := [.inl v1]) (zat qX10_alongs 9 (by rfl)) l10_357 rfl hd rfl (Nat.le_of_ble_eq_true rfl) zle0 (ci := 10) (by decide) rfl (zo hr (by decide) rfl) k

theorem bX10_alongs_17 {d d' : Nat} {Q : Option MV → MH → Prop} {h : MH} {u0 u1 : Option MV} {v2 : Int32} {vs0 : Nat} (hd : d' + 1 ≤ d) (k : Con mX10_pick d' 0 0 [.inr (.inr vs0), .inl v2] h (zri fun (x : Int32) h' => J mX10_alongs d 0 0 Q 0 0 21 [u0, u1, some (.inl v2)] [.inl x] h')) : J mX10_alongs d 0 0 Q 0 0 17 [u0, u1, some (.inl v2)] [.inr (.inr vs0)] h := by
  refine zrun 10 1 qX10_alongs (o := 10) rfl ?_
  show J mX10_alongs d 0 0 Q 0 0 18 [u0, u1, some (.inl v2)] [.inl v2, .inr (.inr vs0)] h
  exact zcSi (as := [.inr (.inr vs0), .inl v2]) (zat qX10_alongs 11 (by rfl)) l10_310 rfl hd rfl (Nat.le_of_ble_eq_true rfl) zle0 k

theorem bX10_alongs_21 {d : Nat} {Q : Option MV → MH → Prop} {h : MH} {u0 u1 u2 : Option MV} {vs0 : Int32} (k : Q (some (.inl vs0)) h) : J mX10_alongs d 0 0 Q 0 0 21 [u0, u1, u2] [.inl vs0] h := by
  exact J_iret (ty := .int) (zat qX10_alongs 12 (by rfl)) rfl rfl (Nat.le_refl 0) (Nat.le_refl 0) k

theorem bX10_allAlong_0 {d : Nat} {Q : Option MV → MH → Prop} {h : MH} {v1 : Int32} (hr : zRf h) (k1 : (h.1 101 0) = v1 → J mX10_allAlong d 0 0 Q 0 0 52 [some (.inr (.inr 1)), some (.inl v1)] [] h) (k2 : ¬ (h.1 101 0) = v1 → J mX10_allAlong d 0 0 Q 0 0 11 [some (.inr (.inr 1)), some (.inl v1)] [] h) : J mX10_allAlong d 0 0 Q 0 0 0 [some (.inr (.inr 1)), some (.inl v1)] [] h := by
  refine zrun 0 5 qX10_allAlong (o := 10) rfl ?_
  show zokO h 1 10 ∧ zokO h (h.2.2.1 1 14) 3 ∧ (((h.1 (h.2.2.1 1 14) 0) = v1 → J mX10_allAlong d 0 0 Q 0 0 52 [some (.inr (.inr 1)), some (.inl v1)] [] h) ∧ (¬ (h.1 (h.2.2.1 1 14) 0) = v1 → J mX10_allAlong d 0 0 Q 0 0 11 [some (.inr (.inr 1)), some (.inl v1)] [] h))
  rw [(show h.2.2.1 1 14 = 101 from (hr.at (by decide) (by decide) (by rfl)))]
  exact ⟨(zo hr (by decide) rfl), (zo hr (by decide) rfl), k1, k2⟩

theorem bX10_allAlong_11 {d d' : Nat} {Q : Option MV → MH → Prop} {h : MH} {u1 : Option MV} (hr : zRf h) (hd : d' + 1 ≤ d) (k : Con mX3_clear d' 0 0 [.inr (.inr 101)] h (zrv fun h' => J mX10_allAlong d 0 0 Q 0 0 18 [some (.inr (.inr 1)), u1] [] h')) : J mX10_allAlong d 0 0 Q 0 0 11 [some (.inr (.inr 1)), u1] [] h := by
  refine zrun 5 2 qX10_allAlong (o := 10) rfl ?_
  show zokO h 1 10 ∧ J mX10_allAlong d 0 0 Q 0 0 15 [some (.inr (.inr 1)), u1] [.inr (.inr (h.2.2.1 1 14))] h
  rw [(show h.2.2.1 1 14 = 101 from (hr.at (by decide) (by decide) (by rfl)))]
  exact ⟨(zo hr (by decide) rfl), zcVv (as := []) (zat qX10_allAlong 7 (by rfl)) l10_299 rfl hd rfl (Nat.le_of_ble_eq_true rfl) zle0 (ci := 3) (by decide) rfl (zo hr (by decide) rfl) k⟩

theorem bX10_allAlong_18 {d d' : Nat} {Q : Option MV → MH → Prop} {h : MH} {v1 : Int32} (hr : zRf h) (hd : d' + 1 ≤ d) (k : Con mX0_lay d' 0 0 [.inr (.inr 77), .inr (.inr 16), .inl v1] h (zrv fun h' => J mX10_allAlong d 0 0 Q 0 0 33 [some (.inr (.inr 1)), some (.inl v1)] [] h')) : J mX10_allAlong d 0 0 Q 0 0 18 [some (.inr (.inr 1)), some (.inl v1)] [] h := by
  refine zrun 8 6 qX10_allAlong (o := 10) rfl ?_
  show zokO h 1 10 ∧ zokO h 1 10 ∧ zokO h (h.2.2.1 1 4) 1 ∧ J mX10_allAlong d 0 0 Q 0 0 30 [some (.inr (.inr 1)), some (.inl v1)] [.inl v1, .inr (.inr (h.2.2.1 (h.2.2.1 1 4) 0)), .inr (.inr (h.2.2.1 1 11))] h
  rw [(show h.2.2.1 1 11 = 77 from (hr.at (by decide) (by decide) (by rfl))), (show h.2.2.1 1 4 = 15 from (hr.at (by decide) (by decide) (by rfl))), (show h.2.2.1 15 0 = 16 from (hr.at (by decide) (by decide) (by rfl)))]
  exact ⟨(zo hr (by decide) rfl), (zo hr (by decide) rfl), (zo hr (by decide) rfl), zcVv (as := [.inr (.inr 16), .inl v1]) (zat qX10_allAlong 14 (by rfl)) l10_361 rfl hd rfl (Nat.le_of_ble_eq_true rfl) zle0 (ci := 0) (by decide) rfl (zo hr (by decide) rfl) k⟩

theorem bX10_allAlong_33 {d d' : Nat} {Q : Option MV → MH → Prop} {h : MH} {u1 : Option MV} (hr : zRf h) (hd : d' + 1 ≤ d) (k : Con mX0_markAll d' 0 0 [.inr (.inr 77), .inr (.inr 101)] h (zrv fun h' => J mX10_allAlong d 0 0 Q 0 0 44 [some (.inr (.inr 1)), u1] [] h')) : J mX10_allAlong d 0 0 Q 0 0 33 [some (.inr (.inr 1)), u1] [] h := by
  refine zrun 15 4 qX10_allAlong (o := 10) rfl ?_
  show zokO h 1 10 ∧ zokO h 1 10 ∧ J mX10_allAlong d 0 0 Q 0 0 41 [some (.inr (.inr 1)), u1] [.inr (.inr (h.2.2.1 1 14)), .inr (.inr (h.2.2.1 1 11))] h
  rw [(show h.2.2.1 1 11 = 77 from (hr.at (by decide) (by decide) (by rfl))), (show h.2.2.1 1 14 = 101 from (hr.at (by decide) (by decide) (by rfl)))]
  exact ⟨(zo hr (by decide) rfl), (zo hr (by decide) rfl), zcVv (as := [.inr (.inr 101)]) (zat qX10_allAlong 19 (by rfl)) l10_364 rfl hd rfl (Nat.le_of_ble_eq_true rfl) zle0 (ci := 0) (by decide) rfl (zo hr (by decide) rfl) k⟩

theorem bX10_allAlong_44 {d : Nat} {Q : Option MV → MH → Prop} {h : MH} {v1 : Int32} (hr : zRf h) (k : J mX10_allAlong d 0 0 Q 0 0 52 [some (.inr (.inr 1)), some (.inl v1)] [] (zsI h 101 0 v1)) : J mX10_allAlong d 0 0 Q 0 0 44 [some (.inr (.inr 1)), some (.inl v1)] [] h := by
  refine zrun 20 4 qX10_allAlong (o := 10) rfl ?_
  show zokO h 1 10 ∧ zokO h (h.2.2.1 1 14) 3 ∧ J mX10_allAlong d 0 0 Q 0 0 52 [some (.inr (.inr 1)), some (.inl v1)] [] (zsI h (h.2.2.1 1 14) 0 v1)
  rw [(show h.2.2.1 1 14 = 101 from (hr.at (by decide) (by decide) (by rfl)))]
  exact ⟨(zo hr (by decide) rfl), (zo hr (by decide) rfl), k⟩

theorem bX10_allAlong_52 {d : Nat} {Q : Option MV → MH → Prop} {h : MH} {u1 : Option MV} (hr : zRf h) (k : Q (some (.inr (.inr 101))) h) : J mX10_allAlong d 0 0 Q 0 0 52 [some (.inr (.inr 1)), u1] [] h := by
  refine zrun 24 2 qX10_allAlong (o := 10) rfl ?_
  show zokO h 1 10 ∧ J mX10_allAlong d 0 0 Q 0 0 56 [some (.inr (.inr 1)), u1] [.inr (.inr (h.2.2.1 1 14))] h
  rw [(show h.2.2.1 1 14 = 101 from (hr.at (by decide) (by decide) (by rfl)))]
  exact ⟨(zo hr (by decide) rfl), J_aret (zat qX10_allAlong 26 (by rfl)) rfl (Nat.le_refl 0) (Nat.le_refl 0) k⟩

theorem bX10_serves_0 {d d' : Nat} {Q : Option MV → MH → Prop} {h : MH} {u0 u2 u3 : Option MV} {v1 : Int32} (hd : d' + 1 ≤ d) (k : Con mX10_isPlan d' 0 0 [.inl v1] h (zri fun (x : Int32) h' => J mX10_serves d 0 0 Q 0 0 4 [u0, some (.inl v1), u2, u3] [.inl x] h')) : J mX10_serves d 0 0 Q 0 0 0 [u0, some (.inl v1), u2, u3] [] h := by
  refine zrun 0 1 qX10_serves (o := 10) rfl ?_
  show J mX10_serves d 0 0 Q 0 0 1 [u0, some (.inl v1), u2, u3] [.inl v1] h
  exact zcSi (as := [.inl v1]) (zat qX10_serves 1 (by rfl)) l10_124 rfl hd rfl (Nat.le_of_ble_eq_true rfl) zle0 k

theorem bX10_serves_4 {d : Nat} {Q : Option MV → MH → Prop} {h : MH} {u0 u1 u2 u3 : Option MV} {vs0 : Int32} (k1 : vs0 = 0 → J mX10_serves d 0 0 Q 0 0 14 [u0, u1, u2, u3] [] h) (k2 : ¬ vs0 = 0 → J mX10_serves d 0 0 Q 0 0 7 [u0, u1, u2, u3] [] h) : J mX10_serves d 0 0 Q 0 0 4 [u0, u1, u2, u3] [.inl vs0] h := by
  refine zrun 2 1 qX10_serves (o := 10) rfl ?_
  show ((vs0 = 0 → J mX10_serves d 0 0 Q 0 0 14 [u0, u1, u2, u3] [] h) ∧ (¬ vs0 = 0 → J mX10_serves d 0 0 Q 0 0 7 [u0, u1, u2, u3] [] h))
  exact ⟨k1, k2⟩

theorem bX10_serves_7 {d d' : Nat} {Q : Option MV → MH → Prop} {h : MH} {u0 u1 u3 : Option MV} {v2 : Int32} (hd : d' + 1 ≤ d) (k : Con mX10_isRow d' 0 0 [.inl v2] h (zri fun (x : Int32) h' => J mX10_serves d 0 0 Q 0 0 11 [u0, u1, some (.inl v2), u3] [.inl x] h')) : J mX10_serves d 0 0 Q 0 0 7 [u0, u1, some (.inl v2), u3] [] h := by
  refine zrun 3 1 qX10_serves (o := 10) rfl ?_
  show J mX10_serves d 0 0 Q 0 0 8 [u0, u1, some (.inl v2), u3] [.inl v2] h
  exact zcSi (as := [.inl v2]) (zat qX10_serves 4 (by rfl)) l10_332 rfl hd rfl (Nat.le_of_ble_eq_true rfl) zle0 k

theorem bX10_serves_11 {d : Nat} {Q : Option MV → MH → Prop} {h : MH} {u0 u1 u2 u3 : Option MV} {vs0 : Int32} (k1 : ¬ vs0 = 0 → J mX10_serves d 0 0 Q 0 0 17 [u0, u1, u2, u3] [] h) (k2 : vs0 = 0 → J mX10_serves d 0 0 Q 0 0 14 [u0, u1, u2, u3] [] h) : J mX10_serves d 0 0 Q 0 0 11 [u0, u1, u2, u3] [.inl vs0] h := by
  refine zrun 5 1 qX10_serves (o := 10) rfl ?_
  show ((¬ vs0 = 0 → J mX10_serves d 0 0 Q 0 0 17 [u0, u1, u2, u3] [] h) ∧ (vs0 = 0 → J mX10_serves d 0 0 Q 0 0 14 [u0, u1, u2, u3] [] h))
  exact ⟨k1, k2⟩

theorem bX10_serves_14 {d : Nat} {Q : Option MV → MH → Prop} {h : MH} {u0 u1 u2 u3 : Option MV} (k : Q (some (.inl (-(nI 2)))) h) : J mX10_serves d 0 0 Q 0 0 14 [u0, u1, u2, u3] [] h := by
  refine zrun 6 1 qX10_serves (o := 10) rfl ?_
  show J mX10_serves d 0 0 Q 0 0 16 [u0, u1, u2, u3] [.inl (-(nI 2))] h
  exact J_iret (ty := .int) (zat qX10_serves 7 (by rfl)) rfl rfl (Nat.le_refl 0) (Nat.le_refl 0) k

theorem bX10_serves_17 {d : Nat} {Q : Option MV → MH → Prop} {h : MH} {u1 u3 : Option MV} {v2 : Int32} (hr : zRf h) (g0 : vp_in v2 4) (k1 : ¬ (h.1 (103 + 2 * v2.toNatClampNeg) 0) = 0 → J mX10_serves d 0 0 Q 0 0 32 [some (.inr (.inr 1)), u1, some (.inl v2), u3] [] h) (k2 : (h.1 (103 + 2 * v2.toNatClampNeg) 0) = 0 → J mX10_serves d 0 0 Q 0 0 29 [some (.inr (.inr 1)), u1, some (.inl v2), u3] [] h) : J mX10_serves d 0 0 Q 0 0 17 [some (.inr (.inr 1)), u1, some (.inl v2), u3] [] h := by
  refine zrun 8 6 qX10_serves (o := 10) rfl ?_
  show zokO h 1 10 ∧ zokR h (h.2.2.1 1 6) v2 ∧ zokO h (h.2.2.1 (h.2.2.1 1 6) v2.toNatClampNeg) 7 ∧ ((¬ (h.1 (h.2.2.1 (h.2.2.1 1 6) v2.toNatClampNeg) 0) = 0 → J mX10_serves d 0 0 Q 0 0 32 [some (.inr (.inr 1)), u1, some (.inl v2), u3] [] h) ∧ ((h.1 (h.2.2.1 (h.2.2.1 1 6) v2.toNatClampNeg) 0) = 0 → J mX10_serves d 0 0 Q 0 0 29 [some (.inr (.inr 1)), u1, some (.inl v2), u3] [] h))
  rw [(show h.2.2.1 1 6 = 47 from (hr.at (by decide) (by decide) (by rfl))), (show h.2.2.1 47 v2.toNatClampNeg = (103 + 2 * v2.toNatClampNeg) from (hr.a32 (vp_lt g0)))]
  exact ⟨(zo hr (by decide) rfl), (zir_ hr (by decide) (by rfl) (by decide) g0), (zrw hr g0), k1, k2⟩

theorem bX10_serves_29 {d : Nat} {Q : Option MV → MH → Prop} {h : MH} {u0 u1 u2 u3 : Option MV} (k : Q (some (.inl (-(nI 6)))) h) : J mX10_serves d 0 0 Q 0 0 29 [u0, u1, u2, u3] [] h := by
  refine zrun 14 1 qX10_serves (o := 10) rfl ?_
  show J mX10_serves d 0 0 Q 0 0 31 [u0, u1, u2, u3] [.inl (-(nI 6))] h
  exact J_iret (ty := .int) (zat qX10_serves 15 (by rfl)) rfl rfl (Nat.le_refl 0) (Nat.le_refl 0) k

theorem bX10_serves_32 {d : Nat} {Q : Option MV → MH → Prop} {h : MH} {u0 u1 u2 : Option MV} {v3 : Int32} (k1 : 0 ≤ v3 → J mX10_serves d 0 0 Q 0 0 39 [u0, u1, u2, some (.inl v3)] [] h) (k2 : ¬ 0 ≤ v3 → J mX10_serves d 0 0 Q 0 0 36 [u0, u1, u2, some (.inl v3)] [] h) : J mX10_serves d 0 0 Q 0 0 32 [u0, u1, u2, some (.inl v3)] [] h := by
  refine zrun 16 2 qX10_serves (o := 10) rfl ?_
  show ((0 ≤ v3 → J mX10_serves d 0 0 Q 0 0 39 [u0, u1, u2, some (.inl v3)] [] h) ∧ (¬ 0 ≤ v3 → J mX10_serves d 0 0 Q 0 0 36 [u0, u1, u2, some (.inl v3)] [] h))
  exact ⟨k1, k2⟩

theorem bX10_serves_36 {d : Nat} {Q : Option MV → MH → Prop} {h : MH} {u0 u1 u2 u3 : Option MV} (k : Q (some (.inl (-(nI 3)))) h) : J mX10_serves d 0 0 Q 0 0 36 [u0, u1, u2, u3] [] h := by
  refine zrun 18 1 qX10_serves (o := 10) rfl ?_
  show J mX10_serves d 0 0 Q 0 0 38 [u0, u1, u2, u3] [.inl (-(nI 3))] h
  exact J_iret (ty := .int) (zat qX10_serves 19 (by rfl)) rfl rfl (Nat.le_refl 0) (Nat.le_refl 0) k

theorem bX10_serves_39 {d d' : Nat} {Q : Option MV → MH → Prop} {h : MH} {v1 v2 v3 : Int32} (hr : zRf h) (g0 : vp_in v2 4) (hd : d' + 1 ≤ d) (k : Con mX10_served d' 0 0 [.inr (.inr 1), .inl v1, .inr (.inr (103 + 2 * v2.toNatClampNeg)), .inl v3] h (zri fun (x : Int32) h' => J mX10_serves d 0 0 Q 0 0 51 [some (.inr (.inr 1)), some (.inl v1), some (.inl v2), some (.inl v3)] [.inl x] h')) : J mX10_serves d 0 0 Q 0 0 39 [some (.inr (.inr 1)), some (.inl v1), some (.inl v2), some (.inl v3)] [] h := by
  refine zrun 20 7 qX10_serves (o := 10) rfl ?_
  show zokO h 1 10 ∧ zokR h (h.2.2.1 1 6) v2 ∧ J mX10_serves d 0 0 Q 0 0 48 [some (.inr (.inr 1)), some (.inl v1), some (.inl v2), some (.inl v3)] [.inl v3, .inr (.inr (h.2.2.1 (h.2.2.1 1 6) v2.toNatClampNeg)), .inl v1, .inr (.inr 1)] h
  rw [(show h.2.2.1 1 6 = 47 from (hr.at (by decide) (by decide) (by rfl))), (show h.2.2.1 47 v2.toNatClampNeg = (103 + 2 * v2.toNatClampNeg) from (hr.a32 (vp_lt g0)))]
  exact ⟨(zo hr (by decide) rfl), (zir_ hr (by decide) (by rfl) (by decide) g0), zcVi (as := [.inl v1, .inr (.inr (103 + 2 * v2.toNatClampNeg)), .inl v3]) (zat qX10_serves 27 (by rfl)) l10_365 rfl hd rfl (Nat.le_of_ble_eq_true rfl) zle0 (ci := 10) (by decide) rfl (zo hr (by decide) rfl) k⟩

theorem bX10_serves_51 {d : Nat} {Q : Option MV → MH → Prop} {h : MH} {u0 u1 u2 u3 : Option MV} {vs0 : Int32} (k : Q (some (.inl vs0)) h) : J mX10_serves d 0 0 Q 0 0 51 [u0, u1, u2, u3] [.inl vs0] h := by
  exact J_iret (ty := .int) (zat qX10_serves 28 (by rfl)) rfl rfl (Nat.le_refl 0) (Nat.le_refl 0) k

theorem bX10_served_0 {d d' : Nat} {Q : Option MV → MH → Prop} {h : MH} {u2 u3 u4 u5 : Option MV} {v1 : Int32} (hr : zRf h) (hd : d' + 1 ≤ d) (k : Con mX10_playAsTold d' 0 0 [.inr (.inr 1), .inl v1] h (zrv fun h' => J mX10_served d 0 0 Q 0 0 5 [some (.inr (.inr 1)), some (.inl v1), u2, u3, u4, u5] [] h')) : J mX10_served d 0 0 Q 0 0 0 [some (.inr (.inr 1)), some (.inl v1), u2, u3, u4, u5] [] h := by
  refine zrun 0 2 qX10_served (o := 10) rfl ?_
  show J mX10_served d 0 0 Q 0 0 2 [some (.inr (.inr 1)), some (.inl v1), u2, u3, u4, u5] [.inl v1, .inr (.inr 1)] h
  exact zcVv (as := [.inl v1]) (zat qX10_served 2 (by rfl)) l10_186 rfl hd rfl (Nat.le_of_ble_eq_true rfl) zle0 (ci := 10) (by decide) rfl (zo hr (by decide) rfl) k

theorem bX10_served_5 {d : Nat} {Q : Option MV → MH → Prop} {h : MH} {u0 u1 u2 u4 u5 : Option MV} {v3 : Int32} (k : J mX10_served d 0 0 Q 0 0 11 [u0, u1, u2, some (.inl v3), some (.inl (nI 0)), some (.inl (nI 0))] [] h) : J mX10_served d 0 0 Q 0 0 5 [u0, u1, u2, some (.inl v3), u4, u5] [] h := by
  refine zrun 3 4 qX10_served (o := 10) rfl ?_
  show J mX10_served d 0 0 Q 0 0 11 [u0, u1, u2, some (.inl v3), some (.inl (nI 0)), some (.inl (nI 0))] [] h
  exact k

theorem bX10_served_11 {d : Nat} {Q : Option MV → MH → Prop} {h : MH} {u0 u1 u3 u4 : Option MV} {v5 : Int32} {v2 : Nat} (g0 : zokO h v2 7) (k1 : (h.1 v2 2) ≤ v5 → J mX10_served d 0 0 Q 0 0 49 [u0, u1, some (.inr (.inr v2)), u3, u4, some (.inl v5)] [] h) (k2 : ¬ (h.1 v2 2) ≤ v5 → J mX10_served d 0 0 Q 0 0 20 [u0, u1, some (.inr (.inr v2)), u3, u4, some (.inl v5)] [] h) : J mX10_served d 0 0 Q 0 0 11 [u0, u1, some (.inr (.inr v2)), u3, u4, some (.inl v5)] [] h := by
  refine zrun 7 4 qX10_served (o := 10) rfl ?_
  show zokO h v2 7 ∧ (((h.1 v2 2) ≤ v5 → J mX10_served d 0 0 Q 0 0 49 [u0, u1, some (.inr (.inr v2)), u3, u4, some (.inl v5)] [] h) ∧ (¬ (h.1 v2 2) ≤ v5 → J mX10_served d 0 0 Q 0 0 20 [u0, u1, some (.inr (.inr v2)), u3, u4, some (.inl v5)] [] h))
  exact ⟨g0, k1, k2⟩

theorem bX10_served_20 {d d' : Nat} {Q : Option MV → MH → Prop} {h : MH} {u1 u4 : Option MV} {v5 v3 : Int32} {v2 : Nat} (hr : zRf h) (g0 : zokO h v2 7) (g1 : vp_in v5 40) (hd : d' + 1 ≤ d) (k : Con mX8_bellNear d' 0 0 [.inr (.inr 48), .inl (nI 0), .inr (.inl (h.2.1 (v2 + 1) v5.toNatClampNeg)), .inl v3] h (zri fun (x : Int32) h' => J mX10_served d 0 0 Q 0 0 36 [some (.inr (.inr 1)), u1, some (.inr (.inr v2)), some (.inl v3), u4, some (.inl v5)] [.inl x] h')) : J mX10_served d 0 0 Q 0 0 20 [some (.inr (.inr 1)), u1, some (.inr (.inr v2)), some (.inl v3), u4, some (.inl v5)] [] h := by
  refine zrun 11 8 qX10_served (o := 10) rfl ?_
  show zokO h 1 10 ∧ zokO h v2 7 ∧ zokA h (h.2.2.1 v2 3) 21 v5 ∧ J mX10_served d 0 0 Q 0 0 33 [some (.inr (.inr 1)), u1, some (.inr (.inr v2)), some (.inl v3), u4, some (.inl v5)] [.inl v3, .inr (.inl (h.2.1 (h.2.2.1 v2 3) v5.toNatClampNeg)), .inl (nI 0), .inr (.inr (h.2.2.1 1 7))] h
  rw [(show h.2.2.1 1 7 = 48 from (hr.at (by decide) (by decide) (by rfl))), (show h.2.2.1 v2 3 = (v2 + 1) from (hr.f7 g0))]
  exact ⟨(zo hr (by decide) rfl), g0, (zca hr g0 (by decide) (by decide) g1), zcVi (as := [.inl (nI 0), .inr (.inl (h.2.1 (v2 + 1) v5.toNatClampNeg)), .inl v3]) (zat qX10_served 19 (by rfl)) l10_375 rfl hd rfl (Nat.le_of_ble_eq_true rfl) zle0 (ci := 8) (by decide) rfl (zo hr (by decide) rfl) k⟩

theorem bX10_served_36 {d : Nat} {Q : Option MV → MH → Prop} {h : MH} {u0 u1 u2 u3 u4 u5 : Option MV} {vs0 : Int32} (k1 : vs0 = (-(nI 1)) → J mX10_served d 0 0 Q 0 0 43 [u0, u1, u2, u3, u4, u5] [] h) (k2 : ¬ vs0 = (-(nI 1)) → J mX10_served d 0 0 Q 0 0 40 [u0, u1, u2, u3, u4, u5] [] h) : J mX10_served d 0 0 Q 0 0 36 [u0, u1, u2, u3, u4, u5] [.inl vs0] h := by
  refine zrun 20 2 qX10_served (o := 10) rfl ?_
  show ((vs0 = (-(nI 1)) → J mX10_served d 0 0 Q 0 0 43 [u0, u1, u2, u3, u4, u5] [] h) ∧ (¬ vs0 = (-(nI 1)) → J mX10_served d 0 0 Q 0 0 40 [u0, u1, u2, u3, u4, u5] [] h))
  exact ⟨k1, k2⟩

theorem bX10_served_40 {d : Nat} {Q : Option MV → MH → Prop} {h : MH} {u0 u1 u2 u5 : Option MV} {v4 v3 : Int32} (k : J mX10_served d 0 0 Q 0 0 43 [u0, u1, u2, some (.inl v3), some (.inl (v4 + nI 1)), u5] [] h) : J mX10_served d 0 0 Q 0 0 40 [u0, u1, u2, some (.inl v3), some (.inl v4), u5] [] h := by
  refine zrun 22 1 qX10_served (o := 10) rfl ?_
  show J mX10_served d 0 0 Q 0 0 43 [u0, u1, u2, some (.inl v3), some (.inl (v4 + nI 1)), u5] [] h
  exact k

theorem bX10_served_43 {d : Nat} {Q : Option MV → MH → Prop} {h : MH} {u0 u1 u2 u3 : Option MV} {v5 v4 : Int32} (k : J mX10_served d 0 0 Q 0 0 11 [u0, u1, u2, u3, some (.inl v4), some (.inl (v5 + nI 1))] [] h) : J mX10_served d 0 0 Q 0 0 43 [u0, u1, u2, u3, some (.inl v4), some (.inl v5)] [] h := by
  refine zrun 23 2 qX10_served (o := 10) rfl ?_
  show J mX10_served d 0 0 Q 0 0 11 [u0, u1, u2, u3, some (.inl v4), some (.inl (v5 + nI 1))] [] h
  exact k

theorem bX10_served_49 {d : Nat} {Q : Option MV → MH → Prop} {h : MH} {u0 u1 u2 u3 u5 : Option MV} {v4 : Int32} (k : Q (some (.inl v4)) h) : J mX10_served d 0 0 Q 0 0 49 [u0, u1, u2, u3, some (.inl v4), u5] [] h := by
  refine zrun 25 1 qX10_served (o := 10) rfl ?_
  show J mX10_served d 0 0 Q 0 0 51 [u0, u1, u2, u3, some (.inl v4), u5] [.inl v4] h
  exact J_iret (ty := .int) (zat qX10_served 26 (by rfl)) rfl rfl (Nat.le_refl 0) (Nat.le_refl 0) k

theorem bX10_fittest_0 {d d' : Nat} {Q : Option MV → MH → Prop} {h : MH} {u0 u2 u3 u4 u5 u6 : Option MV} {v1 : Int32} (hd : d' + 1 ≤ d) (k : Con mX10_isRow d' 0 0 [.inl v1] h (zri fun (x : Int32) h' => J mX10_fittest d 0 0 Q 0 0 4 [u0, some (.inl v1), u2, u3, u4, u5, u6] [.inl x] h')) : J mX10_fittest d 0 0 Q 0 0 0 [u0, some (.inl v1), u2, u3, u4, u5, u6] [] h := by
  refine zrun 0 1 qX10_fittest (o := 10) rfl ?_
  show J mX10_fittest d 0 0 Q 0 0 1 [u0, some (.inl v1), u2, u3, u4, u5, u6] [.inl v1] h
  exact zcSi (as := [.inl v1]) (zat qX10_fittest 1 (by rfl)) l10_332 rfl hd rfl (Nat.le_of_ble_eq_true rfl) zle0 k

theorem bX10_fittest_4 {d : Nat} {Q : Option MV → MH → Prop} {h : MH} {u0 u1 u2 u3 u4 u5 u6 : Option MV} {vs0 : Int32} (k1 : ¬ vs0 = 0 → J mX10_fittest d 0 0 Q 0 0 10 [u0, u1, u2, u3, u4, u5, u6] [] h) (k2 : vs0 = 0 → J mX10_fittest d 0 0 Q 0 0 7 [u0, u1, u2, u3, u4, u5, u6] [] h) : J mX10_fittest d 0 0 Q 0 0 4 [u0, u1, u2, u3, u4, u5, u6] [.inl vs0] h := by
  refine zrun 2 1 qX10_fittest (o := 10) rfl ?_
  show ((¬ vs0 = 0 → J mX10_fittest d 0 0 Q 0 0 10 [u0, u1, u2, u3, u4, u5, u6] [] h) ∧ (vs0 = 0 → J mX10_fittest d 0 0 Q 0 0 7 [u0, u1, u2, u3, u4, u5, u6] [] h))
  exact ⟨k1, k2⟩

theorem bX10_fittest_7 {d : Nat} {Q : Option MV → MH → Prop} {h : MH} {u0 u1 u2 u3 u4 u5 u6 : Option MV} (k : Q (some (.inl (-(nI 2)))) h) : J mX10_fittest d 0 0 Q 0 0 7 [u0, u1, u2, u3, u4, u5, u6] [] h := by
  refine zrun 3 1 qX10_fittest (o := 10) rfl ?_
  show J mX10_fittest d 0 0 Q 0 0 9 [u0, u1, u2, u3, u4, u5, u6] [.inl (-(nI 2))] h
  exact J_iret (ty := .int) (zat qX10_fittest 4 (by rfl)) rfl rfl (Nat.le_refl 0) (Nat.le_refl 0) k

theorem bX10_fittest_10 {d : Nat} {Q : Option MV → MH → Prop} {h : MH} {u2 u3 u4 u5 u6 : Option MV} {v1 : Int32} (hr : zRf h) (g0 : vp_in v1 4) (k1 : ¬ (h.1 (103 + 2 * v1.toNatClampNeg) 0) = 0 → J mX10_fittest d 0 0 Q 0 0 25 [some (.inr (.inr 1)), some (.inl v1), u2, u3, u4, u5, u6] [] h) (k2 : (h.1 (103 + 2 * v1.toNatClampNeg) 0) = 0 → J mX10_fittest d 0 0 Q 0 0 22 [some (.inr (.inr 1)), some (.inl v1), u2, u3, u4, u5, u6] [] h) : J mX10_fittest d 0 0 Q 0 0 10 [some (.inr (.inr 1)), some (.inl v1), u2, u3, u4, u5, u6] [] h := by
  refine zrun 5 6 qX10_fittest (o := 10) rfl ?_
  show zokO h 1 10 ∧ zokR h (h.2.2.1 1 6) v1 ∧ zokO h (h.2.2.1 (h.2.2.1 1 6) v1.toNatClampNeg) 7 ∧ ((¬ (h.1 (h.2.2.1 (h.2.2.1 1 6) v1.toNatClampNeg) 0) = 0 → J mX10_fittest d 0 0 Q 0 0 25 [some (.inr (.inr 1)), some (.inl v1), u2, u3, u4, u5, u6] [] h) ∧ ((h.1 (h.2.2.1 (h.2.2.1 1 6) v1.toNatClampNeg) 0) = 0 → J mX10_fittest d 0 0 Q 0 0 22 [some (.inr (.inr 1)), some (.inl v1), u2, u3, u4, u5, u6] [] h))
  rw [(show h.2.2.1 1 6 = 47 from (hr.at (by decide) (by decide) (by rfl))), (show h.2.2.1 47 v1.toNatClampNeg = (103 + 2 * v1.toNatClampNeg) from (hr.a32 (vp_lt g0)))]
  exact ⟨(zo hr (by decide) rfl), (zir_ hr (by decide) (by rfl) (by decide) g0), (zrw hr g0), k1, k2⟩

theorem bX10_fittest_22 {d : Nat} {Q : Option MV → MH → Prop} {h : MH} {u0 u1 u2 u3 u4 u5 u6 : Option MV} (k : Q (some (.inl (-(nI 6)))) h) : J mX10_fittest d 0 0 Q 0 0 22 [u0, u1, u2, u3, u4, u5, u6] [] h := by
  refine zrun 11 1 qX10_fittest (o := 10) rfl ?_
  show J mX10_fittest d 0 0 Q 0 0 24 [u0, u1, u2, u3, u4, u5, u6] [.inl (-(nI 6))] h
  exact J_iret (ty := .int) (zat qX10_fittest 12 (by rfl)) rfl rfl (Nat.le_refl 0) (Nat.le_refl 0) k

theorem bX10_fittest_25 {d : Nat} {Q : Option MV → MH → Prop} {h : MH} {u0 u1 u3 u4 u5 u6 : Option MV} {v2 : Int32} (k1 : 0 ≤ v2 → J mX10_fittest d 0 0 Q 0 0 32 [u0, u1, some (.inl v2), u3, u4, u5, u6] [] h) (k2 : ¬ 0 ≤ v2 → J mX10_fittest d 0 0 Q 0 0 29 [u0, u1, some (.inl v2), u3, u4, u5, u6] [] h) : J mX10_fittest d 0 0 Q 0 0 25 [u0, u1, some (.inl v2), u3, u4, u5, u6] [] h := by
  refine zrun 13 2 qX10_fittest (o := 10) rfl ?_
  show ((0 ≤ v2 → J mX10_fittest d 0 0 Q 0 0 32 [u0, u1, some (.inl v2), u3, u4, u5, u6] [] h) ∧ (¬ 0 ≤ v2 → J mX10_fittest d 0 0 Q 0 0 29 [u0, u1, some (.inl v2), u3, u4, u5, u6] [] h))
  exact ⟨k1, k2⟩

theorem bX10_fittest_29 {d : Nat} {Q : Option MV → MH → Prop} {h : MH} {u0 u1 u2 u3 u4 u5 u6 : Option MV} (k : Q (some (.inl (-(nI 3)))) h) : J mX10_fittest d 0 0 Q 0 0 29 [u0, u1, u2, u3, u4, u5, u6] [] h := by
  refine zrun 15 1 qX10_fittest (o := 10) rfl ?_
  show J mX10_fittest d 0 0 Q 0 0 31 [u0, u1, u2, u3, u4, u5, u6] [.inl (-(nI 3))] h
  exact J_iret (ty := .int) (zat qX10_fittest 16 (by rfl)) rfl rfl (Nat.le_refl 0) (Nat.le_refl 0) k

theorem bX10_fittest_32 {d : Nat} {Q : Option MV → MH → Prop} {h : MH} {u0 u1 u3 u4 u5 u6 : Option MV} {v2 : Int32} (k : J mX10_fittest d 0 0 Q 0 0 40 [u0, u1, some (.inl v2), some (.inl (-(nI 1))), some (.inl (-(nI 1))), some (.inl (nI 0)), u6] [] h) : J mX10_fittest d 0 0 Q 0 0 32 [u0, u1, some (.inl v2), u3, u4, u5, u6] [] h := by
  refine zrun 17 6 qX10_fittest (o := 10) rfl ?_
  show J mX10_fittest d 0 0 Q 0 0 40 [u0, u1, some (.inl v2), some (.inl (-(nI 1))), some (.inl (-(nI 1))), some (.inl (nI 0)), u6] [] h
  exact k

theorem bX10_fittest_40 {d : Nat} {Q : Option MV → MH → Prop} {h : MH} {u0 u1 u2 u3 u4 u6 : Option MV} {v5 : Int32} (k1 : (nI 4) ≤ v5 → J mX10_fittest d 0 0 Q 0 0 80 [u0, u1, u2, u3, u4, some (.inl v5), u6] [] h) (k2 : ¬ (nI 4) ≤ v5 → J mX10_fittest d 0 0 Q 0 0 46 [u0, u1, u2, u3, u4, some (.inl v5), u6] [] h) : J mX10_fittest d 0 0 Q 0 0 40 [u0, u1, u2, u3, u4, some (.inl v5), u6] [] h := by
  refine zrun 23 3 qX10_fittest (o := 10) rfl ?_
  show (((nI 4) ≤ v5 → J mX10_fittest d 0 0 Q 0 0 80 [u0, u1, u2, u3, u4, some (.inl v5), u6] [] h) ∧ (¬ (nI 4) ≤ v5 → J mX10_fittest d 0 0 Q 0 0 46 [u0, u1, u2, u3, u4, some (.inl v5), u6] [] h))
  exact ⟨k1, k2⟩

theorem bX10_fittest_46 {d d' : Nat} {Q : Option MV → MH → Prop} {h : MH} {u3 u4 u6 : Option MV} {v5 v1 v2 : Int32} (hr : zRf h) (g0 : vp_in v1 4) (hd : d' + 1 ≤ d) (k : Con mX10_served d' 0 0 [.inr (.inr 1), .inl v5, .inr (.inr (103 + 2 * v1.toNatClampNeg)), .inl v2] h (zri fun (x : Int32) h' => J mX10_fittest d 0 0 Q 0 0 59 [some (.inr (.inr 1)), some (.inl v1), some (.inl v2), u3, u4, some (.inl v5), u6] [.inl x] h')) : J mX10_fittest d 0 0 Q 0 0 46 [some (.inr (.inr 1)), some (.inl v1), some (.inl v2), u3, u4, some (.inl v5), u6] [] h := by
  refine zrun 26 7 qX10_fittest (o := 10) rfl ?_
  show zokO h 1 10 ∧ zokR h (h.2.2.1 1 6) v1 ∧ J mX10_fittest d 0 0 Q 0 0 56 [some (.inr (.inr 1)), some (.inl v1), some (.inl v2), u3, u4, some (.inl v5), u6] [.inl v2, .inr (.inr (h.2.2.1 (h.2.2.1 1 6) v1.toNatClampNeg)), .inl v5, .inr (.inr 1)] h
  rw [(show h.2.2.1 1 6 = 47 from (hr.at (by decide) (by decide) (by rfl))), (show h.2.2.1 47 v1.toNatClampNeg = (103 + 2 * v1.toNatClampNeg) from (hr.a32 (vp_lt g0)))]
  exact ⟨(zo hr (by decide) rfl), (zir_ hr (by decide) (by rfl) (by decide) g0), zcVi (as := [.inl v5, .inr (.inr (103 + 2 * v1.toNatClampNeg)), .inl v2]) (zat qX10_fittest 33 (by rfl)) l10_365 rfl hd rfl (Nat.le_of_ble_eq_true rfl) zle0 (ci := 10) (by decide) rfl (zo hr (by decide) rfl) k⟩

theorem bX10_fittest_59 {d : Nat} {Q : Option MV → MH → Prop} {h : MH} {u0 u1 u2 u4 u6 : Option MV} {vs0 v5 v3 : Int32} (k1 : vs0 ≤ v3 → J mX10_fittest d 0 0 Q 0 0 74 [u0, u1, u2, some (.inl v3), u4, some (.inl v5), some (.inl vs0)] [] h) (k2 : ¬ vs0 ≤ v3 → J mX10_fittest d 0 0 Q 0 0 67 [u0, u1, u2, some (.inl v3), u4, some (.inl v5), some (.inl vs0)] [] h) : J mX10_fittest d 0 0 Q 0 0 59 [u0, u1, u2, some (.inl v3), u4, some (.inl v5), u6] [.inl vs0] h := by
  refine zrun 34 4 qX10_fittest (o := 10) rfl ?_
  show ((vs0 ≤ v3 → J mX10_fittest d 0 0 Q 0 0 74 [u0, u1, u2, some (.inl v3), u4, some (.inl v5), some (.inl vs0)] [] h) ∧ (¬ vs0 ≤ v3 → J mX10_fittest d 0 0 Q 0 0 67 [u0, u1, u2, some (.inl v3), u4, some (.inl v5), some (.inl vs0)] [] h))
  exact ⟨k1, k2⟩

theorem bX10_fittest_67 {d : Nat} {Q : Option MV → MH → Prop} {h : MH} {u0 u1 u3 u4 : Option MV} {v6 v2 v5 : Int32} (k : J mX10_fittest d 0 0 Q 0 0 74 [u0, u1, some (.inl v2), some (.inl v6), some (.inl v5), some (.inl v5), some (.inl v6)] [] h) : J mX10_fittest d 0 0 Q 0 0 67 [u0, u1, some (.inl v2), u3, u4, some (.inl v5), some (.inl v6)] [] h := by
  refine zrun 38 4 qX10_fittest (o := 10) rfl ?_
  show J mX10_fittest d 0 0 Q 0 0 74 [u0, u1, some (.inl v2), some (.inl v6), some (.inl v5), some (.inl v5), some (.inl v6)] [] h
  exact k

theorem bX10_fittest_74 {d : Nat} {Q : Option MV → MH → Prop} {h : MH} {u0 u1 u2 u3 u6 : Option MV} {v5 v4 : Int32} (k : J mX10_fittest d 0 0 Q 0 0 40 [u0, u1, u2, u3, some (.inl v4), some (.inl (v5 + nI 1)), u6] [] h) : J mX10_fittest d 0 0 Q 0 0 74 [u0, u1, u2, u3, some (.inl v4), some (.inl v5), u6] [] h := by
  refine zrun 42 2 qX10_fittest (o := 10) rfl ?_
  show J mX10_fittest d 0 0 Q 0 0 40 [u0, u1, u2, u3, some (.inl v4), some (.inl (v5 + nI 1)), u6] [] h
  exact k

theorem bX10_fittest_80 {d : Nat} {Q : Option MV → MH → Prop} {h : MH} {u0 u1 u2 u3 u5 u6 : Option MV} {v4 : Int32} (k : Q (some (.inl v4)) h) : J mX10_fittest d 0 0 Q 0 0 80 [u0, u1, u2, u3, some (.inl v4), u5, u6] [] h := by
  refine zrun 44 1 qX10_fittest (o := 10) rfl ?_
  show J mX10_fittest d 0 0 Q 0 0 82 [u0, u1, u2, u3, some (.inl v4), u5, u6] [.inl v4] h
  exact J_iret (ty := .int) (zat qX10_fittest 45 (by rfl)) rfl rfl (Nat.le_refl 0) (Nat.le_refl 0) k

theorem bX10_log_0 {d d' : Nat} {Q : Option MV → MH → Prop} {h : MH} {u0 : Option MV} {v1 : Int32} (hd : d' + 1 ≤ d) (k : Con mX10_isRow d' 0 0 [.inl v1] h (zri fun (x : Int32) h' => J mX10_log d 0 0 Q 0 0 4 [u0, some (.inl v1)] [.inl x] h')) : J mX10_log d 0 0 Q 0 0 0 [u0, some (.inl v1)] [] h := by
  refine zrun 0 1 qX10_log (o := 10) rfl ?_
  show J mX10_log d 0 0 Q 0 0 1 [u0, some (.inl v1)] [.inl v1] h
  exact zcSi (as := [.inl v1]) (zat qX10_log 1 (by rfl)) l10_332 rfl hd rfl (Nat.le_of_ble_eq_true rfl) zle0 k

theorem bX10_log_4 {d : Nat} {Q : Option MV → MH → Prop} {h : MH} {u0 u1 : Option MV} {vs0 : Int32} (k1 : ¬ vs0 = 0 → J mX10_log d 0 0 Q 0 0 10 [u0, u1] [] h) (k2 : vs0 = 0 → J mX10_log d 0 0 Q 0 0 7 [u0, u1] [] h) : J mX10_log d 0 0 Q 0 0 4 [u0, u1] [.inl vs0] h := by
  refine zrun 2 1 qX10_log (o := 10) rfl ?_
  show ((¬ vs0 = 0 → J mX10_log d 0 0 Q 0 0 10 [u0, u1] [] h) ∧ (vs0 = 0 → J mX10_log d 0 0 Q 0 0 7 [u0, u1] [] h))
  exact ⟨k1, k2⟩

theorem bX10_log_7 {d : Nat} {Q : Option MV → MH → Prop} {h : MH} {u0 u1 : Option MV} (k : Q (some (.inl (-(nI 2)))) h) : J mX10_log d 0 0 Q 0 0 7 [u0, u1] [] h := by
  refine zrun 3 1 qX10_log (o := 10) rfl ?_
  show J mX10_log d 0 0 Q 0 0 9 [u0, u1] [.inl (-(nI 2))] h
  exact J_iret (ty := .int) (zat qX10_log 4 (by rfl)) rfl rfl (Nat.le_refl 0) (Nat.le_refl 0) k

theorem bX10_log_10 {d : Nat} {Q : Option MV → MH → Prop} {h : MH} {v1 : Int32} (hr : zRf h) (g0 : vp_in v1 4) (k1 : (h.1 (103 + 2 * v1.toNatClampNeg) 0) = 0 → J mX10_log d 0 0 Q 0 0 36 [some (.inr (.inr 1)), some (.inl v1)] [] h) (k2 : ¬ (h.1 (103 + 2 * v1.toNatClampNeg) 0) = 0 → J mX10_log d 0 0 Q 0 0 22 [some (.inr (.inr 1)), some (.inl v1)] [] h) : J mX10_log d 0 0 Q 0 0 10 [some (.inr (.inr 1)), some (.inl v1)] [] h := by
  refine zrun 5 6 qX10_log (o := 10) rfl ?_
  show zokO h 1 10 ∧ zokR h (h.2.2.1 1 6) v1 ∧ zokO h (h.2.2.1 (h.2.2.1 1 6) v1.toNatClampNeg) 7 ∧ (((h.1 (h.2.2.1 (h.2.2.1 1 6) v1.toNatClampNeg) 0) = 0 → J mX10_log d 0 0 Q 0 0 36 [some (.inr (.inr 1)), some (.inl v1)] [] h) ∧ (¬ (h.1 (h.2.2.1 (h.2.2.1 1 6) v1.toNatClampNeg) 0) = 0 → J mX10_log d 0 0 Q 0 0 22 [some (.inr (.inr 1)), some (.inl v1)] [] h))
  rw [(show h.2.2.1 1 6 = 47 from (hr.at (by decide) (by decide) (by rfl))), (show h.2.2.1 47 v1.toNatClampNeg = (103 + 2 * v1.toNatClampNeg) from (hr.a32 (vp_lt g0)))]
  exact ⟨(zo hr (by decide) rfl), (zir_ hr (by decide) (by rfl) (by decide) g0), (zrw hr g0), k1, k2⟩

theorem bX10_log_22 {d d' : Nat} {Q : Option MV → MH → Prop} {h : MH} {v1 : Int32} (hr : zRf h) (g0 : vp_in v1 4) (hd : d' + 1 ≤ d) (k : Con mX10_plansOfLog d' 0 0 [.inr (.inr 1), .inr (.inr (103 + 2 * v1.toNatClampNeg)), .inl (nI 0)] h (zri fun (x : Int32) h' => J mX10_log d 0 0 Q 0 0 33 [some (.inr (.inr 1)), some (.inl v1)] [.inl x] h')) : J mX10_log d 0 0 Q 0 0 22 [some (.inr (.inr 1)), some (.inl v1)] [] h := by
  refine zrun 11 6 qX10_log (o := 10) rfl ?_
  show zokO h 1 10 ∧ zokR h (h.2.2.1 1 6) v1 ∧ J mX10_log d 0 0 Q 0 0 30 [some (.inr (.inr 1)), some (.inl v1)] [.inl (nI 0), .inr (.inr (h.2.2.1 (h.2.2.1 1 6) v1.toNatClampNeg)), .inr (.inr 1)] h
  rw [(show h.2.2.1 1 6 = 47 from (hr.at (by decide) (by decide) (by rfl))), (show h.2.2.1 47 v1.toNatClampNeg = (103 + 2 * v1.toNatClampNeg) from (hr.a32 (vp_lt g0)))]
  exact ⟨(zo hr (by decide) rfl), (zir_ hr (by decide) (by rfl) (by decide) g0), zcVi (as := [.inr (.inr (103 + 2 * v1.toNatClampNeg)), .inl (nI 0)]) (zat qX10_log 17 (by rfl)) l10_379 rfl hd rfl (Nat.le_of_ble_eq_true rfl) zle0 (ci := 10) (by decide) rfl (zo hr (by decide) rfl) k⟩

theorem bX10_log_33 {d : Nat} {Q : Option MV → MH → Prop} {h : MH} {u0 u1 : Option MV} {vs0 : Int32} (k : J mX10_log d 0 0 Q 0 0 38 [u0, u1] [.inl vs0] h) : J mX10_log d 0 0 Q 0 0 33 [u0, u1] [.inl vs0] h := by
  refine zrun 18 1 qX10_log (o := 10) rfl ?_
  show J mX10_log d 0 0 Q 0 0 38 [u0, u1] [.inl vs0] h
  exact k

theorem bX10_log_36 {d : Nat} {Q : Option MV → MH → Prop} {h : MH} {u0 u1 : Option MV} (k : J mX10_log d 0 0 Q 0 0 38 [u0, u1] [.inl (-(nI 6))] h) : J mX10_log d 0 0 Q 0 0 36 [u0, u1] [] h := by
  refine zrun 19 1 qX10_log (o := 10) rfl ?_
  show J mX10_log d 0 0 Q 0 0 38 [u0, u1] [.inl (-(nI 6))] h
  exact k

theorem bX10_log_38 {d : Nat} {Q : Option MV → MH → Prop} {h : MH} {u0 u1 : Option MV} {vs0 : Int32} (k : Q (some (.inl vs0)) h) : J mX10_log d 0 0 Q 0 0 38 [u0, u1] [.inl vs0] h := by
  exact J_iret (ty := .int) (zat qX10_log 20 (by rfl)) rfl rfl (Nat.le_refl 0) (Nat.le_refl 0) k

theorem bX10_nearly_0 {d d' : Nat} {Q : Option MV → MH → Prop} {h : MH} {u0 u2 : Option MV} {v1 : Int32} (hd : d' + 1 ≤ d) (k : Con mX10_isRow d' 0 0 [.inl v1] h (zri fun (x : Int32) h' => J mX10_nearly d 0 0 Q 0 0 4 [u0, some (.inl v1), u2] [.inl x] h')) : J mX10_nearly d 0 0 Q 0 0 0 [u0, some (.inl v1), u2] [] h := by
  refine zrun 0 1 qX10_nearly (o := 10) rfl ?_
  show J mX10_nearly d 0 0 Q 0 0 1 [u0, some (.inl v1), u2] [.inl v1] h
  exact zcSi (as := [.inl v1]) (zat qX10_nearly 1 (by rfl)) l10_332 rfl hd rfl (Nat.le_of_ble_eq_true rfl) zle0 k

theorem bX10_nearly_4 {d : Nat} {Q : Option MV → MH → Prop} {h : MH} {u0 u1 u2 : Option MV} {vs0 : Int32} (k1 : ¬ vs0 = 0 → J mX10_nearly d 0 0 Q 0 0 10 [u0, u1, u2] [] h) (k2 : vs0 = 0 → J mX10_nearly d 0 0 Q 0 0 7 [u0, u1, u2] [] h) : J mX10_nearly d 0 0 Q 0 0 4 [u0, u1, u2] [.inl vs0] h := by
  refine zrun 2 1 qX10_nearly (o := 10) rfl ?_
  show ((¬ vs0 = 0 → J mX10_nearly d 0 0 Q 0 0 10 [u0, u1, u2] [] h) ∧ (vs0 = 0 → J mX10_nearly d 0 0 Q 0 0 7 [u0, u1, u2] [] h))
  exact ⟨k1, k2⟩

theorem bX10_nearly_7 {d : Nat} {Q : Option MV → MH → Prop} {h : MH} {u0 u1 u2 : Option MV} (k : Q (some (.inl (-(nI 2)))) h) : J mX10_nearly d 0 0 Q 0 0 7 [u0, u1, u2] [] h := by
  refine zrun 3 1 qX10_nearly (o := 10) rfl ?_
  show J mX10_nearly d 0 0 Q 0 0 9 [u0, u1, u2] [.inl (-(nI 2))] h
  exact J_iret (ty := .int) (zat qX10_nearly 4 (by rfl)) rfl rfl (Nat.le_refl 0) (Nat.le_refl 0) k

theorem bX10_nearly_10 {d : Nat} {Q : Option MV → MH → Prop} {h : MH} {u2 : Option MV} {v1 : Int32} (hr : zRf h) (g0 : vp_in v1 4) (k1 : ¬ (h.1 (103 + 2 * v1.toNatClampNeg) 0) = 0 → J mX10_nearly d 0 0 Q 0 0 25 [some (.inr (.inr 1)), some (.inl v1), u2] [] h) (k2 : (h.1 (103 + 2 * v1.toNatClampNeg) 0) = 0 → J mX10_nearly d 0 0 Q 0 0 22 [some (.inr (.inr 1)), some (.inl v1), u2] [] h) : J mX10_nearly d 0 0 Q 0 0 10 [some (.inr (.inr 1)), some (.inl v1), u2] [] h := by
  refine zrun 5 6 qX10_nearly (o := 10) rfl ?_
  show zokO h 1 10 ∧ zokR h (h.2.2.1 1 6) v1 ∧ zokO h (h.2.2.1 (h.2.2.1 1 6) v1.toNatClampNeg) 7 ∧ ((¬ (h.1 (h.2.2.1 (h.2.2.1 1 6) v1.toNatClampNeg) 0) = 0 → J mX10_nearly d 0 0 Q 0 0 25 [some (.inr (.inr 1)), some (.inl v1), u2] [] h) ∧ ((h.1 (h.2.2.1 (h.2.2.1 1 6) v1.toNatClampNeg) 0) = 0 → J mX10_nearly d 0 0 Q 0 0 22 [some (.inr (.inr 1)), some (.inl v1), u2] [] h))
  rw [(show h.2.2.1 1 6 = 47 from (hr.at (by decide) (by decide) (by rfl))), (show h.2.2.1 47 v1.toNatClampNeg = (103 + 2 * v1.toNatClampNeg) from (hr.a32 (vp_lt g0)))]
  exact ⟨(zo hr (by decide) rfl), (zir_ hr (by decide) (by rfl) (by decide) g0), (zrw hr g0), k1, k2⟩

theorem bX10_nearly_22 {d : Nat} {Q : Option MV → MH → Prop} {h : MH} {u0 u1 u2 : Option MV} (k : Q (some (.inl (-(nI 6)))) h) : J mX10_nearly d 0 0 Q 0 0 22 [u0, u1, u2] [] h := by
  refine zrun 11 1 qX10_nearly (o := 10) rfl ?_
  show J mX10_nearly d 0 0 Q 0 0 24 [u0, u1, u2] [.inl (-(nI 6))] h
  exact J_iret (ty := .int) (zat qX10_nearly 12 (by rfl)) rfl rfl (Nat.le_refl 0) (Nat.le_refl 0) k

theorem bX10_nearly_25 {d : Nat} {Q : Option MV → MH → Prop} {h : MH} {u0 u1 : Option MV} {v2 : Int32} (k1 : 0 ≤ v2 → J mX10_nearly d 0 0 Q 0 0 34 [u0, u1, some (.inl v2)] [] h) (k2 : ¬ 0 ≤ v2 → J mX10_nearly d 0 0 Q 0 0 29 [u0, u1, some (.inl v2)] [] h) : J mX10_nearly d 0 0 Q 0 0 25 [u0, u1, some (.inl v2)] [] h := by
  refine zrun 13 2 qX10_nearly (o := 10) rfl ?_
  show ((0 ≤ v2 → J mX10_nearly d 0 0 Q 0 0 34 [u0, u1, some (.inl v2)] [] h) ∧ (¬ 0 ≤ v2 → J mX10_nearly d 0 0 Q 0 0 29 [u0, u1, some (.inl v2)] [] h))
  exact ⟨k1, k2⟩

theorem bX10_nearly_29 {d : Nat} {Q : Option MV → MH → Prop} {h : MH} {u0 u1 u2 : Option MV} (k : J mX10_nearly d 0 0 Q 0 0 45 [u0, u1, u2] [.inl (-(nI 3))] h) : J mX10_nearly d 0 0 Q 0 0 29 [u0, u1, u2] [] h := by
  refine zrun 15 2 qX10_nearly (o := 10) rfl ?_
  show J mX10_nearly d 0 0 Q 0 0 45 [u0, u1, u2] [.inl (-(nI 3))] h
  exact k

theorem bX10_nearly_34 {d d' : Nat} {Q : Option MV → MH → Prop} {h : MH} {v1 v2 : Int32} (hr : zRf h) (g0 : vp_in v1 4) (hd : d' + 1 ≤ d) (k : Con mX10_plansOfLog d' 0 0 [.inr (.inr 1), .inr (.inr (103 + 2 * v1.toNatClampNeg)), .inl v2] h (zri fun (x : Int32) h' => J mX10_nearly d 0 0 Q 0 0 45 [some (.inr (.inr 1)), some (.inl v1), some (.inl v2)] [.inl x] h')) : J mX10_nearly d 0 0 Q 0 0 34 [some (.inr (.inr 1)), some (.inl v1), some (.inl v2)] [] h := by
  refine zrun 17 6 qX10_nearly (o := 10) rfl ?_
  show zokO h 1 10 ∧ zokR h (h.2.2.1 1 6) v1 ∧ J mX10_nearly d 0 0 Q 0 0 42 [some (.inr (.inr 1)), some (.inl v1), some (.inl v2)] [.inl v2, .inr (.inr (h.2.2.1 (h.2.2.1 1 6) v1.toNatClampNeg)), .inr (.inr 1)] h
  rw [(show h.2.2.1 1 6 = 47 from (hr.at (by decide) (by decide) (by rfl))), (show h.2.2.1 47 v1.toNatClampNeg = (103 + 2 * v1.toNatClampNeg) from (hr.a32 (vp_lt g0)))]
  exact ⟨(zo hr (by decide) rfl), (zir_ hr (by decide) (by rfl) (by decide) g0), zcVi (as := [.inr (.inr (103 + 2 * v1.toNatClampNeg)), .inl v2]) (zat qX10_nearly 23 (by rfl)) l10_379 rfl hd rfl (Nat.le_of_ble_eq_true rfl) zle0 (ci := 10) (by decide) rfl (zo hr (by decide) rfl) k⟩

theorem bX10_nearly_45 {d : Nat} {Q : Option MV → MH → Prop} {h : MH} {u0 u1 u2 : Option MV} {vs0 : Int32} (k : Q (some (.inl vs0)) h) : J mX10_nearly d 0 0 Q 0 0 45 [u0, u1, u2] [.inl vs0] h := by
  exact J_iret (ty := .int) (zat qX10_nearly 24 (by rfl)) rfl rfl (Nat.le_refl 0) (Nat.le_refl 0) k

theorem bX10_plansOfLog_0 {d : Nat} {Q : Option MV → MH → Prop} {h : MH} {u0 u1 u3 u4 : Option MV} {v2 : Int32} (k : J mX10_plansOfLog d 0 0 Q 0 0 5 [u0, u1, some (.inl v2), some (.inl (nI 0)), some (.inl (nI 0))] [] h) : J mX10_plansOfLog d 0 0 Q 0 0 0 [u0, u1, some (.inl v2), u3, u4] [] h := by
  refine zrun 0 4 qX10_plansOfLog (o := 10) rfl ?_
  show J mX10_plansOfLog d 0 0 Q 0 0 5 [u0, u1, some (.inl v2), some (.inl (nI 0)), some (.inl (nI 0))] [] h
  exact k

theorem bX10_plansOfLog_5 {d : Nat} {Q : Option MV → MH → Prop} {h : MH} {u0 u1 u2 u3 : Option MV} {v4 : Int32} (k1 : (nI 4) ≤ v4 → J mX10_plansOfLog d 0 0 Q 0 0 43 [u0, u1, u2, u3, some (.inl v4)] [] h) (k2 : ¬ (nI 4) ≤ v4 → J mX10_plansOfLog d 0 0 Q 0 0 11 [u0, u1, u2, u3, some (.inl v4)] [] h) : J mX10_plansOfLog d 0 0 Q 0 0 5 [u0, u1, u2, u3, some (.inl v4)] [] h := by
  refine zrun 4 3 qX10_plansOfLog (o := 10) rfl ?_
  show (((nI 4) ≤ v4 → J mX10_plansOfLog d 0 0 Q 0 0 43 [u0, u1, u2, u3, some (.inl v4)] [] h) ∧ (¬ (nI 4) ≤ v4 → J mX10_plansOfLog d 0 0 Q 0 0 11 [u0, u1, u2, u3, some (.inl v4)] [] h))
  exact ⟨k1, k2⟩

theorem bX10_plansOfLog_11 {d d' : Nat} {Q : Option MV → MH → Prop} {h : MH} {u1 u2 u3 : Option MV} {v4 : Int32} (hr : zRf h) (hd : d' + 1 ≤ d) (k : Con mX10_playAsTold d' 0 0 [.inr (.inr 1), .inl v4] h (zrv fun h' => J mX10_plansOfLog d 0 0 Q 0 0 17 [some (.inr (.inr 1)), u1, u2, u3, some (.inl v4)] [] h')) : J mX10_plansOfLog d 0 0 Q 0 0 11 [some (.inr (.inr 1)), u1, u2, u3, some (.inl v4)] [] h := by
  refine zrun 7 2 qX10_plansOfLog (o := 10) rfl ?_
  show J mX10_plansOfLog d 0 0 Q 0 0 14 [some (.inr (.inr 1)), u1, u2, u3, some (.inl v4)] [.inl v4, .inr (.inr 1)] h
  exact zcVv (as := [.inl v4]) (zat qX10_plansOfLog 9 (by rfl)) l10_186 rfl hd rfl (Nat.le_of_ble_eq_true rfl) zle0 (ci := 10) (by decide) rfl (zo hr (by decide) rfl) k

theorem bX10_plansOfLog_17 {d d' : Nat} {Q : Option MV → MH → Prop} {h : MH} {u3 u4 : Option MV} {v2 : Int32} {v1 : Nat} (hr : zRf h) (hd : d' + 1 ≤ d) (k : Con mX10_heard d' 0 0 [.inr (.inr 1), .inr (.inr v1), .inl v2] h (zrl fun (x : Int64) h' => J mX10_plansOfLog d 0 0 Q 0 0 23 [some (.inr (.inr 1)), some (.inr (.inr v1)), some (.inl v2), u3, u4] [.inr (.inl x)] h')) : J mX10_plansOfLog d 0 0 Q 0 0 17 [some (.inr (.inr 1)), some (.inr (.inr v1)), some (.inl v2), u3, u4] [] h := by
  refine zrun 10 3 qX10_plansOfLog (o := 10) rfl ?_
  show J mX10_plansOfLog d 0 0 Q 0 0 20 [some (.inr (.inr 1)), some (.inr (.inr v1)), some (.inl v2), u3, u4] [.inl v2, .inr (.inr v1), .inr (.inr 1)] h
  exact zcVl (as := [.inr (.inr v1), .inl v2]) (zat qX10_plansOfLog 13 (by rfl)) l10_383 rfl hd rfl (Nat.le_of_ble_eq_true rfl) zle0 (ci := 10) (by decide) rfl (zo hr (by decide) rfl) k

theorem bX10_plansOfLog_23 {d : Nat} {Q : Option MV → MH → Prop} {h : MH} {u0 u1 u2 u3 u4 : Option MV} {vs0 : Int64} (k1 : (lg_cmp vs0 (-1 : Int64)) = 0 → J mX10_plansOfLog d 0 0 Q 0 0 37 [u0, u1, u2, u3, u4] [] h) (k2 : ¬ (lg_cmp vs0 (-1 : Int64)) = 0 → J mX10_plansOfLog d 0 0 Q 0 0 30 [u0, u1, u2, u3, u4] [] h) : J mX10_plansOfLog d 0 0 Q 0 0 23 [u0, u1, u2, u3, u4] [.inr (.inl vs0)] h := by
  refine zrun 14 3 qX10_plansOfLog (o := 10) rfl ?_
  show (((lg_cmp vs0 (-1 : Int64)) = 0 → J mX10_plansOfLog d 0 0 Q 0 0 37 [u0, u1, u2, u3, u4] [] h) ∧ (¬ (lg_cmp vs0 (-1 : Int64)) = 0 → J mX10_plansOfLog d 0 0 Q 0 0 30 [u0, u1, u2, u3, u4] [] h))
  exact ⟨k1, k2⟩

theorem bX10_plansOfLog_30 {d : Nat} {Q : Option MV → MH → Prop} {h : MH} {u0 u1 : Option MV} {v3 v4 v2 : Int32} (k : J mX10_plansOfLog d 0 0 Q 0 0 37 [u0, u1, some (.inl v2), some (.inl (v3 ||| ((nI 1) <<< (v4 &&& 31)))), some (.inl v4)] [] h) : J mX10_plansOfLog d 0 0 Q 0 0 30 [u0, u1, some (.inl v2), some (.inl v3), some (.inl v4)] [] h := by
  refine zrun 17 6 qX10_plansOfLog (o := 10) rfl ?_
  show J mX10_plansOfLog d 0 0 Q 0 0 37 [u0, u1, some (.inl v2), some (.inl (v3 ||| ((nI 1) <<< (v4 &&& 31)))), some (.inl v4)] [] h
  exact k

theorem bX10_plansOfLog_37 {d : Nat} {Q : Option MV → MH → Prop} {h : MH} {u0 u1 u2 : Option MV} {v4 v3 : Int32} (k : J mX10_plansOfLog d 0 0 Q 0 0 5 [u0, u1, u2, some (.inl v3), some (.inl (v4 + nI 1))] [] h) : J mX10_plansOfLog d 0 0 Q 0 0 37 [u0, u1, u2, some (.inl v3), some (.inl v4)] [] h := by
  refine zrun 23 2 qX10_plansOfLog (o := 10) rfl ?_
  show J mX10_plansOfLog d 0 0 Q 0 0 5 [u0, u1, u2, some (.inl v3), some (.inl (v4 + nI 1))] [] h
  exact k

theorem bX10_plansOfLog_43 {d : Nat} {Q : Option MV → MH → Prop} {h : MH} {u0 u1 u2 u4 : Option MV} {v3 : Int32} (k : Q (some (.inl v3)) h) : J mX10_plansOfLog d 0 0 Q 0 0 43 [u0, u1, u2, some (.inl v3), u4] [] h := by
  refine zrun 25 1 qX10_plansOfLog (o := 10) rfl ?_
  show J mX10_plansOfLog d 0 0 Q 0 0 44 [u0, u1, u2, some (.inl v3), u4] [.inl v3] h
  exact J_iret (ty := .int) (zat qX10_plansOfLog 26 (by rfl)) rfl rfl (Nat.le_refl 0) (Nat.le_refl 0) k

theorem bX10_heard_0 {d : Nat} {Q : Option MV → MH → Prop} {h : MH} {u0 u1 u3 u4 u5 u6 u7 : Option MV} {v2 : Int32} (k : J mX10_heard d 0 0 Q 0 0 8 [u0, u1, some (.inl v2), some (.inr (.inl (lN 0))), none, some (.inl (nI 0)), some (.inl (nI 0)), u7] [] h) : J mX10_heard d 0 0 Q 0 0 0 [u0, u1, some (.inl v2), u3, u4, u5, u6, u7] [] h := by
  refine zrun 0 6 qX10_heard (o := 10) rfl ?_
  show J mX10_heard d 0 0 Q 0 0 8 [u0, u1, some (.inl v2), some (.inr (.inl (lN 0))), none, some (.inl (nI 0)), some (.inl (nI 0)), u7] [] h
  exact k

theorem bX10_heard_8 {d : Nat} {Q : Option MV → MH → Prop} {h : MH} {u0 u2 u3 u4 u5 u7 : Option MV} {v6 : Int32} {v1 : Nat} (g0 : zokO h v1 7) (k1 : (h.1 v1 2) ≤ v6 → J mX10_heard d 0 0 Q 0 0 65 [u0, some (.inr (.inr v1)), u2, u3, u4, u5, some (.inl v6), u7] [] h) (k2 : ¬ (h.1 v1 2) ≤ v6 → J mX10_heard d 0 0 Q 0 0 17 [u0, some (.inr (.inr v1)), u2, u3, u4, u5, some (.inl v6), u7] [] h) : J mX10_heard d 0 0 Q 0 0 8 [u0, some (.inr (.inr v1)), u2, u3, u4, u5, some (.inl v6), u7] [] h := by
  refine zrun 6 4 qX10_heard (o := 10) rfl ?_
  show zokO h v1 7 ∧ (((h.1 v1 2) ≤ v6 → J mX10_heard d 0 0 Q 0 0 65 [u0, some (.inr (.inr v1)), u2, u3, u4, u5, some (.inl v6), u7] [] h) ∧ (¬ (h.1 v1 2) ≤ v6 → J mX10_heard d 0 0 Q 0 0 17 [u0, some (.inr (.inr v1)), u2, u3, u4, u5, some (.inl v6), u7] [] h))
  exact ⟨g0, k1, k2⟩

theorem bX10_heard_17 {d d' : Nat} {Q : Option MV → MH → Prop} {h : MH} {u3 u4 u7 : Option MV} {v5 v6 v2 : Int32} {v1 : Nat} (hr : zRf h) (g0 : zokO h v1 7) (g1 : vp_in v6 40) (hd : d' + 1 ≤ d) (k : Con mX8_bellNear d' 0 0 [.inr (.inr 48), .inl v5, .inr (.inl (h.2.1 (v1 + 1) v6.toNatClampNeg)), .inl v2] h (zri fun (x : Int32) h' => J mX10_heard d 0 0 Q 0 0 34 [some (.inr (.inr 1)), some (.inr (.inr v1)), some (.inl v2), u3, u4, some (.inl v5), some (.inl v6), u7] [.inl x] h')) : J mX10_heard d 0 0 Q 0 0 17 [some (.inr (.inr 1)), some (.inr (.inr v1)), some (.inl v2), u3, u4, some (.inl v5), some (.inl v6), u7] [] h := by
  refine zrun 10 8 qX10_heard (o := 10) rfl ?_
  show zokO h 1 10 ∧ zokO h v1 7 ∧ zokA h (h.2.2.1 v1 3) 21 v6 ∧ J mX10_heard d 0 0 Q 0 0 31 [some (.inr (.inr 1)), some (.inr (.inr v1)), some (.inl v2), u3, u4, some (.inl v5), some (.inl v6), u7] [.inl v2, .inr (.inl (h.2.1 (h.2.2.1 v1 3) v6.toNatClampNeg)), .inl v5, .inr (.inr (h.2.2.1 1 7))] h
  rw [(show h.2.2.1 1 7 = 48 from (hr.at (by decide) (by decide) (by rfl))), (show h.2.2.1 v1 3 = (v1 + 1) from (hr.f7 g0))]
  exact ⟨(zo hr (by decide) rfl), g0, (zca hr g0 (by decide) (by decide) g1), zcVi (as := [.inl v5, .inr (.inl (h.2.1 (v1 + 1) v6.toNatClampNeg)), .inl v2]) (zat qX10_heard 18 (by rfl)) l10_375 rfl hd rfl (Nat.le_of_ble_eq_true rfl) zle0 (ci := 8) (by decide) rfl (zo hr (by decide) rfl) k⟩

theorem bX10_heard_34 {d : Nat} {Q : Option MV → MH → Prop} {h : MH} {u0 u1 u2 u3 u4 u5 u7 : Option MV} {vs0 v6 : Int32} (k1 : ¬ vs0 = (-(nI 1)) → J mX10_heard d 0 0 Q 0 0 46 [u0, u1, u2, u3, u4, u5, some (.inl v6), some (.inl vs0)] [] h) (k2 : vs0 = (-(nI 1)) → J mX10_heard d 0 0 Q 0 0 42 [u0, u1, u2, u3, u4, u5, some (.inl v6), some (.inl vs0)] [] h) : J mX10_heard d 0 0 Q 0 0 34 [u0, u1, u2, u3, u4, u5, some (.inl v6), u7] [.inl vs0] h := by
  refine zrun 19 4 qX10_heard (o := 10) rfl ?_
  show ((¬ vs0 = (-(nI 1)) → J mX10_heard d 0 0 Q 0 0 46 [u0, u1, u2, u3, u4, u5, some (.inl v6), some (.inl vs0)] [] h) ∧ (vs0 = (-(nI 1)) → J mX10_heard d 0 0 Q 0 0 42 [u0, u1, u2, u3, u4, u5, some (.inl v6), some (.inl vs0)] [] h))
  exact ⟨k1, k2⟩

theorem bX10_heard_42 {d : Nat} {Q : Option MV → MH → Prop} {h : MH} {u0 u1 u2 u3 u4 u5 u6 u7 : Option MV} (k : Q (some (.inr (.inl (-1 : Int64)))) h) : J mX10_heard d 0 0 Q 0 0 42 [u0, u1, u2, u3, u4, u5, u6, u7] [] h := by
  refine zrun 23 1 qX10_heard (o := 10) rfl ?_
  show J mX10_heard d 0 0 Q 0 0 45 [u0, u1, u2, u3, u4, u5, u6, u7] [.inr (.inl (-1 : Int64))] h
  exact J_lret (zat qX10_heard 24 (by rfl)) rfl (Nat.le_refl 0) (Nat.le_refl 0) k

theorem bX10_heard_46 {d : Nat} {Q : Option MV → MH → Prop} {h : MH} {u0 u1 u4 u5 : Option MV} {v7 v2 v6 : Int32} {v3 : Int64} (k : J mX10_heard d 0 0 Q 0 0 8 [u0, u1, some (.inl v2), some (.inr (.inl (v3 ||| ((lN 1) <<< (v7.toInt64 &&& 63))))), none, some (.inl (v7 + (nI 1))), some (.inl (v6 + nI 1)), some (.inl v7)] [] h) : J mX10_heard d 0 0 Q 0 0 46 [u0, u1, some (.inl v2), some (.inr (.inl v3)), u4, u5, some (.inl v6), some (.inl v7)] [] h := by
  refine zrun 25 12 qX10_heard (o := 10) rfl ?_
  show J mX10_heard d 0 0 Q 0 0 8 [u0, u1, some (.inl v2), some (.inr (.inl (v3 ||| ((lN 1) <<< (v7.toInt64 &&& 63))))), none, some (.inl (v7 + (nI 1))), some (.inl (v6 + nI 1)), some (.inl v7)] [] h
  exact k

theorem bX10_heard_65 {d : Nat} {Q : Option MV → MH → Prop} {h : MH} {u0 u1 u2 u4 u5 u6 u7 : Option MV} {v3 : Int64} (k : Q (some (.inr (.inl v3))) h) : J mX10_heard d 0 0 Q 0 0 65 [u0, u1, u2, some (.inr (.inl v3)), u4, u5, u6, u7] [] h := by
  refine zrun 37 1 qX10_heard (o := 10) rfl ?_
  show J mX10_heard d 0 0 Q 0 0 66 [u0, u1, u2, some (.inr (.inl v3)), u4, u5, u6, u7] [.inr (.inl v3)] h
  exact J_lret (zat qX10_heard 38 (by rfl)) rfl (Nat.le_refl 0) (Nat.le_refl 0) k

theorem bX10_missed_0 {d d' : Nat} {Q : Option MV → MH → Prop} {h : MH} {u0 u2 u3 u4 u5 u6 u7 : Option MV} {v1 : Int32} (hd : d' + 1 ≤ d) (k : Con mX10_isPlan d' 0 0 [.inl v1] h (zri fun (x : Int32) h' => J mX10_missed d 0 0 Q 0 0 4 [u0, some (.inl v1), u2, u3, u4, u5, u6, u7] [.inl x] h')) : J mX10_missed d 0 0 Q 0 0 0 [u0, some (.inl v1), u2, u3, u4, u5, u6, u7] [] h := by
  refine zrun 0 1 qX10_missed (o := 10) rfl ?_
  show J mX10_missed d 0 0 Q 0 0 1 [u0, some (.inl v1), u2, u3, u4, u5, u6, u7] [.inl v1] h
  exact zcSi (as := [.inl v1]) (zat qX10_missed 1 (by rfl)) l10_124 rfl hd rfl (Nat.le_of_ble_eq_true rfl) zle0 k

theorem bX10_missed_4 {d : Nat} {Q : Option MV → MH → Prop} {h : MH} {u0 u1 u2 u3 u4 u5 u6 u7 : Option MV} {vs0 : Int32} (k1 : vs0 = 0 → J mX10_missed d 0 0 Q 0 0 14 [u0, u1, u2, u3, u4, u5, u6, u7] [] h) (k2 : ¬ vs0 = 0 → J mX10_missed d 0 0 Q 0 0 7 [u0, u1, u2, u3, u4, u5, u6, u7] [] h) : J mX10_missed d 0 0 Q 0 0 4 [u0, u1, u2, u3, u4, u5, u6, u7] [.inl vs0] h := by
  refine zrun 2 1 qX10_missed (o := 10) rfl ?_
  show ((vs0 = 0 → J mX10_missed d 0 0 Q 0 0 14 [u0, u1, u2, u3, u4, u5, u6, u7] [] h) ∧ (¬ vs0 = 0 → J mX10_missed d 0 0 Q 0 0 7 [u0, u1, u2, u3, u4, u5, u6, u7] [] h))
  exact ⟨k1, k2⟩

theorem bX10_missed_7 {d d' : Nat} {Q : Option MV → MH → Prop} {h : MH} {u0 u1 u3 u4 u5 u6 u7 : Option MV} {v2 : Int32} (hd : d' + 1 ≤ d) (k : Con mX10_isRow d' 0 0 [.inl v2] h (zri fun (x : Int32) h' => J mX10_missed d 0 0 Q 0 0 11 [u0, u1, some (.inl v2), u3, u4, u5, u6, u7] [.inl x] h')) : J mX10_missed d 0 0 Q 0 0 7 [u0, u1, some (.inl v2), u3, u4, u5, u6, u7] [] h := by
  refine zrun 3 1 qX10_missed (o := 10) rfl ?_
  show J mX10_missed d 0 0 Q 0 0 8 [u0, u1, some (.inl v2), u3, u4, u5, u6, u7] [.inl v2] h
  exact zcSi (as := [.inl v2]) (zat qX10_missed 4 (by rfl)) l10_332 rfl hd rfl (Nat.le_of_ble_eq_true rfl) zle0 k

theorem bX10_missed_11 {d : Nat} {Q : Option MV → MH → Prop} {h : MH} {u0 u1 u2 u3 u4 u5 u6 u7 : Option MV} {vs0 : Int32} (k1 : ¬ vs0 = 0 → J mX10_missed d 0 0 Q 0 0 17 [u0, u1, u2, u3, u4, u5, u6, u7] [] h) (k2 : vs0 = 0 → J mX10_missed d 0 0 Q 0 0 14 [u0, u1, u2, u3, u4, u5, u6, u7] [] h) : J mX10_missed d 0 0 Q 0 0 11 [u0, u1, u2, u3, u4, u5, u6, u7] [.inl vs0] h := by
  refine zrun 5 1 qX10_missed (o := 10) rfl ?_
  show ((¬ vs0 = 0 → J mX10_missed d 0 0 Q 0 0 17 [u0, u1, u2, u3, u4, u5, u6, u7] [] h) ∧ (vs0 = 0 → J mX10_missed d 0 0 Q 0 0 14 [u0, u1, u2, u3, u4, u5, u6, u7] [] h))
  exact ⟨k1, k2⟩

theorem bX10_missed_14 {d : Nat} {Q : Option MV → MH → Prop} {h : MH} {u0 u1 u2 u3 u4 u5 u6 u7 : Option MV} (k : Q (some (.inl (-(nI 2)))) h) : J mX10_missed d 0 0 Q 0 0 14 [u0, u1, u2, u3, u4, u5, u6, u7] [] h := by
  refine zrun 6 1 qX10_missed (o := 10) rfl ?_
  show J mX10_missed d 0 0 Q 0 0 16 [u0, u1, u2, u3, u4, u5, u6, u7] [.inl (-(nI 2))] h
  exact J_iret (ty := .int) (zat qX10_missed 7 (by rfl)) rfl rfl (Nat.le_refl 0) (Nat.le_refl 0) k

theorem bX10_missed_17 {d : Nat} {Q : Option MV → MH → Prop} {h : MH} {u1 u3 u4 u5 u6 u7 : Option MV} {v2 : Int32} (hr : zRf h) (g0 : vp_in v2 4) (k1 : ¬ (h.1 (103 + 2 * v2.toNatClampNeg) 0) = 0 → J mX10_missed d 0 0 Q 0 0 32 [some (.inr (.inr 1)), u1, some (.inl v2), u3, u4, u5, u6, u7] [] h) (k2 : (h.1 (103 + 2 * v2.toNatClampNeg) 0) = 0 → J mX10_missed d 0 0 Q 0 0 29 [some (.inr (.inr 1)), u1, some (.inl v2), u3, u4, u5, u6, u7] [] h) : J mX10_missed d 0 0 Q 0 0 17 [some (.inr (.inr 1)), u1, some (.inl v2), u3, u4, u5, u6, u7] [] h := by
  refine zrun 8 6 qX10_missed (o := 10) rfl ?_
  show zokO h 1 10 ∧ zokR h (h.2.2.1 1 6) v2 ∧ zokO h (h.2.2.1 (h.2.2.1 1 6) v2.toNatClampNeg) 7 ∧ ((¬ (h.1 (h.2.2.1 (h.2.2.1 1 6) v2.toNatClampNeg) 0) = 0 → J mX10_missed d 0 0 Q 0 0 32 [some (.inr (.inr 1)), u1, some (.inl v2), u3, u4, u5, u6, u7] [] h) ∧ ((h.1 (h.2.2.1 (h.2.2.1 1 6) v2.toNatClampNeg) 0) = 0 → J mX10_missed d 0 0 Q 0 0 29 [some (.inr (.inr 1)), u1, some (.inl v2), u3, u4, u5, u6, u7] [] h))
  rw [(show h.2.2.1 1 6 = 47 from (hr.at (by decide) (by decide) (by rfl))), (show h.2.2.1 47 v2.toNatClampNeg = (103 + 2 * v2.toNatClampNeg) from (hr.a32 (vp_lt g0)))]
  exact ⟨(zo hr (by decide) rfl), (zir_ hr (by decide) (by rfl) (by decide) g0), (zrw hr g0), k1, k2⟩

theorem bX10_missed_29 {d : Nat} {Q : Option MV → MH → Prop} {h : MH} {u0 u1 u2 u3 u4 u5 u6 u7 : Option MV} (k : Q (some (.inl (-(nI 6)))) h) : J mX10_missed d 0 0 Q 0 0 29 [u0, u1, u2, u3, u4, u5, u6, u7] [] h := by
  refine zrun 14 1 qX10_missed (o := 10) rfl ?_
  show J mX10_missed d 0 0 Q 0 0 31 [u0, u1, u2, u3, u4, u5, u6, u7] [.inl (-(nI 6))] h
  exact J_iret (ty := .int) (zat qX10_missed 15 (by rfl)) rfl rfl (Nat.le_refl 0) (Nat.le_refl 0) k

theorem bX10_missed_32 {d d' : Nat} {Q : Option MV → MH → Prop} {h : MH} {u2 u3 u4 u5 u6 u7 : Option MV} {v1 : Int32} (hr : zRf h) (hd : d' + 1 ≤ d) (k : Con mX10_playAsTold d' 0 0 [.inr (.inr 1), .inl v1] h (zrv fun h' => J mX10_missed d 0 0 Q 0 0 37 [some (.inr (.inr 1)), some (.inl v1), u2, u3, u4, u5, u6, u7] [] h')) : J mX10_missed d 0 0 Q 0 0 32 [some (.inr (.inr 1)), some (.inl v1), u2, u3, u4, u5, u6, u7] [] h := by
  refine zrun 16 2 qX10_missed (o := 10) rfl ?_
  show J mX10_missed d 0 0 Q 0 0 34 [some (.inr (.inr 1)), some (.inl v1), u2, u3, u4, u5, u6, u7] [.inl v1, .inr (.inr 1)] h
  exact zcVv (as := [.inl v1]) (zat qX10_missed 18 (by rfl)) l10_186 rfl hd rfl (Nat.le_of_ble_eq_true rfl) zle0 (ci := 10) (by decide) rfl (zo hr (by decide) rfl) k

theorem bX10_missed_37 {d d' : Nat} {Q : Option MV → MH → Prop} {h : MH} {u1 u3 u4 u5 u6 u7 : Option MV} {v2 : Int32} (hr : zRf h) (g0 : vp_in v2 4) (hd : d' + 1 ≤ d) (k : Con mX10_heard d' 0 0 [.inr (.inr 1), .inr (.inr (103 + 2 * v2.toNatClampNeg)), .inl (nI 0)] h (zrl fun (x : Int64) h' => J mX10_missed d 0 0 Q 0 0 48 [some (.inr (.inr 1)), u1, some (.inl v2), u3, u4, u5, u6, u7] [.inr (.inl x)] h')) : J mX10_missed d 0 0 Q 0 0 37 [some (.inr (.inr 1)), u1, some (.inl v2), u3, u4, u5, u6, u7] [] h := by
  refine zrun 19 6 qX10_missed (o := 10) rfl ?_
  show zokO h 1 10 ∧ zokR h (h.2.2.1 1 6) v2 ∧ J mX10_missed d 0 0 Q 0 0 45 [some (.inr (.inr 1)), u1, some (.inl v2), u3, u4, u5, u6, u7] [.inl (nI 0), .inr (.inr (h.2.2.1 (h.2.2.1 1 6) v2.toNatClampNeg)), .inr (.inr 1)] h
  rw [(show h.2.2.1 1 6 = 47 from (hr.at (by decide) (by decide) (by rfl))), (show h.2.2.1 47 v2.toNatClampNeg = (103 + 2 * v2.toNatClampNeg) from (hr.a32 (vp_lt g0)))]
  exact ⟨(zo hr (by decide) rfl), (zir_ hr (by decide) (by rfl) (by decide) g0), zcVl (as := [.inr (.inr (103 + 2 * v2.toNatClampNeg)), .inl (nI 0)]) (zat qX10_missed 25 (by rfl)) l10_383 rfl hd rfl (Nat.le_of_ble_eq_true rfl) zle0 (ci := 10) (by decide) rfl (zo hr (by decide) rfl) k⟩

theorem bX10_missed_48 {d : Nat} {Q : Option MV → MH → Prop} {h : MH} {u0 u1 u2 u4 u5 u6 u7 : Option MV} {v3 : Int32} {vs0 : Int64} (k1 : ¬ (lg_cmp vs0 (-1 : Int64)) = 0 → J mX10_missed d 0 0 Q 0 0 61 [u0, u1, u2, some (.inl v3), some (.inr (.inl vs0)), none, u6, u7] [] h) (k2 : (lg_cmp vs0 (-1 : Int64)) = 0 → J mX10_missed d 0 0 Q 0 0 59 [u0, u1, u2, some (.inl v3), some (.inr (.inl vs0)), none, u6, u7] [] h) : J mX10_missed d 0 0 Q 0 0 48 [u0, u1, u2, some (.inl v3), u4, u5, u6, u7] [.inr (.inl vs0)] h := by
  refine zrun 26 5 qX10_missed (o := 10) rfl ?_
  show ((¬ (lg_cmp vs0 (-1 : Int64)) = 0 → J mX10_missed d 0 0 Q 0 0 61 [u0, u1, u2, some (.inl v3), some (.inr (.inl vs0)), none, u6, u7] [] h) ∧ ((lg_cmp vs0 (-1 : Int64)) = 0 → J mX10_missed d 0 0 Q 0 0 59 [u0, u1, u2, some (.inl v3), some (.inr (.inl vs0)), none, u6, u7] [] h))
  exact ⟨k1, k2⟩

theorem bX10_missed_59 {d : Nat} {Q : Option MV → MH → Prop} {h : MH} {u0 u1 u2 u3 u4 u5 u6 u7 : Option MV} (k : Q (some (.inl (-(nI 1)))) h) : J mX10_missed d 0 0 Q 0 0 59 [u0, u1, u2, u3, u4, u5, u6, u7] [] h := by
  refine zrun 31 1 qX10_missed (o := 10) rfl ?_
  show J mX10_missed d 0 0 Q 0 0 60 [u0, u1, u2, u3, u4, u5, u6, u7] [.inl (-(nI 1))] h
  exact J_iret (ty := .int) (zat qX10_missed 32 (by rfl)) rfl rfl (Nat.le_refl 0) (Nat.le_refl 0) k

theorem bX10_missed_61 {d : Nat} {Q : Option MV → MH → Prop} {h : MH} {u0 u1 u2 u3 u4 u6 u7 : Option MV} (k : J mX10_missed d 0 0 Q 0 0 67 [u0, u1, u2, u3, u4, none, some (.inl (nI 0)), some (.inl (nI 0))] [] h) : J mX10_missed d 0 0 Q 0 0 61 [u0, u1, u2, u3, u4, none, u6, u7] [] h := by
  refine zrun 33 4 qX10_missed (o := 10) rfl ?_
  show J mX10_missed d 0 0 Q 0 0 67 [u0, u1, u2, u3, u4, none, some (.inl (nI 0)), some (.inl (nI 0))] [] h
  exact k

theorem bX10_missed_67 {d : Nat} {Q : Option MV → MH → Prop} {h : MH} {u1 u2 u3 u4 u5 u6 : Option MV} {v7 : Int32} (hr : zRf h) (k1 : (h.1 48 9) ≤ v7 → J mX10_missed d 0 0 Q 0 0 109 [some (.inr (.inr 1)), u1, u2, u3, u4, u5, u6, some (.inl v7)] [] h) (k2 : ¬ (h.1 48 9) ≤ v7 → J mX10_missed d 0 0 Q 0 0 79 [some (.inr (.inr 1)), u1, u2, u3, u4, u5, u6, some (.inl v7)] [] h) : J mX10_missed d 0 0 Q 0 0 67 [some (.inr (.inr 1)), u1, u2, u3, u4, u5, u6, some (.inl v7)] [] h := by
  refine zrun 37 5 qX10_missed (o := 10) rfl ?_
  show zokO h 1 10 ∧ zokO h (h.2.2.1 1 7) 8 ∧ (((h.1 (h.2.2.1 1 7) 9) ≤ v7 → J mX10_missed d 0 0 Q 0 0 109 [some (.inr (.inr 1)), u1, u2, u3, u4, u5, u6, some (.inl v7)] [] h) ∧ (¬ (h.1 (h.2.2.1 1 7) 9) ≤ v7 → J mX10_missed d 0 0 Q 0 0 79 [some (.inr (.inr 1)), u1, u2, u3, u4, u5, u6, some (.inl v7)] [] h))
  rw [(show h.2.2.1 1 7 = 48 from (hr.at (by decide) (by decide) (by rfl)))]
  exact ⟨(zo hr (by decide) rfl), (zo hr (by decide) rfl), k1, k2⟩

theorem bX10_missed_79 {d : Nat} {Q : Option MV → MH → Prop} {h : MH} {u0 u1 u2 u3 u5 u6 : Option MV} {v7 : Int32} {v4 : Int64} (k1 : ¬ (lg_cmp (((v4.toUInt64 >>> (v7.toInt64.toUInt64 &&& Int64.toUInt64 63)).toInt64) &&& (lN 1)) (lN 0)) = 0 → J mX10_missed d 0 0 Q 0 0 103 [u0, u1, u2, u3, some (.inr (.inl v4)), u5, u6, some (.inl v7)] [] h) (k2 : (lg_cmp (((v4.toUInt64 >>> (v7.toInt64.toUInt64 &&& Int64.toUInt64 63)).toInt64) &&& (lN 1)) (lN 0)) = 0 → J mX10_missed d 0 0 Q 0 0 91 [u0, u1, u2, u3, some (.inr (.inl v4)), u5, u6, some (.inl v7)] [] h) : J mX10_missed d 0 0 Q 0 0 79 [u0, u1, u2, u3, some (.inr (.inl v4)), u5, u6, some (.inl v7)] [] h := by
  refine zrun 42 8 qX10_missed (o := 10) rfl ?_
  show ((¬ (lg_cmp (((v4.toUInt64 >>> (v7.toInt64.toUInt64 &&& Int64.toUInt64 63)).toInt64) &&& (lN 1)) (lN 0)) = 0 → J mX10_missed d 0 0 Q 0 0 103 [u0, u1, u2, u3, some (.inr (.inl v4)), u5, u6, some (.inl v7)] [] h) ∧ ((lg_cmp (((v4.toUInt64 >>> (v7.toInt64.toUInt64 &&& Int64.toUInt64 63)).toInt64) &&& (lN 1)) (lN 0)) = 0 → J mX10_missed d 0 0 Q 0 0 91 [u0, u1, u2, u3, some (.inr (.inl v4)), u5, u6, some (.inl v7)] [] h))
  exact ⟨k1, k2⟩

theorem bX10_missed_91 {d : Nat} {Q : Option MV → MH → Prop} {h : MH} {u0 u1 u2 u4 u5 u7 : Option MV} {v6 v3 : Int32} (k1 : ¬ v6 = v3 → J mX10_missed d 0 0 Q 0 0 100 [u0, u1, u2, some (.inl v3), u4, u5, some (.inl v6), u7] [] h) (k2 : v6 = v3 → J mX10_missed d 0 0 Q 0 0 97 [u0, u1, u2, some (.inl v3), u4, u5, some (.inl v6), u7] [] h) : J mX10_missed d 0 0 Q 0 0 91 [u0, u1, u2, some (.inl v3), u4, u5, some (.inl v6), u7] [] h := by
  refine zrun 50 3 qX10_missed (o := 10) rfl ?_
  show ((¬ v6 = v3 → J mX10_missed d 0 0 Q 0 0 100 [u0, u1, u2, some (.inl v3), u4, u5, some (.inl v6), u7] [] h) ∧ (v6 = v3 → J mX10_missed d 0 0 Q 0 0 97 [u0, u1, u2, some (.inl v3), u4, u5, some (.inl v6), u7] [] h))
  exact ⟨k1, k2⟩

theorem bX10_missed_97 {d : Nat} {Q : Option MV → MH → Prop} {h : MH} {u0 u1 u2 u3 u4 u5 u6 : Option MV} {v7 : Int32} (k : Q (some (.inl v7)) h) : J mX10_missed d 0 0 Q 0 0 97 [u0, u1, u2, u3, u4, u5, u6, some (.inl v7)] [] h := by
  refine zrun 53 1 qX10_missed (o := 10) rfl ?_
  show J mX10_missed d 0 0 Q 0 0 99 [u0, u1, u2, u3, u4, u5, u6, some (.inl v7)] [.inl v7] h
  exact J_iret (ty := .int) (zat qX10_missed 54 (by rfl)) rfl rfl (Nat.le_refl 0) (Nat.le_refl 0) k

theorem bX10_missed_100 {d : Nat} {Q : Option MV → MH → Prop} {h : MH} {u0 u1 u2 u3 u4 u7 : Option MV} {v6 : Int32} (k : J mX10_missed d 0 0 Q 0 0 103 [u0, u1, u2, u3, u4, none, some (.inl (v6 + nI 1)), u7] [] h) : J mX10_missed d 0 0 Q 0 0 100 [u0, u1, u2, u3, u4, none, some (.inl v6), u7] [] h := by
  refine zrun 55 1 qX10_missed (o := 10) rfl ?_
  show J mX10_missed d 0 0 Q 0 0 103 [u0, u1, u2, u3, u4, none, some (.inl (v6 + nI 1)), u7] [] h
  exact k

theorem bX10_missed_103 {d : Nat} {Q : Option MV → MH → Prop} {h : MH} {u0 u1 u2 u3 u4 u5 : Option MV} {v7 v6 : Int32} (k : J mX10_missed d 0 0 Q 0 0 67 [u0, u1, u2, u3, u4, u5, some (.inl v6), some (.inl (v7 + nI 1))] [] h) : J mX10_missed d 0 0 Q 0 0 103 [u0, u1, u2, u3, u4, u5, some (.inl v6), some (.inl v7)] [] h := by
  refine zrun 56 2 qX10_missed (o := 10) rfl ?_
  show J mX10_missed d 0 0 Q 0 0 67 [u0, u1, u2, u3, u4, u5, some (.inl v6), some (.inl (v7 + nI 1))] [] h
  exact k

theorem bX10_missed_109 {d : Nat} {Q : Option MV → MH → Prop} {h : MH} {u0 u1 u2 u4 u5 u6 u7 : Option MV} {v3 : Int32} (k1 : ¬ v3 = (-(nI 1)) → J mX10_missed d 0 0 Q 0 0 119 [u0, u1, u2, some (.inl v3), u4, u5, u6, u7] [] h) (k2 : v3 = (-(nI 1)) → J mX10_missed d 0 0 Q 0 0 114 [u0, u1, u2, some (.inl v3), u4, u5, u6, u7] [] h) : J mX10_missed d 0 0 Q 0 0 109 [u0, u1, u2, some (.inl v3), u4, u5, u6, u7] [] h := by
  refine zrun 58 3 qX10_missed (o := 10) rfl ?_
  show ((¬ v3 = (-(nI 1)) → J mX10_missed d 0 0 Q 0 0 119 [u0, u1, u2, some (.inl v3), u4, u5, u6, u7] [] h) ∧ (v3 = (-(nI 1)) → J mX10_missed d 0 0 Q 0 0 114 [u0, u1, u2, some (.inl v3), u4, u5, u6, u7] [] h))
  exact ⟨k1, k2⟩

theorem bX10_missed_114 {d : Nat} {Q : Option MV → MH → Prop} {h : MH} {u0 u1 u2 u3 u4 u5 u7 : Option MV} {v6 : Int32} (k : J mX10_missed d 0 0 Q 0 0 120 [u0, u1, u2, u3, u4, u5, some (.inl v6), u7] [.inl v6] h) : J mX10_missed d 0 0 Q 0 0 114 [u0, u1, u2, u3, u4, u5, some (.inl v6), u7] [] h := by
  refine zrun 61 2 qX10_missed (o := 10) rfl ?_
  show J mX10_missed d 0 0 Q 0 0 120 [u0, u1, u2, u3, u4, u5, some (.inl v6), u7] [.inl v6] h
  exact k

theorem bX10_missed_119 {d : Nat} {Q : Option MV → MH → Prop} {h : MH} {u0 u1 u2 u3 u4 u5 u6 u7 : Option MV} (k : J mX10_missed d 0 0 Q 0 0 120 [u0, u1, u2, u3, u4, u5, u6, u7] [.inl (-(nI 1))] h) : J mX10_missed d 0 0 Q 0 0 119 [u0, u1, u2, u3, u4, u5, u6, u7] [] h := by
  refine zrun 63 1 qX10_missed (o := 10) rfl ?_
  show J mX10_missed d 0 0 Q 0 0 120 [u0, u1, u2, u3, u4, u5, u6, u7] [.inl (-(nI 1))] h
  exact k

theorem bX10_missed_120 {d : Nat} {Q : Option MV → MH → Prop} {h : MH} {u0 u1 u2 u3 u4 u5 u6 u7 : Option MV} {vs0 : Int32} (k : Q (some (.inl vs0)) h) : J mX10_missed d 0 0 Q 0 0 120 [u0, u1, u2, u3, u4, u5, u6, u7] [.inl vs0] h := by
  exact J_iret (ty := .int) (zat qX10_missed 64 (by rfl)) rfl rfl (Nat.le_refl 0) (Nat.le_refl 0) k

theorem bX10_stolen_0 {d d' : Nat} {Q : Option MV → MH → Prop} {h : MH} {u0 u2 u3 u4 u5 : Option MV} {v1 : Int32} (hd : d' + 1 ≤ d) (k : Con mX10_isPlan d' 0 0 [.inl v1] h (zri fun (x : Int32) h' => J mX10_stolen d 0 0 Q 0 0 4 [u0, some (.inl v1), u2, u3, u4, u5] [.inl x] h')) : J mX10_stolen d 0 0 Q 0 0 0 [u0, some (.inl v1), u2, u3, u4, u5] [] h := by
  refine zrun 0 1 qX10_stolen (o := 10) rfl ?_
  show J mX10_stolen d 0 0 Q 0 0 1 [u0, some (.inl v1), u2, u3, u4, u5] [.inl v1] h
  exact zcSi (as := [.inl v1]) (zat qX10_stolen 1 (by rfl)) l10_124 rfl hd rfl (Nat.le_of_ble_eq_true rfl) zle0 k

theorem bX10_stolen_4 {d : Nat} {Q : Option MV → MH → Prop} {h : MH} {u0 u1 u2 u3 u4 u5 : Option MV} {vs0 : Int32} (k1 : vs0 = 0 → J mX10_stolen d 0 0 Q 0 0 14 [u0, u1, u2, u3, u4, u5] [] h) (k2 : ¬ vs0 = 0 → J mX10_stolen d 0 0 Q 0 0 7 [u0, u1, u2, u3, u4, u5] [] h) : J mX10_stolen d 0 0 Q 0 0 4 [u0, u1, u2, u3, u4, u5] [.inl vs0] h := by
  refine zrun 2 1 qX10_stolen (o := 10) rfl ?_
  show ((vs0 = 0 → J mX10_stolen d 0 0 Q 0 0 14 [u0, u1, u2, u3, u4, u5] [] h) ∧ (¬ vs0 = 0 → J mX10_stolen d 0 0 Q 0 0 7 [u0, u1, u2, u3, u4, u5] [] h))
  exact ⟨k1, k2⟩

theorem bX10_stolen_7 {d d' : Nat} {Q : Option MV → MH → Prop} {h : MH} {u0 u1 u3 u4 u5 : Option MV} {v2 : Int32} (hd : d' + 1 ≤ d) (k : Con mX10_isRow d' 0 0 [.inl v2] h (zri fun (x : Int32) h' => J mX10_stolen d 0 0 Q 0 0 11 [u0, u1, some (.inl v2), u3, u4, u5] [.inl x] h')) : J mX10_stolen d 0 0 Q 0 0 7 [u0, u1, some (.inl v2), u3, u4, u5] [] h := by
  refine zrun 3 1 qX10_stolen (o := 10) rfl ?_
  show J mX10_stolen d 0 0 Q 0 0 8 [u0, u1, some (.inl v2), u3, u4, u5] [.inl v2] h
  exact zcSi (as := [.inl v2]) (zat qX10_stolen 4 (by rfl)) l10_332 rfl hd rfl (Nat.le_of_ble_eq_true rfl) zle0 k

theorem bX10_stolen_11 {d : Nat} {Q : Option MV → MH → Prop} {h : MH} {u0 u1 u2 u3 u4 u5 : Option MV} {vs0 : Int32} (k1 : ¬ vs0 = 0 → J mX10_stolen d 0 0 Q 0 0 17 [u0, u1, u2, u3, u4, u5] [] h) (k2 : vs0 = 0 → J mX10_stolen d 0 0 Q 0 0 14 [u0, u1, u2, u3, u4, u5] [] h) : J mX10_stolen d 0 0 Q 0 0 11 [u0, u1, u2, u3, u4, u5] [.inl vs0] h := by
  refine zrun 5 1 qX10_stolen (o := 10) rfl ?_
  show ((¬ vs0 = 0 → J mX10_stolen d 0 0 Q 0 0 17 [u0, u1, u2, u3, u4, u5] [] h) ∧ (vs0 = 0 → J mX10_stolen d 0 0 Q 0 0 14 [u0, u1, u2, u3, u4, u5] [] h))
  exact ⟨k1, k2⟩

theorem bX10_stolen_14 {d : Nat} {Q : Option MV → MH → Prop} {h : MH} {u0 u1 u2 u3 u4 u5 : Option MV} (k : Q (some (.inl (-(nI 2)))) h) : J mX10_stolen d 0 0 Q 0 0 14 [u0, u1, u2, u3, u4, u5] [] h := by
  refine zrun 6 1 qX10_stolen (o := 10) rfl ?_
  show J mX10_stolen d 0 0 Q 0 0 16 [u0, u1, u2, u3, u4, u5] [.inl (-(nI 2))] h
  exact J_iret (ty := .int) (zat qX10_stolen 7 (by rfl)) rfl rfl (Nat.le_refl 0) (Nat.le_refl 0) k

theorem bX10_stolen_17 {d : Nat} {Q : Option MV → MH → Prop} {h : MH} {u1 u3 u4 u5 : Option MV} {v2 : Int32} (hr : zRf h) (g0 : vp_in v2 4) (k1 : ¬ (h.1 (103 + 2 * v2.toNatClampNeg) 0) = 0 → J mX10_stolen d 0 0 Q 0 0 32 [some (.inr (.inr 1)), u1, some (.inl v2), u3, u4, u5] [] h) (k2 : (h.1 (103 + 2 * v2.toNatClampNeg) 0) = 0 → J mX10_stolen d 0 0 Q 0 0 29 [some (.inr (.inr 1)), u1, some (.inl v2), u3, u4, u5] [] h) : J mX10_stolen d 0 0 Q 0 0 17 [some (.inr (.inr 1)), u1, some (.inl v2), u3, u4, u5] [] h := by
  refine zrun 8 6 qX10_stolen (o := 10) rfl ?_
  show zokO h 1 10 ∧ zokR h (h.2.2.1 1 6) v2 ∧ zokO h (h.2.2.1 (h.2.2.1 1 6) v2.toNatClampNeg) 7 ∧ ((¬ (h.1 (h.2.2.1 (h.2.2.1 1 6) v2.toNatClampNeg) 0) = 0 → J mX10_stolen d 0 0 Q 0 0 32 [some (.inr (.inr 1)), u1, some (.inl v2), u3, u4, u5] [] h) ∧ ((h.1 (h.2.2.1 (h.2.2.1 1 6) v2.toNatClampNeg) 0) = 0 → J mX10_stolen d 0 0 Q 0 0 29 [some (.inr (.inr 1)), u1, some (.inl v2), u3, u4, u5] [] h))
  rw [(show h.2.2.1 1 6 = 47 from (hr.at (by decide) (by decide) (by rfl))), (show h.2.2.1 47 v2.toNatClampNeg = (103 + 2 * v2.toNatClampNeg) from (hr.a32 (vp_lt g0)))]
  exact ⟨(zo hr (by decide) rfl), (zir_ hr (by decide) (by rfl) (by decide) g0), (zrw hr g0), k1, k2⟩

theorem bX10_stolen_29 {d : Nat} {Q : Option MV → MH → Prop} {h : MH} {u0 u1 u2 u3 u4 u5 : Option MV} (k : Q (some (.inl (-(nI 6)))) h) : J mX10_stolen d 0 0 Q 0 0 29 [u0, u1, u2, u3, u4, u5] [] h := by
  refine zrun 14 1 qX10_stolen (o := 10) rfl ?_
  show J mX10_stolen d 0 0 Q 0 0 31 [u0, u1, u2, u3, u4, u5] [.inl (-(nI 6))] h
  exact J_iret (ty := .int) (zat qX10_stolen 15 (by rfl)) rfl rfl (Nat.le_refl 0) (Nat.le_refl 0) k

theorem bX10_stolen_32 {d d' : Nat} {Q : Option MV → MH → Prop} {h : MH} {u2 u3 u4 u5 : Option MV} {v1 : Int32} (hr : zRf h) (hd : d' + 1 ≤ d) (k : Con mX10_playAsTold d' 0 0 [.inr (.inr 1), .inl v1] h (zrv fun h' => J mX10_stolen d 0 0 Q 0 0 37 [some (.inr (.inr 1)), some (.inl v1), u2, u3, u4, u5] [] h')) : J mX10_stolen d 0 0 Q 0 0 32 [some (.inr (.inr 1)), some (.inl v1), u2, u3, u4, u5] [] h := by
  refine zrun 16 2 qX10_stolen (o := 10) rfl ?_
  show J mX10_stolen d 0 0 Q 0 0 34 [some (.inr (.inr 1)), some (.inl v1), u2, u3, u4, u5] [.inl v1, .inr (.inr 1)] h
  exact zcVv (as := [.inl v1]) (zat qX10_stolen 18 (by rfl)) l10_186 rfl hd rfl (Nat.le_of_ble_eq_true rfl) zle0 (ci := 10) (by decide) rfl (zo hr (by decide) rfl) k

theorem bX10_stolen_37 {d : Nat} {Q : Option MV → MH → Prop} {h : MH} {u1 u3 u4 u5 : Option MV} {v2 : Int32} (hr : zRf h) (g0 : vp_in v2 4) (hd : 1 ≤ d) (k : J mX10_stolen d 0 0 Q 0 0 61 [some (.inr (.inr 1)), u1, some (.inl v2), some (.inl (nI 0)), u4, u5] [.inl (if (h.1 16 0) < (h.1 (103 + 2 * v2.toNatClampNeg) 2) then (h.1 16 0) else (h.1 (103 + 2 * v2.toNatClampNeg) 2))] h) : J mX10_stolen d 0 0 Q 0 0 37 [some (.inr (.inr 1)), u1, some (.inl v2), u3, u4, u5] [] h := by
  refine zrun 19 11 qX10_stolen (o := 10) rfl ?_
  show zokO h 1 10 ∧ zokR h (h.2.2.1 1 6) v2 ∧ zokO h (h.2.2.1 (h.2.2.1 1 6) v2.toNatClampNeg) 7 ∧ zokO h 1 10 ∧ zokO h (h.2.2.1 1 4) 1 ∧ zokO h (h.2.2.1 (h.2.2.1 1 4) 0) 2 ∧ J mX10_stolen d 0 0 Q 0 0 58 [some (.inr (.inr 1)), u1, some (.inl v2), some (.inl (nI 0)), u4, u5] [.inl (h.1 (h.2.2.1 (h.2.2.1 1 4) 0) 0), .inl (h.1 (h.2.2.1 (h.2.2.1 1 6) v2.toNatClampNeg) 2)] h
  rw [(show h.2.2.1 1 6 = 47 from (hr.at (by decide) (by decide) (by rfl))), (show h.2.2.1 47 v2.toNatClampNeg = (103 + 2 * v2.toNatClampNeg) from (hr.a32 (vp_lt g0))), (show h.2.2.1 1 4 = 15 from (hr.at (by decide) (by decide) (by rfl))), (show h.2.2.1 15 0 = 16 from (hr.at (by decide) (by decide) (by rfl)))]
  exact ⟨(zo hr (by decide) rfl), (zir_ hr (by decide) (by rfl) (by decide) g0), (zrw hr g0), (zo hr (by decide) rfl), (zo hr (by decide) rfl), (zo hr (by decide) rfl), zmin (zat qX10_stolen 30 (by rfl)) mm10_175 rfl hd (Nat.le_of_ble_eq_true rfl) zle0 k⟩

theorem bX10_stolen_61 {d : Nat} {Q : Option MV → MH → Prop} {h : MH} {u0 u1 u2 u4 u5 : Option MV} {vs0 v3 : Int32} (k : J mX10_stolen d 0 0 Q 0 0 66 [u0, u1, u2, some (.inl v3), some (.inl vs0), some (.inl (nI 0))] [] h) : J mX10_stolen d 0 0 Q 0 0 61 [u0, u1, u2, some (.inl v3), u4, u5] [.inl vs0] h := by
  refine zrun 31 3 qX10_stolen (o := 10) rfl ?_
  show J mX10_stolen d 0 0 Q 0 0 66 [u0, u1, u2, some (.inl v3), some (.inl vs0), some (.inl (nI 0))] [] h
  exact k

theorem bX10_stolen_66 {d : Nat} {Q : Option MV → MH → Prop} {h : MH} {u0 u1 u2 u3 : Option MV} {v5 v4 : Int32} (k1 : v4 ≤ v5 → J mX10_stolen d 0 0 Q 0 0 117 [u0, u1, u2, u3, some (.inl v4), some (.inl v5)] [] h) (k2 : ¬ v4 ≤ v5 → J mX10_stolen d 0 0 Q 0 0 73 [u0, u1, u2, u3, some (.inl v4), some (.inl v5)] [] h) : J mX10_stolen d 0 0 Q 0 0 66 [u0, u1, u2, u3, some (.inl v4), some (.inl v5)] [] h := by
  refine zrun 34 3 qX10_stolen (o := 10) rfl ?_
  show ((v4 ≤ v5 → J mX10_stolen d 0 0 Q 0 0 117 [u0, u1, u2, u3, some (.inl v4), some (.inl v5)] [] h) ∧ (¬ v4 ≤ v5 → J mX10_stolen d 0 0 Q 0 0 73 [u0, u1, u2, u3, some (.inl v4), some (.inl v5)] [] h))
  exact ⟨k1, k2⟩

theorem bX10_stolen_73 {d : Nat} {Q : Option MV → MH → Prop} {h : MH} {u1 u3 u4 : Option MV} {v2 v5 : Int32} (hr : zRf h) (g0 : vp_in v2 4) (g1 : vp_in v5 40) (g2 : vp_in v5 8) (k1 : 0 ≤ (lg_cmp (h.2.1 ((103 + 2 * v2.toNatClampNeg) + 1) v5.toNatClampNeg) (((h.1 50 v5.toNatClampNeg) / (nI 256)).toInt64)) → J mX10_stolen d 0 0 Q 0 0 111 [some (.inr (.inr 1)), u1, some (.inl v2), u3, u4, some (.inl v5)] [] h) (k2 : ¬ 0 ≤ (lg_cmp (h.2.1 ((103 + 2 * v2.toNatClampNeg) + 1) v5.toNatClampNeg) (((h.1 50 v5.toNatClampNeg) / (nI 256)).toInt64)) → J mX10_stolen d 0 0 Q 0 0 104 [some (.inr (.inr 1)), u1, some (.inl v2), u3, u4, some (.inl v5)] [] h) : J mX10_stolen d 0 0 Q 0 0 73 [some (.inr (.inr 1)), u1, some (.inl v2), u3, u4, some (.inl v5)] [] h := by
  refine zrun 37 17 qX10_stolen (o := 10) rfl ?_
  show zokO h 1 10 ∧ zokR h (h.2.2.1 1 6) v2 ∧ zokO h (h.2.2.1 (h.2.2.1 1 6) v2.toNatClampNeg) 7 ∧ zokA h (h.2.2.1 (h.2.2.1 (h.2.2.1 1 6) v2.toNatClampNeg) 3) 21 v5 ∧ zokO h 1 10 ∧ zokO h (h.2.2.1 1 7) 8 ∧ zokA h (h.2.2.1 (h.2.2.1 1 7) 2) 20 v5 ∧ ¬ (nI 256) = 0 ∧ ((0 ≤ (lg_cmp (h.2.1 (h.2.2.1 (h.2.2.1 (h.2.2.1 1 6) v2.toNatClampNeg) 3) v5.toNatClampNeg) (((h.1 (h.2.2.1 (h.2.2.1 1 7) 2) v5.toNatClampNeg) / (nI 256)).toInt64)) → J mX10_stolen d 0 0 Q 0 0 111 [some (.inr (.inr 1)), u1, some (.inl v2), u3, u4, some (.inl v5)] [] h) ∧ (¬ 0 ≤ (lg_cmp (h.2.1 (h.2.2.1 (h.2.2.1 (h.2.2.1 1 6) v2.toNatClampNeg) 3) v5.toNatClampNeg) (((h.1 (h.2.2.1 (h.2.2.1 1 7) 2) v5.toNatClampNeg) / (nI 256)).toInt64)) → J mX10_stolen d 0 0 Q 0 0 104 [some (.inr (.inr 1)), u1, some (.inl v2), u3, u4, some (.inl v5)] [] h))
  rw [(show h.2.2.1 1 6 = 47 from (hr.at (by decide) (by decide) (by rfl))), (show h.2.2.1 47 v2.toNatClampNeg = (103 + 2 * v2.toNatClampNeg) from (hr.a32 (vp_lt g0))), (show h.2.2.1 (103 + 2 * v2.toNatClampNeg) 3 = ((103 + 2 * v2.toNatClampNeg) + 1) from (hr.f7 (zrw hr g0))), (show h.2.2.1 1 7 = 48 from (hr.at (by decide) (by decide) (by rfl))), (show h.2.2.1 48 2 = 50 from (hr.at (by decide) (by decide) (by rfl)))]
  exact ⟨(zo hr (by decide) rfl), (zir_ hr (by decide) (by rfl) (by decide) g0), (zrw hr g0), (zca hr (zrw hr g0) (by decide) (by decide) g1), (zo hr (by decide) rfl), (zo hr (by decide) rfl), (zia hr (by decide) (by rfl) g2), (by decide), k1, k2⟩

theorem bX10_stolen_104 {d : Nat} {Q : Option MV → MH → Prop} {h : MH} {u0 u1 u4 : Option MV} {v3 v5 v2 : Int32} (k : J mX10_stolen d 0 0 Q 0 0 111 [u0, u1, some (.inl v2), some (.inl (v3 ||| ((nI 1) <<< (v5 &&& 31)))), u4, some (.inl v5)] [] h) : J mX10_stolen d 0 0 Q 0 0 104 [u0, u1, some (.inl v2), some (.inl v3), u4, some (.inl v5)] [] h := by
  refine zrun 54 6 qX10_stolen (o := 10) rfl ?_
  show J mX10_stolen d 0 0 Q 0 0 111 [u0, u1, some (.inl v2), some (.inl (v3 ||| ((nI 1) <<< (v5 &&& 31)))), u4, some (.inl v5)] [] h
  exact k

theorem bX10_stolen_111 {d : Nat} {Q : Option MV → MH → Prop} {h : MH} {u0 u1 u2 u3 : Option MV} {v5 v4 : Int32} (k : J mX10_stolen d 0 0 Q 0 0 66 [u0, u1, u2, u3, some (.inl v4), some (.inl (v5 + nI 1))] [] h) : J mX10_stolen d 0 0 Q 0 0 111 [u0, u1, u2, u3, some (.inl v4), some (.inl v5)] [] h := by
  refine zrun 60 2 qX10_stolen (o := 10) rfl ?_
  show J mX10_stolen d 0 0 Q 0 0 66 [u0, u1, u2, u3, some (.inl v4), some (.inl (v5 + nI 1))] [] h
  exact k

theorem bX10_stolen_117 {d : Nat} {Q : Option MV → MH → Prop} {h : MH} {u0 u1 u2 u4 u5 : Option MV} {v3 : Int32} (k : Q (some (.inl v3)) h) : J mX10_stolen d 0 0 Q 0 0 117 [u0, u1, u2, some (.inl v3), u4, u5] [] h := by
  refine zrun 62 1 qX10_stolen (o := 10) rfl ?_
  show J mX10_stolen d 0 0 Q 0 0 118 [u0, u1, u2, some (.inl v3), u4, u5] [.inl v3] h
  exact J_iret (ty := .int) (zat qX10_stolen 63 (by rfl)) rfl rfl (Nat.le_refl 0) (Nat.le_refl 0) k

theorem bX10_isRow_0 {d : Nat} {Q : Option MV → MH → Prop} {h : MH} {v0 : Int32} (k1 : v0 < 0 → J mX10_isRow d 0 0 Q 0 0 13 [some (.inl v0)] [] h) (k2 : ¬ v0 < 0 → J mX10_isRow d 0 0 Q 0 0 4 [some (.inl v0)] [] h) : J mX10_isRow d 0 0 Q 0 0 0 [some (.inl v0)] [] h := by
  refine zrun 0 2 qX10_isRow (o := 10) rfl ?_
  show ((v0 < 0 → J mX10_isRow d 0 0 Q 0 0 13 [some (.inl v0)] [] h) ∧ (¬ v0 < 0 → J mX10_isRow d 0 0 Q 0 0 4 [some (.inl v0)] [] h))
  exact ⟨k1, k2⟩

theorem bX10_isRow_4 {d : Nat} {Q : Option MV → MH → Prop} {h : MH} {v0 : Int32} (k1 : (nI 4) ≤ v0 → J mX10_isRow d 0 0 Q 0 0 13 [some (.inl v0)] [] h) (k2 : ¬ (nI 4) ≤ v0 → J mX10_isRow d 0 0 Q 0 0 9 [some (.inl v0)] [] h) : J mX10_isRow d 0 0 Q 0 0 4 [some (.inl v0)] [] h := by
  refine zrun 2 3 qX10_isRow (o := 10) rfl ?_
  show (((nI 4) ≤ v0 → J mX10_isRow d 0 0 Q 0 0 13 [some (.inl v0)] [] h) ∧ (¬ (nI 4) ≤ v0 → J mX10_isRow d 0 0 Q 0 0 9 [some (.inl v0)] [] h))
  exact ⟨k1, k2⟩

theorem bX10_isRow_9 {d : Nat} {Q : Option MV → MH → Prop} {h : MH} {u0 : Option MV} (k : J mX10_isRow d 0 0 Q 0 0 14 [u0] [.inl (nI 1)] h) : J mX10_isRow d 0 0 Q 0 0 9 [u0] [] h := by
  refine zrun 5 2 qX10_isRow (o := 10) rfl ?_
  show J mX10_isRow d 0 0 Q 0 0 14 [u0] [.inl (nI 1)] h
  exact k

theorem bX10_isRow_13 {d : Nat} {Q : Option MV → MH → Prop} {h : MH} {u0 : Option MV} (k : J mX10_isRow d 0 0 Q 0 0 14 [u0] [.inl (nI 0)] h) : J mX10_isRow d 0 0 Q 0 0 13 [u0] [] h := by
  refine zrun 7 1 qX10_isRow (o := 10) rfl ?_
  show J mX10_isRow d 0 0 Q 0 0 14 [u0] [.inl (nI 0)] h
  exact k

theorem bX10_isRow_14 {d : Nat} {Q : Option MV → MH → Prop} {h : MH} {u0 : Option MV} {vs0 : Int32} (gn : vs0 = 0 ∨ vs0 = 1) (k : Q (some (.inl vs0)) h) : J mX10_isRow d 0 0 Q 0 0 14 [u0] [.inl vs0] h := by
  exact J_iret (ty := .boolean) (zat qX10_isRow 8 (by rfl)) rfl (znz gn) (Nat.le_refl 0) (Nat.le_refl 0) k

theorem bX10_numbers_0 {d d' : Nat} {Q : Option MV → MH → Prop} {h : MH} {u0 u2 u3 : Option MV} {v1 : Int32} (hd : d' + 1 ≤ d) (k : Con mX10_isRow d' 0 0 [.inl v1] h (zri fun (x : Int32) h' => J mX10_numbers d 0 0 Q 0 0 4 [u0, some (.inl v1), u2, u3] [.inl x] h')) : J mX10_numbers d 0 0 Q 0 0 0 [u0, some (.inl v1), u2, u3] [] h := by
  refine zrun 0 1 qX10_numbers (o := 10) rfl ?_
  show J mX10_numbers d 0 0 Q 0 0 1 [u0, some (.inl v1), u2, u3] [.inl v1] h
  exact zcSi (as := [.inl v1]) (zat qX10_numbers 1 (by rfl)) l10_332 rfl hd rfl (Nat.le_of_ble_eq_true rfl) zle0 k

theorem bX10_numbers_4 {d : Nat} {Q : Option MV → MH → Prop} {h : MH} {u0 u1 u2 u3 : Option MV} {vs0 : Int32} (k1 : vs0 = 0 → J mX10_numbers d 0 0 Q 0 0 16 [u0, u1, u2, u3] [] h) (k2 : ¬ vs0 = 0 → J mX10_numbers d 0 0 Q 0 0 7 [u0, u1, u2, u3] [] h) : J mX10_numbers d 0 0 Q 0 0 4 [u0, u1, u2, u3] [.inl vs0] h := by
  refine zrun 2 1 qX10_numbers (o := 10) rfl ?_
  show ((vs0 = 0 → J mX10_numbers d 0 0 Q 0 0 16 [u0, u1, u2, u3] [] h) ∧ (¬ vs0 = 0 → J mX10_numbers d 0 0 Q 0 0 7 [u0, u1, u2, u3] [] h))
  exact ⟨k1, k2⟩

theorem bX10_numbers_7 {d : Nat} {Q : Option MV → MH → Prop} {h : MH} {u0 u1 u3 : Option MV} {v2 : Int32} (k1 : v2 < 0 → J mX10_numbers d 0 0 Q 0 0 16 [u0, u1, some (.inl v2), u3] [] h) (k2 : ¬ v2 < 0 → J mX10_numbers d 0 0 Q 0 0 11 [u0, u1, some (.inl v2), u3] [] h) : J mX10_numbers d 0 0 Q 0 0 7 [u0, u1, some (.inl v2), u3] [] h := by
  refine zrun 3 2 qX10_numbers (o := 10) rfl ?_
  show ((v2 < 0 → J mX10_numbers d 0 0 Q 0 0 16 [u0, u1, some (.inl v2), u3] [] h) ∧ (¬ v2 < 0 → J mX10_numbers d 0 0 Q 0 0 11 [u0, u1, some (.inl v2), u3] [] h))
  exact ⟨k1, k2⟩

theorem bX10_numbers_11 {d : Nat} {Q : Option MV → MH → Prop} {h : MH} {u0 u1 u3 : Option MV} {v2 : Int32} (k1 : v2 < (nI 4) → J mX10_numbers d 0 0 Q 0 0 19 [u0, u1, some (.inl v2), u3] [] h) (k2 : ¬ v2 < (nI 4) → J mX10_numbers d 0 0 Q 0 0 16 [u0, u1, some (.inl v2), u3] [] h) : J mX10_numbers d 0 0 Q 0 0 11 [u0, u1, some (.inl v2), u3] [] h := by
  refine zrun 5 3 qX10_numbers (o := 10) rfl ?_
  show ((v2 < (nI 4) → J mX10_numbers d 0 0 Q 0 0 19 [u0, u1, some (.inl v2), u3] [] h) ∧ (¬ v2 < (nI 4) → J mX10_numbers d 0 0 Q 0 0 16 [u0, u1, some (.inl v2), u3] [] h))
  exact ⟨k1, k2⟩

theorem bX10_numbers_16 {d : Nat} {Q : Option MV → MH → Prop} {h : MH} {u0 u1 u2 u3 : Option MV} (k : Q (some (.inl (-(nI 2)))) h) : J mX10_numbers d 0 0 Q 0 0 16 [u0, u1, u2, u3] [] h := by
  refine zrun 8 1 qX10_numbers (o := 10) rfl ?_
  show J mX10_numbers d 0 0 Q 0 0 18 [u0, u1, u2, u3] [.inl (-(nI 2))] h
  exact J_iret (ty := .int) (zat qX10_numbers 9 (by rfl)) rfl rfl (Nat.le_refl 0) (Nat.le_refl 0) k

theorem bX10_numbers_19 {d : Nat} {Q : Option MV → MH → Prop} {h : MH} {u0 u1 u2 : Option MV} {v3 : Int32} (k1 : v3 < 0 → J mX10_numbers d 0 0 Q 0 0 29 [u0, u1, u2, some (.inl v3)] [] h) (k2 : ¬ v3 < 0 → J mX10_numbers d 0 0 Q 0 0 23 [u0, u1, u2, some (.inl v3)] [] h) : J mX10_numbers d 0 0 Q 0 0 19 [u0, u1, u2, some (.inl v3)] [] h := by
  refine zrun 10 2 qX10_numbers (o := 10) rfl ?_
  show ((v3 < 0 → J mX10_numbers d 0 0 Q 0 0 29 [u0, u1, u2, some (.inl v3)] [] h) ∧ (¬ v3 < 0 → J mX10_numbers d 0 0 Q 0 0 23 [u0, u1, u2, some (.inl v3)] [] h))
  exact ⟨k1, k2⟩

theorem bX10_numbers_23 {d : Nat} {Q : Option MV → MH → Prop} {h : MH} {u0 u1 u2 : Option MV} {v3 : Int32} (k1 : v3 ≤ (nI 40) → J mX10_numbers d 0 0 Q 0 0 32 [u0, u1, u2, some (.inl v3)] [] h) (k2 : ¬ v3 ≤ (nI 40) → J mX10_numbers d 0 0 Q 0 0 29 [u0, u1, u2, some (.inl v3)] [] h) : J mX10_numbers d 0 0 Q 0 0 23 [u0, u1, u2, some (.inl v3)] [] h := by
  refine zrun 12 3 qX10_numbers (o := 10) rfl ?_
  show ((v3 ≤ (nI 40) → J mX10_numbers d 0 0 Q 0 0 32 [u0, u1, u2, some (.inl v3)] [] h) ∧ (¬ v3 ≤ (nI 40) → J mX10_numbers d 0 0 Q 0 0 29 [u0, u1, u2, some (.inl v3)] [] h))
  exact ⟨k1, k2⟩

theorem bX10_numbers_29 {d : Nat} {Q : Option MV → MH → Prop} {h : MH} {u0 u1 u2 u3 : Option MV} (k : Q (some (.inl (-(nI 3)))) h) : J mX10_numbers d 0 0 Q 0 0 29 [u0, u1, u2, u3] [] h := by
  refine zrun 15 1 qX10_numbers (o := 10) rfl ?_
  show J mX10_numbers d 0 0 Q 0 0 31 [u0, u1, u2, u3] [.inl (-(nI 3))] h
  exact J_iret (ty := .int) (zat qX10_numbers 16 (by rfl)) rfl rfl (Nat.le_refl 0) (Nat.le_refl 0) k

theorem bX10_numbers_32 {d d' : Nat} {Q : Option MV → MH → Prop} {h : MH} {v1 v2 v3 : Int32} (hr : zRf h) (g0 : vp_in v1 4) (hd : d' + 1 ≤ d) (k : Con mX7_begin d' 0 0 [.inr (.inr (103 + 2 * v1.toNatClampNeg)), .inl v2, .inl v3] h (zrv fun h' => J mX10_numbers d 0 0 Q 0 0 43 [some (.inr (.inr 1)), some (.inl v1), some (.inl v2), some (.inl v3)] [] h')) : J mX10_numbers d 0 0 Q 0 0 32 [some (.inr (.inr 1)), some (.inl v1), some (.inl v2), some (.inl v3)] [] h := by
  refine zrun 17 6 qX10_numbers (o := 10) rfl ?_
  show zokO h 1 10 ∧ zokR h (h.2.2.1 1 6) v1 ∧ J mX10_numbers d 0 0 Q 0 0 40 [some (.inr (.inr 1)), some (.inl v1), some (.inl v2), some (.inl v3)] [.inl v3, .inl v2, .inr (.inr (h.2.2.1 (h.2.2.1 1 6) v1.toNatClampNeg))] h
  rw [(show h.2.2.1 1 6 = 47 from (hr.at (by decide) (by decide) (by rfl))), (show h.2.2.1 47 v1.toNatClampNeg = (103 + 2 * v1.toNatClampNeg) from (hr.a32 (vp_lt g0)))]
  exact ⟨(zo hr (by decide) rfl), (zir_ hr (by decide) (by rfl) (by decide) g0), zcVv (as := [.inl v2, .inl v3]) (zat qX10_numbers 23 (by rfl)) l10_389 rfl hd rfl (Nat.le_of_ble_eq_true rfl) zle0 (ci := 7) (by decide) rfl (zrw hr g0) k⟩

theorem bX10_numbers_43 {d : Nat} {Q : Option MV → MH → Prop} {h : MH} {u0 u1 u2 u3 : Option MV} (k : Q (some (.inl (nI 0))) h) : J mX10_numbers d 0 0 Q 0 0 43 [u0, u1, u2, u3] [] h := by
  refine zrun 24 1 qX10_numbers (o := 10) rfl ?_
  show J mX10_numbers d 0 0 Q 0 0 44 [u0, u1, u2, u3] [.inl (nI 0)] h
  exact J_iret (ty := .int) (zat qX10_numbers 25 (by rfl)) rfl rfl (Nat.le_refl 0) (Nat.le_refl 0) k

theorem bX10_write_0 {d d' : Nat} {Q : Option MV → MH → Prop} {h : MH} {u0 u2 u3 u4 : Option MV} {v1 : Int32} (hd : d' + 1 ≤ d) (k : Con mX10_isRow d' 0 0 [.inl v1] h (zri fun (x : Int32) h' => J mX10_write d 0 0 Q 0 0 4 [u0, some (.inl v1), u2, u3, u4] [.inl x] h')) : J mX10_write d 0 0 Q 0 0 0 [u0, some (.inl v1), u2, u3, u4] [] h := by
  refine zrun 0 1 qX10_write (o := 10) rfl ?_
  show J mX10_write d 0 0 Q 0 0 1 [u0, some (.inl v1), u2, u3, u4] [.inl v1] h
  exact zcSi (as := [.inl v1]) (zat qX10_write 1 (by rfl)) l10_332 rfl hd rfl (Nat.le_of_ble_eq_true rfl) zle0 k

theorem bX10_write_4 {d : Nat} {Q : Option MV → MH → Prop} {h : MH} {u0 u1 u2 u3 u4 : Option MV} {vs0 : Int32} (k1 : ¬ vs0 = 0 → J mX10_write d 0 0 Q 0 0 11 [u0, u1, u2, u3, u4] [] h) (k2 : vs0 = 0 → J mX10_write d 0 0 Q 0 0 7 [u0, u1, u2, u3, u4] [] h) : J mX10_write d 0 0 Q 0 0 4 [u0, u1, u2, u3, u4] [.inl vs0] h := by
  refine zrun 2 1 qX10_write (o := 10) rfl ?_
  show ((¬ vs0 = 0 → J mX10_write d 0 0 Q 0 0 11 [u0, u1, u2, u3, u4] [] h) ∧ (vs0 = 0 → J mX10_write d 0 0 Q 0 0 7 [u0, u1, u2, u3, u4] [] h))
  exact ⟨k1, k2⟩

theorem bX10_write_7 {d : Nat} {Q : Option MV → MH → Prop} {h : MH} {u0 u1 u2 u3 u4 : Option MV} (k : Q (some (.inr (.inl (-2 : Int64)))) h) : J mX10_write d 0 0 Q 0 0 7 [u0, u1, u2, u3, u4] [] h := by
  refine zrun 3 1 qX10_write (o := 10) rfl ?_
  show J mX10_write d 0 0 Q 0 0 10 [u0, u1, u2, u3, u4] [.inr (.inl (-2 : Int64))] h
  exact J_lret (zat qX10_write 4 (by rfl)) rfl (Nat.le_refl 0) (Nat.le_refl 0) k

theorem bX10_write_11 {d : Nat} {Q : Option MV → MH → Prop} {h : MH} {u2 u3 u4 : Option MV} {v1 : Int32} (hr : zRf h) (g0 : vp_in v1 4) (k1 : ¬ (h.1 (103 + 2 * v1.toNatClampNeg) 0) = 0 → J mX10_write d 0 0 Q 0 0 27 [some (.inr (.inr 1)), some (.inl v1), u2, u3, u4] [] h) (k2 : (h.1 (103 + 2 * v1.toNatClampNeg) 0) = 0 → J mX10_write d 0 0 Q 0 0 23 [some (.inr (.inr 1)), some (.inl v1), u2, u3, u4] [] h) : J mX10_write d 0 0 Q 0 0 11 [some (.inr (.inr 1)), some (.inl v1), u2, u3, u4] [] h := by
  refine zrun 5 6 qX10_write (o := 10) rfl ?_
  show zokO h 1 10 ∧ zokR h (h.2.2.1 1 6) v1 ∧ zokO h (h.2.2.1 (h.2.2.1 1 6) v1.toNatClampNeg) 7 ∧ ((¬ (h.1 (h.2.2.1 (h.2.2.1 1 6) v1.toNatClampNeg) 0) = 0 → J mX10_write d 0 0 Q 0 0 27 [some (.inr (.inr 1)), some (.inl v1), u2, u3, u4] [] h) ∧ ((h.1 (h.2.2.1 (h.2.2.1 1 6) v1.toNatClampNeg) 0) = 0 → J mX10_write d 0 0 Q 0 0 23 [some (.inr (.inr 1)), some (.inl v1), u2, u3, u4] [] h))
  rw [(show h.2.2.1 1 6 = 47 from (hr.at (by decide) (by decide) (by rfl))), (show h.2.2.1 47 v1.toNatClampNeg = (103 + 2 * v1.toNatClampNeg) from (hr.a32 (vp_lt g0)))]
  exact ⟨(zo hr (by decide) rfl), (zir_ hr (by decide) (by rfl) (by decide) g0), (zrw hr g0), k1, k2⟩

theorem bX10_write_23 {d : Nat} {Q : Option MV → MH → Prop} {h : MH} {u0 u1 u2 u3 u4 : Option MV} (k : Q (some (.inr (.inl (-6 : Int64)))) h) : J mX10_write d 0 0 Q 0 0 23 [u0, u1, u2, u3, u4] [] h := by
  refine zrun 11 1 qX10_write (o := 10) rfl ?_
  show J mX10_write d 0 0 Q 0 0 26 [u0, u1, u2, u3, u4] [.inr (.inl (-6 : Int64))] h
  exact J_lret (zat qX10_write 12 (by rfl)) rfl (Nat.le_refl 0) (Nat.le_refl 0) k

theorem bX10_write_27 {d : Nat} {Q : Option MV → MH → Prop} {h : MH} {u0 u1 u3 u4 : Option MV} {v2 : Int32} (k1 : v2 < 0 → J mX10_write d 0 0 Q 0 0 44 [u0, u1, some (.inl v2), u3, u4] [] h) (k2 : ¬ v2 < 0 → J mX10_write d 0 0 Q 0 0 31 [u0, u1, some (.inl v2), u3, u4] [] h) : J mX10_write d 0 0 Q 0 0 27 [u0, u1, some (.inl v2), u3, u4] [] h := by
  refine zrun 13 2 qX10_write (o := 10) rfl ?_
  show ((v2 < 0 → J mX10_write d 0 0 Q 0 0 44 [u0, u1, some (.inl v2), u3, u4] [] h) ∧ (¬ v2 < 0 → J mX10_write d 0 0 Q 0 0 31 [u0, u1, some (.inl v2), u3, u4] [] h))
  exact ⟨k1, k2⟩

theorem bX10_write_31 {d : Nat} {Q : Option MV → MH → Prop} {h : MH} {u3 u4 : Option MV} {v2 v1 : Int32} (hr : zRf h) (g0 : vp_in v1 4) (k1 : v2 < (h.1 (103 + 2 * v1.toNatClampNeg) 2) → J mX10_write d 0 0 Q 0 0 48 [some (.inr (.inr 1)), some (.inl v1), some (.inl v2), u3, u4] [] h) (k2 : ¬ v2 < (h.1 (103 + 2 * v1.toNatClampNeg) 2) → J mX10_write d 0 0 Q 0 0 44 [some (.inr (.inr 1)), some (.inl v1), some (.inl v2), u3, u4] [] h) : J mX10_write d 0 0 Q 0 0 31 [some (.inr (.inr 1)), some (.inl v1), some (.inl v2), u3, u4] [] h := by
  refine zrun 15 7 qX10_write (o := 10) rfl ?_
  show zokO h 1 10 ∧ zokR h (h.2.2.1 1 6) v1 ∧ zokO h (h.2.2.1 (h.2.2.1 1 6) v1.toNatClampNeg) 7 ∧ ((v2 < (h.1 (h.2.2.1 (h.2.2.1 1 6) v1.toNatClampNeg) 2) → J mX10_write d 0 0 Q 0 0 48 [some (.inr (.inr 1)), some (.inl v1), some (.inl v2), u3, u4] [] h) ∧ (¬ v2 < (h.1 (h.2.2.1 (h.2.2.1 1 6) v1.toNatClampNeg) 2) → J mX10_write d 0 0 Q 0 0 44 [some (.inr (.inr 1)), some (.inl v1), some (.inl v2), u3, u4] [] h))
  rw [(show h.2.2.1 1 6 = 47 from (hr.at (by decide) (by decide) (by rfl))), (show h.2.2.1 47 v1.toNatClampNeg = (103 + 2 * v1.toNatClampNeg) from (hr.a32 (vp_lt g0)))]
  exact ⟨(zo hr (by decide) rfl), (zir_ hr (by decide) (by rfl) (by decide) g0), (zrw hr g0), k1, k2⟩

theorem bX10_write_44 {d : Nat} {Q : Option MV → MH → Prop} {h : MH} {u0 u1 u2 u3 u4 : Option MV} (k : Q (some (.inr (.inl (-7 : Int64)))) h) : J mX10_write d 0 0 Q 0 0 44 [u0, u1, u2, u3, u4] [] h := by
  refine zrun 22 1 qX10_write (o := 10) rfl ?_
  show J mX10_write d 0 0 Q 0 0 47 [u0, u1, u2, u3, u4] [.inr (.inl (-7 : Int64))] h
  exact J_lret (zat qX10_write 23 (by rfl)) rfl (Nat.le_refl 0) (Nat.le_refl 0) k

theorem bX10_write_48 {d d' : Nat} {Q : Option MV → MH → Prop} {h : MH} {u4 : Option MV} {v1 v2 : Int32} {v3 : Int64} (hr : zRf h) (g0 : vp_in v1 4) (hd : d' + 1 ≤ d) (k : Con mX7_put d' 0 0 [.inr (.inr (103 + 2 * v1.toNatClampNeg)), .inl v2, .inr (.inl v3)] h (zrv fun h' => J mX10_write d 0 0 Q 0 0 59 [some (.inr (.inr 1)), some (.inl v1), some (.inl v2), some (.inr (.inl v3)), u4] [] h')) : J mX10_write d 0 0 Q 0 0 48 [some (.inr (.inr 1)), some (.inl v1), some (.inl v2), some (.inr (.inl v3)), u4] [] h := by
  refine zrun 24 6 qX10_write (o := 10) rfl ?_
  show zokO h 1 10 ∧ zokR h (h.2.2.1 1 6) v1 ∧ J mX10_write d 0 0 Q 0 0 56 [some (.inr (.inr 1)), some (.inl v1), some (.inl v2), some (.inr (.inl v3)), u4] [.inr (.inl v3), .inl v2, .inr (.inr (h.2.2.1 (h.2.2.1 1 6) v1.toNatClampNeg))] h
  rw [(show h.2.2.1 1 6 = 47 from (hr.at (by decide) (by decide) (by rfl))), (show h.2.2.1 47 v1.toNatClampNeg = (103 + 2 * v1.toNatClampNeg) from (hr.a32 (vp_lt g0)))]
  exact ⟨(zo hr (by decide) rfl), (zir_ hr (by decide) (by rfl) (by decide) g0), zcVv (as := [.inl v2, .inr (.inl v3)]) (zat qX10_write 30 (by rfl)) l10_398 rfl hd rfl (Nat.le_of_ble_eq_true rfl) zle0 (ci := 7) (by decide) rfl (zrw hr g0) k⟩

theorem bX10_write_59 {d : Nat} {Q : Option MV → MH → Prop} {h : MH} {u3 u4 : Option MV} {v1 v2 : Int32} (hr : zRf h) (g0 : vp_in v1 4) (g1 : vp_in v2 40) (k : Q (some (.inr (.inl (h.2.1 ((103 + 2 * v1.toNatClampNeg) + 1) v2.toNatClampNeg)))) h) : J mX10_write d 0 0 Q 0 0 59 [some (.inr (.inr 1)), some (.inl v1), some (.inl v2), u3, u4] [] h := by
  refine zrun 31 7 qX10_write (o := 10) rfl ?_
  show zokO h 1 10 ∧ zokR h (h.2.2.1 1 6) v1 ∧ zokO h (h.2.2.1 (h.2.2.1 1 6) v1.toNatClampNeg) 7 ∧ zokA h (h.2.2.1 (h.2.2.1 (h.2.2.1 1 6) v1.toNatClampNeg) 3) 21 v2 ∧ J mX10_write d 0 0 Q 0 0 70 [some (.inr (.inr 1)), some (.inl v1), some (.inl v2), u3, u4] [.inr (.inl (h.2.1 (h.2.2.1 (h.2.2.1 (h.2.2.1 1 6) v1.toNatClampNeg) 3) v2.toNatClampNeg))] h
  rw [(show h.2.2.1 1 6 = 47 from (hr.at (by decide) (by decide) (by rfl))), (show h.2.2.1 47 v1.toNatClampNeg = (103 + 2 * v1.toNatClampNeg) from (hr.a32 (vp_lt g0))), (show h.2.2.1 (103 + 2 * v1.toNatClampNeg) 3 = ((103 + 2 * v1.toNatClampNeg) + 1) from (hr.f7 (zrw hr g0)))]
  exact ⟨(zo hr (by decide) rfl), (zir_ hr (by decide) (by rfl) (by decide) g0), (zrw hr g0), (zca hr (zrw hr g0) (by decide) (by decide) g1), J_lret (zat qX10_write 38 (by rfl)) rfl (Nat.le_refl 0) (Nat.le_refl 0) k⟩

theorem bX10_copy_0 {d d' : Nat} {Q : Option MV → MH → Prop} {h : MH} {u0 u2 u3 : Option MV} {v1 : Int32} (hd : d' + 1 ≤ d) (k : Con mX10_isPlan d' 0 0 [.inl v1] h (zri fun (x : Int32) h' => J mX10_copy d 0 0 Q 0 0 4 [u0, some (.inl v1), u2, u3] [.inl x] h')) : J mX10_copy d 0 0 Q 0 0 0 [u0, some (.inl v1), u2, u3] [] h := by
  refine zrun 0 1 qX10_copy (o := 10) rfl ?_
  show J mX10_copy d 0 0 Q 0 0 1 [u0, some (.inl v1), u2, u3] [.inl v1] h
  exact zcSi (as := [.inl v1]) (zat qX10_copy 1 (by rfl)) l10_124 rfl hd rfl (Nat.le_of_ble_eq_true rfl) zle0 k

theorem bX10_copy_4 {d : Nat} {Q : Option MV → MH → Prop} {h : MH} {u0 u1 u2 u3 : Option MV} {vs0 : Int32} (k1 : vs0 = 0 → J mX10_copy d 0 0 Q 0 0 14 [u0, u1, u2, u3] [] h) (k2 : ¬ vs0 = 0 → J mX10_copy d 0 0 Q 0 0 7 [u0, u1, u2, u3] [] h) : J mX10_copy d 0 0 Q 0 0 4 [u0, u1, u2, u3] [.inl vs0] h := by
  refine zrun 2 1 qX10_copy (o := 10) rfl ?_
  show ((vs0 = 0 → J mX10_copy d 0 0 Q 0 0 14 [u0, u1, u2, u3] [] h) ∧ (¬ vs0 = 0 → J mX10_copy d 0 0 Q 0 0 7 [u0, u1, u2, u3] [] h))
  exact ⟨k1, k2⟩

theorem bX10_copy_7 {d d' : Nat} {Q : Option MV → MH → Prop} {h : MH} {u0 u1 u3 : Option MV} {v2 : Int32} (hd : d' + 1 ≤ d) (k : Con mX10_isRow d' 0 0 [.inl v2] h (zri fun (x : Int32) h' => J mX10_copy d 0 0 Q 0 0 11 [u0, u1, some (.inl v2), u3] [.inl x] h')) : J mX10_copy d 0 0 Q 0 0 7 [u0, u1, some (.inl v2), u3] [] h := by
  refine zrun 3 1 qX10_copy (o := 10) rfl ?_
  show J mX10_copy d 0 0 Q 0 0 8 [u0, u1, some (.inl v2), u3] [.inl v2] h
  exact zcSi (as := [.inl v2]) (zat qX10_copy 4 (by rfl)) l10_332 rfl hd rfl (Nat.le_of_ble_eq_true rfl) zle0 k

theorem bX10_copy_11 {d : Nat} {Q : Option MV → MH → Prop} {h : MH} {u0 u1 u2 u3 : Option MV} {vs0 : Int32} (k1 : ¬ vs0 = 0 → J mX10_copy d 0 0 Q 0 0 17 [u0, u1, u2, u3] [] h) (k2 : vs0 = 0 → J mX10_copy d 0 0 Q 0 0 14 [u0, u1, u2, u3] [] h) : J mX10_copy d 0 0 Q 0 0 11 [u0, u1, u2, u3] [.inl vs0] h := by
  refine zrun 5 1 qX10_copy (o := 10) rfl ?_
  show ((¬ vs0 = 0 → J mX10_copy d 0 0 Q 0 0 17 [u0, u1, u2, u3] [] h) ∧ (vs0 = 0 → J mX10_copy d 0 0 Q 0 0 14 [u0, u1, u2, u3] [] h))
  exact ⟨k1, k2⟩

theorem bX10_copy_14 {d : Nat} {Q : Option MV → MH → Prop} {h : MH} {u0 u1 u2 u3 : Option MV} (k : Q (some (.inl (-(nI 2)))) h) : J mX10_copy d 0 0 Q 0 0 14 [u0, u1, u2, u3] [] h := by
  refine zrun 6 1 qX10_copy (o := 10) rfl ?_
  show J mX10_copy d 0 0 Q 0 0 16 [u0, u1, u2, u3] [.inl (-(nI 2))] h
  exact J_iret (ty := .int) (zat qX10_copy 7 (by rfl)) rfl rfl (Nat.le_refl 0) (Nat.le_refl 0) k

theorem bX10_copy_17 {d : Nat} {Q : Option MV → MH → Prop} {h : MH} {u1 u3 : Option MV} {v2 : Int32} (hr : zRf h) (g0 : vp_in v2 4) (k1 : ¬ (h.1 (103 + 2 * v2.toNatClampNeg) 0) = 0 → J mX10_copy d 0 0 Q 0 0 32 [some (.inr (.inr 1)), u1, some (.inl v2), u3] [] h) (k2 : (h.1 (103 + 2 * v2.toNatClampNeg) 0) = 0 → J mX10_copy d 0 0 Q 0 0 29 [some (.inr (.inr 1)), u1, some (.inl v2), u3] [] h) : J mX10_copy d 0 0 Q 0 0 17 [some (.inr (.inr 1)), u1, some (.inl v2), u3] [] h := by
  refine zrun 8 6 qX10_copy (o := 10) rfl ?_
  show zokO h 1 10 ∧ zokR h (h.2.2.1 1 6) v2 ∧ zokO h (h.2.2.1 (h.2.2.1 1 6) v2.toNatClampNeg) 7 ∧ ((¬ (h.1 (h.2.2.1 (h.2.2.1 1 6) v2.toNatClampNeg) 0) = 0 → J mX10_copy d 0 0 Q 0 0 32 [some (.inr (.inr 1)), u1, some (.inl v2), u3] [] h) ∧ ((h.1 (h.2.2.1 (h.2.2.1 1 6) v2.toNatClampNeg) 0) = 0 → J mX10_copy d 0 0 Q 0 0 29 [some (.inr (.inr 1)), u1, some (.inl v2), u3] [] h))
  rw [(show h.2.2.1 1 6 = 47 from (hr.at (by decide) (by decide) (by rfl))), (show h.2.2.1 47 v2.toNatClampNeg = (103 + 2 * v2.toNatClampNeg) from (hr.a32 (vp_lt g0)))]
  exact ⟨(zo hr (by decide) rfl), (zir_ hr (by decide) (by rfl) (by decide) g0), (zrw hr g0), k1, k2⟩

theorem bX10_copy_29 {d : Nat} {Q : Option MV → MH → Prop} {h : MH} {u0 u1 u2 u3 : Option MV} (k : Q (some (.inl (-(nI 6)))) h) : J mX10_copy d 0 0 Q 0 0 29 [u0, u1, u2, u3] [] h := by
  refine zrun 14 1 qX10_copy (o := 10) rfl ?_
  show J mX10_copy d 0 0 Q 0 0 31 [u0, u1, u2, u3] [.inl (-(nI 6))] h
  exact J_iret (ty := .int) (zat qX10_copy 15 (by rfl)) rfl rfl (Nat.le_refl 0) (Nat.le_refl 0) k

theorem bX10_copy_32 {d d' : Nat} {Q : Option MV → MH → Prop} {h : MH} {u2 u3 : Option MV} {v1 : Int32} (hr : zRf h) (hd : d' + 1 ≤ d) (k : Con mX10_playAsTold d' 0 0 [.inr (.inr 1), .inl v1] h (zrv fun h' => J mX10_copy d 0 0 Q 0 0 37 [some (.inr (.inr 1)), some (.inl v1), u2, u3] [] h')) : J mX10_copy d 0 0 Q 0 0 32 [some (.inr (.inr 1)), some (.inl v1), u2, u3] [] h := by
  refine zrun 16 2 qX10_copy (o := 10) rfl ?_
  show J mX10_copy d 0 0 Q 0 0 34 [some (.inr (.inr 1)), some (.inl v1), u2, u3] [.inl v1, .inr (.inr 1)] h
  exact zcVv (as := [.inl v1]) (zat qX10_copy 18 (by rfl)) l10_186 rfl hd rfl (Nat.le_of_ble_eq_true rfl) zle0 (ci := 10) (by decide) rfl (zo hr (by decide) rfl) k

theorem bX10_copy_37 {d : Nat} {Q : Option MV → MH → Prop} {h : MH} {u1 u3 : Option MV} {v2 : Int32} (hr : zRf h) (g0 : vp_in v2 4) (k1 : (h.1 48 9) ≤ (h.1 (103 + 2 * v2.toNatClampNeg) 2) → J mX10_copy d 0 0 Q 0 0 59 [some (.inr (.inr 1)), u1, some (.inl v2), u3] [] h) (k2 : ¬ (h.1 48 9) ≤ (h.1 (103 + 2 * v2.toNatClampNeg) 2) → J mX10_copy d 0 0 Q 0 0 56 [some (.inr (.inr 1)), u1, some (.inl v2), u3] [] h) : J mX10_copy d 0 0 Q 0 0 37 [some (.inr (.inr 1)), u1, some (.inl v2), u3] [] h := by
  refine zrun 19 9 qX10_copy (o := 10) rfl ?_
  show zokO h 1 10 ∧ zokO h (h.2.2.1 1 7) 8 ∧ zokO h 1 10 ∧ zokR h (h.2.2.1 1 6) v2 ∧ zokO h (h.2.2.1 (h.2.2.1 1 6) v2.toNatClampNeg) 7 ∧ (((h.1 (h.2.2.1 1 7) 9) ≤ (h.1 (h.2.2.1 (h.2.2.1 1 6) v2.toNatClampNeg) 2) → J mX10_copy d 0 0 Q 0 0 59 [some (.inr (.inr 1)), u1, some (.inl v2), u3] [] h) ∧ (¬ (h.1 (h.2.2.1 1 7) 9) ≤ (h.1 (h.2.2.1 (h.2.2.1 1 6) v2.toNatClampNeg) 2) → J mX10_copy d 0 0 Q 0 0 56 [some (.inr (.inr 1)), u1, some (.inl v2), u3] [] h))
  rw [(show h.2.2.1 1 7 = 48 from (hr.at (by decide) (by decide) (by rfl))), (show h.2.2.1 1 6 = 47 from (hr.at (by decide) (by decide) (by rfl))), (show h.2.2.1 47 v2.toNatClampNeg = (103 + 2 * v2.toNatClampNeg) from (hr.a32 (vp_lt g0)))]
  exact ⟨(zo hr (by decide) rfl), (zo hr (by decide) rfl), (zo hr (by decide) rfl), (zir_ hr (by decide) (by rfl) (by decide) g0), (zrw hr g0), k1, k2⟩

theorem bX10_copy_56 {d : Nat} {Q : Option MV → MH → Prop} {h : MH} {u0 u1 u2 u3 : Option MV} (k : Q (some (.inl (-(nI 7)))) h) : J mX10_copy d 0 0 Q 0 0 56 [u0, u1, u2, u3] [] h := by
  refine zrun 28 1 qX10_copy (o := 10) rfl ?_
  show J mX10_copy d 0 0 Q 0 0 58 [u0, u1, u2, u3] [.inl (-(nI 7))] h
  exact J_iret (ty := .int) (zat qX10_copy 29 (by rfl)) rfl rfl (Nat.le_refl 0) (Nat.le_refl 0) k

theorem bX10_copy_59 {d : Nat} {Q : Option MV → MH → Prop} {h : MH} {u0 u1 u3 : Option MV} {v2 : Int32} (k : J mX10_copy d 0 0 Q 0 0 61 [u0, u1, some (.inl v2), some (.inl (nI 0))] [] h) : J mX10_copy d 0 0 Q 0 0 59 [u0, u1, some (.inl v2), u3] [] h := by
  refine zrun 30 2 qX10_copy (o := 10) rfl ?_
  show J mX10_copy d 0 0 Q 0 0 61 [u0, u1, some (.inl v2), some (.inl (nI 0))] [] h
  exact k

theorem bX10_copy_61 {d : Nat} {Q : Option MV → MH → Prop} {h : MH} {u1 u2 : Option MV} {v3 : Int32} (hr : zRf h) (k1 : (h.1 48 9) ≤ v3 → J mX10_copy d 0 0 Q 0 0 97 [some (.inr (.inr 1)), u1, u2, some (.inl v3)] [] h) (k2 : ¬ (h.1 48 9) ≤ v3 → J mX10_copy d 0 0 Q 0 0 72 [some (.inr (.inr 1)), u1, u2, some (.inl v3)] [] h) : J mX10_copy d 0 0 Q 0 0 61 [some (.inr (.inr 1)), u1, u2, some (.inl v3)] [] h := by
  refine zrun 32 5 qX10_copy (o := 10) rfl ?_
  show zokO h 1 10 ∧ zokO h (h.2.2.1 1 7) 8 ∧ (((h.1 (h.2.2.1 1 7) 9) ≤ v3 → J mX10_copy d 0 0 Q 0 0 97 [some (.inr (.inr 1)), u1, u2, some (.inl v3)] [] h) ∧ (¬ (h.1 (h.2.2.1 1 7) 9) ≤ v3 → J mX10_copy d 0 0 Q 0 0 72 [some (.inr (.inr 1)), u1, u2, some (.inl v3)] [] h))
  rw [(show h.2.2.1 1 7 = 48 from (hr.at (by decide) (by decide) (by rfl)))]
  exact ⟨(zo hr (by decide) rfl), (zo hr (by decide) rfl), k1, k2⟩

theorem bX10_copy_72 {d d' : Nat} {Q : Option MV → MH → Prop} {h : MH} {u1 : Option MV} {v2 v3 : Int32} (hr : zRf h) (g0 : vp_in v2 4) (hd : d' + 1 ≤ d) (k : Con mX8_bellAt d' 0 0 [.inr (.inr 48), .inl v3] h (zri fun (x : Int32) h' => J mX10_copy d 0 0 Q 0 0 87 [some (.inr (.inr 1)), u1, some (.inl v2), some (.inl v3)] [.inl x, .inl v3, .inr (.inr (103 + 2 * v2.toNatClampNeg))] h')) : J mX10_copy d 0 0 Q 0 0 72 [some (.inr (.inr 1)), u1, some (.inl v2), some (.inl v3)] [] h := by
  refine zrun 37 8 qX10_copy (o := 10) rfl ?_
  show zokO h 1 10 ∧ zokR h (h.2.2.1 1 6) v2 ∧ zokO h 1 10 ∧ J mX10_copy d 0 0 Q 0 0 84 [some (.inr (.inr 1)), u1, some (.inl v2), some (.inl v3)] [.inl v3, .inr (.inr (h.2.2.1 1 7)), .inl v3, .inr (.inr (h.2.2.1 (h.2.2.1 1 6) v2.toNatClampNeg))] h
  rw [(show h.2.2.1 1 6 = 47 from (hr.at (by decide) (by decide) (by rfl))), (show h.2.2.1 47 v2.toNatClampNeg = (103 + 2 * v2.toNatClampNeg) from (hr.a32 (vp_lt g0))), (show h.2.2.1 1 7 = 48 from (hr.at (by decide) (by decide) (by rfl)))]
  exact ⟨(zo hr (by decide) rfl), (zir_ hr (by decide) (by rfl) (by decide) g0), (zo hr (by decide) rfl), zcVi (as := [.inl v3]) (zat qX10_copy 45 (by rfl)) l10_226 rfl hd rfl (Nat.le_of_ble_eq_true rfl) zle0 (ci := 8) (by decide) rfl (zo hr (by decide) rfl) k⟩

theorem bX10_copy_87 {d d' : Nat} {Q : Option MV → MH → Prop} {h : MH} {u0 u1 u2 u3 : Option MV} {vs1 vs2 : Int32} {vs0 : Nat} (gr : zokO h vs0 7) (hd : d' + 1 ≤ d) (k : Con mX7_put d' 0 0 [.inr (.inr vs0), .inl vs1, .inr (.inl vs2.toInt64)] h (zrv fun h' => J mX10_copy d 0 0 Q 0 0 91 [u0, u1, u2, u3] [] h')) : J mX10_copy d 0 0 Q 0 0 87 [u0, u1, u2, u3] [.inl vs2, .inl vs1, .inr (.inr vs0)] h := by
  refine zrun 46 1 qX10_copy (o := 10) rfl ?_
  show J mX10_copy d 0 0 Q 0 0 88 [u0, u1, u2, u3] [.inr (.inl vs2.toInt64), .inl vs1, .inr (.inr vs0)] h
  exact zcVv (as := [.inl vs1, .inr (.inl vs2.toInt64)]) (zat qX10_copy 47 (by rfl)) l10_398 rfl hd rfl (Nat.le_of_ble_eq_true rfl) zle0 (ci := 7) (by decide) rfl gr k

theorem bX10_copy_91 {d : Nat} {Q : Option MV → MH → Prop} {h : MH} {u0 u1 : Option MV} {v3 v2 : Int32} (k : J mX10_copy d 0 0 Q 0 0 61 [u0, u1, some (.inl v2), some (.inl (v3 + nI 1))] [] h) : J mX10_copy d 0 0 Q 0 0 91 [u0, u1, some (.inl v2), some (.inl v3)] [] h := by
  refine zrun 48 2 qX10_copy (o := 10) rfl ?_
  show J mX10_copy d 0 0 Q 0 0 61 [u0, u1, some (.inl v2), some (.inl (v3 + nI 1))] [] h
  exact k

theorem bX10_copy_97 {d : Nat} {Q : Option MV → MH → Prop} {h : MH} {u1 u2 u3 : Option MV} (hr : zRf h) (k : Q (some (.inl (h.1 48 9))) h) : J mX10_copy d 0 0 Q 0 0 97 [some (.inr (.inr 1)), u1, u2, u3] [] h := by
  refine zrun 50 3 qX10_copy (o := 10) rfl ?_
  show zokO h 1 10 ∧ zokO h (h.2.2.1 1 7) 8 ∧ J mX10_copy d 0 0 Q 0 0 104 [some (.inr (.inr 1)), u1, u2, u3] [.inl (h.1 (h.2.2.1 1 7) 9)] h
  rw [(show h.2.2.1 1 7 = 48 from (hr.at (by decide) (by decide) (by rfl)))]
  exact ⟨(zo hr (by decide) rfl), (zo hr (by decide) rfl), J_iret (ty := .int) (zat qX10_copy 53 (by rfl)) rfl rfl (Nat.le_refl 0) (Nat.le_refl 0) k⟩

theorem bX10_image_0 {d mc ms cs ss : Nat} {Q : Option MV → MH → Prop} {h : MH} {u0 : Option MV} {v1 : Int32} (hc : cs ≤ mc ∧ ss ≤ ms) (k1 : v1 < 0 → J mX10_image d mc ms Q cs ss 9 [u0, some (.inl v1)] [] h) (k2 : ¬ v1 < 0 → J mX10_image d mc ms Q cs ss 4 [u0, some (.inl v1)] [] h) : J mX10_image d mc ms Q cs ss 0 [u0, some (.inl v1)] [] h := by
  refine zrun 0 2 qX10_image (o := 10) rfl ?_
  show ((v1 < 0 → J mX10_image d mc ms Q cs ss 9 [u0, some (.inl v1)] [] h) ∧ (¬ v1 < 0 → J mX10_image d mc ms Q cs ss 4 [u0, some (.inl v1)] [] h))
  exact ⟨k1, k2⟩

theorem bX10_image_4 {d mc ms cs ss : Nat} {Q : Option MV → MH → Prop} {h : MH} {u0 : Option MV} {v1 : Int32} (hc : cs ≤ mc ∧ ss ≤ ms) (k1 : v1 < (nI 2) → J mX10_image d mc ms Q cs ss 12 [u0, some (.inl v1)] [] h) (k2 : ¬ v1 < (nI 2) → J mX10_image d mc ms Q cs ss 9 [u0, some (.inl v1)] [] h) : J mX10_image d mc ms Q cs ss 4 [u0, some (.inl v1)] [] h := by
  refine zrun 2 3 qX10_image (o := 10) rfl ?_
  show ((v1 < (nI 2) → J mX10_image d mc ms Q cs ss 12 [u0, some (.inl v1)] [] h) ∧ (¬ v1 < (nI 2) → J mX10_image d mc ms Q cs ss 9 [u0, some (.inl v1)] [] h))
  exact ⟨k1, k2⟩

theorem bX10_image_9 {d mc ms cs ss : Nat} {Q : Option MV → MH → Prop} {h : MH} {u0 u1 : Option MV} (hc : cs ≤ mc ∧ ss ≤ ms) (k : Q (some (.inl (-(nI 2)))) h) : J mX10_image d mc ms Q cs ss 9 [u0, u1] [] h := by
  refine zrun 5 1 qX10_image (o := 10) rfl ?_
  show J mX10_image d mc ms Q cs ss 11 [u0, u1] [.inl (-(nI 2))] h
  exact J_iret (ty := .int) (zat qX10_image 6 (by rfl)) rfl rfl hc.1 hc.2 k

theorem bX10_image_12 {d mc ms cs ss : Nat} {Q : Option MV → MH → Prop} {h : MH} {v1 : Int32} (hr : zRf h) (hc : cs ≤ mc ∧ ss ≤ ms) (g0 : vp_in v1 2) (k1 : ¬ (h.2.2.1 46 v1.toNatClampNeg) = 0 → J mX10_image d mc ms Q cs ss 34 [some (.inr (.inr 1)), some (.inl v1)] [] h) (k2 : (h.2.2.1 46 v1.toNatClampNeg) = 0 → J mX10_image d mc ms Q cs ss 21 [some (.inr (.inr 1)), some (.inl v1)] [] h) : J mX10_image d mc ms Q cs ss 12 [some (.inr (.inr 1)), some (.inl v1)] [] h := by
  refine zrun 7 5 qX10_image (o := 10) rfl ?_
  show zokO h 1 10 ∧ zokR h (h.2.2.1 1 5) v1 ∧ ((¬ (h.2.2.1 (h.2.2.1 1 5) v1.toNatClampNeg) = 0 → J mX10_image d mc ms Q cs ss 34 [some (.inr (.inr 1)), some (.inl v1)] [] h) ∧ ((h.2.2.1 (h.2.2.1 1 5) v1.toNatClampNeg) = 0 → J mX10_image d mc ms Q cs ss 21 [some (.inr (.inr 1)), some (.inl v1)] [] h))
  rw [(show h.2.2.1 1 5 = 46 from (hr.at (by decide) (by decide) (by rfl)))]
  exact ⟨(zo hr (by decide) rfl), (zir_ hr (by decide) (by rfl) (by decide) g0), k1, k2⟩

theorem bX10_image_21 {d mc ms cs ss : Nat} {Q : Option MV → MH → Prop} {h : MH} {v1 : Int32} (hr : zRf h) (hc : cs ≤ mc ∧ ss ≤ ms) (k : J mX10_image d mc ms Q cs ss 26 [some (.inr (.inr 1)), some (.inl v1)] [.inl v1, .inr (.inr 46)] h) : J mX10_image d mc ms Q cs ss 21 [some (.inr (.inr 1)), some (.inl v1)] [] h := by
  refine zrun 12 3 qX10_image (o := 10) rfl ?_
  show zokO h 1 10 ∧ J mX10_image d mc ms Q cs ss 26 [some (.inr (.inr 1)), some (.inl v1)] [.inl v1, .inr (.inr (h.2.2.1 1 5))] h
  rw [(show h.2.2.1 1 5 = 46 from (hr.at (by decide) (by decide) (by rfl)))]
  exact ⟨(zo hr (by decide) rfl), k⟩

theorem bX10_image_34 {d d' mc ms cs ss : Nat} {Q : Option MV → MH → Prop} {h : MH} {v1 : Int32} (hr : zRf h) (hc : cs ≤ mc ∧ ss ≤ ms) (g0 : vp_in v1 2) (gr : zokO h (h.2.2.1 46 v1.toNatClampNeg) 1) (hd : d' + 1 ≤ d) (k : Con mX1_takeFrom d' 0 0 [.inr (.inr (h.2.2.1 46 v1.toNatClampNeg)), .inr (.inr 15)] h (zrv fun h' => J mX10_image d mc ms Q cs ss 47 [some (.inr (.inr 1)), some (.inl v1)] [] h')) : J mX10_image d mc ms Q cs ss 34 [some (.inr (.inr 1)), some (.inl v1)] [] h := by
  refine zrun 18 6 qX10_image (o := 10) rfl ?_
  show zokO h 1 10 ∧ zokR h (h.2.2.1 1 5) v1 ∧ zokO h 1 10 ∧ J mX10_image d mc ms Q cs ss 44 [some (.inr (.inr 1)), some (.inl v1)] [.inr (.inr (h.2.2.1 1 4)), .inr (.inr (h.2.2.1 (h.2.2.1 1 5) v1.toNatClampNeg))] h
  rw [(show h.2.2.1 1 5 = 46 from (hr.at (by decide) (by decide) (by rfl))), (show h.2.2.1 1 4 = 15 from (hr.at (by decide) (by decide) (by rfl)))]
  exact ⟨(zo hr (by decide) rfl), (zir_ hr (by decide) (by rfl) (by decide) g0), (zo hr (by decide) rfl), zcVv (as := [.inr (.inr 15)]) (zat qX10_image 24 (by rfl)) l10_402 rfl hd rfl (Nat.le_of_ble_eq_true rfl) hc (ci := 1) (by decide) rfl gr k⟩

theorem bX10_image_47 {d mc ms cs ss : Nat} {Q : Option MV → MH → Prop} {h : MH} {u0 u1 : Option MV} (hc : cs ≤ mc ∧ ss ≤ ms) (k : Q (some (.inl (nI 0))) h) : J mX10_image d mc ms Q cs ss 47 [u0, u1] [] h := by
  refine zrun 25 1 qX10_image (o := 10) rfl ?_
  show J mX10_image d mc ms Q cs ss 48 [u0, u1] [.inl (nI 0)] h
  exact J_iret (ty := .int) (zat qX10_image 26 (by rfl)) rfl rfl hc.1 hc.2 k

theorem bX10_restore_0 {d : Nat} {Q : Option MV → MH → Prop} {h : MH} {u0 : Option MV} {v1 : Int32} (k1 : v1 < 0 → J mX10_restore d 0 0 Q 0 0 9 [u0, some (.inl v1)] [] h) (k2 : ¬ v1 < 0 → J mX10_restore d 0 0 Q 0 0 4 [u0, some (.inl v1)] [] h) : J mX10_restore d 0 0 Q 0 0 0 [u0, some (.inl v1)] [] h := by
  refine zrun 0 2 qX10_restore (o := 10) rfl ?_
  show ((v1 < 0 → J mX10_restore d 0 0 Q 0 0 9 [u0, some (.inl v1)] [] h) ∧ (¬ v1 < 0 → J mX10_restore d 0 0 Q 0 0 4 [u0, some (.inl v1)] [] h))
  exact ⟨k1, k2⟩

theorem bX10_restore_4 {d : Nat} {Q : Option MV → MH → Prop} {h : MH} {u0 : Option MV} {v1 : Int32} (k1 : v1 < (nI 2) → J mX10_restore d 0 0 Q 0 0 12 [u0, some (.inl v1)] [] h) (k2 : ¬ v1 < (nI 2) → J mX10_restore d 0 0 Q 0 0 9 [u0, some (.inl v1)] [] h) : J mX10_restore d 0 0 Q 0 0 4 [u0, some (.inl v1)] [] h := by
  refine zrun 2 3 qX10_restore (o := 10) rfl ?_
  show ((v1 < (nI 2) → J mX10_restore d 0 0 Q 0 0 12 [u0, some (.inl v1)] [] h) ∧ (¬ v1 < (nI 2) → J mX10_restore d 0 0 Q 0 0 9 [u0, some (.inl v1)] [] h))
  exact ⟨k1, k2⟩

theorem bX10_restore_9 {d : Nat} {Q : Option MV → MH → Prop} {h : MH} {u0 u1 : Option MV} (k : Q (some (.inl (-(nI 2)))) h) : J mX10_restore d 0 0 Q 0 0 9 [u0, u1] [] h := by
  refine zrun 5 1 qX10_restore (o := 10) rfl ?_
  show J mX10_restore d 0 0 Q 0 0 11 [u0, u1] [.inl (-(nI 2))] h
  exact J_iret (ty := .int) (zat qX10_restore 6 (by rfl)) rfl rfl (Nat.le_refl 0) (Nat.le_refl 0) k

theorem bX10_restore_12 {d : Nat} {Q : Option MV → MH → Prop} {h : MH} {v1 : Int32} (hr : zRf h) (g0 : vp_in v1 2) (k1 : ¬ (h.2.2.1 46 v1.toNatClampNeg) = 0 → J mX10_restore d 0 0 Q 0 0 24 [some (.inr (.inr 1)), some (.inl v1)] [] h) (k2 : (h.2.2.1 46 v1.toNatClampNeg) = 0 → J mX10_restore d 0 0 Q 0 0 21 [some (.inr (.inr 1)), some (.inl v1)] [] h) : J mX10_restore d 0 0 Q 0 0 12 [some (.inr (.inr 1)), some (.inl v1)] [] h := by
  refine zrun 7 5 qX10_restore (o := 10) rfl ?_
  show zokO h 1 10 ∧ zokR h (h.2.2.1 1 5) v1 ∧ ((¬ (h.2.2.1 (h.2.2.1 1 5) v1.toNatClampNeg) = 0 → J mX10_restore d 0 0 Q 0 0 24 [some (.inr (.inr 1)), some (.inl v1)] [] h) ∧ ((h.2.2.1 (h.2.2.1 1 5) v1.toNatClampNeg) = 0 → J mX10_restore d 0 0 Q 0 0 21 [some (.inr (.inr 1)), some (.inl v1)] [] h))
  rw [(show h.2.2.1 1 5 = 46 from (hr.at (by decide) (by decide) (by rfl)))]
  exact ⟨(zo hr (by decide) rfl), (zir_ hr (by decide) (by rfl) (by decide) g0), k1, k2⟩

theorem bX10_restore_21 {d : Nat} {Q : Option MV → MH → Prop} {h : MH} {u0 u1 : Option MV} (k : Q (some (.inl (-(nI 5)))) h) : J mX10_restore d 0 0 Q 0 0 21 [u0, u1] [] h := by
  refine zrun 12 1 qX10_restore (o := 10) rfl ?_
  show J mX10_restore d 0 0 Q 0 0 23 [u0, u1] [.inl (-(nI 5))] h
  exact J_iret (ty := .int) (zat qX10_restore 13 (by rfl)) rfl rfl (Nat.le_refl 0) (Nat.le_refl 0) k

theorem bX10_restore_24 {d d' : Nat} {Q : Option MV → MH → Prop} {h : MH} {v1 : Int32} (hr : zRf h) (g0 : vp_in v1 2) (hd : d' + 1 ≤ d) (k : Con mX1_takeFrom d' 0 0 [.inr (.inr 15), .inr (.inr (h.2.2.1 46 v1.toNatClampNeg))] h (zrv fun h' => J mX10_restore d 0 0 Q 0 0 37 [some (.inr (.inr 1)), some (.inl v1)] [] h')) : J mX10_restore d 0 0 Q 0 0 24 [some (.inr (.inr 1)), some (.inl v1)] [] h := by
  refine zrun 14 6 qX10_restore (o := 10) rfl ?_
  show zokO h 1 10 ∧ zokO h 1 10 ∧ zokR h (h.2.2.1 1 5) v1 ∧ J mX10_restore d 0 0 Q 0 0 34 [some (.inr (.inr 1)), some (.inl v1)] [.inr (.inr (h.2.2.1 (h.2.2.1 1 5) v1.toNatClampNeg)), .inr (.inr (h.2.2.1 1 4))] h
  rw [(show h.2.2.1 1 4 = 15 from (hr.at (by decide) (by decide) (by rfl))), (show h.2.2.1 1 5 = 46 from (hr.at (by decide) (by decide) (by rfl)))]
  exact ⟨(zo hr (by decide) rfl), (zo hr (by decide) rfl), (zir_ hr (by decide) (by rfl) (by decide) g0), zcVv (as := [.inr (.inr (h.2.2.1 46 v1.toNatClampNeg))]) (zat qX10_restore 20 (by rfl)) l10_402 rfl hd rfl (Nat.le_of_ble_eq_true rfl) zle0 (ci := 1) (by decide) rfl (zo hr (by decide) rfl) k⟩

theorem bX10_restore_37 {d d' : Nat} {Q : Option MV → MH → Prop} {h : MH} {u1 : Option MV} (hr : zRf h) (hd : d' + 1 ≤ d) (k : Con mX10_forgetCellar d' 0 0 [.inr (.inr 1)] h (zrv fun h' => J mX10_restore d 0 0 Q 0 0 41 [some (.inr (.inr 1)), u1] [] h')) : J mX10_restore d 0 0 Q 0 0 37 [some (.inr (.inr 1)), u1] [] h := by
  refine zrun 21 1 qX10_restore (o := 10) rfl ?_
  show J mX10_restore d 0 0 Q 0 0 38 [some (.inr (.inr 1)), u1] [.inr (.inr 1)] h
  exact zcVv (as := []) (zat qX10_restore 22 (by rfl)) l10_118 rfl hd rfl (Nat.le_of_ble_eq_true rfl) zle0 (ci := 10) (by decide) rfl (zo hr (by decide) rfl) k

theorem bX10_restore_41 {d : Nat} {Q : Option MV → MH → Prop} {h : MH} {u0 u1 : Option MV} (k : Q (some (.inl (nI 0))) h) : J mX10_restore d 0 0 Q 0 0 41 [u0, u1] [] h := by
  refine zrun 23 1 qX10_restore (o := 10) rfl ?_
  show J mX10_restore d 0 0 Q 0 0 42 [u0, u1] [.inl (nI 0)] h
  exact J_iret (ty := .int) (zat qX10_restore 24 (by rfl)) rfl rfl (Nat.le_refl 0) (Nat.le_refl 0) k

theorem bX10_count_0 {d : Nat} {Q : Option MV → MH → Prop} {h : MH} {u0 : Option MV} {v1 : Int32} (k1 : v1 = 0 → J mX10_count d 0 0 Q 0 0 10 [u0, some (.inl v1)] [] h) (k2 : ¬ v1 = 0 → J mX10_count d 0 0 Q 0 0 4 [u0, some (.inl v1)] [] h) : J mX10_count d 0 0 Q 0 0 0 [u0, some (.inl v1)] [] h := by
  refine zrun 0 2 qX10_count (o := 10) rfl ?_
  show ((v1 = 0 → J mX10_count d 0 0 Q 0 0 10 [u0, some (.inl v1)] [] h) ∧ (¬ v1 = 0 → J mX10_count d 0 0 Q 0 0 4 [u0, some (.inl v1)] [] h))
  exact ⟨k1, k2⟩

theorem bX10_count_4 {d : Nat} {Q : Option MV → MH → Prop} {h : MH} {u0 : Option MV} {v1 : Int32} (k1 : ¬ v1 = (nI 6) → J mX10_count d 0 0 Q 0 0 21 [u0, some (.inl v1)] [] h) (k2 : v1 = (nI 6) → J mX10_count d 0 0 Q 0 0 10 [u0, some (.inl v1)] [] h) : J mX10_count d 0 0 Q 0 0 4 [u0, some (.inl v1)] [] h := by
  refine zrun 2 3 qX10_count (o := 10) rfl ?_
  show ((¬ v1 = (nI 6) → J mX10_count d 0 0 Q 0 0 21 [u0, some (.inl v1)] [] h) ∧ (v1 = (nI 6) → J mX10_count d 0 0 Q 0 0 10 [u0, some (.inl v1)] [] h))
  exact ⟨k1, k2⟩

theorem bX10_count_10 {d : Nat} {Q : Option MV → MH → Prop} {h : MH} {u1 : Option MV} (hr : zRf h) (k : Q (some (.inl (h.1 16 0))) h) : J mX10_count d 0 0 Q 0 0 10 [some (.inr (.inr 1)), u1] [] h := by
  refine zrun 5 4 qX10_count (o := 10) rfl ?_
  show zokO h 1 10 ∧ zokO h (h.2.2.1 1 4) 1 ∧ zokO h (h.2.2.1 (h.2.2.1 1 4) 0) 2 ∧ J mX10_count d 0 0 Q 0 0 20 [some (.inr (.inr 1)), u1] [.inl (h.1 (h.2.2.1 (h.2.2.1 1 4) 0) 0)] h
  rw [(show h.2.2.1 1 4 = 15 from (hr.at (by decide) (by decide) (by rfl))), (show h.2.2.1 15 0 = 16 from (hr.at (by decide) (by decide) (by rfl)))]
  exact ⟨(zo hr (by decide) rfl), (zo hr (by decide) rfl), (zo hr (by decide) rfl), J_iret (ty := .int) (zat qX10_count 9 (by rfl)) rfl rfl (Nat.le_refl 0) (Nat.le_refl 0) k⟩

theorem bX10_count_21 {d : Nat} {Q : Option MV → MH → Prop} {h : MH} {u0 : Option MV} {v1 : Int32} (k1 : v1 < (nI 1) → J mX10_count d 0 0 Q 0 0 46 [u0, some (.inl v1)] [] h) (k2 : ¬ v1 < (nI 1) → J mX10_count d 0 0 Q 0 0 26 [u0, some (.inl v1)] [] h) : J mX10_count d 0 0 Q 0 0 21 [u0, some (.inl v1)] [] h := by
  refine zrun 10 3 qX10_count (o := 10) rfl ?_
  show ((v1 < (nI 1) → J mX10_count d 0 0 Q 0 0 46 [u0, some (.inl v1)] [] h) ∧ (¬ v1 < (nI 1) → J mX10_count d 0 0 Q 0 0 26 [u0, some (.inl v1)] [] h))
  exact ⟨k1, k2⟩

theorem bX10_count_26 {d : Nat} {Q : Option MV → MH → Prop} {h : MH} {u0 : Option MV} {v1 : Int32} (k1 : (nI 4) < v1 → J mX10_count d 0 0 Q 0 0 46 [u0, some (.inl v1)] [] h) (k2 : ¬ (nI 4) < v1 → J mX10_count d 0 0 Q 0 0 31 [u0, some (.inl v1)] [] h) : J mX10_count d 0 0 Q 0 0 26 [u0, some (.inl v1)] [] h := by
  refine zrun 13 3 qX10_count (o := 10) rfl ?_
  show (((nI 4) < v1 → J mX10_count d 0 0 Q 0 0 46 [u0, some (.inl v1)] [] h) ∧ (¬ (nI 4) < v1 → J mX10_count d 0 0 Q 0 0 31 [u0, some (.inl v1)] [] h))
  exact ⟨k1, k2⟩

theorem bX10_count_31 {d : Nat} {Q : Option MV → MH → Prop} {h : MH} {v1 : Int32} (hr : zRf h) (g0 : vp_in (v1 - (nI 1)) 4) (k : Q (some (.inl (h.1 (22 + 6 * (v1 - (nI 1)).toNatClampNeg) 0))) h) : J mX10_count d 0 0 Q 0 0 31 [some (.inr (.inr 1)), some (.inl v1)] [] h := by
  refine zrun 16 8 qX10_count (o := 10) rfl ?_
  show zokO h 1 10 ∧ zokO h (h.2.2.1 1 4) 1 ∧ zokR h (h.2.2.1 (h.2.2.1 1 4) 1) (v1 - (nI 1)) ∧ zokO h (h.2.2.1 (h.2.2.1 (h.2.2.1 1 4) 1) (v1 - (nI 1)).toNatClampNeg) 5 ∧ J mX10_count d 0 0 Q 0 0 45 [some (.inr (.inr 1)), some (.inl v1)] [.inl (h.1 (h.2.2.1 (h.2.2.1 (h.2.2.1 1 4) 1) (v1 - (nI 1)).toNatClampNeg) 0)] h
  rw [(show h.2.2.1 1 4 = 15 from (hr.at (by decide) (by decide) (by rfl))), (show h.2.2.1 15 1 = 21 from (hr.at (by decide) (by decide) (by rfl))), (show h.2.2.1 21 (v1 - (nI 1)).toNatClampNeg = (22 + 6 * (v1 - (nI 1)).toNatClampNeg) from (hr.a30 (by decide) (by have := hr.n; omega) (by rfl) (vp_lt g0)))]
  exact ⟨(zo hr (by decide) rfl), (zo hr (by decide) rfl), (zir_ hr (by decide) (by rfl) (by decide) g0), (zpl hr g0), J_iret (ty := .int) (zat qX10_count 24 (by rfl)) rfl rfl (Nat.le_refl 0) (Nat.le_refl 0) k⟩

theorem bX10_count_46 {d : Nat} {Q : Option MV → MH → Prop} {h : MH} {u0 : Option MV} {v1 : Int32} (k1 : ¬ v1 = (nI 5) → J mX10_count d 0 0 Q 0 0 56 [u0, some (.inl v1)] [] h) (k2 : v1 = (nI 5) → J mX10_count d 0 0 Q 0 0 51 [u0, some (.inl v1)] [] h) : J mX10_count d 0 0 Q 0 0 46 [u0, some (.inl v1)] [] h := by
  refine zrun 25 3 qX10_count (o := 10) rfl ?_
  show ((¬ v1 = (nI 5) → J mX10_count d 0 0 Q 0 0 56 [u0, some (.inl v1)] [] h) ∧ (v1 = (nI 5) → J mX10_count d 0 0 Q 0 0 51 [u0, some (.inl v1)] [] h))
  exact ⟨k1, k2⟩

theorem bX10_count_51 {d : Nat} {Q : Option MV → MH → Prop} {h : MH} {u1 : Option MV} (hr : zRf h) (k : Q (some (.inl (h.1 1 0))) h) : J mX10_count d 0 0 Q 0 0 51 [some (.inr (.inr 1)), u1] [] h := by
  refine zrun 28 2 qX10_count (o := 10) rfl ?_
  show zokO h 1 10 ∧ J mX10_count d 0 0 Q 0 0 55 [some (.inr (.inr 1)), u1] [.inl (h.1 1 0)] h
  exact ⟨(zo hr (by decide) rfl), J_iret (ty := .int) (zat qX10_count 30 (by rfl)) rfl rfl (Nat.le_refl 0) (Nat.le_refl 0) k⟩

theorem bX10_count_56 {d : Nat} {Q : Option MV → MH → Prop} {h : MH} {u0 : Option MV} {v1 : Int32} (k1 : ¬ v1 = (nI 7) → J mX10_count d 0 0 Q 0 0 75 [u0, some (.inl v1)] [] h) (k2 : v1 = (nI 7) → J mX10_count d 0 0 Q 0 0 62 [u0, some (.inl v1)] [] h) : J mX10_count d 0 0 Q 0 0 56 [u0, some (.inl v1)] [] h := by
  refine zrun 31 3 qX10_count (o := 10) rfl ?_
  show ((¬ v1 = (nI 7) → J mX10_count d 0 0 Q 0 0 75 [u0, some (.inl v1)] [] h) ∧ (v1 = (nI 7) → J mX10_count d 0 0 Q 0 0 62 [u0, some (.inl v1)] [] h))
  exact ⟨k1, k2⟩

theorem bX10_count_62 {d d' : Nat} {Q : Option MV → MH → Prop} {h : MH} {u1 : Option MV} (hr : zRf h) (hd : d' + 1 ≤ d) (k : Con mX2_allWax d' 0 0 [.inr (.inr 16)] h (zri fun (x : Int32) h' => J mX10_count d 0 0 Q 0 0 72 [some (.inr (.inr 1)), u1] [.inl x] h')) : J mX10_count d 0 0 Q 0 0 62 [some (.inr (.inr 1)), u1] [] h := by
  refine zrun 34 3 qX10_count (o := 10) rfl ?_
  show zokO h 1 10 ∧ zokO h (h.2.2.1 1 4) 1 ∧ J mX10_count d 0 0 Q 0 0 69 [some (.inr (.inr 1)), u1] [.inr (.inr (h.2.2.1 (h.2.2.1 1 4) 0))] h
  rw [(show h.2.2.1 1 4 = 15 from (hr.at (by decide) (by decide) (by rfl))), (show h.2.2.1 15 0 = 16 from (hr.at (by decide) (by decide) (by rfl)))]
  exact ⟨(zo hr (by decide) rfl), (zo hr (by decide) rfl), zcVi (as := []) (zat qX10_count 37 (by rfl)) l10_405 rfl hd rfl (Nat.le_of_ble_eq_true rfl) zle0 (ci := 2) (by decide) rfl (zo hr (by decide) rfl) k⟩

theorem bX10_count_72 {d : Nat} {Q : Option MV → MH → Prop} {h : MH} {u0 u1 : Option MV} {vs0 : Int32} (k : J mX10_count d 0 0 Q 0 0 76 [u0, u1] [.inl vs0] h) : J mX10_count d 0 0 Q 0 0 72 [u0, u1] [.inl vs0] h := by
  refine zrun 38 1 qX10_count (o := 10) rfl ?_
  show J mX10_count d 0 0 Q 0 0 76 [u0, u1] [.inl vs0] h
  exact k

theorem bX10_count_75 {d : Nat} {Q : Option MV → MH → Prop} {h : MH} {u0 u1 : Option MV} (k : J mX10_count d 0 0 Q 0 0 76 [u0, u1] [.inl (-(nI 1))] h) : J mX10_count d 0 0 Q 0 0 75 [u0, u1] [] h := by
  refine zrun 39 1 qX10_count (o := 10) rfl ?_
  show J mX10_count d 0 0 Q 0 0 76 [u0, u1] [.inl (-(nI 1))] h
  exact k

theorem bX10_count_76 {d : Nat} {Q : Option MV → MH → Prop} {h : MH} {u0 u1 : Option MV} {vs0 : Int32} (k : Q (some (.inl vs0)) h) : J mX10_count d 0 0 Q 0 0 76 [u0, u1] [.inl vs0] h := by
  exact J_iret (ty := .int) (zat qX10_count 40 (by rfl)) rfl rfl (Nat.le_refl 0) (Nat.le_refl 0) k

