theorem bX8_init_4 {d mc ms cs ss : Nat} {Q : Option MV → MH → Prop} {h : MH} (hc : cs ≤ mc ∧ ss ≤ ms) (k : J mX8_init d mc ms Q cs ss 7 [some (.inr (.inr 48))] [.inl (nI 8), .inr (.inr 48)] h) : J mX8_init d mc ms Q cs ss 4 [some (.inr (.inr 48))] [] h := by
  refine zrun 2 2 qX8_init (o := 8) rfl ?_
  show J mX8_init d mc ms Q cs ss 7 [some (.inr (.inr 48))] [.inl (nI 8), .inr (.inr 48)] h
  exact k

theorem bX8_lay_0 {d : Nat} {Q : Option MV → MH → Prop} {h : MH} {u2 : Option MV} {v1 : Nat} (hr : zRf h) (g0 : zokO h v1 2) (k : J mX8_lay d 0 0 Q 0 0 10 [some (.inr (.inr 48)), some (.inr (.inr v1)), some (.inl (nI 0))] [] (zsI h 48 0 (h.1 v1 0))) : J mX8_lay d 0 0 Q 0 0 0 [some (.inr (.inr 48)), some (.inr (.inr v1)), u2] [] h := by
  refine zrun 0 6 qX8_lay (o := 8) rfl ?_
  show zokO h v1 2 ∧ zokO h 48 8 ∧ J mX8_lay d 0 0 Q 0 0 10 [some (.inr (.inr 48)), some (.inr (.inr v1)), some (.inl (nI 0))] [] (zsI h 48 0 (h.1 v1 0))
  exact ⟨g0, (zo hr (by decide) rfl), k⟩

theorem bX8_lay_10 {d : Nat} {Q : Option MV → MH → Prop} {h : MH} {u1 : Option MV} {v2 : Int32} (hr : zRf h) (k1 : (h.1 48 0) ≤ v2 → J mX8_lay d 0 0 Q 0 0 39 [some (.inr (.inr 48)), u1, some (.inl v2)] [] h) (k2 : ¬ (h.1 48 0) ≤ v2 → J mX8_lay d 0 0 Q 0 0 18 [some (.inr (.inr 48)), u1, some (.inl v2)] [] h) : J mX8_lay d 0 0 Q 0 0 10 [some (.inr (.inr 48)), u1, some (.inl v2)] [] h := by
  refine zrun 6 4 qX8_lay (o := 8) rfl ?_
  show zokO h 48 8 ∧ (((h.1 48 0) ≤ v2 → J mX8_lay d 0 0 Q 0 0 39 [some (.inr (.inr 48)), u1, some (.inl v2)] [] h) ∧ (¬ (h.1 48 0) ≤ v2 → J mX8_lay d 0 0 Q 0 0 18 [some (.inr (.inr 48)), u1, some (.inl v2)] [] h))
  exact ⟨(zo hr (by decide) rfl), k1, k2⟩

theorem bX8_lay_18 {d d' : Nat} {Q : Option MV → MH → Prop} {h : MH} {v2 : Int32} {v1 : Nat} (hr : zRf h) (gr : zokO h v1 2) (hd : d' + 1 ≤ d) (k : Con mX2_sparksOf d' 0 0 [.inr (.inr v1), .inl v2] h (zri fun (x : Int32) h' => J mX8_lay d 0 0 Q 0 0 28 [some (.inr (.inr 48)), some (.inr (.inr v1)), some (.inl v2)] [.inl x, .inl v2, .inr (.inr 49)] h')) : J mX8_lay d 0 0 Q 0 0 18 [some (.inr (.inr 48)), some (.inr (.inr v1)), some (.inl v2)] [] h := by
  refine zrun 10 5 qX8_lay (o := 8) rfl ?_
  show zokO h 48 8 ∧ J mX8_lay d 0 0 Q 0 0 25 [some (.inr (.inr 48)), some (.inr (.inr v1)), some (.inl v2)] [.inl v2, .inr (.inr v1), .inl v2, .inr (.inr (h.2.2.1 48 1))] h
  rw [(show h.2.2.1 48 1 = 49 from (hr.at (by decide) (by decide) (by rfl)))]
  exact ⟨(zo hr (by decide) rfl), zcVi (as := [.inl v2]) (zat qX8_lay 15 (by rfl)) l8_43 rfl hd rfl (Nat.le_of_ble_eq_true rfl) zle0 (ci := 2) (by decide) rfl gr k⟩

theorem bX8_lay_28 {d : Nat} {Q : Option MV → MH → Prop} {h : MH} {u0 : Option MV} {vs1 vs2 v2 : Int32} {vs0 v1 : Nat} (g0 : zokA h vs0 20 vs1) (k : J mX8_lay d 0 0 Q 0 0 10 [u0, some (.inr (.inr v1)), some (.inl (v2 + nI 1))] [] (zsI h vs0 vs1.toNatClampNeg (vs2 * (nI 256)))) : J mX8_lay d 0 0 Q 0 0 28 [u0, some (.inr (.inr v1)), some (.inl v2)] [.inl vs2, .inl vs1, .inr (.inr vs0)] h := by
  refine zrun 16 5 qX8_lay (o := 8) rfl ?_
  show zokA h vs0 20 vs1 ∧ J mX8_lay d 0 0 Q 0 0 10 [u0, some (.inr (.inr v1)), some (.inl (v2 + nI 1))] [] (zsI h vs0 vs1.toNatClampNeg (vs2 * (nI 256)))
  exact ⟨g0, k⟩

theorem bX8_lay_39 {d : Nat} {Q : Option MV → MH → Prop} {h : MH} {u0 u1 u2 : Option MV} (k : Q none h) : J mX8_lay d 0 0 Q 0 0 39 [u0, u1, u2] [] h := by
  exact J_vret (zat qX8_lay 21 (by rfl)) rfl (Nat.le_refl 0) (Nat.le_refl 0) k

theorem bX8_play_0 {d d' : Nat} {Q : Option MV → MH → Prop} {h : MH} {u3 u4 u5 u6 u7 : Option MV} {v2 : Int32} {v1 : Nat} (hr : zRf h) (hd : d' + 1 ≤ d) (k : Con mX8_begin d' 0 0 [.inr (.inr 48), .inr (.inr v1), .inl v2] h (zrv fun h' => J mX8_play d 0 0 Q 0 0 6 [some (.inr (.inr 48)), some (.inr (.inr v1)), some (.inl v2), u3, u4, u5, u6, u7] [] h')) : J mX8_play d 0 0 Q 0 0 0 [some (.inr (.inr 48)), some (.inr (.inr v1)), some (.inl v2), u3, u4, u5, u6, u7] [] h := by
  refine zrun 0 3 qX8_play (o := 8) rfl ?_
  show J mX8_play d 0 0 Q 0 0 3 [some (.inr (.inr 48)), some (.inr (.inr v1)), some (.inl v2), u3, u4, u5, u6, u7] [.inl v2, .inr (.inr v1), .inr (.inr 48)] h
  exact zcVv (as := [.inr (.inr v1), .inl v2]) (zat qX8_play 3 (by rfl)) l8_47 rfl hd rfl (Nat.le_of_ble_eq_true rfl) zle0 (ci := 8) (by decide) rfl (zo hr (by decide) rfl) k

theorem bX8_play_6 {d d' : Nat} {Q : Option MV → MH → Prop} {h : MH} {u1 u2 u3 u4 u5 u6 u7 : Option MV} (hr : zRf h) (hd : d' + 1 ≤ d) (k : Con mX8_doRules d' 0 0 [.inr (.inr 48), .inl (-(nI 1))] h (zrv fun h' => J mX8_play d 0 0 Q 0 0 11 [some (.inr (.inr 48)), u1, u2, u3, u4, u5, u6, u7] [] h')) : J mX8_play d 0 0 Q 0 0 6 [some (.inr (.inr 48)), u1, u2, u3, u4, u5, u6, u7] [] h := by
  refine zrun 4 2 qX8_play (o := 8) rfl ?_
  show J mX8_play d 0 0 Q 0 0 8 [some (.inr (.inr 48)), u1, u2, u3, u4, u5, u6, u7] [.inl (-(nI 1)), .inr (.inr 48)] h
  exact zcVv (as := [.inl (-(nI 1))]) (zat qX8_play 6 (by rfl)) l8_51 rfl hd rfl (Nat.le_of_ble_eq_true rfl) zle0 (ci := 8) (by decide) rfl (zo hr (by decide) rfl) k

theorem bX8_play_11 {d : Nat} {Q : Option MV → MH → Prop} {h : MH} {u0 u1 u2 u4 u5 u6 u7 : Option MV} {v3 : Int32} (k : J mX8_play d 0 0 Q 0 0 14 [u0, u1, u2, some (.inl v3), some (.inl (nI 0)), u5, u6, u7] [] h) : J mX8_play d 0 0 Q 0 0 11 [u0, u1, u2, some (.inl v3), u4, u5, u6, u7] [] h := by
  refine zrun 7 2 qX8_play (o := 8) rfl ?_
  show J mX8_play d 0 0 Q 0 0 14 [u0, u1, u2, some (.inl v3), some (.inl (nI 0)), u5, u6, u7] [] h
  exact k

theorem bX8_play_14 {d : Nat} {Q : Option MV → MH → Prop} {h : MH} {u0 u1 u2 u3 u5 u6 u7 : Option MV} {v4 : Int32} (k1 : (nI 8) ≤ v4 → J mX8_play d 0 0 Q 0 0 108 [u0, u1, u2, u3, some (.inl v4), u5, u6, u7] [] h) (k2 : ¬ (nI 8) ≤ v4 → J mX8_play d 0 0 Q 0 0 21 [u0, u1, u2, u3, some (.inl v4), u5, u6, u7] [] h) : J mX8_play d 0 0 Q 0 0 14 [u0, u1, u2, u3, some (.inl v4), u5, u6, u7] [] h := by
  refine zrun 9 3 qX8_play (o := 8) rfl ?_
  show (((nI 8) ≤ v4 → J mX8_play d 0 0 Q 0 0 108 [u0, u1, u2, u3, some (.inl v4), u5, u6, u7] [] h) ∧ (¬ (nI 8) ≤ v4 → J mX8_play d 0 0 Q 0 0 21 [u0, u1, u2, u3, some (.inl v4), u5, u6, u7] [] h))
  exact ⟨k1, k2⟩

theorem bX8_play_21 {d d' : Nat} {Q : Option MV → MH → Prop} {h : MH} {u1 u2 u3 u4 u5 u6 u7 : Option MV} (hr : zRf h) (hd : d' + 1 ≤ d) (k : Con mX8_untilNextEnd d' 0 0 [.inr (.inr 48)] h (zri fun (x : Int32) h' => J mX8_play d 0 0 Q 0 0 25 [some (.inr (.inr 48)), u1, u2, u3, u4, u5, u6, u7] [.inl x] h')) : J mX8_play d 0 0 Q 0 0 21 [some (.inr (.inr 48)), u1, u2, u3, u4, u5, u6, u7] [] h := by
  refine zrun 12 1 qX8_play (o := 8) rfl ?_
  show J mX8_play d 0 0 Q 0 0 22 [some (.inr (.inr 48)), u1, u2, u3, u4, u5, u6, u7] [.inr (.inr 48)] h
  exact zcVi (as := []) (zat qX8_play 13 (by rfl)) l8_55 rfl hd rfl (Nat.le_of_ble_eq_true rfl) zle0 (ci := 8) (by decide) rfl (zo hr (by decide) rfl) k

theorem bX8_play_25 {d : Nat} {Q : Option MV → MH → Prop} {h : MH} {u0 u1 u2 u3 u5 u6 u7 : Option MV} {vs0 v4 : Int32} (k1 : ¬ vs0 = (-(nI 1)) → J mX8_play d 0 0 Q 0 0 34 [u0, u1, u2, u3, some (.inl v4), some (.inl vs0), u6, u7] [] h) (k2 : vs0 = (-(nI 1)) → J mX8_play d 0 0 Q 0 0 33 [u0, u1, u2, u3, some (.inl v4), some (.inl vs0), u6, u7] [] h) : J mX8_play d 0 0 Q 0 0 25 [u0, u1, u2, u3, some (.inl v4), u5, u6, u7] [.inl vs0] h := by
  refine zrun 14 4 qX8_play (o := 8) rfl ?_
  show ((¬ vs0 = (-(nI 1)) → J mX8_play d 0 0 Q 0 0 34 [u0, u1, u2, u3, some (.inl v4), some (.inl vs0), u6, u7] [] h) ∧ (vs0 = (-(nI 1)) → J mX8_play d 0 0 Q 0 0 33 [u0, u1, u2, u3, some (.inl v4), some (.inl vs0), u6, u7] [] h))
  exact ⟨k1, k2⟩

theorem bX8_play_33 {d : Nat} {Q : Option MV → MH → Prop} {h : MH} {u0 u1 u2 u3 u4 u5 u6 u7 : Option MV} (k : Q none h) : J mX8_play d 0 0 Q 0 0 33 [u0, u1, u2, u3, u4, u5, u6, u7] [] h := by
  exact J_vret (zat qX8_play 18 (by rfl)) rfl (Nat.le_refl 0) (Nat.le_refl 0) k

theorem bX8_play_34 {d : Nat} {Q : Option MV → MH → Prop} {h : MH} {u1 u2 u4 u6 u7 : Option MV} {v5 v3 : Int32} (hr : zRf h) (k1 : ((h.1 48 13) + v5) ≤ v3 → J mX8_play d 0 0 Q 0 0 56 [some (.inr (.inr 48)), u1, u2, some (.inl v3), u4, some (.inl v5), u6, u7] [] h) (k2 : ¬ ((h.1 48 13) + v5) ≤ v3 → J mX8_play d 0 0 Q 0 0 45 [some (.inr (.inr 48)), u1, u2, some (.inl v3), u4, some (.inl v5), u6, u7] [] h) : J mX8_play d 0 0 Q 0 0 34 [some (.inr (.inr 48)), u1, u2, some (.inl v3), u4, some (.inl v5), u6, u7] [] h := by
  refine zrun 19 6 qX8_play (o := 8) rfl ?_
  show zokO h 48 8 ∧ ((((h.1 48 13) + v5) ≤ v3 → J mX8_play d 0 0 Q 0 0 56 [some (.inr (.inr 48)), u1, u2, some (.inl v3), u4, some (.inl v5), u6, u7] [] h) ∧ (¬ ((h.1 48 13) + v5) ≤ v3 → J mX8_play d 0 0 Q 0 0 45 [some (.inr (.inr 48)), u1, u2, some (.inl v3), u4, some (.inl v5), u6, u7] [] h))
  exact ⟨(zo hr (by decide) rfl), k1, k2⟩

theorem bX8_play_45 {d d' : Nat} {Q : Option MV → MH → Prop} {h : MH} {u1 u2 u4 u5 u6 u7 : Option MV} {v3 : Int32} (hr : zRf h) (hd : d' + 1 ≤ d) (k : Con mX8_burn d' 0 0 [.inr (.inr 48), .inl (v3 - (h.1 48 13))] h (zrv fun h' => J mX8_play d 0 0 Q 0 0 55 [some (.inr (.inr 48)), u1, u2, some (.inl v3), u4, u5, u6, u7] [] h')) : J mX8_play d 0 0 Q 0 0 45 [some (.inr (.inr 48)), u1, u2, some (.inl v3), u4, u5, u6, u7] [] h := by
  refine zrun 25 5 qX8_play (o := 8) rfl ?_
  show zokO h 48 8 ∧ J mX8_play d 0 0 Q 0 0 52 [some (.inr (.inr 48)), u1, u2, some (.inl v3), u4, u5, u6, u7] [.inl (v3 - (h.1 48 13)), .inr (.inr 48)] h
  exact ⟨(zo hr (by decide) rfl), zcVv (as := [.inl (v3 - (h.1 48 13))]) (zat qX8_play 30 (by rfl)) l8_62 rfl hd rfl (Nat.le_of_ble_eq_true rfl) zle0 (ci := 8) (by decide) rfl (zo hr (by decide) rfl) k⟩

theorem bX8_play_55 {d : Nat} {Q : Option MV → MH → Prop} {h : MH} {u0 u1 u2 u3 u4 u5 u6 u7 : Option MV} (k : Q none h) : J mX8_play d 0 0 Q 0 0 55 [u0, u1, u2, u3, u4, u5, u6, u7] [] h := by
  exact J_vret (zat qX8_play 31 (by rfl)) rfl (Nat.le_refl 0) (Nat.le_refl 0) k

theorem bX8_play_56 {d d' : Nat} {Q : Option MV → MH → Prop} {h : MH} {u1 u2 u3 u4 u6 u7 : Option MV} {v5 : Int32} (hr : zRf h) (hd : d' + 1 ≤ d) (k : Con mX8_burn d' 0 0 [.inr (.inr 48), .inl v5] h (zrv fun h' => J mX8_play d 0 0 Q 0 0 62 [some (.inr (.inr 48)), u1, u2, u3, u4, some (.inl v5), u6, u7] [] h')) : J mX8_play d 0 0 Q 0 0 56 [some (.inr (.inr 48)), u1, u2, u3, u4, some (.inl v5), u6, u7] [] h := by
  refine zrun 32 2 qX8_play (o := 8) rfl ?_
  show J mX8_play d 0 0 Q 0 0 59 [some (.inr (.inr 48)), u1, u2, u3, u4, some (.inl v5), u6, u7] [.inl v5, .inr (.inr 48)] h
  exact zcVv (as := [.inl v5]) (zat qX8_play 34 (by rfl)) l8_62 rfl hd rfl (Nat.le_of_ble_eq_true rfl) zle0 (ci := 8) (by decide) rfl (zo hr (by decide) rfl) k

theorem bX8_play_62 {d d' : Nat} {Q : Option MV → MH → Prop} {h : MH} {u1 u2 u3 u4 u5 u6 u7 : Option MV} (hr : zRf h) (hd : d' + 1 ≤ d) (k : Con mX8_putAwayEnded d' 0 0 [.inr (.inr 48)] h (zri fun (x : Int32) h' => J mX8_play d 0 0 Q 0 0 66 [some (.inr (.inr 48)), u1, u2, u3, u4, u5, u6, u7] [.inl x] h')) : J mX8_play d 0 0 Q 0 0 62 [some (.inr (.inr 48)), u1, u2, u3, u4, u5, u6, u7] [] h := by
  refine zrun 35 1 qX8_play (o := 8) rfl ?_
  show J mX8_play d 0 0 Q 0 0 63 [some (.inr (.inr 48)), u1, u2, u3, u4, u5, u6, u7] [.inr (.inr 48)] h
  exact zcVi (as := []) (zat qX8_play 36 (by rfl)) l8_65 rfl hd rfl (Nat.le_of_ble_eq_true rfl) zle0 (ci := 8) (by decide) rfl (zo hr (by decide) rfl) k

theorem bX8_play_66 {d : Nat} {Q : Option MV → MH → Prop} {h : MH} {u0 u1 u2 u3 u4 u6 u7 : Option MV} {vs0 v5 : Int32} (k : J mX8_play d 0 0 Q 0 0 71 [u0, u1, u2, u3, u4, some (.inl v5), some (.inl vs0), some (.inl (nI 0))] [] h) : J mX8_play d 0 0 Q 0 0 66 [u0, u1, u2, u3, u4, some (.inl v5), u6, u7] [.inl vs0] h := by
  refine zrun 37 3 qX8_play (o := 8) rfl ?_
  show J mX8_play d 0 0 Q 0 0 71 [u0, u1, u2, u3, u4, some (.inl v5), some (.inl vs0), some (.inl (nI 0))] [] h
  exact k

theorem bX8_play_71 {d : Nat} {Q : Option MV → MH → Prop} {h : MH} {u1 u2 u3 u4 u5 u6 : Option MV} {v7 : Int32} (hr : zRf h) (k1 : (h.1 48 0) ≤ v7 → J mX8_play d 0 0 Q 0 0 102 [some (.inr (.inr 48)), u1, u2, u3, u4, u5, u6, some (.inl v7)] [] h) (k2 : ¬ (h.1 48 0) ≤ v7 → J mX8_play d 0 0 Q 0 0 80 [some (.inr (.inr 48)), u1, u2, u3, u4, u5, u6, some (.inl v7)] [] h) : J mX8_play d 0 0 Q 0 0 71 [some (.inr (.inr 48)), u1, u2, u3, u4, u5, u6, some (.inl v7)] [] h := by
  refine zrun 40 4 qX8_play (o := 8) rfl ?_
  show zokO h 48 8 ∧ (((h.1 48 0) ≤ v7 → J mX8_play d 0 0 Q 0 0 102 [some (.inr (.inr 48)), u1, u2, u3, u4, u5, u6, some (.inl v7)] [] h) ∧ (¬ (h.1 48 0) ≤ v7 → J mX8_play d 0 0 Q 0 0 80 [some (.inr (.inr 48)), u1, u2, u3, u4, u5, u6, some (.inl v7)] [] h))
  exact ⟨(zo hr (by decide) rfl), k1, k2⟩

theorem bX8_play_80 {d : Nat} {Q : Option MV → MH → Prop} {h : MH} {u0 u1 u2 u3 u4 u5 : Option MV} {v6 v7 : Int32} (k1 : ((v6 >>> (v7 &&& 31)) &&& (nI 1)) = 0 → J mX8_play d 0 0 Q 0 0 96 [u0, u1, u2, u3, u4, u5, some (.inl v6), some (.inl v7)] [] h) (k2 : ¬ ((v6 >>> (v7 &&& 31)) &&& (nI 1)) = 0 → J mX8_play d 0 0 Q 0 0 90 [u0, u1, u2, u3, u4, u5, some (.inl v6), some (.inl v7)] [] h) : J mX8_play d 0 0 Q 0 0 80 [u0, u1, u2, u3, u4, u5, some (.inl v6), some (.inl v7)] [] h := by
  refine zrun 44 6 qX8_play (o := 8) rfl ?_
  show ((((v6 >>> (v7 &&& 31)) &&& (nI 1)) = 0 → J mX8_play d 0 0 Q 0 0 96 [u0, u1, u2, u3, u4, u5, some (.inl v6), some (.inl v7)] [] h) ∧ (¬ ((v6 >>> (v7 &&& 31)) &&& (nI 1)) = 0 → J mX8_play d 0 0 Q 0 0 90 [u0, u1, u2, u3, u4, u5, some (.inl v6), some (.inl v7)] [] h))
  exact ⟨k1, k2⟩

theorem bX8_play_90 {d d' : Nat} {Q : Option MV → MH → Prop} {h : MH} {u1 u2 u3 u4 u5 u6 : Option MV} {v7 : Int32} (hr : zRf h) (hd : d' + 1 ≤ d) (k : Con mX8_doRules d' 0 0 [.inr (.inr 48), .inl v7] h (zrv fun h' => J mX8_play d 0 0 Q 0 0 96 [some (.inr (.inr 48)), u1, u2, u3, u4, u5, u6, some (.inl v7)] [] h')) : J mX8_play d 0 0 Q 0 0 90 [some (.inr (.inr 48)), u1, u2, u3, u4, u5, u6, some (.inl v7)] [] h := by
  refine zrun 50 2 qX8_play (o := 8) rfl ?_
  show J mX8_play d 0 0 Q 0 0 93 [some (.inr (.inr 48)), u1, u2, u3, u4, u5, u6, some (.inl v7)] [.inl v7, .inr (.inr 48)] h
  exact zcVv (as := [.inl v7]) (zat qX8_play 52 (by rfl)) l8_51 rfl hd rfl (Nat.le_of_ble_eq_true rfl) zle0 (ci := 8) (by decide) rfl (zo hr (by decide) rfl) k

theorem bX8_play_96 {d : Nat} {Q : Option MV → MH → Prop} {h : MH} {u0 u1 u2 u3 u4 u5 : Option MV} {v7 v6 : Int32} (k : J mX8_play d 0 0 Q 0 0 71 [u0, u1, u2, u3, u4, u5, some (.inl v6), some (.inl (v7 + nI 1))] [] h) : J mX8_play d 0 0 Q 0 0 96 [u0, u1, u2, u3, u4, u5, some (.inl v6), some (.inl v7)] [] h := by
  refine zrun 53 2 qX8_play (o := 8) rfl ?_
  show J mX8_play d 0 0 Q 0 0 71 [u0, u1, u2, u3, u4, u5, some (.inl v6), some (.inl (v7 + nI 1))] [] h
  exact k

theorem bX8_play_102 {d : Nat} {Q : Option MV → MH → Prop} {h : MH} {u0 u1 u2 u5 u6 u7 : Option MV} {v4 v3 : Int32} (k : J mX8_play d 0 0 Q 0 0 14 [u0, u1, u2, some (.inl v3), some (.inl (v4 + nI 1)), u5, u6, u7] [] h) : J mX8_play d 0 0 Q 0 0 102 [u0, u1, u2, some (.inl v3), some (.inl v4), u5, u6, u7] [] h := by
  refine zrun 55 2 qX8_play (o := 8) rfl ?_
  show J mX8_play d 0 0 Q 0 0 14 [u0, u1, u2, some (.inl v3), some (.inl (v4 + nI 1)), u5, u6, u7] [] h
  exact k

theorem bX8_play_108 {d : Nat} {Q : Option MV → MH → Prop} {h : MH} {u0 u1 u2 u3 u4 u5 u6 u7 : Option MV} (k : Q none h) : J mX8_play d 0 0 Q 0 0 108 [u0, u1, u2, u3, u4, u5, u6, u7] [] h := by
  exact J_vret (zat qX8_play 57 (by rfl)) rfl (Nat.le_refl 0) (Nat.le_refl 0) k

theorem bX8_bellAt_0 {d : Nat} {Q : Option MV → MH → Prop} {h : MH} {u0 : Option MV} {v1 : Int32} (k1 : v1 < 0 → J mX8_bellAt d 0 0 Q 0 0 25 [u0, some (.inl v1)] [] h) (k2 : ¬ v1 < 0 → J mX8_bellAt d 0 0 Q 0 0 4 [u0, some (.inl v1)] [] h) : J mX8_bellAt d 0 0 Q 0 0 0 [u0, some (.inl v1)] [] h := by
  refine zrun 0 2 qX8_bellAt (o := 8) rfl ?_
  show ((v1 < 0 → J mX8_bellAt d 0 0 Q 0 0 25 [u0, some (.inl v1)] [] h) ∧ (¬ v1 < 0 → J mX8_bellAt d 0 0 Q 0 0 4 [u0, some (.inl v1)] [] h))
  exact ⟨k1, k2⟩

theorem bX8_bellAt_4 {d : Nat} {Q : Option MV → MH → Prop} {h : MH} {v1 : Int32} (hr : zRf h) (k1 : (h.1 48 9) ≤ v1 → J mX8_bellAt d 0 0 Q 0 0 25 [some (.inr (.inr 48)), some (.inl v1)] [] h) (k2 : ¬ (h.1 48 9) ≤ v1 → J mX8_bellAt d 0 0 Q 0 0 12 [some (.inr (.inr 48)), some (.inl v1)] [] h) : J mX8_bellAt d 0 0 Q 0 0 4 [some (.inr (.inr 48)), some (.inl v1)] [] h := by
  refine zrun 2 4 qX8_bellAt (o := 8) rfl ?_
  show zokO h 48 8 ∧ (((h.1 48 9) ≤ v1 → J mX8_bellAt d 0 0 Q 0 0 25 [some (.inr (.inr 48)), some (.inl v1)] [] h) ∧ (¬ (h.1 48 9) ≤ v1 → J mX8_bellAt d 0 0 Q 0 0 12 [some (.inr (.inr 48)), some (.inl v1)] [] h))
  exact ⟨(zo hr (by decide) rfl), k1, k2⟩

theorem bX8_bellAt_12 {d : Nat} {Q : Option MV → MH → Prop} {h : MH} {v1 : Int32} (hr : zRf h) (g0 : vp_in v1 40) (k : J mX8_bellAt d 0 0 Q 0 0 26 [some (.inr (.inr 48)), some (.inl v1)] [.inl ((h.1 56 v1.toNatClampNeg) / (nI 256))] h) : J mX8_bellAt d 0 0 Q 0 0 12 [some (.inr (.inr 48)), some (.inl v1)] [] h := by
  refine zrun 6 7 qX8_bellAt (o := 8) rfl ?_
  show zokO h 48 8 ∧ zokA h (h.2.2.1 48 8) 20 v1 ∧ ¬ (nI 256) = 0 ∧ J mX8_bellAt d 0 0 Q 0 0 26 [some (.inr (.inr 48)), some (.inl v1)] [.inl ((h.1 (h.2.2.1 48 8) v1.toNatClampNeg) / (nI 256))] h
  rw [(show h.2.2.1 48 8 = 56 from (hr.at (by decide) (by decide) (by rfl)))]
  exact ⟨(zo hr (by decide) rfl), (zia hr (by decide) (by rfl) g0), (by decide), k⟩

theorem bX8_bellAt_25 {d : Nat} {Q : Option MV → MH → Prop} {h : MH} {u0 u1 : Option MV} (k : J mX8_bellAt d 0 0 Q 0 0 26 [u0, u1] [.inl (-(nI 1))] h) : J mX8_bellAt d 0 0 Q 0 0 25 [u0, u1] [] h := by
  refine zrun 13 1 qX8_bellAt (o := 8) rfl ?_
  show J mX8_bellAt d 0 0 Q 0 0 26 [u0, u1] [.inl (-(nI 1))] h
  exact k

theorem bX8_bellAt_26 {d : Nat} {Q : Option MV → MH → Prop} {h : MH} {u0 u1 : Option MV} {vs0 : Int32} (k : Q (some (.inl vs0)) h) : J mX8_bellAt d 0 0 Q 0 0 26 [u0, u1] [.inl vs0] h := by
  exact J_iret (ty := .int) (zat qX8_bellAt 14 (by rfl)) rfl rfl (Nat.le_refl 0) (Nat.le_refl 0) k

theorem bX8_bellNear_0 {d : Nat} {Q : Option MV → MH → Prop} {h : MH} {u0 u2 u3 u4 u5 u6 u7 : Option MV} {v1 : Int32} (hd : 1 ≤ d) (k : J mX8_bellNear d 0 0 Q 0 0 5 [u0, some (.inl v1), u2, u3, u4, u5, u6, u7] [.inl (if (nI 0) < v1 then v1 else (nI 0))] h) : J mX8_bellNear d 0 0 Q 0 0 0 [u0, some (.inl v1), u2, u3, u4, u5, u6, u7] [] h := by
  refine zrun 0 2 qX8_bellNear (o := 8) rfl ?_
  show J mX8_bellNear d 0 0 Q 0 0 2 [u0, some (.inl v1), u2, u3, u4, u5, u6, u7] [.inl v1, .inl (nI 0)] h
  exact zmax (zat qX8_bellNear 2 (by rfl)) mm8_71 rfl hd (Nat.le_of_ble_eq_true rfl) zle0 k

theorem bX8_bellNear_5 {d : Nat} {Q : Option MV → MH → Prop} {h : MH} {u0 u1 u2 u3 u5 u6 u7 : Option MV} {vs0 v4 : Int32} (k : J mX8_bellNear d 0 0 Q 0 0 7 [u0, u1, u2, u3, some (.inl v4), some (.inl vs0), u6, u7] [] h) : J mX8_bellNear d 0 0 Q 0 0 5 [u0, u1, u2, u3, some (.inl v4), u5, u6, u7] [.inl vs0] h := by
  refine zrun 3 1 qX8_bellNear (o := 8) rfl ?_
  show J mX8_bellNear d 0 0 Q 0 0 7 [u0, u1, u2, u3, some (.inl v4), some (.inl vs0), u6, u7] [] h
  exact k

theorem bX8_bellNear_7 {d : Nat} {Q : Option MV → MH → Prop} {h : MH} {u1 u2 u3 u4 u6 u7 : Option MV} {v5 : Int32} (hr : zRf h) (k1 : (h.1 48 9) ≤ v5 → J mX8_bellNear d 0 0 Q 0 0 61 [some (.inr (.inr 48)), u1, u2, u3, u4, some (.inl v5), u6, u7] [] h) (k2 : ¬ (h.1 48 9) ≤ v5 → J mX8_bellNear d 0 0 Q 0 0 16 [some (.inr (.inr 48)), u1, u2, u3, u4, some (.inl v5), u6, u7] [] h) : J mX8_bellNear d 0 0 Q 0 0 7 [some (.inr (.inr 48)), u1, u2, u3, u4, some (.inl v5), u6, u7] [] h := by
  refine zrun 4 4 qX8_bellNear (o := 8) rfl ?_
  show zokO h 48 8 ∧ (((h.1 48 9) ≤ v5 → J mX8_bellNear d 0 0 Q 0 0 61 [some (.inr (.inr 48)), u1, u2, u3, u4, some (.inl v5), u6, u7] [] h) ∧ (¬ (h.1 48 9) ≤ v5 → J mX8_bellNear d 0 0 Q 0 0 16 [some (.inr (.inr 48)), u1, u2, u3, u4, some (.inl v5), u6, u7] [] h))
  exact ⟨(zo hr (by decide) rfl), k1, k2⟩

theorem bX8_bellNear_16 {d : Nat} {Q : Option MV → MH → Prop} {h : MH} {u1 u3 u6 u7 : Option MV} {v5 v4 : Int32} {v2 : Int64} (hr : zRf h) (g0 : vp_in v5 40) (k1 : (lg_cmp v2 ((((h.1 56 v5.toNatClampNeg) / (nI 256)).toInt64) - v4.toInt64)) < 0 → J mX8_bellNear d 0 0 Q 0 0 55 [some (.inr (.inr 48)), u1, some (.inr (.inl v2)), u3, some (.inl v4), some (.inl v5), some (.inr (.inl (((h.1 56 v5.toNatClampNeg) / (nI 256)).toInt64))), none] [] h) (k2 : ¬ (lg_cmp v2 ((((h.1 56 v5.toNatClampNeg) / (nI 256)).toInt64) - v4.toInt64)) < 0 → J mX8_bellNear d 0 0 Q 0 0 41 [some (.inr (.inr 48)), u1, some (.inr (.inl v2)), u3, some (.inl v4), some (.inl v5), some (.inr (.inl (((h.1 56 v5.toNatClampNeg) / (nI 256)).toInt64))), none] [] h) : J mX8_bellNear d 0 0 Q 0 0 16 [some (.inr (.inr 48)), u1, some (.inr (.inl v2)), u3, some (.inl v4), some (.inl v5), u6, u7] [] h := by
  refine zrun 8 15 qX8_bellNear (o := 8) rfl ?_
  show zokO h 48 8 ∧ zokA h (h.2.2.1 48 8) 20 v5 ∧ ¬ (nI 256) = 0 ∧ (((lg_cmp v2 ((((h.1 (h.2.2.1 48 8) v5.toNatClampNeg) / (nI 256)).toInt64) - v4.toInt64)) < 0 → J mX8_bellNear d 0 0 Q 0 0 55 [some (.inr (.inr 48)), u1, some (.inr (.inl v2)), u3, some (.inl v4), some (.inl v5), some (.inr (.inl (((h.1 (h.2.2.1 48 8) v5.toNatClampNeg) / (nI 256)).toInt64))), none] [] h) ∧ (¬ (lg_cmp v2 ((((h.1 (h.2.2.1 48 8) v5.toNatClampNeg) / (nI 256)).toInt64) - v4.toInt64)) < 0 → J mX8_bellNear d 0 0 Q 0 0 41 [some (.inr (.inr 48)), u1, some (.inr (.inl v2)), u3, some (.inl v4), some (.inl v5), some (.inr (.inl (((h.1 (h.2.2.1 48 8) v5.toNatClampNeg) / (nI 256)).toInt64))), none] [] h))
  rw [(show h.2.2.1 48 8 = 56 from (hr.at (by decide) (by decide) (by rfl)))]
  exact ⟨(zo hr (by decide) rfl), (zia hr (by decide) (by rfl) g0), (by decide), k1, k2⟩

theorem bX8_bellNear_41 {d : Nat} {Q : Option MV → MH → Prop} {h : MH} {u0 u1 u3 u5 u7 : Option MV} {v4 : Int32} {v2 v6 : Int64} (k1 : 0 < (lg_cmp v2 (v6 + v4.toInt64)) → J mX8_bellNear d 0 0 Q 0 0 55 [u0, u1, some (.inr (.inl v2)), u3, some (.inl v4), u5, some (.inr (.inl v6)), u7] [] h) (k2 : ¬ 0 < (lg_cmp v2 (v6 + v4.toInt64)) → J mX8_bellNear d 0 0 Q 0 0 52 [u0, u1, some (.inr (.inl v2)), u3, some (.inl v4), u5, some (.inr (.inl v6)), u7] [] h) : J mX8_bellNear d 0 0 Q 0 0 41 [u0, u1, some (.inr (.inl v2)), u3, some (.inl v4), u5, some (.inr (.inl v6)), u7] [] h := by
  refine zrun 23 7 qX8_bellNear (o := 8) rfl ?_
  show ((0 < (lg_cmp v2 (v6 + v4.toInt64)) → J mX8_bellNear d 0 0 Q 0 0 55 [u0, u1, some (.inr (.inl v2)), u3, some (.inl v4), u5, some (.inr (.inl v6)), u7] [] h) ∧ (¬ 0 < (lg_cmp v2 (v6 + v4.toInt64)) → J mX8_bellNear d 0 0 Q 0 0 52 [u0, u1, some (.inr (.inl v2)), u3, some (.inl v4), u5, some (.inr (.inl v6)), u7] [] h))
  exact ⟨k1, k2⟩

theorem bX8_bellNear_52 {d : Nat} {Q : Option MV → MH → Prop} {h : MH} {u0 u1 u2 u3 u4 u6 u7 : Option MV} {v5 : Int32} (k : Q (some (.inl v5)) h) : J mX8_bellNear d 0 0 Q 0 0 52 [u0, u1, u2, u3, u4, some (.inl v5), u6, u7] [] h := by
  refine zrun 30 1 qX8_bellNear (o := 8) rfl ?_
  show J mX8_bellNear d 0 0 Q 0 0 54 [u0, u1, u2, u3, u4, some (.inl v5), u6, u7] [.inl v5] h
  exact J_iret (ty := .int) (zat qX8_bellNear 31 (by rfl)) rfl rfl (Nat.le_refl 0) (Nat.le_refl 0) k

theorem bX8_bellNear_55 {d : Nat} {Q : Option MV → MH → Prop} {h : MH} {u0 u1 u2 u3 u6 u7 : Option MV} {v5 v4 : Int32} (k : J mX8_bellNear d 0 0 Q 0 0 7 [u0, u1, u2, u3, some (.inl v4), some (.inl (v5 + nI 1)), u6, u7] [] h) : J mX8_bellNear d 0 0 Q 0 0 55 [u0, u1, u2, u3, some (.inl v4), some (.inl v5), u6, u7] [] h := by
  refine zrun 32 2 qX8_bellNear (o := 8) rfl ?_
  show J mX8_bellNear d 0 0 Q 0 0 7 [u0, u1, u2, u3, some (.inl v4), some (.inl (v5 + nI 1)), u6, u7] [] h
  exact k

theorem bX8_bellNear_61 {d : Nat} {Q : Option MV → MH → Prop} {h : MH} {u0 u1 u2 u3 u4 u5 u6 u7 : Option MV} (k : Q (some (.inl (-(nI 1)))) h) : J mX8_bellNear d 0 0 Q 0 0 61 [u0, u1, u2, u3, u4, u5, u6, u7] [] h := by
  refine zrun 34 1 qX8_bellNear (o := 8) rfl ?_
  show J mX8_bellNear d 0 0 Q 0 0 62 [u0, u1, u2, u3, u4, u5, u6, u7] [.inl (-(nI 1))] h
  exact J_iret (ty := .int) (zat qX8_bellNear 35 (by rfl)) rfl rfl (Nat.le_refl 0) (Nat.le_refl 0) k

theorem bX8_begin_0 {d : Nat} {Q : Option MV → MH → Prop} {h : MH} {u3 : Option MV} {v2 : Int32} {v1 : Nat} (hr : zRf h) (k : J mX8_begin d 0 0 Q 0 0 37 [some (.inr (.inr 48)), some (.inr (.inr v1)), some (.inl v2), some (.inl (nI 0))] [] (zsI (zsI (zsI (zsL (zsI (zsI (zsR h 48 14 v1) 48 15 v2) 48 9 (nI 0)) 48 10 (lN 0)) 48 11 (nI 0)) 48 12 (nI 0)) 48 13 (nI 0))) : J mX8_begin d 0 0 Q 0 0 0 [some (.inr (.inr 48)), some (.inr (.inr v1)), some (.inl v2), u3] [] h := by
  refine zrun 0 23 qX8_begin (o := 8) rfl ?_
  show zokO h 48 8 ∧ zokO (zsR h 48 14 v1) 48 8 ∧ zokO (zsI (zsR h 48 14 v1) 48 15 v2) 48 8 ∧ zokO (zsI (zsI (zsR h 48 14 v1) 48 15 v2) 48 9 (nI 0)) 48 8 ∧ zokO (zsL (zsI (zsI (zsR h 48 14 v1) 48 15 v2) 48 9 (nI 0)) 48 10 (lN 0)) 48 8 ∧ zokO (zsI (zsL (zsI (zsI (zsR h 48 14 v1) 48 15 v2) 48 9 (nI 0)) 48 10 (lN 0)) 48 11 (nI 0)) 48 8 ∧ zokO (zsI (zsI (zsL (zsI (zsI (zsR h 48 14 v1) 48 15 v2) 48 9 (nI 0)) 48 10 (lN 0)) 48 11 (nI 0)) 48 12 (nI 0)) 48 8 ∧ J mX8_begin d 0 0 Q 0 0 37 [some (.inr (.inr 48)), some (.inr (.inr v1)), some (.inl v2), some (.inl (nI 0))] [] (zsI (zsI (zsI (zsL (zsI (zsI (zsR h 48 14 v1) 48 15 v2) 48 9 (nI 0)) 48 10 (lN 0)) 48 11 (nI 0)) 48 12 (nI 0)) 48 13 (nI 0))
  exact ⟨(zo hr (by decide) rfl), (zo hr (by decide) rfl), (zo hr (by decide) rfl), (zo hr (by decide) rfl), (zo hr (by decide) rfl), (zo hr (by decide) rfl), (zo hr (by decide) rfl), k⟩

theorem bX8_begin_37 {d : Nat} {Q : Option MV → MH → Prop} {h : MH} {u1 u2 : Option MV} {v3 : Int32} (hr : zRf h) (k1 : (h.1 48 0) ≤ v3 → J mX8_begin d 0 0 Q 0 0 103 [some (.inr (.inr 48)), u1, u2, some (.inl v3)] [] h) (k2 : ¬ (h.1 48 0) ≤ v3 → J mX8_begin d 0 0 Q 0 0 45 [some (.inr (.inr 48)), u1, u2, some (.inl v3)] [] h) : J mX8_begin d 0 0 Q 0 0 37 [some (.inr (.inr 48)), u1, u2, some (.inl v3)] [] h := by
  refine zrun 23 4 qX8_begin (o := 8) rfl ?_
  show zokO h 48 8 ∧ (((h.1 48 0) ≤ v3 → J mX8_begin d 0 0 Q 0 0 103 [some (.inr (.inr 48)), u1, u2, some (.inl v3)] [] h) ∧ (¬ (h.1 48 0) ≤ v3 → J mX8_begin d 0 0 Q 0 0 45 [some (.inr (.inr 48)), u1, u2, some (.inl v3)] [] h))
  exact ⟨(zo hr (by decide) rfl), k1, k2⟩

theorem bX8_begin_45 {d : Nat} {Q : Option MV → MH → Prop} {h : MH} {u1 : Option MV} {v3 v2 : Int32} (hr : zRf h) (g0 : vp_in v3 8) (k : J mX8_begin d 0 0 Q 0 0 37 [some (.inr (.inr 48)), u1, some (.inl v2), some (.inl (v3 + nI 1))] [] (zsI (zsI (zsI (zsI (zsI (zsI h 50 v3.toNatClampNeg (h.1 49 v3.toNatClampNeg)) 51 v3.toNatClampNeg (nI 0)) 52 v3.toNatClampNeg ((zsI (zsI h 50 v3.toNatClampNeg (h.1 49 v3.toNatClampNeg)) 51 v3.toNatClampNeg (nI 0)).1 49 v3.toNatClampNeg)) 53 v3.toNatClampNeg (-(nI 1))) 54 v3.toNatClampNeg v3) 55 v3.toNatClampNeg (-(nI 1)))) : J mX8_begin d 0 0 Q 0 0 45 [some (.inr (.inr 48)), u1, some (.inl v2), some (.inl v3)] [] h := by
  refine zrun 27 38 qX8_begin (o := 8) rfl ?_
  show zokO h 48 8 ∧ zokO h 48 8 ∧ zokA h (h.2.2.1 48 1) 20 v3 ∧ zokA h (h.2.2.1 48 2) 20 v3 ∧ zokO (zsI h (h.2.2.1 48 2) v3.toNatClampNeg (h.1 (h.2.2.1 48 1) v3.toNatClampNeg)) 48 8 ∧ zokA (zsI h (h.2.2.1 48 2) v3.toNatClampNeg (h.1 (h.2.2.1 48 1) v3.toNatClampNeg)) (h.2.2.1 48 3) 20 v3 ∧ zokO (zsI (zsI h (h.2.2.1 48 2) v3.toNatClampNeg (h.1 (h.2.2.1 48 1) v3.toNatClampNeg)) (h.2.2.1 48 3) v3.toNatClampNeg (nI 0)) 48 8 ∧ zokO (zsI (zsI h (h.2.2.1 48 2) v3.toNatClampNeg (h.1 (h.2.2.1 48 1) v3.toNatClampNeg)) (h.2.2.1 48 3) v3.toNatClampNeg (nI 0)) 48 8 ∧ zokA (zsI (zsI h (h.2.2.1 48 2) v3.toNatClampNeg (h.1 (h.2.2.1 48 1) v3.toNatClampNeg)) (h.2.2.1 48 3) v3.toNatClampNeg (nI 0)) (h.2.2.1 48 1) 20 v3 ∧ zokA (zsI (zsI h (h.2.2.1 48 2) v3.toNatClampNeg (h.1 (h.2.2.1 48 1) v3.toNatClampNeg)) (h.2.2.1 48 3) v3.toNatClampNeg (nI 0)) (h.2.2.1 48 4) 20 v3 ∧ zokO (zsI (zsI (zsI h (h.2.2.1 48 2) v3.toNatClampNeg (h.1 (h.2.2.1 48 1) v3.toNatClampNeg)) (h.2.2.1 48 3) v3.toNatClampNeg (nI 0)) (h.2.2.1 48 4) v3.toNatClampNeg ((zsI (zsI h (h.2.2.1 48 2) v3.toNatClampNeg (h.1 (h.2.2.1 48 1) v3.toNatClampNeg)) (h.2.2.1 48 3) v3.toNatClampNeg (nI 0)).1 (h.2.2.1 48 1) v3.toNatClampNeg)) 48 8 ∧ zokA (zsI (zsI (zsI h (h.2.2.1 48 2) v3.toNatClampNeg (h.1 (h.2.2.1 48 1) v3.toNatClampNeg)) (h.2.2.1 48 3) v3.toNatClampNeg (nI 0)) (h.2.2.1 48 4) v3.toNatClampNeg ((zsI (zsI h (h.2.2.1 48 2) v3.toNatClampNeg (h.1 (h.2.2.1 48 1) v3.toNatClampNeg)) (h.2.2.1 48 3) v3.toNatClampNeg (nI 0)).1 (h.2.2.1 48 1) v3.toNatClampNeg)) (h.2.2.1 48 5) 20 v3 ∧ zokO (zsI (zsI (zsI (zsI h (h.2.2.1 48 2) v3.toNatClampNeg (h.1 (h.2.2.1 48 1) v3.toNatClampNeg)) (h.2.2.1 48 3) v3.toNatClampNeg (nI 0)) (h.2.2.1 48 4) v3.toNatClampNeg ((zsI (zsI h (h.2.2.1 48 2) v3.toNatClampNeg (h.1 (h.2.2.1 48 1) v3.toNatClampNeg)) (h.2.2.1 48 3) v3.toNatClampNeg (nI 0)).1 (h.2.2.1 48 1) v3.toNatClampNeg)) (h.2.2.1 48 5) v3.toNatClampNeg (-(nI 1))) 48 8 ∧ zokA (zsI (zsI (zsI (zsI h (h.2.2.1 48 2) v3.toNatClampNeg (h.1 (h.2.2.1 48 1) v3.toNatClampNeg)) (h.2.2.1 48 3) v3.toNatClampNeg (nI 0)) (h.2.2.1 48 4) v3.toNatClampNeg ((zsI (zsI h (h.2.2.1 48 2) v3.toNatClampNeg (h.1 (h.2.2.1 48 1) v3.toNatClampNeg)) (h.2.2.1 48 3) v3.toNatClampNeg (nI 0)).1 (h.2.2.1 48 1) v3.toNatClampNeg)) (h.2.2.1 48 5) v3.toNatClampNeg (-(nI 1))) (h.2.2.1 48 6) 20 v3 ∧ zokO (zsI (zsI (zsI (zsI (zsI h (h.2.2.1 48 2) v3.toNatClampNeg (h.1 (h.2.2.1 48 1) v3.toNatClampNeg)) (h.2.2.1 48 3) v3.toNatClampNeg (nI 0)) (h.2.2.1 48 4) v3.toNatClampNeg ((zsI (zsI h (h.2.2.1 48 2) v3.toNatClampNeg (h.1 (h.2.2.1 48 1) v3.toNatClampNeg)) (h.2.2.1 48 3) v3.toNatClampNeg (nI 0)).1 (h.2.2.1 48 1) v3.toNatClampNeg)) (h.2.2.1 48 5) v3.toNatClampNeg (-(nI 1))) (h.2.2.1 48 6) v3.toNatClampNeg v3) 48 8 ∧ zokA (zsI (zsI (zsI (zsI (zsI h (h.2.2.1 48 2) v3.toNatClampNeg (h.1 (h.2.2.1 48 1) v3.toNatClampNeg)) (h.2.2.1 48 3) v3.toNatClampNeg (nI 0)) (h.2.2.1 48 4) v3.toNatClampNeg ((zsI (zsI h (h.2.2.1 48 2) v3.toNatClampNeg (h.1 (h.2.2.1 48 1) v3.toNatClampNeg)) (h.2.2.1 48 3) v3.toNatClampNeg (nI 0)).1 (h.2.2.1 48 1) v3.toNatClampNeg)) (h.2.2.1 48 5) v3.toNatClampNeg (-(nI 1))) (h.2.2.1 48 6) v3.toNatClampNeg v3) (h.2.2.1 48 7) 20 v3 ∧ J mX8_begin d 0 0 Q 0 0 37 [some (.inr (.inr 48)), u1, some (.inl v2), some (.inl (v3 + nI 1))] [] (zsI (zsI (zsI (zsI (zsI (zsI h (h.2.2.1 48 2) v3.toNatClampNeg (h.1 (h.2.2.1 48 1) v3.toNatClampNeg)) (h.2.2.1 48 3) v3.toNatClampNeg (nI 0)) (h.2.2.1 48 4) v3.toNatClampNeg ((zsI (zsI h (h.2.2.1 48 2) v3.toNatClampNeg (h.1 (h.2.2.1 48 1) v3.toNatClampNeg)) (h.2.2.1 48 3) v3.toNatClampNeg (nI 0)).1 (h.2.2.1 48 1) v3.toNatClampNeg)) (h.2.2.1 48 5) v3.toNatClampNeg (-(nI 1))) (h.2.2.1 48 6) v3.toNatClampNeg v3) (h.2.2.1 48 7) v3.toNatClampNeg (-(nI 1)))
  rw [(show h.2.2.1 48 2 = 50 from (hr.at (by decide) (by decide) (by rfl))), (show h.2.2.1 48 1 = 49 from (hr.at (by decide) (by decide) (by rfl))), (show h.2.2.1 48 3 = 51 from (hr.at (by decide) (by decide) (by rfl))), (show h.2.2.1 48 4 = 52 from (hr.at (by decide) (by decide) (by rfl))), (show h.2.2.1 48 5 = 53 from (hr.at (by decide) (by decide) (by rfl))), (show h.2.2.1 48 6 = 54 from (hr.at (by decide) (by decide) (by rfl))), (show h.2.2.1 48 7 = 55 from (hr.at (by decide) (by decide) (by rfl)))]
  exact ⟨(zo hr (by decide) rfl), (zo hr (by decide) rfl), (zia hr (by decide) (by rfl) g0), (zia hr (by decide) (by rfl) g0), (zo hr (by decide) rfl), (zia hr (by decide) (by rfl) g0), (zo hr (by decide) rfl), (zo hr (by decide) rfl), (zia hr (by decide) (by rfl) g0), (zia hr (by decide) (by rfl) g0), (zo hr (by decide) rfl), (zia hr (by decide) (by rfl) g0), (zo hr (by decide) rfl), (zia hr (by decide) (by rfl) g0), (zo hr (by decide) rfl), (zia hr (by decide) (by rfl) g0), k⟩

theorem bX8_begin_103 {d : Nat} {Q : Option MV → MH → Prop} {h : MH} {u0 u1 u2 u3 : Option MV} (k : Q none h) : J mX8_begin d 0 0 Q 0 0 103 [u0, u1, u2, u3] [] h := by
  exact J_vret (zat qX8_begin 65 (by rfl)) rfl (Nat.le_refl 0) (Nat.le_refl 0) k

theorem bX8_untilNextEnd_0 {d : Nat} {Q : Option MV → MH → Prop} {h : MH} {u1 u2 u3 : Option MV} (k : J mX8_untilNextEnd d 0 0 Q 0 0 4 [some (.inr (.inr 48)), some (.inl (-(nI 1))), some (.inl (nI 0)), u3] [] h) : J mX8_untilNextEnd d 0 0 Q 0 0 0 [some (.inr (.inr 48)), u1, u2, u3] [] h := by
  refine zrun 0 4 qX8_untilNextEnd (o := 8) rfl ?_
  show J mX8_untilNextEnd d 0 0 Q 0 0 4 [some (.inr (.inr 48)), some (.inl (-(nI 1))), some (.inl (nI 0)), u3] [] h
  exact k

theorem bX8_untilNextEnd_4 {d : Nat} {Q : Option MV → MH → Prop} {h : MH} {u1 u3 : Option MV} {v2 : Int32} (hr : zRf h) (k1 : (h.1 48 0) ≤ v2 → J mX8_untilNextEnd d 0 0 Q 0 0 56 [some (.inr (.inr 48)), u1, some (.inl v2), u3] [] h) (k2 : ¬ (h.1 48 0) ≤ v2 → J mX8_untilNextEnd d 0 0 Q 0 0 12 [some (.inr (.inr 48)), u1, some (.inl v2), u3] [] h) : J mX8_untilNextEnd d 0 0 Q 0 0 4 [some (.inr (.inr 48)), u1, some (.inl v2), u3] [] h := by
  refine zrun 4 4 qX8_untilNextEnd (o := 8) rfl ?_
  show zokO h 48 8 ∧ (((h.1 48 0) ≤ v2 → J mX8_untilNextEnd d 0 0 Q 0 0 56 [some (.inr (.inr 48)), u1, some (.inl v2), u3] [] h) ∧ (¬ (h.1 48 0) ≤ v2 → J mX8_untilNextEnd d 0 0 Q 0 0 12 [some (.inr (.inr 48)), u1, some (.inl v2), u3] [] h))
  exact ⟨(zo hr (by decide) rfl), k1, k2⟩

theorem bX8_untilNextEnd_12 {d : Nat} {Q : Option MV → MH → Prop} {h : MH} {u1 u3 : Option MV} {v2 : Int32} (hr : zRf h) (g0 : vp_in v2 8) (k1 : (h.1 51 v2.toNatClampNeg) ≤ 0 → J mX8_untilNextEnd d 0 0 Q 0 0 50 [some (.inr (.inr 48)), u1, some (.inl v2), u3] [] h) (k2 : ¬ (h.1 51 v2.toNatClampNeg) ≤ 0 → J mX8_untilNextEnd d 0 0 Q 0 0 21 [some (.inr (.inr 48)), u1, some (.inl v2), u3] [] h) : J mX8_untilNextEnd d 0 0 Q 0 0 12 [some (.inr (.inr 48)), u1, some (.inl v2), u3] [] h := by
  refine zrun 8 5 qX8_untilNextEnd (o := 8) rfl ?_
  show zokO h 48 8 ∧ zokA h (h.2.2.1 48 3) 20 v2 ∧ (((h.1 (h.2.2.1 48 3) v2.toNatClampNeg) ≤ 0 → J mX8_untilNextEnd d 0 0 Q 0 0 50 [some (.inr (.inr 48)), u1, some (.inl v2), u3] [] h) ∧ (¬ (h.1 (h.2.2.1 48 3) v2.toNatClampNeg) ≤ 0 → J mX8_untilNextEnd d 0 0 Q 0 0 21 [some (.inr (.inr 48)), u1, some (.inl v2), u3] [] h))
  rw [(show h.2.2.1 48 3 = 51 from (hr.at (by decide) (by decide) (by rfl)))]
  exact ⟨(zo hr (by decide) rfl), (zia hr (by decide) (by rfl) g0), k1, k2⟩

theorem bX8_untilNextEnd_21 {d : Nat} {Q : Option MV → MH → Prop} {h : MH} {u3 : Option MV} {v2 v1 : Int32} (hr : zRf h) (g0 : vp_in v2 8) (g1 : ¬ (h.1 51 v2.toNatClampNeg) = 0) (k1 : ¬ v1 = (-(nI 1)) → J mX8_untilNextEnd d 0 0 Q 0 0 44 [some (.inr (.inr 48)), some (.inl v1), some (.inl v2), some (.inl ((h.1 50 v2.toNatClampNeg) / (h.1 51 v2.toNatClampNeg)))] [] h) (k2 : v1 = (-(nI 1)) → J mX8_untilNextEnd d 0 0 Q 0 0 40 [some (.inr (.inr 48)), some (.inl v1), some (.inl v2), some (.inl ((h.1 50 v2.toNatClampNeg) / (h.1 51 v2.toNatClampNeg)))] [] h) : J mX8_untilNextEnd d 0 0 Q 0 0 21 [some (.inr (.inr 48)), some (.inl v1), some (.inl v2), u3] [] h := by
  refine zrun 13 13 qX8_untilNextEnd (o := 8) rfl ?_
  show zokO h 48 8 ∧ zokA h (h.2.2.1 48 2) 20 v2 ∧ zokO h 48 8 ∧ zokA h (h.2.2.1 48 3) 20 v2 ∧ ¬ (h.1 (h.2.2.1 48 3) v2.toNatClampNeg) = 0 ∧ ((¬ v1 = (-(nI 1)) → J mX8_untilNextEnd d 0 0 Q 0 0 44 [some (.inr (.inr 48)), some (.inl v1), some (.inl v2), some (.inl ((h.1 (h.2.2.1 48 2) v2.toNatClampNeg) / (h.1 (h.2.2.1 48 3) v2.toNatClampNeg)))] [] h) ∧ (v1 = (-(nI 1)) → J mX8_untilNextEnd d 0 0 Q 0 0 40 [some (.inr (.inr 48)), some (.inl v1), some (.inl v2), some (.inl ((h.1 (h.2.2.1 48 2) v2.toNatClampNeg) / (h.1 (h.2.2.1 48 3) v2.toNatClampNeg)))] [] h))
  rw [(show h.2.2.1 48 2 = 50 from (hr.at (by decide) (by decide) (by rfl))), (show h.2.2.1 48 3 = 51 from (hr.at (by decide) (by decide) (by rfl)))]
  exact ⟨(zo hr (by decide) rfl), (zia hr (by decide) (by rfl) g0), (zo hr (by decide) rfl), (zia hr (by decide) (by rfl) g0), g1, k1, k2⟩

theorem bX8_untilNextEnd_40 {d : Nat} {Q : Option MV → MH → Prop} {h : MH} {u0 u1 u2 : Option MV} {v3 : Int32} (k : J mX8_untilNextEnd d 0 0 Q 0 0 49 [u0, u1, u2, some (.inl v3)] [.inl v3] h) : J mX8_untilNextEnd d 0 0 Q 0 0 40 [u0, u1, u2, some (.inl v3)] [] h := by
  refine zrun 26 2 qX8_untilNextEnd (o := 8) rfl ?_
  show J mX8_untilNextEnd d 0 0 Q 0 0 49 [u0, u1, u2, some (.inl v3)] [.inl v3] h
  exact k

theorem bX8_untilNextEnd_44 {d : Nat} {Q : Option MV → MH → Prop} {h : MH} {u0 u2 : Option MV} {v1 v3 : Int32} (hd : 1 ≤ d) (k : J mX8_untilNextEnd d 0 0 Q 0 0 49 [u0, some (.inl v1), u2, some (.inl v3)] [.inl (if v3 < v1 then v3 else v1)] h) : J mX8_untilNextEnd d 0 0 Q 0 0 44 [u0, some (.inl v1), u2, some (.inl v3)] [] h := by
  refine zrun 28 2 qX8_untilNextEnd (o := 8) rfl ?_
  show J mX8_untilNextEnd d 0 0 Q 0 0 46 [u0, some (.inl v1), u2, some (.inl v3)] [.inl v3, .inl v1] h
  exact zmin (zat qX8_untilNextEnd 30 (by rfl)) mm8_94 rfl hd (Nat.le_of_ble_eq_true rfl) zle0 k

theorem bX8_untilNextEnd_49 {d : Nat} {Q : Option MV → MH → Prop} {h : MH} {u1 u2 u3 : Option MV} {vs0 : Int32} (k : J mX8_untilNextEnd d 0 0 Q 0 0 50 [some (.inr (.inr 48)), some (.inl vs0), u2, u3] [] h) : J mX8_untilNextEnd d 0 0 Q 0 0 49 [some (.inr (.inr 48)), u1, u2, u3] [.inl vs0] h := by
  refine zrun 31 1 qX8_untilNextEnd (o := 8) rfl ?_
  show J mX8_untilNextEnd d 0 0 Q 0 0 50 [some (.inr (.inr 48)), some (.inl vs0), u2, u3] [] h
  exact k

theorem bX8_untilNextEnd_50 {d : Nat} {Q : Option MV → MH → Prop} {h : MH} {u0 u3 : Option MV} {v2 v1 : Int32} (k : J mX8_untilNextEnd d 0 0 Q 0 0 4 [u0, some (.inl v1), some (.inl (v2 + nI 1)), u3] [] h) : J mX8_untilNextEnd d 0 0 Q 0 0 50 [u0, some (.inl v1), some (.inl v2), u3] [] h := by
  refine zrun 32 2 qX8_untilNextEnd (o := 8) rfl ?_
  show J mX8_untilNextEnd d 0 0 Q 0 0 4 [u0, some (.inl v1), some (.inl (v2 + nI 1)), u3] [] h
  exact k

theorem bX8_untilNextEnd_56 {d : Nat} {Q : Option MV → MH → Prop} {h : MH} {u0 u2 u3 : Option MV} {v1 : Int32} (k : Q (some (.inl v1)) h) : J mX8_untilNextEnd d 0 0 Q 0 0 56 [u0, some (.inl v1), u2, u3] [] h := by
  refine zrun 34 1 qX8_untilNextEnd (o := 8) rfl ?_
  show J mX8_untilNextEnd d 0 0 Q 0 0 57 [u0, some (.inl v1), u2, u3] [.inl v1] h
  exact J_iret (ty := .int) (zat qX8_untilNextEnd 35 (by rfl)) rfl rfl (Nat.le_refl 0) (Nat.le_refl 0) k

theorem bX8_burn_0 {d : Nat} {Q : Option MV → MH → Prop} {h : MH} {u2 : Option MV} {v1 : Int32} (hr : zRf h) (k : J mX8_burn d 0 0 Q 0 0 12 [some (.inr (.inr 48)), some (.inl v1), some (.inl (nI 0))] [] (zsI h 48 13 ((h.1 48 13) + v1))) : J mX8_burn d 0 0 Q 0 0 0 [some (.inr (.inr 48)), some (.inl v1), u2] [] h := by
  refine zrun 0 8 qX8_burn (o := 8) rfl ?_
  show zokO h 48 8 ∧ zokO h 48 8 ∧ J mX8_burn d 0 0 Q 0 0 12 [some (.inr (.inr 48)), some (.inl v1), some (.inl (nI 0))] [] (zsI h 48 13 ((h.1 48 13) + v1))
  exact ⟨(zo hr (by decide) rfl), (zo hr (by decide) rfl), k⟩

theorem bX8_burn_12 {d : Nat} {Q : Option MV → MH → Prop} {h : MH} {u1 : Option MV} {v2 : Int32} (hr : zRf h) (k1 : (h.1 48 0) ≤ v2 → J mX8_burn d 0 0 Q 0 0 65 [some (.inr (.inr 48)), u1, some (.inl v2)] [] h) (k2 : ¬ (h.1 48 0) ≤ v2 → J mX8_burn d 0 0 Q 0 0 20 [some (.inr (.inr 48)), u1, some (.inl v2)] [] h) : J mX8_burn d 0 0 Q 0 0 12 [some (.inr (.inr 48)), u1, some (.inl v2)] [] h := by
  refine zrun 8 4 qX8_burn (o := 8) rfl ?_
  show zokO h 48 8 ∧ (((h.1 48 0) ≤ v2 → J mX8_burn d 0 0 Q 0 0 65 [some (.inr (.inr 48)), u1, some (.inl v2)] [] h) ∧ (¬ (h.1 48 0) ≤ v2 → J mX8_burn d 0 0 Q 0 0 20 [some (.inr (.inr 48)), u1, some (.inl v2)] [] h))
  exact ⟨(zo hr (by decide) rfl), k1, k2⟩

theorem bX8_burn_20 {d : Nat} {Q : Option MV → MH → Prop} {h : MH} {u1 : Option MV} {v2 : Int32} (hr : zRf h) (g0 : vp_in v2 8) (k1 : (h.1 51 v2.toNatClampNeg) ≤ 0 → J mX8_burn d 0 0 Q 0 0 59 [some (.inr (.inr 48)), u1, some (.inl v2)] [] h) (k2 : ¬ (h.1 51 v2.toNatClampNeg) ≤ 0 → J mX8_burn d 0 0 Q 0 0 29 [some (.inr (.inr 48)), u1, some (.inl v2)] [] h) : J mX8_burn d 0 0 Q 0 0 20 [some (.inr (.inr 48)), u1, some (.inl v2)] [] h := by
  refine zrun 12 5 qX8_burn (o := 8) rfl ?_
  show zokO h 48 8 ∧ zokA h (h.2.2.1 48 3) 20 v2 ∧ (((h.1 (h.2.2.1 48 3) v2.toNatClampNeg) ≤ 0 → J mX8_burn d 0 0 Q 0 0 59 [some (.inr (.inr 48)), u1, some (.inl v2)] [] h) ∧ (¬ (h.1 (h.2.2.1 48 3) v2.toNatClampNeg) ≤ 0 → J mX8_burn d 0 0 Q 0 0 29 [some (.inr (.inr 48)), u1, some (.inl v2)] [] h))
  rw [(show h.2.2.1 48 3 = 51 from (hr.at (by decide) (by decide) (by rfl)))]
  exact ⟨(zo hr (by decide) rfl), (zia hr (by decide) (by rfl) g0), k1, k2⟩

theorem bX8_burn_29 {d d' : Nat} {Q : Option MV → MH → Prop} {h : MH} {v2 v1 : Int32} (hr : zRf h) (g0 : vp_in v2 8) (hd : d' + 1 ≤ d) (k : Con mX8_burnOwn d' 0 0 [.inr (.inr 48), .inl v2, .inl (v1 * ((zsI h 50 v2.toNatClampNeg ((h.1 50 v2.toNatClampNeg) - (v1 * (h.1 51 v2.toNatClampNeg)))).1 51 v2.toNatClampNeg))] (zsI h 50 v2.toNatClampNeg ((h.1 50 v2.toNatClampNeg) - (v1 * (h.1 51 v2.toNatClampNeg)))) (zrv fun h' => J mX8_burn d 0 0 Q 0 0 59 [some (.inr (.inr 48)), some (.inl v1), some (.inl v2)] [] h')) : J mX8_burn d 0 0 Q 0 0 29 [some (.inr (.inr 48)), some (.inl v1), some (.inl v2)] [] h := by
  refine zrun 17 21 qX8_burn (o := 8) rfl ?_
  show zokO h 48 8 ∧ zokA h (h.2.2.1 48 2) 20 v2 ∧ zokO h 48 8 ∧ zokA h (h.2.2.1 48 3) 20 v2 ∧ zokA h (h.2.2.1 48 2) 20 v2 ∧ zokO (zsI h (h.2.2.1 48 2) v2.toNatClampNeg ((h.1 (h.2.2.1 48 2) v2.toNatClampNeg) - (v1 * (h.1 (h.2.2.1 48 3) v2.toNatClampNeg)))) 48 8 ∧ zokA (zsI h (h.2.2.1 48 2) v2.toNatClampNeg ((h.1 (h.2.2.1 48 2) v2.toNatClampNeg) - (v1 * (h.1 (h.2.2.1 48 3) v2.toNatClampNeg)))) (h.2.2.1 48 3) 20 v2 ∧ J mX8_burn d 0 0 Q 0 0 56 [some (.inr (.inr 48)), some (.inl v1), some (.inl v2)] [.inl (v1 * ((zsI h (h.2.2.1 48 2) v2.toNatClampNeg ((h.1 (h.2.2.1 48 2) v2.toNatClampNeg) - (v1 * (h.1 (h.2.2.1 48 3) v2.toNatClampNeg)))).1 (h.2.2.1 48 3) v2.toNatClampNeg)), .inl v2, .inr (.inr 48)] (zsI h (h.2.2.1 48 2) v2.toNatClampNeg ((h.1 (h.2.2.1 48 2) v2.toNatClampNeg) - (v1 * (h.1 (h.2.2.1 48 3) v2.toNatClampNeg))))
  rw [(show h.2.2.1 48 2 = 50 from (hr.at (by decide) (by decide) (by rfl))), (show h.2.2.1 48 3 = 51 from (hr.at (by decide) (by decide) (by rfl)))]
  exact ⟨(zo hr (by decide) rfl), (zia hr (by decide) (by rfl) g0), (zo hr (by decide) rfl), (zia hr (by decide) (by rfl) g0), (zia hr (by decide) (by rfl) g0), (zo hr (by decide) rfl), (zia hr (by decide) (by rfl) g0), zcVv (as := [.inl v2, .inl (v1 * ((zsI h 50 v2.toNatClampNeg ((h.1 50 v2.toNatClampNeg) - (v1 * (h.1 51 v2.toNatClampNeg)))).1 51 v2.toNatClampNeg))]) (zat qX8_burn 38 (by rfl)) l8_97 rfl hd rfl (Nat.le_of_ble_eq_true rfl) zle0 (ci := 8) (by decide) rfl (show zokO _ _ _ from (zo hr (by decide) rfl)) k⟩

theorem bX8_burn_59 {d : Nat} {Q : Option MV → MH → Prop} {h : MH} {u0 : Option MV} {v2 v1 : Int32} (k : J mX8_burn d 0 0 Q 0 0 12 [u0, some (.inl v1), some (.inl (v2 + nI 1))] [] h) : J mX8_burn d 0 0 Q 0 0 59 [u0, some (.inl v1), some (.inl v2)] [] h := by
  refine zrun 39 2 qX8_burn (o := 8) rfl ?_
  show J mX8_burn d 0 0 Q 0 0 12 [u0, some (.inl v1), some (.inl (v2 + nI 1))] [] h
  exact k

theorem bX8_burn_65 {d : Nat} {Q : Option MV → MH → Prop} {h : MH} {u0 u1 u2 : Option MV} (k : Q none h) : J mX8_burn d 0 0 Q 0 0 65 [u0, u1, u2] [] h := by
  exact J_vret (zat qX8_burn 41 (by rfl)) rfl (Nat.le_refl 0) (Nat.le_refl 0) k

theorem bX8_burnOwn_0 {d : Nat} {Q : Option MV → MH → Prop} {h : MH} {u0 u3 u4 u5 u6 : Option MV} {v2 v1 : Int32} (k : J mX8_burnOwn d 0 0 Q 0 0 8 [u0, some (.inl v1), some (.inl v2), some (.inl v2), some (.inl v1), some (.inl (nI 0)), u6] [] h) : J mX8_burnOwn d 0 0 Q 0 0 0 [u0, some (.inl v1), some (.inl v2), u3, u4, u5, u6] [] h := by
  refine zrun 0 6 qX8_burnOwn (o := 8) rfl ?_
  show J mX8_burnOwn d 0 0 Q 0 0 8 [u0, some (.inl v1), some (.inl v2), some (.inl v2), some (.inl v1), some (.inl (nI 0)), u6] [] h
  exact k

theorem bX8_burnOwn_8 {d : Nat} {Q : Option MV → MH → Prop} {h : MH} {u0 u1 u2 u3 u4 u6 : Option MV} {v5 : Int32} (k1 : (nI 8) ≤ v5 → J mX8_burnOwn d 0 0 Q 0 0 70 [u0, u1, u2, u3, u4, some (.inl v5), u6] [] h) (k2 : ¬ (nI 8) ≤ v5 → J mX8_burnOwn d 0 0 Q 0 0 15 [u0, u1, u2, u3, u4, some (.inl v5), u6] [] h) : J mX8_burnOwn d 0 0 Q 0 0 8 [u0, u1, u2, u3, u4, some (.inl v5), u6] [] h := by
  refine zrun 6 3 qX8_burnOwn (o := 8) rfl ?_
  show (((nI 8) ≤ v5 → J mX8_burnOwn d 0 0 Q 0 0 70 [u0, u1, u2, u3, u4, some (.inl v5), u6] [] h) ∧ (¬ (nI 8) ≤ v5 → J mX8_burnOwn d 0 0 Q 0 0 15 [u0, u1, u2, u3, u4, some (.inl v5), u6] [] h))
  exact ⟨k1, k2⟩

theorem bX8_burnOwn_15 {d : Nat} {Q : Option MV → MH → Prop} {h : MH} {u0 u1 u2 u3 u5 u6 : Option MV} {v4 : Int32} (k1 : v4 = (-(nI 1)) → J mX8_burnOwn d 0 0 Q 0 0 70 [u0, u1, u2, u3, some (.inl v4), u5, u6] [] h) (k2 : ¬ v4 = (-(nI 1)) → J mX8_burnOwn d 0 0 Q 0 0 21 [u0, u1, u2, u3, some (.inl v4), u5, u6] [] h) : J mX8_burnOwn d 0 0 Q 0 0 15 [u0, u1, u2, u3, some (.inl v4), u5, u6] [] h := by
  refine zrun 9 3 qX8_burnOwn (o := 8) rfl ?_
  show ((v4 = (-(nI 1)) → J mX8_burnOwn d 0 0 Q 0 0 70 [u0, u1, u2, u3, some (.inl v4), u5, u6] [] h) ∧ (¬ v4 = (-(nI 1)) → J mX8_burnOwn d 0 0 Q 0 0 21 [u0, u1, u2, u3, some (.inl v4), u5, u6] [] h))
  exact ⟨k1, k2⟩

theorem bX8_burnOwn_21 {d : Nat} {Q : Option MV → MH → Prop} {h : MH} {u0 u1 u2 u4 u5 u6 : Option MV} {v3 : Int32} (k1 : v3 ≤ 0 → J mX8_burnOwn d 0 0 Q 0 0 70 [u0, u1, u2, some (.inl v3), u4, u5, u6] [] h) (k2 : ¬ v3 ≤ 0 → J mX8_burnOwn d 0 0 Q 0 0 25 [u0, u1, u2, some (.inl v3), u4, u5, u6] [] h) : J mX8_burnOwn d 0 0 Q 0 0 21 [u0, u1, u2, some (.inl v3), u4, u5, u6] [] h := by
  refine zrun 12 2 qX8_burnOwn (o := 8) rfl ?_
  show ((v3 ≤ 0 → J mX8_burnOwn d 0 0 Q 0 0 70 [u0, u1, u2, some (.inl v3), u4, u5, u6] [] h) ∧ (¬ v3 ≤ 0 → J mX8_burnOwn d 0 0 Q 0 0 25 [u0, u1, u2, some (.inl v3), u4, u5, u6] [] h))
  exact ⟨k1, k2⟩

theorem bX8_burnOwn_25 {d : Nat} {Q : Option MV → MH → Prop} {h : MH} {u1 u2 u5 u6 : Option MV} {v4 v3 : Int32} (hr : zRf h) (g0 : vp_in v4 8) (hd : 1 ≤ d) (k : J mX8_burnOwn d 0 0 Q 0 0 36 [some (.inr (.inr 48)), u1, u2, some (.inl v3), some (.inl v4), u5, u6] [.inl (if v3 < (h.1 52 v4.toNatClampNeg) then v3 else (h.1 52 v4.toNatClampNeg))] h) : J mX8_burnOwn d 0 0 Q 0 0 25 [some (.inr (.inr 48)), u1, u2, some (.inl v3), some (.inl v4), u5, u6] [] h := by
  refine zrun 14 5 qX8_burnOwn (o := 8) rfl ?_
  show zokO h 48 8 ∧ zokA h (h.2.2.1 48 4) 20 v4 ∧ J mX8_burnOwn d 0 0 Q 0 0 33 [some (.inr (.inr 48)), u1, u2, some (.inl v3), some (.inl v4), u5, u6] [.inl v3, .inl (h.1 (h.2.2.1 48 4) v4.toNatClampNeg)] h
  rw [(show h.2.2.1 48 4 = 52 from (hr.at (by decide) (by decide) (by rfl)))]
  exact ⟨(zo hr (by decide) rfl), (zia hr (by decide) (by rfl) g0), zmin (zat qX8_burnOwn 19 (by rfl)) mm8_94 rfl hd (Nat.le_of_ble_eq_true rfl) zle0 k⟩

theorem bX8_burnOwn_36 {d : Nat} {Q : Option MV → MH → Prop} {h : MH} {u1 u6 : Option MV} {vs0 v5 v4 v3 v2 : Int32} (hr : zRf h) (g0 : vp_in v4 8) (k : J mX8_burnOwn d 0 0 Q 0 0 8 [some (.inr (.inr 48)), u1, some (.inl v2), some (.inl (v3 - vs0)), some (.inl ((zsI h 52 v4.toNatClampNeg ((h.1 52 v4.toNatClampNeg) - vs0)).1 53 v4.toNatClampNeg)), some (.inl (v5 + nI 1)), some (.inl vs0)] [] (zsI h 52 v4.toNatClampNeg ((h.1 52 v4.toNatClampNeg) - vs0))) : J mX8_burnOwn d 0 0 Q 0 0 36 [some (.inr (.inr 48)), u1, some (.inl v2), some (.inl v3), some (.inl v4), some (.inl v5), u6] [.inl vs0] h := by
  refine zrun 20 20 qX8_burnOwn (o := 8) rfl ?_
  show zokO h 48 8 ∧ zokA h (h.2.2.1 48 4) 20 v4 ∧ zokA h (h.2.2.1 48 4) 20 v4 ∧ zokO (zsI h (h.2.2.1 48 4) v4.toNatClampNeg ((h.1 (h.2.2.1 48 4) v4.toNatClampNeg) - vs0)) 48 8 ∧ zokA (zsI h (h.2.2.1 48 4) v4.toNatClampNeg ((h.1 (h.2.2.1 48 4) v4.toNatClampNeg) - vs0)) (h.2.2.1 48 5) 20 v4 ∧ J mX8_burnOwn d 0 0 Q 0 0 8 [some (.inr (.inr 48)), u1, some (.inl v2), some (.inl (v3 - vs0)), some (.inl ((zsI h (h.2.2.1 48 4) v4.toNatClampNeg ((h.1 (h.2.2.1 48 4) v4.toNatClampNeg) - vs0)).1 (h.2.2.1 48 5) v4.toNatClampNeg)), some (.inl (v5 + nI 1)), some (.inl vs0)] [] (zsI h (h.2.2.1 48 4) v4.toNatClampNeg ((h.1 (h.2.2.1 48 4) v4.toNatClampNeg) - vs0))
  rw [(show h.2.2.1 48 4 = 52 from (hr.at (by decide) (by decide) (by rfl))), (show h.2.2.1 48 5 = 53 from (hr.at (by decide) (by decide) (by rfl)))]
  exact ⟨(zo hr (by decide) rfl), (zia hr (by decide) (by rfl) g0), (zia hr (by decide) (by rfl) g0), (zo hr (by decide) rfl), (zia hr (by decide) (by rfl) g0), k⟩

theorem bX8_burnOwn_70 {d : Nat} {Q : Option MV → MH → Prop} {h : MH} {u0 u1 u2 u3 u4 u5 u6 : Option MV} (k : Q none h) : J mX8_burnOwn d 0 0 Q 0 0 70 [u0, u1, u2, u3, u4, u5, u6] [] h := by
  exact J_vret (zat qX8_burnOwn 40 (by rfl)) rfl (Nat.le_refl 0) (Nat.le_refl 0) k

theorem bX8_putAwayEnded_0 {d : Nat} {Q : Option MV → MH → Prop} {h : MH} {u1 u2 : Option MV} (k : J mX8_putAwayEnded d 0 0 Q 0 0 4 [some (.inr (.inr 48)), some (.inl (nI 0)), some (.inl (nI 0))] [] h) : J mX8_putAwayEnded d 0 0 Q 0 0 0 [some (.inr (.inr 48)), u1, u2] [] h := by
  refine zrun 0 4 qX8_putAwayEnded (o := 8) rfl ?_
  show J mX8_putAwayEnded d 0 0 Q 0 0 4 [some (.inr (.inr 48)), some (.inl (nI 0)), some (.inl (nI 0))] [] h
  exact k

theorem bX8_putAwayEnded_4 {d : Nat} {Q : Option MV → MH → Prop} {h : MH} {u1 : Option MV} {v2 : Int32} (hr : zRf h) (k1 : (h.1 48 0) ≤ v2 → J mX8_putAwayEnded d 0 0 Q 0 0 59 [some (.inr (.inr 48)), u1, some (.inl v2)] [] h) (k2 : ¬ (h.1 48 0) ≤ v2 → J mX8_putAwayEnded d 0 0 Q 0 0 12 [some (.inr (.inr 48)), u1, some (.inl v2)] [] h) : J mX8_putAwayEnded d 0 0 Q 0 0 4 [some (.inr (.inr 48)), u1, some (.inl v2)] [] h := by
  refine zrun 4 4 qX8_putAwayEnded (o := 8) rfl ?_
  show zokO h 48 8 ∧ (((h.1 48 0) ≤ v2 → J mX8_putAwayEnded d 0 0 Q 0 0 59 [some (.inr (.inr 48)), u1, some (.inl v2)] [] h) ∧ (¬ (h.1 48 0) ≤ v2 → J mX8_putAwayEnded d 0 0 Q 0 0 12 [some (.inr (.inr 48)), u1, some (.inl v2)] [] h))
  exact ⟨(zo hr (by decide) rfl), k1, k2⟩

theorem bX8_putAwayEnded_12 {d : Nat} {Q : Option MV → MH → Prop} {h : MH} {u1 : Option MV} {v2 : Int32} (hr : zRf h) (g0 : vp_in v2 8) (k1 : (h.1 51 v2.toNatClampNeg) ≤ 0 → J mX8_putAwayEnded d 0 0 Q 0 0 53 [some (.inr (.inr 48)), u1, some (.inl v2)] [] h) (k2 : ¬ (h.1 51 v2.toNatClampNeg) ≤ 0 → J mX8_putAwayEnded d 0 0 Q 0 0 21 [some (.inr (.inr 48)), u1, some (.inl v2)] [] h) : J mX8_putAwayEnded d 0 0 Q 0 0 12 [some (.inr (.inr 48)), u1, some (.inl v2)] [] h := by
  refine zrun 8 5 qX8_putAwayEnded (o := 8) rfl ?_
  show zokO h 48 8 ∧ zokA h (h.2.2.1 48 3) 20 v2 ∧ (((h.1 (h.2.2.1 48 3) v2.toNatClampNeg) ≤ 0 → J mX8_putAwayEnded d 0 0 Q 0 0 53 [some (.inr (.inr 48)), u1, some (.inl v2)] [] h) ∧ (¬ (h.1 (h.2.2.1 48 3) v2.toNatClampNeg) ≤ 0 → J mX8_putAwayEnded d 0 0 Q 0 0 21 [some (.inr (.inr 48)), u1, some (.inl v2)] [] h))
  rw [(show h.2.2.1 48 3 = 51 from (hr.at (by decide) (by decide) (by rfl)))]
  exact ⟨(zo hr (by decide) rfl), (zia hr (by decide) (by rfl) g0), k1, k2⟩

theorem bX8_putAwayEnded_21 {d : Nat} {Q : Option MV → MH → Prop} {h : MH} {u1 : Option MV} {v2 : Int32} (hr : zRf h) (g0 : vp_in v2 8) (k1 : 0 < (h.1 50 v2.toNatClampNeg) → J mX8_putAwayEnded d 0 0 Q 0 0 53 [some (.inr (.inr 48)), u1, some (.inl v2)] [] h) (k2 : ¬ 0 < (h.1 50 v2.toNatClampNeg) → J mX8_putAwayEnded d 0 0 Q 0 0 30 [some (.inr (.inr 48)), u1, some (.inl v2)] [] h) : J mX8_putAwayEnded d 0 0 Q 0 0 21 [some (.inr (.inr 48)), u1, some (.inl v2)] [] h := by
  refine zrun 13 5 qX8_putAwayEnded (o := 8) rfl ?_
  show zokO h 48 8 ∧ zokA h (h.2.2.1 48 2) 20 v2 ∧ ((0 < (h.1 (h.2.2.1 48 2) v2.toNatClampNeg) → J mX8_putAwayEnded d 0 0 Q 0 0 53 [some (.inr (.inr 48)), u1, some (.inl v2)] [] h) ∧ (¬ 0 < (h.1 (h.2.2.1 48 2) v2.toNatClampNeg) → J mX8_putAwayEnded d 0 0 Q 0 0 30 [some (.inr (.inr 48)), u1, some (.inl v2)] [] h))
  rw [(show h.2.2.1 48 2 = 50 from (hr.at (by decide) (by decide) (by rfl)))]
  exact ⟨(zo hr (by decide) rfl), (zia hr (by decide) (by rfl) g0), k1, k2⟩

theorem bX8_putAwayEnded_30 {d : Nat} {Q : Option MV → MH → Prop} {h : MH} {v2 v1 : Int32} (hr : zRf h) (g0 : vp_in v2 8) (k : J mX8_putAwayEnded d 0 0 Q 0 0 53 [some (.inr (.inr 48)), some (.inl (v1 ||| ((nI 1) <<< (v2 &&& 31)))), some (.inl v2)] [] (zsI (zsI h 51 v2.toNatClampNeg (nI 0)) 55 v2.toNatClampNeg ((zsI h 51 v2.toNatClampNeg (nI 0)).1 48 13))) : J mX8_putAwayEnded d 0 0 Q 0 0 30 [some (.inr (.inr 48)), some (.inl v1), some (.inl v2)] [] h := by
  refine zrun 18 17 qX8_putAwayEnded (o := 8) rfl ?_
  show zokO h 48 8 ∧ zokA h (h.2.2.1 48 3) 20 v2 ∧ zokO (zsI h (h.2.2.1 48 3) v2.toNatClampNeg (nI 0)) 48 8 ∧ zokO (zsI h (h.2.2.1 48 3) v2.toNatClampNeg (nI 0)) 48 8 ∧ zokA (zsI h (h.2.2.1 48 3) v2.toNatClampNeg (nI 0)) (h.2.2.1 48 7) 20 v2 ∧ J mX8_putAwayEnded d 0 0 Q 0 0 53 [some (.inr (.inr 48)), some (.inl (v1 ||| ((nI 1) <<< (v2 &&& 31)))), some (.inl v2)] [] (zsI (zsI h (h.2.2.1 48 3) v2.toNatClampNeg (nI 0)) (h.2.2.1 48 7) v2.toNatClampNeg ((zsI h (h.2.2.1 48 3) v2.toNatClampNeg (nI 0)).1 48 13))
  rw [(show h.2.2.1 48 3 = 51 from (hr.at (by decide) (by decide) (by rfl))), (show h.2.2.1 48 7 = 55 from (hr.at (by decide) (by decide) (by rfl)))]
  exact ⟨(zo hr (by decide) rfl), (zia hr (by decide) (by rfl) g0), (zo hr (by decide) rfl), (zo hr (by decide) rfl), (zia hr (by decide) (by rfl) g0), k⟩

theorem bX8_putAwayEnded_53 {d : Nat} {Q : Option MV → MH → Prop} {h : MH} {u0 : Option MV} {v2 v1 : Int32} (k : J mX8_putAwayEnded d 0 0 Q 0 0 4 [u0, some (.inl v1), some (.inl (v2 + nI 1))] [] h) : J mX8_putAwayEnded d 0 0 Q 0 0 53 [u0, some (.inl v1), some (.inl v2)] [] h := by
  refine zrun 35 2 qX8_putAwayEnded (o := 8) rfl ?_
  show J mX8_putAwayEnded d 0 0 Q 0 0 4 [u0, some (.inl v1), some (.inl (v2 + nI 1))] [] h
  exact k

theorem bX8_putAwayEnded_59 {d : Nat} {Q : Option MV → MH → Prop} {h : MH} {u0 u2 : Option MV} {v1 : Int32} (k : Q (some (.inl v1)) h) : J mX8_putAwayEnded d 0 0 Q 0 0 59 [u0, some (.inl v1), u2] [] h := by
  refine zrun 37 1 qX8_putAwayEnded (o := 8) rfl ?_
  show J mX8_putAwayEnded d 0 0 Q 0 0 60 [u0, some (.inl v1), u2] [.inl v1] h
  exact J_iret (ty := .int) (zat qX8_putAwayEnded 38 (by rfl)) rfl rfl (Nat.le_refl 0) (Nat.le_refl 0) k

theorem bX8_doRules_0 {d : Nat} {Q : Option MV → MH → Prop} {h : MH} {u0 u2 u3 : Option MV} {v1 : Int32} (k : J mX8_doRules d 0 0 Q 0 0 2 [u0, some (.inl v1), some (.inl (nI 0)), u3] [] h) : J mX8_doRules d 0 0 Q 0 0 0 [u0, some (.inl v1), u2, u3] [] h := by
  refine zrun 0 2 qX8_doRules (o := 8) rfl ?_
  show J mX8_doRules d 0 0 Q 0 0 2 [u0, some (.inl v1), some (.inl (nI 0)), u3] [] h
  exact k

theorem bX8_doRules_2 {d : Nat} {Q : Option MV → MH → Prop} {h : MH} {u1 u3 : Option MV} {v2 : Int32} (hr : zRf h) (g0 : zokO h (h.2.2.1 48 14) 5) (k1 : (h.1 (h.2.2.1 48 14) 0) ≤ v2 → J mX8_doRules d 0 0 Q 0 0 100 [some (.inr (.inr 48)), u1, some (.inl v2), u3] [] h) (k2 : ¬ (h.1 (h.2.2.1 48 14) 0) ≤ v2 → J mX8_doRules d 0 0 Q 0 0 13 [some (.inr (.inr 48)), u1, some (.inl v2), u3] [] h) : J mX8_doRules d 0 0 Q 0 0 2 [some (.inr (.inr 48)), u1, some (.inl v2), u3] [] h := by
  refine zrun 2 5 qX8_doRules (o := 8) rfl ?_
  show zokO h 48 8 ∧ zokO h (h.2.2.1 48 14) 5 ∧ (((h.1 (h.2.2.1 48 14) 0) ≤ v2 → J mX8_doRules d 0 0 Q 0 0 100 [some (.inr (.inr 48)), u1, some (.inl v2), u3] [] h) ∧ (¬ (h.1 (h.2.2.1 48 14) 0) ≤ v2 → J mX8_doRules d 0 0 Q 0 0 13 [some (.inr (.inr 48)), u1, some (.inl v2), u3] [] h))
  exact ⟨(zo hr (by decide) rfl), g0, k1, k2⟩

theorem bX8_doRules_13 {d : Nat} {Q : Option MV → MH → Prop} {h : MH} {u3 : Option MV} {v2 v1 : Int32} (hr : zRf h) (g0 : zokO h (h.2.2.1 48 14) 5) (g1 : vp_in v2 20) (k1 : ¬ (h.1 (h.2.2.1 48 14 + 1) v2.toNatClampNeg) = v1 → J mX8_doRules d 0 0 Q 0 0 94 [some (.inr (.inr 48)), some (.inl v1), some (.inl v2), u3] [] h) (k2 : (h.1 (h.2.2.1 48 14 + 1) v2.toNatClampNeg) = v1 → J mX8_doRules d 0 0 Q 0 0 26 [some (.inr (.inr 48)), some (.inl v1), some (.inl v2), u3] [] h) : J mX8_doRules d 0 0 Q 0 0 13 [some (.inr (.inr 48)), some (.inl v1), some (.inl v2), u3] [] h := by
  refine zrun 7 7 qX8_doRules (o := 8) rfl ?_
  show zokO h 48 8 ∧ zokO h (h.2.2.1 48 14) 5 ∧ zokA h (h.2.2.1 (h.2.2.1 48 14) 2) 20 v2 ∧ ((¬ (h.1 (h.2.2.1 (h.2.2.1 48 14) 2) v2.toNatClampNeg) = v1 → J mX8_doRules d 0 0 Q 0 0 94 [some (.inr (.inr 48)), some (.inl v1), some (.inl v2), u3] [] h) ∧ ((h.1 (h.2.2.1 (h.2.2.1 48 14) 2) v2.toNatClampNeg) = v1 → J mX8_doRules d 0 0 Q 0 0 26 [some (.inr (.inr 48)), some (.inl v1), some (.inl v2), u3] [] h))
  rw [(show h.2.2.1 (h.2.2.1 48 14) 2 = (h.2.2.1 48 14 + 1) from (hr.f5 2 g0 (by decide)))]
  exact ⟨(zo hr (by decide) rfl), g0, (zca hr g0 (by decide) (by decide) g1), k1, k2⟩

theorem bX8_doRules_26 {d d' : Nat} {Q : Option MV → MH → Prop} {h : MH} {u1 u3 : Option MV} {v2 : Int32} (hr : zRf h) (gr : zokO h (h.2.2.1 48 14) 5) (hd : d' + 1 ≤ d) (k : Con mX5_actsFrom d' 0 0 [.inr (.inr (h.2.2.1 48 14)), .inl v2] (zsI h 48 11 ((h.1 48 11) ||| ((nI 1) <<< (v2 &&& 31)))) (zri fun (x : Int32) h' => J mX8_doRules d 0 0 Q 0 0 46 [some (.inr (.inr 48)), u1, some (.inl v2), u3] [.inl x] h')) : J mX8_doRules d 0 0 Q 0 0 26 [some (.inr (.inr 48)), u1, some (.inl v2), u3] [] h := by
  refine zrun 14 11 qX8_doRules (o := 8) rfl ?_
  show zokO h 48 8 ∧ zokO h 48 8 ∧ zokO (zsI h 48 11 ((h.1 48 11) ||| ((nI 1) <<< (v2 &&& 31)))) 48 8 ∧ J mX8_doRules d 0 0 Q 0 0 43 [some (.inr (.inr 48)), u1, some (.inl v2), u3] [.inl v2, .inr (.inr (h.2.2.1 48 14))] (zsI h 48 11 ((h.1 48 11) ||| ((nI 1) <<< (v2 &&& 31))))
  exact ⟨(zo hr (by decide) rfl), (zo hr (by decide) rfl), (zo hr (by decide) rfl), zcVi (as := [.inl v2]) (zat qX8_doRules 25 (by rfl)) l8_109 rfl hd rfl (Nat.le_of_ble_eq_true rfl) zle0 (ci := 5) (by decide) rfl (show zokO _ _ _ from gr) k⟩

theorem bX8_doRules_46 {d : Nat} {Q : Option MV → MH → Prop} {h : MH} {u0 u1 u3 : Option MV} {vs0 v2 : Int32} (k : J mX8_doRules d 0 0 Q 0 0 47 [u0, u1, some (.inl v2), some (.inl vs0)] [] h) : J mX8_doRules d 0 0 Q 0 0 46 [u0, u1, some (.inl v2), u3] [.inl vs0] h := by
  refine zrun 26 1 qX8_doRules (o := 8) rfl ?_
  show J mX8_doRules d 0 0 Q 0 0 47 [u0, u1, some (.inl v2), some (.inl vs0)] [] h
  exact k

theorem bX8_doRules_47 {d : Nat} {Q : Option MV → MH → Prop} {h : MH} {u1 : Option MV} {v3 v2 : Int32} (hr : zRf h) (g0 : zokO h (h.2.2.1 48 14) 5) (g1 : vp_in v2 20) (k1 : (h.1 (h.2.2.1 48 14 + 2) v2.toNatClampNeg) ≤ v3 → J mX8_doRules d 0 0 Q 0 0 94 [some (.inr (.inr 48)), u1, some (.inl v2), some (.inl v3)] [] h) (k2 : ¬ (h.1 (h.2.2.1 48 14 + 2) v2.toNatClampNeg) ≤ v3 → J mX8_doRules d 0 0 Q 0 0 60 [some (.inr (.inr 48)), u1, some (.inl v2), some (.inl v3)] [] h) : J mX8_doRules d 0 0 Q 0 0 47 [some (.inr (.inr 48)), u1, some (.inl v2), some (.inl v3)] [] h := by
  refine zrun 27 7 qX8_doRules (o := 8) rfl ?_
  show zokO h 48 8 ∧ zokO h (h.2.2.1 48 14) 5 ∧ zokA h (h.2.2.1 (h.2.2.1 48 14) 3) 20 v2 ∧ (((h.1 (h.2.2.1 (h.2.2.1 48 14) 3) v2.toNatClampNeg) ≤ v3 → J mX8_doRules d 0 0 Q 0 0 94 [some (.inr (.inr 48)), u1, some (.inl v2), some (.inl v3)] [] h) ∧ (¬ (h.1 (h.2.2.1 (h.2.2.1 48 14) 3) v2.toNatClampNeg) ≤ v3 → J mX8_doRules d 0 0 Q 0 0 60 [some (.inr (.inr 48)), u1, some (.inl v2), some (.inl v3)] [] h))
  rw [(show h.2.2.1 (h.2.2.1 48 14) 3 = (h.2.2.1 48 14 + 2) from (hr.f5 3 g0 (by decide)))]
  exact ⟨(zo hr (by decide) rfl), g0, (zca hr g0 (by decide) (by decide) g1), k1, k2⟩

theorem bX8_doRules_60 {d : Nat} {Q : Option MV → MH → Prop} {h : MH} {u1 u2 : Option MV} {v3 : Int32} (hr : zRf h) (k1 : v3 = (h.1 48 15) → J mX8_doRules d 0 0 Q 0 0 88 [some (.inr (.inr 48)), u1, u2, some (.inl v3)] [] h) (k2 : ¬ v3 = (h.1 48 15) → J mX8_doRules d 0 0 Q 0 0 68 [some (.inr (.inr 48)), u1, u2, some (.inl v3)] [] h) : J mX8_doRules d 0 0 Q 0 0 60 [some (.inr (.inr 48)), u1, u2, some (.inl v3)] [] h := by
  refine zrun 34 4 qX8_doRules (o := 8) rfl ?_
  show zokO h 48 8 ∧ ((v3 = (h.1 48 15) → J mX8_doRules d 0 0 Q 0 0 88 [some (.inr (.inr 48)), u1, u2, some (.inl v3)] [] h) ∧ (¬ v3 = (h.1 48 15) → J mX8_doRules d 0 0 Q 0 0 68 [some (.inr (.inr 48)), u1, u2, some (.inl v3)] [] h))
  exact ⟨(zo hr (by decide) rfl), k1, k2⟩

theorem bX8_doRules_68 {d d' : Nat} {Q : Option MV → MH → Prop} {h : MH} {u1 u2 : Option MV} {v3 : Int32} (hr : zRf h) (hd : d' + 1 ≤ d) (k : Con mX8_doAct d' 0 0 [.inr (.inr 48), .inl v3] h (zri fun (x : Int32) h' => J mX8_doRules d 0 0 Q 0 0 73 [some (.inr (.inr 48)), u1, u2, some (.inl v3)] [.inl x] h')) : J mX8_doRules d 0 0 Q 0 0 68 [some (.inr (.inr 48)), u1, u2, some (.inl v3)] [] h := by
  refine zrun 38 2 qX8_doRules (o := 8) rfl ?_
  show J mX8_doRules d 0 0 Q 0 0 70 [some (.inr (.inr 48)), u1, u2, some (.inl v3)] [.inl v3, .inr (.inr 48)] h
  exact zcVi (as := [.inl v3]) (zat qX8_doRules 40 (by rfl)) l8_115 rfl hd rfl (Nat.le_of_ble_eq_true rfl) zle0 (ci := 8) (by decide) rfl (zo hr (by decide) rfl) k

theorem bX8_doRules_73 {d : Nat} {Q : Option MV → MH → Prop} {h : MH} {u0 u1 u2 u3 : Option MV} {vs0 : Int32} (k1 : ¬ vs0 = 0 → J mX8_doRules d 0 0 Q 0 0 88 [u0, u1, u2, u3] [] h) (k2 : vs0 = 0 → J mX8_doRules d 0 0 Q 0 0 76 [u0, u1, u2, u3] [] h) : J mX8_doRules d 0 0 Q 0 0 73 [u0, u1, u2, u3] [.inl vs0] h := by
  refine zrun 41 1 qX8_doRules (o := 8) rfl ?_
  show ((¬ vs0 = 0 → J mX8_doRules d 0 0 Q 0 0 88 [u0, u1, u2, u3] [] h) ∧ (vs0 = 0 → J mX8_doRules d 0 0 Q 0 0 76 [u0, u1, u2, u3] [] h))
  exact ⟨k1, k2⟩

theorem bX8_doRules_76 {d : Nat} {Q : Option MV → MH → Prop} {h : MH} {u1 u2 : Option MV} {v3 : Int32} (hr : zRf h) (k : J mX8_doRules d 0 0 Q 0 0 88 [some (.inr (.inr 48)), u1, u2, some (.inl v3)] [] (zsL h 48 10 ((h.2.1 48 10) ||| ((lN 1) <<< (v3.toInt64 &&& 63))))) : J mX8_doRules d 0 0 Q 0 0 76 [some (.inr (.inr 48)), u1, u2, some (.inl v3)] [] h := by
  refine zrun 42 8 qX8_doRules (o := 8) rfl ?_
  show zokO h 48 8 ∧ zokO h 48 8 ∧ J mX8_doRules d 0 0 Q 0 0 88 [some (.inr (.inr 48)), u1, u2, some (.inl v3)] [] (zsL h 48 10 ((h.2.1 48 10) ||| ((lN 1) <<< (v3.toInt64 &&& 63))))
  exact ⟨(zo hr (by decide) rfl), (zo hr (by decide) rfl), k⟩

theorem bX8_doRules_88 {d : Nat} {Q : Option MV → MH → Prop} {h : MH} {u0 u1 : Option MV} {v3 v2 : Int32} (k : J mX8_doRules d 0 0 Q 0 0 47 [u0, u1, some (.inl v2), some (.inl (v3 + nI 1))] [] h) : J mX8_doRules d 0 0 Q 0 0 88 [u0, u1, some (.inl v2), some (.inl v3)] [] h := by
  refine zrun 50 2 qX8_doRules (o := 8) rfl ?_
  show J mX8_doRules d 0 0 Q 0 0 47 [u0, u1, some (.inl v2), some (.inl (v3 + nI 1))] [] h
  exact k

theorem bX8_doRules_94 {d : Nat} {Q : Option MV → MH → Prop} {h : MH} {u0 u3 : Option MV} {v2 v1 : Int32} (k : J mX8_doRules d 0 0 Q 0 0 2 [u0, some (.inl v1), some (.inl (v2 + nI 1)), u3] [] h) : J mX8_doRules d 0 0 Q 0 0 94 [u0, some (.inl v1), some (.inl v2), u3] [] h := by
  refine zrun 52 2 qX8_doRules (o := 8) rfl ?_
  show J mX8_doRules d 0 0 Q 0 0 2 [u0, some (.inl v1), some (.inl (v2 + nI 1)), u3] [] h
  exact k

theorem bX8_doRules_100 {d : Nat} {Q : Option MV → MH → Prop} {h : MH} {u0 u1 u2 u3 : Option MV} (k : Q none h) : J mX8_doRules d 0 0 Q 0 0 100 [u0, u1, u2, u3] [] h := by
  exact J_vret (zat qX8_doRules 54 (by rfl)) rfl (Nat.le_refl 0) (Nat.le_refl 0) k

theorem bX8_doAct_0 {d : Nat} {Q : Option MV → MH → Prop} {h : MH} {u2 : Option MV} {v1 : Int32} (hr : zRf h) (g0 : zokO h (h.2.2.1 48 14) 5) (g1 : vp_in v1 40) (k : J mX8_doAct d 0 0 Q 0 0 19 [some (.inr (.inr 48)), some (.inl v1), some (.inl (h.1 (h.2.2.1 48 14 + 4) v1.toNatClampNeg))] [.inl (h.1 (h.2.2.1 48 14 + 3) v1.toNatClampNeg)] h) : J mX8_doAct d 0 0 Q 0 0 0 [some (.inr (.inr 48)), some (.inl v1), u2] [] h := by
  refine zrun 0 11 qX8_doAct (o := 8) rfl ?_
  show zokO h 48 8 ∧ zokO h (h.2.2.1 48 14) 5 ∧ zokA h (h.2.2.1 (h.2.2.1 48 14) 5) 20 v1 ∧ zokO h 48 8 ∧ zokO h (h.2.2.1 48 14) 5 ∧ zokA h (h.2.2.1 (h.2.2.1 48 14) 4) 20 v1 ∧ J mX8_doAct d 0 0 Q 0 0 19 [some (.inr (.inr 48)), some (.inl v1), some (.inl (h.1 (h.2.2.1 (h.2.2.1 48 14) 5) v1.toNatClampNeg))] [.inl (h.1 (h.2.2.1 (h.2.2.1 48 14) 4) v1.toNatClampNeg)] h
  rw [(show h.2.2.1 (h.2.2.1 48 14) 5 = (h.2.2.1 48 14 + 4) from (hr.f5 5 g0 (by decide))), (show h.2.2.1 (h.2.2.1 48 14) 4 = (h.2.2.1 48 14 + 3) from (hr.f5 4 g0 (by decide)))]
  exact ⟨(zo hr (by decide) rfl), g0, (zca hr g0 (by decide) (by decide) g1), (zo hr (by decide) rfl), g0, (zca hr g0 (by decide) (by decide) g1), k⟩

theorem bX8_doAct_48 {d d' : Nat} {Q : Option MV → MH → Prop} {h : MH} {u1 : Option MV} {v2 : Int32} (hr : zRf h) (hd : d' + 1 ≤ d) (k : Con mX8_stands d' 0 0 [.inr (.inr 48), .inl v2] h (zri fun (x : Int32) h' => J mX8_doAct d 0 0 Q 0 0 53 [some (.inr (.inr 48)), u1, some (.inl v2)] [.inl x] h')) : J mX8_doAct d 0 0 Q 0 0 48 [some (.inr (.inr 48)), u1, some (.inl v2)] [] h := by
  refine zrun 11 2 qX8_doAct (o := 8) rfl ?_
  show J mX8_doAct d 0 0 Q 0 0 50 [some (.inr (.inr 48)), u1, some (.inl v2)] [.inl v2, .inr (.inr 48)] h
  exact zcVi (as := [.inl v2]) (zat qX8_doAct 13 (by rfl)) l8_125 rfl hd rfl (Nat.le_of_ble_eq_true rfl) zle0 (ci := 8) (by decide) rfl (zo hr (by decide) rfl) k

theorem bX8_doAct_53 {d : Nat} {Q : Option MV → MH → Prop} {h : MH} {u0 u1 u2 : Option MV} {vs0 : Int32} (k1 : vs0 = 0 → J mX8_doAct d 0 0 Q 0 0 76 [u0, u1, u2] [] h) (k2 : ¬ vs0 = 0 → J mX8_doAct d 0 0 Q 0 0 56 [u0, u1, u2] [] h) : J mX8_doAct d 0 0 Q 0 0 53 [u0, u1, u2] [.inl vs0] h := by
  refine zrun 14 1 qX8_doAct (o := 8) rfl ?_
  show ((vs0 = 0 → J mX8_doAct d 0 0 Q 0 0 76 [u0, u1, u2] [] h) ∧ (¬ vs0 = 0 → J mX8_doAct d 0 0 Q 0 0 56 [u0, u1, u2] [] h))
  exact ⟨k1, k2⟩

theorem bX8_doAct_56 {d d' : Nat} {Q : Option MV → MH → Prop} {h : MH} {u1 : Option MV} {v2 : Int32} (hr : zRf h) (g0 : vp_in v2 8) (hd : d' + 1 ≤ d) (k : Con mX8_giveFlames d' 0 0 [.inr (.inr 48), .inl v2, .inl ((h.1 51 v2.toNatClampNeg) + (nI 1))] h (zri fun (x : Int32) h' => J mX8_doAct d 0 0 Q 0 0 69 [some (.inr (.inr 48)), u1, some (.inl v2)] [.inl x] h')) : J mX8_doAct d 0 0 Q 0 0 56 [some (.inr (.inr 48)), u1, some (.inl v2)] [] h := by
  refine zrun 15 8 qX8_doAct (o := 8) rfl ?_
  show zokO h 48 8 ∧ zokA h (h.2.2.1 48 3) 20 v2 ∧ J mX8_doAct d 0 0 Q 0 0 66 [some (.inr (.inr 48)), u1, some (.inl v2)] [.inl ((h.1 (h.2.2.1 48 3) v2.toNatClampNeg) + (nI 1)), .inl v2, .inr (.inr 48)] h
  rw [(show h.2.2.1 48 3 = 51 from (hr.at (by decide) (by decide) (by rfl)))]
  exact ⟨(zo hr (by decide) rfl), (zia hr (by decide) (by rfl) g0), zcVi (as := [.inl v2, .inl ((h.1 51 v2.toNatClampNeg) + (nI 1))]) (zat qX8_doAct 23 (by rfl)) l8_128 rfl hd rfl (Nat.le_of_ble_eq_true rfl) zle0 (ci := 8) (by decide) rfl (zo hr (by decide) rfl) k⟩

theorem bX8_doAct_69 {d : Nat} {Q : Option MV → MH → Prop} {h : MH} {u0 u1 u2 : Option MV} {vs0 : Int32} (k1 : vs0 = 0 → J mX8_doAct d 0 0 Q 0 0 76 [u0, u1, u2] [] h) (k2 : ¬ vs0 = 0 → J mX8_doAct d 0 0 Q 0 0 72 [u0, u1, u2] [] h) : J mX8_doAct d 0 0 Q 0 0 69 [u0, u1, u2] [.inl vs0] h := by
  refine zrun 24 1 qX8_doAct (o := 8) rfl ?_
  show ((vs0 = 0 → J mX8_doAct d 0 0 Q 0 0 76 [u0, u1, u2] [] h) ∧ (¬ vs0 = 0 → J mX8_doAct d 0 0 Q 0 0 72 [u0, u1, u2] [] h))
  exact ⟨k1, k2⟩

theorem bX8_doAct_72 {d : Nat} {Q : Option MV → MH → Prop} {h : MH} {u0 u1 u2 : Option MV} (k : J mX8_doAct d 0 0 Q 0 0 77 [u0, u1, u2] [.inl (nI 1)] h) : J mX8_doAct d 0 0 Q 0 0 72 [u0, u1, u2] [] h := by
  refine zrun 25 2 qX8_doAct (o := 8) rfl ?_
  show J mX8_doAct d 0 0 Q 0 0 77 [u0, u1, u2] [.inl (nI 1)] h
  exact k

theorem bX8_doAct_76 {d : Nat} {Q : Option MV → MH → Prop} {h : MH} {u0 u1 u2 : Option MV} (k : J mX8_doAct d 0 0 Q 0 0 77 [u0, u1, u2] [.inl (nI 0)] h) : J mX8_doAct d 0 0 Q 0 0 76 [u0, u1, u2] [] h := by
  refine zrun 27 1 qX8_doAct (o := 8) rfl ?_
  show J mX8_doAct d 0 0 Q 0 0 77 [u0, u1, u2] [.inl (nI 0)] h
  exact k

theorem bX8_doAct_77 {d : Nat} {Q : Option MV → MH → Prop} {h : MH} {u0 u1 u2 : Option MV} {vs0 : Int32} (gn : vs0 = 0 ∨ vs0 = 1) (k : Q (some (.inl vs0)) h) : J mX8_doAct d 0 0 Q 0 0 77 [u0, u1, u2] [.inl vs0] h := by
  exact J_iret (ty := .boolean) (zat qX8_doAct 28 (by rfl)) rfl (znz gn) (Nat.le_refl 0) (Nat.le_refl 0) k

theorem bX8_doAct_78 {d d' : Nat} {Q : Option MV → MH → Prop} {h : MH} {u1 : Option MV} {v2 : Int32} (hr : zRf h) (hd : d' + 1 ≤ d) (k : Con mX8_stands d' 0 0 [.inr (.inr 48), .inl v2] h (zri fun (x : Int32) h' => J mX8_doAct d 0 0 Q 0 0 83 [some (.inr (.inr 48)), u1, some (.inl v2)] [.inl x] h')) : J mX8_doAct d 0 0 Q 0 0 78 [some (.inr (.inr 48)), u1, some (.inl v2)] [] h := by
  refine zrun 29 2 qX8_doAct (o := 8) rfl ?_
  show J mX8_doAct d 0 0 Q 0 0 80 [some (.inr (.inr 48)), u1, some (.inl v2)] [.inl v2, .inr (.inr 48)] h
  exact zcVi (as := [.inl v2]) (zat qX8_doAct 31 (by rfl)) l8_125 rfl hd rfl (Nat.le_of_ble_eq_true rfl) zle0 (ci := 8) (by decide) rfl (zo hr (by decide) rfl) k

theorem bX8_doAct_83 {d : Nat} {Q : Option MV → MH → Prop} {h : MH} {u0 u1 u2 : Option MV} {vs0 : Int32} (k1 : vs0 = 0 → J mX8_doAct d 0 0 Q 0 0 109 [u0, u1, u2] [] h) (k2 : ¬ vs0 = 0 → J mX8_doAct d 0 0 Q 0 0 86 [u0, u1, u2] [] h) : J mX8_doAct d 0 0 Q 0 0 83 [u0, u1, u2] [.inl vs0] h := by
  refine zrun 32 1 qX8_doAct (o := 8) rfl ?_
  show ((vs0 = 0 → J mX8_doAct d 0 0 Q 0 0 109 [u0, u1, u2] [] h) ∧ (¬ vs0 = 0 → J mX8_doAct d 0 0 Q 0 0 86 [u0, u1, u2] [] h))
  exact ⟨k1, k2⟩

theorem bX8_doAct_86 {d : Nat} {Q : Option MV → MH → Prop} {h : MH} {u1 : Option MV} {v2 : Int32} (hr : zRf h) (g0 : vp_in v2 8) (k1 : (nI 2) ≤ (h.1 51 v2.toNatClampNeg) → J mX8_doAct d 0 0 Q 0 0 109 [some (.inr (.inr 48)), u1, some (.inl v2)] [] h) (k2 : ¬ (nI 2) ≤ (h.1 51 v2.toNatClampNeg) → J mX8_doAct d 0 0 Q 0 0 96 [some (.inr (.inr 48)), u1, some (.inl v2)] [] h) : J mX8_doAct d 0 0 Q 0 0 86 [some (.inr (.inr 48)), u1, some (.inl v2)] [] h := by
  refine zrun 33 6 qX8_doAct (o := 8) rfl ?_
  show zokO h 48 8 ∧ zokA h (h.2.2.1 48 3) 20 v2 ∧ (((nI 2) ≤ (h.1 (h.2.2.1 48 3) v2.toNatClampNeg) → J mX8_doAct d 0 0 Q 0 0 109 [some (.inr (.inr 48)), u1, some (.inl v2)] [] h) ∧ (¬ (nI 2) ≤ (h.1 (h.2.2.1 48 3) v2.toNatClampNeg) → J mX8_doAct d 0 0 Q 0 0 96 [some (.inr (.inr 48)), u1, some (.inl v2)] [] h))
  rw [(show h.2.2.1 48 3 = 51 from (hr.at (by decide) (by decide) (by rfl)))]
  exact ⟨(zo hr (by decide) rfl), (zia hr (by decide) (by rfl) g0), k1, k2⟩

theorem bX8_doAct_96 {d d' : Nat} {Q : Option MV → MH → Prop} {h : MH} {u1 : Option MV} {v2 : Int32} (hr : zRf h) (hd : d' + 1 ≤ d) (k : Con mX8_giveFlames d' 0 0 [.inr (.inr 48), .inl v2, .inl (nI 2)] h (zri fun (x : Int32) h' => J mX8_doAct d 0 0 Q 0 0 102 [some (.inr (.inr 48)), u1, some (.inl v2)] [.inl x] h')) : J mX8_doAct d 0 0 Q 0 0 96 [some (.inr (.inr 48)), u1, some (.inl v2)] [] h := by
  refine zrun 39 3 qX8_doAct (o := 8) rfl ?_
  show J mX8_doAct d 0 0 Q 0 0 99 [some (.inr (.inr 48)), u1, some (.inl v2)] [.inl (nI 2), .inl v2, .inr (.inr 48)] h
  exact zcVi (as := [.inl v2, .inl (nI 2)]) (zat qX8_doAct 42 (by rfl)) l8_128 rfl hd rfl (Nat.le_of_ble_eq_true rfl) zle0 (ci := 8) (by decide) rfl (zo hr (by decide) rfl) k

theorem bX8_doAct_102 {d : Nat} {Q : Option MV → MH → Prop} {h : MH} {u0 u1 u2 : Option MV} {vs0 : Int32} (k1 : vs0 = 0 → J mX8_doAct d 0 0 Q 0 0 109 [u0, u1, u2] [] h) (k2 : ¬ vs0 = 0 → J mX8_doAct d 0 0 Q 0 0 105 [u0, u1, u2] [] h) : J mX8_doAct d 0 0 Q 0 0 102 [u0, u1, u2] [.inl vs0] h := by
  refine zrun 43 1 qX8_doAct (o := 8) rfl ?_
  show ((vs0 = 0 → J mX8_doAct d 0 0 Q 0 0 109 [u0, u1, u2] [] h) ∧ (¬ vs0 = 0 → J mX8_doAct d 0 0 Q 0 0 105 [u0, u1, u2] [] h))
  exact ⟨k1, k2⟩

theorem bX8_doAct_105 {d : Nat} {Q : Option MV → MH → Prop} {h : MH} {u0 u1 u2 : Option MV} (k : J mX8_doAct d 0 0 Q 0 0 110 [u0, u1, u2] [.inl (nI 1)] h) : J mX8_doAct d 0 0 Q 0 0 105 [u0, u1, u2] [] h := by
  refine zrun 44 2 qX8_doAct (o := 8) rfl ?_
  show J mX8_doAct d 0 0 Q 0 0 110 [u0, u1, u2] [.inl (nI 1)] h
  exact k

theorem bX8_doAct_109 {d : Nat} {Q : Option MV → MH → Prop} {h : MH} {u0 u1 u2 : Option MV} (k : J mX8_doAct d 0 0 Q 0 0 110 [u0, u1, u2] [.inl (nI 0)] h) : J mX8_doAct d 0 0 Q 0 0 109 [u0, u1, u2] [] h := by
  refine zrun 46 1 qX8_doAct (o := 8) rfl ?_
  show J mX8_doAct d 0 0 Q 0 0 110 [u0, u1, u2] [.inl (nI 0)] h
  exact k

theorem bX8_doAct_110 {d : Nat} {Q : Option MV → MH → Prop} {h : MH} {u0 u1 u2 : Option MV} {vs0 : Int32} (gn : vs0 = 0 ∨ vs0 = 1) (k : Q (some (.inl vs0)) h) : J mX8_doAct d 0 0 Q 0 0 110 [u0, u1, u2] [.inl vs0] h := by
  exact J_iret (ty := .boolean) (zat qX8_doAct 47 (by rfl)) rfl (znz gn) (Nat.le_refl 0) (Nat.le_refl 0) k

theorem bX8_doAct_111 {d d' : Nat} {Q : Option MV → MH → Prop} {h : MH} {u1 : Option MV} {v2 : Int32} (hr : zRf h) (hd : d' + 1 ≤ d) (k : Con mX8_stands d' 0 0 [.inr (.inr 48), .inl v2] h (zri fun (x : Int32) h' => J mX8_doAct d 0 0 Q 0 0 116 [some (.inr (.inr 48)), u1, some (.inl v2)] [.inl x] h')) : J mX8_doAct d 0 0 Q 0 0 111 [some (.inr (.inr 48)), u1, some (.inl v2)] [] h := by
  refine zrun 48 2 qX8_doAct (o := 8) rfl ?_
  show J mX8_doAct d 0 0 Q 0 0 113 [some (.inr (.inr 48)), u1, some (.inl v2)] [.inl v2, .inr (.inr 48)] h
  exact zcVi (as := [.inl v2]) (zat qX8_doAct 50 (by rfl)) l8_125 rfl hd rfl (Nat.le_of_ble_eq_true rfl) zle0 (ci := 8) (by decide) rfl (zo hr (by decide) rfl) k

theorem bX8_doAct_116 {d : Nat} {Q : Option MV → MH → Prop} {h : MH} {u0 u1 u2 : Option MV} {vs0 : Int32} (k1 : vs0 = 0 → J mX8_doAct d 0 0 Q 0 0 141 [u0, u1, u2] [] h) (k2 : ¬ vs0 = 0 → J mX8_doAct d 0 0 Q 0 0 119 [u0, u1, u2] [] h) : J mX8_doAct d 0 0 Q 0 0 116 [u0, u1, u2] [.inl vs0] h := by
  refine zrun 51 1 qX8_doAct (o := 8) rfl ?_
  show ((vs0 = 0 → J mX8_doAct d 0 0 Q 0 0 141 [u0, u1, u2] [] h) ∧ (¬ vs0 = 0 → J mX8_doAct d 0 0 Q 0 0 119 [u0, u1, u2] [] h))
  exact ⟨k1, k2⟩

theorem bX8_doAct_119 {d : Nat} {Q : Option MV → MH → Prop} {h : MH} {u1 : Option MV} {v2 : Int32} (hr : zRf h) (g0 : vp_in v2 8) (k1 : (h.1 51 v2.toNatClampNeg) ≤ 0 → J mX8_doAct d 0 0 Q 0 0 141 [some (.inr (.inr 48)), u1, some (.inl v2)] [] h) (k2 : ¬ (h.1 51 v2.toNatClampNeg) ≤ 0 → J mX8_doAct d 0 0 Q 0 0 128 [some (.inr (.inr 48)), u1, some (.inl v2)] [] h) : J mX8_doAct d 0 0 Q 0 0 119 [some (.inr (.inr 48)), u1, some (.inl v2)] [] h := by
  refine zrun 52 5 qX8_doAct (o := 8) rfl ?_
  show zokO h 48 8 ∧ zokA h (h.2.2.1 48 3) 20 v2 ∧ (((h.1 (h.2.2.1 48 3) v2.toNatClampNeg) ≤ 0 → J mX8_doAct d 0 0 Q 0 0 141 [some (.inr (.inr 48)), u1, some (.inl v2)] [] h) ∧ (¬ (h.1 (h.2.2.1 48 3) v2.toNatClampNeg) ≤ 0 → J mX8_doAct d 0 0 Q 0 0 128 [some (.inr (.inr 48)), u1, some (.inl v2)] [] h))
  rw [(show h.2.2.1 48 3 = 51 from (hr.at (by decide) (by decide) (by rfl)))]
  exact ⟨(zo hr (by decide) rfl), (zia hr (by decide) (by rfl) g0), k1, k2⟩

theorem bX8_doAct_128 {d d' : Nat} {Q : Option MV → MH → Prop} {h : MH} {u1 : Option MV} {v2 : Int32} (hr : zRf h) (hd : d' + 1 ≤ d) (k : Con mX8_giveFlames d' 0 0 [.inr (.inr 48), .inl v2, .inl (nI 0)] h (zri fun (x : Int32) h' => J mX8_doAct d 0 0 Q 0 0 134 [some (.inr (.inr 48)), u1, some (.inl v2)] [.inl x] h')) : J mX8_doAct d 0 0 Q 0 0 128 [some (.inr (.inr 48)), u1, some (.inl v2)] [] h := by
  refine zrun 57 3 qX8_doAct (o := 8) rfl ?_
  show J mX8_doAct d 0 0 Q 0 0 131 [some (.inr (.inr 48)), u1, some (.inl v2)] [.inl (nI 0), .inl v2, .inr (.inr 48)] h
  exact zcVi (as := [.inl v2, .inl (nI 0)]) (zat qX8_doAct 60 (by rfl)) l8_128 rfl hd rfl (Nat.le_of_ble_eq_true rfl) zle0 (ci := 8) (by decide) rfl (zo hr (by decide) rfl) k

theorem bX8_doAct_134 {d : Nat} {Q : Option MV → MH → Prop} {h : MH} {u0 u1 u2 : Option MV} {vs0 : Int32} (k1 : vs0 = 0 → J mX8_doAct d 0 0 Q 0 0 141 [u0, u1, u2] [] h) (k2 : ¬ vs0 = 0 → J mX8_doAct d 0 0 Q 0 0 137 [u0, u1, u2] [] h) : J mX8_doAct d 0 0 Q 0 0 134 [u0, u1, u2] [.inl vs0] h := by
  refine zrun 61 1 qX8_doAct (o := 8) rfl ?_
  show ((vs0 = 0 → J mX8_doAct d 0 0 Q 0 0 141 [u0, u1, u2] [] h) ∧ (¬ vs0 = 0 → J mX8_doAct d 0 0 Q 0 0 137 [u0, u1, u2] [] h))
  exact ⟨k1, k2⟩

theorem bX8_doAct_137 {d : Nat} {Q : Option MV → MH → Prop} {h : MH} {u0 u1 u2 : Option MV} (k : J mX8_doAct d 0 0 Q 0 0 142 [u0, u1, u2] [.inl (nI 1)] h) : J mX8_doAct d 0 0 Q 0 0 137 [u0, u1, u2] [] h := by
  refine zrun 62 2 qX8_doAct (o := 8) rfl ?_
  show J mX8_doAct d 0 0 Q 0 0 142 [u0, u1, u2] [.inl (nI 1)] h
  exact k

theorem bX8_doAct_141 {d : Nat} {Q : Option MV → MH → Prop} {h : MH} {u0 u1 u2 : Option MV} (k : J mX8_doAct d 0 0 Q 0 0 142 [u0, u1, u2] [.inl (nI 0)] h) : J mX8_doAct d 0 0 Q 0 0 141 [u0, u1, u2] [] h := by
  refine zrun 64 1 qX8_doAct (o := 8) rfl ?_
  show J mX8_doAct d 0 0 Q 0 0 142 [u0, u1, u2] [.inl (nI 0)] h
  exact k

theorem bX8_doAct_142 {d : Nat} {Q : Option MV → MH → Prop} {h : MH} {u0 u1 u2 : Option MV} {vs0 : Int32} (gn : vs0 = 0 ∨ vs0 = 1) (k : Q (some (.inl vs0)) h) : J mX8_doAct d 0 0 Q 0 0 142 [u0, u1, u2] [.inl vs0] h := by
  exact J_iret (ty := .boolean) (zat qX8_doAct 65 (by rfl)) rfl (znz gn) (Nat.le_refl 0) (Nat.le_refl 0) k

theorem bX8_doAct_143 {d d' : Nat} {Q : Option MV → MH → Prop} {h : MH} {v2 v1 : Int32} (hr : zRf h) (g0 : zokO h (h.2.2.1 48 14) 5) (g1 : vp_in v1 40) (hd : d' + 1 ≤ d) (k : Con mX8_join d' 0 0 [.inr (.inr 48), .inl v2, .inl (h.1 (h.2.2.1 48 14 + 5) v1.toNatClampNeg)] h (zri fun (x : Int32) h' => J mX8_doAct d 0 0 Q 0 0 157 [some (.inr (.inr 48)), some (.inl v1), some (.inl v2)] [.inl x] h')) : J mX8_doAct d 0 0 Q 0 0 143 [some (.inr (.inr 48)), some (.inl v1), some (.inl v2)] [] h := by
  refine zrun 66 7 qX8_doAct (o := 8) rfl ?_
  show zokO h 48 8 ∧ zokO h (h.2.2.1 48 14) 5 ∧ zokA h (h.2.2.1 (h.2.2.1 48 14) 6) 20 v1 ∧ J mX8_doAct d 0 0 Q 0 0 154 [some (.inr (.inr 48)), some (.inl v1), some (.inl v2)] [.inl (h.1 (h.2.2.1 (h.2.2.1 48 14) 6) v1.toNatClampNeg), .inl v2, .inr (.inr 48)] h
  rw [(show h.2.2.1 (h.2.2.1 48 14) 6 = (h.2.2.1 48 14 + 5) from (hr.f5 6 g0 (by decide)))]
  exact ⟨(zo hr (by decide) rfl), g0, (zca hr g0 (by decide) (by decide) g1), zcVi (as := [.inl v2, .inl (h.1 (h.2.2.1 48 14 + 5) v1.toNatClampNeg)]) (zat qX8_doAct 73 (by rfl)) l8_135 rfl hd rfl (Nat.le_of_ble_eq_true rfl) zle0 (ci := 8) (by decide) rfl (zo hr (by decide) rfl) k⟩

theorem bX8_doAct_157 {d : Nat} {Q : Option MV → MH → Prop} {h : MH} {u0 u1 u2 : Option MV} {vs0 : Int32} (gn : vs0 = 0 ∨ vs0 = 1) (k : Q (some (.inl vs0)) h) : J mX8_doAct d 0 0 Q 0 0 157 [u0, u1, u2] [.inl vs0] h := by
  exact J_iret (ty := .boolean) (zat qX8_doAct 74 (by rfl)) rfl (znz gn) (Nat.le_refl 0) (Nat.le_refl 0) k

theorem bX8_doAct_158 {d d' : Nat} {Q : Option MV → MH → Prop} {h : MH} {u1 u2 : Option MV} (hr : zRf h) (hd : d' + 1 ≤ d) (k : Con mX8_ring d' 0 0 [.inr (.inr 48)] h (zrv fun h' => J mX8_doAct d 0 0 Q 0 0 162 [some (.inr (.inr 48)), u1, u2] [] h')) : J mX8_doAct d 0 0 Q 0 0 158 [some (.inr (.inr 48)), u1, u2] [] h := by
  refine zrun 75 1 qX8_doAct (o := 8) rfl ?_
  show J mX8_doAct d 0 0 Q 0 0 159 [some (.inr (.inr 48)), u1, u2] [.inr (.inr 48)] h
  exact zcVv (as := []) (zat qX8_doAct 76 (by rfl)) l8_138 rfl hd rfl (Nat.le_of_ble_eq_true rfl) zle0 (ci := 8) (by decide) rfl (zo hr (by decide) rfl) k

theorem bX8_doAct_162 {d : Nat} {Q : Option MV → MH → Prop} {h : MH} {u0 u1 u2 : Option MV} (k : Q (some (.inl (nI 1))) h) : J mX8_doAct d 0 0 Q 0 0 162 [u0, u1, u2] [] h := by
  refine zrun 77 1 qX8_doAct (o := 8) rfl ?_
  show J mX8_doAct d 0 0 Q 0 0 163 [u0, u1, u2] [.inl (nI 1)] h
  exact J_iret (ty := .boolean) (zat qX8_doAct 78 (by rfl)) rfl (by decide) (Nat.le_refl 0) (Nat.le_refl 0) k

theorem bX8_stands_0 {d : Nat} {Q : Option MV → MH → Prop} {h : MH} {u0 : Option MV} {v1 : Int32} (k1 : v1 < 0 → J mX8_stands d 0 0 Q 0 0 25 [u0, some (.inl v1)] [] h) (k2 : ¬ v1 < 0 → J mX8_stands d 0 0 Q 0 0 4 [u0, some (.inl v1)] [] h) : J mX8_stands d 0 0 Q 0 0 0 [u0, some (.inl v1)] [] h := by
  refine zrun 0 2 qX8_stands (o := 8) rfl ?_
  show ((v1 < 0 → J mX8_stands d 0 0 Q 0 0 25 [u0, some (.inl v1)] [] h) ∧ (¬ v1 < 0 → J mX8_stands d 0 0 Q 0 0 4 [u0, some (.inl v1)] [] h))
  exact ⟨k1, k2⟩

theorem bX8_stands_4 {d : Nat} {Q : Option MV → MH → Prop} {h : MH} {v1 : Int32} (hr : zRf h) (k1 : (h.1 48 0) ≤ v1 → J mX8_stands d 0 0 Q 0 0 25 [some (.inr (.inr 48)), some (.inl v1)] [] h) (k2 : ¬ (h.1 48 0) ≤ v1 → J mX8_stands d 0 0 Q 0 0 12 [some (.inr (.inr 48)), some (.inl v1)] [] h) : J mX8_stands d 0 0 Q 0 0 4 [some (.inr (.inr 48)), some (.inl v1)] [] h := by
  refine zrun 2 4 qX8_stands (o := 8) rfl ?_
  show zokO h 48 8 ∧ (((h.1 48 0) ≤ v1 → J mX8_stands d 0 0 Q 0 0 25 [some (.inr (.inr 48)), some (.inl v1)] [] h) ∧ (¬ (h.1 48 0) ≤ v1 → J mX8_stands d 0 0 Q 0 0 12 [some (.inr (.inr 48)), some (.inl v1)] [] h))
  exact ⟨(zo hr (by decide) rfl), k1, k2⟩

theorem bX8_stands_12 {d : Nat} {Q : Option MV → MH → Prop} {h : MH} {v1 : Int32} (hr : zRf h) (g0 : vp_in v1 8) (k1 : (h.1 50 v1.toNatClampNeg) ≤ 0 → J mX8_stands d 0 0 Q 0 0 25 [some (.inr (.inr 48)), some (.inl v1)] [] h) (k2 : ¬ (h.1 50 v1.toNatClampNeg) ≤ 0 → J mX8_stands d 0 0 Q 0 0 21 [some (.inr (.inr 48)), some (.inl v1)] [] h) : J mX8_stands d 0 0 Q 0 0 12 [some (.inr (.inr 48)), some (.inl v1)] [] h := by
  refine zrun 6 5 qX8_stands (o := 8) rfl ?_
  show zokO h 48 8 ∧ zokA h (h.2.2.1 48 2) 20 v1 ∧ (((h.1 (h.2.2.1 48 2) v1.toNatClampNeg) ≤ 0 → J mX8_stands d 0 0 Q 0 0 25 [some (.inr (.inr 48)), some (.inl v1)] [] h) ∧ (¬ (h.1 (h.2.2.1 48 2) v1.toNatClampNeg) ≤ 0 → J mX8_stands d 0 0 Q 0 0 21 [some (.inr (.inr 48)), some (.inl v1)] [] h))
  rw [(show h.2.2.1 48 2 = 50 from (hr.at (by decide) (by decide) (by rfl)))]
  exact ⟨(zo hr (by decide) rfl), (zia hr (by decide) (by rfl) g0), k1, k2⟩

theorem bX8_stands_21 {d : Nat} {Q : Option MV → MH → Prop} {h : MH} {u0 u1 : Option MV} (k : J mX8_stands d 0 0 Q 0 0 26 [u0, u1] [.inl (nI 1)] h) : J mX8_stands d 0 0 Q 0 0 21 [u0, u1] [] h := by
  refine zrun 11 2 qX8_stands (o := 8) rfl ?_
  show J mX8_stands d 0 0 Q 0 0 26 [u0, u1] [.inl (nI 1)] h
  exact k

theorem bX8_stands_25 {d : Nat} {Q : Option MV → MH → Prop} {h : MH} {u0 u1 : Option MV} (k : J mX8_stands d 0 0 Q 0 0 26 [u0, u1] [.inl (nI 0)] h) : J mX8_stands d 0 0 Q 0 0 25 [u0, u1] [] h := by
  refine zrun 13 1 qX8_stands (o := 8) rfl ?_
  show J mX8_stands d 0 0 Q 0 0 26 [u0, u1] [.inl (nI 0)] h
  exact k

theorem bX8_stands_26 {d : Nat} {Q : Option MV → MH → Prop} {h : MH} {u0 u1 : Option MV} {vs0 : Int32} (gn : vs0 = 0 ∨ vs0 = 1) (k : Q (some (.inl vs0)) h) : J mX8_stands d 0 0 Q 0 0 26 [u0, u1] [.inl vs0] h := by
  exact J_iret (ty := .boolean) (zat qX8_stands 14 (by rfl)) rfl (znz gn) (Nat.le_refl 0) (Nat.le_refl 0) k

theorem bX8_giveFlames_0 {d : Nat} {Q : Option MV → MH → Prop} {h : MH} {u0 u1 : Option MV} {v2 : Int32} (k1 : v2 ≤ (nI 2) → J mX8_giveFlames d 0 0 Q 0 0 7 [u0, u1, some (.inl v2)] [] h) (k2 : ¬ v2 ≤ (nI 2) → J mX8_giveFlames d 0 0 Q 0 0 5 [u0, u1, some (.inl v2)] [] h) : J mX8_giveFlames d 0 0 Q 0 0 0 [u0, u1, some (.inl v2)] [] h := by
  refine zrun 0 3 qX8_giveFlames (o := 8) rfl ?_
  show ((v2 ≤ (nI 2) → J mX8_giveFlames d 0 0 Q 0 0 7 [u0, u1, some (.inl v2)] [] h) ∧ (¬ v2 ≤ (nI 2) → J mX8_giveFlames d 0 0 Q 0 0 5 [u0, u1, some (.inl v2)] [] h))
  exact ⟨k1, k2⟩

theorem bX8_giveFlames_5 {d : Nat} {Q : Option MV → MH → Prop} {h : MH} {u0 u1 u2 : Option MV} (k : Q (some (.inl (nI 0))) h) : J mX8_giveFlames d 0 0 Q 0 0 5 [u0, u1, u2] [] h := by
  refine zrun 3 1 qX8_giveFlames (o := 8) rfl ?_
  show J mX8_giveFlames d 0 0 Q 0 0 6 [u0, u1, u2] [.inl (nI 0)] h
  exact J_iret (ty := .boolean) (zat qX8_giveFlames 4 (by rfl)) rfl (by decide) (Nat.le_refl 0) (Nat.le_refl 0) k

theorem bX8_giveFlames_7 {d : Nat} {Q : Option MV → MH → Prop} {h : MH} {v2 v1 : Int32} (hr : zRf h) (g0 : vp_in v1 8) (hd : 1 ≤ d) (k : J mX8_giveFlames d 0 0 Q 0 0 24 [some (.inr (.inr 48)), some (.inl v1), some (.inl v2)] [.inl (if (nI 0) < (v2 - (h.1 51 v1.toNatClampNeg)) then (v2 - (h.1 51 v1.toNatClampNeg)) else (nI 0)), .inl (h.1 48 12), .inr (.inr 48)] h) : J mX8_giveFlames d 0 0 Q 0 0 7 [some (.inr (.inr 48)), some (.inl v1), some (.inl v2)] [] h := by
  refine zrun 5 10 qX8_giveFlames (o := 8) rfl ?_
  show zokO h 48 8 ∧ zokO h 48 8 ∧ zokA h (h.2.2.1 48 3) 20 v1 ∧ J mX8_giveFlames d 0 0 Q 0 0 21 [some (.inr (.inr 48)), some (.inl v1), some (.inl v2)] [.inl (v2 - (h.1 (h.2.2.1 48 3) v1.toNatClampNeg)), .inl (nI 0), .inl (h.1 48 12), .inr (.inr 48)] h
  rw [(show h.2.2.1 48 3 = 51 from (hr.at (by decide) (by decide) (by rfl)))]
  exact ⟨(zo hr (by decide) rfl), (zo hr (by decide) rfl), (zia hr (by decide) (by rfl) g0), zmax (zat qX8_giveFlames 15 (by rfl)) mm8_71 rfl hd (Nat.le_of_ble_eq_true rfl) zle0 k⟩

theorem bX8_giveFlames_24 {d : Nat} {Q : Option MV → MH → Prop} {h : MH} {vs1 vs2 v1 v2 : Int32} (hr : zRf h) (g0 : vp_in v1 8) (k : Q (some (.inl (nI 1))) (zsI (zsI h 48 12 (vs1 + vs2)) 51 v1.toNatClampNeg v2)) : J mX8_giveFlames d 0 0 Q 0 0 24 [some (.inr (.inr 48)), some (.inl v1), some (.inl v2)] [.inl vs2, .inl vs1, .inr (.inr 48)] h := by
  refine zrun 16 8 qX8_giveFlames (o := 8) rfl ?_
  show zokO h 48 8 ∧ zokO (zsI h 48 12 (vs1 + vs2)) 48 8 ∧ zokA (zsI h 48 12 (vs1 + vs2)) (h.2.2.1 48 3) 20 v1 ∧ J mX8_giveFlames d 0 0 Q 0 0 36 [some (.inr (.inr 48)), some (.inl v1), some (.inl v2)] [.inl (nI 1)] (zsI (zsI h 48 12 (vs1 + vs2)) (h.2.2.1 48 3) v1.toNatClampNeg v2)
  rw [(show h.2.2.1 48 3 = 51 from (hr.at (by decide) (by decide) (by rfl)))]
  exact ⟨(zo hr (by decide) rfl), (zo hr (by decide) rfl), (zia hr (by decide) (by rfl) g0), J_iret (ty := .boolean) (zat qX8_giveFlames 24 (by rfl)) rfl (by decide) (Nat.le_refl 0) (Nat.le_refl 0) k⟩

theorem bX8_join_0 {d d' : Nat} {Q : Option MV → MH → Prop} {h : MH} {u2 : Option MV} {v1 : Int32} (hr : zRf h) (hd : d' + 1 ≤ d) (k : Con mX8_stands d' 0 0 [.inr (.inr 48), .inl v1] h (zri fun (x : Int32) h' => J mX8_join d 0 0 Q 0 0 5 [some (.inr (.inr 48)), some (.inl v1), u2] [.inl x] h')) : J mX8_join d 0 0 Q 0 0 0 [some (.inr (.inr 48)), some (.inl v1), u2] [] h := by
  refine zrun 0 2 qX8_join (o := 8) rfl ?_
  show J mX8_join d 0 0 Q 0 0 2 [some (.inr (.inr 48)), some (.inl v1), u2] [.inl v1, .inr (.inr 48)] h
  exact zcVi (as := [.inl v1]) (zat qX8_join 2 (by rfl)) l8_125 rfl hd rfl (Nat.le_of_ble_eq_true rfl) zle0 (ci := 8) (by decide) rfl (zo hr (by decide) rfl) k

theorem bX8_join_5 {d : Nat} {Q : Option MV → MH → Prop} {h : MH} {u0 u1 u2 : Option MV} {vs0 : Int32} (k1 : vs0 = 0 → J mX8_join d 0 0 Q 0 0 39 [u0, u1, u2] [] h) (k2 : ¬ vs0 = 0 → J mX8_join d 0 0 Q 0 0 8 [u0, u1, u2] [] h) : J mX8_join d 0 0 Q 0 0 5 [u0, u1, u2] [.inl vs0] h := by
  refine zrun 3 1 qX8_join (o := 8) rfl ?_
  show ((vs0 = 0 → J mX8_join d 0 0 Q 0 0 39 [u0, u1, u2] [] h) ∧ (¬ vs0 = 0 → J mX8_join d 0 0 Q 0 0 8 [u0, u1, u2] [] h))
  exact ⟨k1, k2⟩

theorem bX8_join_8 {d d' : Nat} {Q : Option MV → MH → Prop} {h : MH} {u1 : Option MV} {v2 : Int32} (hr : zRf h) (hd : d' + 1 ≤ d) (k : Con mX8_stands d' 0 0 [.inr (.inr 48), .inl v2] h (zri fun (x : Int32) h' => J mX8_join d 0 0 Q 0 0 13 [some (.inr (.inr 48)), u1, some (.inl v2)] [.inl x] h')) : J mX8_join d 0 0 Q 0 0 8 [some (.inr (.inr 48)), u1, some (.inl v2)] [] h := by
  refine zrun 4 2 qX8_join (o := 8) rfl ?_
  show J mX8_join d 0 0 Q 0 0 10 [some (.inr (.inr 48)), u1, some (.inl v2)] [.inl v2, .inr (.inr 48)] h
  exact zcVi (as := [.inl v2]) (zat qX8_join 6 (by rfl)) l8_125 rfl hd rfl (Nat.le_of_ble_eq_true rfl) zle0 (ci := 8) (by decide) rfl (zo hr (by decide) rfl) k

theorem bX8_join_13 {d : Nat} {Q : Option MV → MH → Prop} {h : MH} {u0 u1 u2 : Option MV} {vs0 : Int32} (k1 : vs0 = 0 → J mX8_join d 0 0 Q 0 0 39 [u0, u1, u2] [] h) (k2 : ¬ vs0 = 0 → J mX8_join d 0 0 Q 0 0 16 [u0, u1, u2] [] h) : J mX8_join d 0 0 Q 0 0 13 [u0, u1, u2] [.inl vs0] h := by
  refine zrun 7 1 qX8_join (o := 8) rfl ?_
  show ((vs0 = 0 → J mX8_join d 0 0 Q 0 0 39 [u0, u1, u2] [] h) ∧ (¬ vs0 = 0 → J mX8_join d 0 0 Q 0 0 16 [u0, u1, u2] [] h))
  exact ⟨k1, k2⟩

theorem bX8_join_16 {d : Nat} {Q : Option MV → MH → Prop} {h : MH} {u0 : Option MV} {v1 v2 : Int32} (k1 : v1 = v2 → J mX8_join d 0 0 Q 0 0 39 [u0, some (.inl v1), some (.inl v2)] [] h) (k2 : ¬ v1 = v2 → J mX8_join d 0 0 Q 0 0 21 [u0, some (.inl v1), some (.inl v2)] [] h) : J mX8_join d 0 0 Q 0 0 16 [u0, some (.inl v1), some (.inl v2)] [] h := by
  refine zrun 8 3 qX8_join (o := 8) rfl ?_
  show ((v1 = v2 → J mX8_join d 0 0 Q 0 0 39 [u0, some (.inl v1), some (.inl v2)] [] h) ∧ (¬ v1 = v2 → J mX8_join d 0 0 Q 0 0 21 [u0, some (.inl v1), some (.inl v2)] [] h))
  exact ⟨k1, k2⟩

theorem bX8_join_21 {d : Nat} {Q : Option MV → MH → Prop} {h : MH} {u2 : Option MV} {v1 : Int32} (hr : zRf h) (g0 : vp_in v1 8) (k1 : 0 < (h.1 51 v1.toNatClampNeg) → J mX8_join d 0 0 Q 0 0 39 [some (.inr (.inr 48)), some (.inl v1), u2] [] h) (k2 : ¬ 0 < (h.1 51 v1.toNatClampNeg) → J mX8_join d 0 0 Q 0 0 30 [some (.inr (.inr 48)), some (.inl v1), u2] [] h) : J mX8_join d 0 0 Q 0 0 21 [some (.inr (.inr 48)), some (.inl v1), u2] [] h := by
  refine zrun 11 5 qX8_join (o := 8) rfl ?_
  show zokO h 48 8 ∧ zokA h (h.2.2.1 48 3) 20 v1 ∧ ((0 < (h.1 (h.2.2.1 48 3) v1.toNatClampNeg) → J mX8_join d 0 0 Q 0 0 39 [some (.inr (.inr 48)), some (.inl v1), u2] [] h) ∧ (¬ 0 < (h.1 (h.2.2.1 48 3) v1.toNatClampNeg) → J mX8_join d 0 0 Q 0 0 30 [some (.inr (.inr 48)), some (.inl v1), u2] [] h))
  rw [(show h.2.2.1 48 3 = 51 from (hr.at (by decide) (by decide) (by rfl)))]
  exact ⟨(zo hr (by decide) rfl), (zia hr (by decide) (by rfl) g0), k1, k2⟩

theorem bX8_join_30 {d : Nat} {Q : Option MV → MH → Prop} {h : MH} {u1 : Option MV} {v2 : Int32} (hr : zRf h) (g0 : vp_in v2 8) (k1 : (h.1 51 v2.toNatClampNeg) ≤ 0 → J mX8_join d 0 0 Q 0 0 41 [some (.inr (.inr 48)), u1, some (.inl v2)] [] h) (k2 : ¬ (h.1 51 v2.toNatClampNeg) ≤ 0 → J mX8_join d 0 0 Q 0 0 39 [some (.inr (.inr 48)), u1, some (.inl v2)] [] h) : J mX8_join d 0 0 Q 0 0 30 [some (.inr (.inr 48)), u1, some (.inl v2)] [] h := by
  refine zrun 16 5 qX8_join (o := 8) rfl ?_
  show zokO h 48 8 ∧ zokA h (h.2.2.1 48 3) 20 v2 ∧ (((h.1 (h.2.2.1 48 3) v2.toNatClampNeg) ≤ 0 → J mX8_join d 0 0 Q 0 0 41 [some (.inr (.inr 48)), u1, some (.inl v2)] [] h) ∧ (¬ (h.1 (h.2.2.1 48 3) v2.toNatClampNeg) ≤ 0 → J mX8_join d 0 0 Q 0 0 39 [some (.inr (.inr 48)), u1, some (.inl v2)] [] h))
  rw [(show h.2.2.1 48 3 = 51 from (hr.at (by decide) (by decide) (by rfl)))]
  exact ⟨(zo hr (by decide) rfl), (zia hr (by decide) (by rfl) g0), k1, k2⟩

theorem bX8_join_39 {d : Nat} {Q : Option MV → MH → Prop} {h : MH} {u0 u1 u2 : Option MV} (k : Q (some (.inl (nI 0))) h) : J mX8_join d 0 0 Q 0 0 39 [u0, u1, u2] [] h := by
  refine zrun 21 1 qX8_join (o := 8) rfl ?_
  show J mX8_join d 0 0 Q 0 0 40 [u0, u1, u2] [.inl (nI 0)] h
  exact J_iret (ty := .boolean) (zat qX8_join 22 (by rfl)) rfl (by decide) (Nat.le_refl 0) (Nat.le_refl 0) k

theorem bX8_join_41 {d : Nat} {Q : Option MV → MH → Prop} {h : MH} {v1 v2 : Int32} (hr : zRf h) (g0 : vp_in v1 8) (g1 : vp_in v2 8) (g2 : vp_in ((zsI (zsI h 50 v1.toNatClampNeg ((h.1 50 v1.toNatClampNeg) + (h.1 50 v2.toNatClampNeg))) 50 v2.toNatClampNeg (nI 0)).1 54 v1.toNatClampNeg) 8) (k : Q (some (.inl (nI 1))) (zsI (zsI (zsI (zsI h 50 v1.toNatClampNeg ((h.1 50 v1.toNatClampNeg) + (h.1 50 v2.toNatClampNeg))) 50 v2.toNatClampNeg (nI 0)) 53 ((zsI (zsI h 50 v1.toNatClampNeg ((h.1 50 v1.toNatClampNeg) + (h.1 50 v2.toNatClampNeg))) 50 v2.toNatClampNeg (nI 0)).1 54 v1.toNatClampNeg).toNatClampNeg v2) 54 v1.toNatClampNeg ((zsI (zsI (zsI h 50 v1.toNatClampNeg ((h.1 50 v1.toNatClampNeg) + (h.1 50 v2.toNatClampNeg))) 50 v2.toNatClampNeg (nI 0)) 53 ((zsI (zsI h 50 v1.toNatClampNeg ((h.1 50 v1.toNatClampNeg) + (h.1 50 v2.toNatClampNeg))) 50 v2.toNatClampNeg (nI 0)).1 54 v1.toNatClampNeg).toNatClampNeg v2).1 54 v2.toNatClampNeg))) : J mX8_join d 0 0 Q 0 0 41 [some (.inr (.inr 48)), some (.inl v1), some (.inl v2)] [] h := by
  refine zrun 23 33 qX8_join (o := 8) rfl ?_
  show zokO h 48 8 ∧ zokA h (h.2.2.1 48 2) 20 v1 ∧ zokO h 48 8 ∧ zokA h (h.2.2.1 48 2) 20 v2 ∧ zokA h (h.2.2.1 48 2) 20 v1 ∧ zokO (zsI h (h.2.2.1 48 2) v1.toNatClampNeg ((h.1 (h.2.2.1 48 2) v1.toNatClampNeg) + (h.1 (h.2.2.1 48 2) v2.toNatClampNeg))) 48 8 ∧ zokA (zsI h (h.2.2.1 48 2) v1.toNatClampNeg ((h.1 (h.2.2.1 48 2) v1.toNatClampNeg) + (h.1 (h.2.2.1 48 2) v2.toNatClampNeg))) (h.2.2.1 48 2) 20 v2 ∧ zokO (zsI (zsI h (h.2.2.1 48 2) v1.toNatClampNeg ((h.1 (h.2.2.1 48 2) v1.toNatClampNeg) + (h.1 (h.2.2.1 48 2) v2.toNatClampNeg))) (h.2.2.1 48 2) v2.toNatClampNeg (nI 0)) 48 8 ∧ zokO (zsI (zsI h (h.2.2.1 48 2) v1.toNatClampNeg ((h.1 (h.2.2.1 48 2) v1.toNatClampNeg) + (h.1 (h.2.2.1 48 2) v2.toNatClampNeg))) (h.2.2.1 48 2) v2.toNatClampNeg (nI 0)) 48 8 ∧ zokA (zsI (zsI h (h.2.2.1 48 2) v1.toNatClampNeg ((h.1 (h.2.2.1 48 2) v1.toNatClampNeg) + (h.1 (h.2.2.1 48 2) v2.toNatClampNeg))) (h.2.2.1 48 2) v2.toNatClampNeg (nI 0)) (h.2.2.1 48 6) 20 v1 ∧ zokA (zsI (zsI h (h.2.2.1 48 2) v1.toNatClampNeg ((h.1 (h.2.2.1 48 2) v1.toNatClampNeg) + (h.1 (h.2.2.1 48 2) v2.toNatClampNeg))) (h.2.2.1 48 2) v2.toNatClampNeg (nI 0)) (h.2.2.1 48 5) 20 ((zsI (zsI h (h.2.2.1 48 2) v1.toNatClampNeg ((h.1 (h.2.2.1 48 2) v1.toNatClampNeg) + (h.1 (h.2.2.1 48 2) v2.toNatClampNeg))) (h.2.2.1 48 2) v2.toNatClampNeg (nI 0)).1 (h.2.2.1 48 6) v1.toNatClampNeg) ∧ zokO (zsI (zsI (zsI h (h.2.2.1 48 2) v1.toNatClampNeg ((h.1 (h.2.2.1 48 2) v1.toNatClampNeg) + (h.1 (h.2.2.1 48 2) v2.toNatClampNeg))) (h.2.2.1 48 2) v2.toNatClampNeg (nI 0)) (h.2.2.1 48 5) ((zsI (zsI h (h.2.2.1 48 2) v1.toNatClampNeg ((h.1 (h.2.2.1 48 2) v1.toNatClampNeg) + (h.1 (h.2.2.1 48 2) v2.toNatClampNeg))) (h.2.2.1 48 2) v2.toNatClampNeg (nI 0)).1 (h.2.2.1 48 6) v1.toNatClampNeg).toNatClampNeg v2) 48 8 ∧ zokO (zsI (zsI (zsI h (h.2.2.1 48 2) v1.toNatClampNeg ((h.1 (h.2.2.1 48 2) v1.toNatClampNeg) + (h.1 (h.2.2.1 48 2) v2.toNatClampNeg))) (h.2.2.1 48 2) v2.toNatClampNeg (nI 0)) (h.2.2.1 48 5) ((zsI (zsI h (h.2.2.1 48 2) v1.toNatClampNeg ((h.1 (h.2.2.1 48 2) v1.toNatClampNeg) + (h.1 (h.2.2.1 48 2) v2.toNatClampNeg))) (h.2.2.1 48 2) v2.toNatClampNeg (nI 0)).1 (h.2.2.1 48 6) v1.toNatClampNeg).toNatClampNeg v2) 48 8 ∧ zokA (zsI (zsI (zsI h (h.2.2.1 48 2) v1.toNatClampNeg ((h.1 (h.2.2.1 48 2) v1.toNatClampNeg) + (h.1 (h.2.2.1 48 2) v2.toNatClampNeg))) (h.2.2.1 48 2) v2.toNatClampNeg (nI 0)) (h.2.2.1 48 5) ((zsI (zsI h (h.2.2.1 48 2) v1.toNatClampNeg ((h.1 (h.2.2.1 48 2) v1.toNatClampNeg) + (h.1 (h.2.2.1 48 2) v2.toNatClampNeg))) (h.2.2.1 48 2) v2.toNatClampNeg (nI 0)).1 (h.2.2.1 48 6) v1.toNatClampNeg).toNatClampNeg v2) (h.2.2.1 48 6) 20 v2 ∧ zokA (zsI (zsI (zsI h (h.2.2.1 48 2) v1.toNatClampNeg ((h.1 (h.2.2.1 48 2) v1.toNatClampNeg) + (h.1 (h.2.2.1 48 2) v2.toNatClampNeg))) (h.2.2.1 48 2) v2.toNatClampNeg (nI 0)) (h.2.2.1 48 5) ((zsI (zsI h (h.2.2.1 48 2) v1.toNatClampNeg ((h.1 (h.2.2.1 48 2) v1.toNatClampNeg) + (h.1 (h.2.2.1 48 2) v2.toNatClampNeg))) (h.2.2.1 48 2) v2.toNatClampNeg (nI 0)).1 (h.2.2.1 48 6) v1.toNatClampNeg).toNatClampNeg v2) (h.2.2.1 48 6) 20 v1 ∧ J mX8_join d 0 0 Q 0 0 88 [some (.inr (.inr 48)), some (.inl v1), some (.inl v2)] [.inl (nI 1)] (zsI (zsI (zsI (zsI h (h.2.2.1 48 2) v1.toNatClampNeg ((h.1 (h.2.2.1 48 2) v1.toNatClampNeg) + (h.1 (h.2.2.1 48 2) v2.toNatClampNeg))) (h.2.2.1 48 2) v2.toNatClampNeg (nI 0)) (h.2.2.1 48 5) ((zsI (zsI h (h.2.2.1 48 2) v1.toNatClampNeg ((h.1 (h.2.2.1 48 2) v1.toNatClampNeg) + (h.1 (h.2.2.1 48 2) v2.toNatClampNeg))) (h.2.2.1 48 2) v2.toNatClampNeg (nI 0)).1 (h.2.2.1 48 6) v1.toNatClampNeg).toNatClampNeg v2) (h.2.2.1 48 6) v1.toNatClampNeg ((zsI (zsI (zsI h (h.2.2.1 48 2) v1.toNatClampNeg ((h.1 (h.2.2.1 48 2) v1.toNatClampNeg) + (h.1 (h.2.2.1 48 2) v2.toNatClampNeg))) (h.2.2.1 48 2) v2.toNatClampNeg (nI 0)) (h.2.2.1 48 5) ((zsI (zsI h (h.2.2.1 48 2) v1.toNatClampNeg ((h.1 (h.2.2.1 48 2) v1.toNatClampNeg) + (h.1 (h.2.2.1 48 2) v2.toNatClampNeg))) (h.2.2.1 48 2) v2.toNatClampNeg (nI 0)).1 (h.2.2.1 48 6) v1.toNatClampNeg).toNatClampNeg v2).1 (h.2.2.1 48 6) v2.toNatClampNeg))
  rw [(show h.2.2.1 48 2 = 50 from (hr.at (by decide) (by decide) (by rfl))), (show h.2.2.1 48 5 = 53 from (hr.at (by decide) (by decide) (by rfl))), (show h.2.2.1 48 6 = 54 from (hr.at (by decide) (by decide) (by rfl)))]
  exact ⟨(zo hr (by decide) rfl), (zia hr (by decide) (by rfl) g0), (zo hr (by decide) rfl), (zia hr (by decide) (by rfl) g1), (zia hr (by decide) (by rfl) g0), (zo hr (by decide) rfl), (zia hr (by decide) (by rfl) g1), (zo hr (by decide) rfl), (zo hr (by decide) rfl), (zia hr (by decide) (by rfl) g0), (zia hr (by decide) (by rfl) g2), (zo hr (by decide) rfl), (zo hr (by decide) rfl), (zia hr (by decide) (by rfl) g1), (zia hr (by decide) (by rfl) g0), J_iret (ty := .boolean) (zat qX8_join 56 (by rfl)) rfl (by decide) (Nat.le_refl 0) (Nat.le_refl 0) k⟩

theorem bX8_ring_0 {d : Nat} {Q : Option MV → MH → Prop} {h : MH} (hr : zRf h) (k1 : (nI 40) ≤ (h.1 48 9) → J mX8_ring d 0 0 Q 0 0 32 [some (.inr (.inr 48))] [] h) (k2 : ¬ (nI 40) ≤ (h.1 48 9) → J mX8_ring d 0 0 Q 0 0 9 [some (.inr (.inr 48))] [] h) : J mX8_ring d 0 0 Q 0 0 0 [some (.inr (.inr 48))] [] h := by
  refine zrun 0 4 qX8_ring (o := 8) rfl ?_
  show zokO h 48 8 ∧ (((nI 40) ≤ (h.1 48 9) → J mX8_ring d 0 0 Q 0 0 32 [some (.inr (.inr 48))] [] h) ∧ (¬ (nI 40) ≤ (h.1 48 9) → J mX8_ring d 0 0 Q 0 0 9 [some (.inr (.inr 48))] [] h))
  exact ⟨(zo hr (by decide) rfl), k1, k2⟩

theorem bX8_ring_9 {d : Nat} {Q : Option MV → MH → Prop} {h : MH} (hr : zRf h) (g0 : vp_in (h.1 48 9) 40) (k : J mX8_ring d 0 0 Q 0 0 32 [some (.inr (.inr 48))] [] (zsI (zsI h 56 (h.1 48 9).toNatClampNeg (h.1 48 13)) 48 9 (((zsI h 56 (h.1 48 9).toNatClampNeg (h.1 48 13)).1 48 9) + (nI 1)))) : J mX8_ring d 0 0 Q 0 0 9 [some (.inr (.inr 48))] [] h := by
  refine zrun 4 13 qX8_ring (o := 8) rfl ?_
  show zokO h 48 8 ∧ zokO h 48 8 ∧ zokO h 48 8 ∧ zokA h (h.2.2.1 48 8) 20 (h.1 48 9) ∧ zokO (zsI h (h.2.2.1 48 8) (h.1 48 9).toNatClampNeg (h.1 48 13)) 48 8 ∧ zokO (zsI h (h.2.2.1 48 8) (h.1 48 9).toNatClampNeg (h.1 48 13)) 48 8 ∧ J mX8_ring d 0 0 Q 0 0 32 [some (.inr (.inr 48))] [] (zsI (zsI h (h.2.2.1 48 8) (h.1 48 9).toNatClampNeg (h.1 48 13)) 48 9 (((zsI h (h.2.2.1 48 8) (h.1 48 9).toNatClampNeg (h.1 48 13)).1 48 9) + (nI 1)))
  rw [(show h.2.2.1 48 8 = 56 from (hr.at (by decide) (by decide) (by rfl)))]
  exact ⟨(zo hr (by decide) rfl), (zo hr (by decide) rfl), (zo hr (by decide) rfl), (zia hr (by decide) (by rfl) g0), (zo hr (by decide) rfl), (zo hr (by decide) rfl), k⟩

theorem bX8_ring_32 {d : Nat} {Q : Option MV → MH → Prop} {h : MH} {u0 : Option MV} (k : Q none h) : J mX8_ring d 0 0 Q 0 0 32 [u0] [] h := by
  exact J_vret (zat qX8_ring 17 (by rfl)) rfl (Nat.le_refl 0) (Nat.le_refl 0) k

