theorem bX4_init_4 {d mc ms cs ss : Nat} {Q : Option MV → MH → Prop} {h : MH} (hr : zRf h) (hc : cs ≤ mc ∧ ss ≤ ms) (k : J mX4_init d mc ms Q cs ss 12 [some (.inr (.inr 58))] [.inl (nI 40), .inr (.inr 58)] (zsI h 58 0 (-(nI 1)))) : J mX4_init d mc ms Q cs ss 4 [some (.inr (.inr 58))] [] h := by
  refine zrun 2 5 qX4_init (o := 4) rfl ?_
  show zokO h 58 4 ∧ J mX4_init d mc ms Q cs ss 12 [some (.inr (.inr 58))] [.inl (nI 40), .inr (.inr 58)] (zsI h 58 0 (-(nI 1)))
  exact ⟨(zo hr (by decide) rfl), k⟩

theorem bX4_tryAll_0 {d d' : Nat} {Q : Option MV → MH → Prop} {h : MH} {u3 u4 u5 : Option MV} {v2 : Nat} (hr : zRf h) (hd : d' + 1 ≤ d) (k : Con mX8_lay d' 0 0 [.inr (.inr 48), .inr (.inr v2)] (zsI h 58 1 (nI 0)) (zrv fun h' => J mX4_tryAll d 0 0 Q 0 0 10 [some (.inr (.inr 58)), some (.inr (.inr 48)), some (.inr (.inr v2)), u3, u4, u5] [] h')) : J mX4_tryAll d 0 0 Q 0 0 0 [some (.inr (.inr 58)), some (.inr (.inr 48)), some (.inr (.inr v2)), u3, u4, u5] [] h := by
  refine zrun 0 5 qX4_tryAll (o := 4) rfl ?_
  show zokO h 58 4 ∧ J mX4_tryAll d 0 0 Q 0 0 7 [some (.inr (.inr 58)), some (.inr (.inr 48)), some (.inr (.inr v2)), u3, u4, u5] [.inr (.inr v2), .inr (.inr 48)] (zsI h 58 1 (nI 0))
  exact ⟨(zo hr (by decide) rfl), zcVv (as := [.inr (.inr v2)]) (zat qX4_tryAll 5 (by rfl)) l4_28 rfl hd rfl (Nat.le_of_ble_eq_true rfl) zle0 (ci := 8) (by decide) rfl (show zokO _ _ _ from (zo hr (by decide) rfl)) k⟩

theorem bX4_tryAll_10 {d : Nat} {Q : Option MV → MH → Prop} {h : MH} {u0 u1 u2 u4 u5 : Option MV} {v3 : Nat} (k : J mX4_tryAll d 0 0 Q 0 0 13 [u0, u1, u2, some (.inr (.inr v3)), some (.inl (nI 0)), u5] [] h) : J mX4_tryAll d 0 0 Q 0 0 10 [u0, u1, u2, some (.inr (.inr v3)), u4, u5] [] h := by
  refine zrun 6 2 qX4_tryAll (o := 4) rfl ?_
  show J mX4_tryAll d 0 0 Q 0 0 13 [u0, u1, u2, some (.inr (.inr v3)), some (.inl (nI 0)), u5] [] h
  exact k

theorem bX4_tryAll_13 {d : Nat} {Q : Option MV → MH → Prop} {h : MH} {u0 u1 u2 u3 u5 : Option MV} {v4 : Int32} (k1 : (nI 8) ≤ v4 → J mX4_tryAll d 0 0 Q 0 0 34 [u0, u1, u2, u3, some (.inl v4), u5] [] h) (k2 : ¬ (nI 8) ≤ v4 → J mX4_tryAll d 0 0 Q 0 0 20 [u0, u1, u2, u3, some (.inl v4), u5] [] h) : J mX4_tryAll d 0 0 Q 0 0 13 [u0, u1, u2, u3, some (.inl v4), u5] [] h := by
  refine zrun 8 3 qX4_tryAll (o := 4) rfl ?_
  show (((nI 8) ≤ v4 → J mX4_tryAll d 0 0 Q 0 0 34 [u0, u1, u2, u3, some (.inl v4), u5] [] h) ∧ (¬ (nI 8) ≤ v4 → J mX4_tryAll d 0 0 Q 0 0 20 [u0, u1, u2, u3, some (.inl v4), u5] [] h))
  exact ⟨k1, k2⟩

theorem bX4_tryAll_20 {d : Nat} {Q : Option MV → MH → Prop} {h : MH} {u1 u2 u5 : Option MV} {v4 : Int32} {v3 : Nat} (hr : zRf h) (g0 : vp_in v4 8) (k : J mX4_tryAll d 0 0 Q 0 0 13 [some (.inr (.inr 58)), u1, u2, some (.inr (.inr v3)), some (.inl (v4 + nI 1)), u5] [] (zsI h 61 v4.toNatClampNeg (nI 0))) : J mX4_tryAll d 0 0 Q 0 0 20 [some (.inr (.inr 58)), u1, u2, some (.inr (.inr v3)), some (.inl v4), u5] [] h := by
  refine zrun 11 7 qX4_tryAll (o := 4) rfl ?_
  show zokO h 58 4 ∧ zokA h (h.2.2.1 58 4) 20 v4 ∧ J mX4_tryAll d 0 0 Q 0 0 13 [some (.inr (.inr 58)), u1, u2, some (.inr (.inr v3)), some (.inl (v4 + nI 1)), u5] [] (zsI h (h.2.2.1 58 4) v4.toNatClampNeg (nI 0))
  rw [(show h.2.2.1 58 4 = 61 from (hr.at (by decide) (by decide) (by rfl)))]
  exact ⟨(zo hr (by decide) rfl), (zia hr (by decide) (by rfl) g0), k⟩

theorem bX4_tryAll_34 {d d' : Nat} {Q : Option MV → MH → Prop} {h : MH} {u0 u1 u2 u4 u5 : Option MV} {v3 : Nat} (gr : zokO h v3 5) (hd : d' + 1 ≤ d) (k : Con mX5_used d' 0 0 [.inr (.inr v3)] h (zri fun (x : Int32) h' => J mX4_tryAll d 0 0 Q 0 0 38 [u0, u1, u2, some (.inr (.inr v3)), u4, u5] [.inl x] h')) : J mX4_tryAll d 0 0 Q 0 0 34 [u0, u1, u2, some (.inr (.inr v3)), u4, u5] [] h := by
  refine zrun 18 1 qX4_tryAll (o := 4) rfl ?_
  show J mX4_tryAll d 0 0 Q 0 0 35 [u0, u1, u2, some (.inr (.inr v3)), u4, u5] [.inr (.inr v3)] h
  exact zcVi (as := []) (zat qX4_tryAll 19 (by rfl)) l4_34 rfl hd rfl (Nat.le_of_ble_eq_true rfl) zle0 (ci := 5) (by decide) rfl gr k

theorem bX4_tryAll_38 {d : Nat} {Q : Option MV → MH → Prop} {h : MH} {u0 u1 u2 u4 u5 : Option MV} {vs0 : Int32} {v3 : Nat} (k : J mX4_tryAll d 0 0 Q 0 0 43 [u0, u1, u2, some (.inr (.inr v3)), some (.inl vs0), some (.inl (nI 0))] [] h) : J mX4_tryAll d 0 0 Q 0 0 38 [u0, u1, u2, some (.inr (.inr v3)), u4, u5] [.inl vs0] h := by
  refine zrun 20 3 qX4_tryAll (o := 4) rfl ?_
  show J mX4_tryAll d 0 0 Q 0 0 43 [u0, u1, u2, some (.inr (.inr v3)), some (.inl vs0), some (.inl (nI 0))] [] h
  exact k

theorem bX4_tryAll_43 {d : Nat} {Q : Option MV → MH → Prop} {h : MH} {u0 u1 u2 u3 u4 : Option MV} {v5 : Int32} (k1 : (nI 6561) ≤ v5 → J mX4_tryAll d 0 0 Q 0 0 82 [u0, u1, u2, u3, u4, some (.inl v5)] [] h) (k2 : ¬ (nI 6561) ≤ v5 → J mX4_tryAll d 0 0 Q 0 0 51 [u0, u1, u2, u3, u4, some (.inl v5)] [] h) : J mX4_tryAll d 0 0 Q 0 0 43 [u0, u1, u2, u3, u4, some (.inl v5)] [] h := by
  refine zrun 23 3 qX4_tryAll (o := 4) rfl ?_
  show (((nI 6561) ≤ v5 → J mX4_tryAll d 0 0 Q 0 0 82 [u0, u1, u2, u3, u4, some (.inl v5)] [] h) ∧ (¬ (nI 6561) ≤ v5 → J mX4_tryAll d 0 0 Q 0 0 51 [u0, u1, u2, u3, u4, some (.inl v5)] [] h))
  exact ⟨k1, k2⟩

theorem bX4_tryAll_51 {d d' : Nat} {Q : Option MV → MH → Prop} {h : MH} {u0 u2 u4 u5 : Option MV} {v3 : Nat} (hr : zRf h) (hd : d' + 1 ≤ d) (k : Con mX8_play d' 0 0 [.inr (.inr 48), .inr (.inr v3), .inl (-(nI 1)), .inl (1024000000 : Int32)] h (zrv fun h' => J mX4_tryAll d 0 0 Q 0 0 59 [u0, some (.inr (.inr 48)), u2, some (.inr (.inr v3)), u4, u5] [] h')) : J mX4_tryAll d 0 0 Q 0 0 51 [u0, some (.inr (.inr 48)), u2, some (.inr (.inr v3)), u4, u5] [] h := by
  refine zrun 26 4 qX4_tryAll (o := 4) rfl ?_
  show J mX4_tryAll d 0 0 Q 0 0 56 [u0, some (.inr (.inr 48)), u2, some (.inr (.inr v3)), u4, u5] [.inl (1024000000 : Int32), .inl (-(nI 1)), .inr (.inr v3), .inr (.inr 48)] h
  exact zcVv (as := [.inr (.inr v3), .inl (-(nI 1)), .inl (1024000000 : Int32)]) (zat qX4_tryAll 30 (by rfl)) l4_41 rfl hd rfl (Nat.le_of_ble_eq_true rfl) zle0 (ci := 8) (by decide) rfl (zo hr (by decide) rfl) k

theorem bX4_tryAll_59 {d d' : Nat} {Q : Option MV → MH → Prop} {h : MH} {u2 u3 u4 u5 : Option MV} (hr : zRf h) (hd : d' + 1 ≤ d) (k : Con mX4_note d' 0 0 [.inr (.inr 58), .inr (.inr 48)] h (zrv fun h' => J mX4_tryAll d 0 0 Q 0 0 64 [some (.inr (.inr 58)), some (.inr (.inr 48)), u2, u3, u4, u5] [] h')) : J mX4_tryAll d 0 0 Q 0 0 59 [some (.inr (.inr 58)), some (.inr (.inr 48)), u2, u3, u4, u5] [] h := by
  refine zrun 31 2 qX4_tryAll (o := 4) rfl ?_
  show J mX4_tryAll d 0 0 Q 0 0 61 [some (.inr (.inr 58)), some (.inr (.inr 48)), u2, u3, u4, u5] [.inr (.inr 48), .inr (.inr 58)] h
  exact zcVv (as := [.inr (.inr 48)]) (zat qX4_tryAll 33 (by rfl)) l4_45 rfl hd rfl (Nat.le_of_ble_eq_true rfl) zle0 (ci := 4) (by decide) rfl (zo hr (by decide) rfl) k

theorem bX4_tryAll_64 {d d' : Nat} {Q : Option MV → MH → Prop} {h : MH} {u3 u5 : Option MV} {v4 : Int32} {v2 : Nat} (hr : zRf h) (hd : d' + 1 ≤ d) (k : Con mX4_turnNext d' 0 0 [.inr (.inr 58), .inr (.inr 48), .inr (.inr v2), .inl v4] h (zri fun (x : Int32) h' => J mX4_tryAll d 0 0 Q 0 0 72 [some (.inr (.inr 58)), some (.inr (.inr 48)), some (.inr (.inr v2)), u3, some (.inl v4), u5] [.inl x] h')) : J mX4_tryAll d 0 0 Q 0 0 64 [some (.inr (.inr 58)), some (.inr (.inr 48)), some (.inr (.inr v2)), u3, some (.inl v4), u5] [] h := by
  refine zrun 34 4 qX4_tryAll (o := 4) rfl ?_
  show J mX4_tryAll d 0 0 Q 0 0 69 [some (.inr (.inr 58)), some (.inr (.inr 48)), some (.inr (.inr v2)), u3, some (.inl v4), u5] [.inl v4, .inr (.inr v2), .inr (.inr 48), .inr (.inr 58)] h
  exact zcVi (as := [.inr (.inr 48), .inr (.inr v2), .inl v4]) (zat qX4_tryAll 38 (by rfl)) l4_49 rfl hd rfl (Nat.le_of_ble_eq_true rfl) zle0 (ci := 4) (by decide) rfl (zo hr (by decide) rfl) k

theorem bX4_tryAll_72 {d : Nat} {Q : Option MV → MH → Prop} {h : MH} {u0 u1 u2 u3 u4 u5 : Option MV} {vs0 : Int32} (k1 : ¬ vs0 = 0 → J mX4_tryAll d 0 0 Q 0 0 76 [u0, u1, u2, u3, u4, u5] [] h) (k2 : vs0 = 0 → J mX4_tryAll d 0 0 Q 0 0 75 [u0, u1, u2, u3, u4, u5] [] h) : J mX4_tryAll d 0 0 Q 0 0 72 [u0, u1, u2, u3, u4, u5] [.inl vs0] h := by
  refine zrun 39 1 qX4_tryAll (o := 4) rfl ?_
  show ((¬ vs0 = 0 → J mX4_tryAll d 0 0 Q 0 0 76 [u0, u1, u2, u3, u4, u5] [] h) ∧ (vs0 = 0 → J mX4_tryAll d 0 0 Q 0 0 75 [u0, u1, u2, u3, u4, u5] [] h))
  exact ⟨k1, k2⟩

theorem bX4_tryAll_75 {d : Nat} {Q : Option MV → MH → Prop} {h : MH} {u0 u1 u2 u3 u4 u5 : Option MV} (k : Q none h) : J mX4_tryAll d 0 0 Q 0 0 75 [u0, u1, u2, u3, u4, u5] [] h := by
  exact J_vret (zat qX4_tryAll 40 (by rfl)) rfl (Nat.le_refl 0) (Nat.le_refl 0) k

theorem bX4_tryAll_76 {d : Nat} {Q : Option MV → MH → Prop} {h : MH} {u0 u1 u2 u3 : Option MV} {v5 v4 : Int32} (k : J mX4_tryAll d 0 0 Q 0 0 43 [u0, u1, u2, u3, some (.inl v4), some (.inl (v5 + nI 1))] [] h) : J mX4_tryAll d 0 0 Q 0 0 76 [u0, u1, u2, u3, some (.inl v4), some (.inl v5)] [] h := by
  refine zrun 41 2 qX4_tryAll (o := 4) rfl ?_
  show J mX4_tryAll d 0 0 Q 0 0 43 [u0, u1, u2, u3, some (.inl v4), some (.inl (v5 + nI 1))] [] h
  exact k

theorem bX4_tryAll_82 {d : Nat} {Q : Option MV → MH → Prop} {h : MH} {u0 u1 u2 u3 u4 u5 : Option MV} (k : Q none h) : J mX4_tryAll d 0 0 Q 0 0 82 [u0, u1, u2, u3, u4, u5] [] h := by
  exact J_vret (zat qX4_tryAll 43 (by rfl)) rfl (Nat.le_refl 0) (Nat.le_refl 0) k

theorem bX4_note_0 {d : Nat} {Q : Option MV → MH → Prop} {h : MH} {u0 u2 : Option MV} (k : J mX4_note d 0 0 Q 0 0 2 [u0, some (.inr (.inr 48)), some (.inl (nI 0))] [] h) : J mX4_note d 0 0 Q 0 0 0 [u0, some (.inr (.inr 48)), u2] [] h := by
  refine zrun 0 2 qX4_note (o := 4) rfl ?_
  show J mX4_note d 0 0 Q 0 0 2 [u0, some (.inr (.inr 48)), some (.inl (nI 0))] [] h
  exact k

theorem bX4_note_2 {d : Nat} {Q : Option MV → MH → Prop} {h : MH} {u0 : Option MV} {v2 : Int32} (hr : zRf h) (k1 : (h.1 48 9) ≤ v2 → J mX4_note d 0 0 Q 0 0 92 [u0, some (.inr (.inr 48)), some (.inl v2)] [] h) (k2 : ¬ (h.1 48 9) ≤ v2 → J mX4_note d 0 0 Q 0 0 10 [u0, some (.inr (.inr 48)), some (.inl v2)] [] h) : J mX4_note d 0 0 Q 0 0 2 [u0, some (.inr (.inr 48)), some (.inl v2)] [] h := by
  refine zrun 2 4 qX4_note (o := 4) rfl ?_
  show zokO h 48 8 ∧ (((h.1 48 9) ≤ v2 → J mX4_note d 0 0 Q 0 0 92 [u0, some (.inr (.inr 48)), some (.inl v2)] [] h) ∧ (¬ (h.1 48 9) ≤ v2 → J mX4_note d 0 0 Q 0 0 10 [u0, some (.inr (.inr 48)), some (.inl v2)] [] h))
  exact ⟨(zo hr (by decide) rfl), k1, k2⟩

theorem bX4_note_10 {d : Nat} {Q : Option MV → MH → Prop} {h : MH} {u1 : Option MV} {v2 : Int32} (hr : zRf h) (k1 : (h.1 58 1) ≤ v2 → J mX4_note d 0 0 Q 0 0 41 [some (.inr (.inr 58)), u1, some (.inl v2)] [.inl v2, .inr (.inr 59)] h) (k2 : ¬ (h.1 58 1) ≤ v2 → J mX4_note d 0 0 Q 0 0 23 [some (.inr (.inr 58)), u1, some (.inl v2)] [.inl v2, .inr (.inr 59)] h) : J mX4_note d 0 0 Q 0 0 10 [some (.inr (.inr 58)), u1, some (.inl v2)] [] h := by
  refine zrun 6 7 qX4_note (o := 4) rfl ?_
  show zokO h 58 4 ∧ zokO h 58 4 ∧ (((h.1 58 1) ≤ v2 → J mX4_note d 0 0 Q 0 0 41 [some (.inr (.inr 58)), u1, some (.inl v2)] [.inl v2, .inr (.inr (h.2.2.1 58 2))] h) ∧ (¬ (h.1 58 1) ≤ v2 → J mX4_note d 0 0 Q 0 0 23 [some (.inr (.inr 58)), u1, some (.inl v2)] [.inl v2, .inr (.inr (h.2.2.1 58 2))] h))
  rw [(show h.2.2.1 58 2 = 59 from (hr.at (by decide) (by decide) (by rfl)))]
  exact ⟨(zo hr (by decide) rfl), (zo hr (by decide) rfl), k1, k2⟩

theorem bX4_note_23 {d : Nat} {Q : Option MV → MH → Prop} {h : MH} {vs1 v2 : Int32} {vs0 : Nat} (hr : zRf h) (g0 : vp_in v2 40) (hd : 1 ≤ d) (k : J mX4_note d 0 0 Q 0 0 38 [some (.inr (.inr 58)), some (.inr (.inr 48)), some (.inl v2)] [.inl (if (h.1 56 v2.toNatClampNeg) < (h.1 59 v2.toNatClampNeg) then (h.1 56 v2.toNatClampNeg) else (h.1 59 v2.toNatClampNeg)), .inl vs1, .inr (.inr vs0)] h) : J mX4_note d 0 0 Q 0 0 23 [some (.inr (.inr 58)), some (.inr (.inr 48)), some (.inl v2)] [.inl vs1, .inr (.inr vs0)] h := by
  refine zrun 13 8 qX4_note (o := 4) rfl ?_
  show zokO h 58 4 ∧ zokA h (h.2.2.1 58 2) 20 v2 ∧ zokO h 48 8 ∧ zokA h (h.2.2.1 48 8) 20 v2 ∧ J mX4_note d 0 0 Q 0 0 35 [some (.inr (.inr 58)), some (.inr (.inr 48)), some (.inl v2)] [.inl (h.1 (h.2.2.1 48 8) v2.toNatClampNeg), .inl (h.1 (h.2.2.1 58 2) v2.toNatClampNeg), .inl vs1, .inr (.inr vs0)] h
  rw [(show h.2.2.1 58 2 = 59 from (hr.at (by decide) (by decide) (by rfl))), (show h.2.2.1 48 8 = 56 from (hr.at (by decide) (by decide) (by rfl)))]
  exact ⟨(zo hr (by decide) rfl), (zia hr (by decide) (by rfl) g0), (zo hr (by decide) rfl), (zia hr (by decide) (by rfl) g0), zmin (zat qX4_note 21 (by rfl)) mm4_59 rfl hd (Nat.le_of_ble_eq_true rfl) zle0 k⟩

theorem bX4_note_38 {d : Nat} {Q : Option MV → MH → Prop} {h : MH} {u0 u1 u2 : Option MV} {vs1 vs2 : Int32} {vs0 : Nat} (k : J mX4_note d 0 0 Q 0 0 47 [u0, u1, u2] [.inl vs2, .inl vs1, .inr (.inr vs0)] h) : J mX4_note d 0 0 Q 0 0 38 [u0, u1, u2] [.inl vs2, .inl vs1, .inr (.inr vs0)] h := by
  refine zrun 22 1 qX4_note (o := 4) rfl ?_
  show J mX4_note d 0 0 Q 0 0 47 [u0, u1, u2] [.inl vs2, .inl vs1, .inr (.inr vs0)] h
  exact k

theorem bX4_note_41 {d : Nat} {Q : Option MV → MH → Prop} {h : MH} {u0 : Option MV} {vs1 v2 : Int32} {vs0 : Nat} (hr : zRf h) (g0 : vp_in v2 40) (k : J mX4_note d 0 0 Q 0 0 47 [u0, some (.inr (.inr 48)), some (.inl v2)] [.inl (h.1 56 v2.toNatClampNeg), .inl vs1, .inr (.inr vs0)] h) : J mX4_note d 0 0 Q 0 0 41 [u0, some (.inr (.inr 48)), some (.inl v2)] [.inl vs1, .inr (.inr vs0)] h := by
  refine zrun 23 4 qX4_note (o := 4) rfl ?_
  show zokO h 48 8 ∧ zokA h (h.2.2.1 48 8) 20 v2 ∧ J mX4_note d 0 0 Q 0 0 47 [u0, some (.inr (.inr 48)), some (.inl v2)] [.inl (h.1 (h.2.2.1 48 8) v2.toNatClampNeg), .inl vs1, .inr (.inr vs0)] h
  rw [(show h.2.2.1 48 8 = 56 from (hr.at (by decide) (by decide) (by rfl)))]
  exact ⟨(zo hr (by decide) rfl), (zia hr (by decide) (by rfl) g0), k⟩

theorem bX4_note_47 {d : Nat} {Q : Option MV → MH → Prop} {h : MH} {u1 : Option MV} {vs1 vs2 v2 : Int32} {vs0 : Nat} (hr : zRf h) (g0 : zokA h vs0 20 vs1) (k1 : ((zsI h vs0 vs1.toNatClampNeg vs2).1 58 1) ≤ v2 → J mX4_note d 0 0 Q 0 0 79 [some (.inr (.inr 58)), u1, some (.inl v2)] [.inl v2, .inr (.inr 60)] (zsI h vs0 vs1.toNatClampNeg vs2)) (k2 : ¬ ((zsI h vs0 vs1.toNatClampNeg vs2).1 58 1) ≤ v2 → J mX4_note d 0 0 Q 0 0 61 [some (.inr (.inr 58)), u1, some (.inl v2)] [.inl v2, .inr (.inr 60)] (zsI h vs0 vs1.toNatClampNeg vs2)) : J mX4_note d 0 0 Q 0 0 47 [some (.inr (.inr 58)), u1, some (.inl v2)] [.inl vs2, .inl vs1, .inr (.inr vs0)] h := by
  refine zrun 27 8 qX4_note (o := 4) rfl ?_
  show zokA h vs0 20 vs1 ∧ zokO (zsI h vs0 vs1.toNatClampNeg vs2) 58 4 ∧ zokO (zsI h vs0 vs1.toNatClampNeg vs2) 58 4 ∧ ((((zsI h vs0 vs1.toNatClampNeg vs2).1 58 1) ≤ v2 → J mX4_note d 0 0 Q 0 0 79 [some (.inr (.inr 58)), u1, some (.inl v2)] [.inl v2, .inr (.inr (h.2.2.1 58 3))] (zsI h vs0 vs1.toNatClampNeg vs2)) ∧ (¬ ((zsI h vs0 vs1.toNatClampNeg vs2).1 58 1) ≤ v2 → J mX4_note d 0 0 Q 0 0 61 [some (.inr (.inr 58)), u1, some (.inl v2)] [.inl v2, .inr (.inr (h.2.2.1 58 3))] (zsI h vs0 vs1.toNatClampNeg vs2)))
  rw [(show h.2.2.1 58 3 = 60 from (hr.at (by decide) (by decide) (by rfl)))]
  exact ⟨g0, (zo hr (by decide) rfl), (zo hr (by decide) rfl), k1, k2⟩

theorem bX4_note_61 {d : Nat} {Q : Option MV → MH → Prop} {h : MH} {vs1 v2 : Int32} {vs0 : Nat} (hr : zRf h) (g0 : vp_in v2 40) (hd : 1 ≤ d) (k : J mX4_note d 0 0 Q 0 0 76 [some (.inr (.inr 58)), some (.inr (.inr 48)), some (.inl v2)] [.inl (if (h.1 60 v2.toNatClampNeg) < (h.1 56 v2.toNatClampNeg) then (h.1 56 v2.toNatClampNeg) else (h.1 60 v2.toNatClampNeg)), .inl vs1, .inr (.inr vs0)] h) : J mX4_note d 0 0 Q 0 0 61 [some (.inr (.inr 58)), some (.inr (.inr 48)), some (.inl v2)] [.inl vs1, .inr (.inr vs0)] h := by
  refine zrun 35 8 qX4_note (o := 4) rfl ?_
  show zokO h 58 4 ∧ zokA h (h.2.2.1 58 3) 20 v2 ∧ zokO h 48 8 ∧ zokA h (h.2.2.1 48 8) 20 v2 ∧ J mX4_note d 0 0 Q 0 0 73 [some (.inr (.inr 58)), some (.inr (.inr 48)), some (.inl v2)] [.inl (h.1 (h.2.2.1 48 8) v2.toNatClampNeg), .inl (h.1 (h.2.2.1 58 3) v2.toNatClampNeg), .inl vs1, .inr (.inr vs0)] h
  rw [(show h.2.2.1 58 3 = 60 from (hr.at (by decide) (by decide) (by rfl))), (show h.2.2.1 48 8 = 56 from (hr.at (by decide) (by decide) (by rfl)))]
  exact ⟨(zo hr (by decide) rfl), (zia hr (by decide) (by rfl) g0), (zo hr (by decide) rfl), (zia hr (by decide) (by rfl) g0), zmax (zat qX4_note 43 (by rfl)) mm4_65 rfl hd (Nat.le_of_ble_eq_true rfl) zle0 k⟩

theorem bX4_note_76 {d : Nat} {Q : Option MV → MH → Prop} {h : MH} {u0 u1 u2 : Option MV} {vs1 vs2 : Int32} {vs0 : Nat} (k : J mX4_note d 0 0 Q 0 0 85 [u0, u1, u2] [.inl vs2, .inl vs1, .inr (.inr vs0)] h) : J mX4_note d 0 0 Q 0 0 76 [u0, u1, u2] [.inl vs2, .inl vs1, .inr (.inr vs0)] h := by
  refine zrun 44 1 qX4_note (o := 4) rfl ?_
  show J mX4_note d 0 0 Q 0 0 85 [u0, u1, u2] [.inl vs2, .inl vs1, .inr (.inr vs0)] h
  exact k

theorem bX4_note_79 {d : Nat} {Q : Option MV → MH → Prop} {h : MH} {u0 : Option MV} {vs1 v2 : Int32} {vs0 : Nat} (hr : zRf h) (g0 : vp_in v2 40) (k : J mX4_note d 0 0 Q 0 0 85 [u0, some (.inr (.inr 48)), some (.inl v2)] [.inl (h.1 56 v2.toNatClampNeg), .inl vs1, .inr (.inr vs0)] h) : J mX4_note d 0 0 Q 0 0 79 [u0, some (.inr (.inr 48)), some (.inl v2)] [.inl vs1, .inr (.inr vs0)] h := by
  refine zrun 45 4 qX4_note (o := 4) rfl ?_
  show zokO h 48 8 ∧ zokA h (h.2.2.1 48 8) 20 v2 ∧ J mX4_note d 0 0 Q 0 0 85 [u0, some (.inr (.inr 48)), some (.inl v2)] [.inl (h.1 (h.2.2.1 48 8) v2.toNatClampNeg), .inl vs1, .inr (.inr vs0)] h
  rw [(show h.2.2.1 48 8 = 56 from (hr.at (by decide) (by decide) (by rfl)))]
  exact ⟨(zo hr (by decide) rfl), (zia hr (by decide) (by rfl) g0), k⟩

theorem bX4_note_85 {d : Nat} {Q : Option MV → MH → Prop} {h : MH} {u0 : Option MV} {vs1 vs2 v2 : Int32} {vs0 : Nat} (g0 : zokA h vs0 20 vs1) (k : J mX4_note d 0 0 Q 0 0 2 [u0, some (.inr (.inr 48)), some (.inl (v2 + nI 1))] [] (zsI h vs0 vs1.toNatClampNeg vs2)) : J mX4_note d 0 0 Q 0 0 85 [u0, some (.inr (.inr 48)), some (.inl v2)] [.inl vs2, .inl vs1, .inr (.inr vs0)] h := by
  refine zrun 49 3 qX4_note (o := 4) rfl ?_
  show zokA h vs0 20 vs1 ∧ J mX4_note d 0 0 Q 0 0 2 [u0, some (.inr (.inr 48)), some (.inl (v2 + nI 1))] [] (zsI h vs0 vs1.toNatClampNeg vs2)
  exact ⟨g0, k⟩

theorem bX4_note_92 {d : Nat} {Q : Option MV → MH → Prop} {h : MH} {u2 : Option MV} (hr : zRf h) (hd : 1 ≤ d) (k : J mX4_note d 0 0 Q 0 0 104 [some (.inr (.inr 58)), some (.inr (.inr 48)), u2] [.inl (if (h.1 58 1) < (h.1 48 9) then (h.1 48 9) else (h.1 58 1)), .inr (.inr 58)] h) : J mX4_note d 0 0 Q 0 0 92 [some (.inr (.inr 58)), some (.inr (.inr 48)), u2] [] h := by
  refine zrun 52 5 qX4_note (o := 4) rfl ?_
  show zokO h 58 4 ∧ zokO h 48 8 ∧ J mX4_note d 0 0 Q 0 0 101 [some (.inr (.inr 58)), some (.inr (.inr 48)), u2] [.inl (h.1 48 9), .inl (h.1 58 1), .inr (.inr 58)] h
  exact ⟨(zo hr (by decide) rfl), (zo hr (by decide) rfl), zmax (zat qX4_note 57 (by rfl)) mm4_65 rfl hd (Nat.le_of_ble_eq_true rfl) zle0 k⟩

theorem bX4_note_104 {d : Nat} {Q : Option MV → MH → Prop} {h : MH} {u0 u1 u2 : Option MV} {vs1 : Int32} (hr : zRf h) (k : Q none (zsI h 58 1 vs1)) : J mX4_note d 0 0 Q 0 0 104 [u0, u1, u2] [.inl vs1, .inr (.inr 58)] h := by
  refine zrun 58 1 qX4_note (o := 4) rfl ?_
  show zokO h 58 4 ∧ J mX4_note d 0 0 Q 0 0 107 [u0, u1, u2] [] (zsI h 58 1 vs1)
  exact ⟨(zo hr (by decide) rfl), J_vret (zat qX4_note 59 (by rfl)) rfl (Nat.le_refl 0) (Nat.le_refl 0) k⟩

theorem bX4_turnNext_0 {d : Nat} {Q : Option MV → MH → Prop} {h : MH} {u0 u1 u2 u4 u5 : Option MV} {v3 : Int32} (k : J mX4_turnNext d 0 0 Q 0 0 3 [u0, u1, u2, some (.inl v3), some (.inl (nI 0)), u5] [] h) : J mX4_turnNext d 0 0 Q 0 0 0 [u0, u1, u2, some (.inl v3), u4, u5] [] h := by
  refine zrun 0 2 qX4_turnNext (o := 4) rfl ?_
  show J mX4_turnNext d 0 0 Q 0 0 3 [u0, u1, u2, some (.inl v3), some (.inl (nI 0)), u5] [] h
  exact k

theorem bX4_turnNext_3 {d : Nat} {Q : Option MV → MH → Prop} {h : MH} {u0 u1 u3 u5 : Option MV} {v4 : Int32} {v2 : Nat} (g0 : zokO h v2 2) (k1 : (h.1 v2 0) ≤ v4 → J mX4_turnNext d 0 0 Q 0 0 132 [u0, u1, some (.inr (.inr v2)), u3, some (.inl v4), u5] [] h) (k2 : ¬ (h.1 v2 0) ≤ v4 → J mX4_turnNext d 0 0 Q 0 0 12 [u0, u1, some (.inr (.inr v2)), u3, some (.inl v4), u5] [] h) : J mX4_turnNext d 0 0 Q 0 0 3 [u0, u1, some (.inr (.inr v2)), u3, some (.inl v4), u5] [] h := by
  refine zrun 2 4 qX4_turnNext (o := 4) rfl ?_
  show zokO h v2 2 ∧ (((h.1 v2 0) ≤ v4 → J mX4_turnNext d 0 0 Q 0 0 132 [u0, u1, some (.inr (.inr v2)), u3, some (.inl v4), u5] [] h) ∧ (¬ (h.1 v2 0) ≤ v4 → J mX4_turnNext d 0 0 Q 0 0 12 [u0, u1, some (.inr (.inr v2)), u3, some (.inl v4), u5] [] h))
  exact ⟨g0, k1, k2⟩

theorem bX4_turnNext_12 {d : Nat} {Q : Option MV → MH → Prop} {h : MH} {u0 u1 u3 u5 : Option MV} {v4 : Int32} {v2 : Nat} (hr : zRf h) (g0 : zokO h v2 2) (g1 : vp_in v4 8) (k1 : (h.1 (v2 + 4) v4.toNatClampNeg) ≤ 0 → J mX4_turnNext d 0 0 Q 0 0 126 [u0, u1, some (.inr (.inr v2)), u3, some (.inl v4), u5] [] h) (k2 : ¬ (h.1 (v2 + 4) v4.toNatClampNeg) ≤ 0 → J mX4_turnNext d 0 0 Q 0 0 22 [u0, u1, some (.inr (.inr v2)), u3, some (.inl v4), u5] [] h) : J mX4_turnNext d 0 0 Q 0 0 12 [u0, u1, some (.inr (.inr v2)), u3, some (.inl v4), u5] [] h := by
  refine zrun 6 5 qX4_turnNext (o := 4) rfl ?_
  show zokO h v2 2 ∧ zokA h (h.2.2.1 v2 4) 20 v4 ∧ (((h.1 (h.2.2.1 v2 4) v4.toNatClampNeg) ≤ 0 → J mX4_turnNext d 0 0 Q 0 0 126 [u0, u1, some (.inr (.inr v2)), u3, some (.inl v4), u5] [] h) ∧ (¬ (h.1 (h.2.2.1 v2 4) v4.toNatClampNeg) ≤ 0 → J mX4_turnNext d 0 0 Q 0 0 22 [u0, u1, some (.inr (.inr v2)), u3, some (.inl v4), u5] [] h))
  rw [(show h.2.2.1 v2 4 = (v2 + 4) from (hr.f2 4 g0 (by decide)))]
  exact ⟨g0, (zca hr g0 (by decide) (by decide) g1), k1, k2⟩

theorem bX4_turnNext_22 {d : Nat} {Q : Option MV → MH → Prop} {h : MH} {u0 u1 u2 u5 : Option MV} {v3 v4 : Int32} (k1 : ((v3 >>> (v4 &&& 31)) &&& (nI 1)) = 0 → J mX4_turnNext d 0 0 Q 0 0 126 [u0, u1, u2, some (.inl v3), some (.inl v4), u5] [] h) (k2 : ¬ ((v3 >>> (v4 &&& 31)) &&& (nI 1)) = 0 → J mX4_turnNext d 0 0 Q 0 0 31 [u0, u1, u2, some (.inl v3), some (.inl v4), u5] [] h) : J mX4_turnNext d 0 0 Q 0 0 22 [u0, u1, u2, some (.inl v3), some (.inl v4), u5] [] h := by
  refine zrun 11 6 qX4_turnNext (o := 4) rfl ?_
  show ((((v3 >>> (v4 &&& 31)) &&& (nI 1)) = 0 → J mX4_turnNext d 0 0 Q 0 0 126 [u0, u1, u2, some (.inl v3), some (.inl v4), u5] [] h) ∧ (¬ ((v3 >>> (v4 &&& 31)) &&& (nI 1)) = 0 → J mX4_turnNext d 0 0 Q 0 0 31 [u0, u1, u2, some (.inl v3), some (.inl v4), u5] [] h))
  exact ⟨k1, k2⟩

theorem bX4_turnNext_31 {d : Nat} {Q : Option MV → MH → Prop} {h : MH} {u1 u2 u3 u5 : Option MV} {v4 : Int32} (hr : zRf h) (g0 : vp_in v4 8) (k1 : ¬ ((zsI h 61 v4.toNatClampNeg (((h.1 61 v4.toNatClampNeg) + (nI 1)) - ((h.1 61 v4.toNatClampNeg) + (nI 1)) / (nI 3) * (nI 3))).1 61 v4.toNatClampNeg) = (nI 2) → J mX4_turnNext d 0 0 Q 0 0 70 [some (.inr (.inr 58)), u1, u2, u3, some (.inl v4), u5] [] (zsI h 61 v4.toNatClampNeg (((h.1 61 v4.toNatClampNeg) + (nI 1)) - ((h.1 61 v4.toNatClampNeg) + (nI 1)) / (nI 3) * (nI 3)))) (k2 : ((zsI h 61 v4.toNatClampNeg (((h.1 61 v4.toNatClampNeg) + (nI 1)) - ((h.1 61 v4.toNatClampNeg) + (nI 1)) / (nI 3) * (nI 3))).1 61 v4.toNatClampNeg) = (nI 2) → J mX4_turnNext d 0 0 Q 0 0 60 [some (.inr (.inr 58)), u1, u2, u3, some (.inl v4), u5] [] (zsI h 61 v4.toNatClampNeg (((h.1 61 v4.toNatClampNeg) + (nI 1)) - ((h.1 61 v4.toNatClampNeg) + (nI 1)) / (nI 3) * (nI 3)))) : J mX4_turnNext d 0 0 Q 0 0 31 [some (.inr (.inr 58)), u1, u2, u3, some (.inl v4), u5] [] h := by
  refine zrun 17 18 qX4_turnNext (o := 4) rfl ?_
  show zokO h 58 4 ∧ zokO h 58 4 ∧ zokA h (h.2.2.1 58 4) 20 v4 ∧ ¬ (nI 3) = 0 ∧ zokA h (h.2.2.1 58 4) 20 v4 ∧ zokO (zsI h (h.2.2.1 58 4) v4.toNatClampNeg (((h.1 (h.2.2.1 58 4) v4.toNatClampNeg) + (nI 1)) - ((h.1 (h.2.2.1 58 4) v4.toNatClampNeg) + (nI 1)) / (nI 3) * (nI 3))) 58 4 ∧ zokA (zsI h (h.2.2.1 58 4) v4.toNatClampNeg (((h.1 (h.2.2.1 58 4) v4.toNatClampNeg) + (nI 1)) - ((h.1 (h.2.2.1 58 4) v4.toNatClampNeg) + (nI 1)) / (nI 3) * (nI 3))) (h.2.2.1 58 4) 20 v4 ∧ ((¬ ((zsI h (h.2.2.1 58 4) v4.toNatClampNeg (((h.1 (h.2.2.1 58 4) v4.toNatClampNeg) + (nI 1)) - ((h.1 (h.2.2.1 58 4) v4.toNatClampNeg) + (nI 1)) / (nI 3) * (nI 3))).1 (h.2.2.1 58 4) v4.toNatClampNeg) = (nI 2) → J mX4_turnNext d 0 0 Q 0 0 70 [some (.inr (.inr 58)), u1, u2, u3, some (.inl v4), u5] [] (zsI h (h.2.2.1 58 4) v4.toNatClampNeg (((h.1 (h.2.2.1 58 4) v4.toNatClampNeg) + (nI 1)) - ((h.1 (h.2.2.1 58 4) v4.toNatClampNeg) + (nI 1)) / (nI 3) * (nI 3)))) ∧ (((zsI h (h.2.2.1 58 4) v4.toNatClampNeg (((h.1 (h.2.2.1 58 4) v4.toNatClampNeg) + (nI 1)) - ((h.1 (h.2.2.1 58 4) v4.toNatClampNeg) + (nI 1)) / (nI 3) * (nI 3))).1 (h.2.2.1 58 4) v4.toNatClampNeg) = (nI 2) → J mX4_turnNext d 0 0 Q 0 0 60 [some (.inr (.inr 58)), u1, u2, u3, some (.inl v4), u5] [] (zsI h (h.2.2.1 58 4) v4.toNatClampNeg (((h.1 (h.2.2.1 58 4) v4.toNatClampNeg) + (nI 1)) - ((h.1 (h.2.2.1 58 4) v4.toNatClampNeg) + (nI 1)) / (nI 3) * (nI 3)))))
  rw [(show h.2.2.1 58 4 = 61 from (hr.at (by decide) (by decide) (by rfl)))]
  exact ⟨(zo hr (by decide) rfl), (zo hr (by decide) rfl), (zia hr (by decide) (by rfl) g0), (by decide), (zia hr (by decide) (by rfl) g0), (zo hr (by decide) rfl), (zia hr (by decide) (by rfl) g0), k1, k2⟩

theorem bX4_turnNext_60 {d : Nat} {Q : Option MV → MH → Prop} {h : MH} {u0 u1 u3 u5 : Option MV} {v4 : Int32} {v2 : Nat} (hr : zRf h) (g0 : zokO h v2 2) (g1 : vp_in v4 8) (k : J mX4_turnNext d 0 0 Q 0 0 86 [u0, u1, some (.inr (.inr v2)), u3, some (.inl v4), u5] [.inl (h.1 (v2 + 4) v4.toNatClampNeg)] h) : J mX4_turnNext d 0 0 Q 0 0 60 [u0, u1, some (.inr (.inr v2)), u3, some (.inl v4), u5] [] h := by
  refine zrun 35 5 qX4_turnNext (o := 4) rfl ?_
  show zokO h v2 2 ∧ zokA h (h.2.2.1 v2 4) 20 v4 ∧ J mX4_turnNext d 0 0 Q 0 0 86 [u0, u1, some (.inr (.inr v2)), u3, some (.inl v4), u5] [.inl (h.1 (h.2.2.1 v2 4) v4.toNatClampNeg)] h
  rw [(show h.2.2.1 v2 4 = (v2 + 4) from (hr.f2 4 g0 (by decide)))]
  exact ⟨g0, (zca hr g0 (by decide) (by decide) g1), k⟩

theorem bX4_turnNext_70 {d : Nat} {Q : Option MV → MH → Prop} {h : MH} {u1 u3 u5 : Option MV} {v4 : Int32} {v2 : Nat} (hr : zRf h) (g0 : vp_in v4 8) (g1 : zokO h v2 2) (k : J mX4_turnNext d 0 0 Q 0 0 86 [some (.inr (.inr 58)), u1, some (.inr (.inr v2)), u3, some (.inl v4), u5] [.inl ((-(h.1 61 v4.toNatClampNeg)) * (h.1 (v2 + 4) v4.toNatClampNeg))] h) : J mX4_turnNext d 0 0 Q 0 0 70 [some (.inr (.inr 58)), u1, some (.inr (.inr v2)), u3, some (.inl v4), u5] [] h := by
  refine zrun 40 10 qX4_turnNext (o := 4) rfl ?_
  show zokO h 58 4 ∧ zokA h (h.2.2.1 58 4) 20 v4 ∧ zokO h v2 2 ∧ zokA h (h.2.2.1 v2 4) 20 v4 ∧ J mX4_turnNext d 0 0 Q 0 0 86 [some (.inr (.inr 58)), u1, some (.inr (.inr v2)), u3, some (.inl v4), u5] [.inl ((-(h.1 (h.2.2.1 58 4) v4.toNatClampNeg)) * (h.1 (h.2.2.1 v2 4) v4.toNatClampNeg))] h
  rw [(show h.2.2.1 58 4 = 61 from (hr.at (by decide) (by decide) (by rfl))), (show h.2.2.1 v2 4 = (v2 + 4) from (hr.f2 4 g1 (by decide)))]
  exact ⟨(zo hr (by decide) rfl), (zia hr (by decide) (by rfl) g0), g1, (zca hr g1 (by decide) (by decide) g0), k⟩

theorem bX4_turnNext_86 {d d' : Nat} {Q : Option MV → MH → Prop} {h : MH} {u0 u3 u5 : Option MV} {vs0 v4 : Int32} {v2 : Nat} (hr : zRf h) (gr : zokO h v2 2) (hd : d' + 1 ≤ d) (k : Con mX2_sparksOf d' 0 0 [.inr (.inr v2), .inl v4] h (zri fun (x : Int32) h' => J mX4_turnNext d 0 0 Q 0 0 100 [u0, some (.inr (.inr 48)), some (.inr (.inr v2)), u3, some (.inl v4), some (.inl vs0)] [.inl x, .inl v4, .inr (.inr 49)] h')) : J mX4_turnNext d 0 0 Q 0 0 86 [u0, some (.inr (.inr 48)), some (.inr (.inr v2)), u3, some (.inl v4), u5] [.inl vs0] h := by
  refine zrun 50 6 qX4_turnNext (o := 4) rfl ?_
  show zokO h 48 8 ∧ J mX4_turnNext d 0 0 Q 0 0 97 [u0, some (.inr (.inr 48)), some (.inr (.inr v2)), u3, some (.inl v4), some (.inl vs0)] [.inl v4, .inr (.inr v2), .inl v4, .inr (.inr (h.2.2.1 48 1))] h
  rw [(show h.2.2.1 48 1 = 49 from (hr.at (by decide) (by decide) (by rfl)))]
  exact ⟨(zo hr (by decide) rfl), zcVi (as := [.inl v4]) (zat qX4_turnNext 56 (by rfl)) l4_79 rfl hd rfl (Nat.le_of_ble_eq_true rfl) zle0 (ci := 2) (by decide) rfl gr k⟩

theorem bX4_turnNext_100 {d : Nat} {Q : Option MV → MH → Prop} {h : MH} {u1 u2 u3 : Option MV} {vs1 vs2 v5 v4 : Int32} {vs0 : Nat} (hr : zRf h) (g0 : zokA h vs0 20 vs1) (g1 : vp_in v4 8) (k1 : ((zsI h vs0 vs1.toNatClampNeg (((vs2 * ((nI 100) + v5)) / (nI 100)) * (nI 256))).1 61 v4.toNatClampNeg) ≤ 0 → J mX4_turnNext d 0 0 Q 0 0 126 [some (.inr (.inr 58)), u1, u2, u3, some (.inl v4), some (.inl v5)] [] (zsI h vs0 vs1.toNatClampNeg (((vs2 * ((nI 100) + v5)) / (nI 100)) * (nI 256)))) (k2 : ¬ ((zsI h vs0 vs1.toNatClampNeg (((vs2 * ((nI 100) + v5)) / (nI 100)) * (nI 256))).1 61 v4.toNatClampNeg) ≤ 0 → J mX4_turnNext d 0 0 Q 0 0 124 [some (.inr (.inr 58)), u1, u2, u3, some (.inl v4), some (.inl v5)] [] (zsI h vs0 vs1.toNatClampNeg (((vs2 * ((nI 100) + v5)) / (nI 100)) * (nI 256)))) : J mX4_turnNext d 0 0 Q 0 0 100 [some (.inr (.inr 58)), u1, u2, u3, some (.inl v4), some (.inl v5)] [.inl vs2, .inl vs1, .inr (.inr vs0)] h := by
  refine zrun 57 14 qX4_turnNext (o := 4) rfl ?_
  show ¬ (nI 100) = 0 ∧ zokA h vs0 20 vs1 ∧ zokO (zsI h vs0 vs1.toNatClampNeg (((vs2 * ((nI 100) + v5)) / (nI 100)) * (nI 256))) 58 4 ∧ zokA (zsI h vs0 vs1.toNatClampNeg (((vs2 * ((nI 100) + v5)) / (nI 100)) * (nI 256))) (h.2.2.1 58 4) 20 v4 ∧ ((((zsI h vs0 vs1.toNatClampNeg (((vs2 * ((nI 100) + v5)) / (nI 100)) * (nI 256))).1 (h.2.2.1 58 4) v4.toNatClampNeg) ≤ 0 → J mX4_turnNext d 0 0 Q 0 0 126 [some (.inr (.inr 58)), u1, u2, u3, some (.inl v4), some (.inl v5)] [] (zsI h vs0 vs1.toNatClampNeg (((vs2 * ((nI 100) + v5)) / (nI 100)) * (nI 256)))) ∧ (¬ ((zsI h vs0 vs1.toNatClampNeg (((vs2 * ((nI 100) + v5)) / (nI 100)) * (nI 256))).1 (h.2.2.1 58 4) v4.toNatClampNeg) ≤ 0 → J mX4_turnNext d 0 0 Q 0 0 124 [some (.inr (.inr 58)), u1, u2, u3, some (.inl v4), some (.inl v5)] [] (zsI h vs0 vs1.toNatClampNeg (((vs2 * ((nI 100) + v5)) / (nI 100)) * (nI 256)))))
  rw [(show h.2.2.1 58 4 = 61 from (hr.at (by decide) (by decide) (by rfl)))]
  exact ⟨(by decide), g0, (zo hr (by decide) rfl), (zia hr (by decide) (by rfl) g1), k1, k2⟩

theorem bX4_turnNext_124 {d : Nat} {Q : Option MV → MH → Prop} {h : MH} {u0 u1 u2 u3 u4 u5 : Option MV} (k : Q (some (.inl (nI 1))) h) : J mX4_turnNext d 0 0 Q 0 0 124 [u0, u1, u2, u3, u4, u5] [] h := by
  refine zrun 71 1 qX4_turnNext (o := 4) rfl ?_
  show J mX4_turnNext d 0 0 Q 0 0 125 [u0, u1, u2, u3, u4, u5] [.inl (nI 1)] h
  exact J_iret (ty := .boolean) (zat qX4_turnNext 72 (by rfl)) rfl (by decide) (Nat.le_refl 0) (Nat.le_refl 0) k

theorem bX4_turnNext_126 {d : Nat} {Q : Option MV → MH → Prop} {h : MH} {u0 u1 u2 u5 : Option MV} {v4 v3 : Int32} (k : J mX4_turnNext d 0 0 Q 0 0 3 [u0, u1, u2, some (.inl v3), some (.inl (v4 + nI 1)), u5] [] h) : J mX4_turnNext d 0 0 Q 0 0 126 [u0, u1, u2, some (.inl v3), some (.inl v4), u5] [] h := by
  refine zrun 73 2 qX4_turnNext (o := 4) rfl ?_
  show J mX4_turnNext d 0 0 Q 0 0 3 [u0, u1, u2, some (.inl v3), some (.inl (v4 + nI 1)), u5] [] h
  exact k

theorem bX4_turnNext_132 {d : Nat} {Q : Option MV → MH → Prop} {h : MH} {u0 u1 u2 u3 u4 u5 : Option MV} (k : Q (some (.inl (nI 0))) h) : J mX4_turnNext d 0 0 Q 0 0 132 [u0, u1, u2, u3, u4, u5] [] h := by
  refine zrun 75 1 qX4_turnNext (o := 4) rfl ?_
  show J mX4_turnNext d 0 0 Q 0 0 133 [u0, u1, u2, u3, u4, u5] [.inl (nI 0)] h
  exact J_iret (ty := .boolean) (zat qX4_turnNext 76 (by rfl)) rfl (by decide) (Nat.le_refl 0) (Nat.le_refl 0) k

theorem bX0_init_4 {d mc ms cs ss : Nat} {Q : Option MV → MH → Prop} {h : MH} (hc : cs ≤ mc ∧ ss ≤ ms) (k : J mX0_init d mc ms Q cs ss 6 [some (.inr (.inr 77))] [.inl (nI 2), .inr (.inr 77)] h) : J mX0_init d mc ms Q cs ss 4 [some (.inr (.inr 77))] [] h := by
  refine zrun 2 2 qX0_init (o := 0) rfl ?_
  show J mX0_init d mc ms Q cs ss 6 [some (.inr (.inr 77))] [.inl (nI 2), .inr (.inr 77)] h
  exact k

theorem bX0_lay_0 {d : Nat} {Q : Option MV → MH → Prop} {h : MH} {u1 u3 u4 : Option MV} {v2 : Int32} (hr : zRf h) (k : J mX0_lay d 0 0 Q 0 0 7 [some (.inr (.inr 77)), u1, some (.inl v2), some (.inl (nI 0)), u4] [] (zsI h 77 0 (nI 0))) : J mX0_lay d 0 0 Q 0 0 0 [some (.inr (.inr 77)), u1, some (.inl v2), u3, u4] [] h := by
  refine zrun 0 5 qX0_lay (o := 0) rfl ?_
  show zokO h 77 0 ∧ J mX0_lay d 0 0 Q 0 0 7 [some (.inr (.inr 77)), u1, some (.inl v2), some (.inl (nI 0)), u4] [] (zsI h 77 0 (nI 0))
  exact ⟨(zo hr (by decide) rfl), k⟩

theorem bX0_lay_7 {d : Nat} {Q : Option MV → MH → Prop} {h : MH} {u0 u2 u4 : Option MV} {v3 : Int32} {v1 : Nat} (g0 : zokO h v1 2) (k1 : (h.1 v1 0) ≤ v3 → J mX0_lay d 0 0 Q 0 0 111 [u0, some (.inr (.inr v1)), u2, some (.inl v3), u4] [] h) (k2 : ¬ (h.1 v1 0) ≤ v3 → J mX0_lay d 0 0 Q 0 0 15 [u0, some (.inr (.inr v1)), u2, some (.inl v3), u4] [] h) : J mX0_lay d 0 0 Q 0 0 7 [u0, some (.inr (.inr v1)), u2, some (.inl v3), u4] [] h := by
  refine zrun 5 4 qX0_lay (o := 0) rfl ?_
  show zokO h v1 2 ∧ (((h.1 v1 0) ≤ v3 → J mX0_lay d 0 0 Q 0 0 111 [u0, some (.inr (.inr v1)), u2, some (.inl v3), u4] [] h) ∧ (¬ (h.1 v1 0) ≤ v3 → J mX0_lay d 0 0 Q 0 0 15 [u0, some (.inr (.inr v1)), u2, some (.inl v3), u4] [] h))
  exact ⟨g0, k1, k2⟩

theorem bX0_lay_15 {d : Nat} {Q : Option MV → MH → Prop} {h : MH} {u1 u2 u3 u4 : Option MV} (hr : zRf h) (k1 : (nI 2) ≤ (h.1 77 0) → J mX0_lay d 0 0 Q 0 0 111 [some (.inr (.inr 77)), u1, u2, u3, u4] [] h) (k2 : ¬ (nI 2) ≤ (h.1 77 0) → J mX0_lay d 0 0 Q 0 0 23 [some (.inr (.inr 77)), u1, u2, u3, u4] [] h) : J mX0_lay d 0 0 Q 0 0 15 [some (.inr (.inr 77)), u1, u2, u3, u4] [] h := by
  refine zrun 9 4 qX0_lay (o := 0) rfl ?_
  show zokO h 77 0 ∧ (((nI 2) ≤ (h.1 77 0) → J mX0_lay d 0 0 Q 0 0 111 [some (.inr (.inr 77)), u1, u2, u3, u4] [] h) ∧ (¬ (nI 2) ≤ (h.1 77 0) → J mX0_lay d 0 0 Q 0 0 23 [some (.inr (.inr 77)), u1, u2, u3, u4] [] h))
  exact ⟨(zo hr (by decide) rfl), k1, k2⟩

theorem bX0_lay_23 {d : Nat} {Q : Option MV → MH → Prop} {h : MH} {u0 u1 u4 : Option MV} {v2 v3 : Int32} (k1 : ((v2 >>> (v3 &&& 31)) &&& (nI 1)) = 0 → J mX0_lay d 0 0 Q 0 0 105 [u0, u1, some (.inl v2), some (.inl v3), u4] [] h) (k2 : ¬ ((v2 >>> (v3 &&& 31)) &&& (nI 1)) = 0 → J mX0_lay d 0 0 Q 0 0 31 [u0, u1, some (.inl v2), some (.inl v3), u4] [] h) : J mX0_lay d 0 0 Q 0 0 23 [u0, u1, some (.inl v2), some (.inl v3), u4] [] h := by
  refine zrun 13 6 qX0_lay (o := 0) rfl ?_
  show ((((v2 >>> (v3 &&& 31)) &&& (nI 1)) = 0 → J mX0_lay d 0 0 Q 0 0 105 [u0, u1, some (.inl v2), some (.inl v3), u4] [] h) ∧ (¬ ((v2 >>> (v3 &&& 31)) &&& (nI 1)) = 0 → J mX0_lay d 0 0 Q 0 0 31 [u0, u1, some (.inl v2), some (.inl v3), u4] [] h))
  exact ⟨k1, k2⟩

theorem bX0_lay_31 {d d' : Nat} {Q : Option MV → MH → Prop} {h : MH} {u2 u4 : Option MV} {v3 : Int32} {v1 : Nat} (hr : zRf h) (g0 : zokO h v1 2) (g1 : vp_in v3 8) (g2 : vp_in (h.1 77 0) 2) (hd : d' + 1 ≤ d) (k : Con mX2_sparksOf d' 0 0 [.inr (.inr v1), .inl v3] (zsI h 78 (h.1 77 0).toNatClampNeg (h.1 (v1 + 1) v3.toNatClampNeg)) (zri fun (x : Int32) h' => J mX0_lay d 0 0 Q 0 0 59 [some (.inr (.inr 77)), some (.inr (.inr v1)), u2, some (.inl v3), u4] [.inl x, .inl ((zsI h 78 (h.1 77 0).toNatClampNeg (h.1 (v1 + 1) v3.toNatClampNeg)).1 77 0), .inr (.inr 79)] h')) : J mX0_lay d 0 0 Q 0 0 31 [some (.inr (.inr 77)), some (.inr (.inr v1)), u2, some (.inl v3), u4] [] h := by
  refine zrun 19 15 qX0_lay (o := 0) rfl ?_
  show zokO h 77 0 ∧ zokO h 77 0 ∧ zokO h v1 2 ∧ zokA h (h.2.2.1 v1 1) 20 v3 ∧ zokA h (h.2.2.1 77 2) 20 (h.1 77 0) ∧ zokO (zsI h (h.2.2.1 77 2) (h.1 77 0).toNatClampNeg (h.1 (h.2.2.1 v1 1) v3.toNatClampNeg)) 77 0 ∧ zokO (zsI h (h.2.2.1 77 2) (h.1 77 0).toNatClampNeg (h.1 (h.2.2.1 v1 1) v3.toNatClampNeg)) 77 0 ∧ J mX0_lay d 0 0 Q 0 0 56 [some (.inr (.inr 77)), some (.inr (.inr v1)), u2, some (.inl v3), u4] [.inl v3, .inr (.inr v1), .inl ((zsI h (h.2.2.1 77 2) (h.1 77 0).toNatClampNeg (h.1 (h.2.2.1 v1 1) v3.toNatClampNeg)).1 77 0), .inr (.inr (h.2.2.1 77 3))] (zsI h (h.2.2.1 77 2) (h.1 77 0).toNatClampNeg (h.1 (h.2.2.1 v1 1) v3.toNatClampNeg))
  rw [(show h.2.2.1 77 2 = 78 from (hr.at (by decide) (by decide) (by rfl))), (show h.2.2.1 v1 1 = (v1 + 1) from (hr.f2 1 g0 (by decide))), (show h.2.2.1 77 3 = 79 from (hr.at (by decide) (by decide) (by rfl)))]
  exact ⟨(zo hr (by decide) rfl), (zo hr (by decide) rfl), g0, (zca hr g0 (by decide) (by decide) g1), (zia hr (by decide) (by rfl) g2), (zo hr (by decide) rfl), (zo hr (by decide) rfl), zcVi (as := [.inl v3]) (zat qX0_lay 34 (by rfl)) l0_36 rfl hd rfl (Nat.le_of_ble_eq_true rfl) zle0 (ci := 2) (by decide) rfl (show zokO _ _ _ from g0) k⟩

theorem bX0_lay_59 {d : Nat} {Q : Option MV → MH → Prop} {h : MH} {u0 u1 u2 u4 : Option MV} {vs1 vs2 v3 : Int32} {vs0 : Nat} (g0 : zokA h vs0 20 vs1) (k : J mX0_lay d 0 0 Q 0 0 63 [u0, u1, u2, some (.inl v3), some (.inl (nI 0))] [] (zsI h vs0 vs1.toNatClampNeg vs2)) : J mX0_lay d 0 0 Q 0 0 59 [u0, u1, u2, some (.inl v3), u4] [.inl vs2, .inl vs1, .inr (.inr vs0)] h := by
  refine zrun 35 3 qX0_lay (o := 0) rfl ?_
  show zokA h vs0 20 vs1 ∧ J mX0_lay d 0 0 Q 0 0 63 [u0, u1, u2, some (.inl v3), some (.inl (nI 0))] [] (zsI h vs0 vs1.toNatClampNeg vs2)
  exact ⟨g0, k⟩

theorem bX0_lay_63 {d : Nat} {Q : Option MV → MH → Prop} {h : MH} {u0 u1 u2 u3 : Option MV} {v4 : Int32} (k1 : (nI 6) < v4 → J mX0_lay d 0 0 Q 0 0 95 [u0, u1, u2, u3, some (.inl v4)] [] h) (k2 : ¬ (nI 6) < v4 → J mX0_lay d 0 0 Q 0 0 70 [u0, u1, u2, u3, some (.inl v4)] [] h) : J mX0_lay d 0 0 Q 0 0 63 [u0, u1, u2, u3, some (.inl v4)] [] h := by
  refine zrun 38 3 qX0_lay (o := 0) rfl ?_
  show (((nI 6) < v4 → J mX0_lay d 0 0 Q 0 0 95 [u0, u1, u2, u3, some (.inl v4)] [] h) ∧ (¬ (nI 6) < v4 → J mX0_lay d 0 0 Q 0 0 70 [u0, u1, u2, u3, some (.inl v4)] [] h))
  exact ⟨k1, k2⟩

theorem bX0_lay_70 {d d' : Nat} {Q : Option MV → MH → Prop} {h : MH} {u2 : Option MV} {v4 v3 : Int32} {v1 : Nat} (hr : zRf h) (g0 : vp_in (h.1 77 0) 2) (gr : zokO h v1 2) (hd : d' + 1 ≤ d) (k : Con mX2_sparksBefore d' 0 0 [.inr (.inr v1), .inl v3, .inl v4] h (zri fun (x : Int32) h' => J mX0_lay d 0 0 Q 0 0 88 [some (.inr (.inr 77)), some (.inr (.inr v1)), u2, some (.inl v3), some (.inl v4)] [.inl x, .inl v4, .inr (.inr (81 + (h.1 77 0).toNatClampNeg))] h')) : J mX0_lay d 0 0 Q 0 0 70 [some (.inr (.inr 77)), some (.inr (.inr v1)), u2, some (.inl v3), some (.inl v4)] [] h := by
  refine zrun 41 9 qX0_lay (o := 0) rfl ?_
  show zokO h 77 0 ∧ zokO h 77 0 ∧ zokR h (h.2.2.1 77 4) (h.1 77 0) ∧ J mX0_lay d 0 0 Q 0 0 85 [some (.inr (.inr 77)), some (.inr (.inr v1)), u2, some (.inl v3), some (.inl v4)] [.inl v4, .inl v3, .inr (.inr v1), .inl v4, .inr (.inr (h.2.2.1 (h.2.2.1 77 4) (h.1 77 0).toNatClampNeg))] h
  rw [(show h.2.2.1 77 4 = 80 from (hr.at (by decide) (by decide) (by rfl))), (show h.2.2.1 80 (h.1 77 0).toNatClampNeg = (81 + (h.1 77 0).toNatClampNeg) from (hr.a33 (by decide) (by rfl) (vp_lt g0)))]
  exact ⟨(zo hr (by decide) rfl), (zo hr (by decide) rfl), (zir_ hr (by decide) (by rfl) (by decide) g0), zcVi (as := [.inl v3, .inl v4]) (zat qX0_lay 50 (by rfl)) l0_40 rfl hd rfl (Nat.le_of_ble_eq_true rfl) zle0 (ci := 2) (by decide) rfl gr k⟩

theorem bX0_lay_88 {d : Nat} {Q : Option MV → MH → Prop} {h : MH} {u0 u1 u2 : Option MV} {vs1 vs2 v4 v3 : Int32} {vs0 : Nat} (g0 : zokA h vs0 20 vs1) (k : J mX0_lay d 0 0 Q 0 0 63 [u0, u1, u2, some (.inl v3), some (.inl (v4 + nI 1))] [] (zsI h vs0 vs1.toNatClampNeg vs2)) : J mX0_lay d 0 0 Q 0 0 88 [u0, u1, u2, some (.inl v3), some (.inl v4)] [.inl vs2, .inl vs1, .inr (.inr vs0)] h := by
  refine zrun 51 3 qX0_lay (o := 0) rfl ?_
  show zokA h vs0 20 vs1 ∧ J mX0_lay d 0 0 Q 0 0 63 [u0, u1, u2, some (.inl v3), some (.inl (v4 + nI 1))] [] (zsI h vs0 vs1.toNatClampNeg vs2)
  exact ⟨g0, k⟩

theorem bX0_lay_95 {d : Nat} {Q : Option MV → MH → Prop} {h : MH} {u1 u2 u3 u4 : Option MV} (hr : zRf h) (k : J mX0_lay d 0 0 Q 0 0 105 [some (.inr (.inr 77)), u1, u2, u3, u4] [] (zsI h 77 0 ((h.1 77 0) + (nI 1)))) : J mX0_lay d 0 0 Q 0 0 95 [some (.inr (.inr 77)), u1, u2, u3, u4] [] h := by
  refine zrun 54 6 qX0_lay (o := 0) rfl ?_
  show zokO h 77 0 ∧ zokO h 77 0 ∧ J mX0_lay d 0 0 Q 0 0 105 [some (.inr (.inr 77)), u1, u2, u3, u4] [] (zsI h 77 0 ((h.1 77 0) + (nI 1)))
  exact ⟨(zo hr (by decide) rfl), (zo hr (by decide) rfl), k⟩

theorem bX0_lay_105 {d : Nat} {Q : Option MV → MH → Prop} {h : MH} {u0 u1 u4 : Option MV} {v3 v2 : Int32} (k : J mX0_lay d 0 0 Q 0 0 7 [u0, u1, some (.inl v2), some (.inl (v3 + nI 1)), u4] [] h) : J mX0_lay d 0 0 Q 0 0 105 [u0, u1, some (.inl v2), some (.inl v3), u4] [] h := by
  refine zrun 60 2 qX0_lay (o := 0) rfl ?_
  show J mX0_lay d 0 0 Q 0 0 7 [u0, u1, some (.inl v2), some (.inl (v3 + nI 1)), u4] [] h
  exact k

theorem bX0_lay_111 {d : Nat} {Q : Option MV → MH → Prop} {h : MH} {u0 u1 u2 u3 u4 : Option MV} (k : Q none h) : J mX0_lay d 0 0 Q 0 0 111 [u0, u1, u2, u3, u4] [] h := by
  exact J_vret (zat qX0_lay 62 (by rfl)) rfl (Nat.le_refl 0) (Nat.le_refl 0) k

theorem bX0_markAll_0 {d : Nat} {Q : Option MV → MH → Prop} {h : MH} {u2 : Option MV} {v1 : Nat} (hr : zRf h) (k : J mX0_markAll d 0 0 Q 0 0 7 [some (.inr (.inr 77)), some (.inr (.inr v1)), some (.inl (nI 0))] [] (zsR h 77 1 v1)) : J mX0_markAll d 0 0 Q 0 0 0 [some (.inr (.inr 77)), some (.inr (.inr v1)), u2] [] h := by
  refine zrun 0 5 qX0_markAll (o := 0) rfl ?_
  show zokO h 77 0 ∧ J mX0_markAll d 0 0 Q 0 0 7 [some (.inr (.inr 77)), some (.inr (.inr v1)), some (.inl (nI 0))] [] (zsR h 77 1 v1)
  exact ⟨(zo hr (by decide) rfl), k⟩

theorem bX0_markAll_7 {d : Nat} {Q : Option MV → MH → Prop} {h : MH} {u0 u1 : Option MV} {v2 : Int32} (k1 : (nI 4) ≤ v2 → J mX0_markAll d 0 0 Q 0 0 27 [u0, u1, some (.inl v2)] [] h) (k2 : ¬ (nI 4) ≤ v2 → J mX0_markAll d 0 0 Q 0 0 12 [u0, u1, some (.inl v2)] [] h) : J mX0_markAll d 0 0 Q 0 0 7 [u0, u1, some (.inl v2)] [] h := by
  refine zrun 5 3 qX0_markAll (o := 0) rfl ?_
  show (((nI 4) ≤ v2 → J mX0_markAll d 0 0 Q 0 0 27 [u0, u1, some (.inl v2)] [] h) ∧ (¬ (nI 4) ≤ v2 → J mX0_markAll d 0 0 Q 0 0 12 [u0, u1, some (.inl v2)] [] h))
  exact ⟨k1, k2⟩

theorem bX0_markAll_12 {d : Nat} {Q : Option MV → MH → Prop} {h : MH} {v2 : Int32} {v1 : Nat} (hr : zRf h) (g0 : vp_in (nI 0) 13) (g1 : zokA h (84 + 0) 20 v2) (k : J mX0_markAll d 0 0 Q 0 0 7 [some (.inr (.inr 77)), some (.inr (.inr v1)), some (.inl (v2 + nI 1))] [] (zsI h (84 + 0) v2.toNatClampNeg (nI 0))) : J mX0_markAll d 0 0 Q 0 0 12 [some (.inr (.inr 77)), some (.inr (.inr v1)), some (.inl v2)] [] h := by
  refine zrun 8 9 qX0_markAll (o := 0) rfl ?_
  show zokO h 77 0 ∧ zokR h (h.2.2.1 77 5) (nI 0) ∧ zokA h (h.2.2.1 (h.2.2.1 77 5) 0) 20 v2 ∧ J mX0_markAll d 0 0 Q 0 0 7 [some (.inr (.inr 77)), some (.inr (.inr v1)), some (.inl (v2 + nI 1))] [] (zsI h (h.2.2.1 (h.2.2.1 77 5) 0) v2.toNatClampNeg (nI 0))
  rw [(show h.2.2.1 77 5 = 83 from (hr.at (by decide) (by decide) (by rfl))), (show h.2.2.1 83 0 = (84 + 0) from (hr.a33 (by decide) (by rfl) (vp_lt g0)))]
  exact ⟨(zo hr (by decide) rfl), (zir_ hr (by decide) (by rfl) (by decide) g0), g1, k⟩

theorem bX0_markAll_27 {d d' : Nat} {Q : Option MV → MH → Prop} {h : MH} {u1 u2 : Option MV} (hr : zRf h) (hd : d' + 1 ≤ d) (k : Con mX0_go d' 0 0 [.inr (.inr 77), .inl (nI 0), .inl (nI 0), .inl (nI 0)] h (zrv fun h' => J mX0_markAll d 0 0 Q 0 0 34 [some (.inr (.inr 77)), u1, u2] [] h')) : J mX0_markAll d 0 0 Q 0 0 27 [some (.inr (.inr 77)), u1, u2] [] h := by
  refine zrun 17 4 qX0_markAll (o := 0) rfl ?_
  show J mX0_markAll d 0 0 Q 0 0 31 [some (.inr (.inr 77)), u1, u2] [.inl (nI 0), .inl (nI 0), .inl (nI 0), .inr (.inr 77)] h
  exact zcVv (as := [.inl (nI 0), .inl (nI 0), .inl (nI 0)]) (zat qX0_markAll 21 (by rfl)) l0_48 rfl hd rfl (Nat.le_of_ble_eq_true rfl) zle0 (ci := 0) (by decide) rfl (zo hr (by decide) rfl) k

theorem bX0_markAll_34 {d : Nat} {Q : Option MV → MH → Prop} {h : MH} {u0 u1 u2 : Option MV} (k : Q none h) : J mX0_markAll d 0 0 Q 0 0 34 [u0, u1, u2] [] h := by
  exact J_vret (zat qX0_markAll 22 (by rfl)) rfl (Nat.le_refl 0) (Nat.le_refl 0) k

theorem bX0_go_0 {d : Nat} {Q : Option MV → MH → Prop} {h : MH} {u0 u2 u3 u4 u5 : Option MV} {v1 : Int32} (k1 : v1 < (nI 12) → J mX0_go d 0 0 Q 0 0 7 [u0, some (.inl v1), u2, u3, u4, u5] [] h) (k2 : ¬ v1 < (nI 12) → J mX0_go d 0 0 Q 0 0 6 [u0, some (.inl v1), u2, u3, u4, u5] [] h) : J mX0_go d 0 0 Q 0 0 0 [u0, some (.inl v1), u2, u3, u4, u5] [] h := by
  refine zrun 0 3 qX0_go (o := 0) rfl ?_
  show ((v1 < (nI 12) → J mX0_go d 0 0 Q 0 0 7 [u0, some (.inl v1), u2, u3, u4, u5] [] h) ∧ (¬ v1 < (nI 12) → J mX0_go d 0 0 Q 0 0 6 [u0, some (.inl v1), u2, u3, u4, u5] [] h))
  exact ⟨k1, k2⟩

theorem bX0_go_6 {d : Nat} {Q : Option MV → MH → Prop} {h : MH} {u0 u1 u2 u3 u4 u5 : Option MV} (k : Q none h) : J mX0_go d 0 0 Q 0 0 6 [u0, u1, u2, u3, u4, u5] [] h := by
  exact J_vret (zat qX0_go 3 (by rfl)) rfl (Nat.le_refl 0) (Nat.le_refl 0) k

theorem bX0_go_7 {d d' : Nat} {Q : Option MV → MH → Prop} {h : MH} {u2 u3 u4 u5 : Option MV} {v1 : Int32} (hr : zRf h) (hd : d' + 1 ≤ d) (k : Con mX0_places d' 0 0 [.inr (.inr 77), .inl v1] h (zri fun (x : Int32) h' => J mX0_go d 0 0 Q 0 0 12 [some (.inr (.inr 77)), some (.inl v1), u2, u3, u4, u5] [.inl x] h')) : J mX0_go d 0 0 Q 0 0 7 [some (.inr (.inr 77)), some (.inl v1), u2, u3, u4, u5] [] h := by
  refine zrun 4 2 qX0_go (o := 0) rfl ?_
  show J mX0_go d 0 0 Q 0 0 9 [some (.inr (.inr 77)), some (.inl v1), u2, u3, u4, u5] [.inl v1, .inr (.inr 77)] h
  exact zcVi (as := [.inl v1]) (zat qX0_go 6 (by rfl)) l0_52 rfl hd rfl (Nat.le_of_ble_eq_true rfl) zle0 (ci := 0) (by decide) rfl (zo hr (by decide) rfl) k

theorem bX0_go_12 {d : Nat} {Q : Option MV → MH → Prop} {h : MH} {u0 u1 u2 u4 u5 : Option MV} {vs0 v3 : Int32} (k : J mX0_go d 0 0 Q 0 0 21 [u0, u1, u2, some (.inl v3), some (.inl (vs0 &&& (v3 ^^^ (-(nI 1))))), some (.inl (nI 0))] [] h) : J mX0_go d 0 0 Q 0 0 12 [u0, u1, u2, some (.inl v3), u4, u5] [.inl vs0] h := by
  refine zrun 7 7 qX0_go (o := 0) rfl ?_
  show J mX0_go d 0 0 Q 0 0 21 [u0, u1, u2, some (.inl v3), some (.inl (vs0 &&& (v3 ^^^ (-(nI 1))))), some (.inl (nI 0))] [] h
  exact k

theorem bX0_go_21 {d : Nat} {Q : Option MV → MH → Prop} {h : MH} {u0 u1 u2 u3 u4 : Option MV} {v5 : Int32} (k1 : (nI 16) ≤ v5 → J mX0_go d 0 0 Q 0 0 54 [u0, u1, u2, u3, u4, some (.inl v5)] [] h) (k2 : ¬ (nI 16) ≤ v5 → J mX0_go d 0 0 Q 0 0 28 [u0, u1, u2, u3, u4, some (.inl v5)] [] h) : J mX0_go d 0 0 Q 0 0 21 [u0, u1, u2, u3, u4, some (.inl v5)] [] h := by
  refine zrun 14 3 qX0_go (o := 0) rfl ?_
  show (((nI 16) ≤ v5 → J mX0_go d 0 0 Q 0 0 54 [u0, u1, u2, u3, u4, some (.inl v5)] [] h) ∧ (¬ (nI 16) ≤ v5 → J mX0_go d 0 0 Q 0 0 28 [u0, u1, u2, u3, u4, some (.inl v5)] [] h))
  exact ⟨k1, k2⟩

theorem bX0_go_28 {d : Nat} {Q : Option MV → MH → Prop} {h : MH} {u0 u1 u2 u3 : Option MV} {v5 v4 : Int32} (k1 : ¬ (v5 &&& (v4 ^^^ (-(nI 1)))) = 0 → J mX0_go d 0 0 Q 0 0 48 [u0, u1, u2, u3, some (.inl v4), some (.inl v5)] [] h) (k2 : (v5 &&& (v4 ^^^ (-(nI 1)))) = 0 → J mX0_go d 0 0 Q 0 0 38 [u0, u1, u2, u3, some (.inl v4), some (.inl v5)] [] h) : J mX0_go d 0 0 Q 0 0 28 [u0, u1, u2, u3, some (.inl v4), some (.inl v5)] [] h := by
  refine zrun 17 6 qX0_go (o := 0) rfl ?_
  show ((¬ (v5 &&& (v4 ^^^ (-(nI 1)))) = 0 → J mX0_go d 0 0 Q 0 0 48 [u0, u1, u2, u3, some (.inl v4), some (.inl v5)] [] h) ∧ ((v5 &&& (v4 ^^^ (-(nI 1)))) = 0 → J mX0_go d 0 0 Q 0 0 38 [u0, u1, u2, u3, some (.inl v4), some (.inl v5)] [] h))
  exact ⟨k1, k2⟩

theorem bX0_go_38 {d d' : Nat} {Q : Option MV → MH → Prop} {h : MH} {u4 : Option MV} {v1 v2 v3 v5 : Int32} (hr : zRf h) (hd : d' + 1 ≤ d) (k : Con mX0_follow d' 0 0 [.inr (.inr 77), .inl v1, .inl v2, .inl (v3 ||| v5)] h (zrv fun h' => J mX0_go d 0 0 Q 0 0 48 [some (.inr (.inr 77)), some (.inl v1), some (.inl v2), some (.inl v3), u4, some (.inl v5)] [] h')) : J mX0_go d 0 0 Q 0 0 38 [some (.inr (.inr 77)), some (.inl v1), some (.inl v2), some (.inl v3), u4, some (.inl v5)] [] h := by
  refine zrun 23 6 qX0_go (o := 0) rfl ?_
  show J mX0_go d 0 0 Q 0 0 45 [some (.inr (.inr 77)), some (.inl v1), some (.inl v2), some (.inl v3), u4, some (.inl v5)] [.inl (v3 ||| v5), .inl v2, .inl v1, .inr (.inr 77)] h
  exact zcVv (as := [.inl v1, .inl v2, .inl (v3 ||| v5)]) (zat qX0_go 29 (by rfl)) l0_55 rfl hd rfl (Nat.le_of_ble_eq_true rfl) zle0 (ci := 0) (by decide) rfl (zo hr (by decide) rfl) k

theorem bX0_go_48 {d : Nat} {Q : Option MV → MH → Prop} {h : MH} {u0 u1 u2 u3 : Option MV} {v5 v4 : Int32} (k : J mX0_go d 0 0 Q 0 0 21 [u0, u1, u2, u3, some (.inl v4), some (.inl (v5 + nI 1))] [] h) : J mX0_go d 0 0 Q 0 0 48 [u0, u1, u2, u3, some (.inl v4), some (.inl v5)] [] h := by
  refine zrun 30 2 qX0_go (o := 0) rfl ?_
  show J mX0_go d 0 0 Q 0 0 21 [u0, u1, u2, u3, some (.inl v4), some (.inl (v5 + nI 1))] [] h
  exact k

theorem bX0_go_54 {d : Nat} {Q : Option MV → MH → Prop} {h : MH} {u0 u1 u2 u3 u4 u5 : Option MV} (k : Q none h) : J mX0_go d 0 0 Q 0 0 54 [u0, u1, u2, u3, u4, u5] [] h := by
  exact J_vret (zat qX0_go 32 (by rfl)) rfl (Nat.le_refl 0) (Nat.le_refl 0) k

theorem bX0_places_0 {d : Nat} {Q : Option MV → MH → Prop} {h : MH} {u0 u2 u3 : Option MV} {v1 : Int32} (k : J mX0_places d 0 0 Q 0 0 4 [u0, some (.inl v1), some (.inl (nI 0)), some (.inl (nI 0))] [] h) : J mX0_places d 0 0 Q 0 0 0 [u0, some (.inl v1), u2, u3] [] h := by
  refine zrun 0 4 qX0_places (o := 0) rfl ?_
  show J mX0_places d 0 0 Q 0 0 4 [u0, some (.inl v1), some (.inl (nI 0)), some (.inl (nI 0))] [] h
  exact k

theorem bX0_places_4 {d : Nat} {Q : Option MV → MH → Prop} {h : MH} {u1 u2 : Option MV} {v3 : Int32} (hr : zRf h) (k1 : (h.1 77 0) ≤ v3 → J mX0_places d 0 0 Q 0 0 58 [some (.inr (.inr 77)), u1, u2, some (.inl v3)] [] h) (k2 : ¬ (h.1 77 0) ≤ v3 → J mX0_places d 0 0 Q 0 0 12 [some (.inr (.inr 77)), u1, u2, some (.inl v3)] [] h) : J mX0_places d 0 0 Q 0 0 4 [some (.inr (.inr 77)), u1, u2, some (.inl v3)] [] h := by
  refine zrun 4 4 qX0_places (o := 0) rfl ?_
  show zokO h 77 0 ∧ (((h.1 77 0) ≤ v3 → J mX0_places d 0 0 Q 0 0 58 [some (.inr (.inr 77)), u1, u2, some (.inl v3)] [] h) ∧ (¬ (h.1 77 0) ≤ v3 → J mX0_places d 0 0 Q 0 0 12 [some (.inr (.inr 77)), u1, u2, some (.inl v3)] [] h))
  exact ⟨(zo hr (by decide) rfl), k1, k2⟩

theorem bX0_places_12 {d : Nat} {Q : Option MV → MH → Prop} {h : MH} {u2 : Option MV} {v1 v3 : Int32} (hr : zRf h) (g0 : vp_in v1 13) (g1 : zokA h (84 + v1.toNatClampNeg) 20 ((nI 2) * v3)) (g2 : zokA h (84 + v1.toNatClampNeg) 20 (((nI 2) * v3) + (nI 1))) (g3 : vp_in v3 2) (k1 : (h.1 79 v3.toNatClampNeg) ≤ ((h.1 (84 + v1.toNatClampNeg) ((nI 2) * v3).toNatClampNeg) + (h.1 (84 + v1.toNatClampNeg) (((nI 2) * v3) + (nI 1)).toNatClampNeg)) → J mX0_places d 0 0 Q 0 0 52 [some (.inr (.inr 77)), some (.inl v1), u2, some (.inl v3)] [] h) (k2 : ¬ (h.1 79 v3.toNatClampNeg) ≤ ((h.1 (84 + v1.toNatClampNeg) ((nI 2) * v3).toNatClampNeg) + (h.1 (84 + v1.toNatClampNeg) (((nI 2) * v3) + (nI 1)).toNatClampNeg)) → J mX0_places d 0 0 Q 0 0 44 [some (.inr (.inr 77)), some (.inl v1), u2, some (.inl v3)] [] h) : J mX0_places d 0 0 Q 0 0 12 [some (.inr (.inr 77)), some (.inl v1), u2, some (.inl v3)] [] h := by
  refine zrun 8 24 qX0_places (o := 0) rfl ?_
  show zokO h 77 0 ∧ zokR h (h.2.2.1 77 5) v1 ∧ zokA h (h.2.2.1 (h.2.2.1 77 5) v1.toNatClampNeg) 20 ((nI 2) * v3) ∧ zokO h 77 0 ∧ zokR h (h.2.2.1 77 5) v1 ∧ zokA h (h.2.2.1 (h.2.2.1 77 5) v1.toNatClampNeg) 20 (((nI 2) * v3) + (nI 1)) ∧ zokO h 77 0 ∧ zokA h (h.2.2.1 77 3) 20 v3 ∧ (((h.1 (h.2.2.1 77 3) v3.toNatClampNeg) ≤ ((h.1 (h.2.2.1 (h.2.2.1 77 5) v1.toNatClampNeg) ((nI 2) * v3).toNatClampNeg) + (h.1 (h.2.2.1 (h.2.2.1 77 5) v1.toNatClampNeg) (((nI 2) * v3) + (nI 1)).toNatClampNeg)) → J mX0_places d 0 0 Q 0 0 52 [some (.inr (.inr 77)), some (.inl v1), u2, some (.inl v3)] [] h) ∧ (¬ (h.1 (h.2.2.1 77 3) v3.toNatClampNeg) ≤ ((h.1 (h.2.2.1 (h.2.2.1 77 5) v1.toNatClampNeg) ((nI 2) * v3).toNatClampNeg) + (h.1 (h.2.2.1 (h.2.2.1 77 5) v1.toNatClampNeg) (((nI 2) * v3) + (nI 1)).toNatClampNeg)) → J mX0_places d 0 0 Q 0 0 44 [some (.inr (.inr 77)), some (.inl v1), u2, some (.inl v3)] [] h))
  rw [(show h.2.2.1 77 5 = 83 from (hr.at (by decide) (by decide) (by rfl))), (show h.2.2.1 83 v1.toNatClampNeg = (84 + v1.toNatClampNeg) from (hr.a33 (by decide) (by rfl) (vp_lt g0))), (show h.2.2.1 77 3 = 79 from (hr.at (by decide) (by decide) (by rfl)))]
  exact ⟨(zo hr (by decide) rfl), (zir_ hr (by decide) (by rfl) (by decide) g0), g1, (zo hr (by decide) rfl), (zir_ hr (by decide) (by rfl) (by decide) g0), g2, (zo hr (by decide) rfl), (zia hr (by decide) (by rfl) g3), k1, k2⟩

theorem bX0_places_44 {d : Nat} {Q : Option MV → MH → Prop} {h : MH} {u0 : Option MV} {v2 v3 v1 : Int32} (k : J mX0_places d 0 0 Q 0 0 52 [u0, some (.inl v1), some (.inl (v2 ||| ((nI 3) <<< (((nI 2) * v3) &&& 31)))), some (.inl v3)] [] h) : J mX0_places d 0 0 Q 0 0 44 [u0, some (.inl v1), some (.inl v2), some (.inl v3)] [] h := by
  refine zrun 32 8 qX0_places (o := 0) rfl ?_
  show J mX0_places d 0 0 Q 0 0 52 [u0, some (.inl v1), some (.inl (v2 ||| ((nI 3) <<< (((nI 2) * v3) &&& 31)))), some (.inl v3)] [] h
  exact k

theorem bX0_places_52 {d : Nat} {Q : Option MV → MH → Prop} {h : MH} {u0 u1 : Option MV} {v3 v2 : Int32} (k : J mX0_places d 0 0 Q 0 0 4 [u0, u1, some (.inl v2), some (.inl (v3 + nI 1))] [] h) : J mX0_places d 0 0 Q 0 0 52 [u0, u1, some (.inl v2), some (.inl v3)] [] h := by
  refine zrun 40 2 qX0_places (o := 0) rfl ?_
  show J mX0_places d 0 0 Q 0 0 4 [u0, u1, some (.inl v2), some (.inl (v3 + nI 1))] [] h
  exact k

theorem bX0_places_58 {d : Nat} {Q : Option MV → MH → Prop} {h : MH} {u0 u1 u3 : Option MV} {v2 : Int32} (k : Q (some (.inl v2)) h) : J mX0_places d 0 0 Q 0 0 58 [u0, u1, some (.inl v2), u3] [] h := by
  refine zrun 42 1 qX0_places (o := 0) rfl ?_
  show J mX0_places d 0 0 Q 0 0 59 [u0, u1, some (.inl v2), u3] [.inl v2] h
  exact J_iret (ty := .int) (zat qX0_places 43 (by rfl)) rfl rfl (Nat.le_refl 0) (Nat.le_refl 0) k

theorem bX0_follow_0 {d d' : Nat} {Q : Option MV → MH → Prop} {h : MH} {u2 u3 u4 u5 u6 : Option MV} {v1 : Int32} (hr : zRf h) (hd : d' + 1 ≤ d) (k : Con mX0_places d' 0 0 [.inr (.inr 77), .inl v1] h (zri fun (x : Int32) h' => J mX0_follow d 0 0 Q 0 0 5 [some (.inr (.inr 77)), some (.inl v1), u2, u3, u4, u5, u6] [.inl x] h')) : J mX0_follow d 0 0 Q 0 0 0 [some (.inr (.inr 77)), some (.inl v1), u2, u3, u4, u5, u6] [] h := by
  refine zrun 0 2 qX0_follow (o := 0) rfl ?_
  show J mX0_follow d 0 0 Q 0 0 2 [some (.inr (.inr 77)), some (.inl v1), u2, u3, u4, u5, u6] [.inl v1, .inr (.inr 77)] h
  exact zcVi (as := [.inl v1]) (zat qX0_follow 2 (by rfl)) l0_52 rfl hd rfl (Nat.le_of_ble_eq_true rfl) zle0 (ci := 0) (by decide) rfl (zo hr (by decide) rfl) k

theorem bX0_follow_5 {d : Nat} {Q : Option MV → MH → Prop} {h : MH} {u0 u1 u2 u4 u5 u6 : Option MV} {vs0 v3 : Int32} (k1 : ¬ (vs0 &&& v3) = 0 → J mX0_follow d 0 0 Q 0 0 15 [u0, u1, u2, some (.inl v3), some (.inl (vs0 &&& v3)), u5, u6] [] h) (k2 : (vs0 &&& v3) = 0 → J mX0_follow d 0 0 Q 0 0 14 [u0, u1, u2, some (.inl v3), some (.inl (vs0 &&& v3)), u5, u6] [] h) : J mX0_follow d 0 0 Q 0 0 5 [u0, u1, u2, some (.inl v3), u4, u5, u6] [.inl vs0] h := by
  refine zrun 3 5 qX0_follow (o := 0) rfl ?_
  show ((¬ (vs0 &&& v3) = 0 → J mX0_follow d 0 0 Q 0 0 15 [u0, u1, u2, some (.inl v3), some (.inl (vs0 &&& v3)), u5, u6] [] h) ∧ ((vs0 &&& v3) = 0 → J mX0_follow d 0 0 Q 0 0 14 [u0, u1, u2, some (.inl v3), some (.inl (vs0 &&& v3)), u5, u6] [] h))
  exact ⟨k1, k2⟩

theorem bX0_follow_14 {d : Nat} {Q : Option MV → MH → Prop} {h : MH} {u0 u1 u2 u3 u4 u5 u6 : Option MV} (k : Q none h) : J mX0_follow d 0 0 Q 0 0 14 [u0, u1, u2, u3, u4, u5, u6] [] h := by
  exact J_vret (zat qX0_follow 8 (by rfl)) rfl (Nat.le_refl 0) (Nat.le_refl 0) k

theorem bX0_follow_15 {d d' : Nat} {Q : Option MV → MH → Prop} {h : MH} {u2 u3 u5 u6 : Option MV} {v1 v4 : Int32} (hr : zRf h) (hd : d' + 1 ≤ d) (k : Con mX0_untilNext d' 0 0 [.inr (.inr 77), .inl v1, .inl v4] h (zri fun (x : Int32) h' => J mX0_follow d 0 0 Q 0 0 22 [some (.inr (.inr 77)), some (.inl v1), u2, u3, some (.inl v4), u5, u6] [.inl x] h')) : J mX0_follow d 0 0 Q 0 0 15 [some (.inr (.inr 77)), some (.inl v1), u2, u3, some (.inl v4), u5, u6] [] h := by
  refine zrun 9 3 qX0_follow (o := 0) rfl ?_
  show J mX0_follow d 0 0 Q 0 0 19 [some (.inr (.inr 77)), some (.inl v1), u2, u3, some (.inl v4), u5, u6] [.inl v4, .inl v1, .inr (.inr 77)] h
  exact zcVi (as := [.inl v1, .inl v4]) (zat qX0_follow 12 (by rfl)) l0_58 rfl hd rfl (Nat.le_of_ble_eq_true rfl) zle0 (ci := 0) (by decide) rfl (zo hr (by decide) rfl) k

theorem bX0_follow_22 {d : Nat} {Q : Option MV → MH → Prop} {h : MH} {u0 u1 u2 u3 u5 u6 : Option MV} {vs0 v4 : Int32} (k : J mX0_follow d 0 0 Q 0 0 27 [u0, u1, u2, u3, some (.inl v4), some (.inl vs0), some (.inl (nI 0))] [] h) : J mX0_follow d 0 0 Q 0 0 22 [u0, u1, u2, u3, some (.inl v4), u5, u6] [.inl vs0] h := by
  refine zrun 13 3 qX0_follow (o := 0) rfl ?_
  show J mX0_follow d 0 0 Q 0 0 27 [u0, u1, u2, u3, some (.inl v4), some (.inl vs0), some (.inl (nI 0))] [] h
  exact k

theorem bX0_follow_27 {d : Nat} {Q : Option MV → MH → Prop} {h : MH} {u0 u1 u2 u3 u4 u5 : Option MV} {v6 : Int32} (k1 : (nI 4) ≤ v6 → J mX0_follow d 0 0 Q 0 0 76 [u0, u1, u2, u3, u4, u5, some (.inl v6)] [] h) (k2 : ¬ (nI 4) ≤ v6 → J mX0_follow d 0 0 Q 0 0 33 [u0, u1, u2, u3, u4, u5, some (.inl v6)] [] h) : J mX0_follow d 0 0 Q 0 0 27 [u0, u1, u2, u3, u4, u5, some (.inl v6)] [] h := by
  refine zrun 16 3 qX0_follow (o := 0) rfl ?_
  show (((nI 4) ≤ v6 → J mX0_follow d 0 0 Q 0 0 76 [u0, u1, u2, u3, u4, u5, some (.inl v6)] [] h) ∧ (¬ (nI 4) ≤ v6 → J mX0_follow d 0 0 Q 0 0 33 [u0, u1, u2, u3, u4, u5, some (.inl v6)] [] h))
  exact ⟨k1, k2⟩

theorem bX0_follow_33 {d : Nat} {Q : Option MV → MH → Prop} {h : MH} {u2 u3 u5 : Option MV} {v1 v6 v4 : Int32} (hr : zRf h) (g0 : vp_in (v1 + (nI 1)) 13) (g1 : vp_in v1 13) (g2 : zokA h (84 + v1.toNatClampNeg) 20 v6) (k1 : ((v4 >>> (v6 &&& 31)) &&& (nI 1)) = 0 → J mX0_follow d 0 0 Q 0 0 67 [some (.inr (.inr 77)), some (.inl v1), u2, u3, some (.inl v4), u5, some (.inl v6)] [.inl (h.1 (84 + v1.toNatClampNeg) v6.toNatClampNeg), .inl v6, .inr (.inr (84 + (v1 + (nI 1)).toNatClampNeg))] h) (k2 : ¬ ((v4 >>> (v6 &&& 31)) &&& (nI 1)) = 0 → J mX0_follow d 0 0 Q 0 0 62 [some (.inr (.inr 77)), some (.inl v1), u2, u3, some (.inl v4), u5, some (.inl v6)] [.inl (h.1 (84 + v1.toNatClampNeg) v6.toNatClampNeg), .inl v6, .inr (.inr (84 + (v1 + (nI 1)).toNatClampNeg))] h) : J mX0_follow d 0 0 Q 0 0 33 [some (.inr (.inr 77)), some (.inl v1), u2, u3, some (.inl v4), u5, some (.inl v6)] [] h := by
  refine zrun 19 19 qX0_follow (o := 0) rfl ?_
  show zokO h 77 0 ∧ zokR h (h.2.2.1 77 5) (v1 + (nI 1)) ∧ zokO h 77 0 ∧ zokR h (h.2.2.1 77 5) v1 ∧ zokA h (h.2.2.1 (h.2.2.1 77 5) v1.toNatClampNeg) 20 v6 ∧ ((((v4 >>> (v6 &&& 31)) &&& (nI 1)) = 0 → J mX0_follow d 0 0 Q 0 0 67 [some (.inr (.inr 77)), some (.inl v1), u2, u3, some (.inl v4), u5, some (.inl v6)] [.inl (h.1 (h.2.2.1 (h.2.2.1 77 5) v1.toNatClampNeg) v6.toNatClampNeg), .inl v6, .inr (.inr (h.2.2.1 (h.2.2.1 77 5) (v1 + (nI 1)).toNatClampNeg))] h) ∧ (¬ ((v4 >>> (v6 &&& 31)) &&& (nI 1)) = 0 → J mX0_follow d 0 0 Q 0 0 62 [some (.inr (.inr 77)), some (.inl v1), u2, u3, some (.inl v4), u5, some (.inl v6)] [.inl (h.1 (h.2.2.1 (h.2.2.1 77 5) v1.toNatClampNeg) v6.toNatClampNeg), .inl v6, .inr (.inr (h.2.2.1 (h.2.2.1 77 5) (v1 + (nI 1)).toNatClampNeg))] h))
  rw [(show h.2.2.1 77 5 = 83 from (hr.at (by decide) (by decide) (by rfl))), (show h.2.2.1 83 (v1 + (nI 1)).toNatClampNeg = (84 + (v1 + (nI 1)).toNatClampNeg) from (hr.a33 (by decide) (by rfl) (vp_lt g0))), (show h.2.2.1 83 v1.toNatClampNeg = (84 + v1.toNatClampNeg) from (hr.a33 (by decide) (by rfl) (vp_lt g1)))]
  exact ⟨(zo hr (by decide) rfl), (zir_ hr (by decide) (by rfl) (by decide) g0), (zo hr (by decide) rfl), (zir_ hr (by decide) (by rfl) (by decide) g1), g2, k1, k2⟩

theorem bX0_follow_62 {d : Nat} {Q : Option MV → MH → Prop} {h : MH} {u0 u1 u2 u3 u4 u6 : Option MV} {vs1 vs2 v5 : Int32} {vs0 : Nat} (k : J mX0_follow d 0 0 Q 0 0 68 [u0, u1, u2, u3, u4, some (.inl v5), u6] [.inl v5, .inl vs2, .inl vs1, .inr (.inr vs0)] h) : J mX0_follow d 0 0 Q 0 0 62 [u0, u1, u2, u3, u4, some (.inl v5), u6] [.inl vs2, .inl vs1, .inr (.inr vs0)] h := by
  refine zrun 38 2 qX0_follow (o := 0) rfl ?_
  show J mX0_follow d 0 0 Q 0 0 68 [u0, u1, u2, u3, u4, some (.inl v5), u6] [.inl v5, .inl vs2, .inl vs1, .inr (.inr vs0)] h
  exact k

theorem bX0_follow_67 {d : Nat} {Q : Option MV → MH → Prop} {h : MH} {u0 u1 u2 u3 u4 u5 u6 : Option MV} {vs1 vs2 : Int32} {vs0 : Nat} (k : J mX0_follow d 0 0 Q 0 0 68 [u0, u1, u2, u3, u4, u5, u6] [.inl (nI 0), .inl vs2, .inl vs1, .inr (.inr vs0)] h) : J mX0_follow d 0 0 Q 0 0 67 [u0, u1, u2, u3, u4, u5, u6] [.inl vs2, .inl vs1, .inr (.inr vs0)] h := by
  refine zrun 40 1 qX0_follow (o := 0) rfl ?_
  show J mX0_follow d 0 0 Q 0 0 68 [u0, u1, u2, u3, u4, u5, u6] [.inl (nI 0), .inl vs2, .inl vs1, .inr (.inr vs0)] h
  exact k

theorem bX0_follow_68 {d : Nat} {Q : Option MV → MH → Prop} {h : MH} {u0 u1 u2 u3 u4 : Option MV} {vs1 vs2 vs3 v6 v5 : Int32} {vs0 : Nat} (g0 : zokA h vs0 20 vs1) (k : J mX0_follow d 0 0 Q 0 0 27 [u0, u1, u2, u3, u4, some (.inl v5), some (.inl (v6 + nI 1))] [] (zsI h vs0 vs1.toNatClampNeg (vs2 + vs3))) : J mX0_follow d 0 0 Q 0 0 68 [u0, u1, u2, u3, u4, some (.inl v5), some (.inl v6)] [.inl vs3, .inl vs2, .inl vs1, .inr (.inr vs0)] h := by
  refine zrun 41 4 qX0_follow (o := 0) rfl ?_
  show zokA h vs0 20 vs1 ∧ J mX0_follow d 0 0 Q 0 0 27 [u0, u1, u2, u3, u4, some (.inl v5), some (.inl (v6 + nI 1))] [] (zsI h vs0 vs1.toNatClampNeg (vs2 + vs3))
  exact ⟨g0, k⟩

theorem bX0_follow_76 {d d' : Nat} {Q : Option MV → MH → Prop} {h : MH} {u1 u3 u4 u6 : Option MV} {v2 v5 : Int32} (hr : zRf h) (gr : zokO h (h.2.2.1 77 1) 3) (hd : d' + 1 ≤ d) (k : Con mX3_add d' 0 0 [.inr (.inr (h.2.2.1 77 1)), .inl (v2 + v5)] h (zrv fun h' => J mX0_follow d 0 0 Q 0 0 87 [some (.inr (.inr 77)), u1, some (.inl v2), u3, u4, some (.inl v5), u6] [] h')) : J mX0_follow d 0 0 Q 0 0 76 [some (.inr (.inr 77)), u1, some (.inl v2), u3, u4, some (.inl v5), u6] [] h := by
  refine zrun 45 5 qX0_follow (o := 0) rfl ?_
  show zokO h 77 0 ∧ J mX0_follow d 0 0 Q 0 0 84 [some (.inr (.inr 77)), u1, some (.inl v2), u3, u4, some (.inl v5), u6] [.inl (v2 + v5), .inr (.inr (h.2.2.1 77 1))] h
  exact ⟨(zo hr (by decide) rfl), zcVv (as := [.inl (v2 + v5)]) (zat qX0_follow 50 (by rfl)) l0_61 rfl hd rfl (Nat.le_of_ble_eq_true rfl) zle0 (ci := 3) (by decide) rfl gr k⟩

theorem bX0_follow_87 {d d' : Nat} {Q : Option MV → MH → Prop} {h : MH} {u4 u6 : Option MV} {v1 v2 v5 v3 : Int32} (hr : zRf h) (hd : d' + 1 ≤ d) (k : Con mX0_go d' 0 0 [.inr (.inr 77), .inl (v1 + (nI 1)), .inl (v2 + v5), .inl v3] h (zrv fun h' => J mX0_follow d 0 0 Q 0 0 99 [some (.inr (.inr 77)), some (.inl v1), some (.inl v2), some (.inl v3), u4, some (.inl v5), u6] [] h')) : J mX0_follow d 0 0 Q 0 0 87 [some (.inr (.inr 77)), some (.inl v1), some (.inl v2), some (.inl v3), u4, some (.inl v5), u6] [] h := by
  refine zrun 51 8 qX0_follow (o := 0) rfl ?_
  show J mX0_follow d 0 0 Q 0 0 96 [some (.inr (.inr 77)), some (.inl v1), some (.inl v2), some (.inl v3), u4, some (.inl v5), u6] [.inl v3, .inl (v2 + v5), .inl (v1 + (nI 1)), .inr (.inr 77)] h
  exact zcVv (as := [.inl (v1 + (nI 1)), .inl (v2 + v5), .inl v3]) (zat qX0_follow 59 (by rfl)) l0_48 rfl hd rfl (Nat.le_of_ble_eq_true rfl) zle0 (ci := 0) (by decide) rfl (zo hr (by decide) rfl) k

theorem bX0_follow_99 {d : Nat} {Q : Option MV → MH → Prop} {h : MH} {u0 u1 u2 u3 u4 u5 u6 : Option MV} (k : Q none h) : J mX0_follow d 0 0 Q 0 0 99 [u0, u1, u2, u3, u4, u5, u6] [] h := by
  exact J_vret (zat qX0_follow 60 (by rfl)) rfl (Nat.le_refl 0) (Nat.le_refl 0) k

theorem bX0_untilNext_0 {d : Nat} {Q : Option MV → MH → Prop} {h : MH} {u0 u1 u3 u4 u5 u6 u7 : Option MV} {v2 : Int32} (k : J mX0_untilNext d 0 0 Q 0 0 6 [u0, u1, some (.inl v2), some (.inl (368656 : Int32)), some (.inl (nI 0)), u5, u6, u7] [] h) : J mX0_untilNext d 0 0 Q 0 0 0 [u0, u1, some (.inl v2), u3, u4, u5, u6, u7] [] h := by
  refine zrun 0 4 qX0_untilNext (o := 0) rfl ?_
  show J mX0_untilNext d 0 0 Q 0 0 6 [u0, u1, some (.inl v2), some (.inl (368656 : Int32)), some (.inl (nI 0)), u5, u6, u7] [] h
  exact k

theorem bX0_untilNext_6 {d : Nat} {Q : Option MV → MH → Prop} {h : MH} {u1 u2 u3 u5 u6 u7 : Option MV} {v4 : Int32} (hr : zRf h) (k1 : (h.1 77 0) ≤ v4 → J mX0_untilNext d 0 0 Q 0 0 125 [some (.inr (.inr 77)), u1, u2, u3, some (.inl v4), u5, u6, u7] [] h) (k2 : ¬ (h.1 77 0) ≤ v4 → J mX0_untilNext d 0 0 Q 0 0 15 [some (.inr (.inr 77)), u1, u2, u3, some (.inl v4), u5, u6, u7] [] h) : J mX0_untilNext d 0 0 Q 0 0 6 [some (.inr (.inr 77)), u1, u2, u3, some (.inl v4), u5, u6, u7] [] h := by
  refine zrun 4 4 qX0_untilNext (o := 0) rfl ?_
  show zokO h 77 0 ∧ (((h.1 77 0) ≤ v4 → J mX0_untilNext d 0 0 Q 0 0 125 [some (.inr (.inr 77)), u1, u2, u3, some (.inl v4), u5, u6, u7] [] h) ∧ (¬ (h.1 77 0) ≤ v4 → J mX0_untilNext d 0 0 Q 0 0 15 [some (.inr (.inr 77)), u1, u2, u3, some (.inl v4), u5, u6, u7] [] h))
  exact ⟨(zo hr (by decide) rfl), k1, k2⟩

theorem bX0_untilNext_15 {d : Nat} {Q : Option MV → MH → Prop} {h : MH} {u3 u5 u6 u7 : Option MV} {v1 v4 v2 : Int32} (hr : zRf h) (g0 : vp_in v1 13) (g1 : zokA h (84 + v1.toNatClampNeg) 20 ((nI 2) * v4)) (g2 : zokA h (84 + v1.toNatClampNeg) 20 (((nI 2) * v4) + (nI 1))) (k1 : (((v2 >>> (((nI 2) * v4) &&& 31)) &&& (nI 3)) &&& (nI 1)) = 0 → J mX0_untilNext d 0 0 Q 0 0 73 [some (.inr (.inr 77)), some (.inl v1), some (.inl v2), u3, some (.inl v4), some (.inl (h.1 (84 + v1.toNatClampNeg) ((nI 2) * v4).toNatClampNeg)), some (.inl (h.1 (84 + v1.toNatClampNeg) (((nI 2) * v4) + (nI 1)).toNatClampNeg)), some (.inl ((v2 >>> (((nI 2) * v4) &&& 31)) &&& (nI 3)))] [] h) (k2 : ¬ (((v2 >>> (((nI 2) * v4) &&& 31)) &&& (nI 3)) &&& (nI 1)) = 0 → J mX0_untilNext d 0 0 Q 0 0 60 [some (.inr (.inr 77)), some (.inl v1), some (.inl v2), u3, some (.inl v4), some (.inl (h.1 (84 + v1.toNatClampNeg) ((nI 2) * v4).toNatClampNeg)), some (.inl (h.1 (84 + v1.toNatClampNeg) (((nI 2) * v4) + (nI 1)).toNatClampNeg)), some (.inl ((v2 >>> (((nI 2) * v4) &&& 31)) &&& (nI 3)))] [] h) : J mX0_untilNext d 0 0 Q 0 0 15 [some (.inr (.inr 77)), some (.inl v1), some (.inl v2), u3, some (.inl v4), u5, u6, u7] [] h := by
  refine zrun 8 32 qX0_untilNext (o := 0) rfl ?_
  show zokO h 77 0 ∧ zokR h (h.2.2.1 77 5) v1 ∧ zokA h (h.2.2.1 (h.2.2.1 77 5) v1.toNatClampNeg) 20 ((nI 2) * v4) ∧ zokO h 77 0 ∧ zokR h (h.2.2.1 77 5) v1 ∧ zokA h (h.2.2.1 (h.2.2.1 77 5) v1.toNatClampNeg) 20 (((nI 2) * v4) + (nI 1)) ∧ (((((v2 >>> (((nI 2) * v4) &&& 31)) &&& (nI 3)) &&& (nI 1)) = 0 → J mX0_untilNext d 0 0 Q 0 0 73 [some (.inr (.inr 77)), some (.inl v1), some (.inl v2), u3, some (.inl v4), some (.inl (h.1 (h.2.2.1 (h.2.2.1 77 5) v1.toNatClampNeg) ((nI 2) * v4).toNatClampNeg)), some (.inl (h.1 (h.2.2.1 (h.2.2.1 77 5) v1.toNatClampNeg) (((nI 2) * v4) + (nI 1)).toNatClampNeg)), some (.inl ((v2 >>> (((nI 2) * v4) &&& 31)) &&& (nI 3)))] [] h) ∧ (¬ (((v2 >>> (((nI 2) * v4) &&& 31)) &&& (nI 3)) &&& (nI 1)) = 0 → J mX0_untilNext d 0 0 Q 0 0 60 [some (.inr (.inr 77)), some (.inl v1), some (.inl v2), u3, some (.inl v4), some (.inl (h.1 (h.2.2.1 (h.2.2.1 77 5) v1.toNatClampNeg) ((nI 2) * v4).toNatClampNeg)), some (.inl (h.1 (h.2.2.1 (h.2.2.1 77 5) v1.toNatClampNeg) (((nI 2) * v4) + (nI 1)).toNatClampNeg)), some (.inl ((v2 >>> (((nI 2) * v4) &&& 31)) &&& (nI 3)))] [] h))
  rw [(show h.2.2.1 77 5 = 83 from (hr.at (by decide) (by decide) (by rfl))), (show h.2.2.1 83 v1.toNatClampNeg = (84 + v1.toNatClampNeg) from (hr.a33 (by decide) (by rfl) (vp_lt g0)))]
  exact ⟨(zo hr (by decide) rfl), (zir_ hr (by decide) (by rfl) (by decide) g0), g1, (zo hr (by decide) rfl), (zir_ hr (by decide) (by rfl) (by decide) g0), g2, k1, k2⟩

theorem bX0_untilNext_60 {d d' : Nat} {Q : Option MV → MH → Prop} {h : MH} {u1 u2 u6 u7 : Option MV} {v3 v4 v5 : Int32} (hr : zRf h) (hd : d' + 1 ≤ d) (k : Con mX0_untilEdge d' 0 0 [.inr (.inr 77), .inl v4, .inl v5] h (zri fun (x : Int32) h' => J mX0_untilNext d 0 0 Q 0 0 69 [some (.inr (.inr 77)), u1, u2, some (.inl v3), some (.inl v4), some (.inl v5), u6, u7] [.inl x, .inl v3] h')) : J mX0_untilNext d 0 0 Q 0 0 60 [some (.inr (.inr 77)), u1, u2, some (.inl v3), some (.inl v4), some (.inl v5), u6, u7] [] h := by
  refine zrun 40 4 qX0_untilNext (o := 0) rfl ?_
  show J mX0_untilNext d 0 0 Q 0 0 66 [some (.inr (.inr 77)), u1, u2, some (.inl v3), some (.inl v4), some (.inl v5), u6, u7] [.inl v5, .inl v4, .inr (.inr 77), .inl v3] h
  exact zcVi (as := [.inl v4, .inl v5]) (zat qX0_untilNext 44 (by rfl)) l0_68 rfl hd rfl (Nat.le_of_ble_eq_true rfl) zle0 (ci := 0) (by decide) rfl (zo hr (by decide) rfl) k

theorem bX0_untilNext_69 {d : Nat} {Q : Option MV → MH → Prop} {h : MH} {u0 u1 u2 u3 u4 u5 u6 u7 : Option MV} {vs0 vs1 : Int32} (hd : 1 ≤ d) (k : J mX0_untilNext d 0 0 Q 0 0 72 [u0, u1, u2, u3, u4, u5, u6, u7] [.inl (if vs1 < vs0 then vs1 else vs0)] h) : J mX0_untilNext d 0 0 Q 0 0 69 [u0, u1, u2, u3, u4, u5, u6, u7] [.inl vs1, .inl vs0] h := by
  exact zmin (zat qX0_untilNext 45 (by rfl)) mm0_71 rfl hd (Nat.le_of_ble_eq_true rfl) zle0 k

theorem bX0_untilNext_72 {d : Nat} {Q : Option MV → MH → Prop} {h : MH} {u0 u1 u3 u4 u5 u6 u7 : Option MV} {vs0 v2 : Int32} (k : J mX0_untilNext d 0 0 Q 0 0 73 [u0, u1, some (.inl v2), some (.inl vs0), u4, u5, u6, u7] [] h) : J mX0_untilNext d 0 0 Q 0 0 72 [u0, u1, some (.inl v2), u3, u4, u5, u6, u7] [.inl vs0] h := by
  refine zrun 46 1 qX0_untilNext (o := 0) rfl ?_
  show J mX0_untilNext d 0 0 Q 0 0 73 [u0, u1, some (.inl v2), some (.inl vs0), u4, u5, u6, u7] [] h
  exact k

theorem bX0_untilNext_73 {d : Nat} {Q : Option MV → MH → Prop} {h : MH} {u0 u1 u2 u3 u4 u5 u6 : Option MV} {v7 : Int32} (k1 : (v7 &&& (nI 2)) = 0 → J mX0_untilNext d 0 0 Q 0 0 93 [u0, u1, u2, u3, u4, u5, u6, some (.inl v7)] [] h) (k2 : ¬ (v7 &&& (nI 2)) = 0 → J mX0_untilNext d 0 0 Q 0 0 80 [u0, u1, u2, u3, u4, u5, u6, some (.inl v7)] [] h) : J mX0_untilNext d 0 0 Q 0 0 73 [u0, u1, u2, u3, u4, u5, u6, some (.inl v7)] [] h := by
  refine zrun 47 4 qX0_untilNext (o := 0) rfl ?_
  show (((v7 &&& (nI 2)) = 0 → J mX0_untilNext d 0 0 Q 0 0 93 [u0, u1, u2, u3, u4, u5, u6, some (.inl v7)] [] h) ∧ (¬ (v7 &&& (nI 2)) = 0 → J mX0_untilNext d 0 0 Q 0 0 80 [u0, u1, u2, u3, u4, u5, u6, some (.inl v7)] [] h))
  exact ⟨k1, k2⟩

theorem bX0_untilNext_80 {d d' : Nat} {Q : Option MV → MH → Prop} {h : MH} {u1 u2 u5 u7 : Option MV} {v3 v4 v6 : Int32} (hr : zRf h) (hd : d' + 1 ≤ d) (k : Con mX0_untilEdgeFromEnd d' 0 0 [.inr (.inr 77), .inl v4, .inl v6] h (zri fun (x : Int32) h' => J mX0_untilNext d 0 0 Q 0 0 89 [some (.inr (.inr 77)), u1, u2, some (.inl v3), some (.inl v4), u5, some (.inl v6), u7] [.inl x, .inl v3] h')) : J mX0_untilNext d 0 0 Q 0 0 80 [some (.inr (.inr 77)), u1, u2, some (.inl v3), some (.inl v4), u5, some (.inl v6), u7] [] h := by
  refine zrun 51 4 qX0_untilNext (o := 0) rfl ?_
  show J mX0_untilNext d 0 0 Q 0 0 86 [some (.inr (.inr 77)), u1, u2, some (.inl v3), some (.inl v4), u5, some (.inl v6), u7] [.inl v6, .inl v4, .inr (.inr 77), .inl v3] h
  exact zcVi (as := [.inl v4, .inl v6]) (zat qX0_untilNext 55 (by rfl)) l0_76 rfl hd rfl (Nat.le_of_ble_eq_true rfl) zle0 (ci := 0) (by decide) rfl (zo hr (by decide) rfl) k

theorem bX0_untilNext_89 {d : Nat} {Q : Option MV → MH → Prop} {h : MH} {u0 u1 u2 u3 u4 u5 u6 u7 : Option MV} {vs0 vs1 : Int32} (hd : 1 ≤ d) (k : J mX0_untilNext d 0 0 Q 0 0 92 [u0, u1, u2, u3, u4, u5, u6, u7] [.inl (if vs1 < vs0 then vs1 else vs0)] h) : J mX0_untilNext d 0 0 Q 0 0 89 [u0, u1, u2, u3, u4, u5, u6, u7] [.inl vs1, .inl vs0] h := by
  exact zmin (zat qX0_untilNext 56 (by rfl)) mm0_71 rfl hd (Nat.le_of_ble_eq_true rfl) zle0 k

theorem bX0_untilNext_92 {d : Nat} {Q : Option MV → MH → Prop} {h : MH} {u0 u1 u3 u4 u5 u6 u7 : Option MV} {vs0 v2 : Int32} (k : J mX0_untilNext d 0 0 Q 0 0 93 [u0, u1, some (.inl v2), some (.inl vs0), u4, u5, u6, u7] [] h) : J mX0_untilNext d 0 0 Q 0 0 92 [u0, u1, some (.inl v2), u3, u4, u5, u6, u7] [.inl vs0] h := by
  refine zrun 57 1 qX0_untilNext (o := 0) rfl ?_
  show J mX0_untilNext d 0 0 Q 0 0 93 [u0, u1, some (.inl v2), some (.inl vs0), u4, u5, u6, u7] [] h
  exact k

theorem bX0_untilNext_93 {d : Nat} {Q : Option MV → MH → Prop} {h : MH} {u0 u1 u2 u3 u4 u5 u6 : Option MV} {v7 : Int32} (k1 : ¬ v7 = (nI 3) → J mX0_untilNext d 0 0 Q 0 0 119 [u0, u1, u2, u3, u4, u5, u6, some (.inl v7)] [] h) (k2 : v7 = (nI 3) → J mX0_untilNext d 0 0 Q 0 0 99 [u0, u1, u2, u3, u4, u5, u6, some (.inl v7)] [] h) : J mX0_untilNext d 0 0 Q 0 0 93 [u0, u1, u2, u3, u4, u5, u6, some (.inl v7)] [] h := by
  refine zrun 58 3 qX0_untilNext (o := 0) rfl ?_
  show ((¬ v7 = (nI 3) → J mX0_untilNext d 0 0 Q 0 0 119 [u0, u1, u2, u3, u4, u5, u6, some (.inl v7)] [] h) ∧ (v7 = (nI 3) → J mX0_untilNext d 0 0 Q 0 0 99 [u0, u1, u2, u3, u4, u5, u6, some (.inl v7)] [] h))
  exact ⟨k1, k2⟩

theorem bX0_untilNext_99 {d : Nat} {Q : Option MV → MH → Prop} {h : MH} {u1 u2 u7 : Option MV} {v3 v4 v5 v6 : Int32} (hr : zRf h) (g0 : vp_in v4 2) (hd : 1 ≤ d) (k : J mX0_untilNext d 0 0 Q 0 0 118 [some (.inr (.inr 77)), u1, u2, some (.inl v3), some (.inl v4), some (.inl v5), some (.inl v6), u7] [.inl (if ((((h.1 79 v4.toNatClampNeg) - v5) - v6) / (nI 2)) < v3 then ((((h.1 79 v4.toNatClampNeg) - v5) - v6) / (nI 2)) else v3)] h) : J mX0_untilNext d 0 0 Q 0 0 99 [some (.inr (.inr 77)), u1, u2, some (.inl v3), some (.inl v4), some (.inl v5), some (.inl v6), u7] [] h := by
  refine zrun 61 11 qX0_untilNext (o := 0) rfl ?_
  show zokO h 77 0 ∧ zokA h (h.2.2.1 77 3) 20 v4 ∧ ¬ (nI 2) = 0 ∧ J mX0_untilNext d 0 0 Q 0 0 115 [some (.inr (.inr 77)), u1, u2, some (.inl v3), some (.inl v4), some (.inl v5), some (.inl v6), u7] [.inl ((((h.1 (h.2.2.1 77 3) v4.toNatClampNeg) - v5) - v6) / (nI 2)), .inl v3] h
  rw [(show h.2.2.1 77 3 = 79 from (hr.at (by decide) (by decide) (by rfl)))]
  exact ⟨(zo hr (by decide) rfl), (zia hr (by decide) (by rfl) g0), (by decide), zmin (zat qX0_untilNext 72 (by rfl)) mm0_71 rfl hd (Nat.le_of_ble_eq_true rfl) zle0 k⟩

theorem bX0_untilNext_118 {d : Nat} {Q : Option MV → MH → Prop} {h : MH} {u0 u1 u3 u4 u5 u6 u7 : Option MV} {vs0 v2 : Int32} (k : J mX0_untilNext d 0 0 Q 0 0 119 [u0, u1, some (.inl v2), some (.inl vs0), u4, u5, u6, u7] [] h) : J mX0_untilNext d 0 0 Q 0 0 118 [u0, u1, some (.inl v2), u3, u4, u5, u6, u7] [.inl vs0] h := by
  refine zrun 73 1 qX0_untilNext (o := 0) rfl ?_
  show J mX0_untilNext d 0 0 Q 0 0 119 [u0, u1, some (.inl v2), some (.inl vs0), u4, u5, u6, u7] [] h
  exact k

theorem bX0_untilNext_119 {d : Nat} {Q : Option MV → MH → Prop} {h : MH} {u0 u1 u2 u5 u6 u7 : Option MV} {v4 v3 : Int32} (k : J mX0_untilNext d 0 0 Q 0 0 6 [u0, u1, u2, some (.inl v3), some (.inl (v4 + nI 1)), u5, u6, u7] [] h) : J mX0_untilNext d 0 0 Q 0 0 119 [u0, u1, u2, some (.inl v3), some (.inl v4), u5, u6, u7] [] h := by
  refine zrun 74 2 qX0_untilNext (o := 0) rfl ?_
  show J mX0_untilNext d 0 0 Q 0 0 6 [u0, u1, u2, some (.inl v3), some (.inl (v4 + nI 1)), u5, u6, u7] [] h
  exact k

theorem bX0_untilNext_125 {d : Nat} {Q : Option MV → MH → Prop} {h : MH} {u0 u1 u2 u4 u5 u6 u7 : Option MV} {v3 : Int32} (k : Q (some (.inl v3)) h) : J mX0_untilNext d 0 0 Q 0 0 125 [u0, u1, u2, some (.inl v3), u4, u5, u6, u7] [] h := by
  refine zrun 76 1 qX0_untilNext (o := 0) rfl ?_
  show J mX0_untilNext d 0 0 Q 0 0 126 [u0, u1, u2, some (.inl v3), u4, u5, u6, u7] [.inl v3] h
  exact J_iret (ty := .int) (zat qX0_untilNext 77 (by rfl)) rfl rfl (Nat.le_refl 0) (Nat.le_refl 0) k

theorem bX0_untilEdge_0 {d : Nat} {Q : Option MV → MH → Prop} {h : MH} {u0 u1 u3 : Option MV} {v2 : Int32} (k : J mX0_untilEdge d 0 0 Q 0 0 2 [u0, u1, some (.inl v2), some (.inl (nI 1))] [] h) : J mX0_untilEdge d 0 0 Q 0 0 0 [u0, u1, some (.inl v2), u3] [] h := by
  refine zrun 0 2 qX0_untilEdge (o := 0) rfl ?_
  show J mX0_untilEdge d 0 0 Q 0 0 2 [u0, u1, some (.inl v2), some (.inl (nI 1))] [] h
  exact k

theorem bX0_untilEdge_2 {d : Nat} {Q : Option MV → MH → Prop} {h : MH} {u2 : Option MV} {v3 v1 : Int32} (hr : zRf h) (g0 : vp_in v1 2) (k1 : (h.1 78 v1.toNatClampNeg) < v3 → J mX0_untilEdge d 0 0 Q 0 0 41 [some (.inr (.inr 77)), some (.inl v1), u2, some (.inl v3)] [] h) (k2 : ¬ (h.1 78 v1.toNatClampNeg) < v3 → J mX0_untilEdge d 0 0 Q 0 0 12 [some (.inr (.inr 77)), some (.inl v1), u2, some (.inl v3)] [] h) : J mX0_untilEdge d 0 0 Q 0 0 2 [some (.inr (.inr 77)), some (.inl v1), u2, some (.inl v3)] [] h := by
  refine zrun 2 6 qX0_untilEdge (o := 0) rfl ?_
  show zokO h 77 0 ∧ zokA h (h.2.2.1 77 2) 20 v1 ∧ (((h.1 (h.2.2.1 77 2) v1.toNatClampNeg) < v3 → J mX0_untilEdge d 0 0 Q 0 0 41 [some (.inr (.inr 77)), some (.inl v1), u2, some (.inl v3)] [] h) ∧ (¬ (h.1 (h.2.2.1 77 2) v1.toNatClampNeg) < v3 → J mX0_untilEdge d 0 0 Q 0 0 12 [some (.inr (.inr 77)), some (.inl v1), u2, some (.inl v3)] [] h))
  rw [(show h.2.2.1 77 2 = 78 from (hr.at (by decide) (by decide) (by rfl)))]
  exact ⟨(zo hr (by decide) rfl), (zia hr (by decide) (by rfl) g0), k1, k2⟩

theorem bX0_untilEdge_12 {d : Nat} {Q : Option MV → MH → Prop} {h : MH} {v1 v3 v2 : Int32} (hr : zRf h) (g0 : vp_in v1 2) (g1 : zokA h (81 + v1.toNatClampNeg) 20 v3) (k1 : (h.1 (81 + v1.toNatClampNeg) v3.toNatClampNeg) ≤ v2 → J mX0_untilEdge d 0 0 Q 0 0 35 [some (.inr (.inr 77)), some (.inl v1), some (.inl v2), some (.inl v3)] [] h) (k2 : ¬ (h.1 (81 + v1.toNatClampNeg) v3.toNatClampNeg) ≤ v2 → J mX0_untilEdge d 0 0 Q 0 0 24 [some (.inr (.inr 77)), some (.inl v1), some (.inl v2), some (.inl v3)] [] h) : J mX0_untilEdge d 0 0 Q 0 0 12 [some (.inr (.inr 77)), some (.inl v1), some (.inl v2), some (.inl v3)] [] h := by
  refine zrun 8 8 qX0_untilEdge (o := 0) rfl ?_
  show zokO h 77 0 ∧ zokR h (h.2.2.1 77 4) v1 ∧ zokA h (h.2.2.1 (h.2.2.1 77 4) v1.toNatClampNeg) 20 v3 ∧ (((h.1 (h.2.2.1 (h.2.2.1 77 4) v1.toNatClampNeg) v3.toNatClampNeg) ≤ v2 → J mX0_untilEdge d 0 0 Q 0 0 35 [some (.inr (.inr 77)), some (.inl v1), some (.inl v2), some (.inl v3)] [] h) ∧ (¬ (h.1 (h.2.2.1 (h.2.2.1 77 4) v1.toNatClampNeg) v3.toNatClampNeg) ≤ v2 → J mX0_untilEdge d 0 0 Q 0 0 24 [some (.inr (.inr 77)), some (.inl v1), some (.inl v2), some (.inl v3)] [] h))
  rw [(show h.2.2.1 77 4 = 80 from (hr.at (by decide) (by decide) (by rfl))), (show h.2.2.1 80 v1.toNatClampNeg = (81 + v1.toNatClampNeg) from (hr.a33 (by decide) (by rfl) (vp_lt g0)))]
  exact ⟨(zo hr (by decide) rfl), (zir_ hr (by decide) (by rfl) (by decide) g0), g1, k1, k2⟩

theorem bX0_untilEdge_24 {d : Nat} {Q : Option MV → MH → Prop} {h : MH} {v1 v3 v2 : Int32} (hr : zRf h) (g0 : vp_in v1 2) (g1 : zokA h (81 + v1.toNatClampNeg) 20 v3) (k : Q (some (.inl ((h.1 (81 + v1.toNatClampNeg) v3.toNatClampNeg) - v2))) h) : J mX0_untilEdge d 0 0 Q 0 0 24 [some (.inr (.inr 77)), some (.inl v1), some (.inl v2), some (.inl v3)] [] h := by
  refine zrun 16 8 qX0_untilEdge (o := 0) rfl ?_
  show zokO h 77 0 ∧ zokR h (h.2.2.1 77 4) v1 ∧ zokA h (h.2.2.1 (h.2.2.1 77 4) v1.toNatClampNeg) 20 v3 ∧ J mX0_untilEdge d 0 0 Q 0 0 34 [some (.inr (.inr 77)), some (.inl v1), some (.inl v2), some (.inl v3)] [.inl ((h.1 (h.2.2.1 (h.2.2.1 77 4) v1.toNatClampNeg) v3.toNatClampNeg) - v2)] h
  rw [(show h.2.2.1 77 4 = 80 from (hr.at (by decide) (by decide) (by rfl))), (show h.2.2.1 80 v1.toNatClampNeg = (81 + v1.toNatClampNeg) from (hr.a33 (by decide) (by rfl) (vp_lt g0)))]
  exact ⟨(zo hr (by decide) rfl), (zir_ hr (by decide) (by rfl) (by decide) g0), g1, J_iret (ty := .int) (zat qX0_untilEdge 24 (by rfl)) rfl rfl (Nat.le_refl 0) (Nat.le_refl 0) k⟩

theorem bX0_untilEdge_35 {d : Nat} {Q : Option MV → MH → Prop} {h : MH} {u0 u1 : Option MV} {v3 v2 : Int32} (k : J mX0_untilEdge d 0 0 Q 0 0 2 [u0, u1, some (.inl v2), some (.inl (v3 + nI 1))] [] h) : J mX0_untilEdge d 0 0 Q 0 0 35 [u0, u1, some (.inl v2), some (.inl v3)] [] h := by
  refine zrun 25 2 qX0_untilEdge (o := 0) rfl ?_
  show J mX0_untilEdge d 0 0 Q 0 0 2 [u0, u1, some (.inl v2), some (.inl (v3 + nI 1))] [] h
  exact k

theorem bX0_untilEdge_41 {d : Nat} {Q : Option MV → MH → Prop} {h : MH} {u0 u1 u2 u3 : Option MV} (k : Q (some (.inl (nI 0))) h) : J mX0_untilEdge d 0 0 Q 0 0 41 [u0, u1, u2, u3] [] h := by
  refine zrun 27 1 qX0_untilEdge (o := 0) rfl ?_
  show J mX0_untilEdge d 0 0 Q 0 0 42 [u0, u1, u2, u3] [.inl (nI 0)] h
  exact J_iret (ty := .int) (zat qX0_untilEdge 28 (by rfl)) rfl rfl (Nat.le_refl 0) (Nat.le_refl 0) k

theorem bX0_untilEdgeFromEnd_0 {d : Nat} {Q : Option MV → MH → Prop} {h : MH} {u3 : Option MV} {v1 v2 : Int32} (hr : zRf h) (g0 : vp_in v1 2) (k : J mX0_untilEdgeFromEnd d 0 0 Q 0 0 9 [some (.inr (.inr 77)), some (.inl v1), some (.inl v2), some (.inl ((h.1 78 v1.toNatClampNeg) - (nI 1)))] [] h) : J mX0_untilEdgeFromEnd d 0 0 Q 0 0 0 [some (.inr (.inr 77)), some (.inl v1), some (.inl v2), u3] [] h := by
  refine zrun 0 7 qX0_untilEdgeFromEnd (o := 0) rfl ?_
  show zokO h 77 0 ∧ zokA h (h.2.2.1 77 2) 20 v1 ∧ J mX0_untilEdgeFromEnd d 0 0 Q 0 0 9 [some (.inr (.inr 77)), some (.inl v1), some (.inl v2), some (.inl ((h.1 (h.2.2.1 77 2) v1.toNatClampNeg) - (nI 1)))] [] h
  rw [(show h.2.2.1 77 2 = 78 from (hr.at (by decide) (by decide) (by rfl)))]
  exact ⟨(zo hr (by decide) rfl), (zia hr (by decide) (by rfl) g0), k⟩

theorem bX0_untilEdgeFromEnd_9 {d : Nat} {Q : Option MV → MH → Prop} {h : MH} {u0 u1 u2 : Option MV} {v3 : Int32} (k1 : v3 < 0 → J mX0_untilEdgeFromEnd d 0 0 Q 0 0 56 [u0, u1, u2, some (.inl v3)] [] h) (k2 : ¬ v3 < 0 → J mX0_untilEdgeFromEnd d 0 0 Q 0 0 13 [u0, u1, u2, some (.inl v3)] [] h) : J mX0_untilEdgeFromEnd d 0 0 Q 0 0 9 [u0, u1, u2, some (.inl v3)] [] h := by
  refine zrun 7 2 qX0_untilEdgeFromEnd (o := 0) rfl ?_
  show ((v3 < 0 → J mX0_untilEdgeFromEnd d 0 0 Q 0 0 56 [u0, u1, u2, some (.inl v3)] [] h) ∧ (¬ v3 < 0 → J mX0_untilEdgeFromEnd d 0 0 Q 0 0 13 [u0, u1, u2, some (.inl v3)] [] h))
  exact ⟨k1, k2⟩

theorem bX0_untilEdgeFromEnd_13 {d : Nat} {Q : Option MV → MH → Prop} {h : MH} {v1 v3 v2 : Int32} (hr : zRf h) (g0 : vp_in v1 2) (g1 : zokA h (81 + v1.toNatClampNeg) 20 v3) (k1 : ((h.1 79 v1.toNatClampNeg) - (h.1 (81 + v1.toNatClampNeg) v3.toNatClampNeg)) ≤ v2 → J mX0_untilEdgeFromEnd d 0 0 Q 0 0 50 [some (.inr (.inr 77)), some (.inl v1), some (.inl v2), some (.inl v3)] [] h) (k2 : ¬ ((h.1 79 v1.toNatClampNeg) - (h.1 (81 + v1.toNatClampNeg) v3.toNatClampNeg)) ≤ v2 → J mX0_untilEdgeFromEnd d 0 0 Q 0 0 32 [some (.inr (.inr 77)), some (.inl v1), some (.inl v2), some (.inl v3)] [] h) : J mX0_untilEdgeFromEnd d 0 0 Q 0 0 13 [some (.inr (.inr 77)), some (.inl v1), some (.inl v2), some (.inl v3)] [] h := by
  refine zrun 9 13 qX0_untilEdgeFromEnd (o := 0) rfl ?_
  show zokO h 77 0 ∧ zokA h (h.2.2.1 77 3) 20 v1 ∧ zokO h 77 0 ∧ zokR h (h.2.2.1 77 4) v1 ∧ zokA h (h.2.2.1 (h.2.2.1 77 4) v1.toNatClampNeg) 20 v3 ∧ ((((h.1 (h.2.2.1 77 3) v1.toNatClampNeg) - (h.1 (h.2.2.1 (h.2.2.1 77 4) v1.toNatClampNeg) v3.toNatClampNeg)) ≤ v2 → J mX0_untilEdgeFromEnd d 0 0 Q 0 0 50 [some (.inr (.inr 77)), some (.inl v1), some (.inl v2), some (.inl v3)] [] h) ∧ (¬ ((h.1 (h.2.2.1 77 3) v1.toNatClampNeg) - (h.1 (h.2.2.1 (h.2.2.1 77 4) v1.toNatClampNeg) v3.toNatClampNeg)) ≤ v2 → J mX0_untilEdgeFromEnd d 0 0 Q 0 0 32 [some (.inr (.inr 77)), some (.inl v1), some (.inl v2), some (.inl v3)] [] h))
  rw [(show h.2.2.1 77 3 = 79 from (hr.at (by decide) (by decide) (by rfl))), (show h.2.2.1 77 4 = 80 from (hr.at (by decide) (by decide) (by rfl))), (show h.2.2.1 80 v1.toNatClampNeg = (81 + v1.toNatClampNeg) from (hr.a33 (by decide) (by rfl) (vp_lt g0)))]
  exact ⟨(zo hr (by decide) rfl), (zia hr (by decide) (by rfl) g0), (zo hr (by decide) rfl), (zir_ hr (by decide) (by rfl) (by decide) g0), g1, k1, k2⟩

theorem bX0_untilEdgeFromEnd_32 {d : Nat} {Q : Option MV → MH → Prop} {h : MH} {v1 v3 v2 : Int32} (hr : zRf h) (g0 : vp_in v1 2) (g1 : zokA h (81 + v1.toNatClampNeg) 20 v3) (k : Q (some (.inl (((h.1 79 v1.toNatClampNeg) - (h.1 (81 + v1.toNatClampNeg) v3.toNatClampNeg)) - v2))) h) : J mX0_untilEdgeFromEnd d 0 0 Q 0 0 32 [some (.inr (.inr 77)), some (.inl v1), some (.inl v2), some (.inl v3)] [] h := by
  refine zrun 22 13 qX0_untilEdgeFromEnd (o := 0) rfl ?_
  show zokO h 77 0 ∧ zokA h (h.2.2.1 77 3) 20 v1 ∧ zokO h 77 0 ∧ zokR h (h.2.2.1 77 4) v1 ∧ zokA h (h.2.2.1 (h.2.2.1 77 4) v1.toNatClampNeg) 20 v3 ∧ J mX0_untilEdgeFromEnd d 0 0 Q 0 0 49 [some (.inr (.inr 77)), some (.inl v1), some (.inl v2), some (.inl v3)] [.inl (((h.1 (h.2.2.1 77 3) v1.toNatClampNeg) - (h.1 (h.2.2.1 (h.2.2.1 77 4) v1.toNatClampNeg) v3.toNatClampNeg)) - v2)] h
  rw [(show h.2.2.1 77 3 = 79 from (hr.at (by decide) (by decide) (by rfl))), (show h.2.2.1 77 4 = 80 from (hr.at (by decide) (by decide) (by rfl))), (show h.2.2.1 80 v1.toNatClampNeg = (81 + v1.toNatClampNeg) from (hr.a33 (by decide) (by rfl) (vp_lt g0)))]
  exact ⟨(zo hr (by decide) rfl), (zia hr (by decide) (by rfl) g0), (zo hr (by decide) rfl), (zir_ hr (by decide) (by rfl) (by decide) g0), g1, J_iret (ty := .int) (zat qX0_untilEdgeFromEnd 35 (by rfl)) rfl rfl (Nat.le_refl 0) (Nat.le_refl 0) k⟩

theorem bX0_untilEdgeFromEnd_50 {d : Nat} {Q : Option MV → MH → Prop} {h : MH} {u0 u1 : Option MV} {v3 v2 : Int32} (k : J mX0_untilEdgeFromEnd d 0 0 Q 0 0 9 [u0, u1, some (.inl v2), some (.inl (v3 + -(nI 1)))] [] h) : J mX0_untilEdgeFromEnd d 0 0 Q 0 0 50 [u0, u1, some (.inl v2), some (.inl v3)] [] h := by
  refine zrun 36 2 qX0_untilEdgeFromEnd (o := 0) rfl ?_
  show J mX0_untilEdgeFromEnd d 0 0 Q 0 0 9 [u0, u1, some (.inl v2), some (.inl (v3 + -(nI 1)))] [] h
  exact k

theorem bX0_untilEdgeFromEnd_56 {d : Nat} {Q : Option MV → MH → Prop} {h : MH} {u0 u1 u2 u3 : Option MV} (k : Q (some (.inl (nI 0))) h) : J mX0_untilEdgeFromEnd d 0 0 Q 0 0 56 [u0, u1, u2, u3] [] h := by
  refine zrun 38 1 qX0_untilEdgeFromEnd (o := 0) rfl ?_
  show J mX0_untilEdgeFromEnd d 0 0 Q 0 0 57 [u0, u1, u2, u3] [.inl (nI 0)] h
  exact J_iret (ty := .int) (zat qX0_untilEdgeFromEnd 39 (by rfl)) rfl rfl (Nat.le_refl 0) (Nat.le_refl 0) k

