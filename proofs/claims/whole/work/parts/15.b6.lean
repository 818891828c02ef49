theorem bX6_init_4 {d mc ms cs ss : Nat} {Q : Option MV → MH → Prop} {h : MH} (hc : cs ≤ mc ∧ ss ≤ ms) (k : J mX6_init d mc ms Q cs ss 8 [some (.inr (.inr 2))] [.inl (nI 400), .inr (.inr 2)] h) : J mX6_init d mc ms Q cs ss 4 [some (.inr (.inr 2))] [] h := by
  refine zrun 2 2 qX6_init (o := 6) rfl ?_
  show J mX6_init d mc ms Q cs ss 8 [some (.inr (.inr 2))] [.inl (nI 400), .inr (.inr 2)] h
  exact k

theorem bX6_readCellar_0 {d d' : Nat} {Q : Option MV → MH → Prop} {h : MH} {u1 u3 : Option MV} {v2 : Int32} (hr : zRf h) (hd : d' + 1 ≤ d) (k : Con mX6_begin d' 0 0 [.inr (.inr 2), .inl v2] h (zrv fun h' => J mX6_readCellar d 0 0 Q 0 0 5 [some (.inr (.inr 2)), u1, some (.inl v2), u3] [] h')) : J mX6_readCellar d 0 0 Q 0 0 0 [some (.inr (.inr 2)), u1, some (.inl v2), u3] [] h := by
  refine zrun 0 2 qX6_readCellar (o := 6) rfl ?_
  show J mX6_readCellar d 0 0 Q 0 0 2 [some (.inr (.inr 2)), u1, some (.inl v2), u3] [.inl v2, .inr (.inr 2)] h
  exact zcVv (as := [.inl v2]) (zat qX6_readCellar 2 (by rfl)) l6_19 rfl hd rfl (Nat.le_of_ble_eq_true rfl) zle0 (ci := 6) (by decide) rfl (zo hr (by decide) rfl) k

theorem bX6_readCellar_5 {d : Nat} {Q : Option MV → MH → Prop} {h : MH} {u0 u3 : Option MV} {v2 : Int32} {v1 : Nat} (g0 : zokO h v1 2) (k : J mX6_readCellar d 0 0 Q 0 0 12 [u0, some (.inr (.inr v1)), some (.inl v2), some (.inl (nI 0))] [] (zsI h v1 0 (nI 0))) : J mX6_readCellar d 0 0 Q 0 0 5 [u0, some (.inr (.inr v1)), some (.inl v2), u3] [] h := by
  refine zrun 3 5 qX6_readCellar (o := 6) rfl ?_
  show zokO h v1 2 ∧ J mX6_readCellar d 0 0 Q 0 0 12 [u0, some (.inr (.inr v1)), some (.inl v2), some (.inl (nI 0))] [] (zsI h v1 0 (nI 0))
  exact ⟨(g0), k⟩

theorem bX6_readCellar_12 {d : Nat} {Q : Option MV → MH → Prop} {h : MH} {u0 u1 u2 : Option MV} {v3 : Int32} (k1 : (nI 8) < v3 → J mX6_readCellar d 0 0 Q 0 0 47 [u0, u1, u2, some (.inl v3)] [] h) (k2 : ¬ (nI 8) < v3 → J mX6_readCellar d 0 0 Q 0 0 18 [u0, u1, u2, some (.inl v3)] [] h) : J mX6_readCellar d 0 0 Q 0 0 12 [u0, u1, u2, some (.inl v3)] [] h := by
  refine zrun 8 3 qX6_readCellar (o := 6) rfl ?_
  show (((nI 8) < v3 → J mX6_readCellar d 0 0 Q 0 0 47 [u0, u1, u2, some (.inl v3)] [] h) ∧ (¬ (nI 8) < v3 → J mX6_readCellar d 0 0 Q 0 0 18 [u0, u1, u2, some (.inl v3)] [] h))
  exact ⟨k1, k2⟩

theorem bX6_readCellar_18 {d d' : Nat} {Q : Option MV → MH → Prop} {h : MH} {u1 u2 u3 : Option MV} (hr : zRf h) (hd : d' + 1 ≤ d) (k : Con mX6_advance d' 0 0 [.inr (.inr 2)] h (zrv fun h' => J mX6_readCellar d 0 0 Q 0 0 22 [some (.inr (.inr 2)), u1, u2, u3] [] h')) : J mX6_readCellar d 0 0 Q 0 0 18 [some (.inr (.inr 2)), u1, u2, u3] [] h := by
  refine zrun 11 1 qX6_readCellar (o := 6) rfl ?_
  show J mX6_readCellar d 0 0 Q 0 0 19 [some (.inr (.inr 2)), u1, u2, u3] [.inr (.inr 2)] h
  exact zcVv (as := []) (zat qX6_readCellar 12 (by rfl)) l6_28 rfl hd rfl (Nat.le_of_ble_eq_true rfl) zle0 (ci := 6) (by decide) rfl (zo hr (by decide) rfl) k

theorem bX6_readCellar_22 {d : Nat} {Q : Option MV → MH → Prop} {h : MH} {u1 u2 u3 : Option MV} (hr : zRf h) (k1 : ¬ (h.1 2 3) = 0 → J mX6_readCellar d 0 0 Q 0 0 31 [some (.inr (.inr 2)), u1, u2, u3] [] h) (k2 : (h.1 2 3) = 0 → J mX6_readCellar d 0 0 Q 0 0 29 [some (.inr (.inr 2)), u1, u2, u3] [] h) : J mX6_readCellar d 0 0 Q 0 0 22 [some (.inr (.inr 2)), u1, u2, u3] [] h := by
  refine zrun 13 3 qX6_readCellar (o := 6) rfl ?_
  show zokO h 2 6 ∧ ((¬ (h.1 2 3) = 0 → J mX6_readCellar d 0 0 Q 0 0 31 [some (.inr (.inr 2)), u1, u2, u3] [] h) ∧ ((h.1 2 3) = 0 → J mX6_readCellar d 0 0 Q 0 0 29 [some (.inr (.inr 2)), u1, u2, u3] [] h))
  exact ⟨(zo hr (by decide) rfl), k1, k2⟩

theorem bX6_readCellar_29 {d : Nat} {Q : Option MV → MH → Prop} {h : MH} {u0 u1 u2 u3 : Option MV} (k : Q (some (.inl (nI 1))) h) : J mX6_readCellar d 0 0 Q 0 0 29 [u0, u1, u2, u3] [] h := by
  refine zrun 16 1 qX6_readCellar (o := 6) rfl ?_
  show J mX6_readCellar d 0 0 Q 0 0 30 [u0, u1, u2, u3] [.inl (nI 1)] h
  exact J_iret (ty := .boolean) (zat qX6_readCellar 17 (by rfl)) rfl (by decide) (Nat.le_refl 0) (Nat.le_refl 0) k

theorem bX6_readCellar_31 {d d' : Nat} {Q : Option MV → MH → Prop} {h : MH} {u2 u3 : Option MV} {v1 : Nat} (hr : zRf h) (hd : d' + 1 ≤ d) (k : Con mX6_readLine d' 0 0 [.inr (.inr 2), .inr (.inr v1)] h (zri fun (x : Int32) h' => J mX6_readCellar d 0 0 Q 0 0 36 [some (.inr (.inr 2)), some (.inr (.inr v1)), u2, u3] [.inl x] h')) : J mX6_readCellar d 0 0 Q 0 0 31 [some (.inr (.inr 2)), some (.inr (.inr v1)), u2, u3] [] h := by
  refine zrun 18 2 qX6_readCellar (o := 6) rfl ?_
  show J mX6_readCellar d 0 0 Q 0 0 33 [some (.inr (.inr 2)), some (.inr (.inr v1)), u2, u3] [.inr (.inr v1), .inr (.inr 2)] h
  exact zcVi (as := [.inr (.inr v1)]) (zat qX6_readCellar 20 (by rfl)) l6_34 rfl hd rfl (Nat.le_of_ble_eq_true rfl) zle0 (ci := 6) (by decide) rfl (zo hr (by decide) rfl) k

theorem bX6_readCellar_36 {d : Nat} {Q : Option MV → MH → Prop} {h : MH} {u0 u1 u2 u3 : Option MV} {vs0 : Int32} (k1 : ¬ vs0 = 0 → J mX6_readCellar d 0 0 Q 0 0 41 [u0, u1, u2, u3] [] h) (k2 : vs0 = 0 → J mX6_readCellar d 0 0 Q 0 0 39 [u0, u1, u2, u3] [] h) : J mX6_readCellar d 0 0 Q 0 0 36 [u0, u1, u2, u3] [.inl vs0] h := by
  refine zrun 21 1 qX6_readCellar (o := 6) rfl ?_
  show ((¬ vs0 = 0 → J mX6_readCellar d 0 0 Q 0 0 41 [u0, u1, u2, u3] [] h) ∧ (vs0 = 0 → J mX6_readCellar d 0 0 Q 0 0 39 [u0, u1, u2, u3] [] h))
  exact ⟨k1, k2⟩

theorem bX6_readCellar_39 {d : Nat} {Q : Option MV → MH → Prop} {h : MH} {u0 u1 u2 u3 : Option MV} (k : Q (some (.inl (nI 0))) h) : J mX6_readCellar d 0 0 Q 0 0 39 [u0, u1, u2, u3] [] h := by
  refine zrun 22 1 qX6_readCellar (o := 6) rfl ?_
  show J mX6_readCellar d 0 0 Q 0 0 40 [u0, u1, u2, u3] [.inl (nI 0)] h
  exact J_iret (ty := .boolean) (zat qX6_readCellar 23 (by rfl)) rfl (by decide) (Nat.le_refl 0) (Nat.le_refl 0) k

theorem bX6_readCellar_41 {d : Nat} {Q : Option MV → MH → Prop} {h : MH} {u0 u1 : Option MV} {v3 v2 : Int32} (k : J mX6_readCellar d 0 0 Q 0 0 12 [u0, u1, some (.inl v2), some (.inl (v3 + nI 1))] [] h) : J mX6_readCellar d 0 0 Q 0 0 41 [u0, u1, some (.inl v2), some (.inl v3)] [] h := by
  refine zrun 24 2 qX6_readCellar (o := 6) rfl ?_
  show J mX6_readCellar d 0 0 Q 0 0 12 [u0, u1, some (.inl v2), some (.inl (v3 + nI 1))] [] h
  exact k

theorem bX6_readCellar_47 {d d' : Nat} {Q : Option MV → MH → Prop} {h : MH} {u1 u2 u3 : Option MV} (hr : zRf h) (hd : d' + 1 ≤ d) (k : Con mX6_refuse d' 0 0 [.inr (.inr 2), .inl (nI 4)] h (zri fun (x : Int32) h' => J mX6_readCellar d 0 0 Q 0 0 52 [some (.inr (.inr 2)), u1, u2, u3] [.inl x] h')) : J mX6_readCellar d 0 0 Q 0 0 47 [some (.inr (.inr 2)), u1, u2, u3] [] h := by
  refine zrun 26 2 qX6_readCellar (o := 6) rfl ?_
  show J mX6_readCellar d 0 0 Q 0 0 49 [some (.inr (.inr 2)), u1, u2, u3] [.inl (nI 4), .inr (.inr 2)] h
  exact zcVi (as := [.inl (nI 4)]) (zat qX6_readCellar 28 (by rfl)) l6_38 rfl hd rfl (Nat.le_of_ble_eq_true rfl) zle0 (ci := 6) (by decide) rfl (zo hr (by decide) rfl) k

theorem bX6_readCellar_52 {d : Nat} {Q : Option MV → MH → Prop} {h : MH} {u0 u1 u2 u3 : Option MV} {vs0 : Int32} (gn : vs0 = 0 ∨ vs0 = 1) (k : Q (some (.inl vs0)) h) : J mX6_readCellar d 0 0 Q 0 0 52 [u0, u1, u2, u3] [.inl vs0] h := by
  exact J_iret (ty := .boolean) (zat qX6_readCellar 29 (by rfl)) rfl (znz gn) (Nat.le_refl 0) (Nat.le_refl 0) k

theorem bX6_readLine_0 {d : Nat} {Q : Option MV → MH → Prop} {h : MH} {u1 u2 : Option MV} (k : J mX6_readLine d 0 0 Q 0 0 1 [some (.inr (.inr 2)), u1, u2] [.inr (.inr 2)] h) : J mX6_readLine d 0 0 Q 0 0 0 [some (.inr (.inr 2)), u1, u2] [] h := by
  refine zrun 0 1 qX6_readLine (o := 6) rfl ?_
  show J mX6_readLine d 0 0 Q 0 0 1 [some (.inr (.inr 2)), u1, u2] [.inr (.inr 2)] h
  exact k

theorem bX6_readLine_1 {d : Nat} {Q : Option MV → MH → Prop} {h : MH} {u0 u1 u2 : Option MV} (k : J mX6_readLine d 0 0 Q 0 0 3 [u0, u1, u2] [.inr (.inr 1000), .inr (.inr 2)] h) : J mX6_readLine d 0 0 Q 0 0 1 [u0, u1, u2] [.inr (.inr 2)] h := by
  exact s_ldcS (j := 0) (zat qX6_readLine 1 (by rfl)) rfl k

theorem bX6_readLine_3 {d d' : Nat} {Q : Option MV → MH → Prop} {h : MH} {u0 u1 u2 : Option MV} {vs1 : Nat} (hr : zRf h) (hd : d' + 1 ≤ d) (k : Con mX6_isWord d' 0 0 [.inr (.inr 2), .inr (.inr vs1)] h (zri fun (x : Int32) h' => J mX6_readLine d 0 0 Q 0 0 6 [u0, u1, u2] [.inl x] h')) : J mX6_readLine d 0 0 Q 0 0 3 [u0, u1, u2] [.inr (.inr vs1), .inr (.inr 2)] h := by
  exact zcVi (as := [.inr (.inr vs1)]) (zat qX6_readLine 2 (by rfl)) l6_44 rfl hd rfl (Nat.le_of_ble_eq_true rfl) zle0 (ci := 6) (by decide) rfl (zo hr (by decide) rfl) k

theorem bX6_readLine_6 {d : Nat} {Q : Option MV → MH → Prop} {h : MH} {u0 u1 u2 : Option MV} {vs0 : Int32} (k1 : ¬ vs0 = 0 → J mX6_readLine d 0 0 Q 0 0 15 [u0, u1, u2] [] h) (k2 : vs0 = 0 → J mX6_readLine d 0 0 Q 0 0 9 [u0, u1, u2] [] h) : J mX6_readLine d 0 0 Q 0 0 6 [u0, u1, u2] [.inl vs0] h := by
  refine zrun 3 1 qX6_readLine (o := 6) rfl ?_
  show ((¬ vs0 = 0 → J mX6_readLine d 0 0 Q 0 0 15 [u0, u1, u2] [] h) ∧ (vs0 = 0 → J mX6_readLine d 0 0 Q 0 0 9 [u0, u1, u2] [] h))
  exact ⟨k1, k2⟩

theorem bX6_readLine_9 {d d' : Nat} {Q : Option MV → MH → Prop} {h : MH} {u1 u2 : Option MV} (hr : zRf h) (hd : d' + 1 ≤ d) (k : Con mX6_refuse d' 0 0 [.inr (.inr 2), .inl (nI 2)] h (zri fun (x : Int32) h' => J mX6_readLine d 0 0 Q 0 0 14 [some (.inr (.inr 2)), u1, u2] [.inl x] h')) : J mX6_readLine d 0 0 Q 0 0 9 [some (.inr (.inr 2)), u1, u2] [] h := by
  refine zrun 4 2 qX6_readLine (o := 6) rfl ?_
  show J mX6_readLine d 0 0 Q 0 0 11 [some (.inr (.inr 2)), u1, u2] [.inl (nI 2), .inr (.inr 2)] h
  exact zcVi (as := [.inl (nI 2)]) (zat qX6_readLine 6 (by rfl)) l6_38 rfl hd rfl (Nat.le_of_ble_eq_true rfl) zle0 (ci := 6) (by decide) rfl (zo hr (by decide) rfl) k

theorem bX6_readLine_14 {d : Nat} {Q : Option MV → MH → Prop} {h : MH} {u0 u1 u2 : Option MV} {vs0 : Int32} (gn : vs0 = 0 ∨ vs0 = 1) (k : Q (some (.inl vs0)) h) : J mX6_readLine d 0 0 Q 0 0 14 [u0, u1, u2] [.inl vs0] h := by
  exact J_iret (ty := .boolean) (zat qX6_readLine 7 (by rfl)) rfl (znz gn) (Nat.le_refl 0) (Nat.le_refl 0) k

theorem bX6_readLine_15 {d d' : Nat} {Q : Option MV → MH → Prop} {h : MH} {u0 u2 : Option MV} {v1 : Nat} (gr : zokO h v1 2) (hd : d' + 1 ≤ d) (k : Con mX2_open d' 0 0 [.inr (.inr v1)] h (zri fun (x : Int32) h' => J mX6_readLine d 0 0 Q 0 0 19 [u0, some (.inr (.inr v1)), u2] [.inl x] h')) : J mX6_readLine d 0 0 Q 0 0 15 [u0, some (.inr (.inr v1)), u2] [] h := by
  refine zrun 8 1 qX6_readLine (o := 6) rfl ?_
  show J mX6_readLine d 0 0 Q 0 0 16 [u0, some (.inr (.inr v1)), u2] [.inr (.inr v1)] h
  exact zcVi (as := []) (zat qX6_readLine 9 (by rfl)) l6_48 rfl hd rfl (Nat.le_of_ble_eq_true rfl) zle0 (ci := 2) (by decide) rfl gr k

theorem bX6_readLine_19 {d : Nat} {Q : Option MV → MH → Prop} {h : MH} {u0 u2 : Option MV} {vs0 : Int32} {v1 : Nat} (k1 : ¬ vs0 = (-(nI 1)) → J mX6_readLine d 0 0 Q 0 0 31 [u0, some (.inr (.inr v1)), some (.inl vs0)] [] h) (k2 : vs0 = (-(nI 1)) → J mX6_readLine d 0 0 Q 0 0 25 [u0, some (.inr (.inr v1)), some (.inl vs0)] [] h) : J mX6_readLine d 0 0 Q 0 0 19 [u0, some (.inr (.inr v1)), u2] [.inl vs0] h := by
  refine zrun 10 4 qX6_readLine (o := 6) rfl ?_
  show ((¬ vs0 = (-(nI 1)) → J mX6_readLine d 0 0 Q 0 0 31 [u0, some (.inr (.inr v1)), some (.inl vs0)] [] h) ∧ (vs0 = (-(nI 1)) → J mX6_readLine d 0 0 Q 0 0 25 [u0, some (.inr (.inr v1)), some (.inl vs0)] [] h))
  exact ⟨k1, k2⟩

theorem bX6_readLine_25 {d d' : Nat} {Q : Option MV → MH → Prop} {h : MH} {u1 u2 : Option MV} (hr : zRf h) (hd : d' + 1 ≤ d) (k : Con mX6_refuse d' 0 0 [.inr (.inr 2), .inl (nI 4)] h (zri fun (x : Int32) h' => J mX6_readLine d 0 0 Q 0 0 30 [some (.inr (.inr 2)), u1, u2] [.inl x] h')) : J mX6_readLine d 0 0 Q 0 0 25 [some (.inr (.inr 2)), u1, u2] [] h := by
  refine zrun 14 2 qX6_readLine (o := 6) rfl ?_
  show J mX6_readLine d 0 0 Q 0 0 27 [some (.inr (.inr 2)), u1, u2] [.inl (nI 4), .inr (.inr 2)] h
  exact zcVi (as := [.inl (nI 4)]) (zat qX6_readLine 16 (by rfl)) l6_38 rfl hd rfl (Nat.le_of_ble_eq_true rfl) zle0 (ci := 6) (by decide) rfl (zo hr (by decide) rfl) k

theorem bX6_readLine_30 {d : Nat} {Q : Option MV → MH → Prop} {h : MH} {u0 u1 u2 : Option MV} {vs0 : Int32} (gn : vs0 = 0 ∨ vs0 = 1) (k : Q (some (.inl vs0)) h) : J mX6_readLine d 0 0 Q 0 0 30 [u0, u1, u2] [.inl vs0] h := by
  exact J_iret (ty := .boolean) (zat qX6_readLine 17 (by rfl)) rfl (znz gn) (Nat.le_refl 0) (Nat.le_refl 0) k

theorem bX6_readLine_31 {d d' : Nat} {Q : Option MV → MH → Prop} {h : MH} {v2 : Int32} {v1 : Nat} (hr : zRf h) (hd : d' + 1 ≤ d) (k : Con mX6_readPieces d' 0 0 [.inr (.inr 2), .inr (.inr v1), .inl v2] h (zri fun (x : Int32) h' => J mX6_readLine d 0 0 Q 0 0 37 [some (.inr (.inr 2)), some (.inr (.inr v1)), some (.inl v2)] [.inl x] h')) : J mX6_readLine d 0 0 Q 0 0 31 [some (.inr (.inr 2)), some (.inr (.inr v1)), some (.inl v2)] [] h := by
  refine zrun 18 3 qX6_readLine (o := 6) rfl ?_
  show J mX6_readLine d 0 0 Q 0 0 34 [some (.inr (.inr 2)), some (.inr (.inr v1)), some (.inl v2)] [.inl v2, .inr (.inr v1), .inr (.inr 2)] h
  exact zcVi (as := [.inr (.inr v1), .inl v2]) (zat qX6_readLine 21 (by rfl)) l6_52 rfl hd rfl (Nat.le_of_ble_eq_true rfl) zle0 (ci := 6) (by decide) rfl (zo hr (by decide) rfl) k

theorem bX6_readLine_37 {d : Nat} {Q : Option MV → MH → Prop} {h : MH} {u0 u1 u2 : Option MV} {vs0 : Int32} (k1 : ¬ vs0 = 0 → J mX6_readLine d 0 0 Q 0 0 42 [u0, u1, u2] [] h) (k2 : vs0 = 0 → J mX6_readLine d 0 0 Q 0 0 40 [u0, u1, u2] [] h) : J mX6_readLine d 0 0 Q 0 0 37 [u0, u1, u2] [.inl vs0] h := by
  refine zrun 22 1 qX6_readLine (o := 6) rfl ?_
  show ((¬ vs0 = 0 → J mX6_readLine d 0 0 Q 0 0 42 [u0, u1, u2] [] h) ∧ (vs0 = 0 → J mX6_readLine d 0 0 Q 0 0 40 [u0, u1, u2] [] h))
  exact ⟨k1, k2⟩

theorem bX6_readLine_40 {d : Nat} {Q : Option MV → MH → Prop} {h : MH} {u0 u1 u2 : Option MV} (k : Q (some (.inl (nI 0))) h) : J mX6_readLine d 0 0 Q 0 0 40 [u0, u1, u2] [] h := by
  refine zrun 23 1 qX6_readLine (o := 6) rfl ?_
  show J mX6_readLine d 0 0 Q 0 0 41 [u0, u1, u2] [.inl (nI 0)] h
  exact J_iret (ty := .boolean) (zat qX6_readLine 24 (by rfl)) rfl (by decide) (Nat.le_refl 0) (Nat.le_refl 0) k

theorem bX6_readLine_42 {d : Nat} {Q : Option MV → MH → Prop} {h : MH} {u1 u2 : Option MV} (k : J mX6_readLine d 0 0 Q 0 0 43 [some (.inr (.inr 2)), u1, u2] [.inr (.inr 2)] h) : J mX6_readLine d 0 0 Q 0 0 42 [some (.inr (.inr 2)), u1, u2] [] h := by
  refine zrun 25 1 qX6_readLine (o := 6) rfl ?_
  show J mX6_readLine d 0 0 Q 0 0 43 [some (.inr (.inr 2)), u1, u2] [.inr (.inr 2)] h
  exact k

theorem bX6_readLine_43 {d : Nat} {Q : Option MV → MH → Prop} {h : MH} {u0 u1 u2 : Option MV} (k : J mX6_readLine d 0 0 Q 0 0 45 [u0, u1, u2] [.inr (.inr 1001), .inr (.inr 2)] h) : J mX6_readLine d 0 0 Q 0 0 43 [u0, u1, u2] [.inr (.inr 2)] h := by
  exact s_ldcS (j := 1) (zat qX6_readLine 26 (by rfl)) rfl k

theorem bX6_readLine_45 {d d' : Nat} {Q : Option MV → MH → Prop} {h : MH} {u0 u1 u2 : Option MV} {vs1 : Nat} (hr : zRf h) (hd : d' + 1 ≤ d) (k : Con mX6_isWord d' 0 0 [.inr (.inr 2), .inr (.inr vs1)] h (zri fun (x : Int32) h' => J mX6_readLine d 0 0 Q 0 0 48 [u0, u1, u2] [.inl x] h')) : J mX6_readLine d 0 0 Q 0 0 45 [u0, u1, u2] [.inr (.inr vs1), .inr (.inr 2)] h := by
  exact zcVi (as := [.inr (.inr vs1)]) (zat qX6_readLine 27 (by rfl)) l6_44 rfl hd rfl (Nat.le_of_ble_eq_true rfl) zle0 (ci := 6) (by decide) rfl (zo hr (by decide) rfl) k

theorem bX6_readLine_48 {d : Nat} {Q : Option MV → MH → Prop} {h : MH} {u0 u1 u2 : Option MV} {vs0 : Int32} (k1 : vs0 = 0 → J mX6_readLine d 0 0 Q 0 0 78 [u0, u1, u2] [] h) (k2 : ¬ vs0 = 0 → J mX6_readLine d 0 0 Q 0 0 51 [u0, u1, u2] [] h) : J mX6_readLine d 0 0 Q 0 0 48 [u0, u1, u2] [.inl vs0] h := by
  refine zrun 28 1 qX6_readLine (o := 6) rfl ?_
  show ((vs0 = 0 → J mX6_readLine d 0 0 Q 0 0 78 [u0, u1, u2] [] h) ∧ (¬ vs0 = 0 → J mX6_readLine d 0 0 Q 0 0 51 [u0, u1, u2] [] h))
  exact ⟨k1, k2⟩

theorem bX6_readLine_51 {d d' : Nat} {Q : Option MV → MH → Prop} {h : MH} {u1 u2 : Option MV} (hr : zRf h) (hd : d' + 1 ≤ d) (k : Con mX6_advanceTo d' 0 0 [.inr (.inr 2), .inl (nI 1), .inl (nI 999)] h (zri fun (x : Int32) h' => J mX6_readLine d 0 0 Q 0 0 59 [some (.inr (.inr 2)), u1, u2] [.inl x] h')) : J mX6_readLine d 0 0 Q 0 0 51 [some (.inr (.inr 2)), u1, u2] [] h := by
  refine zrun 29 3 qX6_readLine (o := 6) rfl ?_
  show J mX6_readLine d 0 0 Q 0 0 56 [some (.inr (.inr 2)), u1, u2] [.inl (nI 999), .inl (nI 1), .inr (.inr 2)] h
  exact zcVi (as := [.inl (nI 1), .inl (nI 999)]) (zat qX6_readLine 32 (by rfl)) l6_58 rfl hd rfl (Nat.le_of_ble_eq_true rfl) zle0 (ci := 6) (by decide) rfl (zo hr (by decide) rfl) k

theorem bX6_readLine_59 {d : Nat} {Q : Option MV → MH → Prop} {h : MH} {u0 u1 u2 : Option MV} {vs0 : Int32} (k1 : ¬ vs0 = 0 → J mX6_readLine d 0 0 Q 0 0 64 [u0, u1, u2] [] h) (k2 : vs0 = 0 → J mX6_readLine d 0 0 Q 0 0 62 [u0, u1, u2] [] h) : J mX6_readLine d 0 0 Q 0 0 59 [u0, u1, u2] [.inl vs0] h := by
  refine zrun 33 1 qX6_readLine (o := 6) rfl ?_
  show ((¬ vs0 = 0 → J mX6_readLine d 0 0 Q 0 0 64 [u0, u1, u2] [] h) ∧ (vs0 = 0 → J mX6_readLine d 0 0 Q 0 0 62 [u0, u1, u2] [] h))
  exact ⟨k1, k2⟩

theorem bX6_readLine_62 {d : Nat} {Q : Option MV → MH → Prop} {h : MH} {u0 u1 u2 : Option MV} (k : Q (some (.inl (nI 0))) h) : J mX6_readLine d 0 0 Q 0 0 62 [u0, u1, u2] [] h := by
  refine zrun 34 1 qX6_readLine (o := 6) rfl ?_
  show J mX6_readLine d 0 0 Q 0 0 63 [u0, u1, u2] [.inl (nI 0)] h
  exact J_iret (ty := .boolean) (zat qX6_readLine 35 (by rfl)) rfl (by decide) (Nat.le_refl 0) (Nat.le_refl 0) k

theorem bX6_readLine_64 {d d' : Nat} {Q : Option MV → MH → Prop} {h : MH} {v2 : Int32} {v1 : Nat} (hr : zRf h) (g0 : zokO h v1 2) (g1 : vp_in v2 8) (hd : d' + 1 ≤ d) (k : Con mX6_advance d' 0 0 [.inr (.inr 2)] (zsI h (v1 + 3) v2.toNatClampNeg (h.1 2 5)) (zrv fun h' => J mX6_readLine d 0 0 Q 0 0 78 [some (.inr (.inr 2)), some (.inr (.inr v1)), some (.inl v2)] [] h')) : J mX6_readLine d 0 0 Q 0 0 64 [some (.inr (.inr 2)), some (.inr (.inr v1)), some (.inl v2)] [] h := by
  refine zrun 36 7 qX6_readLine (o := 6) rfl ?_
  show zokO h v1 2 ∧ zokO h 2 6 ∧ zokA h (h.2.2.1 v1 3) 20 v2 ∧ J mX6_readLine d 0 0 Q 0 0 75 [some (.inr (.inr 2)), some (.inr (.inr v1)), some (.inl v2)] [.inr (.inr 2)] (zsI h (h.2.2.1 v1 3) v2.toNatClampNeg (h.1 2 5))
  rw [(show h.2.2.1 v1 3 = (v1 + 3) from (hr.f2 3 g0 (by decide)))]
  exact ⟨g0, (zo hr (by decide) rfl), (zca hr g0 (by decide) (by decide) g1), zcVv (as := []) (zat qX6_readLine 43 (by rfl)) l6_28 rfl hd rfl (Nat.le_of_ble_eq_true rfl) zle0 (ci := 6) (by decide) rfl (show zokO _ _ _ from (zo hr (by decide) rfl)) k⟩

theorem bX6_readLine_78 {d : Nat} {Q : Option MV → MH → Prop} {h : MH} {u1 u2 : Option MV} (k : J mX6_readLine d 0 0 Q 0 0 79 [some (.inr (.inr 2)), u1, u2] [.inr (.inr 2)] h) : J mX6_readLine d 0 0 Q 0 0 78 [some (.inr (.inr 2)), u1, u2] [] h := by
  refine zrun 44 1 qX6_readLine (o := 6) rfl ?_
  show J mX6_readLine d 0 0 Q 0 0 79 [some (.inr (.inr 2)), u1, u2] [.inr (.inr 2)] h
  exact k

theorem bX6_readLine_79 {d : Nat} {Q : Option MV → MH → Prop} {h : MH} {u0 u1 u2 : Option MV} (k : J mX6_readLine d 0 0 Q 0 0 81 [u0, u1, u2] [.inr (.inr 1002), .inr (.inr 2)] h) : J mX6_readLine d 0 0 Q 0 0 79 [u0, u1, u2] [.inr (.inr 2)] h := by
  exact s_ldcS (j := 2) (zat qX6_readLine 45 (by rfl)) rfl k

theorem bX6_readLine_81 {d d' : Nat} {Q : Option MV → MH → Prop} {h : MH} {u0 u1 u2 : Option MV} {vs1 : Nat} (hr : zRf h) (hd : d' + 1 ≤ d) (k : Con mX6_isWord d' 0 0 [.inr (.inr 2), .inr (.inr vs1)] h (zri fun (x : Int32) h' => J mX6_readLine d 0 0 Q 0 0 84 [u0, u1, u2] [.inl x] h')) : J mX6_readLine d 0 0 Q 0 0 81 [u0, u1, u2] [.inr (.inr vs1), .inr (.inr 2)] h := by
  exact zcVi (as := [.inr (.inr vs1)]) (zat qX6_readLine 46 (by rfl)) l6_44 rfl hd rfl (Nat.le_of_ble_eq_true rfl) zle0 (ci := 6) (by decide) rfl (zo hr (by decide) rfl) k

theorem bX6_readLine_84 {d : Nat} {Q : Option MV → MH → Prop} {h : MH} {u0 u1 u2 : Option MV} {vs0 : Int32} (k1 : vs0 = 0 → J mX6_readLine d 0 0 Q 0 0 113 [u0, u1, u2] [] h) (k2 : ¬ vs0 = 0 → J mX6_readLine d 0 0 Q 0 0 87 [u0, u1, u2] [] h) : J mX6_readLine d 0 0 Q 0 0 84 [u0, u1, u2] [.inl vs0] h := by
  refine zrun 47 1 qX6_readLine (o := 6) rfl ?_
  show ((vs0 = 0 → J mX6_readLine d 0 0 Q 0 0 113 [u0, u1, u2] [] h) ∧ (¬ vs0 = 0 → J mX6_readLine d 0 0 Q 0 0 87 [u0, u1, u2] [] h))
  exact ⟨k1, k2⟩

theorem bX6_readLine_87 {d d' : Nat} {Q : Option MV → MH → Prop} {h : MH} {u1 u2 : Option MV} (hr : zRf h) (hd : d' + 1 ≤ d) (k : Con mX6_advanceTo d' 0 0 [.inr (.inr 2), .inl (nI 0), .inl (nI 50)] h (zri fun (x : Int32) h' => J mX6_readLine d 0 0 Q 0 0 94 [some (.inr (.inr 2)), u1, u2] [.inl x] h')) : J mX6_readLine d 0 0 Q 0 0 87 [some (.inr (.inr 2)), u1, u2] [] h := by
  refine zrun 48 3 qX6_readLine (o := 6) rfl ?_
  show J mX6_readLine d 0 0 Q 0 0 91 [some (.inr (.inr 2)), u1, u2] [.inl (nI 50), .inl (nI 0), .inr (.inr 2)] h
  exact zcVi (as := [.inl (nI 0), .inl (nI 50)]) (zat qX6_readLine 51 (by rfl)) l6_58 rfl hd rfl (Nat.le_of_ble_eq_true rfl) zle0 (ci := 6) (by decide) rfl (zo hr (by decide) rfl) k

theorem bX6_readLine_94 {d : Nat} {Q : Option MV → MH → Prop} {h : MH} {u0 u1 u2 : Option MV} {vs0 : Int32} (k1 : ¬ vs0 = 0 → J mX6_readLine d 0 0 Q 0 0 99 [u0, u1, u2] [] h) (k2 : vs0 = 0 → J mX6_readLine d 0 0 Q 0 0 97 [u0, u1, u2] [] h) : J mX6_readLine d 0 0 Q 0 0 94 [u0, u1, u2] [.inl vs0] h := by
  refine zrun 52 1 qX6_readLine (o := 6) rfl ?_
  show ((¬ vs0 = 0 → J mX6_readLine d 0 0 Q 0 0 99 [u0, u1, u2] [] h) ∧ (vs0 = 0 → J mX6_readLine d 0 0 Q 0 0 97 [u0, u1, u2] [] h))
  exact ⟨k1, k2⟩

theorem bX6_readLine_97 {d : Nat} {Q : Option MV → MH → Prop} {h : MH} {u0 u1 u2 : Option MV} (k : Q (some (.inl (nI 0))) h) : J mX6_readLine d 0 0 Q 0 0 97 [u0, u1, u2] [] h := by
  refine zrun 53 1 qX6_readLine (o := 6) rfl ?_
  show J mX6_readLine d 0 0 Q 0 0 98 [u0, u1, u2] [.inl (nI 0)] h
  exact J_iret (ty := .boolean) (zat qX6_readLine 54 (by rfl)) rfl (by decide) (Nat.le_refl 0) (Nat.le_refl 0) k

theorem bX6_readLine_99 {d d' : Nat} {Q : Option MV → MH → Prop} {h : MH} {v2 : Int32} {v1 : Nat} (hr : zRf h) (g0 : zokO h v1 2) (g1 : vp_in v2 8) (hd : d' + 1 ≤ d) (k : Con mX6_advance d' 0 0 [.inr (.inr 2)] (zsI h (v1 + 4) v2.toNatClampNeg (h.1 2 5)) (zrv fun h' => J mX6_readLine d 0 0 Q 0 0 113 [some (.inr (.inr 2)), some (.inr (.inr v1)), some (.inl v2)] [] h')) : J mX6_readLine d 0 0 Q 0 0 99 [some (.inr (.inr 2)), some (.inr (.inr v1)), some (.inl v2)] [] h := by
  refine zrun 55 7 qX6_readLine (o := 6) rfl ?_
  show zokO h v1 2 ∧ zokO h 2 6 ∧ zokA h (h.2.2.1 v1 4) 20 v2 ∧ J mX6_readLine d 0 0 Q 0 0 110 [some (.inr (.inr 2)), some (.inr (.inr v1)), some (.inl v2)] [.inr (.inr 2)] (zsI h (h.2.2.1 v1 4) v2.toNatClampNeg (h.1 2 5))
  rw [(show h.2.2.1 v1 4 = (v1 + 4) from (hr.f2 4 g0 (by decide)))]
  exact ⟨g0, (zo hr (by decide) rfl), (zca hr g0 (by decide) (by decide) g1), zcVv (as := []) (zat qX6_readLine 62 (by rfl)) l6_28 rfl hd rfl (Nat.le_of_ble_eq_true rfl) zle0 (ci := 6) (by decide) rfl (show zokO _ _ _ from (zo hr (by decide) rfl)) k⟩

theorem bX6_readLine_113 {d : Nat} {Q : Option MV → MH → Prop} {h : MH} {u1 u2 : Option MV} (hr : zRf h) (k1 : (h.1 2 3) = (nI 3) → J mX6_readLine d 0 0 Q 0 0 129 [some (.inr (.inr 2)), u1, u2] [] h) (k2 : ¬ (h.1 2 3) = (nI 3) → J mX6_readLine d 0 0 Q 0 0 121 [some (.inr (.inr 2)), u1, u2] [] h) : J mX6_readLine d 0 0 Q 0 0 113 [some (.inr (.inr 2)), u1, u2] [] h := by
  refine zrun 63 4 qX6_readLine (o := 6) rfl ?_
  show zokO h 2 6 ∧ (((h.1 2 3) = (nI 3) → J mX6_readLine d 0 0 Q 0 0 129 [some (.inr (.inr 2)), u1, u2] [] h) ∧ (¬ (h.1 2 3) = (nI 3) → J mX6_readLine d 0 0 Q 0 0 121 [some (.inr (.inr 2)), u1, u2] [] h))
  exact ⟨(zo hr (by decide) rfl), k1, k2⟩

theorem bX6_readLine_121 {d d' : Nat} {Q : Option MV → MH → Prop} {h : MH} {u1 u2 : Option MV} (hr : zRf h) (hd : d' + 1 ≤ d) (k : Con mX6_refuse d' 0 0 [.inr (.inr 2), .inl (nI 2)] h (zri fun (x : Int32) h' => J mX6_readLine d 0 0 Q 0 0 126 [some (.inr (.inr 2)), u1, u2] [.inl x] h')) : J mX6_readLine d 0 0 Q 0 0 121 [some (.inr (.inr 2)), u1, u2] [] h := by
  refine zrun 67 2 qX6_readLine (o := 6) rfl ?_
  show J mX6_readLine d 0 0 Q 0 0 123 [some (.inr (.inr 2)), u1, u2] [.inl (nI 2), .inr (.inr 2)] h
  exact zcVi (as := [.inl (nI 2)]) (zat qX6_readLine 69 (by rfl)) l6_38 rfl hd rfl (Nat.le_of_ble_eq_true rfl) zle0 (ci := 6) (by decide) rfl (zo hr (by decide) rfl) k

theorem bX6_readLine_126 {d : Nat} {Q : Option MV → MH → Prop} {h : MH} {u0 u1 u2 : Option MV} {vs0 : Int32} (k1 : vs0 = 0 → J mX6_readLine d 0 0 Q 0 0 133 [u0, u1, u2] [] h) (k2 : ¬ vs0 = 0 → J mX6_readLine d 0 0 Q 0 0 129 [u0, u1, u2] [] h) : J mX6_readLine d 0 0 Q 0 0 126 [u0, u1, u2] [.inl vs0] h := by
  refine zrun 70 1 qX6_readLine (o := 6) rfl ?_
  show ((vs0 = 0 → J mX6_readLine d 0 0 Q 0 0 133 [u0, u1, u2] [] h) ∧ (¬ vs0 = 0 → J mX6_readLine d 0 0 Q 0 0 129 [u0, u1, u2] [] h))
  exact ⟨k1, k2⟩

theorem bX6_readLine_129 {d : Nat} {Q : Option MV → MH → Prop} {h : MH} {u0 u1 u2 : Option MV} (k : J mX6_readLine d 0 0 Q 0 0 134 [u0, u1, u2] [.inl (nI 1)] h) : J mX6_readLine d 0 0 Q 0 0 129 [u0, u1, u2] [] h := by
  refine zrun 71 2 qX6_readLine (o := 6) rfl ?_
  show J mX6_readLine d 0 0 Q 0 0 134 [u0, u1, u2] [.inl (nI 1)] h
  exact k

theorem bX6_readLine_133 {d : Nat} {Q : Option MV → MH → Prop} {h : MH} {u0 u1 u2 : Option MV} (k : J mX6_readLine d 0 0 Q 0 0 134 [u0, u1, u2] [.inl (nI 0)] h) : J mX6_readLine d 0 0 Q 0 0 133 [u0, u1, u2] [] h := by
  refine zrun 73 1 qX6_readLine (o := 6) rfl ?_
  show J mX6_readLine d 0 0 Q 0 0 134 [u0, u1, u2] [.inl (nI 0)] h
  exact k

theorem bX6_readLine_134 {d : Nat} {Q : Option MV → MH → Prop} {h : MH} {u0 u1 u2 : Option MV} {vs0 : Int32} (gn : vs0 = 0 ∨ vs0 = 1) (k : Q (some (.inl vs0)) h) : J mX6_readLine d 0 0 Q 0 0 134 [u0, u1, u2] [.inl vs0] h := by
  exact J_iret (ty := .boolean) (zat qX6_readLine 74 (by rfl)) rfl (znz gn) (Nat.le_refl 0) (Nat.le_refl 0) k

theorem bX6_readPieces_0 {d : Nat} {Q : Option MV → MH → Prop} {h : MH} {u0 u1 u3 : Option MV} {v2 : Int32} (k : J mX6_readPieces d 0 0 Q 0 0 2 [u0, u1, some (.inl v2), some (.inl (nI 0))] [] h) : J mX6_readPieces d 0 0 Q 0 0 0 [u0, u1, some (.inl v2), u3] [] h := by
  refine zrun 0 2 qX6_readPieces (o := 6) rfl ?_
  show J mX6_readPieces d 0 0 Q 0 0 2 [u0, u1, some (.inl v2), some (.inl (nI 0))] [] h
  exact k

theorem bX6_readPieces_2 {d : Nat} {Q : Option MV → MH → Prop} {h : MH} {u0 u1 u2 : Option MV} {v3 : Int32} (k1 : (nI 6) < v3 → J mX6_readPieces d 0 0 Q 0 0 62 [u0, u1, u2, some (.inl v3)] [] h) (k2 : ¬ (nI 6) < v3 → J mX6_readPieces d 0 0 Q 0 0 8 [u0, u1, u2, some (.inl v3)] [] h) : J mX6_readPieces d 0 0 Q 0 0 2 [u0, u1, u2, some (.inl v3)] [] h := by
  refine zrun 2 3 qX6_readPieces (o := 6) rfl ?_
  show (((nI 6) < v3 → J mX6_readPieces d 0 0 Q 0 0 62 [u0, u1, u2, some (.inl v3)] [] h) ∧ (¬ (nI 6) < v3 → J mX6_readPieces d 0 0 Q 0 0 8 [u0, u1, u2, some (.inl v3)] [] h))
  exact ⟨k1, k2⟩

theorem bX6_readPieces_8 {d d' : Nat} {Q : Option MV → MH → Prop} {h : MH} {u1 u2 u3 : Option MV} (hr : zRf h) (hd : d' + 1 ≤ d) (k : Con mX6_advance d' 0 0 [.inr (.inr 2)] h (zrv fun h' => J mX6_readPieces d 0 0 Q 0 0 12 [some (.inr (.inr 2)), u1, u2, u3] [] h')) : J mX6_readPieces d 0 0 Q 0 0 8 [some (.inr (.inr 2)), u1, u2, u3] [] h := by
  refine zrun 5 1 qX6_readPieces (o := 6) rfl ?_
  show J mX6_readPieces d 0 0 Q 0 0 9 [some (.inr (.inr 2)), u1, u2, u3] [.inr (.inr 2)] h
  exact zcVv (as := []) (zat qX6_readPieces 6 (by rfl)) l6_28 rfl hd rfl (Nat.le_of_ble_eq_true rfl) zle0 (ci := 6) (by decide) rfl (zo hr (by decide) rfl) k

theorem bX6_readPieces_12 {d : Nat} {Q : Option MV → MH → Prop} {h : MH} {u0 u1 u2 : Option MV} {v3 : Int32} (k1 : v3 ≤ 0 → J mX6_readPieces d 0 0 Q 0 0 26 [u0, u1, u2, some (.inl v3)] [] h) (k2 : ¬ v3 ≤ 0 → J mX6_readPieces d 0 0 Q 0 0 16 [u0, u1, u2, some (.inl v3)] [] h) : J mX6_readPieces d 0 0 Q 0 0 12 [u0, u1, u2, some (.inl v3)] [] h := by
  refine zrun 7 2 qX6_readPieces (o := 6) rfl ?_
  show ((v3 ≤ 0 → J mX6_readPieces d 0 0 Q 0 0 26 [u0, u1, u2, some (.inl v3)] [] h) ∧ (¬ v3 ≤ 0 → J mX6_readPieces d 0 0 Q 0 0 16 [u0, u1, u2, some (.inl v3)] [] h))
  exact ⟨k1, k2⟩

theorem bX6_readPieces_16 {d : Nat} {Q : Option MV → MH → Prop} {h : MH} {u1 u2 u3 : Option MV} (hr : zRf h) (k1 : (h.1 2 3) = (nI 2) → J mX6_readPieces d 0 0 Q 0 0 26 [some (.inr (.inr 2)), u1, u2, u3] [] h) (k2 : ¬ (h.1 2 3) = (nI 2) → J mX6_readPieces d 0 0 Q 0 0 24 [some (.inr (.inr 2)), u1, u2, u3] [] h) : J mX6_readPieces d 0 0 Q 0 0 16 [some (.inr (.inr 2)), u1, u2, u3] [] h := by
  refine zrun 9 4 qX6_readPieces (o := 6) rfl ?_
  show zokO h 2 6 ∧ (((h.1 2 3) = (nI 2) → J mX6_readPieces d 0 0 Q 0 0 26 [some (.inr (.inr 2)), u1, u2, u3] [] h) ∧ (¬ (h.1 2 3) = (nI 2) → J mX6_readPieces d 0 0 Q 0 0 24 [some (.inr (.inr 2)), u1, u2, u3] [] h))
  exact ⟨(zo hr (by decide) rfl), k1, k2⟩

theorem bX6_readPieces_24 {d : Nat} {Q : Option MV → MH → Prop} {h : MH} {u0 u1 u2 u3 : Option MV} (k : Q (some (.inl (nI 1))) h) : J mX6_readPieces d 0 0 Q 0 0 24 [u0, u1, u2, u3] [] h := by
  refine zrun 13 1 qX6_readPieces (o := 6) rfl ?_
  show J mX6_readPieces d 0 0 Q 0 0 25 [u0, u1, u2, u3] [.inl (nI 1)] h
  exact J_iret (ty := .boolean) (zat qX6_readPieces 14 (by rfl)) rfl (by decide) (Nat.le_refl 0) (Nat.le_refl 0) k

theorem bX6_readPieces_26 {d d' : Nat} {Q : Option MV → MH → Prop} {h : MH} {u1 u2 u3 : Option MV} (hr : zRf h) (hd : d' + 1 ≤ d) (k : Con mX6_isNumber d' 0 0 [.inr (.inr 2), .inl (nI 1), .inl (nI 60)] h (zri fun (x : Int32) h' => J mX6_readPieces d 0 0 Q 0 0 33 [some (.inr (.inr 2)), u1, u2, u3] [.inl x] h')) : J mX6_readPieces d 0 0 Q 0 0 26 [some (.inr (.inr 2)), u1, u2, u3] [] h := by
  refine zrun 15 3 qX6_readPieces (o := 6) rfl ?_
  show J mX6_readPieces d 0 0 Q 0 0 30 [some (.inr (.inr 2)), u1, u2, u3] [.inl (nI 60), .inl (nI 1), .inr (.inr 2)] h
  exact zcVi (as := [.inl (nI 1), .inl (nI 60)]) (zat qX6_readPieces 18 (by rfl)) l6_71 rfl hd rfl (Nat.le_of_ble_eq_true rfl) zle0 (ci := 6) (by decide) rfl (zo hr (by decide) rfl) k

theorem bX6_readPieces_33 {d : Nat} {Q : Option MV → MH → Prop} {h : MH} {u0 u1 u2 u3 : Option MV} {vs0 : Int32} (k1 : ¬ vs0 = 0 → J mX6_readPieces d 0 0 Q 0 0 38 [u0, u1, u2, u3] [] h) (k2 : vs0 = 0 → J mX6_readPieces d 0 0 Q 0 0 36 [u0, u1, u2, u3] [] h) : J mX6_readPieces d 0 0 Q 0 0 33 [u0, u1, u2, u3] [.inl vs0] h := by
  refine zrun 19 1 qX6_readPieces (o := 6) rfl ?_
  show ((¬ vs0 = 0 → J mX6_readPieces d 0 0 Q 0 0 38 [u0, u1, u2, u3] [] h) ∧ (vs0 = 0 → J mX6_readPieces d 0 0 Q 0 0 36 [u0, u1, u2, u3] [] h))
  exact ⟨k1, k2⟩

theorem bX6_readPieces_36 {d : Nat} {Q : Option MV → MH → Prop} {h : MH} {u0 u1 u2 u3 : Option MV} (k : Q (some (.inl (nI 0))) h) : J mX6_readPieces d 0 0 Q 0 0 36 [u0, u1, u2, u3] [] h := by
  refine zrun 20 1 qX6_readPieces (o := 6) rfl ?_
  show J mX6_readPieces d 0 0 Q 0 0 37 [u0, u1, u2, u3] [.inl (nI 0)] h
  exact J_iret (ty := .boolean) (zat qX6_readPieces 21 (by rfl)) rfl (by decide) (Nat.le_refl 0) (Nat.le_refl 0) k

theorem bX6_readPieces_38 {d d' : Nat} {Q : Option MV → MH → Prop} {h : MH} {u3 : Option MV} {v2 : Int32} {v1 : Nat} (hr : zRf h) (gr : zokO h v1 2) (hd : d' + 1 ≤ d) (k : Con mX2_addPiece d' 0 0 [.inr (.inr v1), .inl v2, .inl (h.1 2 5)] h (zri fun (x : Int32) h' => J mX6_readPieces d 0 0 Q 0 0 47 [some (.inr (.inr 2)), some (.inr (.inr v1)), some (.inl v2), u3] [.inl x] h')) : J mX6_readPieces d 0 0 Q 0 0 38 [some (.inr (.inr 2)), some (.inr (.inr v1)), some (.inl v2), u3] [] h := by
  refine zrun 22 4 qX6_readPieces (o := 6) rfl ?_
  show zokO h 2 6 ∧ J mX6_readPieces d 0 0 Q 0 0 44 [some (.inr (.inr 2)), some (.inr (.inr v1)), some (.inl v2), u3] [.inl (h.1 2 5), .inl v2, .inr (.inr v1)] h
  exact ⟨(zo hr (by decide) rfl), zcVi (as := [.inl v2, .inl (h.1 2 5)]) (zat qX6_readPieces 26 (by rfl)) l6_74 rfl hd rfl (Nat.le_of_ble_eq_true rfl) zle0 (ci := 2) (by decide) rfl gr k⟩

theorem bX6_readPieces_47 {d : Nat} {Q : Option MV → MH → Prop} {h : MH} {u0 u1 u2 u3 : Option MV} {vs0 : Int32} (k1 : ¬ vs0 = 0 → J mX6_readPieces d 0 0 Q 0 0 56 [u0, u1, u2, u3] [] h) (k2 : vs0 = 0 → J mX6_readPieces d 0 0 Q 0 0 50 [u0, u1, u2, u3] [] h) : J mX6_readPieces d 0 0 Q 0 0 47 [u0, u1, u2, u3] [.inl vs0] h := by
  refine zrun 27 1 qX6_readPieces (o := 6) rfl ?_
  show ((¬ vs0 = 0 → J mX6_readPieces d 0 0 Q 0 0 56 [u0, u1, u2, u3] [] h) ∧ (vs0 = 0 → J mX6_readPieces d 0 0 Q 0 0 50 [u0, u1, u2, u3] [] h))
  exact ⟨k1, k2⟩

theorem bX6_readPieces_50 {d d' : Nat} {Q : Option MV → MH → Prop} {h : MH} {u1 u2 u3 : Option MV} (hr : zRf h) (hd : d' + 1 ≤ d) (k : Con mX6_refuse d' 0 0 [.inr (.inr 2), .inl (nI 4)] h (zri fun (x : Int32) h' => J mX6_readPieces d 0 0 Q 0 0 55 [some (.inr (.inr 2)), u1, u2, u3] [.inl x] h')) : J mX6_readPieces d 0 0 Q 0 0 50 [some (.inr (.inr 2)), u1, u2, u3] [] h := by
  refine zrun 28 2 qX6_readPieces (o := 6) rfl ?_
  show J mX6_readPieces d 0 0 Q 0 0 52 [some (.inr (.inr 2)), u1, u2, u3] [.inl (nI 4), .inr (.inr 2)] h
  exact zcVi (as := [.inl (nI 4)]) (zat qX6_readPieces 30 (by rfl)) l6_38 rfl hd rfl (Nat.le_of_ble_eq_true rfl) zle0 (ci := 6) (by decide) rfl (zo hr (by decide) rfl) k

theorem bX6_readPieces_55 {d : Nat} {Q : Option MV → MH → Prop} {h : MH} {u0 u1 u2 u3 : Option MV} {vs0 : Int32} (gn : vs0 = 0 ∨ vs0 = 1) (k : Q (some (.inl vs0)) h) : J mX6_readPieces d 0 0 Q 0 0 55 [u0, u1, u2, u3] [.inl vs0] h := by
  exact J_iret (ty := .boolean) (zat qX6_readPieces 31 (by rfl)) rfl (znz gn) (Nat.le_refl 0) (Nat.le_refl 0) k

theorem bX6_readPieces_56 {d : Nat} {Q : Option MV → MH → Prop} {h : MH} {u0 u1 : Option MV} {v3 v2 : Int32} (k : J mX6_readPieces d 0 0 Q 0 0 2 [u0, u1, some (.inl v2), some (.inl (v3 + nI 1))] [] h) : J mX6_readPieces d 0 0 Q 0 0 56 [u0, u1, some (.inl v2), some (.inl v3)] [] h := by
  refine zrun 32 2 qX6_readPieces (o := 6) rfl ?_
  show J mX6_readPieces d 0 0 Q 0 0 2 [u0, u1, some (.inl v2), some (.inl (v3 + nI 1))] [] h
  exact k

theorem bX6_readPieces_62 {d d' : Nat} {Q : Option MV → MH → Prop} {h : MH} {u1 u2 u3 : Option MV} (hr : zRf h) (hd : d' + 1 ≤ d) (k : Con mX6_refuse d' 0 0 [.inr (.inr 2), .inl (nI 4)] h (zri fun (x : Int32) h' => J mX6_readPieces d 0 0 Q 0 0 67 [some (.inr (.inr 2)), u1, u2, u3] [.inl x] h')) : J mX6_readPieces d 0 0 Q 0 0 62 [some (.inr (.inr 2)), u1, u2, u3] [] h := by
  refine zrun 34 2 qX6_readPieces (o := 6) rfl ?_
  show J mX6_readPieces d 0 0 Q 0 0 64 [some (.inr (.inr 2)), u1, u2, u3] [.inl (nI 4), .inr (.inr 2)] h
  exact zcVi (as := [.inl (nI 4)]) (zat qX6_readPieces 36 (by rfl)) l6_38 rfl hd rfl (Nat.le_of_ble_eq_true rfl) zle0 (ci := 6) (by decide) rfl (zo hr (by decide) rfl) k

theorem bX6_readPieces_67 {d : Nat} {Q : Option MV → MH → Prop} {h : MH} {u0 u1 u2 u3 : Option MV} {vs0 : Int32} (gn : vs0 = 0 ∨ vs0 = 1) (k : Q (some (.inl vs0)) h) : J mX6_readPieces d 0 0 Q 0 0 67 [u0, u1, u2, u3] [.inl vs0] h := by
  exact J_iret (ty := .boolean) (zat qX6_readPieces 37 (by rfl)) rfl (znz gn) (Nat.le_refl 0) (Nat.le_refl 0) k

theorem bX6_readPlan_0 {d d' : Nat} {Q : Option MV → MH → Prop} {h : MH} {u1 u3 : Option MV} {v2 : Int32} (hr : zRf h) (hd : d' + 1 ≤ d) (k : Con mX6_begin d' 0 0 [.inr (.inr 2), .inl v2] h (zrv fun h' => J mX6_readPlan d 0 0 Q 0 0 5 [some (.inr (.inr 2)), u1, some (.inl v2), u3] [] h')) : J mX6_readPlan d 0 0 Q 0 0 0 [some (.inr (.inr 2)), u1, some (.inl v2), u3] [] h := by
  refine zrun 0 2 qX6_readPlan (o := 6) rfl ?_
  show J mX6_readPlan d 0 0 Q 0 0 2 [some (.inr (.inr 2)), u1, some (.inl v2), u3] [.inl v2, .inr (.inr 2)] h
  exact zcVv (as := [.inl v2]) (zat qX6_readPlan 2 (by rfl)) l6_19 rfl hd rfl (Nat.le_of_ble_eq_true rfl) zle0 (ci := 6) (by decide) rfl (zo hr (by decide) rfl) k

theorem bX6_readPlan_5 {d d' : Nat} {Q : Option MV → MH → Prop} {h : MH} {u0 u2 u3 : Option MV} {v1 : Nat} (gr : zokO h v1 5) (hd : d' + 1 ≤ d) (k : Con mX5_clear d' 0 0 [.inr (.inr v1)] h (zrv fun h' => J mX6_readPlan d 0 0 Q 0 0 9 [u0, some (.inr (.inr v1)), u2, u3] [] h')) : J mX6_readPlan d 0 0 Q 0 0 5 [u0, some (.inr (.inr v1)), u2, u3] [] h := by
  refine zrun 3 1 qX6_readPlan (o := 6) rfl ?_
  show J mX6_readPlan d 0 0 Q 0 0 6 [u0, some (.inr (.inr v1)), u2, u3] [.inr (.inr v1)] h
  exact zcVv (as := []) (zat qX6_readPlan 4 (by rfl)) l6_77 rfl hd rfl (Nat.le_of_ble_eq_true rfl) zle0 (ci := 5) (by decide) rfl gr k

theorem bX6_readPlan_9 {d : Nat} {Q : Option MV → MH → Prop} {h : MH} {u0 u1 u3 : Option MV} {v2 : Int32} (k : J mX6_readPlan d 0 0 Q 0 0 11 [u0, u1, some (.inl v2), some (.inl (nI 0))] [] h) : J mX6_readPlan d 0 0 Q 0 0 9 [u0, u1, some (.inl v2), u3] [] h := by
  refine zrun 5 2 qX6_readPlan (o := 6) rfl ?_
  show J mX6_readPlan d 0 0 Q 0 0 11 [u0, u1, some (.inl v2), some (.inl (nI 0))] [] h
  exact k

theorem bX6_readPlan_11 {d : Nat} {Q : Option MV → MH → Prop} {h : MH} {u0 u1 u2 : Option MV} {v3 : Int32} (k1 : (nI 20) < v3 → J mX6_readPlan d 0 0 Q 0 0 46 [u0, u1, u2, some (.inl v3)] [] h) (k2 : ¬ (nI 20) < v3 → J mX6_readPlan d 0 0 Q 0 0 17 [u0, u1, u2, some (.inl v3)] [] h) : J mX6_readPlan d 0 0 Q 0 0 11 [u0, u1, u2, some (.inl v3)] [] h := by
  refine zrun 7 3 qX6_readPlan (o := 6) rfl ?_
  show (((nI 20) < v3 → J mX6_readPlan d 0 0 Q 0 0 46 [u0, u1, u2, some (.inl v3)] [] h) ∧ (¬ (nI 20) < v3 → J mX6_readPlan d 0 0 Q 0 0 17 [u0, u1, u2, some (.inl v3)] [] h))
  exact ⟨k1, k2⟩

theorem bX6_readPlan_17 {d d' : Nat} {Q : Option MV → MH → Prop} {h : MH} {u1 u2 u3 : Option MV} (hr : zRf h) (hd : d' + 1 ≤ d) (k : Con mX6_advance d' 0 0 [.inr (.inr 2)] h (zrv fun h' => J mX6_readPlan d 0 0 Q 0 0 21 [some (.inr (.inr 2)), u1, u2, u3] [] h')) : J mX6_readPlan d 0 0 Q 0 0 17 [some (.inr (.inr 2)), u1, u2, u3] [] h := by
  refine zrun 10 1 qX6_readPlan (o := 6) rfl ?_
  show J mX6_readPlan d 0 0 Q 0 0 18 [some (.inr (.inr 2)), u1, u2, u3] [.inr (.inr 2)] h
  exact zcVv (as := []) (zat qX6_readPlan 11 (by rfl)) l6_28 rfl hd rfl (Nat.le_of_ble_eq_true rfl) zle0 (ci := 6) (by decide) rfl (zo hr (by decide) rfl) k

theorem bX6_readPlan_21 {d : Nat} {Q : Option MV → MH → Prop} {h : MH} {u1 u2 u3 : Option MV} (hr : zRf h) (k1 : ¬ (h.1 2 3) = 0 → J mX6_readPlan d 0 0 Q 0 0 30 [some (.inr (.inr 2)), u1, u2, u3] [] h) (k2 : (h.1 2 3) = 0 → J mX6_readPlan d 0 0 Q 0 0 28 [some (.inr (.inr 2)), u1, u2, u3] [] h) : J mX6_readPlan d 0 0 Q 0 0 21 [some (.inr (.inr 2)), u1, u2, u3] [] h := by
  refine zrun 12 3 qX6_readPlan (o := 6) rfl ?_
  show zokO h 2 6 ∧ ((¬ (h.1 2 3) = 0 → J mX6_readPlan d 0 0 Q 0 0 30 [some (.inr (.inr 2)), u1, u2, u3] [] h) ∧ ((h.1 2 3) = 0 → J mX6_readPlan d 0 0 Q 0 0 28 [some (.inr (.inr 2)), u1, u2, u3] [] h))
  exact ⟨(zo hr (by decide) rfl), k1, k2⟩

theorem bX6_readPlan_28 {d : Nat} {Q : Option MV → MH → Prop} {h : MH} {u0 u1 u2 u3 : Option MV} (k : Q (some (.inl (nI 1))) h) : J mX6_readPlan d 0 0 Q 0 0 28 [u0, u1, u2, u3] [] h := by
  refine zrun 15 1 qX6_readPlan (o := 6) rfl ?_
  show J mX6_readPlan d 0 0 Q 0 0 29 [u0, u1, u2, u3] [.inl (nI 1)] h
  exact J_iret (ty := .boolean) (zat qX6_readPlan 16 (by rfl)) rfl (by decide) (Nat.le_refl 0) (Nat.le_refl 0) k

theorem bX6_readPlan_30 {d d' : Nat} {Q : Option MV → MH → Prop} {h : MH} {u2 u3 : Option MV} {v1 : Nat} (hr : zRf h) (hd : d' + 1 ≤ d) (k : Con mX6_readRule d' 0 0 [.inr (.inr 2), .inr (.inr v1)] h (zri fun (x : Int32) h' => J mX6_readPlan d 0 0 Q 0 0 35 [some (.inr (.inr 2)), some (.inr (.inr v1)), u2, u3] [.inl x] h')) : J mX6_readPlan d 0 0 Q 0 0 30 [some (.inr (.inr 2)), some (.inr (.inr v1)), u2, u3] [] h := by
  refine zrun 17 2 qX6_readPlan (o := 6) rfl ?_
  show J mX6_readPlan d 0 0 Q 0 0 32 [some (.inr (.inr 2)), some (.inr (.inr v1)), u2, u3] [.inr (.inr v1), .inr (.inr 2)] h
  exact zcVi (as := [.inr (.inr v1)]) (zat qX6_readPlan 19 (by rfl)) l6_82 rfl hd rfl (Nat.le_of_ble_eq_true rfl) zle0 (ci := 6) (by decide) rfl (zo hr (by decide) rfl) k

theorem bX6_readPlan_35 {d : Nat} {Q : Option MV → MH → Prop} {h : MH} {u0 u1 u2 u3 : Option MV} {vs0 : Int32} (k1 : ¬ vs0 = 0 → J mX6_readPlan d 0 0 Q 0 0 40 [u0, u1, u2, u3] [] h) (k2 : vs0 = 0 → J mX6_readPlan d 0 0 Q 0 0 38 [u0, u1, u2, u3] [] h) : J mX6_readPlan d 0 0 Q 0 0 35 [u0, u1, u2, u3] [.inl vs0] h := by
  refine zrun 20 1 qX6_readPlan (o := 6) rfl ?_
  show ((¬ vs0 = 0 → J mX6_readPlan d 0 0 Q 0 0 40 [u0, u1, u2, u3] [] h) ∧ (vs0 = 0 → J mX6_readPlan d 0 0 Q 0 0 38 [u0, u1, u2, u3] [] h))
  exact ⟨k1, k2⟩

theorem bX6_readPlan_38 {d : Nat} {Q : Option MV → MH → Prop} {h : MH} {u0 u1 u2 u3 : Option MV} (k : Q (some (.inl (nI 0))) h) : J mX6_readPlan d 0 0 Q 0 0 38 [u0, u1, u2, u3] [] h := by
  refine zrun 21 1 qX6_readPlan (o := 6) rfl ?_
  show J mX6_readPlan d 0 0 Q 0 0 39 [u0, u1, u2, u3] [.inl (nI 0)] h
  exact J_iret (ty := .boolean) (zat qX6_readPlan 22 (by rfl)) rfl (by decide) (Nat.le_refl 0) (Nat.le_refl 0) k

theorem bX6_readPlan_40 {d : Nat} {Q : Option MV → MH → Prop} {h : MH} {u0 u1 : Option MV} {v3 v2 : Int32} (k : J mX6_readPlan d 0 0 Q 0 0 11 [u0, u1, some (.inl v2), some (.inl (v3 + nI 1))] [] h) : J mX6_readPlan d 0 0 Q 0 0 40 [u0, u1, some (.inl v2), some (.inl v3)] [] h := by
  refine zrun 23 2 qX6_readPlan (o := 6) rfl ?_
  show J mX6_readPlan d 0 0 Q 0 0 11 [u0, u1, some (.inl v2), some (.inl (v3 + nI 1))] [] h
  exact k

theorem bX6_readPlan_46 {d d' : Nat} {Q : Option MV → MH → Prop} {h : MH} {u1 u2 u3 : Option MV} (hr : zRf h) (hd : d' + 1 ≤ d) (k : Con mX6_refuse d' 0 0 [.inr (.inr 2), .inl (nI 4)] h (zri fun (x : Int32) h' => J mX6_readPlan d 0 0 Q 0 0 51 [some (.inr (.inr 2)), u1, u2, u3] [.inl x] h')) : J mX6_readPlan d 0 0 Q 0 0 46 [some (.inr (.inr 2)), u1, u2, u3] [] h := by
  refine zrun 25 2 qX6_readPlan (o := 6) rfl ?_
  show J mX6_readPlan d 0 0 Q 0 0 48 [some (.inr (.inr 2)), u1, u2, u3] [.inl (nI 4), .inr (.inr 2)] h
  exact zcVi (as := [.inl (nI 4)]) (zat qX6_readPlan 27 (by rfl)) l6_38 rfl hd rfl (Nat.le_of_ble_eq_true rfl) zle0 (ci := 6) (by decide) rfl (zo hr (by decide) rfl) k

theorem bX6_readPlan_51 {d : Nat} {Q : Option MV → MH → Prop} {h : MH} {u0 u1 u2 u3 : Option MV} {vs0 : Int32} (gn : vs0 = 0 ∨ vs0 = 1) (k : Q (some (.inl vs0)) h) : J mX6_readPlan d 0 0 Q 0 0 51 [u0, u1, u2, u3] [.inl vs0] h := by
  exact J_iret (ty := .boolean) (zat qX6_readPlan 28 (by rfl)) rfl (znz gn) (Nat.le_refl 0) (Nat.le_refl 0) k

theorem bX6_readRule_0 {d : Nat} {Q : Option MV → MH → Prop} {h : MH} {u1 u2 u3 : Option MV} (k : J mX6_readRule d 0 0 Q 0 0 1 [some (.inr (.inr 2)), u1, u2, u3] [.inr (.inr 2)] h) : J mX6_readRule d 0 0 Q 0 0 0 [some (.inr (.inr 2)), u1, u2, u3] [] h := by
  refine zrun 0 1 qX6_readRule (o := 6) rfl ?_
  show J mX6_readRule d 0 0 Q 0 0 1 [some (.inr (.inr 2)), u1, u2, u3] [.inr (.inr 2)] h
  exact k

theorem bX6_readRule_1 {d : Nat} {Q : Option MV → MH → Prop} {h : MH} {u0 u1 u2 u3 : Option MV} (k : J mX6_readRule d 0 0 Q 0 0 3 [u0, u1, u2, u3] [.inr (.inr 1004), .inr (.inr 2)] h) : J mX6_readRule d 0 0 Q 0 0 1 [u0, u1, u2, u3] [.inr (.inr 2)] h := by
  exact s_ldcS (j := 4) (zat qX6_readRule 1 (by rfl)) rfl k

theorem bX6_readRule_3 {d d' : Nat} {Q : Option MV → MH → Prop} {h : MH} {u0 u1 u2 u3 : Option MV} {vs1 : Nat} (hr : zRf h) (hd : d' + 1 ≤ d) (k : Con mX6_isWord d' 0 0 [.inr (.inr 2), .inr (.inr vs1)] h (zri fun (x : Int32) h' => J mX6_readRule d 0 0 Q 0 0 6 [u0, u1, u2, u3] [.inl x] h')) : J mX6_readRule d 0 0 Q 0 0 3 [u0, u1, u2, u3] [.inr (.inr vs1), .inr (.inr 2)] h := by
  exact zcVi (as := [.inr (.inr vs1)]) (zat qX6_readRule 2 (by rfl)) l6_44 rfl hd rfl (Nat.le_of_ble_eq_true rfl) zle0 (ci := 6) (by decide) rfl (zo hr (by decide) rfl) k

theorem bX6_readRule_6 {d : Nat} {Q : Option MV → MH → Prop} {h : MH} {u0 u2 u3 : Option MV} {vs0 : Int32} {v1 : Nat} (k1 : ¬ vs0 = 0 → J mX6_readRule d 0 0 Q 0 0 26 [u0, some (.inr (.inr v1)), some (.inl vs0), u3] [] h) (k2 : vs0 = 0 → J mX6_readRule d 0 0 Q 0 0 11 [u0, some (.inr (.inr v1)), some (.inl vs0), u3] [] h) : J mX6_readRule d 0 0 Q 0 0 6 [u0, some (.inr (.inr v1)), u2, u3] [.inl vs0] h := by
  refine zrun 3 3 qX6_readRule (o := 6) rfl ?_
  show ((¬ vs0 = 0 → J mX6_readRule d 0 0 Q 0 0 26 [u0, some (.inr (.inr v1)), some (.inl vs0), u3] [] h) ∧ (vs0 = 0 → J mX6_readRule d 0 0 Q 0 0 11 [u0, some (.inr (.inr v1)), some (.inl vs0), u3] [] h))
  exact ⟨k1, k2⟩

theorem bX6_readRule_11 {d : Nat} {Q : Option MV → MH → Prop} {h : MH} {u1 u2 u3 : Option MV} (k : J mX6_readRule d 0 0 Q 0 0 12 [some (.inr (.inr 2)), u1, u2, u3] [.inr (.inr 2)] h) : J mX6_readRule d 0 0 Q 0 0 11 [some (.inr (.inr 2)), u1, u2, u3] [] h := by
  refine zrun 6 1 qX6_readRule (o := 6) rfl ?_
  show J mX6_readRule d 0 0 Q 0 0 12 [some (.inr (.inr 2)), u1, u2, u3] [.inr (.inr 2)] h
  exact k

theorem bX6_readRule_12 {d : Nat} {Q : Option MV → MH → Prop} {h : MH} {u0 u1 u2 u3 : Option MV} (k : J mX6_readRule d 0 0 Q 0 0 14 [u0, u1, u2, u3] [.inr (.inr 1003), .inr (.inr 2)] h) : J mX6_readRule d 0 0 Q 0 0 12 [u0, u1, u2, u3] [.inr (.inr 2)] h := by
  exact s_ldcS (j := 3) (zat qX6_readRule 7 (by rfl)) rfl k

theorem bX6_readRule_14 {d d' : Nat} {Q : Option MV → MH → Prop} {h : MH} {u0 u1 u2 u3 : Option MV} {vs1 : Nat} (hr : zRf h) (hd : d' + 1 ≤ d) (k : Con mX6_isWord d' 0 0 [.inr (.inr 2), .inr (.inr vs1)] h (zri fun (x : Int32) h' => J mX6_readRule d 0 0 Q 0 0 17 [u0, u1, u2, u3] [.inl x] h')) : J mX6_readRule d 0 0 Q 0 0 14 [u0, u1, u2, u3] [.inr (.inr vs1), .inr (.inr 2)] h := by
  exact zcVi (as := [.inr (.inr vs1)]) (zat qX6_readRule 8 (by rfl)) l6_44 rfl hd rfl (Nat.le_of_ble_eq_true rfl) zle0 (ci := 6) (by decide) rfl (zo hr (by decide) rfl) k

theorem bX6_readRule_17 {d : Nat} {Q : Option MV → MH → Prop} {h : MH} {u0 u1 u2 u3 : Option MV} {vs0 : Int32} (k1 : ¬ vs0 = 0 → J mX6_readRule d 0 0 Q 0 0 26 [u0, u1, u2, u3] [] h) (k2 : vs0 = 0 → J mX6_readRule d 0 0 Q 0 0 20 [u0, u1, u2, u3] [] h) : J mX6_readRule d 0 0 Q 0 0 17 [u0, u1, u2, u3] [.inl vs0] h := by
  refine zrun 9 1 qX6_readRule (o := 6) rfl ?_
  show ((¬ vs0 = 0 → J mX6_readRule d 0 0 Q 0 0 26 [u0, u1, u2, u3] [] h) ∧ (vs0 = 0 → J mX6_readRule d 0 0 Q 0 0 20 [u0, u1, u2, u3] [] h))
  exact ⟨k1, k2⟩

theorem bX6_readRule_20 {d d' : Nat} {Q : Option MV → MH → Prop} {h : MH} {u1 u2 u3 : Option MV} (hr : zRf h) (hd : d' + 1 ≤ d) (k : Con mX6_refuse d' 0 0 [.inr (.inr 2), .inl (nI 2)] h (zri fun (x : Int32) h' => J mX6_readRule d 0 0 Q 0 0 25 [some (.inr (.inr 2)), u1, u2, u3] [.inl x] h')) : J mX6_readRule d 0 0 Q 0 0 20 [some (.inr (.inr 2)), u1, u2, u3] [] h := by
  refine zrun 10 2 qX6_readRule (o := 6) rfl ?_
  show J mX6_readRule d 0 0 Q 0 0 22 [some (.inr (.inr 2)), u1, u2, u3] [.inl (nI 2), .inr (.inr 2)] h
  exact zcVi (as := [.inl (nI 2)]) (zat qX6_readRule 12 (by rfl)) l6_38 rfl hd rfl (Nat.le_of_ble_eq_true rfl) zle0 (ci := 6) (by decide) rfl (zo hr (by decide) rfl) k

theorem bX6_readRule_25 {d : Nat} {Q : Option MV → MH → Prop} {h : MH} {u0 u1 u2 u3 : Option MV} {vs0 : Int32} (gn : vs0 = 0 ∨ vs0 = 1) (k : Q (some (.inl vs0)) h) : J mX6_readRule d 0 0 Q 0 0 25 [u0, u1, u2, u3] [.inl vs0] h := by
  exact J_iret (ty := .boolean) (zat qX6_readRule 13 (by rfl)) rfl (znz gn) (Nat.le_refl 0) (Nat.le_refl 0) k

theorem bX6_readRule_26 {d : Nat} {Q : Option MV → MH → Prop} {h : MH} {u0 u2 u3 : Option MV} {v1 : Nat} (g0 : zokO h v1 5) (k1 : (h.1 v1 0) < (nI 20) → J mX6_readRule d 0 0 Q 0 0 41 [u0, some (.inr (.inr v1)), u2, u3] [] h) (k2 : ¬ (h.1 v1 0) < (nI 20) → J mX6_readRule d 0 0 Q 0 0 35 [u0, some (.inr (.inr v1)), u2, u3] [] h) : J mX6_readRule d 0 0 Q 0 0 26 [u0, some (.inr (.inr v1)), u2, u3] [] h := by
  refine zrun 14 4 qX6_readRule (o := 6) rfl ?_
  show zokO h v1 5 ∧ (((h.1 v1 0) < (nI 20) → J mX6_readRule d 0 0 Q 0 0 41 [u0, some (.inr (.inr v1)), u2, u3] [] h) ∧ (¬ (h.1 v1 0) < (nI 20) → J mX6_readRule d 0 0 Q 0 0 35 [u0, some (.inr (.inr v1)), u2, u3] [] h))
  exact ⟨g0, k1, k2⟩

theorem bX6_readRule_35 {d d' : Nat} {Q : Option MV → MH → Prop} {h : MH} {u1 u2 u3 : Option MV} (hr : zRf h) (hd : d' + 1 ≤ d) (k : Con mX6_refuse d' 0 0 [.inr (.inr 2), .inl (nI 4)] h (zri fun (x : Int32) h' => J mX6_readRule d 0 0 Q 0 0 40 [some (.inr (.inr 2)), u1, u2, u3] [.inl x] h')) : J mX6_readRule d 0 0 Q 0 0 35 [some (.inr (.inr 2)), u1, u2, u3] [] h := by
  refine zrun 18 2 qX6_readRule (o := 6) rfl ?_
  show J mX6_readRule d 0 0 Q 0 0 37 [some (.inr (.inr 2)), u1, u2, u3] [.inl (nI 4), .inr (.inr 2)] h
  exact zcVi (as := [.inl (nI 4)]) (zat qX6_readRule 20 (by rfl)) l6_38 rfl hd rfl (Nat.le_of_ble_eq_true rfl) zle0 (ci := 6) (by decide) rfl (zo hr (by decide) rfl) k

theorem bX6_readRule_40 {d : Nat} {Q : Option MV → MH → Prop} {h : MH} {u0 u1 u2 u3 : Option MV} {vs0 : Int32} (gn : vs0 = 0 ∨ vs0 = 1) (k : Q (some (.inl vs0)) h) : J mX6_readRule d 0 0 Q 0 0 40 [u0, u1, u2, u3] [.inl vs0] h := by
  exact J_iret (ty := .boolean) (zat qX6_readRule 21 (by rfl)) rfl (znz gn) (Nat.le_refl 0) (Nat.le_refl 0) k

theorem bX6_readRule_41 {d : Nat} {Q : Option MV → MH → Prop} {h : MH} {u0 u1 u3 : Option MV} {v2 : Int32} (k1 : v2 = 0 → J mX6_readRule d 0 0 Q 0 0 57 [u0, u1, some (.inl v2), u3] [] h) (k2 : ¬ v2 = 0 → J mX6_readRule d 0 0 Q 0 0 45 [u0, u1, some (.inl v2), u3] [] h) : J mX6_readRule d 0 0 Q 0 0 41 [u0, u1, some (.inl v2), u3] [] h := by
  refine zrun 22 2 qX6_readRule (o := 6) rfl ?_
  show ((v2 = 0 → J mX6_readRule d 0 0 Q 0 0 57 [u0, u1, some (.inl v2), u3] [] h) ∧ (¬ v2 = 0 → J mX6_readRule d 0 0 Q 0 0 45 [u0, u1, some (.inl v2), u3] [] h))
  exact ⟨k1, k2⟩

theorem bX6_readRule_45 {d d' : Nat} {Q : Option MV → MH → Prop} {h : MH} {u1 u2 u3 : Option MV} (hr : zRf h) (hd : d' + 1 ≤ d) (k : Con mX6_advanceTo d' 0 0 [.inr (.inr 2), .inl (nI 0), .inl (nI 7)] h (zri fun (x : Int32) h' => J mX6_readRule d 0 0 Q 0 0 52 [some (.inr (.inr 2)), u1, u2, u3] [.inl x] h')) : J mX6_readRule d 0 0 Q 0 0 45 [some (.inr (.inr 2)), u1, u2, u3] [] h := by
  refine zrun 24 3 qX6_readRule (o := 6) rfl ?_
  show J mX6_readRule d 0 0 Q 0 0 49 [some (.inr (.inr 2)), u1, u2, u3] [.inl (nI 7), .inl (nI 0), .inr (.inr 2)] h
  exact zcVi (as := [.inl (nI 0), .inl (nI 7)]) (zat qX6_readRule 27 (by rfl)) l6_58 rfl hd rfl (Nat.le_of_ble_eq_true rfl) zle0 (ci := 6) (by decide) rfl (zo hr (by decide) rfl) k

theorem bX6_readRule_52 {d : Nat} {Q : Option MV → MH → Prop} {h : MH} {u0 u1 u2 u3 : Option MV} {vs0 : Int32} (k1 : ¬ vs0 = 0 → J mX6_readRule d 0 0 Q 0 0 57 [u0, u1, u2, u3] [] h) (k2 : vs0 = 0 → J mX6_readRule d 0 0 Q 0 0 55 [u0, u1, u2, u3] [] h) : J mX6_readRule d 0 0 Q 0 0 52 [u0, u1, u2, u3] [.inl vs0] h := by
  refine zrun 28 1 qX6_readRule (o := 6) rfl ?_
  show ((¬ vs0 = 0 → J mX6_readRule d 0 0 Q 0 0 57 [u0, u1, u2, u3] [] h) ∧ (vs0 = 0 → J mX6_readRule d 0 0 Q 0 0 55 [u0, u1, u2, u3] [] h))
  exact ⟨k1, k2⟩

theorem bX6_readRule_55 {d : Nat} {Q : Option MV → MH → Prop} {h : MH} {u0 u1 u2 u3 : Option MV} (k : Q (some (.inl (nI 0))) h) : J mX6_readRule d 0 0 Q 0 0 55 [u0, u1, u2, u3] [] h := by
  refine zrun 29 1 qX6_readRule (o := 6) rfl ?_
  show J mX6_readRule d 0 0 Q 0 0 56 [u0, u1, u2, u3] [.inl (nI 0)] h
  exact J_iret (ty := .boolean) (zat qX6_readRule 30 (by rfl)) rfl (by decide) (Nat.le_refl 0) (Nat.le_refl 0) k

theorem bX6_readRule_57 {d : Nat} {Q : Option MV → MH → Prop} {h : MH} {u0 u3 : Option MV} {v2 : Int32} {v1 : Nat} (k1 : v2 = 0 → J mX6_readRule d 0 0 Q 0 0 69 [u0, some (.inr (.inr v1)), some (.inl v2), u3] [.inr (.inr v1)] h) (k2 : ¬ v2 = 0 → J mX6_readRule d 0 0 Q 0 0 62 [u0, some (.inr (.inr v1)), some (.inl v2), u3] [.inr (.inr v1)] h) : J mX6_readRule d 0 0 Q 0 0 57 [u0, some (.inr (.inr v1)), some (.inl v2), u3] [] h := by
  refine zrun 31 3 qX6_readRule (o := 6) rfl ?_
  show ((v2 = 0 → J mX6_readRule d 0 0 Q 0 0 69 [u0, some (.inr (.inr v1)), some (.inl v2), u3] [.inr (.inr v1)] h) ∧ (¬ v2 = 0 → J mX6_readRule d 0 0 Q 0 0 62 [u0, some (.inr (.inr v1)), some (.inl v2), u3] [.inr (.inr v1)] h))
  exact ⟨k1, k2⟩

theorem bX6_readRule_62 {d : Nat} {Q : Option MV → MH → Prop} {h : MH} {u1 u2 u3 : Option MV} {vs0 : Nat} (hr : zRf h) (k : J mX6_readRule d 0 0 Q 0 0 70 [some (.inr (.inr 2)), u1, u2, u3] [.inl (h.1 2 5), .inr (.inr vs0)] h) : J mX6_readRule d 0 0 Q 0 0 62 [some (.inr (.inr 2)), u1, u2, u3] [.inr (.inr vs0)] h := by
  refine zrun 34 3 qX6_readRule (o := 6) rfl ?_
  show zokO h 2 6 ∧ J mX6_readRule d 0 0 Q 0 0 70 [some (.inr (.inr 2)), u1, u2, u3] [.inl (h.1 2 5), .inr (.inr vs0)] h
  exact ⟨(zo hr (by decide) rfl), k⟩

theorem bX6_readRule_69 {d : Nat} {Q : Option MV → MH → Prop} {h : MH} {u0 u1 u2 u3 : Option MV} {vs0 : Nat} (k : J mX6_readRule d 0 0 Q 0 0 70 [u0, u1, u2, u3] [.inl (-(nI 1)), .inr (.inr vs0)] h) : J mX6_readRule d 0 0 Q 0 0 69 [u0, u1, u2, u3] [.inr (.inr vs0)] h := by
  refine zrun 37 1 qX6_readRule (o := 6) rfl ?_
  show J mX6_readRule d 0 0 Q 0 0 70 [u0, u1, u2, u3] [.inl (-(nI 1)), .inr (.inr vs0)] h
  exact k

theorem bX6_readRule_70 {d d' : Nat} {Q : Option MV → MH → Prop} {h : MH} {u0 u1 u2 u3 : Option MV} {vs1 : Int32} {vs0 : Nat} (gr : zokO h vs0 5) (hd : d' + 1 ≤ d) (k : Con mX5_addRule d' 0 0 [.inr (.inr vs0), .inl vs1] h (zrv fun h' => J mX6_readRule d 0 0 Q 0 0 73 [u0, u1, u2, u3] [] h')) : J mX6_readRule d 0 0 Q 0 0 70 [u0, u1, u2, u3] [.inl vs1, .inr (.inr vs0)] h := by
  exact zcVv (as := [.inl vs1]) (zat qX6_readRule 38 (by rfl)) l6_93 rfl hd rfl (Nat.le_of_ble_eq_true rfl) zle0 (ci := 5) (by decide) rfl gr k

theorem bX6_readRule_73 {d : Nat} {Q : Option MV → MH → Prop} {h : MH} {u0 u1 u3 : Option MV} {v2 : Int32} (k : J mX6_readRule d 0 0 Q 0 0 75 [u0, u1, some (.inl v2), some (.inl (nI 0))] [] h) : J mX6_readRule d 0 0 Q 0 0 73 [u0, u1, some (.inl v2), u3] [] h := by
  refine zrun 39 2 qX6_readRule (o := 6) rfl ?_
  show J mX6_readRule d 0 0 Q 0 0 75 [u0, u1, some (.inl v2), some (.inl (nI 0))] [] h
  exact k

theorem bX6_readRule_75 {d : Nat} {Q : Option MV → MH → Prop} {h : MH} {u0 u1 u2 : Option MV} {v3 : Int32} (k1 : (nI 40) < v3 → J mX6_readRule d 0 0 Q 0 0 132 [u0, u1, u2, some (.inl v3)] [] h) (k2 : ¬ (nI 40) < v3 → J mX6_readRule d 0 0 Q 0 0 81 [u0, u1, u2, some (.inl v3)] [] h) : J mX6_readRule d 0 0 Q 0 0 75 [u0, u1, u2, some (.inl v3)] [] h := by
  refine zrun 41 3 qX6_readRule (o := 6) rfl ?_
  show (((nI 40) < v3 → J mX6_readRule d 0 0 Q 0 0 132 [u0, u1, u2, some (.inl v3)] [] h) ∧ (¬ (nI 40) < v3 → J mX6_readRule d 0 0 Q 0 0 81 [u0, u1, u2, some (.inl v3)] [] h))
  exact ⟨k1, k2⟩

theorem bX6_readRule_81 {d d' : Nat} {Q : Option MV → MH → Prop} {h : MH} {u1 u2 u3 : Option MV} (hr : zRf h) (hd : d' + 1 ≤ d) (k : Con mX6_advance d' 0 0 [.inr (.inr 2)] h (zrv fun h' => J mX6_readRule d 0 0 Q 0 0 85 [some (.inr (.inr 2)), u1, u2, u3] [] h')) : J mX6_readRule d 0 0 Q 0 0 81 [some (.inr (.inr 2)), u1, u2, u3] [] h := by
  refine zrun 44 1 qX6_readRule (o := 6) rfl ?_
  show J mX6_readRule d 0 0 Q 0 0 82 [some (.inr (.inr 2)), u1, u2, u3] [.inr (.inr 2)] h
  exact zcVv (as := []) (zat qX6_readRule 45 (by rfl)) l6_28 rfl hd rfl (Nat.le_of_ble_eq_true rfl) zle0 (ci := 6) (by decide) rfl (zo hr (by decide) rfl) k

theorem bX6_readRule_85 {d d' : Nat} {Q : Option MV → MH → Prop} {h : MH} {u2 u3 : Option MV} {v1 : Nat} (hr : zRf h) (hd : d' + 1 ≤ d) (k : Con mX6_readAct d' 0 0 [.inr (.inr 2), .inr (.inr v1)] h (zri fun (x : Int32) h' => J mX6_readRule d 0 0 Q 0 0 90 [some (.inr (.inr 2)), some (.inr (.inr v1)), u2, u3] [.inl x] h')) : J mX6_readRule d 0 0 Q 0 0 85 [some (.inr (.inr 2)), some (.inr (.inr v1)), u2, u3] [] h := by
  refine zrun 46 2 qX6_readRule (o := 6) rfl ?_
  show J mX6_readRule d 0 0 Q 0 0 87 [some (.inr (.inr 2)), some (.inr (.inr v1)), u2, u3] [.inr (.inr v1), .inr (.inr 2)] h
  exact zcVi (as := [.inr (.inr v1)]) (zat qX6_readRule 48 (by rfl)) l6_96 rfl hd rfl (Nat.le_of_ble_eq_true rfl) zle0 (ci := 6) (by decide) rfl (zo hr (by decide) rfl) k

theorem bX6_readRule_90 {d : Nat} {Q : Option MV → MH → Prop} {h : MH} {u0 u1 u2 u3 : Option MV} {vs0 : Int32} (k1 : ¬ vs0 = 0 → J mX6_readRule d 0 0 Q 0 0 95 [u0, u1, u2, u3] [] h) (k2 : vs0 = 0 → J mX6_readRule d 0 0 Q 0 0 93 [u0, u1, u2, u3] [] h) : J mX6_readRule d 0 0 Q 0 0 90 [u0, u1, u2, u3] [.inl vs0] h := by
  refine zrun 49 1 qX6_readRule (o := 6) rfl ?_
  show ((¬ vs0 = 0 → J mX6_readRule d 0 0 Q 0 0 95 [u0, u1, u2, u3] [] h) ∧ (vs0 = 0 → J mX6_readRule d 0 0 Q 0 0 93 [u0, u1, u2, u3] [] h))
  exact ⟨k1, k2⟩

theorem bX6_readRule_93 {d : Nat} {Q : Option MV → MH → Prop} {h : MH} {u0 u1 u2 u3 : Option MV} (k : Q (some (.inl (nI 0))) h) : J mX6_readRule d 0 0 Q 0 0 93 [u0, u1, u2, u3] [] h := by
  refine zrun 50 1 qX6_readRule (o := 6) rfl ?_
  show J mX6_readRule d 0 0 Q 0 0 94 [u0, u1, u2, u3] [.inl (nI 0)] h
  exact J_iret (ty := .boolean) (zat qX6_readRule 51 (by rfl)) rfl (by decide) (Nat.le_refl 0) (Nat.le_refl 0) k

theorem bX6_readRule_95 {d : Nat} {Q : Option MV → MH → Prop} {h : MH} {u1 u2 u3 : Option MV} (k : J mX6_readRule d 0 0 Q 0 0 96 [some (.inr (.inr 2)), u1, u2, u3] [.inr (.inr 2)] h) : J mX6_readRule d 0 0 Q 0 0 95 [some (.inr (.inr 2)), u1, u2, u3] [] h := by
  refine zrun 52 1 qX6_readRule (o := 6) rfl ?_
  show J mX6_readRule d 0 0 Q 0 0 96 [some (.inr (.inr 2)), u1, u2, u3] [.inr (.inr 2)] h
  exact k

theorem bX6_readRule_96 {d : Nat} {Q : Option MV → MH → Prop} {h : MH} {u0 u1 u2 u3 : Option MV} (k : J mX6_readRule d 0 0 Q 0 0 98 [u0, u1, u2, u3] [.inr (.inr 1005), .inr (.inr 2)] h) : J mX6_readRule d 0 0 Q 0 0 96 [u0, u1, u2, u3] [.inr (.inr 2)] h := by
  exact s_ldcS (j := 5) (zat qX6_readRule 53 (by rfl)) rfl k

theorem bX6_readRule_98 {d d' : Nat} {Q : Option MV → MH → Prop} {h : MH} {u0 u1 u2 u3 : Option MV} {vs1 : Nat} (hr : zRf h) (hd : d' + 1 ≤ d) (k : Con mX6_isWord d' 0 0 [.inr (.inr 2), .inr (.inr vs1)] h (zri fun (x : Int32) h' => J mX6_readRule d 0 0 Q 0 0 101 [u0, u1, u2, u3] [.inl x] h')) : J mX6_readRule d 0 0 Q 0 0 98 [u0, u1, u2, u3] [.inr (.inr vs1), .inr (.inr 2)] h := by
  exact zcVi (as := [.inr (.inr vs1)]) (zat qX6_readRule 54 (by rfl)) l6_44 rfl hd rfl (Nat.le_of_ble_eq_true rfl) zle0 (ci := 6) (by decide) rfl (zo hr (by decide) rfl) k

theorem bX6_readRule_101 {d : Nat} {Q : Option MV → MH → Prop} {h : MH} {u0 u1 u2 u3 : Option MV} {vs0 : Int32} (k1 : ¬ vs0 = 0 → J mX6_readRule d 0 0 Q 0 0 126 [u0, u1, u2, u3] [] h) (k2 : vs0 = 0 → J mX6_readRule d 0 0 Q 0 0 104 [u0, u1, u2, u3] [] h) : J mX6_readRule d 0 0 Q 0 0 101 [u0, u1, u2, u3] [.inl vs0] h := by
  refine zrun 55 1 qX6_readRule (o := 6) rfl ?_
  show ((¬ vs0 = 0 → J mX6_readRule d 0 0 Q 0 0 126 [u0, u1, u2, u3] [] h) ∧ (vs0 = 0 → J mX6_readRule d 0 0 Q 0 0 104 [u0, u1, u2, u3] [] h))
  exact ⟨k1, k2⟩

theorem bX6_readRule_104 {d : Nat} {Q : Option MV → MH → Prop} {h : MH} {u1 u2 u3 : Option MV} (hr : zRf h) (k1 : (h.1 2 3) = (nI 3) → J mX6_readRule d 0 0 Q 0 0 120 [some (.inr (.inr 2)), u1, u2, u3] [] h) (k2 : ¬ (h.1 2 3) = (nI 3) → J mX6_readRule d 0 0 Q 0 0 112 [some (.inr (.inr 2)), u1, u2, u3] [] h) : J mX6_readRule d 0 0 Q 0 0 104 [some (.inr (.inr 2)), u1, u2, u3] [] h := by
  refine zrun 56 4 qX6_readRule (o := 6) rfl ?_
  show zokO h 2 6 ∧ (((h.1 2 3) = (nI 3) → J mX6_readRule d 0 0 Q 0 0 120 [some (.inr (.inr 2)), u1, u2, u3] [] h) ∧ (¬ (h.1 2 3) = (nI 3) → J mX6_readRule d 0 0 Q 0 0 112 [some (.inr (.inr 2)), u1, u2, u3] [] h))
  exact ⟨(zo hr (by decide) rfl), k1, k2⟩

theorem bX6_readRule_112 {d d' : Nat} {Q : Option MV → MH → Prop} {h : MH} {u1 u2 u3 : Option MV} (hr : zRf h) (hd : d' + 1 ≤ d) (k : Con mX6_refuse d' 0 0 [.inr (.inr 2), .inl (nI 2)] h (zri fun (x : Int32) h' => J mX6_readRule d 0 0 Q 0 0 117 [some (.inr (.inr 2)), u1, u2, u3] [.inl x] h')) : J mX6_readRule d 0 0 Q 0 0 112 [some (.inr (.inr 2)), u1, u2, u3] [] h := by
  refine zrun 60 2 qX6_readRule (o := 6) rfl ?_
  show J mX6_readRule d 0 0 Q 0 0 114 [some (.inr (.inr 2)), u1, u2, u3] [.inl (nI 2), .inr (.inr 2)] h
  exact zcVi (as := [.inl (nI 2)]) (zat qX6_readRule 62 (by rfl)) l6_38 rfl hd rfl (Nat.le_of_ble_eq_true rfl) zle0 (ci := 6) (by decide) rfl (zo hr (by decide) rfl) k

theorem bX6_readRule_117 {d : Nat} {Q : Option MV → MH → Prop} {h : MH} {u0 u1 u2 u3 : Option MV} {vs0 : Int32} (k1 : vs0 = 0 → J mX6_readRule d 0 0 Q 0 0 124 [u0, u1, u2, u3] [] h) (k2 : ¬ vs0 = 0 → J mX6_readRule d 0 0 Q 0 0 120 [u0, u1, u2, u3] [] h) : J mX6_readRule d 0 0 Q 0 0 117 [u0, u1, u2, u3] [.inl vs0] h := by
  refine zrun 63 1 qX6_readRule (o := 6) rfl ?_
  show ((vs0 = 0 → J mX6_readRule d 0 0 Q 0 0 124 [u0, u1, u2, u3] [] h) ∧ (¬ vs0 = 0 → J mX6_readRule d 0 0 Q 0 0 120 [u0, u1, u2, u3] [] h))
  exact ⟨k1, k2⟩

theorem bX6_readRule_120 {d : Nat} {Q : Option MV → MH → Prop} {h : MH} {u0 u1 u2 u3 : Option MV} (k : J mX6_readRule d 0 0 Q 0 0 125 [u0, u1, u2, u3] [.inl (nI 1)] h) : J mX6_readRule d 0 0 Q 0 0 120 [u0, u1, u2, u3] [] h := by
  refine zrun 64 2 qX6_readRule (o := 6) rfl ?_
  show J mX6_readRule d 0 0 Q 0 0 125 [u0, u1, u2, u3] [.inl (nI 1)] h
  exact k

theorem bX6_readRule_124 {d : Nat} {Q : Option MV → MH → Prop} {h : MH} {u0 u1 u2 u3 : Option MV} (k : J mX6_readRule d 0 0 Q 0 0 125 [u0, u1, u2, u3] [.inl (nI 0)] h) : J mX6_readRule d 0 0 Q 0 0 124 [u0, u1, u2, u3] [] h := by
  refine zrun 66 1 qX6_readRule (o := 6) rfl ?_
  show J mX6_readRule d 0 0 Q 0 0 125 [u0, u1, u2, u3] [.inl (nI 0)] h
  exact k

theorem bX6_readRule_125 {d : Nat} {Q : Option MV → MH → Prop} {h : MH} {u0 u1 u2 u3 : Option MV} {vs0 : Int32} (gn : vs0 = 0 ∨ vs0 = 1) (k : Q (some (.inl vs0)) h) : J mX6_readRule d 0 0 Q 0 0 125 [u0, u1, u2, u3] [.inl vs0] h := by
  exact J_iret (ty := .boolean) (zat qX6_readRule 67 (by rfl)) rfl (znz gn) (Nat.le_refl 0) (Nat.le_refl 0) k

theorem bX6_readRule_126 {d : Nat} {Q : Option MV → MH → Prop} {h : MH} {u0 u1 : Option MV} {v3 v2 : Int32} (k : J mX6_readRule d 0 0 Q 0 0 75 [u0, u1, some (.inl v2), some (.inl (v3 + nI 1))] [] h) : J mX6_readRule d 0 0 Q 0 0 126 [u0, u1, some (.inl v2), some (.inl v3)] [] h := by
  refine zrun 68 2 qX6_readRule (o := 6) rfl ?_
  show J mX6_readRule d 0 0 Q 0 0 75 [u0, u1, some (.inl v2), some (.inl (v3 + nI 1))] [] h
  exact k

theorem bX6_readRule_132 {d d' : Nat} {Q : Option MV → MH → Prop} {h : MH} {u1 u2 u3 : Option MV} (hr : zRf h) (hd : d' + 1 ≤ d) (k : Con mX6_refuse d' 0 0 [.inr (.inr 2), .inl (nI 4)] h (zri fun (x : Int32) h' => J mX6_readRule d 0 0 Q 0 0 137 [some (.inr (.inr 2)), u1, u2, u3] [.inl x] h')) : J mX6_readRule d 0 0 Q 0 0 132 [some (.inr (.inr 2)), u1, u2, u3] [] h := by
  refine zrun 70 2 qX6_readRule (o := 6) rfl ?_
  show J mX6_readRule d 0 0 Q 0 0 134 [some (.inr (.inr 2)), u1, u2, u3] [.inl (nI 4), .inr (.inr 2)] h
  exact zcVi (as := [.inl (nI 4)]) (zat qX6_readRule 72 (by rfl)) l6_38 rfl hd rfl (Nat.le_of_ble_eq_true rfl) zle0 (ci := 6) (by decide) rfl (zo hr (by decide) rfl) k

theorem bX6_readRule_137 {d : Nat} {Q : Option MV → MH → Prop} {h : MH} {u0 u1 u2 u3 : Option MV} {vs0 : Int32} (gn : vs0 = 0 ∨ vs0 = 1) (k : Q (some (.inl vs0)) h) : J mX6_readRule d 0 0 Q 0 0 137 [u0, u1, u2, u3] [.inl vs0] h := by
  exact J_iret (ty := .boolean) (zat qX6_readRule 73 (by rfl)) rfl (znz gn) (Nat.le_refl 0) (Nat.le_refl 0) k

theorem bX6_readAct_0 {d d' : Nat} {Q : Option MV → MH → Prop} {h : MH} {u1 u2 u3 u4 : Option MV} (hr : zRf h) (hd : d' + 1 ≤ d) (k : Con mX6_actAtHand d' 0 0 [.inr (.inr 2)] h (zri fun (x : Int32) h' => J mX6_readAct d 0 0 Q 0 0 4 [some (.inr (.inr 2)), u1, u2, u3, u4] [.inl x] h')) : J mX6_readAct d 0 0 Q 0 0 0 [some (.inr (.inr 2)), u1, u2, u3, u4] [] h := by
  refine zrun 0 1 qX6_readAct (o := 6) rfl ?_
  show J mX6_readAct d 0 0 Q 0 0 1 [some (.inr (.inr 2)), u1, u2, u3, u4] [.inr (.inr 2)] h
  exact zcVi (as := []) (zat qX6_readAct 1 (by rfl)) l6_101 rfl hd rfl (Nat.le_of_ble_eq_true rfl) zle0 (ci := 6) (by decide) rfl (zo hr (by decide) rfl) k

theorem bX6_readAct_4 {d : Nat} {Q : Option MV → MH → Prop} {h : MH} {u0 u2 u3 u4 : Option MV} {vs0 : Int32} {v1 : Nat} (k1 : ¬ vs0 = (-(nI 1)) → J mX6_readAct d 0 0 Q 0 0 16 [u0, some (.inr (.inr v1)), some (.inl vs0), u3, u4] [] h) (k2 : vs0 = (-(nI 1)) → J mX6_readAct d 0 0 Q 0 0 10 [u0, some (.inr (.inr v1)), some (.inl vs0), u3, u4] [] h) : J mX6_readAct d 0 0 Q 0 0 4 [u0, some (.inr (.inr v1)), u2, u3, u4] [.inl vs0] h := by
  refine zrun 2 4 qX6_readAct (o := 6) rfl ?_
  show ((¬ vs0 = (-(nI 1)) → J mX6_readAct d 0 0 Q 0 0 16 [u0, some (.inr (.inr v1)), some (.inl vs0), u3, u4] [] h) ∧ (vs0 = (-(nI 1)) → J mX6_readAct d 0 0 Q 0 0 10 [u0, some (.inr (.inr v1)), some (.inl vs0), u3, u4] [] h))
  exact ⟨k1, k2⟩

theorem bX6_readAct_10 {d d' : Nat} {Q : Option MV → MH → Prop} {h : MH} {u1 u2 u3 u4 : Option MV} (hr : zRf h) (hd : d' + 1 ≤ d) (k : Con mX6_refuse d' 0 0 [.inr (.inr 2), .inl (nI 2)] h (zri fun (x : Int32) h' => J mX6_readAct d 0 0 Q 0 0 15 [some (.inr (.inr 2)), u1, u2, u3, u4] [.inl x] h')) : J mX6_readAct d 0 0 Q 0 0 10 [some (.inr (.inr 2)), u1, u2, u3, u4] [] h := by
  refine zrun 6 2 qX6_readAct (o := 6) rfl ?_
  show J mX6_readAct d 0 0 Q 0 0 12 [some (.inr (.inr 2)), u1, u2, u3, u4] [.inl (nI 2), .inr (.inr 2)] h
  exact zcVi (as := [.inl (nI 2)]) (zat qX6_readAct 8 (by rfl)) l6_38 rfl hd rfl (Nat.le_of_ble_eq_true rfl) zle0 (ci := 6) (by decide) rfl (zo hr (by decide) rfl) k

theorem bX6_readAct_15 {d : Nat} {Q : Option MV → MH → Prop} {h : MH} {u0 u1 u2 u3 u4 : Option MV} {vs0 : Int32} (gn : vs0 = 0 ∨ vs0 = 1) (k : Q (some (.inl vs0)) h) : J mX6_readAct d 0 0 Q 0 0 15 [u0, u1, u2, u3, u4] [.inl vs0] h := by
  exact J_iret (ty := .boolean) (zat qX6_readAct 9 (by rfl)) rfl (znz gn) (Nat.le_refl 0) (Nat.le_refl 0) k

theorem bX6_readAct_16 {d : Nat} {Q : Option MV → MH → Prop} {h : MH} {u0 u2 u3 u4 : Option MV} {v1 : Nat} (g0 : zokO h v1 5) (k1 : (h.1 v1 1) < (nI 40) → J mX6_readAct d 0 0 Q 0 0 31 [u0, some (.inr (.inr v1)), u2, u3, u4] [] h) (k2 : ¬ (h.1 v1 1) < (nI 40) → J mX6_readAct d 0 0 Q 0 0 25 [u0, some (.inr (.inr v1)), u2, u3, u4] [] h) : J mX6_readAct d 0 0 Q 0 0 16 [u0, some (.inr (.inr v1)), u2, u3, u4] [] h := by
  refine zrun 10 4 qX6_readAct (o := 6) rfl ?_
  show zokO h v1 5 ∧ (((h.1 v1 1) < (nI 40) → J mX6_readAct d 0 0 Q 0 0 31 [u0, some (.inr (.inr v1)), u2, u3, u4] [] h) ∧ (¬ (h.1 v1 1) < (nI 40) → J mX6_readAct d 0 0 Q 0 0 25 [u0, some (.inr (.inr v1)), u2, u3, u4] [] h))
  exact ⟨g0, k1, k2⟩

theorem bX6_readAct_25 {d d' : Nat} {Q : Option MV → MH → Prop} {h : MH} {u1 u2 u3 u4 : Option MV} (hr : zRf h) (hd : d' + 1 ≤ d) (k : Con mX6_refuse d' 0 0 [.inr (.inr 2), .inl (nI 4)] h (zri fun (x : Int32) h' => J mX6_readAct d 0 0 Q 0 0 30 [some (.inr (.inr 2)), u1, u2, u3, u4] [.inl x] h')) : J mX6_readAct d 0 0 Q 0 0 25 [some (.inr (.inr 2)), u1, u2, u3, u4] [] h := by
  refine zrun 14 2 qX6_readAct (o := 6) rfl ?_
  show J mX6_readAct d 0 0 Q 0 0 27 [some (.inr (.inr 2)), u1, u2, u3, u4] [.inl (nI 4), .inr (.inr 2)] h
  exact zcVi (as := [.inl (nI 4)]) (zat qX6_readAct 16 (by rfl)) l6_38 rfl hd rfl (Nat.le_of_ble_eq_true rfl) zle0 (ci := 6) (by decide) rfl (zo hr (by decide) rfl) k

theorem bX6_readAct_30 {d : Nat} {Q : Option MV → MH → Prop} {h : MH} {u0 u1 u2 u3 u4 : Option MV} {vs0 : Int32} (gn : vs0 = 0 ∨ vs0 = 1) (k : Q (some (.inl vs0)) h) : J mX6_readAct d 0 0 Q 0 0 30 [u0, u1, u2, u3, u4] [.inl vs0] h := by
  exact J_iret (ty := .boolean) (zat qX6_readAct 17 (by rfl)) rfl (znz gn) (Nat.le_refl 0) (Nat.le_refl 0) k

theorem bX6_readAct_31 {d : Nat} {Q : Option MV → MH → Prop} {h : MH} {u0 u1 u3 u4 : Option MV} {v2 : Int32} (k1 : v2 = (nI 4) → J mX6_readAct d 0 0 Q 0 0 58 [u0, u1, some (.inl v2), some (.inl (nI 0)), some (.inl (nI 0))] [] h) (k2 : ¬ v2 = (nI 4) → J mX6_readAct d 0 0 Q 0 0 41 [u0, u1, some (.inl v2), some (.inl (nI 0)), some (.inl (nI 0))] [] h) : J mX6_readAct d 0 0 Q 0 0 31 [u0, u1, some (.inl v2), u3, u4] [] h := by
  refine zrun 18 7 qX6_readAct (o := 6) rfl ?_
  show ((v2 = (nI 4) → J mX6_readAct d 0 0 Q 0 0 58 [u0, u1, some (.inl v2), some (.inl (nI 0)), some (.inl (nI 0))] [] h) ∧ (¬ v2 = (nI 4) → J mX6_readAct d 0 0 Q 0 0 41 [u0, u1, some (.inl v2), some (.inl (nI 0)), some (.inl (nI 0))] [] h))
  exact ⟨k1, k2⟩

theorem bX6_readAct_41 {d d' : Nat} {Q : Option MV → MH → Prop} {h : MH} {u1 u2 u3 u4 : Option MV} (hr : zRf h) (hd : d' + 1 ≤ d) (k : Con mX6_advanceTo d' 0 0 [.inr (.inr 2), .inl (nI 0), .inl (nI 7)] h (zri fun (x : Int32) h' => J mX6_readAct d 0 0 Q 0 0 48 [some (.inr (.inr 2)), u1, u2, u3, u4] [.inl x] h')) : J mX6_readAct d 0 0 Q 0 0 41 [some (.inr (.inr 2)), u1, u2, u3, u4] [] h := by
  refine zrun 25 3 qX6_readAct (o := 6) rfl ?_
  show J mX6_readAct d 0 0 Q 0 0 45 [some (.inr (.inr 2)), u1, u2, u3, u4] [.inl (nI 7), .inl (nI 0), .inr (.inr 2)] h
  exact zcVi (as := [.inl (nI 0), .inl (nI 7)]) (zat qX6_readAct 28 (by rfl)) l6_58 rfl hd rfl (Nat.le_of_ble_eq_true rfl) zle0 (ci := 6) (by decide) rfl (zo hr (by decide) rfl) k

theorem bX6_readAct_48 {d : Nat} {Q : Option MV → MH → Prop} {h : MH} {u0 u1 u2 u3 u4 : Option MV} {vs0 : Int32} (k1 : ¬ vs0 = 0 → J mX6_readAct d 0 0 Q 0 0 53 [u0, u1, u2, u3, u4] [] h) (k2 : vs0 = 0 → J mX6_readAct d 0 0 Q 0 0 51 [u0, u1, u2, u3, u4] [] h) : J mX6_readAct d 0 0 Q 0 0 48 [u0, u1, u2, u3, u4] [.inl vs0] h := by
  refine zrun 29 1 qX6_readAct (o := 6) rfl ?_
  show ((¬ vs0 = 0 → J mX6_readAct d 0 0 Q 0 0 53 [u0, u1, u2, u3, u4] [] h) ∧ (vs0 = 0 → J mX6_readAct d 0 0 Q 0 0 51 [u0, u1, u2, u3, u4] [] h))
  exact ⟨k1, k2⟩

theorem bX6_readAct_51 {d : Nat} {Q : Option MV → MH → Prop} {h : MH} {u0 u1 u2 u3 u4 : Option MV} (k : Q (some (.inl (nI 0))) h) : J mX6_readAct d 0 0 Q 0 0 51 [u0, u1, u2, u3, u4] [] h := by
  refine zrun 30 1 qX6_readAct (o := 6) rfl ?_
  show J mX6_readAct d 0 0 Q 0 0 52 [u0, u1, u2, u3, u4] [.inl (nI 0)] h
  exact J_iret (ty := .boolean) (zat qX6_readAct 31 (by rfl)) rfl (by decide) (Nat.le_refl 0) (Nat.le_refl 0) k

theorem bX6_readAct_53 {d : Nat} {Q : Option MV → MH → Prop} {h : MH} {u1 u3 u4 : Option MV} {v2 : Int32} (hr : zRf h) (k : J mX6_readAct d 0 0 Q 0 0 58 [some (.inr (.inr 2)), u1, some (.inl v2), some (.inl (h.1 2 5)), u4] [] h) : J mX6_readAct d 0 0 Q 0 0 53 [some (.inr (.inr 2)), u1, some (.inl v2), u3, u4] [] h := by
  refine zrun 32 3 qX6_readAct (o := 6) rfl ?_
  show zokO h 2 6 ∧ J mX6_readAct d 0 0 Q 0 0 58 [some (.inr (.inr 2)), u1, some (.inl v2), some (.inl (h.1 2 5)), u4] [] h
  exact ⟨(zo hr (by decide) rfl), k⟩

theorem bX6_readAct_58 {d : Nat} {Q : Option MV → MH → Prop} {h : MH} {u0 u1 u3 u4 : Option MV} {v2 : Int32} (k1 : ¬ v2 = (nI 3) → J mX6_readAct d 0 0 Q 0 0 81 [u0, u1, some (.inl v2), u3, u4] [] h) (k2 : v2 = (nI 3) → J mX6_readAct d 0 0 Q 0 0 63 [u0, u1, some (.inl v2), u3, u4] [] h) : J mX6_readAct d 0 0 Q 0 0 58 [u0, u1, some (.inl v2), u3, u4] [] h := by
  refine zrun 35 3 qX6_readAct (o := 6) rfl ?_
  show ((¬ v2 = (nI 3) → J mX6_readAct d 0 0 Q 0 0 81 [u0, u1, some (.inl v2), u3, u4] [] h) ∧ (v2 = (nI 3) → J mX6_readAct d 0 0 Q 0 0 63 [u0, u1, some (.inl v2), u3, u4] [] h))
  exact ⟨k1, k2⟩

theorem bX6_readAct_63 {d d' : Nat} {Q : Option MV → MH → Prop} {h : MH} {u1 u2 u3 u4 : Option MV} (hr : zRf h) (hd : d' + 1 ≤ d) (k : Con mX6_advanceTo d' 0 0 [.inr (.inr 2), .inl (nI 0), .inl (nI 7)] h (zri fun (x : Int32) h' => J mX6_readAct d 0 0 Q 0 0 70 [some (.inr (.inr 2)), u1, u2, u3, u4] [.inl x] h')) : J mX6_readAct d 0 0 Q 0 0 63 [some (.inr (.inr 2)), u1, u2, u3, u4] [] h := by
  refine zrun 38 3 qX6_readAct (o := 6) rfl ?_
  show J mX6_readAct d 0 0 Q 0 0 67 [some (.inr (.inr 2)), u1, u2, u3, u4] [.inl (nI 7), .inl (nI 0), .inr (.inr 2)] h
  exact zcVi (as := [.inl (nI 0), .inl (nI 7)]) (zat qX6_readAct 41 (by rfl)) l6_58 rfl hd rfl (Nat.le_of_ble_eq_true rfl) zle0 (ci := 6) (by decide) rfl (zo hr (by decide) rfl) k

theorem bX6_readAct_70 {d : Nat} {Q : Option MV → MH → Prop} {h : MH} {u0 u1 u2 u3 u4 : Option MV} {vs0 : Int32} (k1 : ¬ vs0 = 0 → J mX6_readAct d 0 0 Q 0 0 75 [u0, u1, u2, u3, u4] [] h) (k2 : vs0 = 0 → J mX6_readAct d 0 0 Q 0 0 73 [u0, u1, u2, u3, u4] [] h) : J mX6_readAct d 0 0 Q 0 0 70 [u0, u1, u2, u3, u4] [.inl vs0] h := by
  refine zrun 42 1 qX6_readAct (o := 6) rfl ?_
  show ((¬ vs0 = 0 → J mX6_readAct d 0 0 Q 0 0 75 [u0, u1, u2, u3, u4] [] h) ∧ (vs0 = 0 → J mX6_readAct d 0 0 Q 0 0 73 [u0, u1, u2, u3, u4] [] h))
  exact ⟨k1, k2⟩

theorem bX6_readAct_73 {d : Nat} {Q : Option MV → MH → Prop} {h : MH} {u0 u1 u2 u3 u4 : Option MV} (k : Q (some (.inl (nI 0))) h) : J mX6_readAct d 0 0 Q 0 0 73 [u0, u1, u2, u3, u4] [] h := by
  refine zrun 43 1 qX6_readAct (o := 6) rfl ?_
  show J mX6_readAct d 0 0 Q 0 0 74 [u0, u1, u2, u3, u4] [.inl (nI 0)] h
  exact J_iret (ty := .boolean) (zat qX6_readAct 44 (by rfl)) rfl (by decide) (Nat.le_refl 0) (Nat.le_refl 0) k

theorem bX6_readAct_75 {d : Nat} {Q : Option MV → MH → Prop} {h : MH} {u1 u2 u4 : Option MV} {v3 : Int32} (hr : zRf h) (k : J mX6_readAct d 0 0 Q 0 0 81 [some (.inr (.inr 2)), u1, u2, some (.inl v3), some (.inl (h.1 2 5))] [] h) : J mX6_readAct d 0 0 Q 0 0 75 [some (.inr (.inr 2)), u1, u2, some (.inl v3), u4] [] h := by
  refine zrun 45 3 qX6_readAct (o := 6) rfl ?_
  show zokO h 2 6 ∧ J mX6_readAct d 0 0 Q 0 0 81 [some (.inr (.inr 2)), u1, u2, some (.inl v3), some (.inl (h.1 2 5))] [] h
  exact ⟨(zo hr (by decide) rfl), k⟩

theorem bX6_readAct_81 {d d' : Nat} {Q : Option MV → MH → Prop} {h : MH} {u0 : Option MV} {v2 v3 v4 : Int32} {v1 : Nat} (gr : zokO h v1 5) (hd : d' + 1 ≤ d) (k : Con mX5_addAct d' 0 0 [.inr (.inr v1), .inl v2, .inl v3, .inl v4] h (zrv fun h' => J mX6_readAct d 0 0 Q 0 0 89 [u0, some (.inr (.inr v1)), some (.inl v2), some (.inl v3), some (.inl v4)] [] h')) : J mX6_readAct d 0 0 Q 0 0 81 [u0, some (.inr (.inr v1)), some (.inl v2), some (.inl v3), some (.inl v4)] [] h := by
  refine zrun 48 4 qX6_readAct (o := 6) rfl ?_
  show J mX6_readAct d 0 0 Q 0 0 86 [u0, some (.inr (.inr v1)), some (.inl v2), some (.inl v3), some (.inl v4)] [.inl v4, .inl v3, .inl v2, .inr (.inr v1)] h
  exact zcVv (as := [.inl v2, .inl v3, .inl v4]) (zat qX6_readAct 52 (by rfl)) l6_107 rfl hd rfl (Nat.le_of_ble_eq_true rfl) zle0 (ci := 5) (by decide) rfl gr k

theorem bX6_readAct_89 {d d' : Nat} {Q : Option MV → MH → Prop} {h : MH} {u1 u2 u3 u4 : Option MV} (hr : zRf h) (hd : d' + 1 ≤ d) (k : Con mX6_advance d' 0 0 [.inr (.inr 2)] h (zrv fun h' => J mX6_readAct d 0 0 Q 0 0 93 [some (.inr (.inr 2)), u1, u2, u3, u4] [] h')) : J mX6_readAct d 0 0 Q 0 0 89 [some (.inr (.inr 2)), u1, u2, u3, u4] [] h := by
  refine zrun 53 1 qX6_readAct (o := 6) rfl ?_
  show J mX6_readAct d 0 0 Q 0 0 90 [some (.inr (.inr 2)), u1, u2, u3, u4] [.inr (.inr 2)] h
  exact zcVv (as := []) (zat qX6_readAct 54 (by rfl)) l6_28 rfl hd rfl (Nat.le_of_ble_eq_true rfl) zle0 (ci := 6) (by decide) rfl (zo hr (by decide) rfl) k

theorem bX6_readAct_93 {d : Nat} {Q : Option MV → MH → Prop} {h : MH} {u0 u1 u2 u3 u4 : Option MV} (k : Q (some (.inl (nI 1))) h) : J mX6_readAct d 0 0 Q 0 0 93 [u0, u1, u2, u3, u4] [] h := by
  refine zrun 55 1 qX6_readAct (o := 6) rfl ?_
  show J mX6_readAct d 0 0 Q 0 0 94 [u0, u1, u2, u3, u4] [.inl (nI 1)] h
  exact J_iret (ty := .boolean) (zat qX6_readAct 56 (by rfl)) rfl (by decide) (Nat.le_refl 0) (Nat.le_refl 0) k

theorem bX6_actAtHand_0 {d : Nat} {Q : Option MV → MH → Prop} {h : MH} (k : J mX6_actAtHand d 0 0 Q 0 0 1 [some (.inr (.inr 2))] [.inr (.inr 2)] h) : J mX6_actAtHand d 0 0 Q 0 0 0 [some (.inr (.inr 2))] [] h := by
  refine zrun 0 1 qX6_actAtHand (o := 6) rfl ?_
  show J mX6_actAtHand d 0 0 Q 0 0 1 [some (.inr (.inr 2))] [.inr (.inr 2)] h
  exact k

theorem bX6_actAtHand_1 {d : Nat} {Q : Option MV → MH → Prop} {h : MH} {u0 : Option MV} (k : J mX6_actAtHand d 0 0 Q 0 0 3 [u0] [.inr (.inr 1006), .inr (.inr 2)] h) : J mX6_actAtHand d 0 0 Q 0 0 1 [u0] [.inr (.inr 2)] h := by
  exact s_ldcS (j := 6) (zat qX6_actAtHand 1 (by rfl)) rfl k

theorem bX6_actAtHand_3 {d d' : Nat} {Q : Option MV → MH → Prop} {h : MH} {u0 : Option MV} {vs1 : Nat} (hr : zRf h) (hd : d' + 1 ≤ d) (k : Con mX6_isWord d' 0 0 [.inr (.inr 2), .inr (.inr vs1)] h (zri fun (x : Int32) h' => J mX6_actAtHand d 0 0 Q 0 0 6 [u0] [.inl x] h')) : J mX6_actAtHand d 0 0 Q 0 0 3 [u0] [.inr (.inr vs1), .inr (.inr 2)] h := by
  exact zcVi (as := [.inr (.inr vs1)]) (zat qX6_actAtHand 2 (by rfl)) l6_44 rfl hd rfl (Nat.le_of_ble_eq_true rfl) zle0 (ci := 6) (by decide) rfl (zo hr (by decide) rfl) k

theorem bX6_actAtHand_6 {d : Nat} {Q : Option MV → MH → Prop} {h : MH} {u0 : Option MV} {vs0 : Int32} (k1 : vs0 = 0 → J mX6_actAtHand d 0 0 Q 0 0 11 [u0] [] h) (k2 : ¬ vs0 = 0 → J mX6_actAtHand d 0 0 Q 0 0 9 [u0] [] h) : J mX6_actAtHand d 0 0 Q 0 0 6 [u0] [.inl vs0] h := by
  refine zrun 3 1 qX6_actAtHand (o := 6) rfl ?_
  show ((vs0 = 0 → J mX6_actAtHand d 0 0 Q 0 0 11 [u0] [] h) ∧ (¬ vs0 = 0 → J mX6_actAtHand d 0 0 Q 0 0 9 [u0] [] h))
  exact ⟨k1, k2⟩

theorem bX6_actAtHand_9 {d : Nat} {Q : Option MV → MH → Prop} {h : MH} {u0 : Option MV} (k : Q (some (.inl (nI 0))) h) : J mX6_actAtHand d 0 0 Q 0 0 9 [u0] [] h := by
  refine zrun 4 1 qX6_actAtHand (o := 6) rfl ?_
  show J mX6_actAtHand d 0 0 Q 0 0 10 [u0] [.inl (nI 0)] h
  exact J_iret (ty := .int) (zat qX6_actAtHand 5 (by rfl)) rfl rfl (Nat.le_refl 0) (Nat.le_refl 0) k

theorem bX6_actAtHand_11 {d : Nat} {Q : Option MV → MH → Prop} {h : MH} (k : J mX6_actAtHand d 0 0 Q 0 0 12 [some (.inr (.inr 2))] [.inr (.inr 2)] h) : J mX6_actAtHand d 0 0 Q 0 0 11 [some (.inr (.inr 2))] [] h := by
  refine zrun 6 1 qX6_actAtHand (o := 6) rfl ?_
  show J mX6_actAtHand d 0 0 Q 0 0 12 [some (.inr (.inr 2))] [.inr (.inr 2)] h
  exact k

theorem bX6_actAtHand_12 {d : Nat} {Q : Option MV → MH → Prop} {h : MH} {u0 : Option MV} (k : J mX6_actAtHand d 0 0 Q 0 0 14 [u0] [.inr (.inr 1007), .inr (.inr 2)] h) : J mX6_actAtHand d 0 0 Q 0 0 12 [u0] [.inr (.inr 2)] h := by
  exact s_ldcS (j := 7) (zat qX6_actAtHand 7 (by rfl)) rfl k

theorem bX6_actAtHand_14 {d d' : Nat} {Q : Option MV → MH → Prop} {h : MH} {u0 : Option MV} {vs1 : Nat} (hr : zRf h) (hd : d' + 1 ≤ d) (k : Con mX6_isWord d' 0 0 [.inr (.inr 2), .inr (.inr vs1)] h (zri fun (x : Int32) h' => J mX6_actAtHand d 0 0 Q 0 0 17 [u0] [.inl x] h')) : J mX6_actAtHand d 0 0 Q 0 0 14 [u0] [.inr (.inr vs1), .inr (.inr 2)] h := by
  exact zcVi (as := [.inr (.inr vs1)]) (zat qX6_actAtHand 8 (by rfl)) l6_44 rfl hd rfl (Nat.le_of_ble_eq_true rfl) zle0 (ci := 6) (by decide) rfl (zo hr (by decide) rfl) k

theorem bX6_actAtHand_17 {d : Nat} {Q : Option MV → MH → Prop} {h : MH} {u0 : Option MV} {vs0 : Int32} (k1 : vs0 = 0 → J mX6_actAtHand d 0 0 Q 0 0 22 [u0] [] h) (k2 : ¬ vs0 = 0 → J mX6_actAtHand d 0 0 Q 0 0 20 [u0] [] h) : J mX6_actAtHand d 0 0 Q 0 0 17 [u0] [.inl vs0] h := by
  refine zrun 9 1 qX6_actAtHand (o := 6) rfl ?_
  show ((vs0 = 0 → J mX6_actAtHand d 0 0 Q 0 0 22 [u0] [] h) ∧ (¬ vs0 = 0 → J mX6_actAtHand d 0 0 Q 0 0 20 [u0] [] h))
  exact ⟨k1, k2⟩

theorem bX6_actAtHand_20 {d : Nat} {Q : Option MV → MH → Prop} {h : MH} {u0 : Option MV} (k : Q (some (.inl (nI 1))) h) : J mX6_actAtHand d 0 0 Q 0 0 20 [u0] [] h := by
  refine zrun 10 1 qX6_actAtHand (o := 6) rfl ?_
  show J mX6_actAtHand d 0 0 Q 0 0 21 [u0] [.inl (nI 1)] h
  exact J_iret (ty := .int) (zat qX6_actAtHand 11 (by rfl)) rfl rfl (Nat.le_refl 0) (Nat.le_refl 0) k

theorem bX6_actAtHand_22 {d : Nat} {Q : Option MV → MH → Prop} {h : MH} (k : J mX6_actAtHand d 0 0 Q 0 0 23 [some (.inr (.inr 2))] [.inr (.inr 2)] h) : J mX6_actAtHand d 0 0 Q 0 0 22 [some (.inr (.inr 2))] [] h := by
  refine zrun 12 1 qX6_actAtHand (o := 6) rfl ?_
  show J mX6_actAtHand d 0 0 Q 0 0 23 [some (.inr (.inr 2))] [.inr (.inr 2)] h
  exact k

theorem bX6_actAtHand_23 {d : Nat} {Q : Option MV → MH → Prop} {h : MH} {u0 : Option MV} (k : J mX6_actAtHand d 0 0 Q 0 0 25 [u0] [.inr (.inr 1008), .inr (.inr 2)] h) : J mX6_actAtHand d 0 0 Q 0 0 23 [u0] [.inr (.inr 2)] h := by
  exact s_ldcS (j := 8) (zat qX6_actAtHand 13 (by rfl)) rfl k

theorem bX6_actAtHand_25 {d d' : Nat} {Q : Option MV → MH → Prop} {h : MH} {u0 : Option MV} {vs1 : Nat} (hr : zRf h) (hd : d' + 1 ≤ d) (k : Con mX6_isWord d' 0 0 [.inr (.inr 2), .inr (.inr vs1)] h (zri fun (x : Int32) h' => J mX6_actAtHand d 0 0 Q 0 0 28 [u0] [.inl x] h')) : J mX6_actAtHand d 0 0 Q 0 0 25 [u0] [.inr (.inr vs1), .inr (.inr 2)] h := by
  exact zcVi (as := [.inr (.inr vs1)]) (zat qX6_actAtHand 14 (by rfl)) l6_44 rfl hd rfl (Nat.le_of_ble_eq_true rfl) zle0 (ci := 6) (by decide) rfl (zo hr (by decide) rfl) k

theorem bX6_actAtHand_28 {d : Nat} {Q : Option MV → MH → Prop} {h : MH} {u0 : Option MV} {vs0 : Int32} (k1 : vs0 = 0 → J mX6_actAtHand d 0 0 Q 0 0 33 [u0] [] h) (k2 : ¬ vs0 = 0 → J mX6_actAtHand d 0 0 Q 0 0 31 [u0] [] h) : J mX6_actAtHand d 0 0 Q 0 0 28 [u0] [.inl vs0] h := by
  refine zrun 15 1 qX6_actAtHand (o := 6) rfl ?_
  show ((vs0 = 0 → J mX6_actAtHand d 0 0 Q 0 0 33 [u0] [] h) ∧ (¬ vs0 = 0 → J mX6_actAtHand d 0 0 Q 0 0 31 [u0] [] h))
  exact ⟨k1, k2⟩

theorem bX6_actAtHand_31 {d : Nat} {Q : Option MV → MH → Prop} {h : MH} {u0 : Option MV} (k : Q (some (.inl (nI 2))) h) : J mX6_actAtHand d 0 0 Q 0 0 31 [u0] [] h := by
  refine zrun 16 1 qX6_actAtHand (o := 6) rfl ?_
  show J mX6_actAtHand d 0 0 Q 0 0 32 [u0] [.inl (nI 2)] h
  exact J_iret (ty := .int) (zat qX6_actAtHand 17 (by rfl)) rfl rfl (Nat.le_refl 0) (Nat.le_refl 0) k

theorem bX6_actAtHand_33 {d : Nat} {Q : Option MV → MH → Prop} {h : MH} (k : J mX6_actAtHand d 0 0 Q 0 0 34 [some (.inr (.inr 2))] [.inr (.inr 2)] h) : J mX6_actAtHand d 0 0 Q 0 0 33 [some (.inr (.inr 2))] [] h := by
  refine zrun 18 1 qX6_actAtHand (o := 6) rfl ?_
  show J mX6_actAtHand d 0 0 Q 0 0 34 [some (.inr (.inr 2))] [.inr (.inr 2)] h
  exact k

theorem bX6_actAtHand_34 {d : Nat} {Q : Option MV → MH → Prop} {h : MH} {u0 : Option MV} (k : J mX6_actAtHand d 0 0 Q 0 0 36 [u0] [.inr (.inr 1009), .inr (.inr 2)] h) : J mX6_actAtHand d 0 0 Q 0 0 34 [u0] [.inr (.inr 2)] h := by
  exact s_ldcS (j := 9) (zat qX6_actAtHand 19 (by rfl)) rfl k

theorem bX6_actAtHand_36 {d d' : Nat} {Q : Option MV → MH → Prop} {h : MH} {u0 : Option MV} {vs1 : Nat} (hr : zRf h) (hd : d' + 1 ≤ d) (k : Con mX6_isWord d' 0 0 [.inr (.inr 2), .inr (.inr vs1)] h (zri fun (x : Int32) h' => J mX6_actAtHand d 0 0 Q 0 0 39 [u0] [.inl x] h')) : J mX6_actAtHand d 0 0 Q 0 0 36 [u0] [.inr (.inr vs1), .inr (.inr 2)] h := by
  exact zcVi (as := [.inr (.inr vs1)]) (zat qX6_actAtHand 20 (by rfl)) l6_44 rfl hd rfl (Nat.le_of_ble_eq_true rfl) zle0 (ci := 6) (by decide) rfl (zo hr (by decide) rfl) k

theorem bX6_actAtHand_39 {d : Nat} {Q : Option MV → MH → Prop} {h : MH} {u0 : Option MV} {vs0 : Int32} (k1 : vs0 = 0 → J mX6_actAtHand d 0 0 Q 0 0 44 [u0] [] h) (k2 : ¬ vs0 = 0 → J mX6_actAtHand d 0 0 Q 0 0 42 [u0] [] h) : J mX6_actAtHand d 0 0 Q 0 0 39 [u0] [.inl vs0] h := by
  refine zrun 21 1 qX6_actAtHand (o := 6) rfl ?_
  show ((vs0 = 0 → J mX6_actAtHand d 0 0 Q 0 0 44 [u0] [] h) ∧ (¬ vs0 = 0 → J mX6_actAtHand d 0 0 Q 0 0 42 [u0] [] h))
  exact ⟨k1, k2⟩

theorem bX6_actAtHand_42 {d : Nat} {Q : Option MV → MH → Prop} {h : MH} {u0 : Option MV} (k : Q (some (.inl (nI 3))) h) : J mX6_actAtHand d 0 0 Q 0 0 42 [u0] [] h := by
  refine zrun 22 1 qX6_actAtHand (o := 6) rfl ?_
  show J mX6_actAtHand d 0 0 Q 0 0 43 [u0] [.inl (nI 3)] h
  exact J_iret (ty := .int) (zat qX6_actAtHand 23 (by rfl)) rfl rfl (Nat.le_refl 0) (Nat.le_refl 0) k

theorem bX6_actAtHand_44 {d : Nat} {Q : Option MV → MH → Prop} {h : MH} (k : J mX6_actAtHand d 0 0 Q 0 0 45 [some (.inr (.inr 2))] [.inr (.inr 2)] h) : J mX6_actAtHand d 0 0 Q 0 0 44 [some (.inr (.inr 2))] [] h := by
  refine zrun 24 1 qX6_actAtHand (o := 6) rfl ?_
  show J mX6_actAtHand d 0 0 Q 0 0 45 [some (.inr (.inr 2))] [.inr (.inr 2)] h
  exact k

theorem bX6_actAtHand_45 {d : Nat} {Q : Option MV → MH → Prop} {h : MH} {u0 : Option MV} (k : J mX6_actAtHand d 0 0 Q 0 0 47 [u0] [.inr (.inr 1010), .inr (.inr 2)] h) : J mX6_actAtHand d 0 0 Q 0 0 45 [u0] [.inr (.inr 2)] h := by
  exact s_ldcS (j := 10) (zat qX6_actAtHand 25 (by rfl)) rfl k

theorem bX6_actAtHand_47 {d d' : Nat} {Q : Option MV → MH → Prop} {h : MH} {u0 : Option MV} {vs1 : Nat} (hr : zRf h) (hd : d' + 1 ≤ d) (k : Con mX6_isWord d' 0 0 [.inr (.inr 2), .inr (.inr vs1)] h (zri fun (x : Int32) h' => J mX6_actAtHand d 0 0 Q 0 0 50 [u0] [.inl x] h')) : J mX6_actAtHand d 0 0 Q 0 0 47 [u0] [.inr (.inr vs1), .inr (.inr 2)] h := by
  exact zcVi (as := [.inr (.inr vs1)]) (zat qX6_actAtHand 26 (by rfl)) l6_44 rfl hd rfl (Nat.le_of_ble_eq_true rfl) zle0 (ci := 6) (by decide) rfl (zo hr (by decide) rfl) k

theorem bX6_actAtHand_50 {d : Nat} {Q : Option MV → MH → Prop} {h : MH} {u0 : Option MV} {vs0 : Int32} (k1 : vs0 = 0 → J mX6_actAtHand d 0 0 Q 0 0 57 [u0] [] h) (k2 : ¬ vs0 = 0 → J mX6_actAtHand d 0 0 Q 0 0 53 [u0] [] h) : J mX6_actAtHand d 0 0 Q 0 0 50 [u0] [.inl vs0] h := by
  refine zrun 27 1 qX6_actAtHand (o := 6) rfl ?_
  show ((vs0 = 0 → J mX6_actAtHand d 0 0 Q 0 0 57 [u0] [] h) ∧ (¬ vs0 = 0 → J mX6_actAtHand d 0 0 Q 0 0 53 [u0] [] h))
  exact ⟨k1, k2⟩

theorem bX6_actAtHand_53 {d : Nat} {Q : Option MV → MH → Prop} {h : MH} {u0 : Option MV} (k : J mX6_actAtHand d 0 0 Q 0 0 58 [u0] [.inl (nI 4)] h) : J mX6_actAtHand d 0 0 Q 0 0 53 [u0] [] h := by
  refine zrun 28 2 qX6_actAtHand (o := 6) rfl ?_
  show J mX6_actAtHand d 0 0 Q 0 0 58 [u0] [.inl (nI 4)] h
  exact k

theorem bX6_actAtHand_57 {d : Nat} {Q : Option MV → MH → Prop} {h : MH} {u0 : Option MV} (k : J mX6_actAtHand d 0 0 Q 0 0 58 [u0] [.inl (-(nI 1))] h) : J mX6_actAtHand d 0 0 Q 0 0 57 [u0] [] h := by
  refine zrun 30 1 qX6_actAtHand (o := 6) rfl ?_
  show J mX6_actAtHand d 0 0 Q 0 0 58 [u0] [.inl (-(nI 1))] h
  exact k

theorem bX6_actAtHand_58 {d : Nat} {Q : Option MV → MH → Prop} {h : MH} {u0 : Option MV} {vs0 : Int32} (k : Q (some (.inl vs0)) h) : J mX6_actAtHand d 0 0 Q 0 0 58 [u0] [.inl vs0] h := by
  exact J_iret (ty := .int) (zat qX6_actAtHand 31 (by rfl)) rfl rfl (Nat.le_refl 0) (Nat.le_refl 0) k

theorem bX6_begin_0 {d : Nat} {Q : Option MV → MH → Prop} {h : MH} {v1 : Int32} (hd : 1 ≤ d) (k : J mX6_begin d 0 0 Q 0 0 9 [some (.inr (.inr 2)), some (.inl v1)] [.inl (if (nI 400) < v1 then (nI 400) else v1), .inl (nI 0), .inr (.inr 2)] h) : J mX6_begin d 0 0 Q 0 0 0 [some (.inr (.inr 2)), some (.inl v1)] [] h := by
  refine zrun 0 4 qX6_begin (o := 6) rfl ?_
  show J mX6_begin d 0 0 Q 0 0 6 [some (.inr (.inr 2)), some (.inl v1)] [.inl (nI 400), .inl v1, .inl (nI 0), .inr (.inr 2)] h
  exact zmin (zat qX6_begin 4 (by rfl)) mm6_121 rfl hd (Nat.le_of_ble_eq_true rfl) zle0 k

theorem bX6_begin_9 {d : Nat} {Q : Option MV → MH → Prop} {h : MH} {u0 u1 : Option MV} {vs1 vs2 : Int32} (hd : 1 ≤ d) (k : J mX6_begin d 0 0 Q 0 0 12 [u0, u1] [.inl (if vs1 < vs2 then vs2 else vs1), .inr (.inr 2)] h) : J mX6_begin d 0 0 Q 0 0 9 [u0, u1] [.inl vs2, .inl vs1, .inr (.inr 2)] h := by
  exact zmax (zat qX6_begin 5 (by rfl)) mm6_127 rfl hd (Nat.le_of_ble_eq_true rfl) zle0 k

theorem bX6_begin_12 {d : Nat} {Q : Option MV → MH → Prop} {h : MH} {u1 : Option MV} {vs1 : Int32} (hr : zRf h) (k : Q none (zsI (zsI (zsI (zsI h 2 1 vs1) 2 2 (nI 0)) 2 6 (nI 0)) 2 7 (-(nI 1)))) : J mX6_begin d 0 0 Q 0 0 12 [some (.inr (.inr 2)), u1] [.inl vs1, .inr (.inr 2)] h := by
  refine zrun 6 10 qX6_begin (o := 6) rfl ?_
  show zokO h 2 6 ∧ zokO (zsI h 2 1 vs1) 2 6 ∧ zokO (zsI (zsI h 2 1 vs1) 2 2 (nI 0)) 2 6 ∧ zokO (zsI (zsI (zsI h 2 1 vs1) 2 2 (nI 0)) 2 6 (nI 0)) 2 6 ∧ J mX6_begin d 0 0 Q 0 0 30 [some (.inr (.inr 2)), u1] [] (zsI (zsI (zsI (zsI h 2 1 vs1) 2 2 (nI 0)) 2 6 (nI 0)) 2 7 (-(nI 1)))
  exact ⟨(zo hr (by decide) rfl), (zo hr (by decide) rfl), (zo hr (by decide) rfl), (zo hr (by decide) rfl), J_vret (zat qX6_begin 16 (by rfl)) rfl (Nat.le_refl 0) (Nat.le_refl 0) k⟩

theorem bX6_refuse_0 {d : Nat} {Q : Option MV → MH → Prop} {h : MH} {u1 : Option MV} (hr : zRf h) (k1 : ¬ (h.1 2 3) = (nI 4) → J mX6_refuse d 0 0 Q 0 0 13 [some (.inr (.inr 2)), u1] [.inr (.inr 2)] h) (k2 : (h.1 2 3) = (nI 4) → J mX6_refuse d 0 0 Q 0 0 9 [some (.inr (.inr 2)), u1] [.inr (.inr 2)] h) : J mX6_refuse d 0 0 Q 0 0 0 [some (.inr (.inr 2)), u1] [] h := by
  refine zrun 0 5 qX6_refuse (o := 6) rfl ?_
  show zokO h 2 6 ∧ ((¬ (h.1 2 3) = (nI 4) → J mX6_refuse d 0 0 Q 0 0 13 [some (.inr (.inr 2)), u1] [.inr (.inr 2)] h) ∧ ((h.1 2 3) = (nI 4) → J mX6_refuse d 0 0 Q 0 0 9 [some (.inr (.inr 2)), u1] [.inr (.inr 2)] h))
  exact ⟨(zo hr (by decide) rfl), k1, k2⟩

theorem bX6_refuse_9 {d : Nat} {Q : Option MV → MH → Prop} {h : MH} {u0 u1 : Option MV} (k : J mX6_refuse d 0 0 Q 0 0 14 [u0, u1] [.inl (nI 1), .inr (.inr 2)] h) : J mX6_refuse d 0 0 Q 0 0 9 [u0, u1] [.inr (.inr 2)] h := by
  refine zrun 5 2 qX6_refuse (o := 6) rfl ?_
  show J mX6_refuse d 0 0 Q 0 0 14 [u0, u1] [.inl (nI 1), .inr (.inr 2)] h
  exact k

theorem bX6_refuse_13 {d : Nat} {Q : Option MV → MH → Prop} {h : MH} {u0 : Option MV} {v1 : Int32} (k : J mX6_refuse d 0 0 Q 0 0 14 [u0, some (.inl v1)] [.inl v1, .inr (.inr 2)] h) : J mX6_refuse d 0 0 Q 0 0 13 [u0, some (.inl v1)] [.inr (.inr 2)] h := by
  refine zrun 7 1 qX6_refuse (o := 6) rfl ?_
  show J mX6_refuse d 0 0 Q 0 0 14 [u0, some (.inl v1)] [.inl v1, .inr (.inr 2)] h
  exact k

theorem bX6_refuse_14 {d : Nat} {Q : Option MV → MH → Prop} {h : MH} {u1 : Option MV} {vs1 : Int32} (hr : zRf h) (k : Q (some (.inl (nI 0))) (zsI (zsI h 2 6 vs1) 2 7 ((zsI h 2 6 vs1).1 2 4))) : J mX6_refuse d 0 0 Q 0 0 14 [some (.inr (.inr 2)), u1] [.inl vs1, .inr (.inr 2)] h := by
  refine zrun 8 6 qX6_refuse (o := 6) rfl ?_
  show zokO h 2 6 ∧ zokO (zsI h 2 6 vs1) 2 6 ∧ zokO (zsI h 2 6 vs1) 2 6 ∧ J mX6_refuse d 0 0 Q 0 0 26 [some (.inr (.inr 2)), u1] [.inl (nI 0)] (zsI (zsI h 2 6 vs1) 2 7 ((zsI h 2 6 vs1).1 2 4))
  exact ⟨(zo hr (by decide) rfl), (zo hr (by decide) rfl), (zo hr (by decide) rfl), J_iret (ty := .boolean) (zat qX6_refuse 14 (by rfl)) rfl (by decide) (Nat.le_refl 0) (Nat.le_refl 0) k⟩

theorem bX6_advanceTo_0 {d d' : Nat} {Q : Option MV → MH → Prop} {h : MH} {u1 u2 : Option MV} (hr : zRf h) (hd : d' + 1 ≤ d) (k : Con mX6_advance d' 0 0 [.inr (.inr 2)] h (zrv fun h' => J mX6_advanceTo d 0 0 Q 0 0 4 [some (.inr (.inr 2)), u1, u2] [] h')) : J mX6_advanceTo d 0 0 Q 0 0 0 [some (.inr (.inr 2)), u1, u2] [] h := by
  refine zrun 0 1 qX6_advanceTo (o := 6) rfl ?_
  show J mX6_advanceTo d 0 0 Q 0 0 1 [some (.inr (.inr 2)), u1, u2] [.inr (.inr 2)] h
  exact zcVv (as := []) (zat qX6_advanceTo 1 (by rfl)) l6_28 rfl hd rfl (Nat.le_of_ble_eq_true rfl) zle0 (ci := 6) (by decide) rfl (zo hr (by decide) rfl) k

theorem bX6_advanceTo_4 {d d' : Nat} {Q : Option MV → MH → Prop} {h : MH} {v1 v2 : Int32} (hr : zRf h) (hd : d' + 1 ≤ d) (k : Con mX6_isNumber d' 0 0 [.inr (.inr 2), .inl v1, .inl v2] h (zri fun (x : Int32) h' => J mX6_advanceTo d 0 0 Q 0 0 10 [some (.inr (.inr 2)), some (.inl v1), some (.inl v2)] [.inl x] h')) : J mX6_advanceTo d 0 0 Q 0 0 4 [some (.inr (.inr 2)), some (.inl v1), some (.inl v2)] [] h := by
  refine zrun 2 3 qX6_advanceTo (o := 6) rfl ?_
  show J mX6_advanceTo d 0 0 Q 0 0 7 [some (.inr (.inr 2)), some (.inl v1), some (.inl v2)] [.inl v2, .inl v1, .inr (.inr 2)] h
  exact zcVi (as := [.inl v1, .inl v2]) (zat qX6_advanceTo 5 (by rfl)) l6_71 rfl hd rfl (Nat.le_of_ble_eq_true rfl) zle0 (ci := 6) (by decide) rfl (zo hr (by decide) rfl) k

theorem bX6_advanceTo_10 {d : Nat} {Q : Option MV → MH → Prop} {h : MH} {u0 u1 u2 : Option MV} {vs0 : Int32} (gn : vs0 = 0 ∨ vs0 = 1) (k : Q (some (.inl vs0)) h) : J mX6_advanceTo d 0 0 Q 0 0 10 [u0, u1, u2] [.inl vs0] h := by
  exact J_iret (ty := .boolean) (zat qX6_advanceTo 6 (by rfl)) rfl (znz gn) (Nat.le_refl 0) (Nat.le_refl 0) k

theorem bX6_isNumber_0 {d : Nat} {Q : Option MV → MH → Prop} {h : MH} {u1 u2 : Option MV} (hr : zRf h) (k1 : (h.1 2 3) = (nI 2) → J mX6_isNumber d 0 0 Q 0 0 14 [some (.inr (.inr 2)), u1, u2] [] h) (k2 : ¬ (h.1 2 3) = (nI 2) → J mX6_isNumber d 0 0 Q 0 0 8 [some (.inr (.inr 2)), u1, u2] [] h) : J mX6_isNumber d 0 0 Q 0 0 0 [some (.inr (.inr 2)), u1, u2] [] h := by
  refine zrun 0 4 qX6_isNumber (o := 6) rfl ?_
  show zokO h 2 6 ∧ (((h.1 2 3) = (nI 2) → J mX6_isNumber d 0 0 Q 0 0 14 [some (.inr (.inr 2)), u1, u2] [] h) ∧ (¬ (h.1 2 3) = (nI 2) → J mX6_isNumber d 0 0 Q 0 0 8 [some (.inr (.inr 2)), u1, u2] [] h))
  exact ⟨(zo hr (by decide) rfl), k1, k2⟩

theorem bX6_isNumber_8 {d d' : Nat} {Q : Option MV → MH → Prop} {h : MH} {u1 u2 : Option MV} (hr : zRf h) (hd : d' + 1 ≤ d) (k : Con mX6_refuse d' 0 0 [.inr (.inr 2), .inl (nI 2)] h (zri fun (x : Int32) h' => J mX6_isNumber d 0 0 Q 0 0 13 [some (.inr (.inr 2)), u1, u2] [.inl x] h')) : J mX6_isNumber d 0 0 Q 0 0 8 [some (.inr (.inr 2)), u1, u2] [] h := by
  refine zrun 4 2 qX6_isNumber (o := 6) rfl ?_
  show J mX6_isNumber d 0 0 Q 0 0 10 [some (.inr (.inr 2)), u1, u2] [.inl (nI 2), .inr (.inr 2)] h
  exact zcVi (as := [.inl (nI 2)]) (zat qX6_isNumber 6 (by rfl)) l6_38 rfl hd rfl (Nat.le_of_ble_eq_true rfl) zle0 (ci := 6) (by decide) rfl (zo hr (by decide) rfl) k

theorem bX6_isNumber_13 {d : Nat} {Q : Option MV → MH → Prop} {h : MH} {u0 u1 u2 : Option MV} {vs0 : Int32} (gn : vs0 = 0 ∨ vs0 = 1) (k : Q (some (.inl vs0)) h) : J mX6_isNumber d 0 0 Q 0 0 13 [u0, u1, u2] [.inl vs0] h := by
  exact J_iret (ty := .boolean) (zat qX6_isNumber 7 (by rfl)) rfl (znz gn) (Nat.le_refl 0) (Nat.le_refl 0) k

theorem bX6_isNumber_14 {d : Nat} {Q : Option MV → MH → Prop} {h : MH} {u2 : Option MV} {v1 : Int32} (hr : zRf h) (k1 : (h.1 2 5) < v1 → J mX6_isNumber d 0 0 Q 0 0 30 [some (.inr (.inr 2)), some (.inl v1), u2] [] h) (k2 : ¬ (h.1 2 5) < v1 → J mX6_isNumber d 0 0 Q 0 0 22 [some (.inr (.inr 2)), some (.inl v1), u2] [] h) : J mX6_isNumber d 0 0 Q 0 0 14 [some (.inr (.inr 2)), some (.inl v1), u2] [] h := by
  refine zrun 8 4 qX6_isNumber (o := 6) rfl ?_
  show zokO h 2 6 ∧ (((h.1 2 5) < v1 → J mX6_isNumber d 0 0 Q 0 0 30 [some (.inr (.inr 2)), some (.inl v1), u2] [] h) ∧ (¬ (h.1 2 5) < v1 → J mX6_isNumber d 0 0 Q 0 0 22 [some (.inr (.inr 2)), some (.inl v1), u2] [] h))
  exact ⟨(zo hr (by decide) rfl), k1, k2⟩

theorem bX6_isNumber_22 {d : Nat} {Q : Option MV → MH → Prop} {h : MH} {u1 : Option MV} {v2 : Int32} (hr : zRf h) (k1 : (h.1 2 5) ≤ v2 → J mX6_isNumber d 0 0 Q 0 0 38 [some (.inr (.inr 2)), u1, some (.inl v2)] [] h) (k2 : ¬ (h.1 2 5) ≤ v2 → J mX6_isNumber d 0 0 Q 0 0 30 [some (.inr (.inr 2)), u1, some (.inl v2)] [] h) : J mX6_isNumber d 0 0 Q 0 0 22 [some (.inr (.inr 2)), u1, some (.inl v2)] [] h := by
  refine zrun 12 4 qX6_isNumber (o := 6) rfl ?_
  show zokO h 2 6 ∧ (((h.1 2 5) ≤ v2 → J mX6_isNumber d 0 0 Q 0 0 38 [some (.inr (.inr 2)), u1, some (.inl v2)] [] h) ∧ (¬ (h.1 2 5) ≤ v2 → J mX6_isNumber d 0 0 Q 0 0 30 [some (.inr (.inr 2)), u1, some (.inl v2)] [] h))
  exact ⟨(zo hr (by decide) rfl), k1, k2⟩

theorem bX6_isNumber_30 {d d' : Nat} {Q : Option MV → MH → Prop} {h : MH} {u1 u2 : Option MV} (hr : zRf h) (hd : d' + 1 ≤ d) (k : Con mX6_refuse d' 0 0 [.inr (.inr 2), .inl (nI 3)] h (zri fun (x : Int32) h' => J mX6_isNumber d 0 0 Q 0 0 35 [some (.inr (.inr 2)), u1, u2] [.inl x] h')) : J mX6_isNumber d 0 0 Q 0 0 30 [some (.inr (.inr 2)), u1, u2] [] h := by
  refine zrun 16 2 qX6_isNumber (o := 6) rfl ?_
  show J mX6_isNumber d 0 0 Q 0 0 32 [some (.inr (.inr 2)), u1, u2] [.inl (nI 3), .inr (.inr 2)] h
  exact zcVi (as := [.inl (nI 3)]) (zat qX6_isNumber 18 (by rfl)) l6_38 rfl hd rfl (Nat.le_of_ble_eq_true rfl) zle0 (ci := 6) (by decide) rfl (zo hr (by decide) rfl) k

theorem bX6_isNumber_35 {d : Nat} {Q : Option MV → MH → Prop} {h : MH} {u0 u1 u2 : Option MV} {vs0 : Int32} (k1 : vs0 = 0 → J mX6_isNumber d 0 0 Q 0 0 42 [u0, u1, u2] [] h) (k2 : ¬ vs0 = 0 → J mX6_isNumber d 0 0 Q 0 0 38 [u0, u1, u2] [] h) : J mX6_isNumber d 0 0 Q 0 0 35 [u0, u1, u2] [.inl vs0] h := by
  refine zrun 19 1 qX6_isNumber (o := 6) rfl ?_
  show ((vs0 = 0 → J mX6_isNumber d 0 0 Q 0 0 42 [u0, u1, u2] [] h) ∧ (¬ vs0 = 0 → J mX6_isNumber d 0 0 Q 0 0 38 [u0, u1, u2] [] h))
  exact ⟨k1, k2⟩

theorem bX6_isNumber_38 {d : Nat} {Q : Option MV → MH → Prop} {h : MH} {u0 u1 u2 : Option MV} (k : J mX6_isNumber d 0 0 Q 0 0 43 [u0, u1, u2] [.inl (nI 1)] h) : J mX6_isNumber d 0 0 Q 0 0 38 [u0, u1, u2] [] h := by
  refine zrun 20 2 qX6_isNumber (o := 6) rfl ?_
  show J mX6_isNumber d 0 0 Q 0 0 43 [u0, u1, u2] [.inl (nI 1)] h
  exact k

theorem bX6_isNumber_42 {d : Nat} {Q : Option MV → MH → Prop} {h : MH} {u0 u1 u2 : Option MV} (k : J mX6_isNumber d 0 0 Q 0 0 43 [u0, u1, u2] [.inl (nI 0)] h) : J mX6_isNumber d 0 0 Q 0 0 42 [u0, u1, u2] [] h := by
  refine zrun 22 1 qX6_isNumber (o := 6) rfl ?_
  show J mX6_isNumber d 0 0 Q 0 0 43 [u0, u1, u2] [.inl (nI 0)] h
  exact k

theorem bX6_isNumber_43 {d : Nat} {Q : Option MV → MH → Prop} {h : MH} {u0 u1 u2 : Option MV} {vs0 : Int32} (gn : vs0 = 0 ∨ vs0 = 1) (k : Q (some (.inl vs0)) h) : J mX6_isNumber d 0 0 Q 0 0 43 [u0, u1, u2] [.inl vs0] h := by
  exact J_iret (ty := .boolean) (zat qX6_isNumber 23 (by rfl)) rfl (znz gn) (Nat.le_refl 0) (Nat.le_refl 0) k

theorem bX6_isWord_0 {d : Nat} {Q : Option MV → MH → Prop} {h : MH} {u1 u2 : Option MV} (hr : zRf h) (k1 : ¬ (h.1 2 3) = (nI 1) → J mX6_isWord d 0 0 Q 0 0 24 [some (.inr (.inr 2)), u1, u2] [] h) (k2 : (h.1 2 3) = (nI 1) → J mX6_isWord d 0 0 Q 0 0 8 [some (.inr (.inr 2)), u1, u2] [] h) : J mX6_isWord d 0 0 Q 0 0 0 [some (.inr (.inr 2)), u1, u2] [] h := by
  refine zrun 0 4 qX6_isWord (o := 6) rfl ?_
  show zokO h 2 6 ∧ ((¬ (h.1 2 3) = (nI 1) → J mX6_isWord d 0 0 Q 0 0 24 [some (.inr (.inr 2)), u1, u2] [] h) ∧ ((h.1 2 3) = (nI 1) → J mX6_isWord d 0 0 Q 0 0 8 [some (.inr (.inr 2)), u1, u2] [] h))
  exact ⟨(zo hr (by decide) rfl), k1, k2⟩

theorem bX6_isWord_8 {d d' : Nat} {Q : Option MV → MH → Prop} {h : MH} {u2 : Option MV} {v1 : Nat} (hr : zRf h) (gs : ∃ j, v1 = 1000 + j ∧ j < 12) (hd : d' + 1 ≤ d) (k : Con mJ0_length_8abf5 d' 0 0 [.inr (.inr v1)] h (zri fun (x : Int32) h' => J mX6_isWord d 0 0 Q 0 0 21 [some (.inr (.inr 2)), some (.inr (.inr v1)), u2] [.inl x, .inl ((h.1 2 2) - (h.1 2 4))] h')) : J mX6_isWord d 0 0 Q 0 0 8 [some (.inr (.inr 2)), some (.inr (.inr v1)), u2] [] h := by
  refine zrun 4 6 qX6_isWord (o := 6) rfl ?_
  show zokO h 2 6 ∧ zokO h 2 6 ∧ J mX6_isWord d 0 0 Q 0 0 18 [some (.inr (.inr 2)), some (.inr (.inr v1)), u2] [.inr (.inr v1), .inl ((h.1 2 2) - (h.1 2 4))] h
  exact ⟨(zo hr (by decide) rfl), (zo hr (by decide) rfl), zcTi (as := []) (zat qX6_isWord 10 (by rfl)) l6_142 rfl hd rfl (Nat.le_of_ble_eq_true rfl) zle0 rfl gs k⟩

theorem bX6_isWord_21 {d : Nat} {Q : Option MV → MH → Prop} {h : MH} {u0 u1 u2 : Option MV} {vs0 vs1 : Int32} (k1 : vs0 = vs1 → J mX6_isWord d 0 0 Q 0 0 26 [u0, u1, u2] [] h) (k2 : ¬ vs0 = vs1 → J mX6_isWord d 0 0 Q 0 0 24 [u0, u1, u2] [] h) : J mX6_isWord d 0 0 Q 0 0 21 [u0, u1, u2] [.inl vs1, .inl vs0] h := by
  refine zrun 11 1 qX6_isWord (o := 6) rfl ?_
  show ((vs0 = vs1 → J mX6_isWord d 0 0 Q 0 0 26 [u0, u1, u2] [] h) ∧ (¬ vs0 = vs1 → J mX6_isWord d 0 0 Q 0 0 24 [u0, u1, u2] [] h))
  exact ⟨k1, k2⟩

theorem bX6_isWord_24 {d : Nat} {Q : Option MV → MH → Prop} {h : MH} {u0 u1 u2 : Option MV} (k : Q (some (.inl (nI 0))) h) : J mX6_isWord d 0 0 Q 0 0 24 [u0, u1, u2] [] h := by
  refine zrun 12 1 qX6_isWord (o := 6) rfl ?_
  show J mX6_isWord d 0 0 Q 0 0 25 [u0, u1, u2] [.inl (nI 0)] h
  exact J_iret (ty := .boolean) (zat qX6_isWord 13 (by rfl)) rfl (by decide) (Nat.le_refl 0) (Nat.le_refl 0) k

theorem bX6_isWord_26 {d : Nat} {Q : Option MV → MH → Prop} {h : MH} {u0 u2 : Option MV} {v1 : Nat} (k : J mX6_isWord d 0 0 Q 0 0 28 [u0, some (.inr (.inr v1)), some (.inl (nI 0))] [] h) : J mX6_isWord d 0 0 Q 0 0 26 [u0, some (.inr (.inr v1)), u2] [] h := by
  refine zrun 14 2 qX6_isWord (o := 6) rfl ?_
  show J mX6_isWord d 0 0 Q 0 0 28 [u0, some (.inr (.inr v1)), some (.inl (nI 0))] [] h
  exact k

theorem bX6_isWord_28 {d d' : Nat} {Q : Option MV → MH → Prop} {h : MH} {u0 : Option MV} {v2 : Int32} {v1 : Nat} (gs : ∃ j, v1 = 1000 + j ∧ j < 12) (hd : d' + 1 ≤ d) (k : Con mJ0_length_8abf5 d' 0 0 [.inr (.inr v1)] h (zri fun (x : Int32) h' => J mX6_isWord d 0 0 Q 0 0 33 [u0, some (.inr (.inr v1)), some (.inl v2)] [.inl x, .inl v2] h')) : J mX6_isWord d 0 0 Q 0 0 28 [u0, some (.inr (.inr v1)), some (.inl v2)] [] h := by
  refine zrun 16 2 qX6_isWord (o := 6) rfl ?_
  show J mX6_isWord d 0 0 Q 0 0 30 [u0, some (.inr (.inr v1)), some (.inl v2)] [.inr (.inr v1), .inl v2] h
  exact zcTi (as := []) (zat qX6_isWord 18 (by rfl)) l6_142 rfl hd rfl (Nat.le_of_ble_eq_true rfl) zle0 rfl gs k

theorem bX6_isWord_33 {d : Nat} {Q : Option MV → MH → Prop} {h : MH} {u0 u1 u2 : Option MV} {vs0 vs1 : Int32} (k1 : vs1 ≤ vs0 → J mX6_isWord d 0 0 Q 0 0 63 [u0, u1, u2] [] h) (k2 : ¬ vs1 ≤ vs0 → J mX6_isWord d 0 0 Q 0 0 36 [u0, u1, u2] [] h) : J mX6_isWord d 0 0 Q 0 0 33 [u0, u1, u2] [.inl vs1, .inl vs0] h := by
  refine zrun 19 1 qX6_isWord (o := 6) rfl ?_
  show ((vs1 ≤ vs0 → J mX6_isWord d 0 0 Q 0 0 63 [u0, u1, u2] [] h) ∧ (¬ vs1 ≤ vs0 → J mX6_isWord d 0 0 Q 0 0 36 [u0, u1, u2] [] h))
  exact ⟨k1, k2⟩

theorem bX6_isWord_36 {d d' : Nat} {Q : Option MV → MH → Prop} {h : MH} {v2 : Int32} {v1 : Nat} (hr : zRf h) (g0 : vp_in ((h.1 2 4) + v2) 400) (gs : ∃ j, v1 = 1000 + j ∧ j < 12) (hd : d' + 1 ≤ d) (k : Con mJ0_charAt_5068e d' 0 0 [.inr (.inr v1), .inl v2] h (zri fun (x : Int32) h' => J mX6_isWord d 0 0 Q 0 0 52 [some (.inr (.inr 2)), some (.inr (.inr v1)), some (.inl v2)] [.inl x, .inl (h.1 3 ((h.1 2 4) + v2).toNatClampNeg)] h')) : J mX6_isWord d 0 0 Q 0 0 36 [some (.inr (.inr 2)), some (.inr (.inr v1)), some (.inl v2)] [] h := by
  refine zrun 20 9 qX6_isWord (o := 6) rfl ?_
  show zokO h 2 6 ∧ zokO h 2 6 ∧ zokA h (h.2.2.1 2 0) 20 ((h.1 2 4) + v2) ∧ J mX6_isWord d 0 0 Q 0 0 49 [some (.inr (.inr 2)), some (.inr (.inr v1)), some (.inl v2)] [.inl v2, .inr (.inr v1), .inl (h.1 (h.2.2.1 2 0) ((h.1 2 4) + v2).toNatClampNeg)] h
  rw [(show h.2.2.1 2 0 = 3 from (hr.at (by decide) (by decide) (by rfl)))]
  exact ⟨(zo hr (by decide) rfl), (zo hr (by decide) rfl), (zia hr (by decide) (by rfl) g0), zcTi (as := [.inl v2]) (zat qX6_isWord 29 (by rfl)) l6_147 rfl hd rfl (Nat.le_of_ble_eq_true rfl) zle0 rfl gs k⟩

theorem bX6_isWord_52 {d : Nat} {Q : Option MV → MH → Prop} {h : MH} {u0 u1 u2 : Option MV} {vs0 vs1 : Int32} (k1 : vs0 = vs1 → J mX6_isWord d 0 0 Q 0 0 57 [u0, u1, u2] [] h) (k2 : ¬ vs0 = vs1 → J mX6_isWord d 0 0 Q 0 0 55 [u0, u1, u2] [] h) : J mX6_isWord d 0 0 Q 0 0 52 [u0, u1, u2] [.inl vs1, .inl vs0] h := by
  refine zrun 30 1 qX6_isWord (o := 6) rfl ?_
  show ((vs0 = vs1 → J mX6_isWord d 0 0 Q 0 0 57 [u0, u1, u2] [] h) ∧ (¬ vs0 = vs1 → J mX6_isWord d 0 0 Q 0 0 55 [u0, u1, u2] [] h))
  exact ⟨k1, k2⟩

theorem bX6_isWord_55 {d : Nat} {Q : Option MV → MH → Prop} {h : MH} {u0 u1 u2 : Option MV} (k : Q (some (.inl (nI 0))) h) : J mX6_isWord d 0 0 Q 0 0 55 [u0, u1, u2] [] h := by
  refine zrun 31 1 qX6_isWord (o := 6) rfl ?_
  show J mX6_isWord d 0 0 Q 0 0 56 [u0, u1, u2] [.inl (nI 0)] h
  exact J_iret (ty := .boolean) (zat qX6_isWord 32 (by rfl)) rfl (by decide) (Nat.le_refl 0) (Nat.le_refl 0) k

theorem bX6_isWord_57 {d : Nat} {Q : Option MV → MH → Prop} {h : MH} {u0 : Option MV} {v2 : Int32} {v1 : Nat} (k : J mX6_isWord d 0 0 Q 0 0 28 [u0, some (.inr (.inr v1)), some (.inl (v2 + nI 1))] [] h) : J mX6_isWord d 0 0 Q 0 0 57 [u0, some (.inr (.inr v1)), some (.inl v2)] [] h := by
  refine zrun 33 2 qX6_isWord (o := 6) rfl ?_
  show J mX6_isWord d 0 0 Q 0 0 28 [u0, some (.inr (.inr v1)), some (.inl (v2 + nI 1))] [] h
  exact k

theorem bX6_isWord_63 {d : Nat} {Q : Option MV → MH → Prop} {h : MH} {u0 u1 u2 : Option MV} (k : Q (some (.inl (nI 1))) h) : J mX6_isWord d 0 0 Q 0 0 63 [u0, u1, u2] [] h := by
  refine zrun 35 1 qX6_isWord (o := 6) rfl ?_
  show J mX6_isWord d 0 0 Q 0 0 64 [u0, u1, u2] [.inl (nI 1)] h
  exact J_iret (ty := .boolean) (zat qX6_isWord 36 (by rfl)) rfl (by decide) (Nat.le_refl 0) (Nat.le_refl 0) k

theorem bX6_advance_0 {d : Nat} {Q : Option MV → MH → Prop} {h : MH} (hr : zRf h) (k1 : (h.1 2 1) ≤ (h.1 2 2) → J mX6_advance d 0 0 Q 0 0 52 [some (.inr (.inr 2))] [] h) (k2 : ¬ (h.1 2 1) ≤ (h.1 2 2) → J mX6_advance d 0 0 Q 0 0 11 [some (.inr (.inr 2))] [] h) : J mX6_advance d 0 0 Q 0 0 0 [some (.inr (.inr 2))] [] h := by
  refine zrun 0 5 qX6_advance (o := 6) rfl ?_
  show zokO h 2 6 ∧ zokO h 2 6 ∧ (((h.1 2 1) ≤ (h.1 2 2) → J mX6_advance d 0 0 Q 0 0 52 [some (.inr (.inr 2))] [] h) ∧ (¬ (h.1 2 1) ≤ (h.1 2 2) → J mX6_advance d 0 0 Q 0 0 11 [some (.inr (.inr 2))] [] h))
  exact ⟨(zo hr (by decide) rfl), (zo hr (by decide) rfl), k1, k2⟩

theorem bX6_advance_11 {d : Nat} {Q : Option MV → MH → Prop} {h : MH} (hr : zRf h) (g0 : vp_in (h.1 2 2) 400) (k1 : (h.1 3 (h.1 2 2).toNatClampNeg) = (nI 32) → J mX6_advance d 0 0 Q 0 0 39 [some (.inr (.inr 2))] [] h) (k2 : ¬ (h.1 3 (h.1 2 2).toNatClampNeg) = (nI 32) → J mX6_advance d 0 0 Q 0 0 25 [some (.inr (.inr 2))] [] h) : J mX6_advance d 0 0 Q 0 0 11 [some (.inr (.inr 2))] [] h := by
  refine zrun 5 7 qX6_advance (o := 6) rfl ?_
  show zokO h 2 6 ∧ zokO h 2 6 ∧ zokA h (h.2.2.1 2 0) 20 (h.1 2 2) ∧ (((h.1 (h.2.2.1 2 0) (h.1 2 2).toNatClampNeg) = (nI 32) → J mX6_advance d 0 0 Q 0 0 39 [some (.inr (.inr 2))] [] h) ∧ (¬ (h.1 (h.2.2.1 2 0) (h.1 2 2).toNatClampNeg) = (nI 32) → J mX6_advance d 0 0 Q 0 0 25 [some (.inr (.inr 2))] [] h))
  rw [(show h.2.2.1 2 0 = 3 from (hr.at (by decide) (by decide) (by rfl)))]
  exact ⟨(zo hr (by decide) rfl), (zo hr (by decide) rfl), (zia hr (by decide) (by rfl) g0), k1, k2⟩

theorem bX6_advance_25 {d : Nat} {Q : Option MV → MH → Prop} {h : MH} (hr : zRf h) (g0 : vp_in (h.1 2 2) 400) (k1 : ¬ (h.1 3 (h.1 2 2).toNatClampNeg) = (nI 10) → J mX6_advance d 0 0 Q 0 0 52 [some (.inr (.inr 2))] [] h) (k2 : (h.1 3 (h.1 2 2).toNatClampNeg) = (nI 10) → J mX6_advance d 0 0 Q 0 0 39 [some (.inr (.inr 2))] [] h) : J mX6_advance d 0 0 Q 0 0 25 [some (.inr (.inr 2))] [] h := by
  refine zrun 12 7 qX6_advance (o := 6) rfl ?_
  show zokO h 2 6 ∧ zokO h 2 6 ∧ zokA h (h.2.2.1 2 0) 20 (h.1 2 2) ∧ ((¬ (h.1 (h.2.2.1 2 0) (h.1 2 2).toNatClampNeg) = (nI 10) → J mX6_advance d 0 0 Q 0 0 52 [some (.inr (.inr 2))] [] h) ∧ ((h.1 (h.2.2.1 2 0) (h.1 2 2).toNatClampNeg) = (nI 10) → J mX6_advance d 0 0 Q 0 0 39 [some (.inr (.inr 2))] [] h))
  rw [(show h.2.2.1 2 0 = 3 from (hr.at (by decide) (by decide) (by rfl)))]
  exact ⟨(zo hr (by decide) rfl), (zo hr (by decide) rfl), (zia hr (by decide) (by rfl) g0), k1, k2⟩

theorem bX6_advance_39 {d : Nat} {Q : Option MV → MH → Prop} {h : MH} (hr : zRf h) (k : J mX6_advance d 0 0 Q 0 0 0 [some (.inr (.inr 2))] [] (zsI h 2 2 ((h.1 2 2) + (nI 1)))) : J mX6_advance d 0 0 Q 0 0 39 [some (.inr (.inr 2))] [] h := by
  refine zrun 19 7 qX6_advance (o := 6) rfl ?_
  show zokO h 2 6 ∧ zokO h 2 6 ∧ J mX6_advance d 0 0 Q 0 0 0 [some (.inr (.inr 2))] [] (zsI h 2 2 ((h.1 2 2) + (nI 1)))
  exact ⟨(zo hr (by decide) rfl), (zo hr (by decide) rfl), k⟩

theorem bX6_advance_52 {d : Nat} {Q : Option MV → MH → Prop} {h : MH} (hr : zRf h) (k1 : ((zsI h 2 4 (h.1 2 2)).1 2 2) < ((zsI h 2 4 (h.1 2 2)).1 2 1) → J mX6_advance d 0 0 Q 0 0 79 [some (.inr (.inr 2))] [] (zsI h 2 4 (h.1 2 2))) (k2 : ¬ ((zsI h 2 4 (h.1 2 2)).1 2 2) < ((zsI h 2 4 (h.1 2 2)).1 2 1) → J mX6_advance d 0 0 Q 0 0 71 [some (.inr (.inr 2))] [] (zsI h 2 4 (h.1 2 2))) : J mX6_advance d 0 0 Q 0 0 52 [some (.inr (.inr 2))] [] h := by
  refine zrun 26 9 qX6_advance (o := 6) rfl ?_
  show zokO h 2 6 ∧ zokO h 2 6 ∧ zokO (zsI h 2 4 (h.1 2 2)) 2 6 ∧ zokO (zsI h 2 4 (h.1 2 2)) 2 6 ∧ ((((zsI h 2 4 (h.1 2 2)).1 2 2) < ((zsI h 2 4 (h.1 2 2)).1 2 1) → J mX6_advance d 0 0 Q 0 0 79 [some (.inr (.inr 2))] [] (zsI h 2 4 (h.1 2 2))) ∧ (¬ ((zsI h 2 4 (h.1 2 2)).1 2 2) < ((zsI h 2 4 (h.1 2 2)).1 2 1) → J mX6_advance d 0 0 Q 0 0 71 [some (.inr (.inr 2))] [] (zsI h 2 4 (h.1 2 2))))
  exact ⟨(zo hr (by decide) rfl), (zo hr (by decide) rfl), (zo hr (by decide) rfl), (zo hr (by decide) rfl), k1, k2⟩

theorem bX6_advance_71 {d : Nat} {Q : Option MV → MH → Prop} {h : MH} (hr : zRf h) (k : J mX6_advance d 0 0 Q 0 0 193 [some (.inr (.inr 2))] [] (zsI h 2 3 (nI 0))) : J mX6_advance d 0 0 Q 0 0 71 [some (.inr (.inr 2))] [] h := by
  refine zrun 35 4 qX6_advance (o := 6) rfl ?_
  show zokO h 2 6 ∧ J mX6_advance d 0 0 Q 0 0 193 [some (.inr (.inr 2))] [] (zsI h 2 3 (nI 0))
  exact ⟨(zo hr (by decide) rfl), k⟩

theorem bX6_advance_79 {d d' : Nat} {Q : Option MV → MH → Prop} {h : MH} (hr : zRf h) (g0 : vp_in (h.1 2 2) 400) (hd : d' + 1 ≤ d) (k : Con mX6_isLetter d' 0 0 [.inl (h.1 3 (h.1 2 2).toNatClampNeg)] h (zri fun (x : Int32) h' => J mX6_advance d 0 0 Q 0 0 91 [some (.inr (.inr 2))] [.inl x] h')) : J mX6_advance d 0 0 Q 0 0 79 [some (.inr (.inr 2))] [] h := by
  refine zrun 39 5 qX6_advance (o := 6) rfl ?_
  show zokO h 2 6 ∧ zokO h 2 6 ∧ zokA h (h.2.2.1 2 0) 20 (h.1 2 2) ∧ J mX6_advance d 0 0 Q 0 0 88 [some (.inr (.inr 2))] [.inl (h.1 (h.2.2.1 2 0) (h.1 2 2).toNatClampNeg)] h
  rw [(show h.2.2.1 2 0 = 3 from (hr.at (by decide) (by decide) (by rfl)))]
  exact ⟨(zo hr (by decide) rfl), (zo hr (by decide) rfl), (zia hr (by decide) (by rfl) g0), zcSi (as := [.inl (h.1 3 (h.1 2 2).toNatClampNeg)]) (zat qX6_advance 44 (by rfl)) l6_151 rfl hd rfl (Nat.le_of_ble_eq_true rfl) zle0 k⟩

theorem bX6_advance_91 {d : Nat} {Q : Option MV → MH → Prop} {h : MH} {u0 : Option MV} {vs0 : Int32} (k1 : vs0 = 0 → J mX6_advance d 0 0 Q 0 0 138 [u0] [] h) (k2 : ¬ vs0 = 0 → J mX6_advance d 0 0 Q 0 0 94 [u0] [] h) : J mX6_advance d 0 0 Q 0 0 91 [u0] [.inl vs0] h := by
  refine zrun 45 1 qX6_advance (o := 6) rfl ?_
  show ((vs0 = 0 → J mX6_advance d 0 0 Q 0 0 138 [u0] [] h) ∧ (¬ vs0 = 0 → J mX6_advance d 0 0 Q 0 0 94 [u0] [] h))
  exact ⟨k1, k2⟩

theorem bX6_advance_94 {d : Nat} {Q : Option MV → MH → Prop} {h : MH} (hr : zRf h) (k : J mX6_advance d 0 0 Q 0 0 99 [some (.inr (.inr 2))] [] (zsI h 2 3 (nI 1))) : J mX6_advance d 0 0 Q 0 0 94 [some (.inr (.inr 2))] [] h := by
  refine zrun 46 3 qX6_advance (o := 6) rfl ?_
  show zokO h 2 6 ∧ J mX6_advance d 0 0 Q 0 0 99 [some (.inr (.inr 2))] [] (zsI h 2 3 (nI 1))
  exact ⟨(zo hr (by decide) rfl), k⟩

theorem bX6_advance_99 {d : Nat} {Q : Option MV → MH → Prop} {h : MH} (hr : zRf h) (k1 : (h.1 2 1) ≤ (h.1 2 2) → J mX6_advance d 0 0 Q 0 0 193 [some (.inr (.inr 2))] [] h) (k2 : ¬ (h.1 2 1) ≤ (h.1 2 2) → J mX6_advance d 0 0 Q 0 0 110 [some (.inr (.inr 2))] [] h) : J mX6_advance d 0 0 Q 0 0 99 [some (.inr (.inr 2))] [] h := by
  refine zrun 49 5 qX6_advance (o := 6) rfl ?_
  show zokO h 2 6 ∧ zokO h 2 6 ∧ (((h.1 2 1) ≤ (h.1 2 2) → J mX6_advance d 0 0 Q 0 0 193 [some (.inr (.inr 2))] [] h) ∧ (¬ (h.1 2 1) ≤ (h.1 2 2) → J mX6_advance d 0 0 Q 0 0 110 [some (.inr (.inr 2))] [] h))
  exact ⟨(zo hr (by decide) rfl), (zo hr (by decide) rfl), k1, k2⟩

theorem bX6_advance_110 {d d' : Nat} {Q : Option MV → MH → Prop} {h : MH} (hr : zRf h) (g0 : vp_in (h.1 2 2) 400) (hd : d' + 1 ≤ d) (k : Con mX6_isLetter d' 0 0 [.inl (h.1 3 (h.1 2 2).toNatClampNeg)] h (zri fun (x : Int32) h' => J mX6_advance d 0 0 Q 0 0 122 [some (.inr (.inr 2))] [.inl x] h')) : J mX6_advance d 0 0 Q 0 0 110 [some (.inr (.inr 2))] [] h := by
  refine zrun 54 5 qX6_advance (o := 6) rfl ?_
  show zokO h 2 6 ∧ zokO h 2 6 ∧ zokA h (h.2.2.1 2 0) 20 (h.1 2 2) ∧ J mX6_advance d 0 0 Q 0 0 119 [some (.inr (.inr 2))] [.inl (h.1 (h.2.2.1 2 0) (h.1 2 2).toNatClampNeg)] h
  rw [(show h.2.2.1 2 0 = 3 from (hr.at (by decide) (by decide) (by rfl)))]
  exact ⟨(zo hr (by decide) rfl), (zo hr (by decide) rfl), (zia hr (by decide) (by rfl) g0), zcSi (as := [.inl (h.1 3 (h.1 2 2).toNatClampNeg)]) (zat qX6_advance 59 (by rfl)) l6_151 rfl hd rfl (Nat.le_of_ble_eq_true rfl) zle0 k⟩

theorem bX6_advance_122 {d : Nat} {Q : Option MV → MH → Prop} {h : MH} {u0 : Option MV} {vs0 : Int32} (k1 : vs0 = 0 → J mX6_advance d 0 0 Q 0 0 193 [u0] [] h) (k2 : ¬ vs0 = 0 → J mX6_advance d 0 0 Q 0 0 125 [u0] [] h) : J mX6_advance d 0 0 Q 0 0 122 [u0] [.inl vs0] h := by
  refine zrun 60 1 qX6_advance (o := 6) rfl ?_
  show ((vs0 = 0 → J mX6_advance d 0 0 Q 0 0 193 [u0] [] h) ∧ (¬ vs0 = 0 → J mX6_advance d 0 0 Q 0 0 125 [u0] [] h))
  exact ⟨k1, k2⟩

theorem bX6_advance_125 {d : Nat} {Q : Option MV → MH → Prop} {h : MH} (hr : zRf h) (k : J mX6_advance d 0 0 Q 0 0 99 [some (.inr (.inr 2))] [] (zsI h 2 2 ((h.1 2 2) + (nI 1)))) : J mX6_advance d 0 0 Q 0 0 125 [some (.inr (.inr 2))] [] h := by
  refine zrun 61 7 qX6_advance (o := 6) rfl ?_
  show zokO h 2 6 ∧ zokO h 2 6 ∧ J mX6_advance d 0 0 Q 0 0 99 [some (.inr (.inr 2))] [] (zsI h 2 2 ((h.1 2 2) + (nI 1)))
  exact ⟨(zo hr (by decide) rfl), (zo hr (by decide) rfl), k⟩

theorem bX6_advance_138 {d d' : Nat} {Q : Option MV → MH → Prop} {h : MH} (hr : zRf h) (g0 : vp_in (h.1 2 2) 400) (hd : d' + 1 ≤ d) (k : Con mX6_isDigit d' 0 0 [.inl (h.1 3 (h.1 2 2).toNatClampNeg)] h (zri fun (x : Int32) h' => J mX6_advance d 0 0 Q 0 0 150 [some (.inr (.inr 2))] [.inl x] h')) : J mX6_advance d 0 0 Q 0 0 138 [some (.inr (.inr 2))] [] h := by
  refine zrun 68 5 qX6_advance (o := 6) rfl ?_
  show zokO h 2 6 ∧ zokO h 2 6 ∧ zokA h (h.2.2.1 2 0) 20 (h.1 2 2) ∧ J mX6_advance d 0 0 Q 0 0 147 [some (.inr (.inr 2))] [.inl (h.1 (h.2.2.1 2 0) (h.1 2 2).toNatClampNeg)] h
  rw [(show h.2.2.1 2 0 = 3 from (hr.at (by decide) (by decide) (by rfl)))]
  exact ⟨(zo hr (by decide) rfl), (zo hr (by decide) rfl), (zia hr (by decide) (by rfl) g0), zcSi (as := [.inl (h.1 3 (h.1 2 2).toNatClampNeg)]) (zat qX6_advance 73 (by rfl)) l6_154 rfl hd rfl (Nat.le_of_ble_eq_true rfl) zle0 k⟩

theorem bX6_advance_150 {d : Nat} {Q : Option MV → MH → Prop} {h : MH} {u0 : Option MV} {vs0 : Int32} (k1 : vs0 = 0 → J mX6_advance d 0 0 Q 0 0 160 [u0] [] h) (k2 : ¬ vs0 = 0 → J mX6_advance d 0 0 Q 0 0 153 [u0] [] h) : J mX6_advance d 0 0 Q 0 0 150 [u0] [.inl vs0] h := by
  refine zrun 74 1 qX6_advance (o := 6) rfl ?_
  show ((vs0 = 0 → J mX6_advance d 0 0 Q 0 0 160 [u0] [] h) ∧ (¬ vs0 = 0 → J mX6_advance d 0 0 Q 0 0 153 [u0] [] h))
  exact ⟨k1, k2⟩

theorem bX6_advance_153 {d d' : Nat} {Q : Option MV → MH → Prop} {h : MH} (hr : zRf h) (hd : d' + 1 ≤ d) (k : Con mX6_advanceDigits d' 0 0 [.inr (.inr 2)] h (zrv fun h' => J mX6_advance d 0 0 Q 0 0 157 [some (.inr (.inr 2))] [] h')) : J mX6_advance d 0 0 Q 0 0 153 [some (.inr (.inr 2))] [] h := by
  refine zrun 75 1 qX6_advance (o := 6) rfl ?_
  show J mX6_advance d 0 0 Q 0 0 154 [some (.inr (.inr 2))] [.inr (.inr 2)] h
  exact zcVv (as := []) (zat qX6_advance 76 (by rfl)) l6_157 rfl hd rfl (Nat.le_of_ble_eq_true rfl) zle0 (ci := 6) (by decide) rfl (zo hr (by decide) rfl) k

theorem bX6_advance_157 {d : Nat} {Q : Option MV → MH → Prop} {h : MH} {u0 : Option MV} (k : J mX6_advance d 0 0 Q 0 0 193 [u0] [] h) : J mX6_advance d 0 0 Q 0 0 157 [u0] [] h := by
  refine zrun 77 1 qX6_advance (o := 6) rfl ?_
  show J mX6_advance d 0 0 Q 0 0 193 [u0] [] h
  exact k

theorem bX6_advance_160 {d : Nat} {Q : Option MV → MH → Prop} {h : MH} (hr : zRf h) (g0 : vp_in (h.1 2 2) 400) (k1 : ¬ (h.1 3 (h.1 2 2).toNatClampNeg) = (nI 59) → J mX6_advance d 0 0 Q 0 0 179 [some (.inr (.inr 2))] [.inr (.inr 2)] h) (k2 : (h.1 3 (h.1 2 2).toNatClampNeg) = (nI 59) → J mX6_advance d 0 0 Q 0 0 175 [some (.inr (.inr 2))] [.inr (.inr 2)] h) : J mX6_advance d 0 0 Q 0 0 160 [some (.inr (.inr 2))] [] h := by
  refine zrun 78 8 qX6_advance (o := 6) rfl ?_
  show zokO h 2 6 ∧ zokO h 2 6 ∧ zokA h (h.2.2.1 2 0) 20 (h.1 2 2) ∧ ((¬ (h.1 (h.2.2.1 2 0) (h.1 2 2).toNatClampNeg) = (nI 59) → J mX6_advance d 0 0 Q 0 0 179 [some (.inr (.inr 2))] [.inr (.inr 2)] h) ∧ ((h.1 (h.2.2.1 2 0) (h.1 2 2).toNatClampNeg) = (nI 59) → J mX6_advance d 0 0 Q 0 0 175 [some (.inr (.inr 2))] [.inr (.inr 2)] h))
  rw [(show h.2.2.1 2 0 = 3 from (hr.at (by decide) (by decide) (by rfl)))]
  exact ⟨(zo hr (by decide) rfl), (zo hr (by decide) rfl), (zia hr (by decide) (by rfl) g0), k1, k2⟩

theorem bX6_advance_175 {d : Nat} {Q : Option MV → MH → Prop} {h : MH} {u0 : Option MV} (k : J mX6_advance d 0 0 Q 0 0 180 [u0] [.inl (nI 3), .inr (.inr 2)] h) : J mX6_advance d 0 0 Q 0 0 175 [u0] [.inr (.inr 2)] h := by
  refine zrun 86 2 qX6_advance (o := 6) rfl ?_
  show J mX6_advance d 0 0 Q 0 0 180 [u0] [.inl (nI 3), .inr (.inr 2)] h
  exact k

theorem bX6_advance_179 {d : Nat} {Q : Option MV → MH → Prop} {h : MH} {u0 : Option MV} (k : J mX6_advance d 0 0 Q 0 0 180 [u0] [.inl (nI 4), .inr (.inr 2)] h) : J mX6_advance d 0 0 Q 0 0 179 [u0] [.inr (.inr 2)] h := by
  refine zrun 88 1 qX6_advance (o := 6) rfl ?_
  show J mX6_advance d 0 0 Q 0 0 180 [u0] [.inl (nI 4), .inr (.inr 2)] h
  exact k

theorem bX6_advance_180 {d : Nat} {Q : Option MV → MH → Prop} {h : MH} {vs1 : Int32} (hr : zRf h) (k : J mX6_advance d 0 0 Q 0 0 193 [some (.inr (.inr 2))] [] (zsI (zsI h 2 3 vs1) 2 2 (((zsI h 2 3 vs1).1 2 2) + (nI 1)))) : J mX6_advance d 0 0 Q 0 0 180 [some (.inr (.inr 2))] [.inl vs1, .inr (.inr 2)] h := by
  refine zrun 89 7 qX6_advance (o := 6) rfl ?_
  show zokO h 2 6 ∧ zokO (zsI h 2 3 vs1) 2 6 ∧ zokO (zsI h 2 3 vs1) 2 6 ∧ J mX6_advance d 0 0 Q 0 0 193 [some (.inr (.inr 2))] [] (zsI (zsI h 2 3 vs1) 2 2 (((zsI h 2 3 vs1).1 2 2) + (nI 1)))
  exact ⟨(zo hr (by decide) rfl), (zo hr (by decide) rfl), (zo hr (by decide) rfl), k⟩

theorem bX6_advance_193 {d : Nat} {Q : Option MV → MH → Prop} {h : MH} {u0 : Option MV} (k : Q none h) : J mX6_advance d 0 0 Q 0 0 193 [u0] [] h := by
  exact J_vret (zat qX6_advance 96 (by rfl)) rfl (Nat.le_refl 0) (Nat.le_refl 0) k

theorem bX6_advanceDigits_0 {d : Nat} {Q : Option MV → MH → Prop} {h : MH} (hr : zRf h) (k : J mX6_advanceDigits d 0 0 Q 0 0 5 [some (.inr (.inr 2))] [] (zsI h 2 5 (nI 0))) : J mX6_advanceDigits d 0 0 Q 0 0 0 [some (.inr (.inr 2))] [] h := by
  refine zrun 0 3 qX6_advanceDigits (o := 6) rfl ?_
  show zokO h 2 6 ∧ J mX6_advanceDigits d 0 0 Q 0 0 5 [some (.inr (.inr 2))] [] (zsI h 2 5 (nI 0))
  exact ⟨(zo hr (by decide) rfl), k⟩

theorem bX6_advanceDigits_5 {d : Nat} {Q : Option MV → MH → Prop} {h : MH} (hr : zRf h) (k1 : (h.1 2 1) ≤ (h.1 2 2) → J mX6_advanceDigits d 0 0 Q 0 0 81 [some (.inr (.inr 2))] [] h) (k2 : ¬ (h.1 2 1) ≤ (h.1 2 2) → J mX6_advanceDigits d 0 0 Q 0 0 16 [some (.inr (.inr 2))] [] h) : J mX6_advanceDigits d 0 0 Q 0 0 5 [some (.inr (.inr 2))] [] h := by
  refine zrun 3 5 qX6_advanceDigits (o := 6) rfl ?_
  show zokO h 2 6 ∧ zokO h 2 6 ∧ (((h.1 2 1) ≤ (h.1 2 2) → J mX6_advanceDigits d 0 0 Q 0 0 81 [some (.inr (.inr 2))] [] h) ∧ (¬ (h.1 2 1) ≤ (h.1 2 2) → J mX6_advanceDigits d 0 0 Q 0 0 16 [some (.inr (.inr 2))] [] h))
  exact ⟨(zo hr (by decide) rfl), (zo hr (by decide) rfl), k1, k2⟩

theorem bX6_advanceDigits_16 {d d' : Nat} {Q : Option MV → MH → Prop} {h : MH} (hr : zRf h) (g0 : vp_in (h.1 2 2) 400) (hd : d' + 1 ≤ d) (k : Con mX6_isDigit d' 0 0 [.inl (h.1 3 (h.1 2 2).toNatClampNeg)] h (zri fun (x : Int32) h' => J mX6_advanceDigits d 0 0 Q 0 0 28 [some (.inr (.inr 2))] [.inl x] h')) : J mX6_advanceDigits d 0 0 Q 0 0 16 [some (.inr (.inr 2))] [] h := by
  refine zrun 8 5 qX6_advanceDigits (o := 6) rfl ?_
  show zokO h 2 6 ∧ zokO h 2 6 ∧ zokA h (h.2.2.1 2 0) 20 (h.1 2 2) ∧ J mX6_advanceDigits d 0 0 Q 0 0 25 [some (.inr (.inr 2))] [.inl (h.1 (h.2.2.1 2 0) (h.1 2 2).toNatClampNeg)] h
  rw [(show h.2.2.1 2 0 = 3 from (hr.at (by decide) (by decide) (by rfl)))]
  exact ⟨(zo hr (by decide) rfl), (zo hr (by decide) rfl), (zia hr (by decide) (by rfl) g0), zcSi (as := [.inl (h.1 3 (h.1 2 2).toNatClampNeg)]) (zat qX6_advanceDigits 13 (by rfl)) l6_154 rfl hd rfl (Nat.le_of_ble_eq_true rfl) zle0 k⟩

theorem bX6_advanceDigits_28 {d : Nat} {Q : Option MV → MH → Prop} {h : MH} {u0 : Option MV} {vs0 : Int32} (k1 : vs0 = 0 → J mX6_advanceDigits d 0 0 Q 0 0 81 [u0] [] h) (k2 : ¬ vs0 = 0 → J mX6_advanceDigits d 0 0 Q 0 0 31 [u0] [] h) : J mX6_advanceDigits d 0 0 Q 0 0 28 [u0] [.inl vs0] h := by
  refine zrun 14 1 qX6_advanceDigits (o := 6) rfl ?_
  show ((vs0 = 0 → J mX6_advanceDigits d 0 0 Q 0 0 81 [u0] [] h) ∧ (¬ vs0 = 0 → J mX6_advanceDigits d 0 0 Q 0 0 31 [u0] [] h))
  exact ⟨k1, k2⟩

theorem bX6_advanceDigits_31 {d : Nat} {Q : Option MV → MH → Prop} {h : MH} (hr : zRf h) (k1 : (nI 3) ≤ ((h.1 2 2) - (h.1 2 4)) → J mX6_advanceDigits d 0 0 Q 0 0 68 [some (.inr (.inr 2))] [] h) (k2 : ¬ (nI 3) ≤ ((h.1 2 2) - (h.1 2 4)) → J mX6_advanceDigits d 0 0 Q 0 0 44 [some (.inr (.inr 2))] [] h) : J mX6_advanceDigits d 0 0 Q 0 0 31 [some (.inr (.inr 2))] [] h := by
  refine zrun 15 7 qX6_advanceDigits (o := 6) rfl ?_
  show zokO h 2 6 ∧ zokO h 2 6 ∧ (((nI 3) ≤ ((h.1 2 2) - (h.1 2 4)) → J mX6_advanceDigits d 0 0 Q 0 0 68 [some (.inr (.inr 2))] [] h) ∧ (¬ (nI 3) ≤ ((h.1 2 2) - (h.1 2 4)) → J mX6_advanceDigits d 0 0 Q 0 0 44 [some (.inr (.inr 2))] [] h))
  exact ⟨(zo hr (by decide) rfl), (zo hr (by decide) rfl), k1, k2⟩

theorem bX6_advanceDigits_44 {d : Nat} {Q : Option MV → MH → Prop} {h : MH} (hr : zRf h) (g0 : vp_in (h.1 2 2) 400) (k : J mX6_advanceDigits d 0 0 Q 0 0 68 [some (.inr (.inr 2))] [] (zsI h 2 5 ((((h.1 2 5) * (nI 10)) + (h.1 3 (h.1 2 2).toNatClampNeg)) - (nI 48)))) : J mX6_advanceDigits d 0 0 Q 0 0 44 [some (.inr (.inr 2))] [] h := by
  refine zrun 22 14 qX6_advanceDigits (o := 6) rfl ?_
  show zokO h 2 6 ∧ zokO h 2 6 ∧ zokO h 2 6 ∧ zokA h (h.2.2.1 2 0) 20 (h.1 2 2) ∧ zokO h 2 6 ∧ J mX6_advanceDigits d 0 0 Q 0 0 68 [some (.inr (.inr 2))] [] (zsI h 2 5 ((((h.1 2 5) * (nI 10)) + (h.1 (h.2.2.1 2 0) (h.1 2 2).toNatClampNeg)) - (nI 48)))
  rw [(show h.2.2.1 2 0 = 3 from (hr.at (by decide) (by decide) (by rfl)))]
  exact ⟨(zo hr (by decide) rfl), (zo hr (by decide) rfl), (zo hr (by decide) rfl), (zia hr (by decide) (by rfl) g0), (zo hr (by decide) rfl), k⟩

theorem bX6_advanceDigits_68 {d : Nat} {Q : Option MV → MH → Prop} {h : MH} (hr : zRf h) (k : J mX6_advanceDigits d 0 0 Q 0 0 5 [some (.inr (.inr 2))] [] (zsI h 2 2 ((h.1 2 2) + (nI 1)))) : J mX6_advanceDigits d 0 0 Q 0 0 68 [some (.inr (.inr 2))] [] h := by
  refine zrun 36 7 qX6_advanceDigits (o := 6) rfl ?_
  show zokO h 2 6 ∧ zokO h 2 6 ∧ J mX6_advanceDigits d 0 0 Q 0 0 5 [some (.inr (.inr 2))] [] (zsI h 2 2 ((h.1 2 2) + (nI 1)))
  exact ⟨(zo hr (by decide) rfl), (zo hr (by decide) rfl), k⟩

theorem bX6_advanceDigits_81 {d : Nat} {Q : Option MV → MH → Prop} {h : MH} (hr : zRf h) (k1 : ((h.1 2 2) - (h.1 2 4)) ≤ (nI 3) → J mX6_advanceDigits d 0 0 Q 0 0 99 [some (.inr (.inr 2))] [.inr (.inr 2)] h) (k2 : ¬ ((h.1 2 2) - (h.1 2 4)) ≤ (nI 3) → J mX6_advanceDigits d 0 0 Q 0 0 95 [some (.inr (.inr 2))] [.inr (.inr 2)] h) : J mX6_advanceDigits d 0 0 Q 0 0 81 [some (.inr (.inr 2))] [] h := by
  refine zrun 43 8 qX6_advanceDigits (o := 6) rfl ?_
  show zokO h 2 6 ∧ zokO h 2 6 ∧ ((((h.1 2 2) - (h.1 2 4)) ≤ (nI 3) → J mX6_advanceDigits d 0 0 Q 0 0 99 [some (.inr (.inr 2))] [.inr (.inr 2)] h) ∧ (¬ ((h.1 2 2) - (h.1 2 4)) ≤ (nI 3) → J mX6_advanceDigits d 0 0 Q 0 0 95 [some (.inr (.inr 2))] [.inr (.inr 2)] h))
  exact ⟨(zo hr (by decide) rfl), (zo hr (by decide) rfl), k1, k2⟩

theorem bX6_advanceDigits_95 {d : Nat} {Q : Option MV → MH → Prop} {h : MH} {u0 : Option MV} (k : J mX6_advanceDigits d 0 0 Q 0 0 100 [u0] [.inl (nI 4), .inr (.inr 2)] h) : J mX6_advanceDigits d 0 0 Q 0 0 95 [u0] [.inr (.inr 2)] h := by
  refine zrun 51 2 qX6_advanceDigits (o := 6) rfl ?_
  show J mX6_advanceDigits d 0 0 Q 0 0 100 [u0] [.inl (nI 4), .inr (.inr 2)] h
  exact k

theorem bX6_advanceDigits_99 {d : Nat} {Q : Option MV → MH → Prop} {h : MH} {u0 : Option MV} (k : J mX6_advanceDigits d 0 0 Q 0 0 100 [u0] [.inl (nI 2), .inr (.inr 2)] h) : J mX6_advanceDigits d 0 0 Q 0 0 99 [u0] [.inr (.inr 2)] h := by
  refine zrun 53 1 qX6_advanceDigits (o := 6) rfl ?_
  show J mX6_advanceDigits d 0 0 Q 0 0 100 [u0] [.inl (nI 2), .inr (.inr 2)] h
  exact k

theorem bX6_advanceDigits_100 {d : Nat} {Q : Option MV → MH → Prop} {h : MH} {u0 : Option MV} {vs1 : Int32} (hr : zRf h) (k : Q none (zsI h 2 3 vs1)) : J mX6_advanceDigits d 0 0 Q 0 0 100 [u0] [.inl vs1, .inr (.inr 2)] h := by
  refine zrun 54 1 qX6_advanceDigits (o := 6) rfl ?_
  show zokO h 2 6 ∧ J mX6_advanceDigits d 0 0 Q 0 0 103 [u0] [] (zsI h 2 3 vs1)
  exact ⟨(zo hr (by decide) rfl), J_vret (zat qX6_advanceDigits 55 (by rfl)) rfl (Nat.le_refl 0) (Nat.le_refl 0) k⟩

theorem bX6_isLetter_0 {d : Nat} {Q : Option MV → MH → Prop} {h : MH} {v0 : Int32} (k1 : v0 < (nI 97) → J mX6_isLetter d 0 0 Q 0 0 16 [some (.inl v0)] [] h) (k2 : ¬ v0 < (nI 97) → J mX6_isLetter d 0 0 Q 0 0 6 [some (.inl v0)] [] h) : J mX6_isLetter d 0 0 Q 0 0 0 [some (.inl v0)] [] h := by
  refine zrun 0 3 qX6_isLetter (o := 6) rfl ?_
  show ((v0 < (nI 97) → J mX6_isLetter d 0 0 Q 0 0 16 [some (.inl v0)] [] h) ∧ (¬ v0 < (nI 97) → J mX6_isLetter d 0 0 Q 0 0 6 [some (.inl v0)] [] h))
  exact ⟨k1, k2⟩

theorem bX6_isLetter_6 {d : Nat} {Q : Option MV → MH → Prop} {h : MH} {v0 : Int32} (k1 : (nI 122) < v0 → J mX6_isLetter d 0 0 Q 0 0 16 [some (.inl v0)] [] h) (k2 : ¬ (nI 122) < v0 → J mX6_isLetter d 0 0 Q 0 0 12 [some (.inl v0)] [] h) : J mX6_isLetter d 0 0 Q 0 0 6 [some (.inl v0)] [] h := by
  refine zrun 3 3 qX6_isLetter (o := 6) rfl ?_
  show (((nI 122) < v0 → J mX6_isLetter d 0 0 Q 0 0 16 [some (.inl v0)] [] h) ∧ (¬ (nI 122) < v0 → J mX6_isLetter d 0 0 Q 0 0 12 [some (.inl v0)] [] h))
  exact ⟨k1, k2⟩

theorem bX6_isLetter_12 {d : Nat} {Q : Option MV → MH → Prop} {h : MH} {u0 : Option MV} (k : J mX6_isLetter d 0 0 Q 0 0 17 [u0] [.inl (nI 1)] h) : J mX6_isLetter d 0 0 Q 0 0 12 [u0] [] h := by
  refine zrun 6 2 qX6_isLetter (o := 6) rfl ?_
  show J mX6_isLetter d 0 0 Q 0 0 17 [u0] [.inl (nI 1)] h
  exact k

theorem bX6_isLetter_16 {d : Nat} {Q : Option MV → MH → Prop} {h : MH} {u0 : Option MV} (k : J mX6_isLetter d 0 0 Q 0 0 17 [u0] [.inl (nI 0)] h) : J mX6_isLetter d 0 0 Q 0 0 16 [u0] [] h := by
  refine zrun 8 1 qX6_isLetter (o := 6) rfl ?_
  show J mX6_isLetter d 0 0 Q 0 0 17 [u0] [.inl (nI 0)] h
  exact k

theorem bX6_isLetter_17 {d : Nat} {Q : Option MV → MH → Prop} {h : MH} {u0 : Option MV} {vs0 : Int32} (gn : vs0 = 0 ∨ vs0 = 1) (k : Q (some (.inl vs0)) h) : J mX6_isLetter d 0 0 Q 0 0 17 [u0] [.inl vs0] h := by
  exact J_iret (ty := .boolean) (zat qX6_isLetter 9 (by rfl)) rfl (znz gn) (Nat.le_refl 0) (Nat.le_refl 0) k

theorem bX6_isDigit_0 {d : Nat} {Q : Option MV → MH → Prop} {h : MH} {v0 : Int32} (k1 : v0 < (nI 48) → J mX6_isDigit d 0 0 Q 0 0 16 [some (.inl v0)] [] h) (k2 : ¬ v0 < (nI 48) → J mX6_isDigit d 0 0 Q 0 0 6 [some (.inl v0)] [] h) : J mX6_isDigit d 0 0 Q 0 0 0 [some (.inl v0)] [] h := by
  refine zrun 0 3 qX6_isDigit (o := 6) rfl ?_
  show ((v0 < (nI 48) → J mX6_isDigit d 0 0 Q 0 0 16 [some (.inl v0)] [] h) ∧ (¬ v0 < (nI 48) → J mX6_isDigit d 0 0 Q 0 0 6 [some (.inl v0)] [] h))
  exact ⟨k1, k2⟩

theorem bX6_isDigit_6 {d : Nat} {Q : Option MV → MH → Prop} {h : MH} {v0 : Int32} (k1 : (nI 57) < v0 → J mX6_isDigit d 0 0 Q 0 0 16 [some (.inl v0)] [] h) (k2 : ¬ (nI 57) < v0 → J mX6_isDigit d 0 0 Q 0 0 12 [some (.inl v0)] [] h) : J mX6_isDigit d 0 0 Q 0 0 6 [some (.inl v0)] [] h := by
  refine zrun 3 3 qX6_isDigit (o := 6) rfl ?_
  show (((nI 57) < v0 → J mX6_isDigit d 0 0 Q 0 0 16 [some (.inl v0)] [] h) ∧ (¬ (nI 57) < v0 → J mX6_isDigit d 0 0 Q 0 0 12 [some (.inl v0)] [] h))
  exact ⟨k1, k2⟩

theorem bX6_isDigit_12 {d : Nat} {Q : Option MV → MH → Prop} {h : MH} {u0 : Option MV} (k : J mX6_isDigit d 0 0 Q 0 0 17 [u0] [.inl (nI 1)] h) : J mX6_isDigit d 0 0 Q 0 0 12 [u0] [] h := by
  refine zrun 6 2 qX6_isDigit (o := 6) rfl ?_
  show J mX6_isDigit d 0 0 Q 0 0 17 [u0] [.inl (nI 1)] h
  exact k

theorem bX6_isDigit_16 {d : Nat} {Q : Option MV → MH → Prop} {h : MH} {u0 : Option MV} (k : J mX6_isDigit d 0 0 Q 0 0 17 [u0] [.inl (nI 0)] h) : J mX6_isDigit d 0 0 Q 0 0 16 [u0] [] h := by
  refine zrun 8 1 qX6_isDigit (o := 6) rfl ?_
  show J mX6_isDigit d 0 0 Q 0 0 17 [u0] [.inl (nI 0)] h
  exact k

theorem bX6_isDigit_17 {d : Nat} {Q : Option MV → MH → Prop} {h : MH} {u0 : Option MV} {vs0 : Int32} (gn : vs0 = 0 ∨ vs0 = 1) (k : Q (some (.inl vs0)) h) : J mX6_isDigit d 0 0 Q 0 0 17 [u0] [.inl vs0] h := by
  exact J_iret (ty := .boolean) (zat qX6_isDigit 9 (by rfl)) rfl (znz gn) (Nat.le_refl 0) (Nat.le_refl 0) k

