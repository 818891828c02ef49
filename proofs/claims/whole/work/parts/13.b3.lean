theorem bX3_init_4 {d mc ms cs ss : Nat} {Q : Option MV → MH → Prop} {h : MH} {v0 : Nat} (hc : cs ≤ mc ∧ ss ≤ ms) (k : J mX3_init d mc ms Q cs ss 8 [some (.inr (.inr v0))] [.inl (nI 361), .inr (.inr v0)] h) : J mX3_init d mc ms Q cs ss 4 [some (.inr (.inr v0))] [] h := by
  refine zrun 2 2 qX3_init (o := 3) rfl ?_
  show J mX3_init d mc ms Q cs ss 8 [some (.inr (.inr v0))] [.inl (nI 361), .inr (.inr v0)] h
  exact k

theorem bX3_clear_0 {d : Nat} {Q : Option MV → MH → Prop} {h : MH} {u1 : Option MV} {v0 : Nat} (k : J mX3_clear d 0 0 Q 0 0 2 [some (.inr (.inr v0)), some (.inl (nI 0))] [] h) : J mX3_clear d 0 0 Q 0 0 0 [some (.inr (.inr v0)), u1] [] h := by
  refine zrun 0 2 qX3_clear (o := 3) rfl ?_
  show J mX3_clear d 0 0 Q 0 0 2 [some (.inr (.inr v0)), some (.inl (nI 0))] [] h
  exact k

theorem bX3_clear_2 {d : Nat} {Q : Option MV → MH → Prop} {h : MH} {u0 : Option MV} {v1 : Int32} (k1 : (nI 361) ≤ v1 → J mX3_clear d 0 0 Q 0 0 22 [u0, some (.inl v1)] [] h) (k2 : ¬ (nI 361) ≤ v1 → J mX3_clear d 0 0 Q 0 0 9 [u0, some (.inl v1)] [] h) : J mX3_clear d 0 0 Q 0 0 2 [u0, some (.inl v1)] [] h := by
  refine zrun 2 3 qX3_clear (o := 3) rfl ?_
  show (((nI 361) ≤ v1 → J mX3_clear d 0 0 Q 0 0 22 [u0, some (.inl v1)] [] h) ∧ (¬ (nI 361) ≤ v1 → J mX3_clear d 0 0 Q 0 0 9 [u0, some (.inl v1)] [] h))
  exact ⟨k1, k2⟩

theorem bX3_clear_9 {d : Nat} {Q : Option MV → MH → Prop} {h : MH} {v1 : Int32} {v0 : Nat} (hr : zRf h) (g0 : zokO h v0 3) (g1 : vp_in v1 361) (k : J mX3_clear d 0 0 Q 0 0 2 [some (.inr (.inr v0)), some (.inl (v1 + nI 1))] [] (zsL h (v0 + 1) v1.toNatClampNeg (lN 0))) : J mX3_clear d 0 0 Q 0 0 9 [some (.inr (.inr v0)), some (.inl v1)] [] h := by
  refine zrun 5 7 qX3_clear (o := 3) rfl ?_
  show zokO h v0 3 ∧ zokA h (h.2.2.1 v0 1) 21 v1 ∧ J mX3_clear d 0 0 Q 0 0 2 [some (.inr (.inr v0)), some (.inl (v1 + nI 1))] [] (zsL h (h.2.2.1 v0 1) v1.toNatClampNeg (lN 0))
  rw [(show h.2.2.1 v0 1 = (v0 + 1) from (hr.f3 g0))]
  exact ⟨g0, (zca hr g0 (by decide) (by decide) g1), k⟩

theorem bX3_clear_22 {d : Nat} {Q : Option MV → MH → Prop} {h : MH} {u0 u1 : Option MV} (k : Q none h) : J mX3_clear d 0 0 Q 0 0 22 [u0, u1] [] h := by
  exact J_vret (zat qX3_clear 12 (by rfl)) rfl (Nat.le_refl 0) (Nat.le_refl 0) k

theorem bX3_add_0 {d : Nat} {Q : Option MV → MH → Prop} {h : MH} {u0 u2 : Option MV} {v1 : Int32} (k1 : (v1 / (nI 16)) < 0 → J mX3_add d 0 0 Q 0 0 34 [u0, some (.inl v1), some (.inl (v1 / (nI 16)))] [] h) (k2 : ¬ (v1 / (nI 16)) < 0 → J mX3_add d 0 0 Q 0 0 9 [u0, some (.inl v1), some (.inl (v1 / (nI 16)))] [] h) : J mX3_add d 0 0 Q 0 0 0 [u0, some (.inl v1), u2] [] h := by
  refine zrun 0 6 qX3_add (o := 3) rfl ?_
  show ¬ (nI 16) = 0 ∧ (((v1 / (nI 16)) < 0 → J mX3_add d 0 0 Q 0 0 34 [u0, some (.inl v1), some (.inl (v1 / (nI 16)))] [] h) ∧ (¬ (v1 / (nI 16)) < 0 → J mX3_add d 0 0 Q 0 0 9 [u0, some (.inl v1), some (.inl (v1 / (nI 16)))] [] h))
  exact ⟨(by decide), k1, k2⟩

theorem bX3_add_9 {d : Nat} {Q : Option MV → MH → Prop} {h : MH} {u0 u1 : Option MV} {v2 : Int32} (k1 : (nI 23104) ≤ v2 → J mX3_add d 0 0 Q 0 0 34 [u0, u1, some (.inl v2)] [] h) (k2 : ¬ (nI 23104) ≤ v2 → J mX3_add d 0 0 Q 0 0 16 [u0, u1, some (.inl v2)] [] h) : J mX3_add d 0 0 Q 0 0 9 [u0, u1, some (.inl v2)] [] h := by
  refine zrun 6 3 qX3_add (o := 3) rfl ?_
  show (((nI 23104) ≤ v2 → J mX3_add d 0 0 Q 0 0 34 [u0, u1, some (.inl v2)] [] h) ∧ (¬ (nI 23104) ≤ v2 → J mX3_add d 0 0 Q 0 0 16 [u0, u1, some (.inl v2)] [] h))
  exact ⟨k1, k2⟩

theorem bX3_add_16 {d : Nat} {Q : Option MV → MH → Prop} {h : MH} {u1 : Option MV} {v2 : Int32} {v0 : Nat} (hr : zRf h) (g0 : zokO h v0 3) (g1 : vp_in (v2 >>> ((nI 6) &&& 31)) 361) (k : J mX3_add d 0 0 Q 0 0 34 [some (.inr (.inr v0)), u1, some (.inl v2)] [] (zsL h (v0 + 1) (v2 >>> ((nI 6) &&& 31)).toNatClampNeg ((h.2.1 (v0 + 1) (v2 >>> ((nI 6) &&& 31)).toNatClampNeg) ||| ((lN 1) <<< ((v2 &&& (nI 63)).toInt64 &&& 63))))) : J mX3_add d 0 0 Q 0 0 16 [some (.inr (.inr v0)), u1, some (.inl v2)] [] h := by
  refine zrun 9 14 qX3_add (o := 3) rfl ?_
  show zokO h v0 3 ∧ zokA h (h.2.2.1 v0 1) 21 (v2 >>> ((nI 6) &&& 31)) ∧ zokA h (h.2.2.1 v0 1) 21 (v2 >>> ((nI 6) &&& 31)) ∧ J mX3_add d 0 0 Q 0 0 34 [some (.inr (.inr v0)), u1, some (.inl v2)] [] (zsL h (h.2.2.1 v0 1) (v2 >>> ((nI 6) &&& 31)).toNatClampNeg ((h.2.1 (h.2.2.1 v0 1) (v2 >>> ((nI 6) &&& 31)).toNatClampNeg) ||| ((lN 1) <<< ((v2 &&& (nI 63)).toInt64 &&& 63))))
  rw [(show h.2.2.1 v0 1 = (v0 + 1) from (hr.f3 g0))]
  exact ⟨g0, (zca hr g0 (by decide) (by decide) g1), (zca hr g0 (by decide) (by decide) g1), k⟩

theorem bX3_add_34 {d : Nat} {Q : Option MV → MH → Prop} {h : MH} {u0 u1 u2 : Option MV} (k : Q none h) : J mX3_add d 0 0 Q 0 0 34 [u0, u1, u2] [] h := by
  exact J_vret (zat qX3_add 23 (by rfl)) rfl (Nat.le_refl 0) (Nat.le_refl 0) k

theorem bX3_has_0 {d : Nat} {Q : Option MV → MH → Prop} {h : MH} {u0 : Option MV} {v1 : Int32} (k1 : v1 < 0 → J mX3_has d 0 0 Q 0 0 26 [u0, some (.inl v1)] [] h) (k2 : ¬ v1 < 0 → J mX3_has d 0 0 Q 0 0 4 [u0, some (.inl v1)] [] h) : J mX3_has d 0 0 Q 0 0 0 [u0, some (.inl v1)] [] h := by
  refine zrun 0 2 qX3_has (o := 3) rfl ?_
  show ((v1 < 0 → J mX3_has d 0 0 Q 0 0 26 [u0, some (.inl v1)] [] h) ∧ (¬ v1 < 0 → J mX3_has d 0 0 Q 0 0 4 [u0, some (.inl v1)] [] h))
  exact ⟨k1, k2⟩

theorem bX3_has_4 {d : Nat} {Q : Option MV → MH → Prop} {h : MH} {u0 : Option MV} {v1 : Int32} (k1 : ¬ (v1 - v1 / (nI 16) * (nI 16)) = 0 → J mX3_has d 0 0 Q 0 0 26 [u0, some (.inl v1)] [] h) (k2 : (v1 - v1 / (nI 16) * (nI 16)) = 0 → J mX3_has d 0 0 Q 0 0 11 [u0, some (.inl v1)] [] h) : J mX3_has d 0 0 Q 0 0 4 [u0, some (.inl v1)] [] h := by
  refine zrun 2 4 qX3_has (o := 3) rfl ?_
  show ¬ (nI 16) = 0 ∧ ((¬ (v1 - v1 / (nI 16) * (nI 16)) = 0 → J mX3_has d 0 0 Q 0 0 26 [u0, some (.inl v1)] [] h) ∧ ((v1 - v1 / (nI 16) * (nI 16)) = 0 → J mX3_has d 0 0 Q 0 0 11 [u0, some (.inl v1)] [] h))
  exact ⟨(by decide), k1, k2⟩

theorem bX3_has_11 {d d' : Nat} {Q : Option MV → MH → Prop} {h : MH} {v1 : Int32} {v0 : Nat} (gr : zokO h v0 3) (hd : d' + 1 ≤ d) (k : Con mX3_hasMark d' 0 0 [.inr (.inr v0), .inl (v1 / (nI 16))] h (zri fun (x : Int32) h' => J mX3_has d 0 0 Q 0 0 19 [some (.inr (.inr v0)), some (.inl v1)] [.inl x] h')) : J mX3_has d 0 0 Q 0 0 11 [some (.inr (.inr v0)), some (.inl v1)] [] h := by
  refine zrun 6 4 qX3_has (o := 3) rfl ?_
  show ¬ (nI 16) = 0 ∧ J mX3_has d 0 0 Q 0 0 16 [some (.inr (.inr v0)), some (.inl v1)] [.inl (v1 / (nI 16)), .inr (.inr v0)] h
  exact ⟨(by decide), zcVi (as := [.inl (v1 / (nI 16))]) (zat qX3_has 10 (by rfl)) l3_15 rfl hd rfl (Nat.le_of_ble_eq_true rfl) zle0 (ci := 3) (by decide) rfl gr k⟩

theorem bX3_has_19 {d : Nat} {Q : Option MV → MH → Prop} {h : MH} {u0 u1 : Option MV} {vs0 : Int32} (k1 : vs0 = 0 → J mX3_has d 0 0 Q 0 0 26 [u0, u1] [] h) (k2 : ¬ vs0 = 0 → J mX3_has d 0 0 Q 0 0 22 [u0, u1] [] h) : J mX3_has d 0 0 Q 0 0 19 [u0, u1] [.inl vs0] h := by
  refine zrun 11 1 qX3_has (o := 3) rfl ?_
  show ((vs0 = 0 → J mX3_has d 0 0 Q 0 0 26 [u0, u1] [] h) ∧ (¬ vs0 = 0 → J mX3_has d 0 0 Q 0 0 22 [u0, u1] [] h))
  exact ⟨k1, k2⟩

theorem bX3_has_22 {d : Nat} {Q : Option MV → MH → Prop} {h : MH} {u0 u1 : Option MV} (k : J mX3_has d 0 0 Q 0 0 27 [u0, u1] [.inl (nI 1)] h) : J mX3_has d 0 0 Q 0 0 22 [u0, u1] [] h := by
  refine zrun 12 2 qX3_has (o := 3) rfl ?_
  show J mX3_has d 0 0 Q 0 0 27 [u0, u1] [.inl (nI 1)] h
  exact k

theorem bX3_has_26 {d : Nat} {Q : Option MV → MH → Prop} {h : MH} {u0 u1 : Option MV} (k : J mX3_has d 0 0 Q 0 0 27 [u0, u1] [.inl (nI 0)] h) : J mX3_has d 0 0 Q 0 0 26 [u0, u1] [] h := by
  refine zrun 14 1 qX3_has (o := 3) rfl ?_
  show J mX3_has d 0 0 Q 0 0 27 [u0, u1] [.inl (nI 0)] h
  exact k

theorem bX3_has_27 {d : Nat} {Q : Option MV → MH → Prop} {h : MH} {u0 u1 : Option MV} {vs0 : Int32} (gn : vs0 = 0 ∨ vs0 = 1) (k : Q (some (.inl vs0)) h) : J mX3_has d 0 0 Q 0 0 27 [u0, u1] [.inl vs0] h := by
  exact J_iret (ty := .boolean) (zat qX3_has 15 (by rfl)) rfl (znz gn) (Nat.le_refl 0) (Nat.le_refl 0) k

theorem bX3_hasMark_0 {d : Nat} {Q : Option MV → MH → Prop} {h : MH} {u0 : Option MV} {v1 : Int32} (k1 : v1 < 0 → J mX3_hasMark d 0 0 Q 0 0 36 [u0, some (.inl v1)] [] h) (k2 : ¬ v1 < 0 → J mX3_hasMark d 0 0 Q 0 0 4 [u0, some (.inl v1)] [] h) : J mX3_hasMark d 0 0 Q 0 0 0 [u0, some (.inl v1)] [] h := by
  refine zrun 0 2 qX3_hasMark (o := 3) rfl ?_
  show ((v1 < 0 → J mX3_hasMark d 0 0 Q 0 0 36 [u0, some (.inl v1)] [] h) ∧ (¬ v1 < 0 → J mX3_hasMark d 0 0 Q 0 0 4 [u0, some (.inl v1)] [] h))
  exact ⟨k1, k2⟩

theorem bX3_hasMark_4 {d : Nat} {Q : Option MV → MH → Prop} {h : MH} {u0 : Option MV} {v1 : Int32} (k1 : (nI 23104) ≤ v1 → J mX3_hasMark d 0 0 Q 0 0 36 [u0, some (.inl v1)] [] h) (k2 : ¬ (nI 23104) ≤ v1 → J mX3_hasMark d 0 0 Q 0 0 11 [u0, some (.inl v1)] [] h) : J mX3_hasMark d 0 0 Q 0 0 4 [u0, some (.inl v1)] [] h := by
  refine zrun 2 3 qX3_hasMark (o := 3) rfl ?_
  show (((nI 23104) ≤ v1 → J mX3_hasMark d 0 0 Q 0 0 36 [u0, some (.inl v1)] [] h) ∧ (¬ (nI 23104) ≤ v1 → J mX3_hasMark d 0 0 Q 0 0 11 [u0, some (.inl v1)] [] h))
  exact ⟨k1, k2⟩

theorem bX3_hasMark_11 {d : Nat} {Q : Option MV → MH → Prop} {h : MH} {v1 : Int32} {v0 : Nat} (hr : zRf h) (g0 : zokO h v0 3) (g1 : vp_in (v1 >>> ((nI 6) &&& 31)) 361) (k1 : (lg_cmp ((((h.2.1 (v0 + 1) (v1 >>> ((nI 6) &&& 31)).toNatClampNeg).toUInt64 >>> ((v1 &&& (nI 63)).toInt64.toUInt64 &&& Int64.toUInt64 63)).toInt64) &&& (lN 1)) (lN 0)) = 0 → J mX3_hasMark d 0 0 Q 0 0 36 [some (.inr (.inr v0)), some (.inl v1)] [] h) (k2 : ¬ (lg_cmp ((((h.2.1 (v0 + 1) (v1 >>> ((nI 6) &&& 31)).toNatClampNeg).toUInt64 >>> ((v1 &&& (nI 63)).toInt64.toUInt64 &&& Int64.toUInt64 63)).toInt64) &&& (lN 1)) (lN 0)) = 0 → J mX3_hasMark d 0 0 Q 0 0 32 [some (.inr (.inr v0)), some (.inl v1)] [] h) : J mX3_hasMark d 0 0 Q 0 0 11 [some (.inr (.inr v0)), some (.inl v1)] [] h := by
  refine zrun 5 15 qX3_hasMark (o := 3) rfl ?_
  show zokO h v0 3 ∧ zokA h (h.2.2.1 v0 1) 21 (v1 >>> ((nI 6) &&& 31)) ∧ (((lg_cmp ((((h.2.1 (h.2.2.1 v0 1) (v1 >>> ((nI 6) &&& 31)).toNatClampNeg).toUInt64 >>> ((v1 &&& (nI 63)).toInt64.toUInt64 &&& Int64.toUInt64 63)).toInt64) &&& (lN 1)) (lN 0)) = 0 → J mX3_hasMark d 0 0 Q 0 0 36 [some (.inr (.inr v0)), some (.inl v1)] [] h) ∧ (¬ (lg_cmp ((((h.2.1 (h.2.2.1 v0 1) (v1 >>> ((nI 6) &&& 31)).toNatClampNeg).toUInt64 >>> ((v1 &&& (nI 63)).toInt64.toUInt64 &&& Int64.toUInt64 63)).toInt64) &&& (lN 1)) (lN 0)) = 0 → J mX3_hasMark d 0 0 Q 0 0 32 [some (.inr (.inr v0)), some (.inl v1)] [] h))
  rw [(show h.2.2.1 v0 1 = (v0 + 1) from (hr.f3 g0))]
  exact ⟨g0, (zca hr g0 (by decide) (by decide) g1), k1, k2⟩

theorem bX3_hasMark_32 {d : Nat} {Q : Option MV → MH → Prop} {h : MH} {u0 u1 : Option MV} (k : J mX3_hasMark d 0 0 Q 0 0 37 [u0, u1] [.inl (nI 1)] h) : J mX3_hasMark d 0 0 Q 0 0 32 [u0, u1] [] h := by
  refine zrun 20 2 qX3_hasMark (o := 3) rfl ?_
  show J mX3_hasMark d 0 0 Q 0 0 37 [u0, u1] [.inl (nI 1)] h
  exact k

theorem bX3_hasMark_36 {d : Nat} {Q : Option MV → MH → Prop} {h : MH} {u0 u1 : Option MV} (k : J mX3_hasMark d 0 0 Q 0 0 37 [u0, u1] [.inl (nI 0)] h) : J mX3_hasMark d 0 0 Q 0 0 36 [u0, u1] [] h := by
  refine zrun 22 1 qX3_hasMark (o := 3) rfl ?_
  show J mX3_hasMark d 0 0 Q 0 0 37 [u0, u1] [.inl (nI 0)] h
  exact k

theorem bX3_hasMark_37 {d : Nat} {Q : Option MV → MH → Prop} {h : MH} {u0 u1 : Option MV} {vs0 : Int32} (gn : vs0 = 0 ∨ vs0 = 1) (k : Q (some (.inl vs0)) h) : J mX3_hasMark d 0 0 Q 0 0 37 [u0, u1] [.inl vs0] h := by
  exact J_iret (ty := .boolean) (zat qX3_hasMark 23 (by rfl)) rfl (znz gn) (Nat.le_refl 0) (Nat.le_refl 0) k

theorem bX3_size_0 {d : Nat} {Q : Option MV → MH → Prop} {h : MH} {u1 u2 : Option MV} {v0 : Nat} (k : J mX3_size d 0 0 Q 0 0 4 [some (.inr (.inr v0)), some (.inl (nI 0)), some (.inl (nI 0))] [] h) : J mX3_size d 0 0 Q 0 0 0 [some (.inr (.inr v0)), u1, u2] [] h := by
  refine zrun 0 4 qX3_size (o := 3) rfl ?_
  show J mX3_size d 0 0 Q 0 0 4 [some (.inr (.inr v0)), some (.inl (nI 0)), some (.inl (nI 0))] [] h
  exact k

theorem bX3_size_4 {d : Nat} {Q : Option MV → MH → Prop} {h : MH} {u0 u1 : Option MV} {v2 : Int32} (k1 : (nI 361) ≤ v2 → J mX3_size d 0 0 Q 0 0 29 [u0, u1, some (.inl v2)] [] h) (k2 : ¬ (nI 361) ≤ v2 → J mX3_size d 0 0 Q 0 0 11 [u0, u1, some (.inl v2)] [] h) : J mX3_size d 0 0 Q 0 0 4 [u0, u1, some (.inl v2)] [] h := by
  refine zrun 4 3 qX3_size (o := 3) rfl ?_
  show (((nI 361) ≤ v2 → J mX3_size d 0 0 Q 0 0 29 [u0, u1, some (.inl v2)] [] h) ∧ (¬ (nI 361) ≤ v2 → J mX3_size d 0 0 Q 0 0 11 [u0, u1, some (.inl v2)] [] h))
  exact ⟨k1, k2⟩

theorem bX3_size_11 {d d' : Nat} {Q : Option MV → MH → Prop} {h : MH} {v1 v2 : Int32} {v0 : Nat} (hr : zRf h) (g0 : zokO h v0 3) (g1 : vp_in v2 361) (hd : d' + 1 ≤ d) (k : Con mJ13_bitCount_95d88 d' 0 0 [.inr (.inl (h.2.1 (v0 + 1) v2.toNatClampNeg))] h (zri fun (x : Int32) h' => J mX3_size d 0 0 Q 0 0 21 [some (.inr (.inr v0)), some (.inl v1), some (.inl v2)] [.inl x, .inl v1] h')) : J mX3_size d 0 0 Q 0 0 11 [some (.inr (.inr v0)), some (.inl v1), some (.inl v2)] [] h := by
  refine zrun 7 5 qX3_size (o := 3) rfl ?_
  show zokO h v0 3 ∧ zokA h (h.2.2.1 v0 1) 21 v2 ∧ J mX3_size d 0 0 Q 0 0 18 [some (.inr (.inr v0)), some (.inl v1), some (.inl v2)] [.inr (.inl (h.2.1 (h.2.2.1 v0 1) v2.toNatClampNeg)), .inl v1] h
  rw [(show h.2.2.1 v0 1 = (v0 + 1) from (hr.f3 g0))]
  exact ⟨g0, (zca hr g0 (by decide) (by decide) g1), zcSi (as := [.inr (.inl (h.2.1 (v0 + 1) v2.toNatClampNeg))]) (zat qX3_size 12 (by rfl)) l3_19 rfl hd rfl (Nat.le_of_ble_eq_true rfl) zle0 k⟩

theorem bX3_size_21 {d : Nat} {Q : Option MV → MH → Prop} {h : MH} {u1 : Option MV} {vs0 vs1 v2 : Int32} {v0 : Nat} (k : J mX3_size d 0 0 Q 0 0 4 [some (.inr (.inr v0)), some (.inl (vs0 + vs1)), some (.inl (v2 + nI 1))] [] h) : J mX3_size d 0 0 Q 0 0 21 [some (.inr (.inr v0)), u1, some (.inl v2)] [.inl vs1, .inl vs0] h := by
  refine zrun 13 4 qX3_size (o := 3) rfl ?_
  show J mX3_size d 0 0 Q 0 0 4 [some (.inr (.inr v0)), some (.inl (vs0 + vs1)), some (.inl (v2 + nI 1))] [] h
  exact k

theorem bX3_size_29 {d : Nat} {Q : Option MV → MH → Prop} {h : MH} {u0 u2 : Option MV} {v1 : Int32} (k : Q (some (.inl v1)) h) : J mX3_size d 0 0 Q 0 0 29 [u0, some (.inl v1), u2] [] h := by
  refine zrun 17 1 qX3_size (o := 3) rfl ?_
  show J mX3_size d 0 0 Q 0 0 30 [u0, some (.inl v1), u2] [.inl v1] h
  exact J_iret (ty := .int) (zat qX3_size 18 (by rfl)) rfl rfl (Nat.le_refl 0) (Nat.le_refl 0) k

theorem bX3_nth_0 {d : Nat} {Q : Option MV → MH → Prop} {h : MH} {u0 u2 u3 u4 : Option MV} {v1 : Int32} (k1 : 0 ≤ v1 → J mX3_nth d 0 0 Q 0 0 6 [u0, some (.inl v1), u2, u3, u4] [] h) (k2 : ¬ 0 ≤ v1 → J mX3_nth d 0 0 Q 0 0 4 [u0, some (.inl v1), u2, u3, u4] [] h) : J mX3_nth d 0 0 Q 0 0 0 [u0, some (.inl v1), u2, u3, u4] [] h := by
  refine zrun 0 2 qX3_nth (o := 3) rfl ?_
  show ((0 ≤ v1 → J mX3_nth d 0 0 Q 0 0 6 [u0, some (.inl v1), u2, u3, u4] [] h) ∧ (¬ 0 ≤ v1 → J mX3_nth d 0 0 Q 0 0 4 [u0, some (.inl v1), u2, u3, u4] [] h))
  exact ⟨k1, k2⟩

theorem bX3_nth_4 {d : Nat} {Q : Option MV → MH → Prop} {h : MH} {u0 u1 u2 u3 u4 : Option MV} (k : Q (some (.inl (-(nI 1)))) h) : J mX3_nth d 0 0 Q 0 0 4 [u0, u1, u2, u3, u4] [] h := by
  refine zrun 2 1 qX3_nth (o := 3) rfl ?_
  show J mX3_nth d 0 0 Q 0 0 5 [u0, u1, u2, u3, u4] [.inl (-(nI 1))] h
  exact J_iret (ty := .int) (zat qX3_nth 3 (by rfl)) rfl rfl (Nat.le_refl 0) (Nat.le_refl 0) k

theorem bX3_nth_6 {d : Nat} {Q : Option MV → MH → Prop} {h : MH} {u0 u2 u3 u4 : Option MV} {v1 : Int32} (k : J mX3_nth d 0 0 Q 0 0 10 [u0, some (.inl v1), some (.inl v1), some (.inl (nI 0)), u4] [] h) : J mX3_nth d 0 0 Q 0 0 6 [u0, some (.inl v1), u2, u3, u4] [] h := by
  refine zrun 4 4 qX3_nth (o := 3) rfl ?_
  show J mX3_nth d 0 0 Q 0 0 10 [u0, some (.inl v1), some (.inl v1), some (.inl (nI 0)), u4] [] h
  exact k

theorem bX3_nth_10 {d : Nat} {Q : Option MV → MH → Prop} {h : MH} {u0 u1 u2 u4 : Option MV} {v3 : Int32} (k1 : (nI 361) ≤ v3 → J mX3_nth d 0 0 Q 0 0 52 [u0, u1, u2, some (.inl v3), u4] [] h) (k2 : ¬ (nI 361) ≤ v3 → J mX3_nth d 0 0 Q 0 0 17 [u0, u1, u2, some (.inl v3), u4] [] h) : J mX3_nth d 0 0 Q 0 0 10 [u0, u1, u2, some (.inl v3), u4] [] h := by
  refine zrun 8 3 qX3_nth (o := 3) rfl ?_
  show (((nI 361) ≤ v3 → J mX3_nth d 0 0 Q 0 0 52 [u0, u1, u2, some (.inl v3), u4] [] h) ∧ (¬ (nI 361) ≤ v3 → J mX3_nth d 0 0 Q 0 0 17 [u0, u1, u2, some (.inl v3), u4] [] h))
  exact ⟨k1, k2⟩

theorem bX3_nth_17 {d d' : Nat} {Q : Option MV → MH → Prop} {h : MH} {u1 u2 u4 : Option MV} {v3 : Int32} {v0 : Nat} (hr : zRf h) (g0 : zokO h v0 3) (g1 : vp_in v3 361) (hd : d' + 1 ≤ d) (k : Con mJ13_bitCount_95d88 d' 0 0 [.inr (.inl (h.2.1 (v0 + 1) v3.toNatClampNeg))] h (zri fun (x : Int32) h' => J mX3_nth d 0 0 Q 0 0 26 [some (.inr (.inr v0)), u1, u2, some (.inl v3), u4] [.inl x] h')) : J mX3_nth d 0 0 Q 0 0 17 [some (.inr (.inr v0)), u1, u2, some (.inl v3), u4] [] h := by
  refine zrun 11 4 qX3_nth (o := 3) rfl ?_
  show zokO h v0 3 ∧ zokA h (h.2.2.1 v0 1) 21 v3 ∧ J mX3_nth d 0 0 Q 0 0 23 [some (.inr (.inr v0)), u1, u2, some (.inl v3), u4] [.inr (.inl (h.2.1 (h.2.2.1 v0 1) v3.toNatClampNeg))] h
  rw [(show h.2.2.1 v0 1 = (v0 + 1) from (hr.f3 g0))]
  exact ⟨g0, (zca hr g0 (by decide) (by decide) g1), zcSi (as := [.inr (.inl (h.2.1 (v0 + 1) v3.toNatClampNeg))]) (zat qX3_nth 15 (by rfl)) l3_19 rfl hd rfl (Nat.le_of_ble_eq_true rfl) zle0 k⟩

theorem bX3_nth_26 {d : Nat} {Q : Option MV → MH → Prop} {h : MH} {u0 u1 u4 : Option MV} {vs0 v3 v2 : Int32} (k1 : vs0 ≤ v2 → J mX3_nth d 0 0 Q 0 0 41 [u0, u1, some (.inl v2), some (.inl v3), some (.inl vs0)] [] h) (k2 : ¬ vs0 ≤ v2 → J mX3_nth d 0 0 Q 0 0 34 [u0, u1, some (.inl v2), some (.inl v3), some (.inl vs0)] [] h) : J mX3_nth d 0 0 Q 0 0 26 [u0, u1, some (.inl v2), some (.inl v3), u4] [.inl vs0] h := by
  refine zrun 16 4 qX3_nth (o := 3) rfl ?_
  show ((vs0 ≤ v2 → J mX3_nth d 0 0 Q 0 0 41 [u0, u1, some (.inl v2), some (.inl v3), some (.inl vs0)] [] h) ∧ (¬ vs0 ≤ v2 → J mX3_nth d 0 0 Q 0 0 34 [u0, u1, some (.inl v2), some (.inl v3), some (.inl vs0)] [] h))
  exact ⟨k1, k2⟩

theorem bX3_nth_34 {d d' : Nat} {Q : Option MV → MH → Prop} {h : MH} {u1 u4 : Option MV} {v3 v2 : Int32} {v0 : Nat} (gr : zokO h v0 3) (hd : d' + 1 ≤ d) (k : Con mX3_nthOfWord d' 0 0 [.inr (.inr v0), .inl v3, .inl v2] h (zri fun (x : Int32) h' => J mX3_nth d 0 0 Q 0 0 40 [some (.inr (.inr v0)), u1, some (.inl v2), some (.inl v3), u4] [.inl x] h')) : J mX3_nth d 0 0 Q 0 0 34 [some (.inr (.inr v0)), u1, some (.inl v2), some (.inl v3), u4] [] h := by
  refine zrun 20 3 qX3_nth (o := 3) rfl ?_
  show J mX3_nth d 0 0 Q 0 0 37 [some (.inr (.inr v0)), u1, some (.inl v2), some (.inl v3), u4] [.inl v2, .inl v3, .inr (.inr v0)] h
  exact zcVi (as := [.inl v3, .inl v2]) (zat qX3_nth 23 (by rfl)) l3_25 rfl hd rfl (Nat.le_of_ble_eq_true rfl) zle0 (ci := 3) (by decide) rfl gr k

theorem bX3_nth_40 {d : Nat} {Q : Option MV → MH → Prop} {h : MH} {u0 u1 u2 u3 u4 : Option MV} {vs0 : Int32} (k : Q (some (.inl vs0)) h) : J mX3_nth d 0 0 Q 0 0 40 [u0, u1, u2, u3, u4] [.inl vs0] h := by
  exact J_iret (ty := .int) (zat qX3_nth 24 (by rfl)) rfl rfl (Nat.le_refl 0) (Nat.le_refl 0) k

theorem bX3_nth_41 {d : Nat} {Q : Option MV → MH → Prop} {h : MH} {u0 : Option MV} {v2 v4 v1 v3 : Int32} (k : J mX3_nth d 0 0 Q 0 0 10 [u0, some (.inl v1), some (.inl (v2 - v4)), some (.inl (v3 + nI 1)), some (.inl v4)] [] h) : J mX3_nth d 0 0 Q 0 0 41 [u0, some (.inl v1), some (.inl v2), some (.inl v3), some (.inl v4)] [] h := by
  refine zrun 25 6 qX3_nth (o := 3) rfl ?_
  show J mX3_nth d 0 0 Q 0 0 10 [u0, some (.inl v1), some (.inl (v2 - v4)), some (.inl (v3 + nI 1)), some (.inl v4)] [] h
  exact k

theorem bX3_nth_52 {d : Nat} {Q : Option MV → MH → Prop} {h : MH} {u0 u1 u2 u3 u4 : Option MV} (k : Q (some (.inl (-(nI 1)))) h) : J mX3_nth d 0 0 Q 0 0 52 [u0, u1, u2, u3, u4] [] h := by
  refine zrun 31 1 qX3_nth (o := 3) rfl ?_
  show J mX3_nth d 0 0 Q 0 0 53 [u0, u1, u2, u3, u4] [.inl (-(nI 1))] h
  exact J_iret (ty := .int) (zat qX3_nth 32 (by rfl)) rfl rfl (Nat.le_refl 0) (Nat.le_refl 0) k

theorem bX3_nthOfWord_0 {d : Nat} {Q : Option MV → MH → Prop} {h : MH} {u0 u3 u4 : Option MV} {v2 v1 : Int32} (k : J mX3_nthOfWord d 0 0 Q 0 0 8 [u0, some (.inl v1), some (.inl v2), some (.inl (nI 0)), some (.inl (v1 * (nI 64)))] [] h) : J mX3_nthOfWord d 0 0 Q 0 0 0 [u0, some (.inl v1), some (.inl v2), u3, u4] [] h := by
  refine zrun 0 6 qX3_nthOfWord (o := 3) rfl ?_
  show J mX3_nthOfWord d 0 0 Q 0 0 8 [u0, some (.inl v1), some (.inl v2), some (.inl (nI 0)), some (.inl (v1 * (nI 64)))] [] h
  exact k

theorem bX3_nthOfWord_8 {d : Nat} {Q : Option MV → MH → Prop} {h : MH} {u0 u2 u3 : Option MV} {v4 v1 : Int32} (k1 : ((v1 * (nI 64)) + (nI 64)) ≤ v4 → J mX3_nthOfWord d 0 0 Q 0 0 49 [u0, some (.inl v1), u2, u3, some (.inl v4)] [] h) (k2 : ¬ ((v1 * (nI 64)) + (nI 64)) ≤ v4 → J mX3_nthOfWord d 0 0 Q 0 0 20 [u0, some (.inl v1), u2, u3, some (.inl v4)] [] h) : J mX3_nthOfWord d 0 0 Q 0 0 8 [u0, some (.inl v1), u2, u3, some (.inl v4)] [] h := by
  refine zrun 6 7 qX3_nthOfWord (o := 3) rfl ?_
  show ((((v1 * (nI 64)) + (nI 64)) ≤ v4 → J mX3_nthOfWord d 0 0 Q 0 0 49 [u0, some (.inl v1), u2, u3, some (.inl v4)] [] h) ∧ (¬ ((v1 * (nI 64)) + (nI 64)) ≤ v4 → J mX3_nthOfWord d 0 0 Q 0 0 20 [u0, some (.inl v1), u2, u3, some (.inl v4)] [] h))
  exact ⟨k1, k2⟩

theorem bX3_nthOfWord_20 {d d' : Nat} {Q : Option MV → MH → Prop} {h : MH} {u1 u2 u3 : Option MV} {v4 : Int32} {v0 : Nat} (gr : zokO h v0 3) (hd : d' + 1 ≤ d) (k : Con mX3_hasMark d' 0 0 [.inr (.inr v0), .inl v4] h (zri fun (x : Int32) h' => J mX3_nthOfWord d 0 0 Q 0 0 26 [some (.inr (.inr v0)), u1, u2, u3, some (.inl v4)] [.inl x] h')) : J mX3_nthOfWord d 0 0 Q 0 0 20 [some (.inr (.inr v0)), u1, u2, u3, some (.inl v4)] [] h := by
  refine zrun 13 2 qX3_nthOfWord (o := 3) rfl ?_
  show J mX3_nthOfWord d 0 0 Q 0 0 23 [some (.inr (.inr v0)), u1, u2, u3, some (.inl v4)] [.inl v4, .inr (.inr v0)] h
  exact zcVi (as := [.inl v4]) (zat qX3_nthOfWord 15 (by rfl)) l3_15 rfl hd rfl (Nat.le_of_ble_eq_true rfl) zle0 (ci := 3) (by decide) rfl gr k

theorem bX3_nthOfWord_26 {d : Nat} {Q : Option MV → MH → Prop} {h : MH} {u0 u1 u2 u3 u4 : Option MV} {vs0 : Int32} (k1 : vs0 = 0 → J mX3_nthOfWord d 0 0 Q 0 0 43 [u0, u1, u2, u3, u4] [] h) (k2 : ¬ vs0 = 0 → J mX3_nthOfWord d 0 0 Q 0 0 29 [u0, u1, u2, u3, u4] [] h) : J mX3_nthOfWord d 0 0 Q 0 0 26 [u0, u1, u2, u3, u4] [.inl vs0] h := by
  refine zrun 16 1 qX3_nthOfWord (o := 3) rfl ?_
  show ((vs0 = 0 → J mX3_nthOfWord d 0 0 Q 0 0 43 [u0, u1, u2, u3, u4] [] h) ∧ (¬ vs0 = 0 → J mX3_nthOfWord d 0 0 Q 0 0 29 [u0, u1, u2, u3, u4] [] h))
  exact ⟨k1, k2⟩

theorem bX3_nthOfWord_29 {d : Nat} {Q : Option MV → MH → Prop} {h : MH} {u0 u1 u4 : Option MV} {v3 v2 : Int32} (k1 : ¬ v3 = v2 → J mX3_nthOfWord d 0 0 Q 0 0 40 [u0, u1, some (.inl v2), some (.inl v3), u4] [] h) (k2 : v3 = v2 → J mX3_nthOfWord d 0 0 Q 0 0 34 [u0, u1, some (.inl v2), some (.inl v3), u4] [] h) : J mX3_nthOfWord d 0 0 Q 0 0 29 [u0, u1, some (.inl v2), some (.inl v3), u4] [] h := by
  refine zrun 17 3 qX3_nthOfWord (o := 3) rfl ?_
  show ((¬ v3 = v2 → J mX3_nthOfWord d 0 0 Q 0 0 40 [u0, u1, some (.inl v2), some (.inl v3), u4] [] h) ∧ (v3 = v2 → J mX3_nthOfWord d 0 0 Q 0 0 34 [u0, u1, some (.inl v2), some (.inl v3), u4] [] h))
  exact ⟨k1, k2⟩

theorem bX3_nthOfWord_34 {d : Nat} {Q : Option MV → MH → Prop} {h : MH} {u0 u1 u2 u3 : Option MV} {v4 : Int32} (k : Q (some (.inl (v4 * (nI 16)))) h) : J mX3_nthOfWord d 0 0 Q 0 0 34 [u0, u1, u2, u3, some (.inl v4)] [] h := by
  refine zrun 20 3 qX3_nthOfWord (o := 3) rfl ?_
  show J mX3_nthOfWord d 0 0 Q 0 0 39 [u0, u1, u2, u3, some (.inl v4)] [.inl (v4 * (nI 16))] h
  exact J_iret (ty := .int) (zat qX3_nthOfWord 23 (by rfl)) rfl rfl (Nat.le_refl 0) (Nat.le_refl 0) k

theorem bX3_nthOfWord_40 {d : Nat} {Q : Option MV → MH → Prop} {h : MH} {u0 u1 u4 : Option MV} {v3 v2 : Int32} (k : J mX3_nthOfWord d 0 0 Q 0 0 43 [u0, u1, some (.inl v2), some (.inl (v3 + nI 1)), u4] [] h) : J mX3_nthOfWord d 0 0 Q 0 0 40 [u0, u1, some (.inl v2), some (.inl v3), u4] [] h := by
  refine zrun 24 1 qX3_nthOfWord (o := 3) rfl ?_
  show J mX3_nthOfWord d 0 0 Q 0 0 43 [u0, u1, some (.inl v2), some (.inl (v3 + nI 1)), u4] [] h
  exact k

theorem bX3_nthOfWord_43 {d : Nat} {Q : Option MV → MH → Prop} {h : MH} {u0 u1 u2 : Option MV} {v4 v3 : Int32} (k : J mX3_nthOfWord d 0 0 Q 0 0 8 [u0, u1, u2, some (.inl v3), some (.inl (v4 + nI 1))] [] h) : J mX3_nthOfWord d 0 0 Q 0 0 43 [u0, u1, u2, some (.inl v3), some (.inl v4)] [] h := by
  refine zrun 25 2 qX3_nthOfWord (o := 3) rfl ?_
  show J mX3_nthOfWord d 0 0 Q 0 0 8 [u0, u1, u2, some (.inl v3), some (.inl (v4 + nI 1))] [] h
  exact k

theorem bX3_nthOfWord_49 {d : Nat} {Q : Option MV → MH → Prop} {h : MH} {u0 u1 u2 u3 u4 : Option MV} (k : Q (some (.inl (-(nI 1)))) h) : J mX3_nthOfWord d 0 0 Q 0 0 49 [u0, u1, u2, u3, u4] [] h := by
  refine zrun 27 1 qX3_nthOfWord (o := 3) rfl ?_
  show J mX3_nthOfWord d 0 0 Q 0 0 50 [u0, u1, u2, u3, u4] [.inl (-(nI 1))] h
  exact J_iret (ty := .int) (zat qX3_nthOfWord 28 (by rfl)) rfl rfl (Nat.le_refl 0) (Nat.le_refl 0) k

theorem bX3_lastUpTo_0 {d : Nat} {Q : Option MV → MH → Prop} {h : MH} {u0 u2 : Option MV} {v1 : Int32} (hd : 1 ≤ d) (k : J mX3_lastUpTo d 0 0 Q 0 0 10 [u0, some (.inl v1), u2] [.inl (if (nI 23103) < (v1 / (nI 16)) then (nI 23103) else (v1 / (nI 16)))] h) : J mX3_lastUpTo d 0 0 Q 0 0 0 [u0, some (.inl v1), u2] [] h := by
  refine zrun 0 4 qX3_lastUpTo (o := 3) rfl ?_
  show ¬ (nI 16) = 0 ∧ J mX3_lastUpTo d 0 0 Q 0 0 7 [u0, some (.inl v1), u2] [.inl (nI 23103), .inl (v1 / (nI 16))] h
  exact ⟨(by decide), zmin (zat qX3_lastUpTo 4 (by rfl)) mm3_29 rfl hd (Nat.le_of_ble_eq_true rfl) zle0 k⟩

theorem bX3_lastUpTo_10 {d : Nat} {Q : Option MV → MH → Prop} {h : MH} {u0 u2 : Option MV} {vs0 v1 : Int32} (k : J mX3_lastUpTo d 0 0 Q 0 0 11 [u0, some (.inl v1), some (.inl vs0)] [] h) : J mX3_lastUpTo d 0 0 Q 0 0 10 [u0, some (.inl v1), u2] [.inl vs0] h := by
  refine zrun 5 1 qX3_lastUpTo (o := 3) rfl ?_
  show J mX3_lastUpTo d 0 0 Q 0 0 11 [u0, some (.inl v1), some (.inl vs0)] [] h
  exact k

theorem bX3_lastUpTo_11 {d : Nat} {Q : Option MV → MH → Prop} {h : MH} {u0 u1 : Option MV} {v2 : Int32} (k1 : v2 < 0 → J mX3_lastUpTo d 0 0 Q 0 0 53 [u0, u1, some (.inl v2)] [] h) (k2 : ¬ v2 < 0 → J mX3_lastUpTo d 0 0 Q 0 0 15 [u0, u1, some (.inl v2)] [] h) : J mX3_lastUpTo d 0 0 Q 0 0 11 [u0, u1, some (.inl v2)] [] h := by
  refine zrun 6 2 qX3_lastUpTo (o := 3) rfl ?_
  show ((v2 < 0 → J mX3_lastUpTo d 0 0 Q 0 0 53 [u0, u1, some (.inl v2)] [] h) ∧ (¬ v2 < 0 → J mX3_lastUpTo d 0 0 Q 0 0 15 [u0, u1, some (.inl v2)] [] h))
  exact ⟨k1, k2⟩

theorem bX3_lastUpTo_15 {d d' : Nat} {Q : Option MV → MH → Prop} {h : MH} {u1 : Option MV} {v2 : Int32} {v0 : Nat} (gr : zokO h v0 3) (hd : d' + 1 ≤ d) (k : Con mX3_hasMark d' 0 0 [.inr (.inr v0), .inl v2] h (zri fun (x : Int32) h' => J mX3_lastUpTo d 0 0 Q 0 0 20 [some (.inr (.inr v0)), u1, some (.inl v2)] [.inl x] h')) : J mX3_lastUpTo d 0 0 Q 0 0 15 [some (.inr (.inr v0)), u1, some (.inl v2)] [] h := by
  refine zrun 8 2 qX3_lastUpTo (o := 3) rfl ?_
  show J mX3_lastUpTo d 0 0 Q 0 0 17 [some (.inr (.inr v0)), u1, some (.inl v2)] [.inl v2, .inr (.inr v0)] h
  exact zcVi (as := [.inl v2]) (zat qX3_lastUpTo 10 (by rfl)) l3_15 rfl hd rfl (Nat.le_of_ble_eq_true rfl) zle0 (ci := 3) (by decide) rfl gr k

theorem bX3_lastUpTo_20 {d : Nat} {Q : Option MV → MH → Prop} {h : MH} {u0 u1 u2 : Option MV} {vs0 : Int32} (k1 : vs0 = 0 → J mX3_lastUpTo d 0 0 Q 0 0 28 [u0, u1, u2] [] h) (k2 : ¬ vs0 = 0 → J mX3_lastUpTo d 0 0 Q 0 0 23 [u0, u1, u2] [] h) : J mX3_lastUpTo d 0 0 Q 0 0 20 [u0, u1, u2] [.inl vs0] h := by
  refine zrun 11 1 qX3_lastUpTo (o := 3) rfl ?_
  show ((vs0 = 0 → J mX3_lastUpTo d 0 0 Q 0 0 28 [u0, u1, u2] [] h) ∧ (¬ vs0 = 0 → J mX3_lastUpTo d 0 0 Q 0 0 23 [u0, u1, u2] [] h))
  exact ⟨k1, k2⟩

theorem bX3_lastUpTo_23 {d : Nat} {Q : Option MV → MH → Prop} {h : MH} {u0 u1 : Option MV} {v2 : Int32} (k : Q (some (.inl (v2 * (nI 16)))) h) : J mX3_lastUpTo d 0 0 Q 0 0 23 [u0, u1, some (.inl v2)] [] h := by
  refine zrun 12 3 qX3_lastUpTo (o := 3) rfl ?_
  show J mX3_lastUpTo d 0 0 Q 0 0 27 [u0, u1, some (.inl v2)] [.inl (v2 * (nI 16))] h
  exact J_iret (ty := .int) (zat qX3_lastUpTo 15 (by rfl)) rfl rfl (Nat.le_refl 0) (Nat.le_refl 0) k

theorem bX3_lastUpTo_28 {d : Nat} {Q : Option MV → MH → Prop} {h : MH} {u1 : Option MV} {v2 : Int32} {v0 : Nat} (hr : zRf h) (g0 : zokO h v0 3) (g1 : vp_in (v2 >>> ((nI 6) &&& 31)) 361) (k1 : ¬ (lg_cmp (h.2.1 (v0 + 1) (v2 >>> ((nI 6) &&& 31)).toNatClampNeg) (lN 0)) = 0 → J mX3_lastUpTo d 0 0 Q 0 0 47 [some (.inr (.inr v0)), u1, some (.inl v2)] [] h) (k2 : (lg_cmp (h.2.1 (v0 + 1) (v2 >>> ((nI 6) &&& 31)).toNatClampNeg) (lN 0)) = 0 → J mX3_lastUpTo d 0 0 Q 0 0 42 [some (.inr (.inr v0)), u1, some (.inl v2)] [] h) : J mX3_lastUpTo d 0 0 Q 0 0 28 [some (.inr (.inr v0)), u1, some (.inl v2)] [] h := by
  refine zrun 16 9 qX3_lastUpTo (o := 3) rfl ?_
  show zokO h v0 3 ∧ zokA h (h.2.2.1 v0 1) 21 (v2 >>> ((nI 6) &&& 31)) ∧ ((¬ (lg_cmp (h.2.1 (h.2.2.1 v0 1) (v2 >>> ((nI 6) &&& 31)).toNatClampNeg) (lN 0)) = 0 → J mX3_lastUpTo d 0 0 Q 0 0 47 [some (.inr (.inr v0)), u1, some (.inl v2)] [] h) ∧ ((lg_cmp (h.2.1 (h.2.2.1 v0 1) (v2 >>> ((nI 6) &&& 31)).toNatClampNeg) (lN 0)) = 0 → J mX3_lastUpTo d 0 0 Q 0 0 42 [some (.inr (.inr v0)), u1, some (.inl v2)] [] h))
  rw [(show h.2.2.1 v0 1 = (v0 + 1) from (hr.f3 g0))]
  exact ⟨g0, (zca hr g0 (by decide) (by decide) g1), k1, k2⟩

theorem bX3_lastUpTo_42 {d : Nat} {Q : Option MV → MH → Prop} {h : MH} {u0 : Option MV} {v2 v1 : Int32} (k : J mX3_lastUpTo d 0 0 Q 0 0 47 [u0, some (.inl v1), some (.inl (v2 &&& (-(nI 64))))] [] h) : J mX3_lastUpTo d 0 0 Q 0 0 42 [u0, some (.inl v1), some (.inl v2)] [] h := by
  refine zrun 25 4 qX3_lastUpTo (o := 3) rfl ?_
  show J mX3_lastUpTo d 0 0 Q 0 0 47 [u0, some (.inl v1), some (.inl (v2 &&& (-(nI 64))))] [] h
  exact k

theorem bX3_lastUpTo_47 {d : Nat} {Q : Option MV → MH → Prop} {h : MH} {u0 : Option MV} {v2 v1 : Int32} (k : J mX3_lastUpTo d 0 0 Q 0 0 11 [u0, some (.inl v1), some (.inl (v2 + -(nI 1)))] [] h) : J mX3_lastUpTo d 0 0 Q 0 0 47 [u0, some (.inl v1), some (.inl v2)] [] h := by
  refine zrun 29 2 qX3_lastUpTo (o := 3) rfl ?_
  show J mX3_lastUpTo d 0 0 Q 0 0 11 [u0, some (.inl v1), some (.inl (v2 + -(nI 1)))] [] h
  exact k

theorem bX3_lastUpTo_53 {d : Nat} {Q : Option MV → MH → Prop} {h : MH} {u0 u1 u2 : Option MV} (k : Q (some (.inl (-(nI 1)))) h) : J mX3_lastUpTo d 0 0 Q 0 0 53 [u0, u1, u2] [] h := by
  refine zrun 31 1 qX3_lastUpTo (o := 3) rfl ?_
  show J mX3_lastUpTo d 0 0 Q 0 0 54 [u0, u1, u2] [.inl (-(nI 1))] h
  exact J_iret (ty := .int) (zat qX3_lastUpTo 32 (by rfl)) rfl rfl (Nat.le_refl 0) (Nat.le_refl 0) k

theorem bX3_firstFrom_0 {d : Nat} {Q : Option MV → MH → Prop} {h : MH} {u0 u2 : Option MV} {v1 : Int32} (k1 : v1 ≤ (369648 : Int32) → J mX3_firstFrom d 0 0 Q 0 0 8 [u0, some (.inl v1), u2] [] h) (k2 : ¬ v1 ≤ (369648 : Int32) → J mX3_firstFrom d 0 0 Q 0 0 6 [u0, some (.inl v1), u2] [] h) : J mX3_firstFrom d 0 0 Q 0 0 0 [u0, some (.inl v1), u2] [] h := by
  refine zrun 0 3 qX3_firstFrom (o := 3) rfl ?_
  show ((v1 ≤ (369648 : Int32) → J mX3_firstFrom d 0 0 Q 0 0 8 [u0, some (.inl v1), u2] [] h) ∧ (¬ v1 ≤ (369648 : Int32) → J mX3_firstFrom d 0 0 Q 0 0 6 [u0, some (.inl v1), u2] [] h))
  exact ⟨k1, k2⟩

theorem bX3_firstFrom_6 {d : Nat} {Q : Option MV → MH → Prop} {h : MH} {u0 u1 u2 : Option MV} (k : Q (some (.inl (-(nI 1)))) h) : J mX3_firstFrom d 0 0 Q 0 0 6 [u0, u1, u2] [] h := by
  refine zrun 3 1 qX3_firstFrom (o := 3) rfl ?_
  show J mX3_firstFrom d 0 0 Q 0 0 7 [u0, u1, u2] [.inl (-(nI 1))] h
  exact J_iret (ty := .int) (zat qX3_firstFrom 4 (by rfl)) rfl rfl (Nat.le_refl 0) (Nat.le_refl 0) k

theorem bX3_firstFrom_8 {d : Nat} {Q : Option MV → MH → Prop} {h : MH} {u0 u2 : Option MV} {v1 : Int32} (k : J mX3_firstFrom d 0 0 Q 0 0 18 [u0, some (.inl v1), some (.inl (((v1 + (nI 16)) - (nI 1)) / (nI 16)))] [] h) : J mX3_firstFrom d 0 0 Q 0 0 8 [u0, some (.inl v1), u2] [] h := by
  refine zrun 5 8 qX3_firstFrom (o := 3) rfl ?_
  show ¬ (nI 16) = 0 ∧ J mX3_firstFrom d 0 0 Q 0 0 18 [u0, some (.inl v1), some (.inl (((v1 + (nI 16)) - (nI 1)) / (nI 16)))] [] h
  exact ⟨(by decide), k⟩

theorem bX3_firstFrom_18 {d : Nat} {Q : Option MV → MH → Prop} {h : MH} {u0 u1 : Option MV} {v2 : Int32} (k1 : (nI 23104) ≤ v2 → J mX3_firstFrom d 0 0 Q 0 0 63 [u0, u1, some (.inl v2)] [] h) (k2 : ¬ (nI 23104) ≤ v2 → J mX3_firstFrom d 0 0 Q 0 0 25 [u0, u1, some (.inl v2)] [] h) : J mX3_firstFrom d 0 0 Q 0 0 18 [u0, u1, some (.inl v2)] [] h := by
  refine zrun 13 3 qX3_firstFrom (o := 3) rfl ?_
  show (((nI 23104) ≤ v2 → J mX3_firstFrom d 0 0 Q 0 0 63 [u0, u1, some (.inl v2)] [] h) ∧ (¬ (nI 23104) ≤ v2 → J mX3_firstFrom d 0 0 Q 0 0 25 [u0, u1, some (.inl v2)] [] h))
  exact ⟨k1, k2⟩

theorem bX3_firstFrom_25 {d d' : Nat} {Q : Option MV → MH → Prop} {h : MH} {u1 : Option MV} {v2 : Int32} {v0 : Nat} (gr : zokO h v0 3) (hd : d' + 1 ≤ d) (k : Con mX3_hasMark d' 0 0 [.inr (.inr v0), .inl v2] h (zri fun (x : Int32) h' => J mX3_firstFrom d 0 0 Q 0 0 30 [some (.inr (.inr v0)), u1, some (.inl v2)] [.inl x] h')) : J mX3_firstFrom d 0 0 Q 0 0 25 [some (.inr (.inr v0)), u1, some (.inl v2)] [] h := by
  refine zrun 16 2 qX3_firstFrom (o := 3) rfl ?_
  show J mX3_firstFrom d 0 0 Q 0 0 27 [some (.inr (.inr v0)), u1, some (.inl v2)] [.inl v2, .inr (.inr v0)] h
  exact zcVi (as := [.inl v2]) (zat qX3_firstFrom 18 (by rfl)) l3_15 rfl hd rfl (Nat.le_of_ble_eq_true rfl) zle0 (ci := 3) (by decide) rfl gr k

theorem bX3_firstFrom_30 {d : Nat} {Q : Option MV → MH → Prop} {h : MH} {u0 u1 u2 : Option MV} {vs0 : Int32} (k1 : vs0 = 0 → J mX3_firstFrom d 0 0 Q 0 0 38 [u0, u1, u2] [] h) (k2 : ¬ vs0 = 0 → J mX3_firstFrom d 0 0 Q 0 0 33 [u0, u1, u2] [] h) : J mX3_firstFrom d 0 0 Q 0 0 30 [u0, u1, u2] [.inl vs0] h := by
  refine zrun 19 1 qX3_firstFrom (o := 3) rfl ?_
  show ((vs0 = 0 → J mX3_firstFrom d 0 0 Q 0 0 38 [u0, u1, u2] [] h) ∧ (¬ vs0 = 0 → J mX3_firstFrom d 0 0 Q 0 0 33 [u0, u1, u2] [] h))
  exact ⟨k1, k2⟩

theorem bX3_firstFrom_33 {d : Nat} {Q : Option MV → MH → Prop} {h : MH} {u0 u1 : Option MV} {v2 : Int32} (k : Q (some (.inl (v2 * (nI 16)))) h) : J mX3_firstFrom d 0 0 Q 0 0 33 [u0, u1, some (.inl v2)] [] h := by
  refine zrun 20 3 qX3_firstFrom (o := 3) rfl ?_
  show J mX3_firstFrom d 0 0 Q 0 0 37 [u0, u1, some (.inl v2)] [.inl (v2 * (nI 16))] h
  exact J_iret (ty := .int) (zat qX3_firstFrom 23 (by rfl)) rfl rfl (Nat.le_refl 0) (Nat.le_refl 0) k

theorem bX3_firstFrom_38 {d : Nat} {Q : Option MV → MH → Prop} {h : MH} {u1 : Option MV} {v2 : Int32} {v0 : Nat} (hr : zRf h) (g0 : zokO h v0 3) (g1 : vp_in (v2 >>> ((nI 6) &&& 31)) 361) (k1 : ¬ (lg_cmp (h.2.1 (v0 + 1) (v2 >>> ((nI 6) &&& 31)).toNatClampNeg) (lN 0)) = 0 → J mX3_firstFrom d 0 0 Q 0 0 57 [some (.inr (.inr v0)), u1, some (.inl v2)] [] h) (k2 : (lg_cmp (h.2.1 (v0 + 1) (v2 >>> ((nI 6) &&& 31)).toNatClampNeg) (lN 0)) = 0 → J mX3_firstFrom d 0 0 Q 0 0 52 [some (.inr (.inr v0)), u1, some (.inl v2)] [] h) : J mX3_firstFrom d 0 0 Q 0 0 38 [some (.inr (.inr v0)), u1, some (.inl v2)] [] h := by
  refine zrun 24 9 qX3_firstFrom (o := 3) rfl ?_
  show zokO h v0 3 ∧ zokA h (h.2.2.1 v0 1) 21 (v2 >>> ((nI 6) &&& 31)) ∧ ((¬ (lg_cmp (h.2.1 (h.2.2.1 v0 1) (v2 >>> ((nI 6) &&& 31)).toNatClampNeg) (lN 0)) = 0 → J mX3_firstFrom d 0 0 Q 0 0 57 [some (.inr (.inr v0)), u1, some (.inl v2)] [] h) ∧ ((lg_cmp (h.2.1 (h.2.2.1 v0 1) (v2 >>> ((nI 6) &&& 31)).toNatClampNeg) (lN 0)) = 0 → J mX3_firstFrom d 0 0 Q 0 0 52 [some (.inr (.inr v0)), u1, some (.inl v2)] [] h))
  rw [(show h.2.2.1 v0 1 = (v0 + 1) from (hr.f3 g0))]
  exact ⟨g0, (zca hr g0 (by decide) (by decide) g1), k1, k2⟩

theorem bX3_firstFrom_52 {d : Nat} {Q : Option MV → MH → Prop} {h : MH} {u0 : Option MV} {v2 v1 : Int32} (k : J mX3_firstFrom d 0 0 Q 0 0 57 [u0, some (.inl v1), some (.inl (v2 ||| (nI 63)))] [] h) : J mX3_firstFrom d 0 0 Q 0 0 52 [u0, some (.inl v1), some (.inl v2)] [] h := by
  refine zrun 33 4 qX3_firstFrom (o := 3) rfl ?_
  show J mX3_firstFrom d 0 0 Q 0 0 57 [u0, some (.inl v1), some (.inl (v2 ||| (nI 63)))] [] h
  exact k

theorem bX3_firstFrom_57 {d : Nat} {Q : Option MV → MH → Prop} {h : MH} {u0 : Option MV} {v2 v1 : Int32} (k : J mX3_firstFrom d 0 0 Q 0 0 18 [u0, some (.inl v1), some (.inl (v2 + nI 1))] [] h) : J mX3_firstFrom d 0 0 Q 0 0 57 [u0, some (.inl v1), some (.inl v2)] [] h := by
  refine zrun 37 2 qX3_firstFrom (o := 3) rfl ?_
  show J mX3_firstFrom d 0 0 Q 0 0 18 [u0, some (.inl v1), some (.inl (v2 + nI 1))] [] h
  exact k

theorem bX3_firstFrom_63 {d : Nat} {Q : Option MV → MH → Prop} {h : MH} {u0 u1 u2 : Option MV} (k : Q (some (.inl (-(nI 1)))) h) : J mX3_firstFrom d 0 0 Q 0 0 63 [u0, u1, u2] [] h := by
  refine zrun 39 1 qX3_firstFrom (o := 3) rfl ?_
  show J mX3_firstFrom d 0 0 Q 0 0 64 [u0, u1, u2] [.inl (-(nI 1))] h
  exact J_iret (ty := .int) (zat qX3_firstFrom 40 (by rfl)) rfl rfl (Nat.le_refl 0) (Nat.le_refl 0) k

theorem bX7_init_4 {d mc ms cs ss : Nat} {Q : Option MV → MH → Prop} {h : MH} {v0 : Nat} (hc : cs ≤ mc ∧ ss ≤ ms) (k : J mX7_init d mc ms Q cs ss 7 [some (.inr (.inr v0))] [.inl (nI 40), .inr (.inr v0)] h) : J mX7_init d mc ms Q cs ss 4 [some (.inr (.inr v0))] [] h := by
  refine zrun 2 2 qX7_init (o := 7) rfl ?_
  show J mX7_init d mc ms Q cs ss 7 [some (.inr (.inr v0))] [.inl (nI 40), .inr (.inr v0)] h
  exact k

theorem bX7_begin_0 {d : Nat} {Q : Option MV → MH → Prop} {h : MH} {u3 : Option MV} {v1 v2 : Int32} {v0 : Nat} (g0 : zokO h v0 7) (k : J mX7_begin d 0 0 Q 0 0 17 [some (.inr (.inr v0)), some (.inl v1), some (.inl v2), some (.inl (nI 0))] [] (zsI (zsI (zsI h v0 0 (nI 1)) v0 1 v1) v0 2 v2)) : J mX7_begin d 0 0 Q 0 0 0 [some (.inr (.inr v0)), some (.inl v1), some (.inl v2), u3] [] h := by
  refine zrun 0 11 qX7_begin (o := 7) rfl ?_
  show (zokO h v0 7 ∧ ((.inl (nI 1) : MV) = .inl 0 ∨ (.inl (nI 1) : MV) = .inl 1)) ∧ zokO (zsI h v0 0 (nI 1)) v0 7 ∧ zokO (zsI (zsI h v0 0 (nI 1)) v0 1 v1) v0 7 ∧ J mX7_begin d 0 0 Q 0 0 17 [some (.inr (.inr v0)), some (.inl v1), some (.inl v2), some (.inl (nI 0))] [] (zsI (zsI (zsI h v0 0 (nI 1)) v0 1 v1) v0 2 v2)
  exact ⟨⟨g0, Or.inr rfl⟩, (g0), (g0), k⟩

theorem bX7_begin_17 {d : Nat} {Q : Option MV → MH → Prop} {h : MH} {u0 u1 u2 : Option MV} {v3 : Int32} (k1 : (nI 40) ≤ v3 → J mX7_begin d 0 0 Q 0 0 36 [u0, u1, u2, some (.inl v3)] [] h) (k2 : ¬ (nI 40) ≤ v3 → J mX7_begin d 0 0 Q 0 0 23 [u0, u1, u2, some (.inl v3)] [] h) : J mX7_begin d 0 0 Q 0 0 17 [u0, u1, u2, some (.inl v3)] [] h := by
  refine zrun 11 3 qX7_begin (o := 7) rfl ?_
  show (((nI 40) ≤ v3 → J mX7_begin d 0 0 Q 0 0 36 [u0, u1, u2, some (.inl v3)] [] h) ∧ (¬ (nI 40) ≤ v3 → J mX7_begin d 0 0 Q 0 0 23 [u0, u1, u2, some (.inl v3)] [] h))
  exact ⟨k1, k2⟩

theorem bX7_begin_23 {d : Nat} {Q : Option MV → MH → Prop} {h : MH} {u1 : Option MV} {v3 v2 : Int32} {v0 : Nat} (hr : zRf h) (g0 : zokO h v0 7) (g1 : vp_in v3 40) (k : J mX7_begin d 0 0 Q 0 0 17 [some (.inr (.inr v0)), u1, some (.inl v2), some (.inl (v3 + nI 1))] [] (zsL h (v0 + 1) v3.toNatClampNeg (lN 0))) : J mX7_begin d 0 0 Q 0 0 23 [some (.inr (.inr v0)), u1, some (.inl v2), some (.inl v3)] [] h := by
  refine zrun 14 7 qX7_begin (o := 7) rfl ?_
  show zokO h v0 7 ∧ zokA h (h.2.2.1 v0 3) 21 v3 ∧ J mX7_begin d 0 0 Q 0 0 17 [some (.inr (.inr v0)), u1, some (.inl v2), some (.inl (v3 + nI 1))] [] (zsL h (h.2.2.1 v0 3) v3.toNatClampNeg (lN 0))
  rw [(show h.2.2.1 v0 3 = (v0 + 1) from (hr.f7 g0))]
  exact ⟨g0, (zca hr g0 (by decide) (by decide) g1), k⟩

theorem bX7_begin_36 {d : Nat} {Q : Option MV → MH → Prop} {h : MH} {u0 u1 u2 u3 : Option MV} (k : Q none h) : J mX7_begin d 0 0 Q 0 0 36 [u0, u1, u2, u3] [] h := by
  exact J_vret (zat qX7_begin 21 (by rfl)) rfl (Nat.le_refl 0) (Nat.le_refl 0) k

theorem bX7_put_0 {d : Nat} {Q : Option MV → MH → Prop} {h : MH} {u0 u2 u3 : Option MV} {v1 : Int32} (k1 : v1 < 0 → J mX7_put d 0 0 Q 0 0 23 [u0, some (.inl v1), u2, u3] [] h) (k2 : ¬ v1 < 0 → J mX7_put d 0 0 Q 0 0 4 [u0, some (.inl v1), u2, u3] [] h) : J mX7_put d 0 0 Q 0 0 0 [u0, some (.inl v1), u2, u3] [] h := by
  refine zrun 0 2 qX7_put (o := 7) rfl ?_
  show ((v1 < 0 → J mX7_put d 0 0 Q 0 0 23 [u0, some (.inl v1), u2, u3] [] h) ∧ (¬ v1 < 0 → J mX7_put d 0 0 Q 0 0 4 [u0, some (.inl v1), u2, u3] [] h))
  exact ⟨k1, k2⟩

theorem bX7_put_4 {d : Nat} {Q : Option MV → MH → Prop} {h : MH} {u2 u3 : Option MV} {v1 : Int32} {v0 : Nat} (g0 : zokO h v0 7) (k1 : (h.1 v0 2) ≤ v1 → J mX7_put d 0 0 Q 0 0 23 [some (.inr (.inr v0)), some (.inl v1), u2, u3] [] h) (k2 : ¬ (h.1 v0 2) ≤ v1 → J mX7_put d 0 0 Q 0 0 12 [some (.inr (.inr v0)), some (.inl v1), u2, u3] [] h) : J mX7_put d 0 0 Q 0 0 4 [some (.inr (.inr v0)), some (.inl v1), u2, u3] [] h := by
  refine zrun 2 4 qX7_put (o := 7) rfl ?_
  show zokO h v0 7 ∧ (((h.1 v0 2) ≤ v1 → J mX7_put d 0 0 Q 0 0 23 [some (.inr (.inr v0)), some (.inl v1), u2, u3] [] h) ∧ (¬ (h.1 v0 2) ≤ v1 → J mX7_put d 0 0 Q 0 0 12 [some (.inr (.inr v0)), some (.inl v1), u2, u3] [] h))
  exact ⟨g0, k1, k2⟩

theorem bX7_put_12 {d d' : Nat} {Q : Option MV → MH → Prop} {h : MH} {u3 : Option MV} {v1 : Int32} {v2 : Int64} {v0 : Nat} (hr : zRf h) (g0 : zokO h v0 7) (hd : d' + 1 ≤ d) (k : Con mX7_cut d' 0 0 [.inr (.inr v0), .inr (.inl v2)] h (zrl fun (x : Int64) h' => J mX7_put d 0 0 Q 0 0 22 [some (.inr (.inr v0)), some (.inl v1), some (.inr (.inl v2)), u3] [.inr (.inl x), .inl v1, .inr (.inr (v0 + 1))] h')) : J mX7_put d 0 0 Q 0 0 12 [some (.inr (.inr v0)), some (.inl v1), some (.inr (.inl v2)), u3] [] h := by
  refine zrun 6 5 qX7_put (o := 7) rfl ?_
  show zokO h v0 7 ∧ J mX7_put d 0 0 Q 0 0 19 [some (.inr (.inr v0)), some (.inl v1), some (.inr (.inl v2)), u3] [.inr (.inl v2), .inr (.inr v0), .inl v1, .inr (.inr (h.2.2.1 v0 3))] h
  rw [(show h.2.2.1 v0 3 = (v0 + 1) from (hr.f7 g0))]
  exact ⟨g0, zcVl (as := [.inr (.inl v2)]) (zat qX7_put 11 (by rfl)) l7_26 rfl hd rfl (Nat.le_of_ble_eq_true rfl) zle0 (ci := 7) (by decide) rfl g0 k⟩

theorem bX7_put_22 {d : Nat} {Q : Option MV → MH → Prop} {h : MH} {u0 u1 u2 u3 : Option MV} {vs1 : Int32} {vs2 : Int64} {vs0 : Nat} (g0 : zokA h vs0 21 vs1) (k : J mX7_put d 0 0 Q 0 0 23 [u0, u1, u2, u3] [] (zsL h vs0 vs1.toNatClampNeg vs2)) : J mX7_put d 0 0 Q 0 0 22 [u0, u1, u2, u3] [.inr (.inl vs2), .inl vs1, .inr (.inr vs0)] h := by
  refine zrun 12 1 qX7_put (o := 7) rfl ?_
  show zokA h vs0 21 vs1 ∧ J mX7_put d 0 0 Q 0 0 23 [u0, u1, u2, u3] [] (zsL h vs0 vs1.toNatClampNeg vs2)
  exact ⟨g0, k⟩

theorem bX7_put_23 {d : Nat} {Q : Option MV → MH → Prop} {h : MH} {u0 u1 u2 u3 : Option MV} (k : Q none h) : J mX7_put d 0 0 Q 0 0 23 [u0, u1, u2, u3] [] h := by
  exact J_vret (zat qX7_put 13 (by rfl)) rfl (Nat.le_refl 0) (Nat.le_refl 0) k

theorem bX7_cut_0 {d : Nat} {Q : Option MV → MH → Prop} {h : MH} {u1 u2 : Option MV} {v0 : Nat} (g0 : zokO h v0 7) (k : J mX7_cut d 0 0 Q 0 0 4 [some (.inr (.inr v0)), u1, u2] [.inl (h.1 v0 1)] h) : J mX7_cut d 0 0 Q 0 0 0 [some (.inr (.inr v0)), u1, u2] [] h := by
  refine zrun 0 2 qX7_cut (o := 7) rfl ?_
  show zokO h v0 7 ∧ J mX7_cut d 0 0 Q 0 0 4 [some (.inr (.inr v0)), u1, u2] [.inl (h.1 v0 1)] h
  exact ⟨g0, k⟩

theorem bX7_cut_32 {d : Nat} {Q : Option MV → MH → Prop} {h : MH} {u0 u2 : Option MV} {v1 : Int64} (k : Q (some (.inr (.inl v1.toInt32.toInt8.toInt32.toInt64))) h) : J mX7_cut d 0 0 Q 0 0 32 [u0, some (.inr (.inl v1)), u2] [] h := by
  refine zrun 2 4 qX7_cut (o := 7) rfl ?_
  show J mX7_cut d 0 0 Q 0 0 36 [u0, some (.inr (.inl v1)), u2] [.inr (.inl v1.toInt32.toInt8.toInt32.toInt64)] h
  exact J_lret (zat qX7_cut 6 (by rfl)) rfl (Nat.le_refl 0) (Nat.le_refl 0) k

theorem bX7_cut_37 {d : Nat} {Q : Option MV → MH → Prop} {h : MH} {u0 u2 : Option MV} {v1 : Int64} (k : Q (some (.inr (.inl v1.toInt32.toInt16.toInt32.toInt64))) h) : J mX7_cut d 0 0 Q 0 0 37 [u0, some (.inr (.inl v1)), u2] [] h := by
  refine zrun 7 4 qX7_cut (o := 7) rfl ?_
  show J mX7_cut d 0 0 Q 0 0 41 [u0, some (.inr (.inl v1)), u2] [.inr (.inl v1.toInt32.toInt16.toInt32.toInt64)] h
  exact J_lret (zat qX7_cut 11 (by rfl)) rfl (Nat.le_refl 0) (Nat.le_refl 0) k

theorem bX7_cut_42 {d : Nat} {Q : Option MV → MH → Prop} {h : MH} {u0 u2 : Option MV} {v1 : Int64} (k : Q (some (.inr (.inl v1.toInt32.toInt64))) h) : J mX7_cut d 0 0 Q 0 0 42 [u0, some (.inr (.inl v1)), u2] [] h := by
  refine zrun 12 3 qX7_cut (o := 7) rfl ?_
  show J mX7_cut d 0 0 Q 0 0 45 [u0, some (.inr (.inl v1)), u2] [.inr (.inl v1.toInt32.toInt64)] h
  exact J_lret (zat qX7_cut 15 (by rfl)) rfl (Nat.le_refl 0) (Nat.le_refl 0) k

theorem bX7_cut_46 {d : Nat} {Q : Option MV → MH → Prop} {h : MH} {u0 u2 : Option MV} {v1 : Int64} (k : Q (some (.inr (.inl v1))) h) : J mX7_cut d 0 0 Q 0 0 46 [u0, some (.inr (.inl v1)), u2] [] h := by
  refine zrun 16 1 qX7_cut (o := 7) rfl ?_
  show J mX7_cut d 0 0 Q 0 0 47 [u0, some (.inr (.inl v1)), u2] [.inr (.inl v1)] h
  exact J_lret (zat qX7_cut 17 (by rfl)) rfl (Nat.le_refl 0) (Nat.le_refl 0) k

