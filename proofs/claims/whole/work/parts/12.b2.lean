theorem bX2_init_4 {d mc ms cs ss : Nat} {Q : Option MV → MH → Prop} {h : MH} {v0 : Nat} (hc : cs ≤ mc ∧ ss ≤ ms) (k : J mX2_init d mc ms Q cs ss 7 [some (.inr (.inr v0))] [.inl (nI 8), .inr (.inr v0)] h) : J mX2_init d mc ms Q cs ss 4 [some (.inr (.inr v0))] [] h := by
  refine zrun 2 2 qX2_init (o := 2) rfl ?_
  show J mX2_init d mc ms Q cs ss 7 [some (.inr (.inr v0))] [.inl (nI 8), .inr (.inr v0)] h
  exact k

theorem bX2_has_0 {d : Nat} {Q : Option MV → MH → Prop} {h : MH} {u0 : Option MV} {v1 : Int32} (k1 : v1 < 0 → J mX2_has d 0 0 Q 0 0 16 [u0, some (.inl v1)] [] h) (k2 : ¬ v1 < 0 → J mX2_has d 0 0 Q 0 0 4 [u0, some (.inl v1)] [] h) : J mX2_has d 0 0 Q 0 0 0 [u0, some (.inl v1)] [] h := by
  refine zrun 0 2 qX2_has (o := 2) rfl ?_
  show ((v1 < 0 → J mX2_has d 0 0 Q 0 0 16 [u0, some (.inl v1)] [] h) ∧ (¬ v1 < 0 → J mX2_has d 0 0 Q 0 0 4 [u0, some (.inl v1)] [] h))
  exact ⟨k1, k2⟩

theorem bX2_has_4 {d : Nat} {Q : Option MV → MH → Prop} {h : MH} {v1 : Int32} {v0 : Nat} (g0 : zokO h v0 2) (k1 : (h.1 v0 0) ≤ v1 → J mX2_has d 0 0 Q 0 0 16 [some (.inr (.inr v0)), some (.inl v1)] [] h) (k2 : ¬ (h.1 v0 0) ≤ v1 → J mX2_has d 0 0 Q 0 0 12 [some (.inr (.inr v0)), some (.inl v1)] [] h) : J mX2_has d 0 0 Q 0 0 4 [some (.inr (.inr v0)), some (.inl v1)] [] h := by
  refine zrun 2 4 qX2_has (o := 2) rfl ?_
  show zokO h v0 2 ∧ (((h.1 v0 0) ≤ v1 → J mX2_has d 0 0 Q 0 0 16 [some (.inr (.inr v0)), some (.inl v1)] [] h) ∧ (¬ (h.1 v0 0) ≤ v1 → J mX2_has d 0 0 Q 0 0 12 [some (.inr (.inr v0)), some (.inl v1)] [] h))
  exact ⟨g0, k1, k2⟩

theorem bX2_has_12 {d : Nat} {Q : Option MV → MH → Prop} {h : MH} {u0 u1 : Option MV} (k : J mX2_has d 0 0 Q 0 0 17 [u0, u1] [.inl (nI 1)] h) : J mX2_has d 0 0 Q 0 0 12 [u0, u1] [] h := by
  refine zrun 6 2 qX2_has (o := 2) rfl ?_
  show J mX2_has d 0 0 Q 0 0 17 [u0, u1] [.inl (nI 1)] h
  exact k

theorem bX2_has_16 {d : Nat} {Q : Option MV → MH → Prop} {h : MH} {u0 u1 : Option MV} (k : J mX2_has d 0 0 Q 0 0 17 [u0, u1] [.inl (nI 0)] h) : J mX2_has d 0 0 Q 0 0 16 [u0, u1] [] h := by
  refine zrun 8 1 qX2_has (o := 2) rfl ?_
  show J mX2_has d 0 0 Q 0 0 17 [u0, u1] [.inl (nI 0)] h
  exact k

theorem bX2_has_17 {d : Nat} {Q : Option MV → MH → Prop} {h : MH} {u0 u1 : Option MV} {vs0 : Int32} (gn : vs0 = 0 ∨ vs0 = 1) (k : Q (some (.inl vs0)) h) : J mX2_has d 0 0 Q 0 0 17 [u0, u1] [.inl vs0] h := by
  exact J_iret (ty := .boolean) (zat qX2_has 9 (by rfl)) rfl (znz gn) (Nat.le_refl 0) (Nat.le_refl 0) k

theorem bX2_takeFrom_0 {d : Nat} {Q : Option MV → MH → Prop} {h : MH} {v0 v1 : Nat} (hr : zRf h) (g0 : zokO h v1 2) (g1 : zokO h v0 2) (hd : 1 ≤ d) (k : J mX2_takeFrom d 0 0 Q 0 0 23 [some (.inr (.inr v0)), some (.inr (.inr v1))] [] (zcI (zsI h v0 0 (h.1 v1 0)) (v1 + 1) (v0 + 1) 0 0 8)) : J mX2_takeFrom d 0 0 Q 0 0 0 [some (.inr (.inr v0)), some (.inr (.inr v1))] [] h := by
  refine zrun 0 11 qX2_takeFrom (o := 2) rfl ?_
  show zokO h v1 2 ∧ zokO h v0 2 ∧ zokO (zsI h v0 0 (h.1 v1 0)) v1 2 ∧ zokO (zsI h v0 0 (h.1 v1 0)) v0 2 ∧ J mX2_takeFrom d 0 0 Q 0 0 20 [some (.inr (.inr v0)), some (.inr (.inr v1))] [.inl (nI 8), .inl (nI 0), .inr (.inr (h.2.2.1 v0 1)), .inl (nI 0), .inr (.inr (h.2.2.1 v1 1))] (zsI h v0 0 (h.1 v1 0))
  rw [(show h.2.2.1 v1 1 = (v1 + 1) from (hr.f2 1 g0 (by decide))), (show h.2.2.1 v0 1 = (v0 + 1) from (hr.f2 1 g1 (by decide)))]
  exact ⟨g0, (g1), g0, g1, zcopy (N := 8) (zat qX2_takeFrom 11 (by rfl)) cp2_28 rfl hd (Nat.le_of_ble_eq_true rfl) (zoff_at hr g0 (by decide) (by decide)) (zoff_at hr g1 (by decide) (by decide)) (by decide) k⟩

theorem bX2_takeFrom_23 {d : Nat} {Q : Option MV → MH → Prop} {h : MH} {v1 v0 : Nat} (hr : zRf h) (g0 : zokO h v1 2) (g1 : zokO h v0 2) (hd : 1 ≤ d) (k : J mX2_takeFrom d 0 0 Q 0 0 38 [some (.inr (.inr v0)), some (.inr (.inr v1))] [] (zcI h (v1 + 2) (v0 + 2) 0 0 48)) : J mX2_takeFrom d 0 0 Q 0 0 23 [some (.inr (.inr v0)), some (.inr (.inr v1))] [] h := by
  refine zrun 12 7 qX2_takeFrom (o := 2) rfl ?_
  show zokO h v1 2 ∧ zokO h v0 2 ∧ J mX2_takeFrom d 0 0 Q 0 0 35 [some (.inr (.inr v0)), some (.inr (.inr v1))] [.inl (nI 48), .inl (nI 0), .inr (.inr (h.2.2.1 v0 2)), .inl (nI 0), .inr (.inr (h.2.2.1 v1 2))] h
  rw [(show h.2.2.1 v1 2 = (v1 + 2) from (hr.f2 2 g0 (by decide))), (show h.2.2.1 v0 2 = (v0 + 2) from (hr.f2 2 g1 (by decide)))]
  exact ⟨g0, g1, zcopy (N := 48) (zat qX2_takeFrom 19 (by rfl)) cp2_28 rfl hd (Nat.le_of_ble_eq_true rfl) (zoff_at hr g0 (by decide) (by decide)) (zoff_at hr g1 (by decide) (by decide)) (by decide) k⟩

theorem bX2_takeFrom_38 {d : Nat} {Q : Option MV → MH → Prop} {h : MH} {v1 v0 : Nat} (hr : zRf h) (g0 : zokO h v1 2) (g1 : zokO h v0 2) (hd : 1 ≤ d) (k : J mX2_takeFrom d 0 0 Q 0 0 53 [some (.inr (.inr v0)), some (.inr (.inr v1))] [] (zcI h (v1 + 3) (v0 + 3) 0 0 8)) : J mX2_takeFrom d 0 0 Q 0 0 38 [some (.inr (.inr v0)), some (.inr (.inr v1))] [] h := by
  refine zrun 20 7 qX2_takeFrom (o := 2) rfl ?_
  show zokO h v1 2 ∧ zokO h v0 2 ∧ J mX2_takeFrom d 0 0 Q 0 0 50 [some (.inr (.inr v0)), some (.inr (.inr v1))] [.inl (nI 8), .inl (nI 0), .inr (.inr (h.2.2.1 v0 3)), .inl (nI 0), .inr (.inr (h.2.2.1 v1 3))] h
  rw [(show h.2.2.1 v1 3 = (v1 + 3) from (hr.f2 3 g0 (by decide))), (show h.2.2.1 v0 3 = (v0 + 3) from (hr.f2 3 g1 (by decide)))]
  exact ⟨g0, g1, zcopy (N := 8) (zat qX2_takeFrom 27 (by rfl)) cp2_28 rfl hd (Nat.le_of_ble_eq_true rfl) (zoff_at hr g0 (by decide) (by decide)) (zoff_at hr g1 (by decide) (by decide)) (by decide) k⟩

theorem bX2_takeFrom_53 {d : Nat} {Q : Option MV → MH → Prop} {h : MH} {v1 v0 : Nat} (hr : zRf h) (g0 : zokO h v1 2) (g1 : zokO h v0 2) (hd : 1 ≤ d) (k : J mX2_takeFrom d 0 0 Q 0 0 68 [some (.inr (.inr v0)), some (.inr (.inr v1))] [] (zcI h (v1 + 4) (v0 + 4) 0 0 8)) : J mX2_takeFrom d 0 0 Q 0 0 53 [some (.inr (.inr v0)), some (.inr (.inr v1))] [] h := by
  refine zrun 28 7 qX2_takeFrom (o := 2) rfl ?_
  show zokO h v1 2 ∧ zokO h v0 2 ∧ J mX2_takeFrom d 0 0 Q 0 0 65 [some (.inr (.inr v0)), some (.inr (.inr v1))] [.inl (nI 8), .inl (nI 0), .inr (.inr (h.2.2.1 v0 4)), .inl (nI 0), .inr (.inr (h.2.2.1 v1 4))] h
  rw [(show h.2.2.1 v1 4 = (v1 + 4) from (hr.f2 4 g0 (by decide))), (show h.2.2.1 v0 4 = (v0 + 4) from (hr.f2 4 g1 (by decide)))]
  exact ⟨g0, g1, zcopy (N := 8) (zat qX2_takeFrom 35 (by rfl)) cp2_28 rfl hd (Nat.le_of_ble_eq_true rfl) (zoff_at hr g0 (by decide) (by decide)) (zoff_at hr g1 (by decide) (by decide)) (by decide) k⟩

theorem bX2_takeFrom_68 {d : Nat} {Q : Option MV → MH → Prop} {h : MH} {u0 u1 : Option MV} (k : Q none h) : J mX2_takeFrom d 0 0 Q 0 0 68 [u0, u1] [] h := by
  exact J_vret (zat qX2_takeFrom 36 (by rfl)) rfl (Nat.le_refl 0) (Nat.le_refl 0) k

theorem bX2_open_0 {d : Nat} {Q : Option MV → MH → Prop} {h : MH} {v0 : Nat} (g0 : zokO h v0 2) (k1 : (h.1 v0 0) < (nI 8) → J mX2_open d 0 0 Q 0 0 11 [some (.inr (.inr v0))] [] h) (k2 : ¬ (h.1 v0 0) < (nI 8) → J mX2_open d 0 0 Q 0 0 9 [some (.inr (.inr v0))] [] h) : J mX2_open d 0 0 Q 0 0 0 [some (.inr (.inr v0))] [] h := by
  refine zrun 0 4 qX2_open (o := 2) rfl ?_
  show zokO h v0 2 ∧ (((h.1 v0 0) < (nI 8) → J mX2_open d 0 0 Q 0 0 11 [some (.inr (.inr v0))] [] h) ∧ (¬ (h.1 v0 0) < (nI 8) → J mX2_open d 0 0 Q 0 0 9 [some (.inr (.inr v0))] [] h))
  exact ⟨g0, k1, k2⟩

theorem bX2_open_9 {d : Nat} {Q : Option MV → MH → Prop} {h : MH} {u0 : Option MV} (k : Q (some (.inl (-(nI 1)))) h) : J mX2_open d 0 0 Q 0 0 9 [u0] [] h := by
  refine zrun 4 1 qX2_open (o := 2) rfl ?_
  show J mX2_open d 0 0 Q 0 0 10 [u0] [.inl (-(nI 1))] h
  exact J_iret (ty := .int) (zat qX2_open 5 (by rfl)) rfl rfl (Nat.le_refl 0) (Nat.le_refl 0) k

theorem bX2_open_11 {d : Nat} {Q : Option MV → MH → Prop} {h : MH} {v0 : Nat} (hr : zRf h) (g0 : zokO h v0 2) (g1 : vp_in (h.1 v0 0) 8) (g2 : vp_in ((zsI h (v0 + 1) (h.1 v0 0).toNatClampNeg (nI 0)).1 v0 0) 8) (g3 : vp_in ((zsI (zsI h (v0 + 1) (h.1 v0 0).toNatClampNeg (nI 0)) (v0 + 3) ((zsI h (v0 + 1) (h.1 v0 0).toNatClampNeg (nI 0)).1 v0 0).toNatClampNeg (nI 60)).1 v0 0) 8) (k : Q (some (.inl (((zsI (zsI (zsI (zsI h (v0 + 1) (h.1 v0 0).toNatClampNeg (nI 0)) (v0 + 3) ((zsI h (v0 + 1) (h.1 v0 0).toNatClampNeg (nI 0)).1 v0 0).toNatClampNeg (nI 60)) (v0 + 4) ((zsI (zsI h (v0 + 1) (h.1 v0 0).toNatClampNeg (nI 0)) (v0 + 3) ((zsI h (v0 + 1) (h.1 v0 0).toNatClampNeg (nI 0)).1 v0 0).toNatClampNeg (nI 60)).1 v0 0).toNatClampNeg (nI 0)) v0 0 (((zsI (zsI (zsI h (v0 + 1) (h.1 v0 0).toNatClampNeg (nI 0)) (v0 + 3) ((zsI h (v0 + 1) (h.1 v0 0).toNatClampNeg (nI 0)).1 v0 0).toNatClampNeg (nI 60)) (v0 + 4) ((zsI (zsI h (v0 + 1) (h.1 v0 0).toNatClampNeg (nI 0)) (v0 + 3) ((zsI h (v0 + 1) (h.1 v0 0).toNatClampNeg (nI 0)).1 v0 0).toNatClampNeg (nI 60)).1 v0 0).toNatClampNeg (nI 0)).1 v0 0) + (nI 1))).1 v0 0) - (nI 1)))) (zsI (zsI (zsI (zsI h (v0 + 1) (h.1 v0 0).toNatClampNeg (nI 0)) (v0 + 3) ((zsI h (v0 + 1) (h.1 v0 0).toNatClampNeg (nI 0)).1 v0 0).toNatClampNeg (nI 60)) (v0 + 4) ((zsI (zsI h (v0 + 1) (h.1 v0 0).toNatClampNeg (nI 0)) (v0 + 3) ((zsI h (v0 + 1) (h.1 v0 0).toNatClampNeg (nI 0)).1 v0 0).toNatClampNeg (nI 60)).1 v0 0).toNatClampNeg (nI 0)) v0 0 (((zsI (zsI (zsI h (v0 + 1) (h.1 v0 0).toNatClampNeg (nI 0)) (v0 + 3) ((zsI h (v0 + 1) (h.1 v0 0).toNatClampNeg (nI 0)).1 v0 0).toNatClampNeg (nI 60)) (v0 + 4) ((zsI (zsI h (v0 + 1) (h.1 v0 0).toNatClampNeg (nI 0)) (v0 + 3) ((zsI h (v0 + 1) (h.1 v0 0).toNatClampNeg (nI 0)).1 v0 0).toNatClampNeg (nI 60)).1 v0 0).toNatClampNeg (nI 0)).1 v0 0) + (nI 1)))) : J mX2_open d 0 0 Q 0 0 11 [some (.inr (.inr v0))] [] h := by
  refine zrun 6 28 qX2_open (o := 2) rfl ?_
  show zokO h v0 2 ∧ zokO h v0 2 ∧ zokA h (h.2.2.1 v0 1) 20 (h.1 v0 0) ∧ zokO (zsI h (h.2.2.1 v0 1) (h.1 v0 0).toNatClampNeg (nI 0)) v0 2 ∧ zokO (zsI h (h.2.2.1 v0 1) (h.1 v0 0).toNatClampNeg (nI 0)) v0 2 ∧ zokA (zsI h (h.2.2.1 v0 1) (h.1 v0 0).toNatClampNeg (nI 0)) (h.2.2.1 v0 3) 20 ((zsI h (h.2.2.1 v0 1) (h.1 v0 0).toNatClampNeg (nI 0)).1 v0 0) ∧ zokO (zsI (zsI h (h.2.2.1 v0 1) (h.1 v0 0).toNatClampNeg (nI 0)) (h.2.2.1 v0 3) ((zsI h (h.2.2.1 v0 1) (h.1 v0 0).toNatClampNeg (nI 0)).1 v0 0).toNatClampNeg (nI 60)) v0 2 ∧ zokO (zsI (zsI h (h.2.2.1 v0 1) (h.1 v0 0).toNatClampNeg (nI 0)) (h.2.2.1 v0 3) ((zsI h (h.2.2.1 v0 1) (h.1 v0 0).toNatClampNeg (nI 0)).1 v0 0).toNatClampNeg (nI 60)) v0 2 ∧ zokA (zsI (zsI h (h.2.2.1 v0 1) (h.1 v0 0).toNatClampNeg (nI 0)) (h.2.2.1 v0 3) ((zsI h (h.2.2.1 v0 1) (h.1 v0 0).toNatClampNeg (nI 0)).1 v0 0).toNatClampNeg (nI 60)) (h.2.2.1 v0 4) 20 ((zsI (zsI h (h.2.2.1 v0 1) (h.1 v0 0).toNatClampNeg (nI 0)) (h.2.2.1 v0 3) ((zsI h (h.2.2.1 v0 1) (h.1 v0 0).toNatClampNeg (nI 0)).1 v0 0).toNatClampNeg (nI 60)).1 v0 0) ∧ zokO (zsI (zsI (zsI h (h.2.2.1 v0 1) (h.1 v0 0).toNatClampNeg (nI 0)) (h.2.2.1 v0 3) ((zsI h (h.2.2.1 v0 1) (h.1 v0 0).toNatClampNeg (nI 0)).1 v0 0).toNatClampNeg (nI 60)) (h.2.2.1 v0 4) ((zsI (zsI h (h.2.2.1 v0 1) (h.1 v0 0).toNatClampNeg (nI 0)) (h.2.2.1 v0 3) ((zsI h (h.2.2.1 v0 1) (h.1 v0 0).toNatClampNeg (nI 0)).1 v0 0).toNatClampNeg (nI 60)).1 v0 0).toNatClampNeg (nI 0)) v0 2 ∧ zokO (zsI (zsI (zsI h (h.2.2.1 v0 1) (h.1 v0 0).toNatClampNeg (nI 0)) (h.2.2.1 v0 3) ((zsI h (h.2.2.1 v0 1) (h.1 v0 0).toNatClampNeg (nI 0)).1 v0 0).toNatClampNeg (nI 60)) (h.2.2.1 v0 4) ((zsI (zsI h (h.2.2.1 v0 1) (h.1 v0 0).toNatClampNeg (nI 0)) (h.2.2.1 v0 3) ((zsI h (h.2.2.1 v0 1) (h.1 v0 0).toNatClampNeg (nI 0)).1 v0 0).toNatClampNeg (nI 60)).1 v0 0).toNatClampNeg (nI 0)) v0 2 ∧ zokO (zsI (zsI (zsI (zsI h (h.2.2.1 v0 1) (h.1 v0 0).toNatClampNeg (nI 0)) (h.2.2.1 v0 3) ((zsI h (h.2.2.1 v0 1) (h.1 v0 0).toNatClampNeg (nI 0)).1 v0 0).toNatClampNeg (nI 60)) (h.2.2.1 v0 4) ((zsI (zsI h (h.2.2.1 v0 1) (h.1 v0 0).toNatClampNeg (nI 0)) (h.2.2.1 v0 3) ((zsI h (h.2.2.1 v0 1) (h.1 v0 0).toNatClampNeg (nI 0)).1 v0 0).toNatClampNeg (nI 60)).1 v0 0).toNatClampNeg (nI 0)) v0 0 (((zsI (zsI (zsI h (h.2.2.1 v0 1) (h.1 v0 0).toNatClampNeg (nI 0)) (h.2.2.1 v0 3) ((zsI h (h.2.2.1 v0 1) (h.1 v0 0).toNatClampNeg (nI 0)).1 v0 0).toNatClampNeg (nI 60)) (h.2.2.1 v0 4) ((zsI (zsI h (h.2.2.1 v0 1) (h.1 v0 0).toNatClampNeg (nI 0)) (h.2.2.1 v0 3) ((zsI h (h.2.2.1 v0 1) (h.1 v0 0).toNatClampNeg (nI 0)).1 v0 0).toNatClampNeg (nI 60)).1 v0 0).toNatClampNeg (nI 0)).1 v0 0) + (nI 1))) v0 2 ∧ J mX2_open d 0 0 Q 0 0 58 [some (.inr (.inr v0))] [.inl (((zsI (zsI (zsI (zsI h (h.2.2.1 v0 1) (h.1 v0 0).toNatClampNeg (nI 0)) (h.2.2.1 v0 3) ((zsI h (h.2.2.1 v0 1) (h.1 v0 0).toNatClampNeg (nI 0)).1 v0 0).toNatClampNeg (nI 60)) (h.2.2.1 v0 4) ((zsI (zsI h (h.2.2.1 v0 1) (h.1 v0 0).toNatClampNeg (nI 0)) (h.2.2.1 v0 3) ((zsI h (h.2.2.1 v0 1) (h.1 v0 0).toNatClampNeg (nI 0)).1 v0 0).toNatClampNeg (nI 60)).1 v0 0).toNatClampNeg (nI 0)) v0 0 (((zsI (zsI (zsI h (h.2.2.1 v0 1) (h.1 v0 0).toNatClampNeg (nI 0)) (h.2.2.1 v0 3) ((zsI h (h.2.2.1 v0 1) (h.1 v0 0).toNatClampNeg (nI 0)).1 v0 0).toNatClampNeg (nI 60)) (h.2.2.1 v0 4) ((zsI (zsI h (h.2.2.1 v0 1) (h.1 v0 0).toNatClampNeg (nI 0)) (h.2.2.1 v0 3) ((zsI h (h.2.2.1 v0 1) (h.1 v0 0).toNatClampNeg (nI 0)).1 v0 0).toNatClampNeg (nI 60)).1 v0 0).toNatClampNeg (nI 0)).1 v0 0) + (nI 1))).1 v0 0) - (nI 1))] (zsI (zsI (zsI (zsI h (h.2.2.1 v0 1) (h.1 v0 0).toNatClampNeg (nI 0)) (h.2.2.1 v0 3) ((zsI h (h.2.2.1 v0 1) (h.1 v0 0).toNatClampNeg (nI 0)).1 v0 0).toNatClampNeg (nI 60)) (h.2.2.1 v0 4) ((zsI (zsI h (h.2.2.1 v0 1) (h.1 v0 0).toNatClampNeg (nI 0)) (h.2.2.1 v0 3) ((zsI h (h.2.2.1 v0 1) (h.1 v0 0).toNatClampNeg (nI 0)).1 v0 0).toNatClampNeg (nI 60)).1 v0 0).toNatClampNeg (nI 0)) v0 0 (((zsI (zsI (zsI h (h.2.2.1 v0 1) (h.1 v0 0).toNatClampNeg (nI 0)) (h.2.2.1 v0 3) ((zsI h (h.2.2.1 v0 1) (h.1 v0 0).toNatClampNeg (nI 0)).1 v0 0).toNatClampNeg (nI 60)) (h.2.2.1 v0 4) ((zsI (zsI h (h.2.2.1 v0 1) (h.1 v0 0).toNatClampNeg (nI 0)) (h.2.2.1 v0 3) ((zsI h (h.2.2.1 v0 1) (h.1 v0 0).toNatClampNeg (nI 0)).1 v0 0).toNatClampNeg (nI 60)).1 v0 0).toNatClampNeg (nI 0)).1 v0 0) + (nI 1)))
  rw [(show h.2.2.1 v0 1 = (v0 + 1) from (hr.f2 1 g0 (by decide))), (show h.2.2.1 v0 3 = (v0 + 3) from (hr.f2 3 g0 (by decide))), (show h.2.2.1 v0 4 = (v0 + 4) from (hr.f2 4 g0 (by decide)))]
  exact ⟨g0, g0, (zca hr g0 (by decide) (by decide) g1), g0, g0, (zca hr g0 (by decide) (by decide) g2), g0, g0, (zca hr g0 (by decide) (by decide) g3), g0, (g0), g0, J_iret (ty := .int) (zat qX2_open 34 (by rfl)) rfl rfl (Nat.le_refl 0) (Nat.le_refl 0) k⟩

theorem bX2_addPiece_0 {d d' : Nat} {Q : Option MV → MH → Prop} {h : MH} {u2 : Option MV} {v1 : Int32} {v0 : Nat} (gr : zokO h v0 2) (hd : d' + 1 ≤ d) (k : Con mX2_has d' 0 0 [.inr (.inr v0), .inl v1] h (zri fun (x : Int32) h' => J mX2_addPiece d 0 0 Q 0 0 5 [some (.inr (.inr v0)), some (.inl v1), u2] [.inl x] h')) : J mX2_addPiece d 0 0 Q 0 0 0 [some (.inr (.inr v0)), some (.inl v1), u2] [] h := by
  refine zrun 0 2 qX2_addPiece (o := 2) rfl ?_
  show J mX2_addPiece d 0 0 Q 0 0 2 [some (.inr (.inr v0)), some (.inl v1), u2] [.inl v1, .inr (.inr v0)] h
  exact zcVi (as := [.inl v1]) (zat qX2_addPiece 2 (by rfl)) l2_34 rfl hd rfl (Nat.le_of_ble_eq_true rfl) zle0 (ci := 2) (by decide) rfl gr k

theorem bX2_addPiece_5 {d : Nat} {Q : Option MV → MH → Prop} {h : MH} {u0 u1 u2 : Option MV} {vs0 : Int32} (k1 : vs0 = 0 → J mX2_addPiece d 0 0 Q 0 0 19 [u0, u1, u2] [] h) (k2 : ¬ vs0 = 0 → J mX2_addPiece d 0 0 Q 0 0 8 [u0, u1, u2] [] h) : J mX2_addPiece d 0 0 Q 0 0 5 [u0, u1, u2] [.inl vs0] h := by
  refine zrun 3 1 qX2_addPiece (o := 2) rfl ?_
  show ((vs0 = 0 → J mX2_addPiece d 0 0 Q 0 0 19 [u0, u1, u2] [] h) ∧ (¬ vs0 = 0 → J mX2_addPiece d 0 0 Q 0 0 8 [u0, u1, u2] [] h))
  exact ⟨k1, k2⟩

theorem bX2_addPiece_8 {d : Nat} {Q : Option MV → MH → Prop} {h : MH} {u2 : Option MV} {v1 : Int32} {v0 : Nat} (hr : zRf h) (g0 : zokO h v0 2) (g1 : vp_in v1 8) (k1 : (h.1 (v0 + 1) v1.toNatClampNeg) < (nI 6) → J mX2_addPiece d 0 0 Q 0 0 21 [some (.inr (.inr v0)), some (.inl v1), u2] [] h) (k2 : ¬ (h.1 (v0 + 1) v1.toNatClampNeg) < (nI 6) → J mX2_addPiece d 0 0 Q 0 0 19 [some (.inr (.inr v0)), some (.inl v1), u2] [] h) : J mX2_addPiece d 0 0 Q 0 0 8 [some (.inr (.inr v0)), some (.inl v1), u2] [] h := by
  refine zrun 4 6 qX2_addPiece (o := 2) rfl ?_
  show zokO h v0 2 ∧ zokA h (h.2.2.1 v0 1) 20 v1 ∧ (((h.1 (h.2.2.1 v0 1) v1.toNatClampNeg) < (nI 6) → J mX2_addPiece d 0 0 Q 0 0 21 [some (.inr (.inr v0)), some (.inl v1), u2] [] h) ∧ (¬ (h.1 (h.2.2.1 v0 1) v1.toNatClampNeg) < (nI 6) → J mX2_addPiece d 0 0 Q 0 0 19 [some (.inr (.inr v0)), some (.inl v1), u2] [] h))
  rw [(show h.2.2.1 v0 1 = (v0 + 1) from (hr.f2 1 g0 (by decide)))]
  exact ⟨g0, (zca hr g0 (by decide) (by decide) g1), k1, k2⟩

theorem bX2_addPiece_19 {d : Nat} {Q : Option MV → MH → Prop} {h : MH} {u0 u1 u2 : Option MV} (k : Q (some (.inl (nI 0))) h) : J mX2_addPiece d 0 0 Q 0 0 19 [u0, u1, u2] [] h := by
  refine zrun 10 1 qX2_addPiece (o := 2) rfl ?_
  show J mX2_addPiece d 0 0 Q 0 0 20 [u0, u1, u2] [.inl (nI 0)] h
  exact J_iret (ty := .boolean) (zat qX2_addPiece 11 (by rfl)) rfl (by decide) (Nat.le_refl 0) (Nat.le_refl 0) k

theorem bX2_addPiece_21 {d : Nat} {Q : Option MV → MH → Prop} {h : MH} {v1 v2 : Int32} {v0 : Nat} (hr : zRf h) (g0 : zokO h v0 2) (g1 : vp_in v1 8) (g2 : vp_in ((v1 * (nI 6)) + (h.1 (v0 + 1) v1.toNatClampNeg)) 48) (k : Q (some (.inl (nI 1))) (zsI (zsI h (v0 + 2) ((v1 * (nI 6)) + (h.1 (v0 + 1) v1.toNatClampNeg)).toNatClampNeg v2) (v0 + 1) v1.toNatClampNeg (((zsI h (v0 + 2) ((v1 * (nI 6)) + (h.1 (v0 + 1) v1.toNatClampNeg)).toNatClampNeg v2).1 (v0 + 1) v1.toNatClampNeg) + (nI 1)))) : J mX2_addPiece d 0 0 Q 0 0 21 [some (.inr (.inr v0)), some (.inl v1), some (.inl v2)] [] h := by
  refine zrun 12 21 qX2_addPiece (o := 2) rfl ?_
  show zokO h v0 2 ∧ zokO h v0 2 ∧ zokA h (h.2.2.1 v0 1) 20 v1 ∧ zokA h (h.2.2.1 v0 2) 20 ((v1 * (nI 6)) + (h.1 (h.2.2.1 v0 1) v1.toNatClampNeg)) ∧ zokO (zsI h (h.2.2.1 v0 2) ((v1 * (nI 6)) + (h.1 (h.2.2.1 v0 1) v1.toNatClampNeg)).toNatClampNeg v2) v0 2 ∧ zokA (zsI h (h.2.2.1 v0 2) ((v1 * (nI 6)) + (h.1 (h.2.2.1 v0 1) v1.toNatClampNeg)).toNatClampNeg v2) (h.2.2.1 v0 1) 20 v1 ∧ zokA (zsI h (h.2.2.1 v0 2) ((v1 * (nI 6)) + (h.1 (h.2.2.1 v0 1) v1.toNatClampNeg)).toNatClampNeg v2) (h.2.2.1 v0 1) 20 v1 ∧ J mX2_addPiece d 0 0 Q 0 0 49 [some (.inr (.inr v0)), some (.inl v1), some (.inl v2)] [.inl (nI 1)] (zsI (zsI h (h.2.2.1 v0 2) ((v1 * (nI 6)) + (h.1 (h.2.2.1 v0 1) v1.toNatClampNeg)).toNatClampNeg v2) (h.2.2.1 v0 1) v1.toNatClampNeg (((zsI h (h.2.2.1 v0 2) ((v1 * (nI 6)) + (h.1 (h.2.2.1 v0 1) v1.toNatClampNeg)).toNatClampNeg v2).1 (h.2.2.1 v0 1) v1.toNatClampNeg) + (nI 1)))
  rw [(show h.2.2.1 v0 2 = (v0 + 2) from (hr.f2 2 g0 (by decide))), (show h.2.2.1 v0 1 = (v0 + 1) from (hr.f2 1 g0 (by decide)))]
  exact ⟨g0, g0, (zca hr g0 (by decide) (by decide) g1), (zca hr g0 (by decide) (by decide) g2), g0, (zca hr g0 (by decide) (by decide) g1), (zca hr g0 (by decide) (by decide) g1), J_iret (ty := .boolean) (zat qX2_addPiece 33 (by rfl)) rfl (by decide) (Nat.le_refl 0) (Nat.le_refl 0) k⟩

theorem bX2_sparksOfPiece_0 {d d' : Nat} {Q : Option MV → MH → Prop} {h : MH} {u2 : Option MV} {v1 : Int32} {v0 : Nat} (gr : zokO h v0 2) (hd : d' + 1 ≤ d) (k : Con mX2_has d' 0 0 [.inr (.inr v0), .inl v1] h (zri fun (x : Int32) h' => J mX2_sparksOfPiece d 0 0 Q 0 0 5 [some (.inr (.inr v0)), some (.inl v1), u2] [.inl x] h')) : J mX2_sparksOfPiece d 0 0 Q 0 0 0 [some (.inr (.inr v0)), some (.inl v1), u2] [] h := by
  refine zrun 0 2 qX2_sparksOfPiece (o := 2) rfl ?_
  show J mX2_sparksOfPiece d 0 0 Q 0 0 2 [some (.inr (.inr v0)), some (.inl v1), u2] [.inl v1, .inr (.inr v0)] h
  exact zcVi (as := [.inl v1]) (zat qX2_sparksOfPiece 2 (by rfl)) l2_34 rfl hd rfl (Nat.le_of_ble_eq_true rfl) zle0 (ci := 2) (by decide) rfl gr k

theorem bX2_sparksOfPiece_5 {d : Nat} {Q : Option MV → MH → Prop} {h : MH} {u0 u1 u2 : Option MV} {vs0 : Int32} (k1 : vs0 = 0 → J mX2_sparksOfPiece d 0 0 Q 0 0 22 [u0, u1, u2] [] h) (k2 : ¬ vs0 = 0 → J mX2_sparksOfPiece d 0 0 Q 0 0 8 [u0, u1, u2] [] h) : J mX2_sparksOfPiece d 0 0 Q 0 0 5 [u0, u1, u2] [.inl vs0] h := by
  refine zrun 3 1 qX2_sparksOfPiece (o := 2) rfl ?_
  show ((vs0 = 0 → J mX2_sparksOfPiece d 0 0 Q 0 0 22 [u0, u1, u2] [] h) ∧ (¬ vs0 = 0 → J mX2_sparksOfPiece d 0 0 Q 0 0 8 [u0, u1, u2] [] h))
  exact ⟨k1, k2⟩

theorem bX2_sparksOfPiece_8 {d : Nat} {Q : Option MV → MH → Prop} {h : MH} {u0 u1 : Option MV} {v2 : Int32} (k1 : v2 < 0 → J mX2_sparksOfPiece d 0 0 Q 0 0 22 [u0, u1, some (.inl v2)] [] h) (k2 : ¬ v2 < 0 → J mX2_sparksOfPiece d 0 0 Q 0 0 12 [u0, u1, some (.inl v2)] [] h) : J mX2_sparksOfPiece d 0 0 Q 0 0 8 [u0, u1, some (.inl v2)] [] h := by
  refine zrun 4 2 qX2_sparksOfPiece (o := 2) rfl ?_
  show ((v2 < 0 → J mX2_sparksOfPiece d 0 0 Q 0 0 22 [u0, u1, some (.inl v2)] [] h) ∧ (¬ v2 < 0 → J mX2_sparksOfPiece d 0 0 Q 0 0 12 [u0, u1, some (.inl v2)] [] h))
  exact ⟨k1, k2⟩

theorem bX2_sparksOfPiece_12 {d : Nat} {Q : Option MV → MH → Prop} {h : MH} {v2 v1 : Int32} {v0 : Nat} (hr : zRf h) (g0 : zokO h v0 2) (g1 : vp_in v1 8) (k1 : v2 < (h.1 (v0 + 1) v1.toNatClampNeg) → J mX2_sparksOfPiece d 0 0 Q 0 0 24 [some (.inr (.inr v0)), some (.inl v1), some (.inl v2)] [] h) (k2 : ¬ v2 < (h.1 (v0 + 1) v1.toNatClampNeg) → J mX2_sparksOfPiece d 0 0 Q 0 0 22 [some (.inr (.inr v0)), some (.inl v1), some (.inl v2)] [] h) : J mX2_sparksOfPiece d 0 0 Q 0 0 12 [some (.inr (.inr v0)), some (.inl v1), some (.inl v2)] [] h := by
  refine zrun 6 6 qX2_sparksOfPiece (o := 2) rfl ?_
  show zokO h v0 2 ∧ zokA h (h.2.2.1 v0 1) 20 v1 ∧ ((v2 < (h.1 (h.2.2.1 v0 1) v1.toNatClampNeg) → J mX2_sparksOfPiece d 0 0 Q 0 0 24 [some (.inr (.inr v0)), some (.inl v1), some (.inl v2)] [] h) ∧ (¬ v2 < (h.1 (h.2.2.1 v0 1) v1.toNatClampNeg) → J mX2_sparksOfPiece d 0 0 Q 0 0 22 [some (.inr (.inr v0)), some (.inl v1), some (.inl v2)] [] h))
  rw [(show h.2.2.1 v0 1 = (v0 + 1) from (hr.f2 1 g0 (by decide)))]
  exact ⟨g0, (zca hr g0 (by decide) (by decide) g1), k1, k2⟩

theorem bX2_sparksOfPiece_22 {d : Nat} {Q : Option MV → MH → Prop} {h : MH} {u0 u1 u2 : Option MV} (k : Q (some (.inl (nI 0))) h) : J mX2_sparksOfPiece d 0 0 Q 0 0 22 [u0, u1, u2] [] h := by
  refine zrun 12 1 qX2_sparksOfPiece (o := 2) rfl ?_
  show J mX2_sparksOfPiece d 0 0 Q 0 0 23 [u0, u1, u2] [.inl (nI 0)] h
  exact J_iret (ty := .int) (zat qX2_sparksOfPiece 13 (by rfl)) rfl rfl (Nat.le_refl 0) (Nat.le_refl 0) k

theorem bX2_sparksOfPiece_24 {d : Nat} {Q : Option MV → MH → Prop} {h : MH} {v1 v2 : Int32} {v0 : Nat} (hr : zRf h) (g0 : zokO h v0 2) (g1 : vp_in ((v1 * (nI 6)) + v2) 48) (k : Q (some (.inl ((h.1 (v0 + 2) ((v1 * (nI 6)) + v2).toNatClampNeg) * (nI 256)))) h) : J mX2_sparksOfPiece d 0 0 Q 0 0 24 [some (.inr (.inr v0)), some (.inl v1), some (.inl v2)] [] h := by
  refine zrun 14 10 qX2_sparksOfPiece (o := 2) rfl ?_
  show zokO h v0 2 ∧ zokA h (h.2.2.1 v0 2) 20 ((v1 * (nI 6)) + v2) ∧ J mX2_sparksOfPiece d 0 0 Q 0 0 39 [some (.inr (.inr v0)), some (.inl v1), some (.inl v2)] [.inl ((h.1 (h.2.2.1 v0 2) ((v1 * (nI 6)) + v2).toNatClampNeg) * (nI 256))] h
  rw [(show h.2.2.1 v0 2 = (v0 + 2) from (hr.f2 2 g0 (by decide)))]
  exact ⟨g0, (zca hr g0 (by decide) (by decide) g1), J_iret (ty := .int) (zat qX2_sparksOfPiece 24 (by rfl)) rfl rfl (Nat.le_refl 0) (Nat.le_refl 0) k⟩

theorem bX2_sparksBefore_0 {d : Nat} {Q : Option MV → MH → Prop} {h : MH} {u0 u1 u3 u4 : Option MV} {v2 : Int32} (k : J mX2_sparksBefore d 0 0 Q 0 0 5 [u0, u1, some (.inl v2), some (.inl (nI 0)), some (.inl (nI 0))] [] h) : J mX2_sparksBefore d 0 0 Q 0 0 0 [u0, u1, some (.inl v2), u3, u4] [] h := by
  refine zrun 0 4 qX2_sparksBefore (o := 2) rfl ?_
  show J mX2_sparksBefore d 0 0 Q 0 0 5 [u0, u1, some (.inl v2), some (.inl (nI 0)), some (.inl (nI 0))] [] h
  exact k

theorem bX2_sparksBefore_5 {d : Nat} {Q : Option MV → MH → Prop} {h : MH} {u0 u1 u3 : Option MV} {v4 v2 : Int32} (k1 : v2 ≤ v4 → J mX2_sparksBefore d 0 0 Q 0 0 34 [u0, u1, some (.inl v2), u3, some (.inl v4)] [] h) (k2 : ¬ v2 ≤ v4 → J mX2_sparksBefore d 0 0 Q 0 0 11 [u0, u1, some (.inl v2), u3, some (.inl v4)] [] h) : J mX2_sparksBefore d 0 0 Q 0 0 5 [u0, u1, some (.inl v2), u3, some (.inl v4)] [] h := by
  refine zrun 4 3 qX2_sparksBefore (o := 2) rfl ?_
  show ((v2 ≤ v4 → J mX2_sparksBefore d 0 0 Q 0 0 34 [u0, u1, some (.inl v2), u3, some (.inl v4)] [] h) ∧ (¬ v2 ≤ v4 → J mX2_sparksBefore d 0 0 Q 0 0 11 [u0, u1, some (.inl v2), u3, some (.inl v4)] [] h))
  exact ⟨k1, k2⟩

theorem bX2_sparksBefore_11 {d : Nat} {Q : Option MV → MH → Prop} {h : MH} {u0 u1 u2 u3 : Option MV} {v4 : Int32} (k1 : (nI 6) ≤ v4 → J mX2_sparksBefore d 0 0 Q 0 0 34 [u0, u1, u2, u3, some (.inl v4)] [] h) (k2 : ¬ (nI 6) ≤ v4 → J mX2_sparksBefore d 0 0 Q 0 0 18 [u0, u1, u2, u3, some (.inl v4)] [] h) : J mX2_sparksBefore d 0 0 Q 0 0 11 [u0, u1, u2, u3, some (.inl v4)] [] h := by
  refine zrun 7 3 qX2_sparksBefore (o := 2) rfl ?_
  show (((nI 6) ≤ v4 → J mX2_sparksBefore d 0 0 Q 0 0 34 [u0, u1, u2, u3, some (.inl v4)] [] h) ∧ (¬ (nI 6) ≤ v4 → J mX2_sparksBefore d 0 0 Q 0 0 18 [u0, u1, u2, u3, some (.inl v4)] [] h))
  exact ⟨k1, k2⟩

theorem bX2_sparksBefore_18 {d d' : Nat} {Q : Option MV → MH → Prop} {h : MH} {u2 : Option MV} {v3 v1 v4 : Int32} {v0 : Nat} (gr : zokO h v0 2) (hd : d' + 1 ≤ d) (k : Con mX2_sparksOfPiece d' 0 0 [.inr (.inr v0), .inl v1, .inl v4] h (zri fun (x : Int32) h' => J mX2_sparksBefore d 0 0 Q 0 0 26 [some (.inr (.inr v0)), some (.inl v1), u2, some (.inl v3), some (.inl v4)] [.inl x, .inl v3] h')) : J mX2_sparksBefore d 0 0 Q 0 0 18 [some (.inr (.inr v0)), some (.inl v1), u2, some (.inl v3), some (.inl v4)] [] h := by
  refine zrun 10 4 qX2_sparksBefore (o := 2) rfl ?_
  show J mX2_sparksBefore d 0 0 Q 0 0 23 [some (.inr (.inr v0)), some (.inl v1), u2, some (.inl v3), some (.inl v4)] [.inl v4, .inl v1, .inr (.inr v0), .inl v3] h
  exact zcVi (as := [.inl v1, .inl v4]) (zat qX2_sparksBefore 14 (by rfl)) l2_38 rfl hd rfl (Nat.le_of_ble_eq_true rfl) zle0 (ci := 2) (by decide) rfl gr k

theorem bX2_sparksBefore_26 {d : Nat} {Q : Option MV → MH → Prop} {h : MH} {u0 u1 u3 : Option MV} {vs0 vs1 v2 v4 : Int32} (k : J mX2_sparksBefore d 0 0 Q 0 0 5 [u0, u1, some (.inl v2), some (.inl (vs0 + vs1)), some (.inl (v4 + nI 1))] [] h) : J mX2_sparksBefore d 0 0 Q 0 0 26 [u0, u1, some (.inl v2), u3, some (.inl v4)] [.inl vs1, .inl vs0] h := by
  refine zrun 15 4 qX2_sparksBefore (o := 2) rfl ?_
  show J mX2_sparksBefore d 0 0 Q 0 0 5 [u0, u1, some (.inl v2), some (.inl (vs0 + vs1)), some (.inl (v4 + nI 1))] [] h
  exact k

theorem bX2_sparksBefore_34 {d : Nat} {Q : Option MV → MH → Prop} {h : MH} {u0 u1 u2 u4 : Option MV} {v3 : Int32} (k : Q (some (.inl v3)) h) : J mX2_sparksBefore d 0 0 Q 0 0 34 [u0, u1, u2, some (.inl v3), u4] [] h := by
  refine zrun 19 1 qX2_sparksBefore (o := 2) rfl ?_
  show J mX2_sparksBefore d 0 0 Q 0 0 35 [u0, u1, u2, some (.inl v3), u4] [.inl v3] h
  exact J_iret (ty := .int) (zat qX2_sparksBefore 20 (by rfl)) rfl rfl (Nat.le_refl 0) (Nat.le_refl 0) k

theorem bX2_sparksOf_0 {d d' : Nat} {Q : Option MV → MH → Prop} {h : MH} {v1 : Int32} {v0 : Nat} (gr : zokO h v0 2) (hd : d' + 1 ≤ d) (k : Con mX2_sparksBefore d' 0 0 [.inr (.inr v0), .inl v1, .inl (nI 6)] h (zri fun (x : Int32) h' => J mX2_sparksOf d 0 0 Q 0 0 7 [some (.inr (.inr v0)), some (.inl v1)] [.inl x] h')) : J mX2_sparksOf d 0 0 Q 0 0 0 [some (.inr (.inr v0)), some (.inl v1)] [] h := by
  refine zrun 0 3 qX2_sparksOf (o := 2) rfl ?_
  show J mX2_sparksOf d 0 0 Q 0 0 4 [some (.inr (.inr v0)), some (.inl v1)] [.inl (nI 6), .inl v1, .inr (.inr v0)] h
  exact zcVi (as := [.inl v1, .inl (nI 6)]) (zat qX2_sparksOf 3 (by rfl)) l2_42 rfl hd rfl (Nat.le_of_ble_eq_true rfl) zle0 (ci := 2) (by decide) rfl gr k

theorem bX2_sparksOf_7 {d : Nat} {Q : Option MV → MH → Prop} {h : MH} {u0 u1 : Option MV} {vs0 : Int32} (k : Q (some (.inl vs0)) h) : J mX2_sparksOf d 0 0 Q 0 0 7 [u0, u1] [.inl vs0] h := by
  exact J_iret (ty := .int) (zat qX2_sparksOf 4 (by rfl)) rfl rfl (Nat.le_refl 0) (Nat.le_refl 0) k

theorem bX2_sparksOfSet_0 {d : Nat} {Q : Option MV → MH → Prop} {h : MH} {u0 u2 u3 : Option MV} {v1 : Int32} (k : J mX2_sparksOfSet d 0 0 Q 0 0 4 [u0, some (.inl v1), some (.inl (nI 0)), some (.inl (nI 0))] [] h) : J mX2_sparksOfSet d 0 0 Q 0 0 0 [u0, some (.inl v1), u2, u3] [] h := by
  refine zrun 0 4 qX2_sparksOfSet (o := 2) rfl ?_
  show J mX2_sparksOfSet d 0 0 Q 0 0 4 [u0, some (.inl v1), some (.inl (nI 0)), some (.inl (nI 0))] [] h
  exact k

theorem bX2_sparksOfSet_4 {d : Nat} {Q : Option MV → MH → Prop} {h : MH} {u1 u2 : Option MV} {v3 : Int32} {v0 : Nat} (g0 : zokO h v0 2) (k1 : (h.1 v0 0) ≤ v3 → J mX2_sparksOfSet d 0 0 Q 0 0 34 [some (.inr (.inr v0)), u1, u2, some (.inl v3)] [] h) (k2 : ¬ (h.1 v0 0) ≤ v3 → J mX2_sparksOfSet d 0 0 Q 0 0 12 [some (.inr (.inr v0)), u1, u2, some (.inl v3)] [] h) : J mX2_sparksOfSet d 0 0 Q 0 0 4 [some (.inr (.inr v0)), u1, u2, some (.inl v3)] [] h := by
  refine zrun 4 4 qX2_sparksOfSet (o := 2) rfl ?_
  show zokO h v0 2 ∧ (((h.1 v0 0) ≤ v3 → J mX2_sparksOfSet d 0 0 Q 0 0 34 [some (.inr (.inr v0)), u1, u2, some (.inl v3)] [] h) ∧ (¬ (h.1 v0 0) ≤ v3 → J mX2_sparksOfSet d 0 0 Q 0 0 12 [some (.inr (.inr v0)), u1, u2, some (.inl v3)] [] h))
  exact ⟨g0, k1, k2⟩

theorem bX2_sparksOfSet_12 {d : Nat} {Q : Option MV → MH → Prop} {h : MH} {u0 u2 : Option MV} {v1 v3 : Int32} (k1 : ((v1 >>> (v3 &&& 31)) &&& (nI 1)) = 0 → J mX2_sparksOfSet d 0 0 Q 0 0 28 [u0, some (.inl v1), u2, some (.inl v3)] [] h) (k2 : ¬ ((v1 >>> (v3 &&& 31)) &&& (nI 1)) = 0 → J mX2_sparksOfSet d 0 0 Q 0 0 20 [u0, some (.inl v1), u2, some (.inl v3)] [] h) : J mX2_sparksOfSet d 0 0 Q 0 0 12 [u0, some (.inl v1), u2, some (.inl v3)] [] h := by
  refine zrun 8 6 qX2_sparksOfSet (o := 2) rfl ?_
  show ((((v1 >>> (v3 &&& 31)) &&& (nI 1)) = 0 → J mX2_sparksOfSet d 0 0 Q 0 0 28 [u0, some (.inl v1), u2, some (.inl v3)] [] h) ∧ (¬ ((v1 >>> (v3 &&& 31)) &&& (nI 1)) = 0 → J mX2_sparksOfSet d 0 0 Q 0 0 20 [u0, some (.inl v1), u2, some (.inl v3)] [] h))
  exact ⟨k1, k2⟩

theorem bX2_sparksOfSet_20 {d d' : Nat} {Q : Option MV → MH → Prop} {h : MH} {u1 : Option MV} {v2 v3 : Int32} {v0 : Nat} (gr : zokO h v0 2) (hd : d' + 1 ≤ d) (k : Con mX2_sparksOf d' 0 0 [.inr (.inr v0), .inl v3] h (zri fun (x : Int32) h' => J mX2_sparksOfSet d 0 0 Q 0 0 26 [some (.inr (.inr v0)), u1, some (.inl v2), some (.inl v3)] [.inl x, .inl v2] h')) : J mX2_sparksOfSet d 0 0 Q 0 0 20 [some (.inr (.inr v0)), u1, some (.inl v2), some (.inl v3)] [] h := by
  refine zrun 14 3 qX2_sparksOfSet (o := 2) rfl ?_
  show J mX2_sparksOfSet d 0 0 Q 0 0 23 [some (.inr (.inr v0)), u1, some (.inl v2), some (.inl v3)] [.inl v3, .inr (.inr v0), .inl v2] h
  exact zcVi (as := [.inl v3]) (zat qX2_sparksOfSet 17 (by rfl)) l2_45 rfl hd rfl (Nat.le_of_ble_eq_true rfl) zle0 (ci := 2) (by decide) rfl gr k

theorem bX2_sparksOfSet_26 {d : Nat} {Q : Option MV → MH → Prop} {h : MH} {u0 u2 u3 : Option MV} {vs0 vs1 v1 : Int32} (k : J mX2_sparksOfSet d 0 0 Q 0 0 28 [u0, some (.inl v1), some (.inl (vs0 + vs1)), u3] [] h) : J mX2_sparksOfSet d 0 0 Q 0 0 26 [u0, some (.inl v1), u2, u3] [.inl vs1, .inl vs0] h := by
  refine zrun 18 2 qX2_sparksOfSet (o := 2) rfl ?_
  show J mX2_sparksOfSet d 0 0 Q 0 0 28 [u0, some (.inl v1), some (.inl (vs0 + vs1)), u3] [] h
  exact k

theorem bX2_sparksOfSet_28 {d : Nat} {Q : Option MV → MH → Prop} {h : MH} {u0 u1 : Option MV} {v3 v2 : Int32} (k : J mX2_sparksOfSet d 0 0 Q 0 0 4 [u0, u1, some (.inl v2), some (.inl (v3 + nI 1))] [] h) : J mX2_sparksOfSet d 0 0 Q 0 0 28 [u0, u1, some (.inl v2), some (.inl v3)] [] h := by
  refine zrun 20 2 qX2_sparksOfSet (o := 2) rfl ?_
  show J mX2_sparksOfSet d 0 0 Q 0 0 4 [u0, u1, some (.inl v2), some (.inl (v3 + nI 1))] [] h
  exact k

theorem bX2_sparksOfSet_34 {d : Nat} {Q : Option MV → MH → Prop} {h : MH} {u0 u1 u3 : Option MV} {v2 : Int32} (k : Q (some (.inl v2)) h) : J mX2_sparksOfSet d 0 0 Q 0 0 34 [u0, u1, some (.inl v2), u3] [] h := by
  refine zrun 22 1 qX2_sparksOfSet (o := 2) rfl ?_
  show J mX2_sparksOfSet d 0 0 Q 0 0 35 [u0, u1, some (.inl v2), u3] [.inl v2] h
  exact J_iret (ty := .int) (zat qX2_sparksOfSet 23 (by rfl)) rfl rfl (Nat.le_refl 0) (Nat.le_refl 0) k

theorem bX2_allWax_0 {d : Nat} {Q : Option MV → MH → Prop} {h : MH} {u1 u2 : Option MV} {v0 : Nat} (k : J mX2_allWax d 0 0 Q 0 0 4 [some (.inr (.inr v0)), some (.inl (nI 0)), some (.inl (nI 0))] [] h) : J mX2_allWax d 0 0 Q 0 0 0 [some (.inr (.inr v0)), u1, u2] [] h := by
  refine zrun 0 4 qX2_allWax (o := 2) rfl ?_
  show J mX2_allWax d 0 0 Q 0 0 4 [some (.inr (.inr v0)), some (.inl (nI 0)), some (.inl (nI 0))] [] h
  exact k

theorem bX2_allWax_4 {d : Nat} {Q : Option MV → MH → Prop} {h : MH} {u1 : Option MV} {v2 : Int32} {v0 : Nat} (g0 : zokO h v0 2) (k1 : (h.1 v0 0) ≤ v2 → J mX2_allWax d 0 0 Q 0 0 27 [some (.inr (.inr v0)), u1, some (.inl v2)] [] h) (k2 : ¬ (h.1 v0 0) ≤ v2 → J mX2_allWax d 0 0 Q 0 0 12 [some (.inr (.inr v0)), u1, some (.inl v2)] [] h) : J mX2_allWax d 0 0 Q 0 0 4 [some (.inr (.inr v0)), u1, some (.inl v2)] [] h := by
  refine zrun 4 4 qX2_allWax (o := 2) rfl ?_
  show zokO h v0 2 ∧ (((h.1 v0 0) ≤ v2 → J mX2_allWax d 0 0 Q 0 0 27 [some (.inr (.inr v0)), u1, some (.inl v2)] [] h) ∧ (¬ (h.1 v0 0) ≤ v2 → J mX2_allWax d 0 0 Q 0 0 12 [some (.inr (.inr v0)), u1, some (.inl v2)] [] h))
  exact ⟨g0, k1, k2⟩

theorem bX2_allWax_12 {d : Nat} {Q : Option MV → MH → Prop} {h : MH} {v1 v2 : Int32} {v0 : Nat} (hr : zRf h) (g0 : zokO h v0 2) (g1 : vp_in v2 8) (k : J mX2_allWax d 0 0 Q 0 0 4 [some (.inr (.inr v0)), some (.inl (v1 + (h.1 (v0 + 3) v2.toNatClampNeg))), some (.inl (v2 + nI 1))] [] h) : J mX2_allWax d 0 0 Q 0 0 12 [some (.inr (.inr v0)), some (.inl v1), some (.inl v2)] [] h := by
  refine zrun 8 9 qX2_allWax (o := 2) rfl ?_
  show zokO h v0 2 ∧ zokA h (h.2.2.1 v0 3) 20 v2 ∧ J mX2_allWax d 0 0 Q 0 0 4 [some (.inr (.inr v0)), some (.inl (v1 + (h.1 (h.2.2.1 v0 3) v2.toNatClampNeg))), some (.inl (v2 + nI 1))] [] h
  rw [(show h.2.2.1 v0 3 = (v0 + 3) from (hr.f2 3 g0 (by decide)))]
  exact ⟨g0, (zca hr g0 (by decide) (by decide) g1), k⟩

theorem bX2_allWax_27 {d : Nat} {Q : Option MV → MH → Prop} {h : MH} {u0 u2 : Option MV} {v1 : Int32} (k : Q (some (.inl v1)) h) : J mX2_allWax d 0 0 Q 0 0 27 [u0, some (.inl v1), u2] [] h := by
  refine zrun 17 1 qX2_allWax (o := 2) rfl ?_
  show J mX2_allWax d 0 0 Q 0 0 28 [u0, some (.inl v1), u2] [.inl v1] h
  exact J_iret (ty := .int) (zat qX2_allWax 18 (by rfl)) rfl rfl (Nat.le_refl 0) (Nat.le_refl 0) k

theorem bX2_nextPiece_0 {d d' : Nat} {Q : Option MV → MH → Prop} {h : MH} {u2 u3 u4 u5 u6 : Option MV} {v1 : Int32} {v0 : Nat} (gr : zokO h v0 2) (hd : d' + 1 ≤ d) (k : Con mX2_has d' 0 0 [.inr (.inr v0), .inl v1] h (zri fun (x : Int32) h' => J mX2_nextPiece d 0 0 Q 0 0 5 [some (.inr (.inr v0)), some (.inl v1), u2, u3, u4, u5, u6] [.inl x] h')) : J mX2_nextPiece d 0 0 Q 0 0 0 [some (.inr (.inr v0)), some (.inl v1), u2, u3, u4, u5, u6] [] h := by
  refine zrun 0 2 qX2_nextPiece (o := 2) rfl ?_
  show J mX2_nextPiece d 0 0 Q 0 0 2 [some (.inr (.inr v0)), some (.inl v1), u2, u3, u4, u5, u6] [.inl v1, .inr (.inr v0)] h
  exact zcVi (as := [.inl v1]) (zat qX2_nextPiece 2 (by rfl)) l2_34 rfl hd rfl (Nat.le_of_ble_eq_true rfl) zle0 (ci := 2) (by decide) rfl gr k

theorem bX2_nextPiece_5 {d : Nat} {Q : Option MV → MH → Prop} {h : MH} {u0 u1 u2 u3 u4 u5 u6 : Option MV} {vs0 : Int32} (k1 : ¬ vs0 = 0 → J mX2_nextPiece d 0 0 Q 0 0 10 [u0, u1, u2, u3, u4, u5, u6] [] h) (k2 : vs0 = 0 → J mX2_nextPiece d 0 0 Q 0 0 8 [u0, u1, u2, u3, u4, u5, u6] [] h) : J mX2_nextPiece d 0 0 Q 0 0 5 [u0, u1, u2, u3, u4, u5, u6] [.inl vs0] h := by
  refine zrun 3 1 qX2_nextPiece (o := 2) rfl ?_
  show ((¬ vs0 = 0 → J mX2_nextPiece d 0 0 Q 0 0 10 [u0, u1, u2, u3, u4, u5, u6] [] h) ∧ (vs0 = 0 → J mX2_nextPiece d 0 0 Q 0 0 8 [u0, u1, u2, u3, u4, u5, u6] [] h))
  exact ⟨k1, k2⟩

theorem bX2_nextPiece_8 {d : Nat} {Q : Option MV → MH → Prop} {h : MH} {u0 u1 u2 u3 u4 u5 u6 : Option MV} (k : Q (some (.inl (-(nI 1)))) h) : J mX2_nextPiece d 0 0 Q 0 0 8 [u0, u1, u2, u3, u4, u5, u6] [] h := by
  refine zrun 4 1 qX2_nextPiece (o := 2) rfl ?_
  show J mX2_nextPiece d 0 0 Q 0 0 9 [u0, u1, u2, u3, u4, u5, u6] [.inl (-(nI 1))] h
  exact J_iret (ty := .int) (zat qX2_nextPiece 5 (by rfl)) rfl rfl (Nat.le_refl 0) (Nat.le_refl 0) k

theorem bX2_nextPiece_10 {d : Nat} {Q : Option MV → MH → Prop} {h : MH} {u0 u1 u4 u5 u6 : Option MV} {v2 v3 : Int32} (k : J mX2_nextPiece d 0 0 Q 0 0 16 [u0, u1, some (.inl v2), some (.inl v3), some (.inl v2), some (.inl (nI 0)), u6] [] h) : J mX2_nextPiece d 0 0 Q 0 0 10 [u0, u1, some (.inl v2), some (.inl v3), u4, u5, u6] [] h := by
  refine zrun 6 4 qX2_nextPiece (o := 2) rfl ?_
  show J mX2_nextPiece d 0 0 Q 0 0 16 [u0, u1, some (.inl v2), some (.inl v3), some (.inl v2), some (.inl (nI 0)), u6] [] h
  exact k

theorem bX2_nextPiece_16 {d : Nat} {Q : Option MV → MH → Prop} {h : MH} {u2 u3 u4 u6 : Option MV} {v5 v1 : Int32} {v0 : Nat} (hr : zRf h) (g0 : zokO h v0 2) (g1 : vp_in v1 8) (k1 : (h.1 (v0 + 1) v1.toNatClampNeg) ≤ v5 → J mX2_nextPiece d 0 0 Q 0 0 82 [some (.inr (.inr v0)), some (.inl v1), u2, u3, u4, some (.inl v5), u6] [] h) (k2 : ¬ (h.1 (v0 + 1) v1.toNatClampNeg) ≤ v5 → J mX2_nextPiece d 0 0 Q 0 0 27 [some (.inr (.inr v0)), some (.inl v1), u2, u3, u4, some (.inl v5), u6] [] h) : J mX2_nextPiece d 0 0 Q 0 0 16 [some (.inr (.inr v0)), some (.inl v1), u2, u3, u4, some (.inl v5), u6] [] h := by
  refine zrun 10 6 qX2_nextPiece (o := 2) rfl ?_
  show zokO h v0 2 ∧ zokA h (h.2.2.1 v0 1) 20 v1 ∧ (((h.1 (h.2.2.1 v0 1) v1.toNatClampNeg) ≤ v5 → J mX2_nextPiece d 0 0 Q 0 0 82 [some (.inr (.inr v0)), some (.inl v1), u2, u3, u4, some (.inl v5), u6] [] h) ∧ (¬ (h.1 (h.2.2.1 v0 1) v1.toNatClampNeg) ≤ v5 → J mX2_nextPiece d 0 0 Q 0 0 27 [some (.inr (.inr v0)), some (.inl v1), u2, u3, u4, some (.inl v5), u6] [] h))
  rw [(show h.2.2.1 v0 1 = (v0 + 1) from (hr.f2 1 g0 (by decide)))]
  exact ⟨g0, (zca hr g0 (by decide) (by decide) g1), k1, k2⟩

theorem bX2_nextPiece_27 {d : Nat} {Q : Option MV → MH → Prop} {h : MH} {u0 u1 u2 u4 u5 u6 : Option MV} {v3 : Int32} (k1 : v3 = 0 → J mX2_nextPiece d 0 0 Q 0 0 45 [u0, u1, u2, some (.inl v3), u4, u5, u6] [] h) (k2 : ¬ v3 = 0 → J mX2_nextPiece d 0 0 Q 0 0 31 [u0, u1, u2, some (.inl v3), u4, u5, u6] [] h) : J mX2_nextPiece d 0 0 Q 0 0 27 [u0, u1, u2, some (.inl v3), u4, u5, u6] [] h := by
  refine zrun 16 2 qX2_nextPiece (o := 2) rfl ?_
  show ((v3 = 0 → J mX2_nextPiece d 0 0 Q 0 0 45 [u0, u1, u2, some (.inl v3), u4, u5, u6] [] h) ∧ (¬ v3 = 0 → J mX2_nextPiece d 0 0 Q 0 0 31 [u0, u1, u2, some (.inl v3), u4, u5, u6] [] h))
  exact ⟨k1, k2⟩

theorem bX2_nextPiece_31 {d : Nat} {Q : Option MV → MH → Prop} {h : MH} {u2 u3 u4 u6 : Option MV} {v1 v5 : Int32} {v0 : Nat} (hr : zRf h) (g0 : zokO h v0 2) (g1 : vp_in v1 8) (k : J mX2_nextPiece d 0 0 Q 0 0 47 [some (.inr (.inr v0)), some (.inl v1), u2, u3, u4, some (.inl v5), u6] [.inl (((h.1 (v0 + 1) v1.toNatClampNeg) - (nI 1)) - v5)] h) : J mX2_nextPiece d 0 0 Q 0 0 31 [some (.inr (.inr v0)), some (.inl v1), u2, u3, u4, some (.inl v5), u6] [] h := by
  refine zrun 18 9 qX2_nextPiece (o := 2) rfl ?_
  show zokO h v0 2 ∧ zokA h (h.2.2.1 v0 1) 20 v1 ∧ J mX2_nextPiece d 0 0 Q 0 0 47 [some (.inr (.inr v0)), some (.inl v1), u2, u3, u4, some (.inl v5), u6] [.inl (((h.1 (h.2.2.1 v0 1) v1.toNatClampNeg) - (nI 1)) - v5)] h
  rw [(show h.2.2.1 v0 1 = (v0 + 1) from (hr.f2 1 g0 (by decide)))]
  exact ⟨g0, (zca hr g0 (by decide) (by decide) g1), k⟩

theorem bX2_nextPiece_45 {d : Nat} {Q : Option MV → MH → Prop} {h : MH} {u0 u1 u2 u3 u4 u6 : Option MV} {v5 : Int32} (k : J mX2_nextPiece d 0 0 Q 0 0 47 [u0, u1, u2, u3, u4, some (.inl v5), u6] [.inl v5] h) : J mX2_nextPiece d 0 0 Q 0 0 45 [u0, u1, u2, u3, u4, some (.inl v5), u6] [] h := by
  refine zrun 27 1 qX2_nextPiece (o := 2) rfl ?_
  show J mX2_nextPiece d 0 0 Q 0 0 47 [u0, u1, u2, u3, u4, some (.inl v5), u6] [.inl v5] h
  exact k

theorem bX2_nextPiece_47 {d d' : Nat} {Q : Option MV → MH → Prop} {h : MH} {u2 u3 u6 : Option MV} {vs0 v5 v4 v1 : Int32} {v0 : Nat} (gr : zokO h v0 2) (hd : d' + 1 ≤ d) (k : Con mX2_sparksOfPiece d' 0 0 [.inr (.inr v0), .inl v1, .inl vs0] h (zri fun (x : Int32) h' => J mX2_nextPiece d 0 0 Q 0 0 58 [some (.inr (.inr v0)), some (.inl v1), u2, u3, some (.inl v4), some (.inl v5), some (.inl vs0)] [.inl x, .inl v4] h')) : J mX2_nextPiece d 0 0 Q 0 0 47 [some (.inr (.inr v0)), some (.inl v1), u2, u3, some (.inl v4), some (.inl v5), u6] [.inl vs0] h := by
  refine zrun 28 5 qX2_nextPiece (o := 2) rfl ?_
  show J mX2_nextPiece d 0 0 Q 0 0 55 [some (.inr (.inr v0)), some (.inl v1), u2, u3, some (.inl v4), some (.inl v5), some (.inl vs0)] [.inl vs0, .inl v1, .inr (.inr v0), .inl v4] h
  exact zcVi (as := [.inl v1, .inl vs0]) (zat qX2_nextPiece 33 (by rfl)) l2_38 rfl hd rfl (Nat.le_of_ble_eq_true rfl) zle0 (ci := 2) (by decide) rfl gr k

theorem bX2_nextPiece_58 {d : Nat} {Q : Option MV → MH → Prop} {h : MH} {u0 u1 u2 u3 u4 u5 u6 : Option MV} {vs0 vs1 : Int32} (k1 : vs1 ≤ vs0 → J mX2_nextPiece d 0 0 Q 0 0 64 [u0, u1, u2, u3, u4, u5, u6] [] h) (k2 : ¬ vs1 ≤ vs0 → J mX2_nextPiece d 0 0 Q 0 0 61 [u0, u1, u2, u3, u4, u5, u6] [] h) : J mX2_nextPiece d 0 0 Q 0 0 58 [u0, u1, u2, u3, u4, u5, u6] [.inl vs1, .inl vs0] h := by
  refine zrun 34 1 qX2_nextPiece (o := 2) rfl ?_
  show ((vs1 ≤ vs0 → J mX2_nextPiece d 0 0 Q 0 0 64 [u0, u1, u2, u3, u4, u5, u6] [] h) ∧ (¬ vs1 ≤ vs0 → J mX2_nextPiece d 0 0 Q 0 0 61 [u0, u1, u2, u3, u4, u5, u6] [] h))
  exact ⟨k1, k2⟩

theorem bX2_nextPiece_61 {d : Nat} {Q : Option MV → MH → Prop} {h : MH} {u0 u1 u2 u3 u4 u5 : Option MV} {v6 : Int32} (k : Q (some (.inl v6)) h) : J mX2_nextPiece d 0 0 Q 0 0 61 [u0, u1, u2, u3, u4, u5, some (.inl v6)] [] h := by
  refine zrun 35 1 qX2_nextPiece (o := 2) rfl ?_
  show J mX2_nextPiece d 0 0 Q 0 0 63 [u0, u1, u2, u3, u4, u5, some (.inl v6)] [.inl v6] h
  exact J_iret (ty := .int) (zat qX2_nextPiece 36 (by rfl)) rfl rfl (Nat.le_refl 0) (Nat.le_refl 0) k

theorem bX2_nextPiece_64 {d d' : Nat} {Q : Option MV → MH → Prop} {h : MH} {u2 u3 u5 : Option MV} {v4 v1 v6 : Int32} {v0 : Nat} (gr : zokO h v0 2) (hd : d' + 1 ≤ d) (k : Con mX2_sparksOfPiece d' 0 0 [.inr (.inr v0), .inl v1, .inl v6] h (zri fun (x : Int32) h' => J mX2_nextPiece d 0 0 Q 0 0 73 [some (.inr (.inr v0)), some (.inl v1), u2, u3, some (.inl v4), u5, some (.inl v6)] [.inl x, .inl v4] h')) : J mX2_nextPiece d 0 0 Q 0 0 64 [some (.inr (.inr v0)), some (.inl v1), u2, u3, some (.inl v4), u5, some (.inl v6)] [] h := by
  refine zrun 37 4 qX2_nextPiece (o := 2) rfl ?_
  show J mX2_nextPiece d 0 0 Q 0 0 70 [some (.inr (.inr v0)), some (.inl v1), u2, u3, some (.inl v4), u5, some (.inl v6)] [.inl v6, .inl v1, .inr (.inr v0), .inl v4] h
  exact zcVi (as := [.inl v1, .inl v6]) (zat qX2_nextPiece 41 (by rfl)) l2_38 rfl hd rfl (Nat.le_of_ble_eq_true rfl) zle0 (ci := 2) (by decide) rfl gr k

theorem bX2_nextPiece_73 {d : Nat} {Q : Option MV → MH → Prop} {h : MH} {u0 u1 u2 u4 u6 : Option MV} {vs0 vs1 v3 v5 : Int32} (k : J mX2_nextPiece d 0 0 Q 0 0 16 [u0, u1, u2, some (.inl v3), some (.inl (vs0 - vs1)), some (.inl (v5 + nI 1)), u6] [] h) : J mX2_nextPiece d 0 0 Q 0 0 73 [u0, u1, u2, some (.inl v3), u4, some (.inl v5), u6] [.inl vs1, .inl vs0] h := by
  refine zrun 42 4 qX2_nextPiece (o := 2) rfl ?_
  show J mX2_nextPiece d 0 0 Q 0 0 16 [u0, u1, u2, some (.inl v3), some (.inl (vs0 - vs1)), some (.inl (v5 + nI 1)), u6] [] h
  exact k

theorem bX2_nextPiece_82 {d : Nat} {Q : Option MV → MH → Prop} {h : MH} {u0 u1 u2 u3 u4 u5 u6 : Option MV} (k : Q (some (.inl (-(nI 1)))) h) : J mX2_nextPiece d 0 0 Q 0 0 82 [u0, u1, u2, u3, u4, u5, u6] [] h := by
  refine zrun 46 1 qX2_nextPiece (o := 2) rfl ?_
  show J mX2_nextPiece d 0 0 Q 0 0 83 [u0, u1, u2, u3, u4, u5, u6] [.inl (-(nI 1))] h
  exact J_iret (ty := .int) (zat qX2_nextPiece 47 (by rfl)) rfl rfl (Nat.le_refl 0) (Nat.le_refl 0) k

theorem bX2_thousandths_0 {d d' : Nat} {Q : Option MV → MH → Prop} {h : MH} {u3 u4 u5 u6 : Option MV} {v1 v2 : Int32} {v0 : Nat} (gr : zokO h v0 2) (hd : d' + 1 ≤ d) (k : Con mX2_nextPiece d' 0 0 [.inr (.inr v0), .inl v1, .inl v2, .inl (nI 0)] h (zri fun (x : Int32) h' => J mX2_thousandths d 0 0 Q 0 0 7 [some (.inr (.inr v0)), some (.inl v1), some (.inl v2), u3, u4, u5, u6] [.inl x] h')) : J mX2_thousandths d 0 0 Q 0 0 0 [some (.inr (.inr v0)), some (.inl v1), some (.inl v2), u3, u4, u5, u6] [] h := by
  refine zrun 0 4 qX2_thousandths (o := 2) rfl ?_
  show J mX2_thousandths d 0 0 Q 0 0 4 [some (.inr (.inr v0)), some (.inl v1), some (.inl v2), u3, u4, u5, u6] [.inl (nI 0), .inl v2, .inl v1, .inr (.inr v0)] h
  exact zcVi (as := [.inl v1, .inl v2, .inl (nI 0)]) (zat qX2_thousandths 4 (by rfl)) l2_49 rfl hd rfl (Nat.le_of_ble_eq_true rfl) zle0 (ci := 2) (by decide) rfl gr k

theorem bX2_thousandths_7 {d : Nat} {Q : Option MV → MH → Prop} {h : MH} {u0 u1 u2 u4 u5 u6 : Option MV} {vs0 v3 : Int32} (k1 : ¬ vs0 = (-(nI 1)) → J mX2_thousandths d 0 0 Q 0 0 19 [u0, u1, u2, some (.inl v3), some (.inl vs0), u5, u6] [] h) (k2 : vs0 = (-(nI 1)) → J mX2_thousandths d 0 0 Q 0 0 15 [u0, u1, u2, some (.inl v3), some (.inl vs0), u5, u6] [] h) : J mX2_thousandths d 0 0 Q 0 0 7 [u0, u1, u2, some (.inl v3), u4, u5, u6] [.inl vs0] h := by
  refine zrun 5 4 qX2_thousandths (o := 2) rfl ?_
  show ((¬ vs0 = (-(nI 1)) → J mX2_thousandths d 0 0 Q 0 0 19 [u0, u1, u2, some (.inl v3), some (.inl vs0), u5, u6] [] h) ∧ (vs0 = (-(nI 1)) → J mX2_thousandths d 0 0 Q 0 0 15 [u0, u1, u2, some (.inl v3), some (.inl vs0), u5, u6] [] h))
  exact ⟨k1, k2⟩

theorem bX2_thousandths_15 {d : Nat} {Q : Option MV → MH → Prop} {h : MH} {u0 u1 u2 u3 u4 u5 u6 : Option MV} (k : J mX2_thousandths d 0 0 Q 0 0 33 [u0, u1, u2, u3, u4, u5, u6] [.inl (nI 0)] h) : J mX2_thousandths d 0 0 Q 0 0 15 [u0, u1, u2, u3, u4, u5, u6] [] h := by
  refine zrun 9 2 qX2_thousandths (o := 2) rfl ?_
  show J mX2_thousandths d 0 0 Q 0 0 33 [u0, u1, u2, u3, u4, u5, u6] [.inl (nI 0)] h
  exact k

theorem bX2_thousandths_19 {d d' : Nat} {Q : Option MV → MH → Prop} {h : MH} {u2 u3 u5 u6 : Option MV} {v1 v4 : Int32} {v0 : Nat} (hr : zRf h) (g0 : zokO h v0 2) (g1 : vp_in v1 8) (hd : d' + 1 ≤ d) (k : Con mX2_sparksOfPiece d' 0 0 [.inr (.inr v0), .inl v1, .inl v4] h (zri fun (x : Int32) h' => J mX2_thousandths d 0 0 Q 0 0 32 [some (.inr (.inr v0)), some (.inl v1), u2, u3, some (.inl v4), u5, u6] [.inl x, .inl (h.1 (v0 + 1) v1.toNatClampNeg)] h')) : J mX2_thousandths d 0 0 Q 0 0 19 [some (.inr (.inr v0)), some (.inl v1), u2, u3, some (.inl v4), u5, u6] [] h := by
  refine zrun 11 7 qX2_thousandths (o := 2) rfl ?_
  show zokO h v0 2 ∧ zokA h (h.2.2.1 v0 1) 20 v1 ∧ J mX2_thousandths d 0 0 Q 0 0 29 [some (.inr (.inr v0)), some (.inl v1), u2, u3, some (.inl v4), u5, u6] [.inl v4, .inl v1, .inr (.inr v0), .inl (h.1 (h.2.2.1 v0 1) v1.toNatClampNeg)] h
  rw [(show h.2.2.1 v0 1 = (v0 + 1) from (hr.f2 1 g0 (by decide)))]
  exact ⟨g0, (zca hr g0 (by decide) (by decide) g1), zcVi (as := [.inl v1, .inl v4]) (zat qX2_thousandths 18 (by rfl)) l2_38 rfl hd rfl (Nat.le_of_ble_eq_true rfl) zle0 (ci := 2) (by decide) rfl g0 k⟩

theorem bX2_thousandths_32 {d : Nat} {Q : Option MV → MH → Prop} {h : MH} {u0 u1 u2 u3 u4 u5 u6 : Option MV} {vs0 vs1 : Int32} (k : J mX2_thousandths d 0 0 Q 0 0 33 [u0, u1, u2, u3, u4, u5, u6] [.inl (vs0 * vs1)] h) : J mX2_thousandths d 0 0 Q 0 0 32 [u0, u1, u2, u3, u4, u5, u6] [.inl vs1, .inl vs0] h := by
  refine zrun 19 1 qX2_thousandths (o := 2) rfl ?_
  show J mX2_thousandths d 0 0 Q 0 0 33 [u0, u1, u2, u3, u4, u5, u6] [.inl (vs0 * vs1)] h
  exact k

theorem bX2_thousandths_33 {d : Nat} {Q : Option MV → MH → Prop} {h : MH} {u0 u1 u2 u3 u5 u6 : Option MV} {vs0 v4 : Int32} (k1 : 0 < vs0 → J mX2_thousandths d 0 0 Q 0 0 52 [u0, u1, u2, u3, some (.inl v4), some (.inl vs0), u6] [] h) (k2 : ¬ 0 < vs0 → J mX2_thousandths d 0 0 Q 0 0 40 [u0, u1, u2, u3, some (.inl v4), some (.inl vs0), u6] [] h) : J mX2_thousandths d 0 0 Q 0 0 33 [u0, u1, u2, u3, some (.inl v4), u5, u6] [.inl vs0] h := by
  refine zrun 20 3 qX2_thousandths (o := 2) rfl ?_
  show ((0 < vs0 → J mX2_thousandths d 0 0 Q 0 0 52 [u0, u1, u2, u3, some (.inl v4), some (.inl vs0), u6] [] h) ∧ (¬ 0 < vs0 → J mX2_thousandths d 0 0 Q 0 0 40 [u0, u1, u2, u3, some (.inl v4), some (.inl vs0), u6] [] h))
  exact ⟨k1, k2⟩

theorem bX2_thousandths_40 {d : Nat} {Q : Option MV → MH → Prop} {h : MH} {u0 u1 u2 u4 u5 u6 : Option MV} {v3 : Int32} (k1 : v3 = 0 → J mX2_thousandths d 0 0 Q 0 0 48 [u0, u1, u2, some (.inl v3), u4, u5, u6] [] h) (k2 : ¬ v3 = 0 → J mX2_thousandths d 0 0 Q 0 0 44 [u0, u1, u2, some (.inl v3), u4, u5, u6] [] h) : J mX2_thousandths d 0 0 Q 0 0 40 [u0, u1, u2, some (.inl v3), u4, u5, u6] [] h := by
  refine zrun 23 2 qX2_thousandths (o := 2) rfl ?_
  show ((v3 = 0 → J mX2_thousandths d 0 0 Q 0 0 48 [u0, u1, u2, some (.inl v3), u4, u5, u6] [] h) ∧ (¬ v3 = 0 → J mX2_thousandths d 0 0 Q 0 0 44 [u0, u1, u2, some (.inl v3), u4, u5, u6] [] h))
  exact ⟨k1, k2⟩

theorem bX2_thousandths_44 {d : Nat} {Q : Option MV → MH → Prop} {h : MH} {u0 u1 u2 u3 u4 u5 u6 : Option MV} (k : J mX2_thousandths d 0 0 Q 0 0 51 [u0, u1, u2, u3, u4, u5, u6] [.inl (nI 0)] h) : J mX2_thousandths d 0 0 Q 0 0 44 [u0, u1, u2, u3, u4, u5, u6] [] h := by
  refine zrun 25 2 qX2_thousandths (o := 2) rfl ?_
  show J mX2_thousandths d 0 0 Q 0 0 51 [u0, u1, u2, u3, u4, u5, u6] [.inl (nI 0)] h
  exact k

theorem bX2_thousandths_48 {d : Nat} {Q : Option MV → MH → Prop} {h : MH} {u0 u1 u2 u3 u4 u5 u6 : Option MV} (k : J mX2_thousandths d 0 0 Q 0 0 51 [u0, u1, u2, u3, u4, u5, u6] [.inl (nI 1000)] h) : J mX2_thousandths d 0 0 Q 0 0 48 [u0, u1, u2, u3, u4, u5, u6] [] h := by
  refine zrun 27 1 qX2_thousandths (o := 2) rfl ?_
  show J mX2_thousandths d 0 0 Q 0 0 51 [u0, u1, u2, u3, u4, u5, u6] [.inl (nI 1000)] h
  exact k

theorem bX2_thousandths_51 {d : Nat} {Q : Option MV → MH → Prop} {h : MH} {u0 u1 u2 u3 u4 u5 u6 : Option MV} {vs0 : Int32} (k : Q (some (.inl vs0)) h) : J mX2_thousandths d 0 0 Q 0 0 51 [u0, u1, u2, u3, u4, u5, u6] [.inl vs0] h := by
  exact J_iret (ty := .int) (zat qX2_thousandths 28 (by rfl)) rfl rfl (Nat.le_refl 0) (Nat.le_refl 0) k

theorem bX2_thousandths_52 {d d' : Nat} {Q : Option MV → MH → Prop} {h : MH} {u2 u3 u5 u6 : Option MV} {v4 v1 : Int32} {v0 : Nat} (gr : zokO h v0 2) (hd : d' + 1 ≤ d) (k : Con mX2_sparksOfPiece d' 0 0 [.inr (.inr v0), .inl v1, .inl v4] h (zri fun (x : Int32) h' => J mX2_thousandths d 0 0 Q 0 0 61 [some (.inr (.inr v0)), some (.inl v1), u2, u3, some (.inl v4), u5, u6] [.inl x, .inl v4] h')) : J mX2_thousandths d 0 0 Q 0 0 52 [some (.inr (.inr v0)), some (.inl v1), u2, u3, some (.inl v4), u5, u6] [] h := by
  refine zrun 29 4 qX2_thousandths (o := 2) rfl ?_
  show J mX2_thousandths d 0 0 Q 0 0 58 [some (.inr (.inr v0)), some (.inl v1), u2, u3, some (.inl v4), u5, u6] [.inl v4, .inl v1, .inr (.inr v0), .inl v4] h
  exact zcVi (as := [.inl v1, .inl v4]) (zat qX2_thousandths 33 (by rfl)) l2_38 rfl hd rfl (Nat.le_of_ble_eq_true rfl) zle0 (ci := 2) (by decide) rfl gr k

theorem bX2_thousandths_61 {d d' : Nat} {Q : Option MV → MH → Prop} {h : MH} {u3 u5 u6 : Option MV} {vs0 vs1 v2 v1 v4 : Int32} {v0 : Nat} (gr : zokO h v0 2) (hd : d' + 1 ≤ d) (k : Con mX2_sparksBefore d' 0 0 [.inr (.inr v0), .inl v1, .inl v4] h (zri fun (x : Int32) h' => J mX2_thousandths d 0 0 Q 0 0 71 [some (.inr (.inr v0)), some (.inl v1), some (.inl v2), u3, some (.inl v4), u5, u6] [.inl x, .inl ((vs0 * vs1) + v2)] h')) : J mX2_thousandths d 0 0 Q 0 0 61 [some (.inr (.inr v0)), some (.inl v1), some (.inl v2), u3, some (.inl v4), u5, u6] [.inl vs1, .inl vs0] h := by
  refine zrun 34 6 qX2_thousandths (o := 2) rfl ?_
  show J mX2_thousandths d 0 0 Q 0 0 68 [some (.inr (.inr v0)), some (.inl v1), some (.inl v2), u3, some (.inl v4), u5, u6] [.inl v4, .inl v1, .inr (.inr v0), .inl ((vs0 * vs1) + v2)] h
  exact zcVi (as := [.inl v1, .inl v4]) (zat qX2_thousandths 40 (by rfl)) l2_42 rfl hd rfl (Nat.le_of_ble_eq_true rfl) zle0 (ci := 2) (by decide) rfl gr k

theorem bX2_thousandths_71 {d : Nat} {Q : Option MV → MH → Prop} {h : MH} {u0 u1 u2 u4 u6 : Option MV} {vs0 vs1 v5 v3 : Int32} (k1 : v3 = 0 → J mX2_thousandths d 0 0 Q 0 0 86 [u0, u1, u2, some (.inl v3), u4, some (.inl v5), some (.inl (vs0 - vs1))] [] h) (k2 : ¬ v3 = 0 → J mX2_thousandths d 0 0 Q 0 0 78 [u0, u1, u2, some (.inl v3), u4, some (.inl v5), some (.inl (vs0 - vs1))] [] h) : J mX2_thousandths d 0 0 Q 0 0 71 [u0, u1, u2, some (.inl v3), u4, some (.inl v5), u6] [.inl vs1, .inl vs0] h := by
  refine zrun 41 4 qX2_thousandths (o := 2) rfl ?_
  show ((v3 = 0 → J mX2_thousandths d 0 0 Q 0 0 86 [u0, u1, u2, some (.inl v3), u4, some (.inl v5), some (.inl (vs0 - vs1))] [] h) ∧ (¬ v3 = 0 → J mX2_thousandths d 0 0 Q 0 0 78 [u0, u1, u2, some (.inl v3), u4, some (.inl v5), some (.inl (vs0 - vs1))] [] h))
  exact ⟨k1, k2⟩

theorem bX2_thousandths_78 {d : Nat} {Q : Option MV → MH → Prop} {h : MH} {u0 u1 u2 u3 u4 : Option MV} {v5 v6 : Int32} (k : J mX2_thousandths d 0 0 Q 0 0 88 [u0, u1, u2, u3, u4, some (.inl v5), some (.inl v6)] [.inl (v5 - v6)] h) : J mX2_thousandths d 0 0 Q 0 0 78 [u0, u1, u2, u3, u4, some (.inl v5), some (.inl v6)] [] h := by
  refine zrun 45 4 qX2_thousandths (o := 2) rfl ?_
  show J mX2_thousandths d 0 0 Q 0 0 88 [u0, u1, u2, u3, u4, some (.inl v5), some (.inl v6)] [.inl (v5 - v6)] h
  exact k

theorem bX2_thousandths_86 {d : Nat} {Q : Option MV → MH → Prop} {h : MH} {u0 u1 u2 u3 u4 u5 : Option MV} {v6 : Int32} (k : J mX2_thousandths d 0 0 Q 0 0 88 [u0, u1, u2, u3, u4, u5, some (.inl v6)] [.inl v6] h) : J mX2_thousandths d 0 0 Q 0 0 86 [u0, u1, u2, u3, u4, u5, some (.inl v6)] [] h := by
  refine zrun 49 1 qX2_thousandths (o := 2) rfl ?_
  show J mX2_thousandths d 0 0 Q 0 0 88 [u0, u1, u2, u3, u4, u5, some (.inl v6)] [.inl v6] h
  exact k

theorem bX2_thousandths_88 {d : Nat} {Q : Option MV → MH → Prop} {h : MH} {u0 u1 u2 u3 u4 u6 : Option MV} {vs0 v5 : Int32} (g0 : ¬ v5 = 0) (k : Q (some (.inl ((vs0 * (nI 1000)) / v5))) h) : J mX2_thousandths d 0 0 Q 0 0 88 [u0, u1, u2, u3, u4, some (.inl v5), u6] [.inl vs0] h := by
  refine zrun 50 4 qX2_thousandths (o := 2) rfl ?_
  show ¬ v5 = 0 ∧ J mX2_thousandths d 0 0 Q 0 0 95 [u0, u1, u2, u3, u4, some (.inl v5), u6] [.inl ((vs0 * (nI 1000)) / v5)] h
  exact ⟨g0, J_iret (ty := .int) (zat qX2_thousandths 54 (by rfl)) rfl rfl (Nat.le_refl 0) (Nat.le_refl 0) k⟩

