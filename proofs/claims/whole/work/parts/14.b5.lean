theorem bX5_init_4 {d mc ms cs ss : Nat} {Q : Option MV → MH → Prop} {h : MH} {v0 : Nat} (hc : cs ≤ mc ∧ ss ≤ ms) (k : J mX5_init d mc ms Q cs ss 7 [some (.inr (.inr v0))] [.inl (nI 20), .inr (.inr v0)] h) : J mX5_init d mc ms Q cs ss 4 [some (.inr (.inr v0))] [] h := by
  refine zrun 2 2 qX5_init (o := 5) rfl ?_
  show J mX5_init d mc ms Q cs ss 7 [some (.inr (.inr v0))] [.inl (nI 20), .inr (.inr v0)] h
  exact k

theorem bX5_clear_0 {d : Nat} {Q : Option MV → MH → Prop} {h : MH} {v0 : Nat} (g0 : zokO h v0 5) (k : Q none (zsI (zsI h v0 0 (nI 0)) v0 1 (nI 0))) : J mX5_clear d 0 0 Q 0 0 0 [some (.inr (.inr v0))] [] h := by
  refine zrun 0 6 qX5_clear (o := 5) rfl ?_
  show zokO h v0 5 ∧ zokO (zsI h v0 0 (nI 0)) v0 5 ∧ J mX5_clear d 0 0 Q 0 0 10 [some (.inr (.inr v0))] [] (zsI (zsI h v0 0 (nI 0)) v0 1 (nI 0))
  exact ⟨(g0), (g0), J_vret (zat qX5_clear 6 (by rfl)) rfl (Nat.le_refl 0) (Nat.le_refl 0) k⟩

theorem bX5_takeFrom_0 {d : Nat} {Q : Option MV → MH → Prop} {h : MH} {v0 v1 : Nat} (hr : zRf h) (g0 : zokO h v1 5) (g1 : zokO h v0 5) (hd : 1 ≤ d) (k : J mX5_takeFrom d 0 0 Q 0 0 31 [some (.inr (.inr v0)), some (.inr (.inr v1))] [] (zcI (zsI (zsI h v0 0 (h.1 v1 0)) v0 1 ((zsI h v0 0 (h.1 v1 0)).1 v1 1)) (v1 + 1) (v0 + 1) 0 0 20)) : J mX5_takeFrom d 0 0 Q 0 0 0 [some (.inr (.inr v0)), some (.inr (.inr v1))] [] h := by
  refine zrun 0 15 qX5_takeFrom (o := 5) rfl ?_
  show zokO h v1 5 ∧ zokO h v0 5 ∧ zokO (zsI h v0 0 (h.1 v1 0)) v1 5 ∧ zokO (zsI h v0 0 (h.1 v1 0)) v0 5 ∧ zokO (zsI (zsI h v0 0 (h.1 v1 0)) v0 1 ((zsI h v0 0 (h.1 v1 0)).1 v1 1)) v1 5 ∧ zokO (zsI (zsI h v0 0 (h.1 v1 0)) v0 1 ((zsI h v0 0 (h.1 v1 0)).1 v1 1)) v0 5 ∧ J mX5_takeFrom d 0 0 Q 0 0 28 [some (.inr (.inr v0)), some (.inr (.inr v1))] [.inl (nI 20), .inl (nI 0), .inr (.inr (h.2.2.1 v0 2)), .inl (nI 0), .inr (.inr (h.2.2.1 v1 2))] (zsI (zsI h v0 0 (h.1 v1 0)) v0 1 ((zsI h v0 0 (h.1 v1 0)).1 v1 1))
  rw [(show h.2.2.1 v1 2 = (v1 + 1) from (hr.f5 2 g0 (by decide))), (show h.2.2.1 v0 2 = (v0 + 1) from (hr.f5 2 g1 (by decide)))]
  exact ⟨g0, (g1), g0, (g1), g0, g1, zcopy (N := 20) (zat qX5_takeFrom 15 (by rfl)) cp5_34 rfl hd (Nat.le_of_ble_eq_true rfl) (zoff_at hr g0 (by decide) (by decide)) (zoff_at hr g1 (by decide) (by decide)) (by decide) k⟩

theorem bX5_takeFrom_31 {d : Nat} {Q : Option MV → MH → Prop} {h : MH} {v1 v0 : Nat} (hr : zRf h) (g0 : zokO h v1 5) (g1 : zokO h v0 5) (hd : 1 ≤ d) (k : J mX5_takeFrom d 0 0 Q 0 0 46 [some (.inr (.inr v0)), some (.inr (.inr v1))] [] (zcI h (v1 + 2) (v0 + 2) 0 0 20)) : J mX5_takeFrom d 0 0 Q 0 0 31 [some (.inr (.inr v0)), some (.inr (.inr v1))] [] h := by
  refine zrun 16 7 qX5_takeFrom (o := 5) rfl ?_
  show zokO h v1 5 ∧ zokO h v0 5 ∧ J mX5_takeFrom d 0 0 Q 0 0 43 [some (.inr (.inr v0)), some (.inr (.inr v1))] [.inl (nI 20), .inl (nI 0), .inr (.inr (h.2.2.1 v0 3)), .inl (nI 0), .inr (.inr (h.2.2.1 v1 3))] h
  rw [(show h.2.2.1 v1 3 = (v1 + 2) from (hr.f5 3 g0 (by decide))), (show h.2.2.1 v0 3 = (v0 + 2) from (hr.f5 3 g1 (by decide)))]
  exact ⟨g0, g1, zcopy (N := 20) (zat qX5_takeFrom 23 (by rfl)) cp5_34 rfl hd (Nat.le_of_ble_eq_true rfl) (zoff_at hr g0 (by decide) (by decide)) (zoff_at hr g1 (by decide) (by decide)) (by decide) k⟩

theorem bX5_takeFrom_46 {d : Nat} {Q : Option MV → MH → Prop} {h : MH} {v1 v0 : Nat} (hr : zRf h) (g0 : zokO h v1 5) (g1 : zokO h v0 5) (hd : 1 ≤ d) (k : J mX5_takeFrom d 0 0 Q 0 0 61 [some (.inr (.inr v0)), some (.inr (.inr v1))] [] (zcI h (v1 + 3) (v0 + 3) 0 0 40)) : J mX5_takeFrom d 0 0 Q 0 0 46 [some (.inr (.inr v0)), some (.inr (.inr v1))] [] h := by
  refine zrun 24 7 qX5_takeFrom (o := 5) rfl ?_
  show zokO h v1 5 ∧ zokO h v0 5 ∧ J mX5_takeFrom d 0 0 Q 0 0 58 [some (.inr (.inr v0)), some (.inr (.inr v1))] [.inl (nI 40), .inl (nI 0), .inr (.inr (h.2.2.1 v0 4)), .inl (nI 0), .inr (.inr (h.2.2.1 v1 4))] h
  rw [(show h.2.2.1 v1 4 = (v1 + 3) from (hr.f5 4 g0 (by decide))), (show h.2.2.1 v0 4 = (v0 + 3) from (hr.f5 4 g1 (by decide)))]
  exact ⟨g0, g1, zcopy (N := 40) (zat qX5_takeFrom 31 (by rfl)) cp5_34 rfl hd (Nat.le_of_ble_eq_true rfl) (zoff_at hr g0 (by decide) (by decide)) (zoff_at hr g1 (by decide) (by decide)) (by decide) k⟩

theorem bX5_takeFrom_61 {d : Nat} {Q : Option MV → MH → Prop} {h : MH} {v1 v0 : Nat} (hr : zRf h) (g0 : zokO h v1 5) (g1 : zokO h v0 5) (hd : 1 ≤ d) (k : J mX5_takeFrom d 0 0 Q 0 0 76 [some (.inr (.inr v0)), some (.inr (.inr v1))] [] (zcI h (v1 + 4) (v0 + 4) 0 0 40)) : J mX5_takeFrom d 0 0 Q 0 0 61 [some (.inr (.inr v0)), some (.inr (.inr v1))] [] h := by
  refine zrun 32 7 qX5_takeFrom (o := 5) rfl ?_
  show zokO h v1 5 ∧ zokO h v0 5 ∧ J mX5_takeFrom d 0 0 Q 0 0 73 [some (.inr (.inr v0)), some (.inr (.inr v1))] [.inl (nI 40), .inl (nI 0), .inr (.inr (h.2.2.1 v0 5)), .inl (nI 0), .inr (.inr (h.2.2.1 v1 5))] h
  rw [(show h.2.2.1 v1 5 = (v1 + 4) from (hr.f5 5 g0 (by decide))), (show h.2.2.1 v0 5 = (v0 + 4) from (hr.f5 5 g1 (by decide)))]
  exact ⟨g0, g1, zcopy (N := 40) (zat qX5_takeFrom 39 (by rfl)) cp5_34 rfl hd (Nat.le_of_ble_eq_true rfl) (zoff_at hr g0 (by decide) (by decide)) (zoff_at hr g1 (by decide) (by decide)) (by decide) k⟩

theorem bX5_takeFrom_76 {d : Nat} {Q : Option MV → MH → Prop} {h : MH} {v1 v0 : Nat} (hr : zRf h) (g0 : zokO h v1 5) (g1 : zokO h v0 5) (hd : 1 ≤ d) (k : J mX5_takeFrom d 0 0 Q 0 0 91 [some (.inr (.inr v0)), some (.inr (.inr v1))] [] (zcI h (v1 + 5) (v0 + 5) 0 0 40)) : J mX5_takeFrom d 0 0 Q 0 0 76 [some (.inr (.inr v0)), some (.inr (.inr v1))] [] h := by
  refine zrun 40 7 qX5_takeFrom (o := 5) rfl ?_
  show zokO h v1 5 ∧ zokO h v0 5 ∧ J mX5_takeFrom d 0 0 Q 0 0 88 [some (.inr (.inr v0)), some (.inr (.inr v1))] [.inl (nI 40), .inl (nI 0), .inr (.inr (h.2.2.1 v0 6)), .inl (nI 0), .inr (.inr (h.2.2.1 v1 6))] h
  rw [(show h.2.2.1 v1 6 = (v1 + 5) from (hr.f5 6 g0 (by decide))), (show h.2.2.1 v0 6 = (v0 + 5) from (hr.f5 6 g1 (by decide)))]
  exact ⟨g0, g1, zcopy (N := 40) (zat qX5_takeFrom 47 (by rfl)) cp5_34 rfl hd (Nat.le_of_ble_eq_true rfl) (zoff_at hr g0 (by decide) (by decide)) (zoff_at hr g1 (by decide) (by decide)) (by decide) k⟩

theorem bX5_takeFrom_91 {d : Nat} {Q : Option MV → MH → Prop} {h : MH} {u0 u1 : Option MV} (k : Q none h) : J mX5_takeFrom d 0 0 Q 0 0 91 [u0, u1] [] h := by
  exact J_vret (zat qX5_takeFrom 48 (by rfl)) rfl (Nat.le_refl 0) (Nat.le_refl 0) k

theorem bX5_addRule_0 {d : Nat} {Q : Option MV → MH → Prop} {h : MH} {u1 : Option MV} {v0 : Nat} (g0 : zokO h v0 5) (k1 : (nI 20) ≤ (h.1 v0 0) → J mX5_addRule d 0 0 Q 0 0 42 [some (.inr (.inr v0)), u1] [] h) (k2 : ¬ (nI 20) ≤ (h.1 v0 0) → J mX5_addRule d 0 0 Q 0 0 9 [some (.inr (.inr v0)), u1] [] h) : J mX5_addRule d 0 0 Q 0 0 0 [some (.inr (.inr v0)), u1] [] h := by
  refine zrun 0 4 qX5_addRule (o := 5) rfl ?_
  show zokO h v0 5 ∧ (((nI 20) ≤ (h.1 v0 0) → J mX5_addRule d 0 0 Q 0 0 42 [some (.inr (.inr v0)), u1] [] h) ∧ (¬ (nI 20) ≤ (h.1 v0 0) → J mX5_addRule d 0 0 Q 0 0 9 [some (.inr (.inr v0)), u1] [] h))
  exact ⟨g0, k1, k2⟩

theorem bX5_addRule_9 {d : Nat} {Q : Option MV → MH → Prop} {h : MH} {v1 : Int32} {v0 : Nat} (hr : zRf h) (g0 : zokO h v0 5) (g1 : vp_in (h.1 v0 0) 20) (g2 : vp_in ((zsI h (v0 + 1) (h.1 v0 0).toNatClampNeg v1).1 v0 0) 20) (k : J mX5_addRule d 0 0 Q 0 0 42 [some (.inr (.inr v0)), some (.inl v1)] [] (zsI (zsI (zsI h (v0 + 1) (h.1 v0 0).toNatClampNeg v1) (v0 + 2) ((zsI h (v0 + 1) (h.1 v0 0).toNatClampNeg v1).1 v0 0).toNatClampNeg ((zsI h (v0 + 1) (h.1 v0 0).toNatClampNeg v1).1 v0 1)) v0 0 (((zsI (zsI h (v0 + 1) (h.1 v0 0).toNatClampNeg v1) (v0 + 2) ((zsI h (v0 + 1) (h.1 v0 0).toNatClampNeg v1).1 v0 0).toNatClampNeg ((zsI h (v0 + 1) (h.1 v0 0).toNatClampNeg v1).1 v0 1)).1 v0 0) + (nI 1)))) : J mX5_addRule d 0 0 Q 0 0 9 [some (.inr (.inr v0)), some (.inl v1)] [] h := by
  refine zrun 4 19 qX5_addRule (o := 5) rfl ?_
  show zokO h v0 5 ∧ zokO h v0 5 ∧ zokA h (h.2.2.1 v0 2) 20 (h.1 v0 0) ∧ zokO (zsI h (h.2.2.1 v0 2) (h.1 v0 0).toNatClampNeg v1) v0 5 ∧ zokO (zsI h (h.2.2.1 v0 2) (h.1 v0 0).toNatClampNeg v1) v0 5 ∧ zokO (zsI h (h.2.2.1 v0 2) (h.1 v0 0).toNatClampNeg v1) v0 5 ∧ zokA (zsI h (h.2.2.1 v0 2) (h.1 v0 0).toNatClampNeg v1) (h.2.2.1 v0 3) 20 ((zsI h (h.2.2.1 v0 2) (h.1 v0 0).toNatClampNeg v1).1 v0 0) ∧ zokO (zsI (zsI h (h.2.2.1 v0 2) (h.1 v0 0).toNatClampNeg v1) (h.2.2.1 v0 3) ((zsI h (h.2.2.1 v0 2) (h.1 v0 0).toNatClampNeg v1).1 v0 0).toNatClampNeg ((zsI h (h.2.2.1 v0 2) (h.1 v0 0).toNatClampNeg v1).1 v0 1)) v0 5 ∧ zokO (zsI (zsI h (h.2.2.1 v0 2) (h.1 v0 0).toNatClampNeg v1) (h.2.2.1 v0 3) ((zsI h (h.2.2.1 v0 2) (h.1 v0 0).toNatClampNeg v1).1 v0 0).toNatClampNeg ((zsI h (h.2.2.1 v0 2) (h.1 v0 0).toNatClampNeg v1).1 v0 1)) v0 5 ∧ J mX5_addRule d 0 0 Q 0 0 42 [some (.inr (.inr v0)), some (.inl v1)] [] (zsI (zsI (zsI h (h.2.2.1 v0 2) (h.1 v0 0).toNatClampNeg v1) (h.2.2.1 v0 3) ((zsI h (h.2.2.1 v0 2) (h.1 v0 0).toNatClampNeg v1).1 v0 0).toNatClampNeg ((zsI h (h.2.2.1 v0 2) (h.1 v0 0).toNatClampNeg v1).1 v0 1)) v0 0 (((zsI (zsI h (h.2.2.1 v0 2) (h.1 v0 0).toNatClampNeg v1) (h.2.2.1 v0 3) ((zsI h (h.2.2.1 v0 2) (h.1 v0 0).toNatClampNeg v1).1 v0 0).toNatClampNeg ((zsI h (h.2.2.1 v0 2) (h.1 v0 0).toNatClampNeg v1).1 v0 1)).1 v0 0) + (nI 1)))
  rw [(show h.2.2.1 v0 2 = (v0 + 1) from (hr.f5 2 g0 (by decide))), (show h.2.2.1 v0 3 = (v0 + 2) from (hr.f5 3 g0 (by decide)))]
  exact ⟨g0, g0, (zca hr g0 (by decide) (by decide) g1), g0, g0, g0, (zca hr g0 (by decide) (by decide) g2), g0, (g0), k⟩

theorem bX5_addRule_42 {d : Nat} {Q : Option MV → MH → Prop} {h : MH} {u0 u1 : Option MV} (k : Q none h) : J mX5_addRule d 0 0 Q 0 0 42 [u0, u1] [] h := by
  exact J_vret (zat qX5_addRule 23 (by rfl)) rfl (Nat.le_refl 0) (Nat.le_refl 0) k

theorem bX5_addAct_0 {d : Nat} {Q : Option MV → MH → Prop} {h : MH} {u1 u2 u3 : Option MV} {v0 : Nat} (g0 : zokO h v0 5) (k1 : (nI 40) ≤ (h.1 v0 1) → J mX5_addAct d 0 0 Q 0 0 71 [some (.inr (.inr v0)), u1, u2, u3] [] h) (k2 : ¬ (nI 40) ≤ (h.1 v0 1) → J mX5_addAct d 0 0 Q 0 0 9 [some (.inr (.inr v0)), u1, u2, u3] [] h) : J mX5_addAct d 0 0 Q 0 0 0 [some (.inr (.inr v0)), u1, u2, u3] [] h := by
  refine zrun 0 4 qX5_addAct (o := 5) rfl ?_
  show zokO h v0 5 ∧ (((nI 40) ≤ (h.1 v0 1) → J mX5_addAct d 0 0 Q 0 0 71 [some (.inr (.inr v0)), u1, u2, u3] [] h) ∧ (¬ (nI 40) ≤ (h.1 v0 1) → J mX5_addAct d 0 0 Q 0 0 9 [some (.inr (.inr v0)), u1, u2, u3] [] h))
  exact ⟨g0, k1, k2⟩

theorem bX5_addAct_9 {d : Nat} {Q : Option MV → MH → Prop} {h : MH} {u1 u2 u3 : Option MV} {v0 : Nat} (g0 : zokO h v0 5) (k1 : (h.1 v0 0) ≤ 0 → J mX5_addAct d 0 0 Q 0 0 71 [some (.inr (.inr v0)), u1, u2, u3] [] h) (k2 : ¬ (h.1 v0 0) ≤ 0 → J mX5_addAct d 0 0 Q 0 0 16 [some (.inr (.inr v0)), u1, u2, u3] [] h) : J mX5_addAct d 0 0 Q 0 0 9 [some (.inr (.inr v0)), u1, u2, u3] [] h := by
  refine zrun 4 3 qX5_addAct (o := 5) rfl ?_
  show zokO h v0 5 ∧ (((h.1 v0 0) ≤ 0 → J mX5_addAct d 0 0 Q 0 0 71 [some (.inr (.inr v0)), u1, u2, u3] [] h) ∧ (¬ (h.1 v0 0) ≤ 0 → J mX5_addAct d 0 0 Q 0 0 16 [some (.inr (.inr v0)), u1, u2, u3] [] h))
  exact ⟨g0, k1, k2⟩

theorem bX5_addAct_16 {d : Nat} {Q : Option MV → MH → Prop} {h : MH} {v1 v2 v3 : Int32} {v0 : Nat} (hr : zRf h) (g0 : zokO h v0 5) (g1 : vp_in (h.1 v0 1) 40) (g2 : vp_in ((zsI h (v0 + 3) (h.1 v0 1).toNatClampNeg v1).1 v0 1) 40) (g3 : vp_in ((zsI (zsI h (v0 + 3) (h.1 v0 1).toNatClampNeg v1) (v0 + 4) ((zsI h (v0 + 3) (h.1 v0 1).toNatClampNeg v1).1 v0 1).toNatClampNeg v2).1 v0 1) 40) (g4 : vp_in (((zsI (zsI (zsI (zsI h (v0 + 3) (h.1 v0 1).toNatClampNeg v1) (v0 + 4) ((zsI h (v0 + 3) (h.1 v0 1).toNatClampNeg v1).1 v0 1).toNatClampNeg v2) (v0 + 5) ((zsI (zsI h (v0 + 3) (h.1 v0 1).toNatClampNeg v1) (v0 + 4) ((zsI h (v0 + 3) (h.1 v0 1).toNatClampNeg v1).1 v0 1).toNatClampNeg v2).1 v0 1).toNatClampNeg v3) v0 1 (((zsI (zsI (zsI h (v0 + 3) (h.1 v0 1).toNatClampNeg v1) (v0 + 4) ((zsI h (v0 + 3) (h.1 v0 1).toNatClampNeg v1).1 v0 1).toNatClampNeg v2) (v0 + 5) ((zsI (zsI h (v0 + 3) (h.1 v0 1).toNatClampNeg v1) (v0 + 4) ((zsI h (v0 + 3) (h.1 v0 1).toNatClampNeg v1).1 v0 1).toNatClampNeg v2).1 v0 1).toNatClampNeg v3).1 v0 1) + (nI 1))).1 v0 0) - (nI 1)) 20) (k : J mX5_addAct d 0 0 Q 0 0 71 [some (.inr (.inr v0)), some (.inl v1), some (.inl v2), some (.inl v3)] [] (zsI (zsI (zsI (zsI (zsI h (v0 + 3) (h.1 v0 1).toNatClampNeg v1) (v0 + 4) ((zsI h (v0 + 3) (h.1 v0 1).toNatClampNeg v1).1 v0 1).toNatClampNeg v2) (v0 + 5) ((zsI (zsI h (v0 + 3) (h.1 v0 1).toNatClampNeg v1) (v0 + 4) ((zsI h (v0 + 3) (h.1 v0 1).toNatClampNeg v1).1 v0 1).toNatClampNeg v2).1 v0 1).toNatClampNeg v3) v0 1 (((zsI (zsI (zsI h (v0 + 3) (h.1 v0 1).toNatClampNeg v1) (v0 + 4) ((zsI h (v0 + 3) (h.1 v0 1).toNatClampNeg v1).1 v0 1).toNatClampNeg v2) (v0 + 5) ((zsI (zsI h (v0 + 3) (h.1 v0 1).toNatClampNeg v1) (v0 + 4) ((zsI h (v0 + 3) (h.1 v0 1).toNatClampNeg v1).1 v0 1).toNatClampNeg v2).1 v0 1).toNatClampNeg v3).1 v0 1) + (nI 1))) (v0 + 2) (((zsI (zsI (zsI (zsI h (v0 + 3) (h.1 v0 1).toNatClampNeg v1) (v0 + 4) ((zsI h (v0 + 3) (h.1 v0 1).toNatClampNeg v1).1 v0 1).toNatClampNeg v2) (v0 + 5) ((zsI (zsI h (v0 + 3) (h.1 v0 1).toNatClampNeg v1) (v0 + 4) ((zsI h (v0 + 3) (h.1 v0 1).toNatClampNeg v1).1 v0 1).toNatClampNeg v2).1 v0 1).toNatClampNeg v3) v0 1 (((zsI (zsI (zsI h (v0 + 3) (h.1 v0 1).toNatClampNeg v1) (v0 + 4) ((zsI h (v0 + 3) (h.1 v0 1).toNatClampNeg v1).1 v0 1).toNatClampNeg v2) (v0 + 5) ((zsI (zsI h (v0 + 3) (h.1 v0 1).toNatClampNeg v1) (v0 + 4) ((zsI h (v0 + 3) (h.1 v0 1).toNatClampNeg v1).1 v0 1).toNatClampNeg v2).1 v0 1).toNatClampNeg v3).1 v0 1) + (nI 1))).1 v0 0) - (nI 1)).toNatClampNeg ((zsI (zsI (zsI (zsI h (v0 + 3) (h.1 v0 1).toNatClampNeg v1) (v0 + 4) ((zsI h (v0 + 3) (h.1 v0 1).toNatClampNeg v1).1 v0 1).toNatClampNeg v2) (v0 + 5) ((zsI (zsI h (v0 + 3) (h.1 v0 1).toNatClampNeg v1) (v0 + 4) ((zsI h (v0 + 3) (h.1 v0 1).toNatClampNeg v1).1 v0 1).toNatClampNeg v2).1 v0 1).toNatClampNeg v3) v0 1 (((zsI (zsI (zsI h (v0 + 3) (h.1 v0 1).toNatClampNeg v1) (v0 + 4) ((zsI h (v0 + 3) (h.1 v0 1).toNatClampNeg v1).1 v0 1).toNatClampNeg v2) (v0 + 5) ((zsI (zsI h (v0 + 3) (h.1 v0 1).toNatClampNeg v1) (v0 + 4) ((zsI h (v0 + 3) (h.1 v0 1).toNatClampNeg v1).1 v0 1).toNatClampNeg v2).1 v0 1).toNatClampNeg v3).1 v0 1) + (nI 1))).1 v0 1))) : J mX5_addAct d 0 0 Q 0 0 16 [some (.inr (.inr v0)), some (.inl v1), some (.inl v2), some (.inl v3)] [] h := by
  refine zrun 7 33 qX5_addAct (o := 5) rfl ?_
  show zokO h v0 5 ∧ zokO h v0 5 ∧ zokA h (h.2.2.1 v0 4) 20 (h.1 v0 1) ∧ zokO (zsI h (h.2.2.1 v0 4) (h.1 v0 1).toNatClampNeg v1) v0 5 ∧ zokO (zsI h (h.2.2.1 v0 4) (h.1 v0 1).toNatClampNeg v1) v0 5 ∧ zokA (zsI h (h.2.2.1 v0 4) (h.1 v0 1).toNatClampNeg v1) (h.2.2.1 v0 5) 20 ((zsI h (h.2.2.1 v0 4) (h.1 v0 1).toNatClampNeg v1).1 v0 1) ∧ zokO (zsI (zsI h (h.2.2.1 v0 4) (h.1 v0 1).toNatClampNeg v1) (h.2.2.1 v0 5) ((zsI h (h.2.2.1 v0 4) (h.1 v0 1).toNatClampNeg v1).1 v0 1).toNatClampNeg v2) v0 5 ∧ zokO (zsI (zsI h (h.2.2.1 v0 4) (h.1 v0 1).toNatClampNeg v1) (h.2.2.1 v0 5) ((zsI h (h.2.2.1 v0 4) (h.1 v0 1).toNatClampNeg v1).1 v0 1).toNatClampNeg v2) v0 5 ∧ zokA (zsI (zsI h (h.2.2.1 v0 4) (h.1 v0 1).toNatClampNeg v1) (h.2.2.1 v0 5) ((zsI h (h.2.2.1 v0 4) (h.1 v0 1).toNatClampNeg v1).1 v0 1).toNatClampNeg v2) (h.2.2.1 v0 6) 20 ((zsI (zsI h (h.2.2.1 v0 4) (h.1 v0 1).toNatClampNeg v1) (h.2.2.1 v0 5) ((zsI h (h.2.2.1 v0 4) (h.1 v0 1).toNatClampNeg v1).1 v0 1).toNatClampNeg v2).1 v0 1) ∧ zokO (zsI (zsI (zsI h (h.2.2.1 v0 4) (h.1 v0 1).toNatClampNeg v1) (h.2.2.1 v0 5) ((zsI h (h.2.2.1 v0 4) (h.1 v0 1).toNatClampNeg v1).1 v0 1).toNatClampNeg v2) (h.2.2.1 v0 6) ((zsI (zsI h (h.2.2.1 v0 4) (h.1 v0 1).toNatClampNeg v1) (h.2.2.1 v0 5) ((zsI h (h.2.2.1 v0 4) (h.1 v0 1).toNatClampNeg v1).1 v0 1).toNatClampNeg v2).1 v0 1).toNatClampNeg v3) v0 5 ∧ zokO (zsI (zsI (zsI h (h.2.2.1 v0 4) (h.1 v0 1).toNatClampNeg v1) (h.2.2.1 v0 5) ((zsI h (h.2.2.1 v0 4) (h.1 v0 1).toNatClampNeg v1).1 v0 1).toNatClampNeg v2) (h.2.2.1 v0 6) ((zsI (zsI h (h.2.2.1 v0 4) (h.1 v0 1).toNatClampNeg v1) (h.2.2.1 v0 5) ((zsI h (h.2.2.1 v0 4) (h.1 v0 1).toNatClampNeg v1).1 v0 1).toNatClampNeg v2).1 v0 1).toNatClampNeg v3) v0 5 ∧ zokO (zsI (zsI (zsI (zsI h (h.2.2.1 v0 4) (h.1 v0 1).toNatClampNeg v1) (h.2.2.1 v0 5) ((zsI h (h.2.2.1 v0 4) (h.1 v0 1).toNatClampNeg v1).1 v0 1).toNatClampNeg v2) (h.2.2.1 v0 6) ((zsI (zsI h (h.2.2.1 v0 4) (h.1 v0 1).toNatClampNeg v1) (h.2.2.1 v0 5) ((zsI h (h.2.2.1 v0 4) (h.1 v0 1).toNatClampNeg v1).1 v0 1).toNatClampNeg v2).1 v0 1).toNatClampNeg v3) v0 1 (((zsI (zsI (zsI h (h.2.2.1 v0 4) (h.1 v0 1).toNatClampNeg v1) (h.2.2.1 v0 5) ((zsI h (h.2.2.1 v0 4) (h.1 v0 1).toNatClampNeg v1).1 v0 1).toNatClampNeg v2) (h.2.2.1 v0 6) ((zsI (zsI h (h.2.2.1 v0 4) (h.1 v0 1).toNatClampNeg v1) (h.2.2.1 v0 5) ((zsI h (h.2.2.1 v0 4) (h.1 v0 1).toNatClampNeg v1).1 v0 1).toNatClampNeg v2).1 v0 1).toNatClampNeg v3).1 v0 1) + (nI 1))) v0 5 ∧ zokO (zsI (zsI (zsI (zsI h (h.2.2.1 v0 4) (h.1 v0 1).toNatClampNeg v1) (h.2.2.1 v0 5) ((zsI h (h.2.2.1 v0 4) (h.1 v0 1).toNatClampNeg v1).1 v0 1).toNatClampNeg v2) (h.2.2.1 v0 6) ((zsI (zsI h (h.2.2.1 v0 4) (h.1 v0 1).toNatClampNeg v1) (h.2.2.1 v0 5) ((zsI h (h.2.2.1 v0 4) (h.1 v0 1).toNatClampNeg v1).1 v0 1).toNatClampNeg v2).1 v0 1).toNatClampNeg v3) v0 1 (((zsI (zsI (zsI h (h.2.2.1 v0 4) (h.1 v0 1).toNatClampNeg v1) (h.2.2.1 v0 5) ((zsI h (h.2.2.1 v0 4) (h.1 v0 1).toNatClampNeg v1).1 v0 1).toNatClampNeg v2) (h.2.2.1 v0 6) ((zsI (zsI h (h.2.2.1 v0 4) (h.1 v0 1).toNatClampNeg v1) (h.2.2.1 v0 5) ((zsI h (h.2.2.1 v0 4) (h.1 v0 1).toNatClampNeg v1).1 v0 1).toNatClampNeg v2).1 v0 1).toNatClampNeg v3).1 v0 1) + (nI 1))) v0 5 ∧ zokO (zsI (zsI (zsI (zsI h (h.2.2.1 v0 4) (h.1 v0 1).toNatClampNeg v1) (h.2.2.1 v0 5) ((zsI h (h.2.2.1 v0 4) (h.1 v0 1).toNatClampNeg v1).1 v0 1).toNatClampNeg v2) (h.2.2.1 v0 6) ((zsI (zsI h (h.2.2.1 v0 4) (h.1 v0 1).toNatClampNeg v1) (h.2.2.1 v0 5) ((zsI h (h.2.2.1 v0 4) (h.1 v0 1).toNatClampNeg v1).1 v0 1).toNatClampNeg v2).1 v0 1).toNatClampNeg v3) v0 1 (((zsI (zsI (zsI h (h.2.2.1 v0 4) (h.1 v0 1).toNatClampNeg v1) (h.2.2.1 v0 5) ((zsI h (h.2.2.1 v0 4) (h.1 v0 1).toNatClampNeg v1).1 v0 1).toNatClampNeg v2) (h.2.2.1 v0 6) ((zsI (zsI h (h.2.2.1 v0 4) (h.1 v0 1).toNatClampNeg v1) (h.2.2.1 v0 5) ((zsI h (h.2.2.1 v0 4) (h.1 v0 1).toNatClampNeg v1).1 v0 1).toNatClampNeg v2).1 v0 1).toNatClampNeg v3).1 v0 1) + (nI 1))) v0 5 ∧ zokA (zsI (zsI (zsI (zsI h (h.2.2.1 v0 4) (h.1 v0 1).toNatClampNeg v1) (h.2.2.1 v0 5) ((zsI h (h.2.2.1 v0 4) (h.1 v0 1).toNatClampNeg v1).1 v0 1).toNatClampNeg v2) (h.2.2.1 v0 6) ((zsI (zsI h (h.2.2.1 v0 4) (h.1 v0 1).toNatClampNeg v1) (h.2.2.1 v0 5) ((zsI h (h.2.2.1 v0 4) (h.1 v0 1).toNatClampNeg v1).1 v0 1).toNatClampNeg v2).1 v0 1).toNatClampNeg v3) v0 1 (((zsI (zsI (zsI h (h.2.2.1 v0 4) (h.1 v0 1).toNatClampNeg v1) (h.2.2.1 v0 5) ((zsI h (h.2.2.1 v0 4) (h.1 v0 1).toNatClampNeg v1).1 v0 1).toNatClampNeg v2) (h.2.2.1 v0 6) ((zsI (zsI h (h.2.2.1 v0 4) (h.1 v0 1).toNatClampNeg v1) (h.2.2.1 v0 5) ((zsI h (h.2.2.1 v0 4) (h.1 v0 1).toNatClampNeg v1).1 v0 1).toNatClampNeg v2).1 v0 1).toNatClampNeg v3).1 v0 1) + (nI 1))) (h.2.2.1 v0 3) 20 (((zsI (zsI (zsI (zsI h (h.2.2.1 v0 4) (h.1 v0 1).toNatClampNeg v1) (h.2.2.1 v0 5) ((zsI h (h.2.2.1 v0 4) (h.1 v0 1).toNatClampNeg v1).1 v0 1).toNatClampNeg v2) (h.2.2.1 v0 6) ((zsI (zsI h (h.2.2.1 v0 4) (h.1 v0 1).toNatClampNeg v1) (h.2.2.1 v0 5) ((zsI h (h.2.2.1 v0 4) (h.1 v0 1).toNatClampNeg v1).1 v0 1).toNatClampNeg v2).1 v0 1).toNatClampNeg v3) v0 1 (((zsI (zsI (zsI h (h.2.2.1 v0 4) (h.1 v0 1).toNatClampNeg v1) (h.2.2.1 v0 5) ((zsI h (h.2.2.1 v0 4) (h.1 v0 1).toNatClampNeg v1).1 v0 1).toNatClampNeg v2) (h.2.2.1 v0 6) ((zsI (zsI h (h.2.2.1 v0 4) (h.1 v0 1).toNatClampNeg v1) (h.2.2.1 v0 5) ((zsI h (h.2.2.1 v0 4) (h.1 v0 1).toNatClampNeg v1).1 v0 1).toNatClampNeg v2).1 v0 1).toNatClampNeg v3).1 v0 1) + (nI 1))).1 v0 0) - (nI 1)) ∧ J mX5_addAct d 0 0 Q 0 0 71 [some (.inr (.inr v0)), some (.inl v1), some (.inl v2), some (.inl v3)] [] (zsI (zsI (zsI (zsI (zsI h (h.2.2.1 v0 4) (h.1 v0 1).toNatClampNeg v1) (h.2.2.1 v0 5) ((zsI h (h.2.2.1 v0 4) (h.1 v0 1).toNatClampNeg v1).1 v0 1).toNatClampNeg v2) (h.2.2.1 v0 6) ((zsI (zsI h (h.2.2.1 v0 4) (h.1 v0 1).toNatClampNeg v1) (h.2.2.1 v0 5) ((zsI h (h.2.2.1 v0 4) (h.1 v0 1).toNatClampNeg v1).1 v0 1).toNatClampNeg v2).1 v0 1).toNatClampNeg v3) v0 1 (((zsI (zsI (zsI h (h.2.2.1 v0 4) (h.1 v0 1).toNatClampNeg v1) (h.2.2.1 v0 5) ((zsI h (h.2.2.1 v0 4) (h.1 v0 1).toNatClampNeg v1).1 v0 1).toNatClampNeg v2) (h.2.2.1 v0 6) ((zsI (zsI h (h.2.2.1 v0 4) (h.1 v0 1).toNatClampNeg v1) (h.2.2.1 v0 5) ((zsI h (h.2.2.1 v0 4) (h.1 v0 1).toNatClampNeg v1).1 v0 1).toNatClampNeg v2).1 v0 1).toNatClampNeg v3).1 v0 1) + (nI 1))) (h.2.2.1 v0 3) (((zsI (zsI (zsI (zsI h (h.2.2.1 v0 4) (h.1 v0 1).toNatClampNeg v1) (h.2.2.1 v0 5) ((zsI h (h.2.2.1 v0 4) (h.1 v0 1).toNatClampNeg v1).1 v0 1).toNatClampNeg v2) (h.2.2.1 v0 6) ((zsI (zsI h (h.2.2.1 v0 4) (h.1 v0 1).toNatClampNeg v1) (h.2.2.1 v0 5) ((zsI h (h.2.2.1 v0 4) (h.1 v0 1).toNatClampNeg v1).1 v0 1).toNatClampNeg v2).1 v0 1).toNatClampNeg v3) v0 1 (((zsI (zsI (zsI h (h.2.2.1 v0 4) (h.1 v0 1).toNatClampNeg v1) (h.2.2.1 v0 5) ((zsI h (h.2.2.1 v0 4) (h.1 v0 1).toNatClampNeg v1).1 v0 1).toNatClampNeg v2) (h.2.2.1 v0 6) ((zsI (zsI h (h.2.2.1 v0 4) (h.1 v0 1).toNatClampNeg v1) (h.2.2.1 v0 5) ((zsI h (h.2.2.1 v0 4) (h.1 v0 1).toNatClampNeg v1).1 v0 1).toNatClampNeg v2).1 v0 1).toNatClampNeg v3).1 v0 1) + (nI 1))).1 v0 0) - (nI 1)).toNatClampNeg ((zsI (zsI (zsI (zsI h (h.2.2.1 v0 4) (h.1 v0 1).toNatClampNeg v1) (h.2.2.1 v0 5) ((zsI h (h.2.2.1 v0 4) (h.1 v0 1).toNatClampNeg v1).1 v0 1).toNatClampNeg v2) (h.2.2.1 v0 6) ((zsI (zsI h (h.2.2.1 v0 4) (h.1 v0 1).toNatClampNeg v1) (h.2.2.1 v0 5) ((zsI h (h.2.2.1 v0 4) (h.1 v0 1).toNatClampNeg v1).1 v0 1).toNatClampNeg v2).1 v0 1).toNatClampNeg v3) v0 1 (((zsI (zsI (zsI h (h.2.2.1 v0 4) (h.1 v0 1).toNatClampNeg v1) (h.2.2.1 v0 5) ((zsI h (h.2.2.1 v0 4) (h.1 v0 1).toNatClampNeg v1).1 v0 1).toNatClampNeg v2) (h.2.2.1 v0 6) ((zsI (zsI h (h.2.2.1 v0 4) (h.1 v0 1).toNatClampNeg v1) (h.2.2.1 v0 5) ((zsI h (h.2.2.1 v0 4) (h.1 v0 1).toNatClampNeg v1).1 v0 1).toNatClampNeg v2).1 v0 1).toNatClampNeg v3).1 v0 1) + (nI 1))).1 v0 1))
  rw [(show h.2.2.1 v0 4 = (v0 + 3) from (hr.f5 4 g0 (by decide))), (show h.2.2.1 v0 5 = (v0 + 4) from (hr.f5 5 g0 (by decide))), (show h.2.2.1 v0 6 = (v0 + 5) from (hr.f5 6 g0 (by decide))), (show h.2.2.1 v0 3 = (v0 + 2) from (hr.f5 3 g0 (by decide)))]
  exact ⟨g0, g0, (zca hr g0 (by decide) (by decide) g1), g0, g0, (zca hr g0 (by decide) (by decide) g2), g0, g0, (zca hr g0 (by decide) (by decide) g3), g0, (g0), g0, g0, g0, (zca hr g0 (by decide) (by decide) g4), k⟩

theorem bX5_addAct_71 {d : Nat} {Q : Option MV → MH → Prop} {h : MH} {u0 u1 u2 u3 : Option MV} (k : Q none h) : J mX5_addAct d 0 0 Q 0 0 71 [u0, u1, u2, u3] [] h := by
  exact J_vret (zat qX5_addAct 40 (by rfl)) rfl (Nat.le_refl 0) (Nat.le_refl 0) k

theorem bX5_actsFrom_0 {d : Nat} {Q : Option MV → MH → Prop} {h : MH} {u0 : Option MV} {v1 : Int32} (k1 : v1 ≤ 0 → J mX5_actsFrom d 0 0 Q 0 0 23 [u0, some (.inl v1)] [] h) (k2 : ¬ v1 ≤ 0 → J mX5_actsFrom d 0 0 Q 0 0 4 [u0, some (.inl v1)] [] h) : J mX5_actsFrom d 0 0 Q 0 0 0 [u0, some (.inl v1)] [] h := by
  refine zrun 0 2 qX5_actsFrom (o := 5) rfl ?_
  show ((v1 ≤ 0 → J mX5_actsFrom d 0 0 Q 0 0 23 [u0, some (.inl v1)] [] h) ∧ (¬ v1 ≤ 0 → J mX5_actsFrom d 0 0 Q 0 0 4 [u0, some (.inl v1)] [] h))
  exact ⟨k1, k2⟩

theorem bX5_actsFrom_4 {d : Nat} {Q : Option MV → MH → Prop} {h : MH} {v1 : Int32} {v0 : Nat} (g0 : zokO h v0 5) (k1 : (h.1 v0 0) ≤ v1 → J mX5_actsFrom d 0 0 Q 0 0 23 [some (.inr (.inr v0)), some (.inl v1)] [] h) (k2 : ¬ (h.1 v0 0) ≤ v1 → J mX5_actsFrom d 0 0 Q 0 0 12 [some (.inr (.inr v0)), some (.inl v1)] [] h) : J mX5_actsFrom d 0 0 Q 0 0 4 [some (.inr (.inr v0)), some (.inl v1)] [] h := by
  refine zrun 2 4 qX5_actsFrom (o := 5) rfl ?_
  show zokO h v0 5 ∧ (((h.1 v0 0) ≤ v1 → J mX5_actsFrom d 0 0 Q 0 0 23 [some (.inr (.inr v0)), some (.inl v1)] [] h) ∧ (¬ (h.1 v0 0) ≤ v1 → J mX5_actsFrom d 0 0 Q 0 0 12 [some (.inr (.inr v0)), some (.inl v1)] [] h))
  exact ⟨g0, k1, k2⟩

theorem bX5_actsFrom_12 {d : Nat} {Q : Option MV → MH → Prop} {h : MH} {v1 : Int32} {v0 : Nat} (hr : zRf h) (g0 : zokO h v0 5) (g1 : vp_in (v1 - (nI 1)) 20) (k : J mX5_actsFrom d 0 0 Q 0 0 24 [some (.inr (.inr v0)), some (.inl v1)] [.inl (h.1 (v0 + 2) (v1 - (nI 1)).toNatClampNeg)] h) : J mX5_actsFrom d 0 0 Q 0 0 12 [some (.inr (.inr v0)), some (.inl v1)] [] h := by
  refine zrun 6 7 qX5_actsFrom (o := 5) rfl ?_
  show zokO h v0 5 ∧ zokA h (h.2.2.1 v0 3) 20 (v1 - (nI 1)) ∧ J mX5_actsFrom d 0 0 Q 0 0 24 [some (.inr (.inr v0)), some (.inl v1)] [.inl (h.1 (h.2.2.1 v0 3) (v1 - (nI 1)).toNatClampNeg)] h
  rw [(show h.2.2.1 v0 3 = (v0 + 2) from (hr.f5 3 g0 (by decide)))]
  exact ⟨g0, (zca hr g0 (by decide) (by decide) g1), k⟩

theorem bX5_actsFrom_23 {d : Nat} {Q : Option MV → MH → Prop} {h : MH} {u0 u1 : Option MV} (k : J mX5_actsFrom d 0 0 Q 0 0 24 [u0, u1] [.inl (nI 0)] h) : J mX5_actsFrom d 0 0 Q 0 0 23 [u0, u1] [] h := by
  refine zrun 13 1 qX5_actsFrom (o := 5) rfl ?_
  show J mX5_actsFrom d 0 0 Q 0 0 24 [u0, u1] [.inl (nI 0)] h
  exact k

theorem bX5_actsFrom_24 {d : Nat} {Q : Option MV → MH → Prop} {h : MH} {u0 u1 : Option MV} {vs0 : Int32} (k : Q (some (.inl vs0)) h) : J mX5_actsFrom d 0 0 Q 0 0 24 [u0, u1] [.inl vs0] h := by
  exact J_iret (ty := .int) (zat qX5_actsFrom 14 (by rfl)) rfl rfl (Nat.le_refl 0) (Nat.le_refl 0) k

theorem bX5_used_0 {d : Nat} {Q : Option MV → MH → Prop} {h : MH} {u1 u2 : Option MV} {v0 : Nat} (k : J mX5_used d 0 0 Q 0 0 4 [some (.inr (.inr v0)), some (.inl (nI 0)), some (.inl (nI 0))] [] h) : J mX5_used d 0 0 Q 0 0 0 [some (.inr (.inr v0)), u1, u2] [] h := by
  refine zrun 0 4 qX5_used (o := 5) rfl ?_
  show J mX5_used d 0 0 Q 0 0 4 [some (.inr (.inr v0)), some (.inl (nI 0)), some (.inl (nI 0))] [] h
  exact k

theorem bX5_used_4 {d : Nat} {Q : Option MV → MH → Prop} {h : MH} {u1 : Option MV} {v2 : Int32} {v0 : Nat} (g0 : zokO h v0 5) (k1 : (h.1 v0 1) ≤ v2 → J mX5_used d 0 0 Q 0 0 79 [some (.inr (.inr v0)), u1, some (.inl v2)] [] h) (k2 : ¬ (h.1 v0 1) ≤ v2 → J mX5_used d 0 0 Q 0 0 12 [some (.inr (.inr v0)), u1, some (.inl v2)] [] h) : J mX5_used d 0 0 Q 0 0 4 [some (.inr (.inr v0)), u1, some (.inl v2)] [] h := by
  refine zrun 4 4 qX5_used (o := 5) rfl ?_
  show zokO h v0 5 ∧ (((h.1 v0 1) ≤ v2 → J mX5_used d 0 0 Q 0 0 79 [some (.inr (.inr v0)), u1, some (.inl v2)] [] h) ∧ (¬ (h.1 v0 1) ≤ v2 → J mX5_used d 0 0 Q 0 0 12 [some (.inr (.inr v0)), u1, some (.inl v2)] [] h))
  exact ⟨g0, k1, k2⟩

theorem bX5_used_12 {d : Nat} {Q : Option MV → MH → Prop} {h : MH} {u1 : Option MV} {v2 : Int32} {v0 : Nat} (hr : zRf h) (g0 : zokO h v0 5) (g1 : vp_in v2 40) (k1 : (h.1 (v0 + 3) v2.toNatClampNeg) = 0 → J mX5_used d 0 0 Q 0 0 41 [some (.inr (.inr v0)), u1, some (.inl v2)] [] h) (k2 : ¬ (h.1 (v0 + 3) v2.toNatClampNeg) = 0 → J mX5_used d 0 0 Q 0 0 21 [some (.inr (.inr v0)), u1, some (.inl v2)] [] h) : J mX5_used d 0 0 Q 0 0 12 [some (.inr (.inr v0)), u1, some (.inl v2)] [] h := by
  refine zrun 8 5 qX5_used (o := 5) rfl ?_
  show zokO h v0 5 ∧ zokA h (h.2.2.1 v0 4) 20 v2 ∧ (((h.1 (h.2.2.1 v0 4) v2.toNatClampNeg) = 0 → J mX5_used d 0 0 Q 0 0 41 [some (.inr (.inr v0)), u1, some (.inl v2)] [] h) ∧ (¬ (h.1 (h.2.2.1 v0 4) v2.toNatClampNeg) = 0 → J mX5_used d 0 0 Q 0 0 21 [some (.inr (.inr v0)), u1, some (.inl v2)] [] h))
  rw [(show h.2.2.1 v0 4 = (v0 + 3) from (hr.f5 4 g0 (by decide)))]
  exact ⟨g0, (zca hr g0 (by decide) (by decide) g1), k1, k2⟩

theorem bX5_used_21 {d : Nat} {Q : Option MV → MH → Prop} {h : MH} {u1 : Option MV} {v2 : Int32} {v0 : Nat} (hr : zRf h) (g0 : zokO h v0 5) (g1 : vp_in v2 40) (k1 : (h.1 (v0 + 3) v2.toNatClampNeg) = (nI 1) → J mX5_used d 0 0 Q 0 0 41 [some (.inr (.inr v0)), u1, some (.inl v2)] [] h) (k2 : ¬ (h.1 (v0 + 3) v2.toNatClampNeg) = (nI 1) → J mX5_used d 0 0 Q 0 0 31 [some (.inr (.inr v0)), u1, some (.inl v2)] [] h) : J mX5_used d 0 0 Q 0 0 21 [some (.inr (.inr v0)), u1, some (.inl v2)] [] h := by
  refine zrun 13 6 qX5_used (o := 5) rfl ?_
  show zokO h v0 5 ∧ zokA h (h.2.2.1 v0 4) 20 v2 ∧ (((h.1 (h.2.2.1 v0 4) v2.toNatClampNeg) = (nI 1) → J mX5_used d 0 0 Q 0 0 41 [some (.inr (.inr v0)), u1, some (.inl v2)] [] h) ∧ (¬ (h.1 (h.2.2.1 v0 4) v2.toNatClampNeg) = (nI 1) → J mX5_used d 0 0 Q 0 0 31 [some (.inr (.inr v0)), u1, some (.inl v2)] [] h))
  rw [(show h.2.2.1 v0 4 = (v0 + 3) from (hr.f5 4 g0 (by decide)))]
  exact ⟨g0, (zca hr g0 (by decide) (by decide) g1), k1, k2⟩

theorem bX5_used_31 {d : Nat} {Q : Option MV → MH → Prop} {h : MH} {u1 : Option MV} {v2 : Int32} {v0 : Nat} (hr : zRf h) (g0 : zokO h v0 5) (g1 : vp_in v2 40) (k1 : ¬ (h.1 (v0 + 3) v2.toNatClampNeg) = (nI 3) → J mX5_used d 0 0 Q 0 0 52 [some (.inr (.inr v0)), u1, some (.inl v2)] [] h) (k2 : (h.1 (v0 + 3) v2.toNatClampNeg) = (nI 3) → J mX5_used d 0 0 Q 0 0 41 [some (.inr (.inr v0)), u1, some (.inl v2)] [] h) : J mX5_used d 0 0 Q 0 0 31 [some (.inr (.inr v0)), u1, some (.inl v2)] [] h := by
  refine zrun 19 6 qX5_used (o := 5) rfl ?_
  show zokO h v0 5 ∧ zokA h (h.2.2.1 v0 4) 20 v2 ∧ ((¬ (h.1 (h.2.2.1 v0 4) v2.toNatClampNeg) = (nI 3) → J mX5_used d 0 0 Q 0 0 52 [some (.inr (.inr v0)), u1, some (.inl v2)] [] h) ∧ ((h.1 (h.2.2.1 v0 4) v2.toNatClampNeg) = (nI 3) → J mX5_used d 0 0 Q 0 0 41 [some (.inr (.inr v0)), u1, some (.inl v2)] [] h))
  rw [(show h.2.2.1 v0 4 = (v0 + 3) from (hr.f5 4 g0 (by decide)))]
  exact ⟨g0, (zca hr g0 (by decide) (by decide) g1), k1, k2⟩

theorem bX5_used_41 {d : Nat} {Q : Option MV → MH → Prop} {h : MH} {v1 v2 : Int32} {v0 : Nat} (hr : zRf h) (g0 : zokO h v0 5) (g1 : vp_in v2 40) (k : J mX5_used d 0 0 Q 0 0 52 [some (.inr (.inr v0)), some (.inl (v1 ||| ((nI 1) <<< ((h.1 (v0 + 4) v2.toNatClampNeg) &&& 31)))), some (.inl v2)] [] h) : J mX5_used d 0 0 Q 0 0 41 [some (.inr (.inr v0)), some (.inl v1), some (.inl v2)] [] h := by
  refine zrun 25 9 qX5_used (o := 5) rfl ?_
  show zokO h v0 5 ∧ zokA h (h.2.2.1 v0 5) 20 v2 ∧ J mX5_used d 0 0 Q 0 0 52 [some (.inr (.inr v0)), some (.inl (v1 ||| ((nI 1) <<< ((h.1 (h.2.2.1 v0 5) v2.toNatClampNeg) &&& 31)))), some (.inl v2)] [] h
  rw [(show h.2.2.1 v0 5 = (v0 + 4) from (hr.f5 5 g0 (by decide)))]
  exact ⟨g0, (zca hr g0 (by decide) (by decide) g1), k⟩

theorem bX5_used_52 {d : Nat} {Q : Option MV → MH → Prop} {h : MH} {u1 : Option MV} {v2 : Int32} {v0 : Nat} (hr : zRf h) (g0 : zokO h v0 5) (g1 : vp_in v2 40) (k1 : ¬ (h.1 (v0 + 3) v2.toNatClampNeg) = (nI 3) → J mX5_used d 0 0 Q 0 0 73 [some (.inr (.inr v0)), u1, some (.inl v2)] [] h) (k2 : (h.1 (v0 + 3) v2.toNatClampNeg) = (nI 3) → J mX5_used d 0 0 Q 0 0 62 [some (.inr (.inr v0)), u1, some (.inl v2)] [] h) : J mX5_used d 0 0 Q 0 0 52 [some (.inr (.inr v0)), u1, some (.inl v2)] [] h := by
  refine zrun 34 6 qX5_used (o := 5) rfl ?_
  show zokO h v0 5 ∧ zokA h (h.2.2.1 v0 4) 20 v2 ∧ ((¬ (h.1 (h.2.2.1 v0 4) v2.toNatClampNeg) = (nI 3) → J mX5_used d 0 0 Q 0 0 73 [some (.inr (.inr v0)), u1, some (.inl v2)] [] h) ∧ ((h.1 (h.2.2.1 v0 4) v2.toNatClampNeg) = (nI 3) → J mX5_used d 0 0 Q 0 0 62 [some (.inr (.inr v0)), u1, some (.inl v2)] [] h))
  rw [(show h.2.2.1 v0 4 = (v0 + 3) from (hr.f5 4 g0 (by decide)))]
  exact ⟨g0, (zca hr g0 (by decide) (by decide) g1), k1, k2⟩

theorem bX5_used_62 {d : Nat} {Q : Option MV → MH → Prop} {h : MH} {v1 v2 : Int32} {v0 : Nat} (hr : zRf h) (g0 : zokO h v0 5) (g1 : vp_in v2 40) (k : J mX5_used d 0 0 Q 0 0 73 [some (.inr (.inr v0)), some (.inl (v1 ||| ((nI 1) <<< ((h.1 (v0 + 5) v2.toNatClampNeg) &&& 31)))), some (.inl v2)] [] h) : J mX5_used d 0 0 Q 0 0 62 [some (.inr (.inr v0)), some (.inl v1), some (.inl v2)] [] h := by
  refine zrun 40 9 qX5_used (o := 5) rfl ?_
  show zokO h v0 5 ∧ zokA h (h.2.2.1 v0 6) 20 v2 ∧ J mX5_used d 0 0 Q 0 0 73 [some (.inr (.inr v0)), some (.inl (v1 ||| ((nI 1) <<< ((h.1 (h.2.2.1 v0 6) v2.toNatClampNeg) &&& 31)))), some (.inl v2)] [] h
  rw [(show h.2.2.1 v0 6 = (v0 + 5) from (hr.f5 6 g0 (by decide)))]
  exact ⟨g0, (zca hr g0 (by decide) (by decide) g1), k⟩

theorem bX5_used_73 {d : Nat} {Q : Option MV → MH → Prop} {h : MH} {u0 : Option MV} {v2 v1 : Int32} (k : J mX5_used d 0 0 Q 0 0 4 [u0, some (.inl v1), some (.inl (v2 + nI 1))] [] h) : J mX5_used d 0 0 Q 0 0 73 [u0, some (.inl v1), some (.inl v2)] [] h := by
  refine zrun 49 2 qX5_used (o := 5) rfl ?_
  show J mX5_used d 0 0 Q 0 0 4 [u0, some (.inl v1), some (.inl (v2 + nI 1))] [] h
  exact k

theorem bX5_used_79 {d : Nat} {Q : Option MV → MH → Prop} {h : MH} {u0 u2 : Option MV} {v1 : Int32} (k : Q (some (.inl v1)) h) : J mX5_used d 0 0 Q 0 0 79 [u0, some (.inl v1), u2] [] h := by
  refine zrun 51 1 qX5_used (o := 5) rfl ?_
  show J mX5_used d 0 0 Q 0 0 80 [u0, some (.inl v1), u2] [.inl v1] h
  exact J_iret (ty := .int) (zat qX5_used 52 (by rfl)) rfl rfl (Nat.le_refl 0) (Nat.le_refl 0) k

theorem bX1_init_4 {d mc ms cs ss : Nat} {Q : Option MV → MH → Prop} {h : MH} {u1 : Option MV} {v0 : Nat} (hc : cs ≤ mc ∧ ss ≤ ms) (k : J mX1_init d mc ms Q cs ss 5 [some (.inr (.inr v0)), u1] [.inr (.inr v0)] h) : J mX1_init d mc ms Q cs ss 4 [some (.inr (.inr v0)), u1] [] h := by
  refine zrun 2 1 qX1_init (o := 1) rfl ?_
  show J mX1_init d mc ms Q cs ss 5 [some (.inr (.inr v0)), u1] [.inr (.inr v0)] h
  exact k

theorem bX1_init_25 {d mc ms cs ss : Nat} {Q : Option MV → MH → Prop} {h : MH} {u0 : Option MV} {v1 : Int32} (hc : cs ≤ mc ∧ ss ≤ ms) (k1 : (nI 4) ≤ v1 → J mX1_init d mc ms Q cs ss 49 [u0, some (.inl v1)] [] h) (k2 : ¬ (nI 4) ≤ v1 → J mX1_init d mc ms Q cs ss 30 [u0, some (.inl v1)] [] h) : J mX1_init d mc ms Q cs ss 25 [u0, some (.inl v1)] [] h := by
  refine zrun 11 3 qX1_init (o := 1) rfl ?_
  show (((nI 4) ≤ v1 → J mX1_init d mc ms Q cs ss 49 [u0, some (.inl v1)] [] h) ∧ (¬ (nI 4) ≤ v1 → J mX1_init d mc ms Q cs ss 30 [u0, some (.inl v1)] [] h))
  exact ⟨k1, k2⟩

theorem bX1_init_30 {d mc ms cs ss : Nat} {Q : Option MV → MH → Prop} {h : MH} {v1 : Int32} {v0 : Nat} (hr : zRf h) (hc : cs ≤ mc ∧ ss ≤ ms) (g0 : zokO h v0 1) (k : J mX1_init d mc ms Q cs ss 35 [some (.inr (.inr v0)), some (.inl v1)] [.inl v1, .inr (.inr (v0 + 6))] h) : J mX1_init d mc ms Q cs ss 30 [some (.inr (.inr v0)), some (.inl v1)] [] h := by
  refine zrun 14 3 qX1_init (o := 1) rfl ?_
  show zokO h v0 1 ∧ J mX1_init d mc ms Q cs ss 35 [some (.inr (.inr v0)), some (.inl v1)] [.inl v1, .inr (.inr (h.2.2.1 v0 1))] h
  rw [(show h.2.2.1 v0 1 = (v0 + 6) from (hr.f1 1 g0 (by decide)))]
  exact ⟨g0, k⟩

theorem bX1_init_43 {d mc ms cs ss : Nat} {Q : Option MV → MH → Prop} {h : MH} {v1 : Int32} {v0 : Nat} (hc : cs ≤ mc ∧ ss ≤ ms) (k : J mX1_init d mc ms Q cs ss 25 [some (.inr (.inr v0)), some (.inl (v1 + nI 1))] [] h) : J mX1_init d mc ms Q cs ss 43 [some (.inr (.inr v0)), some (.inl v1)] [] h := by
  refine zrun 20 2 qX1_init (o := 1) rfl ?_
  show J mX1_init d mc ms Q cs ss 25 [some (.inr (.inr v0)), some (.inl (v1 + nI 1))] [] h
  exact k

theorem bX1_init_49 {d mc ms cs ss : Nat} {Q : Option MV → MH → Prop} {h : MH} {u0 u1 : Option MV} (hc : cs ≤ mc ∧ ss ≤ ms) (k : Q none h) : J mX1_init d mc ms Q cs ss 49 [u0, u1] [] h := by
  exact J_vret (zat qX1_init 22 (by rfl)) rfl hc.1 hc.2 k

theorem bX1_takeFrom_0 {d d' : Nat} {Q : Option MV → MH → Prop} {h : MH} {u2 : Option MV} {v0 v1 : Nat} (hr : zRf h) (g0 : zokO h v0 1) (g1 : zokO h v1 1) (hd : d' + 1 ≤ d) (k : Con mX2_takeFrom d' 0 0 [.inr (.inr (v0 + 1)), .inr (.inr (v1 + 1))] h (zrv fun h' => J mX1_takeFrom d 0 0 Q 0 0 11 [some (.inr (.inr v0)), some (.inr (.inr v1)), u2] [] h')) : J mX1_takeFrom d 0 0 Q 0 0 0 [some (.inr (.inr v0)), some (.inr (.inr v1)), u2] [] h := by
  refine zrun 0 4 qX1_takeFrom (o := 1) rfl ?_
  show zokO h v0 1 ∧ zokO h v1 1 ∧ J mX1_takeFrom d 0 0 Q 0 0 8 [some (.inr (.inr v0)), some (.inr (.inr v1)), u2] [.inr (.inr (h.2.2.1 v1 0)), .inr (.inr (h.2.2.1 v0 0))] h
  rw [(show h.2.2.1 v0 0 = (v0 + 1) from (hr.f1 0 g0 (by decide))), (show h.2.2.1 v1 0 = (v1 + 1) from (hr.f1 0 g1 (by decide)))]
  exact ⟨g0, g1, zcVv (as := [.inr (.inr (v1 + 1))]) (zat qX1_takeFrom 4 (by rfl)) l1_25 rfl hd rfl (Nat.le_of_ble_eq_true rfl) zle0 (ci := 2) (by decide) rfl (zcO (n := 5) hr g0 (by decide) (by decide)) k⟩

theorem bX1_takeFrom_11 {d : Nat} {Q : Option MV → MH → Prop} {h : MH} {u0 u2 : Option MV} {v1 : Nat} (k : J mX1_takeFrom d 0 0 Q 0 0 13 [u0, some (.inr (.inr v1)), some (.inl (nI 0))] [] h) : J mX1_takeFrom d 0 0 Q 0 0 11 [u0, some (.inr (.inr v1)), u2] [] h := by
  refine zrun 5 2 qX1_takeFrom (o := 1) rfl ?_
  show J mX1_takeFrom d 0 0 Q 0 0 13 [u0, some (.inr (.inr v1)), some (.inl (nI 0))] [] h
  exact k

theorem bX1_takeFrom_13 {d : Nat} {Q : Option MV → MH → Prop} {h : MH} {u0 u1 : Option MV} {v2 : Int32} (k1 : (nI 4) ≤ v2 → J mX1_takeFrom d 0 0 Q 0 0 39 [u0, u1, some (.inl v2)] [] h) (k2 : ¬ (nI 4) ≤ v2 → J mX1_takeFrom d 0 0 Q 0 0 18 [u0, u1, some (.inl v2)] [] h) : J mX1_takeFrom d 0 0 Q 0 0 13 [u0, u1, some (.inl v2)] [] h := by
  refine zrun 7 3 qX1_takeFrom (o := 1) rfl ?_
  show (((nI 4) ≤ v2 → J mX1_takeFrom d 0 0 Q 0 0 39 [u0, u1, some (.inl v2)] [] h) ∧ (¬ (nI 4) ≤ v2 → J mX1_takeFrom d 0 0 Q 0 0 18 [u0, u1, some (.inl v2)] [] h))
  exact ⟨k1, k2⟩

theorem bX1_takeFrom_18 {d d' : Nat} {Q : Option MV → MH → Prop} {h : MH} {v2 : Int32} {v0 v1 : Nat} (hr : zRf h) (g0 : zokO h v0 1) (g1 : vp_in v2 4) (g2 : zokO h v1 1) (hd : d' + 1 ≤ d) (k : Con mX5_takeFrom d' 0 0 [.inr (.inr ((v0 + 6) + 1 + 6 * v2.toNatClampNeg)), .inr (.inr ((v1 + 6) + 1 + 6 * v2.toNatClampNeg))] h (zrv fun h' => J mX1_takeFrom d 0 0 Q 0 0 33 [some (.inr (.inr v0)), some (.inr (.inr v1)), some (.inl v2)] [] h')) : J mX1_takeFrom d 0 0 Q 0 0 18 [some (.inr (.inr v0)), some (.inr (.inr v1)), some (.inl v2)] [] h := by
  refine zrun 10 8 qX1_takeFrom (o := 1) rfl ?_
  show zokO h v0 1 ∧ zokR h (h.2.2.1 v0 1) v2 ∧ zokO h v1 1 ∧ zokR h (h.2.2.1 v1 1) v2 ∧ J mX1_takeFrom d 0 0 Q 0 0 30 [some (.inr (.inr v0)), some (.inr (.inr v1)), some (.inl v2)] [.inr (.inr (h.2.2.1 (h.2.2.1 v1 1) v2.toNatClampNeg)), .inr (.inr (h.2.2.1 (h.2.2.1 v0 1) v2.toNatClampNeg))] h
  rw [(show h.2.2.1 v0 1 = (v0 + 6) from (hr.f1 1 g0 (by decide))), (show h.2.2.1 (v0 + 6) v2.toNatClampNeg = ((v0 + 6) + 1 + 6 * v2.toNatClampNeg) from (zca30 hr g0 g1)), (show h.2.2.1 v1 1 = (v1 + 6) from (hr.f1 1 g2 (by decide))), (show h.2.2.1 (v1 + 6) v2.toNatClampNeg = ((v1 + 6) + 1 + 6 * v2.toNatClampNeg) from (zca30 hr g2 g1))]
  exact ⟨g0, (zcR (kc := 30) hr g0 (by decide) (by decide) (by decide) g1), g2, (zcR (kc := 30) hr g2 (by decide) (by decide) (by decide) g1), zcVv (as := [.inr (.inr ((v1 + 6) + 1 + 6 * v2.toNatClampNeg))]) (zat qX1_takeFrom 18 (by rfl)) l1_29 rfl hd rfl (Nat.le_of_ble_eq_true rfl) zle0 (ci := 5) (by decide) rfl (zbp hr g0 g1) k⟩

theorem bX1_takeFrom_33 {d : Nat} {Q : Option MV → MH → Prop} {h : MH} {u0 : Option MV} {v2 : Int32} {v1 : Nat} (k : J mX1_takeFrom d 0 0 Q 0 0 13 [u0, some (.inr (.inr v1)), some (.inl (v2 + nI 1))] [] h) : J mX1_takeFrom d 0 0 Q 0 0 33 [u0, some (.inr (.inr v1)), some (.inl v2)] [] h := by
  refine zrun 19 2 qX1_takeFrom (o := 1) rfl ?_
  show J mX1_takeFrom d 0 0 Q 0 0 13 [u0, some (.inr (.inr v1)), some (.inl (v2 + nI 1))] [] h
  exact k

theorem bX1_takeFrom_39 {d : Nat} {Q : Option MV → MH → Prop} {h : MH} {u0 u1 u2 : Option MV} (k : Q none h) : J mX1_takeFrom d 0 0 Q 0 0 39 [u0, u1, u2] [] h := by
  exact J_vret (zat qX1_takeFrom 21 (by rfl)) rfl (Nat.le_refl 0) (Nat.le_refl 0) k

