theorem bX9_init_4 {d mc ms cs ss : Nat} {Q : Option MV → MH → Prop} {h : MH} (hc : cs ≤ mc ∧ ss ≤ ms) (k : J mX9_init d mc ms Q cs ss 6 [some (.inr (.inr 62))] [.inl (nI 4), .inr (.inr 62)] h) : J mX9_init d mc ms Q cs ss 4 [some (.inr (.inr 62))] [] h := by
  refine zrun 2 2 qX9_init (o := 9) rfl ?_
  show J mX9_init d mc ms Q cs ss 6 [some (.inr (.inr 62))] [.inl (nI 4), .inr (.inr 62)] h
  exact k

theorem bX9_lay_0 {d : Nat} {Q : Option MV → MH → Prop} {h : MH} {u1 u2 u4 : Option MV} {v3 : Int32} (hr : zRf h) (g0 : v3 = 0 ∨ v3 = 1) (k : J mX9_lay d 0 0 Q 0 0 23 [some (.inr (.inr 62)), u1, u2, some (.inl v3), some (.inl (nI 0))] [] (zsI (zsI (zsI (zsI h 62 1 v3) 62 0 (nI 0)) 62 2 (nI 0)) 62 3 (nI 0))) : J mX9_lay d 0 0 Q 0 0 0 [some (.inr (.inr 62)), u1, u2, some (.inl v3), u4] [] h := by
  refine zrun 0 14 qX9_lay (o := 9) rfl ?_
  show (zokO h 62 9 ∧ ((.inl v3 : MV) = .inl 0 ∨ (.inl v3 : MV) = .inl 1)) ∧ zokO (zsI h 62 1 v3) 62 9 ∧ zokO (zsI (zsI h 62 1 v3) 62 0 (nI 0)) 62 9 ∧ zokO (zsI (zsI (zsI h 62 1 v3) 62 0 (nI 0)) 62 2 (nI 0)) 62 9 ∧ J mX9_lay d 0 0 Q 0 0 23 [some (.inr (.inr 62)), u1, u2, some (.inl v3), some (.inl (nI 0))] [] (zsI (zsI (zsI (zsI h 62 1 v3) 62 0 (nI 0)) 62 2 (nI 0)) 62 3 (nI 0))
  exact ⟨⟨zo hr (by decide) rfl, zbo g0⟩, (zo hr (by decide) rfl), (zo hr (by decide) rfl), (zo hr (by decide) rfl), k⟩

theorem bX9_lay_23 {d : Nat} {Q : Option MV → MH → Prop} {h : MH} {u0 u2 u3 : Option MV} {v4 : Int32} {v1 : Nat} (g0 : zokO h v1 2) (k1 : (h.1 v1 0) ≤ v4 → J mX9_lay d 0 0 Q 0 0 136 [u0, some (.inr (.inr v1)), u2, u3, some (.inl v4)] [] h) (k2 : ¬ (h.1 v1 0) ≤ v4 → J mX9_lay d 0 0 Q 0 0 32 [u0, some (.inr (.inr v1)), u2, u3, some (.inl v4)] [] h) : J mX9_lay d 0 0 Q 0 0 23 [u0, some (.inr (.inr v1)), u2, u3, some (.inl v4)] [] h := by
  refine zrun 14 4 qX9_lay (o := 9) rfl ?_
  show zokO h v1 2 ∧ (((h.1 v1 0) ≤ v4 → J mX9_lay d 0 0 Q 0 0 136 [u0, some (.inr (.inr v1)), u2, u3, some (.inl v4)] [] h) ∧ (¬ (h.1 v1 0) ≤ v4 → J mX9_lay d 0 0 Q 0 0 32 [u0, some (.inr (.inr v1)), u2, u3, some (.inl v4)] [] h))
  exact ⟨g0, k1, k2⟩

theorem bX9_lay_32 {d : Nat} {Q : Option MV → MH → Prop} {h : MH} {u1 u2 u3 u4 : Option MV} (hr : zRf h) (k1 : (nI 4) ≤ (h.1 62 0) → J mX9_lay d 0 0 Q 0 0 136 [some (.inr (.inr 62)), u1, u2, u3, u4] [] h) (k2 : ¬ (nI 4) ≤ (h.1 62 0) → J mX9_lay d 0 0 Q 0 0 40 [some (.inr (.inr 62)), u1, u2, u3, u4] [] h) : J mX9_lay d 0 0 Q 0 0 32 [some (.inr (.inr 62)), u1, u2, u3, u4] [] h := by
  refine zrun 18 4 qX9_lay (o := 9) rfl ?_
  show zokO h 62 9 ∧ (((nI 4) ≤ (h.1 62 0) → J mX9_lay d 0 0 Q 0 0 136 [some (.inr (.inr 62)), u1, u2, u3, u4] [] h) ∧ (¬ (nI 4) ≤ (h.1 62 0) → J mX9_lay d 0 0 Q 0 0 40 [some (.inr (.inr 62)), u1, u2, u3, u4] [] h))
  exact ⟨(zo hr (by decide) rfl), k1, k2⟩

theorem bX9_lay_40 {d : Nat} {Q : Option MV → MH → Prop} {h : MH} {u0 u1 u3 : Option MV} {v2 v4 : Int32} (k1 : ((v2 >>> (v4 &&& 31)) &&& (nI 1)) = 0 → J mX9_lay d 0 0 Q 0 0 130 [u0, u1, some (.inl v2), u3, some (.inl v4)] [] h) (k2 : ¬ ((v2 >>> (v4 &&& 31)) &&& (nI 1)) = 0 → J mX9_lay d 0 0 Q 0 0 49 [u0, u1, some (.inl v2), u3, some (.inl v4)] [] h) : J mX9_lay d 0 0 Q 0 0 40 [u0, u1, some (.inl v2), u3, some (.inl v4)] [] h := by
  refine zrun 22 6 qX9_lay (o := 9) rfl ?_
  show ((((v2 >>> (v4 &&& 31)) &&& (nI 1)) = 0 → J mX9_lay d 0 0 Q 0 0 130 [u0, u1, some (.inl v2), u3, some (.inl v4)] [] h) ∧ (¬ ((v2 >>> (v4 &&& 31)) &&& (nI 1)) = 0 → J mX9_lay d 0 0 Q 0 0 49 [u0, u1, some (.inl v2), u3, some (.inl v4)] [] h))
  exact ⟨k1, k2⟩

theorem bX9_lay_49 {d d' : Nat} {Q : Option MV → MH → Prop} {h : MH} {u2 u3 : Option MV} {v4 : Int32} {v1 : Nat} (hr : zRf h) (g0 : vp_in (nI 0) 5) (gr : zokO h v1 2) (hd : d' + 1 ≤ d) (k : Con mX2_sparksOf d' 0 0 [.inr (.inr v1), .inl v4] h (zri fun (x : Int32) h' => J mX9_lay d 0 0 Q 0 0 65 [some (.inr (.inr 62)), some (.inr (.inr v1)), u2, u3, some (.inl v4)] [.inl x, .inl (h.1 62 0), .inr (.inr (66 + 0))] h')) : J mX9_lay d 0 0 Q 0 0 49 [some (.inr (.inr 62)), some (.inr (.inr v1)), u2, u3, some (.inl v4)] [] h := by
  refine zrun 28 8 qX9_lay (o := 9) rfl ?_
  show zokO h 62 9 ∧ zokR h (h.2.2.1 62 14) (nI 0) ∧ zokO h 62 9 ∧ J mX9_lay d 0 0 Q 0 0 62 [some (.inr (.inr 62)), some (.inr (.inr v1)), u2, u3, some (.inl v4)] [.inl v4, .inr (.inr v1), .inl (h.1 62 0), .inr (.inr (h.2.2.1 (h.2.2.1 62 14) 0))] h
  rw [(show h.2.2.1 62 14 = 65 from (hr.at (by decide) (by decide) (by rfl))), (show h.2.2.1 65 0 = (66 + 0) from (hr.a33 (by decide) (by rfl) (vp_lt g0)))]
  exact ⟨(zo hr (by decide) rfl), (zir_ hr (by decide) (by rfl) (by decide) g0), (zo hr (by decide) rfl), zcVi (as := [.inl v4]) (zat qX9_lay 36 (by rfl)) l9_45 rfl hd rfl (Nat.le_of_ble_eq_true rfl) zle0 (ci := 2) (by decide) rfl gr k⟩

theorem bX9_lay_65 {d d' : Nat} {Q : Option MV → MH → Prop} {h : MH} {u1 u2 u3 u4 : Option MV} {vs1 vs2 : Int32} {vs0 : Nat} (hr : zRf h) (g0 : zokA h vs0 20 vs1) (g1 : vp_in (nI 0) 5) (g2 : zokA h (72 + 0) 20 ((zsI h vs0 vs1.toNatClampNeg vs2).1 62 0)) (g3 : zokA h (66 + 0) 20 ((zsI (zsI h vs0 vs1.toNatClampNeg vs2) (72 + 0) ((zsI h vs0 vs1.toNatClampNeg vs2).1 62 0).toNatClampNeg (nI 0)).1 62 0)) (g4 : zokA h (66 + 0) 20 ((zsI (zsI (zsI h vs0 vs1.toNatClampNeg vs2) (72 + 0) ((zsI h vs0 vs1.toNatClampNeg vs2).1 62 0).toNatClampNeg (nI 0)) 62 2 (((zsI (zsI h vs0 vs1.toNatClampNeg vs2) (72 + 0) ((zsI h vs0 vs1.toNatClampNeg vs2).1 62 0).toNatClampNeg (nI 0)).1 62 2) + ((zsI (zsI h vs0 vs1.toNatClampNeg vs2) (72 + 0) ((zsI h vs0 vs1.toNatClampNeg vs2).1 62 0).toNatClampNeg (nI 0)).1 (66 + 0) ((zsI (zsI h vs0 vs1.toNatClampNeg vs2) (72 + 0) ((zsI h vs0 vs1.toNatClampNeg vs2).1 62 0).toNatClampNeg (nI 0)).1 62 0).toNatClampNeg))).1 62 0)) (hd : d' + 1 ≤ d) (k : Con mX9_commonMeasure d' 0 0 [.inl ((zsI (zsI (zsI h vs0 vs1.toNatClampNeg vs2) (72 + 0) ((zsI h vs0 vs1.toNatClampNeg vs2).1 62 0).toNatClampNeg (nI 0)) 62 2 (((zsI (zsI h vs0 vs1.toNatClampNeg vs2) (72 + 0) ((zsI h vs0 vs1.toNatClampNeg vs2).1 62 0).toNatClampNeg (nI 0)).1 62 2) + ((zsI (zsI h vs0 vs1.toNatClampNeg vs2) (72 + 0) ((zsI h vs0 vs1.toNatClampNeg vs2).1 62 0).toNatClampNeg (nI 0)).1 (66 + 0) ((zsI (zsI h vs0 vs1.toNatClampNeg vs2) (72 + 0) ((zsI h vs0 vs1.toNatClampNeg vs2).1 62 0).toNatClampNeg (nI 0)).1 62 0).toNatClampNeg))).1 62 3), .inl ((zsI (zsI (zsI h vs0 vs1.toNatClampNeg vs2) (72 + 0) ((zsI h vs0 vs1.toNatClampNeg vs2).1 62 0).toNatClampNeg (nI 0)) 62 2 (((zsI (zsI h vs0 vs1.toNatClampNeg vs2) (72 + 0) ((zsI h vs0 vs1.toNatClampNeg vs2).1 62 0).toNatClampNeg (nI 0)).1 62 2) + ((zsI (zsI h vs0 vs1.toNatClampNeg vs2) (72 + 0) ((zsI h vs0 vs1.toNatClampNeg vs2).1 62 0).toNatClampNeg (nI 0)).1 (66 + 0) ((zsI (zsI h vs0 vs1.toNatClampNeg vs2) (72 + 0) ((zsI h vs0 vs1.toNatClampNeg vs2).1 62 0).toNatClampNeg (nI 0)).1 62 0).toNatClampNeg))).1 (66 + 0) ((zsI (zsI (zsI h vs0 vs1.toNatClampNeg vs2) (72 + 0) ((zsI h vs0 vs1.toNatClampNeg vs2).1 62 0).toNatClampNeg (nI 0)) 62 2 (((zsI (zsI h vs0 vs1.toNatClampNeg vs2) (72 + 0) ((zsI h vs0 vs1.toNatClampNeg vs2).1 62 0).toNatClampNeg (nI 0)).1 62 2) + ((zsI (zsI h vs0 vs1.toNatClampNeg vs2) (72 + 0) ((zsI h vs0 vs1.toNatClampNeg vs2).1 62 0).toNatClampNeg (nI 0)).1 (66 + 0) ((zsI (zsI h vs0 vs1.toNatClampNeg vs2) (72 + 0) ((zsI h vs0 vs1.toNatClampNeg vs2).1 62 0).toNatClampNeg (nI 0)).1 62 0).toNatClampNeg))).1 62 0).toNatClampNeg)] (zsI (zsI (zsI h vs0 vs1.toNatClampNeg vs2) (72 + 0) ((zsI h vs0 vs1.toNatClampNeg vs2).1 62 0).toNatClampNeg (nI 0)) 62 2 (((zsI (zsI h vs0 vs1.toNatClampNeg vs2) (72 + 0) ((zsI h vs0 vs1.toNatClampNeg vs2).1 62 0).toNatClampNeg (nI 0)).1 62 2) + ((zsI (zsI h vs0 vs1.toNatClampNeg vs2) (72 + 0) ((zsI h vs0 vs1.toNatClampNeg vs2).1 62 0).toNatClampNeg (nI 0)).1 (66 + 0) ((zsI (zsI h vs0 vs1.toNatClampNeg vs2) (72 + 0) ((zsI h vs0 vs1.toNatClampNeg vs2).1 62 0).toNatClampNeg (nI 0)).1 62 0).toNatClampNeg))) (zri fun (x : Int32) h' => J mX9_lay d 0 0 Q 0 0 117 [some (.inr (.inr 62)), u1, u2, u3, u4] [.inl x, .inr (.inr 62)] h')) : J mX9_lay d 0 0 Q 0 0 65 [some (.inr (.inr 62)), u1, u2, u3, u4] [.inl vs2, .inl vs1, .inr (.inr vs0)] h := by
  refine zrun 37 31 qX9_lay (o := 9) rfl ?_
  show zokA h vs0 20 vs1 ∧ zokO (zsI h vs0 vs1.toNatClampNeg vs2) 62 9 ∧ zokR (zsI h vs0 vs1.toNatClampNeg vs2) (h.2.2.1 62 15) (nI 0) ∧ zokO (zsI h vs0 vs1.toNatClampNeg vs2) 62 9 ∧ zokA (zsI h vs0 vs1.toNatClampNeg vs2) (h.2.2.1 (h.2.2.1 62 15) 0) 20 ((zsI h vs0 vs1.toNatClampNeg vs2).1 62 0) ∧ zokO (zsI (zsI h vs0 vs1.toNatClampNeg vs2) (h.2.2.1 (h.2.2.1 62 15) 0) ((zsI h vs0 vs1.toNatClampNeg vs2).1 62 0).toNatClampNeg (nI 0)) 62 9 ∧ zokO (zsI (zsI h vs0 vs1.toNatClampNeg vs2) (h.2.2.1 (h.2.2.1 62 15) 0) ((zsI h vs0 vs1.toNatClampNeg vs2).1 62 0).toNatClampNeg (nI 0)) 62 9 ∧ zokR (zsI (zsI h vs0 vs1.toNatClampNeg vs2) (h.2.2.1 (h.2.2.1 62 15) 0) ((zsI h vs0 vs1.toNatClampNeg vs2).1 62 0).toNatClampNeg (nI 0)) (h.2.2.1 62 14) (nI 0) ∧ zokO (zsI (zsI h vs0 vs1.toNatClampNeg vs2) (h.2.2.1 (h.2.2.1 62 15) 0) ((zsI h vs0 vs1.toNatClampNeg vs2).1 62 0).toNatClampNeg (nI 0)) 62 9 ∧ zokA (zsI (zsI h vs0 vs1.toNatClampNeg vs2) (h.2.2.1 (h.2.2.1 62 15) 0) ((zsI h vs0 vs1.toNatClampNeg vs2).1 62 0).toNatClampNeg (nI 0)) (h.2.2.1 (h.2.2.1 62 14) 0) 20 ((zsI (zsI h vs0 vs1.toNatClampNeg vs2) (h.2.2.1 (h.2.2.1 62 15) 0) ((zsI h vs0 vs1.toNatClampNeg vs2).1 62 0).toNatClampNeg (nI 0)).1 62 0) ∧ zokO (zsI (zsI h vs0 vs1.toNatClampNeg vs2) (h.2.2.1 (h.2.2.1 62 15) 0) ((zsI h vs0 vs1.toNatClampNeg vs2).1 62 0).toNatClampNeg (nI 0)) 62 9 ∧ zokO (zsI (zsI (zsI h vs0 vs1.toNatClampNeg vs2) (h.2.2.1 (h.2.2.1 62 15) 0) ((zsI h vs0 vs1.toNatClampNeg vs2).1 62 0).toNatClampNeg (nI 0)) 62 2 (((zsI (zsI h vs0 vs1.toNatClampNeg vs2) (h.2.2.1 (h.2.2.1 62 15) 0) ((zsI h vs0 vs1.toNatClampNeg vs2).1 62 0).toNatClampNeg (nI 0)).1 62 2) + ((zsI (zsI h vs0 vs1.toNatClampNeg vs2) (h.2.2.1 (h.2.2.1 62 15) 0) ((zsI h vs0 vs1.toNatClampNeg vs2).1 62 0).toNatClampNeg (nI 0)).1 (h.2.2.1 (h.2.2.1 62 14) 0) ((zsI (zsI h vs0 vs1.toNatClampNeg vs2) (h.2.2.1 (h.2.2.1 62 15) 0) ((zsI h vs0 vs1.toNatClampNeg vs2).1 62 0).toNatClampNeg (nI 0)).1 62 0).toNatClampNeg))) 62 9 ∧ zokO (zsI (zsI (zsI h vs0 vs1.toNatClampNeg vs2) (h.2.2.1 (h.2.2.1 62 15) 0) ((zsI h vs0 vs1.toNatClampNeg vs2).1 62 0).toNatClampNeg (nI 0)) 62 2 (((zsI (zsI h vs0 vs1.toNatClampNeg vs2) (h.2.2.1 (h.2.2.1 62 15) 0) ((zsI h vs0 vs1.toNatClampNeg vs2).1 62 0).toNatClampNeg (nI 0)).1 62 2) + ((zsI (zsI h vs0 vs1.toNatClampNeg vs2) (h.2.2.1 (h.2.2.1 62 15) 0) ((zsI h vs0 vs1.toNatClampNeg vs2).1 62 0).toNatClampNeg (nI 0)).1 (h.2.2.1 (h.2.2.1 62 14) 0) ((zsI (zsI h vs0 vs1.toNatClampNeg vs2) (h.2.2.1 (h.2.2.1 62 15) 0) ((zsI h vs0 vs1.toNatClampNeg vs2).1 62 0).toNatClampNeg (nI 0)).1 62 0).toNatClampNeg))) 62 9 ∧ zokR (zsI (zsI (zsI h vs0 vs1.toNatClampNeg vs2) (h.2.2.1 (h.2.2.1 62 15) 0) ((zsI h vs0 vs1.toNatClampNeg vs2).1 62 0).toNatClampNeg (nI 0)) 62 2 (((zsI (zsI h vs0 vs1.toNatClampNeg vs2) (h.2.2.1 (h.2.2.1 62 15) 0) ((zsI h vs0 vs1.toNatClampNeg vs2).1 62 0).toNatClampNeg (nI 0)).1 62 2) + ((zsI (zsI h vs0 vs1.toNatClampNeg vs2) (h.2.2.1 (h.2.2.1 62 15) 0) ((zsI h vs0 vs1.toNatClampNeg vs2).1 62 0).toNatClampNeg (nI 0)).1 (h.2.2.1 (h.2.2.1 62 14) 0) ((zsI (zsI h vs0 vs1.toNatClampNeg vs2) (h.2.2.1 (h.2.2.1 62 15) 0) ((zsI h vs0 vs1.toNatClampNeg vs2).1 62 0).toNatClampNeg (nI 0)).1 62 0).toNatClampNeg))) (h.2.2.1 62 14) (nI 0) ∧ zokO (zsI (zsI (zsI h vs0 vs1.toNatClampNeg vs2) (h.2.2.1 (h.2.2.1 62 15) 0) ((zsI h vs0 vs1.toNatClampNeg vs2).1 62 0).toNatClampNeg (nI 0)) 62 2 (((zsI (zsI h vs0 vs1.toNatClampNeg vs2) (h.2.2.1 (h.2.2.1 62 15) 0) ((zsI h vs0 vs1.toNatClampNeg vs2).1 62 0).toNatClampNeg (nI 0)).1 62 2) + ((zsI (zsI h vs0 vs1.toNatClampNeg vs2) (h.2.2.1 (h.2.2.1 62 15) 0) ((zsI h vs0 vs1.toNatClampNeg vs2).1 62 0).toNatClampNeg (nI 0)).1 (h.2.2.1 (h.2.2.1 62 14) 0) ((zsI (zsI h vs0 vs1.toNatClampNeg vs2) (h.2.2.1 (h.2.2.1 62 15) 0) ((zsI h vs0 vs1.toNatClampNeg vs2).1 62 0).toNatClampNeg (nI 0)).1 62 0).toNatClampNeg))) 62 9 ∧ zokA (zsI (zsI (zsI h vs0 vs1.toNatClampNeg vs2) (h.2.2.1 (h.2.2.1 62 15) 0) ((zsI h vs0 vs1.toNatClampNeg vs2).1 62 0).toNatClampNeg (nI 0)) 62 2 (((zsI (zsI h vs0 vs1.toNatClampNeg vs2) (h.2.2.1 (h.2.2.1 62 15) 0) ((zsI h vs0 vs1.toNatClampNeg vs2).1 62 0).toNatClampNeg (nI 0)).1 62 2) + ((zsI (zsI h vs0 vs1.toNatClampNeg vs2) (h.2.2.1 (h.2.2.1 62 15) 0) ((zsI h vs0 vs1.toNatClampNeg vs2).1 62 0).toNatClampNeg (nI 0)).1 (h.2.2.1 (h.2.2.1 62 14) 0) ((zsI (zsI h vs0 vs1.toNatClampNeg vs2) (h.2.2.1 (h.2.2.1 62 15) 0) ((zsI h vs0 vs1.toNatClampNeg vs2).1 62 0).toNatClampNeg (nI 0)).1 62 0).toNatClampNeg))) (h.2.2.1 (h.2.2.1 62 14) 0) 20 ((zsI (zsI (zsI h vs0 vs1.toNatClampNeg vs2) (h.2.2.1 (h.2.2.1 62 15) 0) ((zsI h vs0 vs1.toNatClampNeg vs2).1 62 0).toNatClampNeg (nI 0)) 62 2 (((zsI (zsI h vs0 vs1.toNatClampNeg vs2) (h.2.2.1 (h.2.2.1 62 15) 0) ((zsI h vs0 vs1.toNatClampNeg vs2).1 62 0).toNatClampNeg (nI 0)).1 62 2) + ((zsI (zsI h vs0 vs1.toNatClampNeg vs2) (h.2.2.1 (h.2.2.1 62 15) 0) ((zsI h vs0 vs1.toNatClampNeg vs2).1 62 0).toNatClampNeg (nI 0)).1 (h.2.2.1 (h.2.2.1 62 14) 0) ((zsI (zsI h vs0 vs1.toNatClampNeg vs2) (h.2.2.1 (h.2.2.1 62 15) 0) ((zsI h vs0 vs1.toNatClampNeg vs2).1 62 0).toNatClampNeg (nI 0)).1 62 0).toNatClampNeg))).1 62 0) ∧ J mX9_lay d 0 0 Q 0 0 114 [some (.inr (.inr 62)), u1, u2, u3, u4] [.inl ((zsI (zsI (zsI h vs0 vs1.toNatClampNeg vs2) (h.2.2.1 (h.2.2.1 62 15) 0) ((zsI h vs0 vs1.toNatClampNeg vs2).1 62 0).toNatClampNeg (nI 0)) 62 2 (((zsI (zsI h vs0 vs1.toNatClampNeg vs2) (h.2.2.1 (h.2.2.1 62 15) 0) ((zsI h vs0 vs1.toNatClampNeg vs2).1 62 0).toNatClampNeg (nI 0)).1 62 2) + ((zsI (zsI h vs0 vs1.toNatClampNeg vs2) (h.2.2.1 (h.2.2.1 62 15) 0) ((zsI h vs0 vs1.toNatClampNeg vs2).1 62 0).toNatClampNeg (nI 0)).1 (h.2.2.1 (h.2.2.1 62 14) 0) ((zsI (zsI h vs0 vs1.toNatClampNeg vs2) (h.2.2.1 (h.2.2.1 62 15) 0) ((zsI h vs0 vs1.toNatClampNeg vs2).1 62 0).toNatClampNeg (nI 0)).1 62 0).toNatClampNeg))).1 (h.2.2.1 (h.2.2.1 62 14) 0) ((zsI (zsI (zsI h vs0 vs1.toNatClampNeg vs2) (h.2.2.1 (h.2.2.1 62 15) 0) ((zsI h vs0 vs1.toNatClampNeg vs2).1 62 0).toNatClampNeg (nI 0)) 62 2 (((zsI (zsI h vs0 vs1.toNatClampNeg vs2) (h.2.2.1 (h.2.2.1 62 15) 0) ((zsI h vs0 vs1.toNatClampNeg vs2).1 62 0).toNatClampNeg (nI 0)).1 62 2) + ((zsI (zsI h vs0 vs1.toNatClampNeg vs2) (h.2.2.1 (h.2.2.1 62 15) 0) ((zsI h vs0 vs1.toNatClampNeg vs2).1 62 0).toNatClampNeg (nI 0)).1 (h.2.2.1 (h.2.2.1 62 14) 0) ((zsI (zsI h vs0 vs1.toNatClampNeg vs2) (h.2.2.1 (h.2.2.1 62 15) 0) ((zsI h vs0 vs1.toNatClampNeg vs2).1 62 0).toNatClampNeg (nI 0)).1 62 0).toNatClampNeg))).1 62 0).toNatClampNeg), .inl ((zsI (zsI (zsI h vs0 vs1.toNatClampNeg vs2) (h.2.2.1 (h.2.2.1 62 15) 0) ((zsI h vs0 vs1.toNatClampNeg vs2).1 62 0).toNatClampNeg (nI 0)) 62 2 (((zsI (zsI h vs0 vs1.toNatClampNeg vs2) (h.2.2.1 (h.2.2.1 62 15) 0) ((zsI h vs0 vs1.toNatClampNeg vs2).1 62 0).toNatClampNeg (nI 0)).1 62 2) + ((zsI (zsI h vs0 vs1.toNatClampNeg vs2) (h.2.2.1 (h.2.2.1 62 15) 0) ((zsI h vs0 vs1.toNatClampNeg vs2).1 62 0).toNatClampNeg (nI 0)).1 (h.2.2.1 (h.2.2.1 62 14) 0) ((zsI (zsI h vs0 vs1.toNatClampNeg vs2) (h.2.2.1 (h.2.2.1 62 15) 0) ((zsI h vs0 vs1.toNatClampNeg vs2).1 62 0).toNatClampNeg (nI 0)).1 62 0).toNatClampNeg))).1 62 3), .inr (.inr 62)] (zsI (zsI (zsI h vs0 vs1.toNatClampNeg vs2) (h.2.2.1 (h.2.2.1 62 15) 0) ((zsI h vs0 vs1.toNatClampNeg vs2).1 62 0).toNatClampNeg (nI 0)) 62 2 (((zsI (zsI h vs0 vs1.toNatClampNeg vs2) (h.2.2.1 (h.2.2.1 62 15) 0) ((zsI h vs0 vs1.toNatClampNeg vs2).1 62 0).toNatClampNeg (nI 0)).1 62 2) + ((zsI (zsI h vs0 vs1.toNatClampNeg vs2) (h.2.2.1 (h.2.2.1 62 15) 0) ((zsI h vs0 vs1.toNatClampNeg vs2).1 62 0).toNatClampNeg (nI 0)).1 (h.2.2.1 (h.2.2.1 62 14) 0) ((zsI (zsI h vs0 vs1.toNatClampNeg vs2) (h.2.2.1 (h.2.2.1 62 15) 0) ((zsI h vs0 vs1.toNatClampNeg vs2).1 62 0).toNatClampNeg (nI 0)).1 62 0).toNatClampNeg)))
  rw [(show h.2.2.1 62 15 = 71 from (hr.at (by decide) (by decide) (by rfl))), (show h.2.2.1 71 0 = (72 + 0) from (hr.a33 (by decide) (by rfl) (vp_lt g1))), (show h.2.2.1 62 14 = 65 from (hr.at (by decide) (by decide) (by rfl))), (show h.2.2.1 65 0 = (66 + 0) from (hr.a33 (by decide) (by rfl) (vp_lt g1)))]
  exact ⟨g0, (zo hr (by decide) rfl), (zir_ hr (by decide) (by rfl) (by decide) g1), (zo hr (by decide) rfl), g2, (zo hr (by decide) rfl), (zo hr (by decide) rfl), (zir_ hr (by decide) (by rfl) (by decide) g1), (zo hr (by decide) rfl), g3, (zo hr (by decide) rfl), (zo hr (by decide) rfl), (zo hr (by decide) rfl), (zir_ hr (by decide) (by rfl) (by decide) g1), (zo hr (by decide) rfl), g4, zcSi (as := [.inl ((zsI (zsI (zsI h vs0 vs1.toNatClampNeg vs2) (72 + 0) ((zsI h vs0 vs1.toNatClampNeg vs2).1 62 0).toNatClampNeg (nI 0)) 62 2 (((zsI (zsI h vs0 vs1.toNatClampNeg vs2) (72 + 0) ((zsI h vs0 vs1.toNatClampNeg vs2).1 62 0).toNatClampNeg (nI 0)).1 62 2) + ((zsI (zsI h vs0 vs1.toNatClampNeg vs2) (72 + 0) ((zsI h vs0 vs1.toNatClampNeg vs2).1 62 0).toNatClampNeg (nI 0)).1 (66 + 0) ((zsI (zsI h vs0 vs1.toNatClampNeg vs2) (72 + 0) ((zsI h vs0 vs1.toNatClampNeg vs2).1 62 0).toNatClampNeg (nI 0)).1 62 0).toNatClampNeg))).1 62 3), .inl ((zsI (zsI (zsI h vs0 vs1.toNatClampNeg vs2) (72 + 0) ((zsI h vs0 vs1.toNatClampNeg vs2).1 62 0).toNatClampNeg (nI 0)) 62 2 (((zsI (zsI h vs0 vs1.toNatClampNeg vs2) (72 + 0) ((zsI h vs0 vs1.toNatClampNeg vs2).1 62 0).toNatClampNeg (nI 0)).1 62 2) + ((zsI (zsI h vs0 vs1.toNatClampNeg vs2) (72 + 0) ((zsI h vs0 vs1.toNatClampNeg vs2).1 62 0).toNatClampNeg (nI 0)).1 (66 + 0) ((zsI (zsI h vs0 vs1.toNatClampNeg vs2) (72 + 0) ((zsI h vs0 vs1.toNatClampNeg vs2).1 62 0).toNatClampNeg (nI 0)).1 62 0).toNatClampNeg))).1 (66 + 0) ((zsI (zsI (zsI h vs0 vs1.toNatClampNeg vs2) (72 + 0) ((zsI h vs0 vs1.toNatClampNeg vs2).1 62 0).toNatClampNeg (nI 0)) 62 2 (((zsI (zsI h vs0 vs1.toNatClampNeg vs2) (72 + 0) ((zsI h vs0 vs1.toNatClampNeg vs2).1 62 0).toNatClampNeg (nI 0)).1 62 2) + ((zsI (zsI h vs0 vs1.toNatClampNeg vs2) (72 + 0) ((zsI h vs0 vs1.toNatClampNeg vs2).1 62 0).toNatClampNeg (nI 0)).1 (66 + 0) ((zsI (zsI h vs0 vs1.toNatClampNeg vs2) (72 + 0) ((zsI h vs0 vs1.toNatClampNeg vs2).1 62 0).toNatClampNeg (nI 0)).1 62 0).toNatClampNeg))).1 62 0).toNatClampNeg)]) (zat qX9_lay 68 (by rfl)) l9_49 rfl hd rfl (Nat.le_of_ble_eq_true rfl) zle0 k⟩

theorem bX9_lay_117 {d : Nat} {Q : Option MV → MH → Prop} {h : MH} {u1 u2 u3 u4 : Option MV} {vs1 : Int32} (hr : zRf h) (k : J mX9_lay d 0 0 Q 0 0 130 [some (.inr (.inr 62)), u1, u2, u3, u4] [] (zsI (zsI h 62 3 vs1) 62 0 (((zsI h 62 3 vs1).1 62 0) + (nI 1)))) : J mX9_lay d 0 0 Q 0 0 117 [some (.inr (.inr 62)), u1, u2, u3, u4] [.inl vs1, .inr (.inr 62)] h := by
  refine zrun 69 7 qX9_lay (o := 9) rfl ?_
  show zokO h 62 9 ∧ zokO (zsI h 62 3 vs1) 62 9 ∧ zokO (zsI h 62 3 vs1) 62 9 ∧ J mX9_lay d 0 0 Q 0 0 130 [some (.inr (.inr 62)), u1, u2, u3, u4] [] (zsI (zsI h 62 3 vs1) 62 0 (((zsI h 62 3 vs1).1 62 0) + (nI 1)))
  exact ⟨(zo hr (by decide) rfl), (zo hr (by decide) rfl), (zo hr (by decide) rfl), k⟩

theorem bX9_lay_130 {d : Nat} {Q : Option MV → MH → Prop} {h : MH} {u0 u1 u2 : Option MV} {v4 v3 : Int32} (k : J mX9_lay d 0 0 Q 0 0 23 [u0, u1, u2, some (.inl v3), some (.inl (v4 + nI 1))] [] h) : J mX9_lay d 0 0 Q 0 0 130 [u0, u1, u2, some (.inl v3), some (.inl v4)] [] h := by
  refine zrun 76 2 qX9_lay (o := 9) rfl ?_
  show J mX9_lay d 0 0 Q 0 0 23 [u0, u1, u2, some (.inl v3), some (.inl (v4 + nI 1))] [] h
  exact k

theorem bX9_lay_136 {d : Nat} {Q : Option MV → MH → Prop} {h : MH} {u0 u1 u2 u3 u4 : Option MV} (k : Q none h) : J mX9_lay d 0 0 Q 0 0 136 [u0, u1, u2, u3, u4] [] h := by
  exact J_vret (zat qX9_lay 78 (by rfl)) rfl (Nat.le_refl 0) (Nat.le_refl 0) k

theorem bX9_commonMeasure_0 {d : Nat} {Q : Option MV → MH → Prop} {h : MH} {u2 u3 u4 u5 : Option MV} {v0 v1 : Int32} (k : J mX9_commonMeasure d 0 0 Q 0 0 7 [some (.inl v0), some (.inl v1), some (.inl v0), some (.inl v1), some (.inl (nI 0)), u5] [] h) : J mX9_commonMeasure d 0 0 Q 0 0 0 [some (.inl v0), some (.inl v1), u2, u3, u4, u5] [] h := by
  refine zrun 0 6 qX9_commonMeasure (o := 9) rfl ?_
  show J mX9_commonMeasure d 0 0 Q 0 0 7 [some (.inl v0), some (.inl v1), some (.inl v0), some (.inl v1), some (.inl (nI 0)), u5] [] h
  exact k

theorem bX9_commonMeasure_7 {d : Nat} {Q : Option MV → MH → Prop} {h : MH} {u0 u1 u2 u3 u5 : Option MV} {v4 : Int32} (k1 : (nI 100) ≤ v4 → J mX9_commonMeasure d 0 0 Q 0 0 34 [u0, u1, u2, u3, some (.inl v4), u5] [] h) (k2 : ¬ (nI 100) ≤ v4 → J mX9_commonMeasure d 0 0 Q 0 0 14 [u0, u1, u2, u3, some (.inl v4), u5] [] h) : J mX9_commonMeasure d 0 0 Q 0 0 7 [u0, u1, u2, u3, some (.inl v4), u5] [] h := by
  refine zrun 6 3 qX9_commonMeasure (o := 9) rfl ?_
  show (((nI 100) ≤ v4 → J mX9_commonMeasure d 0 0 Q 0 0 34 [u0, u1, u2, u3, some (.inl v4), u5] [] h) ∧ (¬ (nI 100) ≤ v4 → J mX9_commonMeasure d 0 0 Q 0 0 14 [u0, u1, u2, u3, some (.inl v4), u5] [] h))
  exact ⟨k1, k2⟩

theorem bX9_commonMeasure_14 {d : Nat} {Q : Option MV → MH → Prop} {h : MH} {u0 u1 u2 u4 u5 : Option MV} {v3 : Int32} (k1 : v3 = 0 → J mX9_commonMeasure d 0 0 Q 0 0 34 [u0, u1, u2, some (.inl v3), u4, u5] [] h) (k2 : ¬ v3 = 0 → J mX9_commonMeasure d 0 0 Q 0 0 18 [u0, u1, u2, some (.inl v3), u4, u5] [] h) : J mX9_commonMeasure d 0 0 Q 0 0 14 [u0, u1, u2, some (.inl v3), u4, u5] [] h := by
  refine zrun 9 2 qX9_commonMeasure (o := 9) rfl ?_
  show ((v3 = 0 → J mX9_commonMeasure d 0 0 Q 0 0 34 [u0, u1, u2, some (.inl v3), u4, u5] [] h) ∧ (¬ v3 = 0 → J mX9_commonMeasure d 0 0 Q 0 0 18 [u0, u1, u2, some (.inl v3), u4, u5] [] h))
  exact ⟨k1, k2⟩

theorem bX9_commonMeasure_18 {d : Nat} {Q : Option MV → MH → Prop} {h : MH} {u0 u5 : Option MV} {v2 v3 v4 v1 : Int32} (g0 : ¬ v3 = 0) (k : J mX9_commonMeasure d 0 0 Q 0 0 7 [u0, some (.inl v1), some (.inl v3), some (.inl (v2 - v2 / v3 * v3)), some (.inl (v4 + nI 1)), some (.inl (v2 - v2 / v3 * v3))] [] h) : J mX9_commonMeasure d 0 0 Q 0 0 18 [u0, some (.inl v1), some (.inl v2), some (.inl v3), some (.inl v4), u5] [] h := by
  refine zrun 11 10 qX9_commonMeasure (o := 9) rfl ?_
  show ¬ v3 = 0 ∧ J mX9_commonMeasure d 0 0 Q 0 0 7 [u0, some (.inl v1), some (.inl v3), some (.inl (v2 - v2 / v3 * v3)), some (.inl (v4 + nI 1)), some (.inl (v2 - v2 / v3 * v3))] [] h
  exact ⟨g0, k⟩

theorem bX9_commonMeasure_34 {d : Nat} {Q : Option MV → MH → Prop} {h : MH} {u0 u1 u3 u4 u5 : Option MV} {v2 : Int32} (k : Q (some (.inl v2)) h) : J mX9_commonMeasure d 0 0 Q 0 0 34 [u0, u1, some (.inl v2), u3, u4, u5] [] h := by
  refine zrun 21 1 qX9_commonMeasure (o := 9) rfl ?_
  show J mX9_commonMeasure d 0 0 Q 0 0 35 [u0, u1, some (.inl v2), u3, u4, u5] [.inl v2] h
  exact J_iret (ty := .int) (zat qX9_commonMeasure 22 (by rfl)) rfl rfl (Nat.le_refl 0) (Nat.le_refl 0) k

theorem bX9_onGrid_0 {d : Nat} {Q : Option MV → MH → Prop} {h : MH} {u2 : Option MV} {v1 : Int32} (hr : zRf h) (k1 : ((h.1 62 3) >>> ((h.1 62 0) &&& 31)) ≤ 0 → J mX9_onGrid d 0 0 Q 0 0 24 [some (.inr (.inr 62)), some (.inl v1), some (.inl ((h.1 62 3) >>> ((h.1 62 0) &&& 31)))] [] h) (k2 : ¬ ((h.1 62 3) >>> ((h.1 62 0) &&& 31)) ≤ 0 → J mX9_onGrid d 0 0 Q 0 0 14 [some (.inr (.inr 62)), some (.inl v1), some (.inl ((h.1 62 3) >>> ((h.1 62 0) &&& 31)))] [] h) : J mX9_onGrid d 0 0 Q 0 0 0 [some (.inr (.inr 62)), some (.inl v1), u2] [] h := by
  refine zrun 0 8 qX9_onGrid (o := 9) rfl ?_
  show zokO h 62 9 ∧ zokO h 62 9 ∧ ((((h.1 62 3) >>> ((h.1 62 0) &&& 31)) ≤ 0 → J mX9_onGrid d 0 0 Q 0 0 24 [some (.inr (.inr 62)), some (.inl v1), some (.inl ((h.1 62 3) >>> ((h.1 62 0) &&& 31)))] [] h) ∧ (¬ ((h.1 62 3) >>> ((h.1 62 0) &&& 31)) ≤ 0 → J mX9_onGrid d 0 0 Q 0 0 14 [some (.inr (.inr 62)), some (.inl v1), some (.inl ((h.1 62 3) >>> ((h.1 62 0) &&& 31)))] [] h))
  exact ⟨(zo hr (by decide) rfl), (zo hr (by decide) rfl), k1, k2⟩

theorem bX9_onGrid_14 {d : Nat} {Q : Option MV → MH → Prop} {h : MH} {u0 : Option MV} {v1 v2 : Int32} (g0 : ¬ v2 = 0) (k1 : ¬ (v1 - v1 / v2 * v2) = 0 → J mX9_onGrid d 0 0 Q 0 0 24 [u0, some (.inl v1), some (.inl v2)] [] h) (k2 : (v1 - v1 / v2 * v2) = 0 → J mX9_onGrid d 0 0 Q 0 0 20 [u0, some (.inl v1), some (.inl v2)] [] h) : J mX9_onGrid d 0 0 Q 0 0 14 [u0, some (.inl v1), some (.inl v2)] [] h := by
  refine zrun 8 4 qX9_onGrid (o := 9) rfl ?_
  show ¬ v2 = 0 ∧ ((¬ (v1 - v1 / v2 * v2) = 0 → J mX9_onGrid d 0 0 Q 0 0 24 [u0, some (.inl v1), some (.inl v2)] [] h) ∧ ((v1 - v1 / v2 * v2) = 0 → J mX9_onGrid d 0 0 Q 0 0 20 [u0, some (.inl v1), some (.inl v2)] [] h))
  exact ⟨g0, k1, k2⟩

theorem bX9_onGrid_20 {d : Nat} {Q : Option MV → MH → Prop} {h : MH} {u0 u1 u2 : Option MV} (k : J mX9_onGrid d 0 0 Q 0 0 25 [u0, u1, u2] [.inl (nI 1)] h) : J mX9_onGrid d 0 0 Q 0 0 20 [u0, u1, u2] [] h := by
  refine zrun 12 2 qX9_onGrid (o := 9) rfl ?_
  show J mX9_onGrid d 0 0 Q 0 0 25 [u0, u1, u2] [.inl (nI 1)] h
  exact k

theorem bX9_onGrid_24 {d : Nat} {Q : Option MV → MH → Prop} {h : MH} {u0 u1 u2 : Option MV} (k : J mX9_onGrid d 0 0 Q 0 0 25 [u0, u1, u2] [.inl (nI 0)] h) : J mX9_onGrid d 0 0 Q 0 0 24 [u0, u1, u2] [] h := by
  refine zrun 14 1 qX9_onGrid (o := 9) rfl ?_
  show J mX9_onGrid d 0 0 Q 0 0 25 [u0, u1, u2] [.inl (nI 0)] h
  exact k

theorem bX9_onGrid_25 {d : Nat} {Q : Option MV → MH → Prop} {h : MH} {u0 u1 u2 : Option MV} {vs0 : Int32} (gn : vs0 = 0 ∨ vs0 = 1) (k : Q (some (.inl vs0)) h) : J mX9_onGrid d 0 0 Q 0 0 25 [u0, u1, u2] [.inl vs0] h := by
  exact J_iret (ty := .boolean) (zat qX9_onGrid 15 (by rfl)) rfl (znz gn) (Nat.le_refl 0) (Nat.le_refl 0) k

theorem bX9_markAll_0 {d d' : Nat} {Q : Option MV → MH → Prop} {h : MH} {v1 : Nat} (hr : zRf h) (hd : d' + 1 ≤ d) (k : Con mX9_begin d' 0 0 [.inr (.inr 62)] (zsI (zsR h 62 11 v1) 62 4 (nI 0)) (zrv fun h' => J mX9_markAll d 0 0 Q 0 0 14 [some (.inr (.inr 62)), some (.inr (.inr v1))] [] h')) : J mX9_markAll d 0 0 Q 0 0 0 [some (.inr (.inr 62)), some (.inr (.inr v1))] [] h := by
  refine zrun 0 7 qX9_markAll (o := 9) rfl ?_
  show zokO h 62 9 ∧ zokO (zsR h 62 11 v1) 62 9 ∧ J mX9_markAll d 0 0 Q 0 0 11 [some (.inr (.inr 62)), some (.inr (.inr v1))] [.inr (.inr 62)] (zsI (zsR h 62 11 v1) 62 4 (nI 0))
  exact ⟨(zo hr (by decide) rfl), (zo hr (by decide) rfl), zcVv (as := []) (zat qX9_markAll 7 (by rfl)) l9_60 rfl hd rfl (Nat.le_of_ble_eq_true rfl) zle0 (ci := 9) (by decide) rfl (show zokO _ _ _ from (zo hr (by decide) rfl)) k⟩

theorem bX9_markAll_14 {d d' : Nat} {Q : Option MV → MH → Prop} {h : MH} {u1 : Option MV} (hr : zRf h) (hd : d' + 1 ≤ d) (k : Con mX9_go d' 0 0 [.inr (.inr 62), .inl (nI 0), .inl (h.1 62 2), .inl (nI 0)] h (zrv fun h' => J mX9_markAll d 0 0 Q 0 0 24 [some (.inr (.inr 62)), u1] [] h')) : J mX9_markAll d 0 0 Q 0 0 14 [some (.inr (.inr 62)), u1] [] h := by
  refine zrun 8 5 qX9_markAll (o := 9) rfl ?_
  show zokO h 62 9 ∧ J mX9_markAll d 0 0 Q 0 0 21 [some (.inr (.inr 62)), u1] [.inl (nI 0), .inl (h.1 62 2), .inl (nI 0), .inr (.inr 62)] h
  exact ⟨(zo hr (by decide) rfl), zcVv (as := [.inl (nI 0), .inl (h.1 62 2), .inl (nI 0)]) (zat qX9_markAll 13 (by rfl)) l9_63 rfl hd rfl (Nat.le_of_ble_eq_true rfl) zle0 (ci := 9) (by decide) rfl (zo hr (by decide) rfl) k⟩

theorem bX9_markAll_24 {d : Nat} {Q : Option MV → MH → Prop} {h : MH} {u0 u1 : Option MV} (k : Q none h) : J mX9_markAll d 0 0 Q 0 0 24 [u0, u1] [] h := by
  exact J_vret (zat qX9_markAll 14 (by rfl)) rfl (Nat.le_refl 0) (Nat.le_refl 0) k

theorem bX9_seek_0 {d : Nat} {Q : Option MV → MH → Prop} {h : MH} {u1 : Option MV} {v2 : Int32} (hr : zRf h) (k1 : (h.1 62 2) < v2 → J mX9_seek d 0 0 Q 0 0 16 [some (.inr (.inr 62)), u1, some (.inl v2)] [] h) (k2 : ¬ (h.1 62 2) < v2 → J mX9_seek d 0 0 Q 0 0 8 [some (.inr (.inr 62)), u1, some (.inl v2)] [] h) : J mX9_seek d 0 0 Q 0 0 0 [some (.inr (.inr 62)), u1, some (.inl v2)] [] h := by
  refine zrun 0 4 qX9_seek (o := 9) rfl ?_
  show zokO h 62 9 ∧ (((h.1 62 2) < v2 → J mX9_seek d 0 0 Q 0 0 16 [some (.inr (.inr 62)), u1, some (.inl v2)] [] h) ∧ (¬ (h.1 62 2) < v2 → J mX9_seek d 0 0 Q 0 0 8 [some (.inr (.inr 62)), u1, some (.inl v2)] [] h))
  exact ⟨(zo hr (by decide) rfl), k1, k2⟩

theorem bX9_seek_8 {d d' : Nat} {Q : Option MV → MH → Prop} {h : MH} {u1 : Option MV} {v2 : Int32} (hr : zRf h) (hd : d' + 1 ≤ d) (k : Con mX9_onGrid d' 0 0 [.inr (.inr 62), .inl v2] h (zri fun (x : Int32) h' => J mX9_seek d 0 0 Q 0 0 13 [some (.inr (.inr 62)), u1, some (.inl v2)] [.inl x] h')) : J mX9_seek d 0 0 Q 0 0 8 [some (.inr (.inr 62)), u1, some (.inl v2)] [] h := by
  refine zrun 4 2 qX9_seek (o := 9) rfl ?_
  show J mX9_seek d 0 0 Q 0 0 10 [some (.inr (.inr 62)), u1, some (.inl v2)] [.inl v2, .inr (.inr 62)] h
  exact zcVi (as := [.inl v2]) (zat qX9_seek 6 (by rfl)) l9_67 rfl hd rfl (Nat.le_of_ble_eq_true rfl) zle0 (ci := 9) (by decide) rfl (zo hr (by decide) rfl) k

theorem bX9_seek_13 {d : Nat} {Q : Option MV → MH → Prop} {h : MH} {u0 u1 u2 : Option MV} {vs0 : Int32} (k1 : ¬ vs0 = 0 → J mX9_seek d 0 0 Q 0 0 18 [u0, u1, u2] [] h) (k2 : vs0 = 0 → J mX9_seek d 0 0 Q 0 0 16 [u0, u1, u2] [] h) : J mX9_seek d 0 0 Q 0 0 13 [u0, u1, u2] [.inl vs0] h := by
  refine zrun 7 1 qX9_seek (o := 9) rfl ?_
  show ((¬ vs0 = 0 → J mX9_seek d 0 0 Q 0 0 18 [u0, u1, u2] [] h) ∧ (vs0 = 0 → J mX9_seek d 0 0 Q 0 0 16 [u0, u1, u2] [] h))
  exact ⟨k1, k2⟩

theorem bX9_seek_16 {d : Nat} {Q : Option MV → MH → Prop} {h : MH} {u0 u1 u2 : Option MV} (k : Q (some (.inl (nI 0))) h) : J mX9_seek d 0 0 Q 0 0 16 [u0, u1, u2] [] h := by
  refine zrun 8 1 qX9_seek (o := 9) rfl ?_
  show J mX9_seek d 0 0 Q 0 0 17 [u0, u1, u2] [.inl (nI 0)] h
  exact J_iret (ty := .boolean) (zat qX9_seek 9 (by rfl)) rfl (by decide) (Nat.le_refl 0) (Nat.le_refl 0) k

theorem bX9_seek_18 {d d' : Nat} {Q : Option MV → MH → Prop} {h : MH} {v1 v2 : Int32} (hr : zRf h) (hd : d' + 1 ≤ d) (k : Con mX9_begin d' 0 0 [.inr (.inr 62)] (zsI (zsI h 62 4 v1) 62 5 v2) (zrv fun h' => J mX9_seek d 0 0 Q 0 0 32 [some (.inr (.inr 62)), some (.inl v1), some (.inl v2)] [] h')) : J mX9_seek d 0 0 Q 0 0 18 [some (.inr (.inr 62)), some (.inl v1), some (.inl v2)] [] h := by
  refine zrun 10 7 qX9_seek (o := 9) rfl ?_
  show zokO h 62 9 ∧ zokO (zsI h 62 4 v1) 62 9 ∧ J mX9_seek d 0 0 Q 0 0 29 [some (.inr (.inr 62)), some (.inl v1), some (.inl v2)] [.inr (.inr 62)] (zsI (zsI h 62 4 v1) 62 5 v2)
  exact ⟨(zo hr (by decide) rfl), (zo hr (by decide) rfl), zcVv (as := []) (zat qX9_seek 17 (by rfl)) l9_60 rfl hd rfl (Nat.le_of_ble_eq_true rfl) zle0 (ci := 9) (by decide) rfl (show zokO _ _ _ from (zo hr (by decide) rfl)) k⟩

theorem bX9_seek_32 {d d' : Nat} {Q : Option MV → MH → Prop} {h : MH} {u1 u2 : Option MV} (hr : zRf h) (hd : d' + 1 ≤ d) (k : Con mX9_go d' 0 0 [.inr (.inr 62), .inl (nI 0), .inl (h.1 62 2), .inl (nI 0)] h (zrv fun h' => J mX9_seek d 0 0 Q 0 0 42 [some (.inr (.inr 62)), u1, u2] [] h')) : J mX9_seek d 0 0 Q 0 0 32 [some (.inr (.inr 62)), u1, u2] [] h := by
  refine zrun 18 5 qX9_seek (o := 9) rfl ?_
  show zokO h 62 9 ∧ J mX9_seek d 0 0 Q 0 0 39 [some (.inr (.inr 62)), u1, u2] [.inl (nI 0), .inl (h.1 62 2), .inl (nI 0), .inr (.inr 62)] h
  exact ⟨(zo hr (by decide) rfl), zcVv (as := [.inl (nI 0), .inl (h.1 62 2), .inl (nI 0)]) (zat qX9_seek 23 (by rfl)) l9_63 rfl hd rfl (Nat.le_of_ble_eq_true rfl) zle0 (ci := 9) (by decide) rfl (zo hr (by decide) rfl) k⟩

theorem bX9_seek_42 {d : Nat} {Q : Option MV → MH → Prop} {h : MH} {u1 u2 : Option MV} (hr : zRf h) (gn : (h.1 62 6) = 0 ∨ (h.1 62 6) = 1) (k : Q (some (.inl (h.1 62 6))) h) : J mX9_seek d 0 0 Q 0 0 42 [some (.inr (.inr 62)), u1, u2] [] h := by
  refine zrun 24 2 qX9_seek (o := 9) rfl ?_
  show zokO h 62 9 ∧ J mX9_seek d 0 0 Q 0 0 46 [some (.inr (.inr 62)), u1, u2] [.inl (h.1 62 6)] h
  exact ⟨(zo hr (by decide) rfl), J_iret (ty := .boolean) (zat qX9_seek 26 (by rfl)) rfl (znz gn) (Nat.le_refl 0) (Nat.le_refl 0) k⟩

theorem bX9_want_0 {d : Nat} {Q : Option MV → MH → Prop} {h : MH} {u2 u3 u4 : Option MV} {v1 : Nat} (hr : zRf h) (k : J mX9_want d 0 0 Q 0 0 7 [some (.inr (.inr 62)), some (.inr (.inr v1)), some (.inl (nI 0)), u3, u4] [] (zsI h 62 10 (nI 0))) : J mX9_want d 0 0 Q 0 0 0 [some (.inr (.inr 62)), some (.inr (.inr v1)), u2, u3, u4] [] h := by
  refine zrun 0 5 qX9_want (o := 9) rfl ?_
  show zokO h 62 9 ∧ J mX9_want d 0 0 Q 0 0 7 [some (.inr (.inr 62)), some (.inr (.inr v1)), some (.inl (nI 0)), u3, u4] [] (zsI h 62 10 (nI 0))
  exact ⟨(zo hr (by decide) rfl), k⟩

theorem bX9_want_7 {d : Nat} {Q : Option MV → MH → Prop} {h : MH} {u0 u3 u4 : Option MV} {v2 : Int32} {v1 : Nat} (g0 : zokO h v1 7) (k1 : (h.1 v1 2) ≤ v2 → J mX9_want d 0 0 Q 0 0 53 [u0, some (.inr (.inr v1)), some (.inl v2), u3, u4] [] h) (k2 : ¬ (h.1 v1 2) ≤ v2 → J mX9_want d 0 0 Q 0 0 15 [u0, some (.inr (.inr v1)), some (.inl v2), u3, u4] [] h) : J mX9_want d 0 0 Q 0 0 7 [u0, some (.inr (.inr v1)), some (.inl v2), u3, u4] [] h := by
  refine zrun 5 4 qX9_want (o := 9) rfl ?_
  show zokO h v1 7 ∧ (((h.1 v1 2) ≤ v2 → J mX9_want d 0 0 Q 0 0 53 [u0, some (.inr (.inr v1)), some (.inl v2), u3, u4] [] h) ∧ (¬ (h.1 v1 2) ≤ v2 → J mX9_want d 0 0 Q 0 0 15 [u0, some (.inr (.inr v1)), some (.inl v2), u3, u4] [] h))
  exact ⟨g0, k1, k2⟩

theorem bX9_want_15 {d : Nat} {Q : Option MV → MH → Prop} {h : MH} {u0 u3 u4 : Option MV} {v2 : Int32} {v1 : Nat} (hr : zRf h) (g0 : zokO h v1 7) (g1 : vp_in v2 40) (k1 : (lg_cmp (h.2.1 (v1 + 1) v2.toNatClampNeg) (lN 1)) < 0 → J mX9_want d 0 0 Q 0 0 45 [u0, some (.inr (.inr v1)), some (.inl v2), some (.inr (.inl (h.2.1 (v1 + 1) v2.toNatClampNeg))), none] [] h) (k2 : ¬ (lg_cmp (h.2.1 (v1 + 1) v2.toNatClampNeg) (lN 1)) < 0 → J mX9_want d 0 0 Q 0 0 28 [u0, some (.inr (.inr v1)), some (.inl v2), some (.inr (.inl (h.2.1 (v1 + 1) v2.toNatClampNeg))), none] [] h) : J mX9_want d 0 0 Q 0 0 15 [u0, some (.inr (.inr v1)), some (.inl v2), u3, u4] [] h := by
  refine zrun 9 9 qX9_want (o := 9) rfl ?_
  show zokO h v1 7 ∧ zokA h (h.2.2.1 v1 3) 21 v2 ∧ (((lg_cmp (h.2.1 (h.2.2.1 v1 3) v2.toNatClampNeg) (lN 1)) < 0 → J mX9_want d 0 0 Q 0 0 45 [u0, some (.inr (.inr v1)), some (.inl v2), some (.inr (.inl (h.2.1 (h.2.2.1 v1 3) v2.toNatClampNeg))), none] [] h) ∧ (¬ (lg_cmp (h.2.1 (h.2.2.1 v1 3) v2.toNatClampNeg) (lN 1)) < 0 → J mX9_want d 0 0 Q 0 0 28 [u0, some (.inr (.inr v1)), some (.inl v2), some (.inr (.inl (h.2.1 (h.2.2.1 v1 3) v2.toNatClampNeg))), none] [] h))
  rw [(show h.2.2.1 v1 3 = (v1 + 1) from (hr.f7 g0))]
  exact ⟨g0, (zca hr g0 (by decide) (by decide) g1), k1, k2⟩

theorem bX9_want_28 {d : Nat} {Q : Option MV → MH → Prop} {h : MH} {u0 u1 u2 u4 : Option MV} {v3 : Int64} (k1 : 0 < (lg_cmp v3 (368656 : Int64)) → J mX9_want d 0 0 Q 0 0 45 [u0, u1, u2, some (.inr (.inl v3)), u4] [] h) (k2 : ¬ 0 < (lg_cmp v3 (368656 : Int64)) → J mX9_want d 0 0 Q 0 0 36 [u0, u1, u2, some (.inr (.inl v3)), u4] [] h) : J mX9_want d 0 0 Q 0 0 28 [u0, u1, u2, some (.inr (.inl v3)), u4] [] h := by
  refine zrun 18 4 qX9_want (o := 9) rfl ?_
  show ((0 < (lg_cmp v3 (368656 : Int64)) → J mX9_want d 0 0 Q 0 0 45 [u0, u1, u2, some (.inr (.inl v3)), u4] [] h) ∧ (¬ 0 < (lg_cmp v3 (368656 : Int64)) → J mX9_want d 0 0 Q 0 0 36 [u0, u1, u2, some (.inr (.inl v3)), u4] [] h))
  exact ⟨k1, k2⟩

theorem bX9_want_36 {d d' : Nat} {Q : Option MV → MH → Prop} {h : MH} {u1 u2 u4 : Option MV} {v3 : Int64} (hr : zRf h) (hd : d' + 1 ≤ d) (k : Con mX9_wantAlso d' 0 0 [.inr (.inr 62), .inl v3.toInt32] h (zri fun (x : Int32) h' => J mX9_want d 0 0 Q 0 0 42 [some (.inr (.inr 62)), u1, u2, some (.inr (.inl v3)), u4] [.inl x] h')) : J mX9_want d 0 0 Q 0 0 36 [some (.inr (.inr 62)), u1, u2, some (.inr (.inl v3)), u4] [] h := by
  refine zrun 22 3 qX9_want (o := 9) rfl ?_
  show J mX9_want d 0 0 Q 0 0 39 [some (.inr (.inr 62)), u1, u2, some (.inr (.inl v3)), u4] [.inl v3.toInt32, .inr (.inr 62)] h
  exact zcVi (as := [.inl v3.toInt32]) (zat qX9_want 25 (by rfl)) l9_89 rfl hd rfl (Nat.le_of_ble_eq_true rfl) zle0 (ci := 9) (by decide) rfl (zo hr (by decide) rfl) k

theorem bX9_want_42 {d : Nat} {Q : Option MV → MH → Prop} {h : MH} {u0 u1 u2 u3 u4 : Option MV} {vs0 : Int32} (k1 : ¬ vs0 = 0 → J mX9_want d 0 0 Q 0 0 47 [u0, u1, u2, u3, u4] [] h) (k2 : vs0 = 0 → J mX9_want d 0 0 Q 0 0 45 [u0, u1, u2, u3, u4] [] h) : J mX9_want d 0 0 Q 0 0 42 [u0, u1, u2, u3, u4] [.inl vs0] h := by
  refine zrun 26 1 qX9_want (o := 9) rfl ?_
  show ((¬ vs0 = 0 → J mX9_want d 0 0 Q 0 0 47 [u0, u1, u2, u3, u4] [] h) ∧ (vs0 = 0 → J mX9_want d 0 0 Q 0 0 45 [u0, u1, u2, u3, u4] [] h))
  exact ⟨k1, k2⟩

theorem bX9_want_45 {d : Nat} {Q : Option MV → MH → Prop} {h : MH} {u0 u1 u2 u3 u4 : Option MV} (k : Q (some (.inl (nI 0))) h) : J mX9_want d 0 0 Q 0 0 45 [u0, u1, u2, u3, u4] [] h := by
  refine zrun 27 1 qX9_want (o := 9) rfl ?_
  show J mX9_want d 0 0 Q 0 0 46 [u0, u1, u2, u3, u4] [.inl (nI 0)] h
  exact J_iret (ty := .boolean) (zat qX9_want 28 (by rfl)) rfl (by decide) (Nat.le_refl 0) (Nat.le_refl 0) k

theorem bX9_want_47 {d : Nat} {Q : Option MV → MH → Prop} {h : MH} {u0 u3 u4 : Option MV} {v2 : Int32} {v1 : Nat} (k : J mX9_want d 0 0 Q 0 0 7 [u0, some (.inr (.inr v1)), some (.inl (v2 + nI 1)), u3, u4] [] h) : J mX9_want d 0 0 Q 0 0 47 [u0, some (.inr (.inr v1)), some (.inl v2), u3, u4] [] h := by
  refine zrun 29 2 qX9_want (o := 9) rfl ?_
  show J mX9_want d 0 0 Q 0 0 7 [u0, some (.inr (.inr v1)), some (.inl (v2 + nI 1)), u3, u4] [] h
  exact k

theorem bX9_want_53 {d : Nat} {Q : Option MV → MH → Prop} {h : MH} {u0 u1 u2 u3 u4 : Option MV} (k : Q (some (.inl (nI 1))) h) : J mX9_want d 0 0 Q 0 0 53 [u0, u1, u2, u3, u4] [] h := by
  refine zrun 31 1 qX9_want (o := 9) rfl ?_
  show J mX9_want d 0 0 Q 0 0 54 [u0, u1, u2, u3, u4] [.inl (nI 1)] h
  exact J_iret (ty := .boolean) (zat qX9_want 32 (by rfl)) rfl (by decide) (Nat.le_refl 0) (Nat.le_refl 0) k

theorem bX9_wantAlso_0 {d : Nat} {Q : Option MV → MH → Prop} {h : MH} {u0 u2 u3 : Option MV} {v1 : Int32} (k : J mX9_wantAlso d 0 0 Q 0 0 2 [u0, some (.inl v1), some (.inl (nI 0)), u3] [] h) : J mX9_wantAlso d 0 0 Q 0 0 0 [u0, some (.inl v1), u2, u3] [] h := by
  refine zrun 0 2 qX9_wantAlso (o := 9) rfl ?_
  show J mX9_wantAlso d 0 0 Q 0 0 2 [u0, some (.inl v1), some (.inl (nI 0)), u3] [] h
  exact k

theorem bX9_wantAlso_2 {d : Nat} {Q : Option MV → MH → Prop} {h : MH} {u1 u3 : Option MV} {v2 : Int32} (hr : zRf h) (k1 : (h.1 62 10) ≤ v2 → J mX9_wantAlso d 0 0 Q 0 0 26 [some (.inr (.inr 62)), u1, some (.inl v2), u3] [] h) (k2 : ¬ (h.1 62 10) ≤ v2 → J mX9_wantAlso d 0 0 Q 0 0 10 [some (.inr (.inr 62)), u1, some (.inl v2), u3] [] h) : J mX9_wantAlso d 0 0 Q 0 0 2 [some (.inr (.inr 62)), u1, some (.inl v2), u3] [] h := by
  refine zrun 2 4 qX9_wantAlso (o := 9) rfl ?_
  show zokO h 62 9 ∧ (((h.1 62 10) ≤ v2 → J mX9_wantAlso d 0 0 Q 0 0 26 [some (.inr (.inr 62)), u1, some (.inl v2), u3] [] h) ∧ (¬ (h.1 62 10) ≤ v2 → J mX9_wantAlso d 0 0 Q 0 0 10 [some (.inr (.inr 62)), u1, some (.inl v2), u3] [] h))
  exact ⟨(zo hr (by decide) rfl), k1, k2⟩

theorem bX9_wantAlso_10 {d : Nat} {Q : Option MV → MH → Prop} {h : MH} {u3 : Option MV} {v2 v1 : Int32} (hr : zRf h) (g0 : vp_in v2 4) (k1 : v1 ≤ (h.1 63 v2.toNatClampNeg) → J mX9_wantAlso d 0 0 Q 0 0 26 [some (.inr (.inr 62)), some (.inl v1), some (.inl v2), u3] [] h) (k2 : ¬ v1 ≤ (h.1 63 v2.toNatClampNeg) → J mX9_wantAlso d 0 0 Q 0 0 20 [some (.inr (.inr 62)), some (.inl v1), some (.inl v2), u3] [] h) : J mX9_wantAlso d 0 0 Q 0 0 10 [some (.inr (.inr 62)), some (.inl v1), some (.inl v2), u3] [] h := by
  refine zrun 6 6 qX9_wantAlso (o := 9) rfl ?_
  show zokO h 62 9 ∧ zokA h (h.2.2.1 62 12) 20 v2 ∧ ((v1 ≤ (h.1 (h.2.2.1 62 12) v2.toNatClampNeg) → J mX9_wantAlso d 0 0 Q 0 0 26 [some (.inr (.inr 62)), some (.inl v1), some (.inl v2), u3] [] h) ∧ (¬ v1 ≤ (h.1 (h.2.2.1 62 12) v2.toNatClampNeg) → J mX9_wantAlso d 0 0 Q 0 0 20 [some (.inr (.inr 62)), some (.inl v1), some (.inl v2), u3] [] h))
  rw [(show h.2.2.1 62 12 = 63 from (hr.at (by decide) (by decide) (by rfl)))]
  exact ⟨(zo hr (by decide) rfl), (zia hr (by decide) (by rfl) g0), k1, k2⟩

theorem bX9_wantAlso_20 {d : Nat} {Q : Option MV → MH → Prop} {h : MH} {u0 u3 : Option MV} {v2 v1 : Int32} (k : J mX9_wantAlso d 0 0 Q 0 0 2 [u0, some (.inl v1), some (.inl (v2 + nI 1)), u3] [] h) : J mX9_wantAlso d 0 0 Q 0 0 20 [u0, some (.inl v1), some (.inl v2), u3] [] h := by
  refine zrun 12 2 qX9_wantAlso (o := 9) rfl ?_
  show J mX9_wantAlso d 0 0 Q 0 0 2 [u0, some (.inl v1), some (.inl (v2 + nI 1)), u3] [] h
  exact k

theorem bX9_wantAlso_26 {d : Nat} {Q : Option MV → MH → Prop} {h : MH} {u1 u3 : Option MV} {v2 : Int32} (hr : zRf h) (k1 : (h.1 62 10) ≤ v2 → J mX9_wantAlso d 0 0 Q 0 0 46 [some (.inr (.inr 62)), u1, some (.inl v2), u3] [] h) (k2 : ¬ (h.1 62 10) ≤ v2 → J mX9_wantAlso d 0 0 Q 0 0 34 [some (.inr (.inr 62)), u1, some (.inl v2), u3] [] h) : J mX9_wantAlso d 0 0 Q 0 0 26 [some (.inr (.inr 62)), u1, some (.inl v2), u3] [] h := by
  refine zrun 14 4 qX9_wantAlso (o := 9) rfl ?_
  show zokO h 62 9 ∧ (((h.1 62 10) ≤ v2 → J mX9_wantAlso d 0 0 Q 0 0 46 [some (.inr (.inr 62)), u1, some (.inl v2), u3] [] h) ∧ (¬ (h.1 62 10) ≤ v2 → J mX9_wantAlso d 0 0 Q 0 0 34 [some (.inr (.inr 62)), u1, some (.inl v2), u3] [] h))
  exact ⟨(zo hr (by decide) rfl), k1, k2⟩

theorem bX9_wantAlso_34 {d : Nat} {Q : Option MV → MH → Prop} {h : MH} {u3 : Option MV} {v2 v1 : Int32} (hr : zRf h) (g0 : vp_in v2 4) (k1 : ¬ (h.1 63 v2.toNatClampNeg) = v1 → J mX9_wantAlso d 0 0 Q 0 0 46 [some (.inr (.inr 62)), some (.inl v1), some (.inl v2), u3] [] h) (k2 : (h.1 63 v2.toNatClampNeg) = v1 → J mX9_wantAlso d 0 0 Q 0 0 44 [some (.inr (.inr 62)), some (.inl v1), some (.inl v2), u3] [] h) : J mX9_wantAlso d 0 0 Q 0 0 34 [some (.inr (.inr 62)), some (.inl v1), some (.inl v2), u3] [] h := by
  refine zrun 18 6 qX9_wantAlso (o := 9) rfl ?_
  show zokO h 62 9 ∧ zokA h (h.2.2.1 62 12) 20 v2 ∧ ((¬ (h.1 (h.2.2.1 62 12) v2.toNatClampNeg) = v1 → J mX9_wantAlso d 0 0 Q 0 0 46 [some (.inr (.inr 62)), some (.inl v1), some (.inl v2), u3] [] h) ∧ ((h.1 (h.2.2.1 62 12) v2.toNatClampNeg) = v1 → J mX9_wantAlso d 0 0 Q 0 0 44 [some (.inr (.inr 62)), some (.inl v1), some (.inl v2), u3] [] h))
  rw [(show h.2.2.1 62 12 = 63 from (hr.at (by decide) (by decide) (by rfl)))]
  exact ⟨(zo hr (by decide) rfl), (zia hr (by decide) (by rfl) g0), k1, k2⟩

theorem bX9_wantAlso_44 {d : Nat} {Q : Option MV → MH → Prop} {h : MH} {u0 u1 u2 u3 : Option MV} (k : Q (some (.inl (nI 1))) h) : J mX9_wantAlso d 0 0 Q 0 0 44 [u0, u1, u2, u3] [] h := by
  refine zrun 24 1 qX9_wantAlso (o := 9) rfl ?_
  show J mX9_wantAlso d 0 0 Q 0 0 45 [u0, u1, u2, u3] [.inl (nI 1)] h
  exact J_iret (ty := .boolean) (zat qX9_wantAlso 25 (by rfl)) rfl (by decide) (Nat.le_refl 0) (Nat.le_refl 0) k

theorem bX9_wantAlso_46 {d : Nat} {Q : Option MV → MH → Prop} {h : MH} {u1 u2 u3 : Option MV} (hr : zRf h) (k1 : (h.1 62 10) < (nI 4) → J mX9_wantAlso d 0 0 Q 0 0 56 [some (.inr (.inr 62)), u1, u2, u3] [] h) (k2 : ¬ (h.1 62 10) < (nI 4) → J mX9_wantAlso d 0 0 Q 0 0 54 [some (.inr (.inr 62)), u1, u2, u3] [] h) : J mX9_wantAlso d 0 0 Q 0 0 46 [some (.inr (.inr 62)), u1, u2, u3] [] h := by
  refine zrun 26 4 qX9_wantAlso (o := 9) rfl ?_
  show zokO h 62 9 ∧ (((h.1 62 10) < (nI 4) → J mX9_wantAlso d 0 0 Q 0 0 56 [some (.inr (.inr 62)), u1, u2, u3] [] h) ∧ (¬ (h.1 62 10) < (nI 4) → J mX9_wantAlso d 0 0 Q 0 0 54 [some (.inr (.inr 62)), u1, u2, u3] [] h))
  exact ⟨(zo hr (by decide) rfl), k1, k2⟩

theorem bX9_wantAlso_54 {d : Nat} {Q : Option MV → MH → Prop} {h : MH} {u0 u1 u2 u3 : Option MV} (k : Q (some (.inl (nI 0))) h) : J mX9_wantAlso d 0 0 Q 0 0 54 [u0, u1, u2, u3] [] h := by
  refine zrun 30 1 qX9_wantAlso (o := 9) rfl ?_
  show J mX9_wantAlso d 0 0 Q 0 0 55 [u0, u1, u2, u3] [.inl (nI 0)] h
  exact J_iret (ty := .boolean) (zat qX9_wantAlso 31 (by rfl)) rfl (by decide) (Nat.le_refl 0) (Nat.le_refl 0) k

theorem bX9_wantAlso_56 {d : Nat} {Q : Option MV → MH → Prop} {h : MH} {u1 u3 : Option MV} {v2 : Int32} (hr : zRf h) (k : J mX9_wantAlso d 0 0 Q 0 0 61 [some (.inr (.inr 62)), u1, some (.inl v2), some (.inl (h.1 62 10))] [] h) : J mX9_wantAlso d 0 0 Q 0 0 56 [some (.inr (.inr 62)), u1, some (.inl v2), u3] [] h := by
  refine zrun 32 3 qX9_wantAlso (o := 9) rfl ?_
  show zokO h 62 9 ∧ J mX9_wantAlso d 0 0 Q 0 0 61 [some (.inr (.inr 62)), u1, some (.inl v2), some (.inl (h.1 62 10))] [] h
  exact ⟨(zo hr (by decide) rfl), k⟩

theorem bX9_wantAlso_61 {d : Nat} {Q : Option MV → MH → Prop} {h : MH} {u0 u1 : Option MV} {v3 v2 : Int32} (k1 : v3 ≤ v2 → J mX9_wantAlso d 0 0 Q 0 0 86 [u0, u1, some (.inl v2), some (.inl v3)] [] h) (k2 : ¬ v3 ≤ v2 → J mX9_wantAlso d 0 0 Q 0 0 66 [u0, u1, some (.inl v2), some (.inl v3)] [] h) : J mX9_wantAlso d 0 0 Q 0 0 61 [u0, u1, some (.inl v2), some (.inl v3)] [] h := by
  refine zrun 35 3 qX9_wantAlso (o := 9) rfl ?_
  show ((v3 ≤ v2 → J mX9_wantAlso d 0 0 Q 0 0 86 [u0, u1, some (.inl v2), some (.inl v3)] [] h) ∧ (¬ v3 ≤ v2 → J mX9_wantAlso d 0 0 Q 0 0 66 [u0, u1, some (.inl v2), some (.inl v3)] [] h))
  exact ⟨k1, k2⟩

theorem bX9_wantAlso_66 {d : Nat} {Q : Option MV → MH → Prop} {h : MH} {u1 : Option MV} {v3 v2 : Int32} (hr : zRf h) (g0 : vp_in (v3 - (nI 1)) 4) (g1 : vp_in v3 4) (k : J mX9_wantAlso d 0 0 Q 0 0 61 [some (.inr (.inr 62)), u1, some (.inl v2), some (.inl (v3 + -(nI 1)))] [] (zsI h 63 v3.toNatClampNeg (h.1 63 (v3 - (nI 1)).toNatClampNeg))) : J mX9_wantAlso d 0 0 Q 0 0 66 [some (.inr (.inr 62)), u1, some (.inl v2), some (.inl v3)] [] h := by
  refine zrun 38 12 qX9_wantAlso (o := 9) rfl ?_
  show zokO h 62 9 ∧ zokO h 62 9 ∧ zokA h (h.2.2.1 62 12) 20 (v3 - (nI 1)) ∧ zokA h (h.2.2.1 62 12) 20 v3 ∧ J mX9_wantAlso d 0 0 Q 0 0 61 [some (.inr (.inr 62)), u1, some (.inl v2), some (.inl (v3 + -(nI 1)))] [] (zsI h (h.2.2.1 62 12) v3.toNatClampNeg (h.1 (h.2.2.1 62 12) (v3 - (nI 1)).toNatClampNeg))
  rw [(show h.2.2.1 62 12 = 63 from (hr.at (by decide) (by decide) (by rfl)))]
  exact ⟨(zo hr (by decide) rfl), (zo hr (by decide) rfl), (zia hr (by decide) (by rfl) g0), (zia hr (by decide) (by rfl) g1), k⟩

theorem bX9_wantAlso_86 {d : Nat} {Q : Option MV → MH → Prop} {h : MH} {u3 : Option MV} {v2 v1 : Int32} (hr : zRf h) (g0 : vp_in v2 4) (k : Q (some (.inl (nI 1))) (zsI (zsI h 63 v2.toNatClampNeg v1) 62 10 (((zsI h 63 v2.toNatClampNeg v1).1 62 10) + (nI 1)))) : J mX9_wantAlso d 0 0 Q 0 0 86 [some (.inr (.inr 62)), some (.inl v1), some (.inl v2), u3] [] h := by
  refine zrun 50 12 qX9_wantAlso (o := 9) rfl ?_
  show zokO h 62 9 ∧ zokA h (h.2.2.1 62 12) 20 v2 ∧ zokO (zsI h (h.2.2.1 62 12) v2.toNatClampNeg v1) 62 9 ∧ zokO (zsI h (h.2.2.1 62 12) v2.toNatClampNeg v1) 62 9 ∧ J mX9_wantAlso d 0 0 Q 0 0 104 [some (.inr (.inr 62)), some (.inl v1), some (.inl v2), u3] [.inl (nI 1)] (zsI (zsI h (h.2.2.1 62 12) v2.toNatClampNeg v1) 62 10 (((zsI h (h.2.2.1 62 12) v2.toNatClampNeg v1).1 62 10) + (nI 1)))
  rw [(show h.2.2.1 62 12 = 63 from (hr.at (by decide) (by decide) (by rfl)))]
  exact ⟨(zo hr (by decide) rfl), (zia hr (by decide) (by rfl) g0), (zo hr (by decide) rfl), (zo hr (by decide) rfl), J_iret (ty := .boolean) (zat qX9_wantAlso 62 (by rfl)) rfl (by decide) (Nat.le_refl 0) (Nat.le_refl 0) k⟩

theorem bX9_seekWanted_0 {d : Nat} {Q : Option MV → MH → Prop} {h : MH} {u1 : Option MV} (hr : zRf h) (k1 : ¬ (h.1 62 10) = 0 → J mX9_seekWanted d 0 0 Q 0 0 9 [some (.inr (.inr 62)), u1] [] h) (k2 : (h.1 62 10) = 0 → J mX9_seekWanted d 0 0 Q 0 0 7 [some (.inr (.inr 62)), u1] [] h) : J mX9_seekWanted d 0 0 Q 0 0 0 [some (.inr (.inr 62)), u1] [] h := by
  refine zrun 0 3 qX9_seekWanted (o := 9) rfl ?_
  show zokO h 62 9 ∧ ((¬ (h.1 62 10) = 0 → J mX9_seekWanted d 0 0 Q 0 0 9 [some (.inr (.inr 62)), u1] [] h) ∧ ((h.1 62 10) = 0 → J mX9_seekWanted d 0 0 Q 0 0 7 [some (.inr (.inr 62)), u1] [] h))
  exact ⟨(zo hr (by decide) rfl), k1, k2⟩

theorem bX9_seekWanted_7 {d : Nat} {Q : Option MV → MH → Prop} {h : MH} {u0 u1 : Option MV} (k : Q (some (.inl (nI 1))) h) : J mX9_seekWanted d 0 0 Q 0 0 7 [u0, u1] [] h := by
  refine zrun 3 1 qX9_seekWanted (o := 9) rfl ?_
  show J mX9_seekWanted d 0 0 Q 0 0 8 [u0, u1] [.inl (nI 1)] h
  exact J_iret (ty := .boolean) (zat qX9_seekWanted 4 (by rfl)) rfl (by decide) (Nat.le_refl 0) (Nat.le_refl 0) k

theorem bX9_seekWanted_9 {d : Nat} {Q : Option MV → MH → Prop} {h : MH} {u1 : Option MV} (hr : zRf h) (k1 : (h.1 62 0) < (h.1 62 10) → J mX9_seekWanted d 0 0 Q 0 0 38 [some (.inr (.inr 62)), u1] [] h) (k2 : ¬ (h.1 62 0) < (h.1 62 10) → J mX9_seekWanted d 0 0 Q 0 0 20 [some (.inr (.inr 62)), u1] [] h) : J mX9_seekWanted d 0 0 Q 0 0 9 [some (.inr (.inr 62)), u1] [] h := by
  refine zrun 5 5 qX9_seekWanted (o := 9) rfl ?_
  show zokO h 62 9 ∧ zokO h 62 9 ∧ (((h.1 62 0) < (h.1 62 10) → J mX9_seekWanted d 0 0 Q 0 0 38 [some (.inr (.inr 62)), u1] [] h) ∧ (¬ (h.1 62 0) < (h.1 62 10) → J mX9_seekWanted d 0 0 Q 0 0 20 [some (.inr (.inr 62)), u1] [] h))
  exact ⟨(zo hr (by decide) rfl), (zo hr (by decide) rfl), k1, k2⟩

theorem bX9_seekWanted_20 {d : Nat} {Q : Option MV → MH → Prop} {h : MH} {u1 : Option MV} (hr : zRf h) (g0 : vp_in ((h.1 62 10) - (nI 1)) 4) (k1 : (h.1 63 ((h.1 62 10) - (nI 1)).toNatClampNeg) ≤ (h.1 62 2) → J mX9_seekWanted d 0 0 Q 0 0 40 [some (.inr (.inr 62)), u1] [] h) (k2 : ¬ (h.1 63 ((h.1 62 10) - (nI 1)).toNatClampNeg) ≤ (h.1 62 2) → J mX9_seekWanted d 0 0 Q 0 0 38 [some (.inr (.inr 62)), u1] [] h) : J mX9_seekWanted d 0 0 Q 0 0 20 [some (.inr (.inr 62)), u1] [] h := by
  refine zrun 10 10 qX9_seekWanted (o := 9) rfl ?_
  show zokO h 62 9 ∧ zokO h 62 9 ∧ zokA h (h.2.2.1 62 12) 20 ((h.1 62 10) - (nI 1)) ∧ zokO h 62 9 ∧ (((h.1 (h.2.2.1 62 12) ((h.1 62 10) - (nI 1)).toNatClampNeg) ≤ (h.1 62 2) → J mX9_seekWanted d 0 0 Q 0 0 40 [some (.inr (.inr 62)), u1] [] h) ∧ (¬ (h.1 (h.2.2.1 62 12) ((h.1 62 10) - (nI 1)).toNatClampNeg) ≤ (h.1 62 2) → J mX9_seekWanted d 0 0 Q 0 0 38 [some (.inr (.inr 62)), u1] [] h))
  rw [(show h.2.2.1 62 12 = 63 from (hr.at (by decide) (by decide) (by rfl)))]
  exact ⟨(zo hr (by decide) rfl), (zo hr (by decide) rfl), (zia hr (by decide) (by rfl) g0), (zo hr (by decide) rfl), k1, k2⟩

theorem bX9_seekWanted_38 {d : Nat} {Q : Option MV → MH → Prop} {h : MH} {u0 u1 : Option MV} (k : Q (some (.inl (nI 0))) h) : J mX9_seekWanted d 0 0 Q 0 0 38 [u0, u1] [] h := by
  refine zrun 20 1 qX9_seekWanted (o := 9) rfl ?_
  show J mX9_seekWanted d 0 0 Q 0 0 39 [u0, u1] [.inl (nI 0)] h
  exact J_iret (ty := .boolean) (zat qX9_seekWanted 21 (by rfl)) rfl (by decide) (Nat.le_refl 0) (Nat.le_refl 0) k

theorem bX9_seekWanted_40 {d : Nat} {Q : Option MV → MH → Prop} {h : MH} {u1 : Option MV} (k : J mX9_seekWanted d 0 0 Q 0 0 42 [some (.inr (.inr 62)), some (.inl (nI 0))] [] h) : J mX9_seekWanted d 0 0 Q 0 0 40 [some (.inr (.inr 62)), u1] [] h := by
  refine zrun 22 2 qX9_seekWanted (o := 9) rfl ?_
  show J mX9_seekWanted d 0 0 Q 0 0 42 [some (.inr (.inr 62)), some (.inl (nI 0))] [] h
  exact k

theorem bX9_seekWanted_42 {d : Nat} {Q : Option MV → MH → Prop} {h : MH} {v1 : Int32} (hr : zRf h) (k1 : (h.1 62 10) ≤ v1 → J mX9_seekWanted d 0 0 Q 0 0 71 [some (.inr (.inr 62)), some (.inl v1)] [] h) (k2 : ¬ (h.1 62 10) ≤ v1 → J mX9_seekWanted d 0 0 Q 0 0 50 [some (.inr (.inr 62)), some (.inl v1)] [] h) : J mX9_seekWanted d 0 0 Q 0 0 42 [some (.inr (.inr 62)), some (.inl v1)] [] h := by
  refine zrun 24 4 qX9_seekWanted (o := 9) rfl ?_
  show zokO h 62 9 ∧ (((h.1 62 10) ≤ v1 → J mX9_seekWanted d 0 0 Q 0 0 71 [some (.inr (.inr 62)), some (.inl v1)] [] h) ∧ (¬ (h.1 62 10) ≤ v1 → J mX9_seekWanted d 0 0 Q 0 0 50 [some (.inr (.inr 62)), some (.inl v1)] [] h))
  exact ⟨(zo hr (by decide) rfl), k1, k2⟩

theorem bX9_seekWanted_50 {d d' : Nat} {Q : Option MV → MH → Prop} {h : MH} {v1 : Int32} (hr : zRf h) (g0 : vp_in v1 4) (hd : d' + 1 ≤ d) (k : Con mX9_onGrid d' 0 0 [.inr (.inr 62), .inl (h.1 63 v1.toNatClampNeg)] h (zri fun (x : Int32) h' => J mX9_seekWanted d 0 0 Q 0 0 60 [some (.inr (.inr 62)), some (.inl v1)] [.inl x] h')) : J mX9_seekWanted d 0 0 Q 0 0 50 [some (.inr (.inr 62)), some (.inl v1)] [] h := by
  refine zrun 28 5 qX9_seekWanted (o := 9) rfl ?_
  show zokO h 62 9 ∧ zokA h (h.2.2.1 62 12) 20 v1 ∧ J mX9_seekWanted d 0 0 Q 0 0 57 [some (.inr (.inr 62)), some (.inl v1)] [.inl (h.1 (h.2.2.1 62 12) v1.toNatClampNeg), .inr (.inr 62)] h
  rw [(show h.2.2.1 62 12 = 63 from (hr.at (by decide) (by decide) (by rfl)))]
  exact ⟨(zo hr (by decide) rfl), (zia hr (by decide) (by rfl) g0), zcVi (as := [.inl (h.1 63 v1.toNatClampNeg)]) (zat qX9_seekWanted 33 (by rfl)) l9_67 rfl hd rfl (Nat.le_of_ble_eq_true rfl) zle0 (ci := 9) (by decide) rfl (zo hr (by decide) rfl) k⟩

theorem bX9_seekWanted_60 {d : Nat} {Q : Option MV → MH → Prop} {h : MH} {u0 u1 : Option MV} {vs0 : Int32} (k1 : ¬ vs0 = 0 → J mX9_seekWanted d 0 0 Q 0 0 65 [u0, u1] [] h) (k2 : vs0 = 0 → J mX9_seekWanted d 0 0 Q 0 0 63 [u0, u1] [] h) : J mX9_seekWanted d 0 0 Q 0 0 60 [u0, u1] [.inl vs0] h := by
  refine zrun 34 1 qX9_seekWanted (o := 9) rfl ?_
  show ((¬ vs0 = 0 → J mX9_seekWanted d 0 0 Q 0 0 65 [u0, u1] [] h) ∧ (vs0 = 0 → J mX9_seekWanted d 0 0 Q 0 0 63 [u0, u1] [] h))
  exact ⟨k1, k2⟩

theorem bX9_seekWanted_63 {d : Nat} {Q : Option MV → MH → Prop} {h : MH} {u0 u1 : Option MV} (k : Q (some (.inl (nI 0))) h) : J mX9_seekWanted d 0 0 Q 0 0 63 [u0, u1] [] h := by
  refine zrun 35 1 qX9_seekWanted (o := 9) rfl ?_
  show J mX9_seekWanted d 0 0 Q 0 0 64 [u0, u1] [.inl (nI 0)] h
  exact J_iret (ty := .boolean) (zat qX9_seekWanted 36 (by rfl)) rfl (by decide) (Nat.le_refl 0) (Nat.le_refl 0) k

theorem bX9_seekWanted_65 {d : Nat} {Q : Option MV → MH → Prop} {h : MH} {v1 : Int32} (k : J mX9_seekWanted d 0 0 Q 0 0 42 [some (.inr (.inr 62)), some (.inl (v1 + nI 1))] [] h) : J mX9_seekWanted d 0 0 Q 0 0 65 [some (.inr (.inr 62)), some (.inl v1)] [] h := by
  refine zrun 37 2 qX9_seekWanted (o := 9) rfl ?_
  show J mX9_seekWanted d 0 0 Q 0 0 42 [some (.inr (.inr 62)), some (.inl (v1 + nI 1))] [] h
  exact k

theorem bX9_seekWanted_71 {d d' : Nat} {Q : Option MV → MH → Prop} {h : MH} {u1 : Option MV} (hr : zRf h) (hd : d' + 1 ≤ d) (k : Con mX9_begin d' 0 0 [.inr (.inr 62)] (zsI h 62 4 (nI 5)) (zrv fun h' => J mX9_seekWanted d 0 0 Q 0 0 80 [some (.inr (.inr 62)), u1] [] h')) : J mX9_seekWanted d 0 0 Q 0 0 71 [some (.inr (.inr 62)), u1] [] h := by
  refine zrun 39 4 qX9_seekWanted (o := 9) rfl ?_
  show zokO h 62 9 ∧ J mX9_seekWanted d 0 0 Q 0 0 77 [some (.inr (.inr 62)), u1] [.inr (.inr 62)] (zsI h 62 4 (nI 5))
  exact ⟨(zo hr (by decide) rfl), zcVv (as := []) (zat qX9_seekWanted 43 (by rfl)) l9_60 rfl hd rfl (Nat.le_of_ble_eq_true rfl) zle0 (ci := 9) (by decide) rfl (show zokO _ _ _ from (zo hr (by decide) rfl)) k⟩

theorem bX9_seekWanted_80 {d d' : Nat} {Q : Option MV → MH → Prop} {h : MH} {u1 : Option MV} (hr : zRf h) (hd : d' + 1 ≤ d) (k : Con mX9_go d' 0 0 [.inr (.inr 62), .inl (nI 0), .inl (h.1 62 2), .inl (nI 0)] h (zrv fun h' => J mX9_seekWanted d 0 0 Q 0 0 90 [some (.inr (.inr 62)), u1] [] h')) : J mX9_seekWanted d 0 0 Q 0 0 80 [some (.inr (.inr 62)), u1] [] h := by
  refine zrun 44 5 qX9_seekWanted (o := 9) rfl ?_
  show zokO h 62 9 ∧ J mX9_seekWanted d 0 0 Q 0 0 87 [some (.inr (.inr 62)), u1] [.inl (nI 0), .inl (h.1 62 2), .inl (nI 0), .inr (.inr 62)] h
  exact ⟨(zo hr (by decide) rfl), zcVv (as := [.inl (nI 0), .inl (h.1 62 2), .inl (nI 0)]) (zat qX9_seekWanted 49 (by rfl)) l9_63 rfl hd rfl (Nat.le_of_ble_eq_true rfl) zle0 (ci := 9) (by decide) rfl (zo hr (by decide) rfl) k⟩

theorem bX9_seekWanted_90 {d : Nat} {Q : Option MV → MH → Prop} {h : MH} {u1 : Option MV} (hr : zRf h) (gn : (h.1 62 6) = 0 ∨ (h.1 62 6) = 1) (k : Q (some (.inl (h.1 62 6))) h) : J mX9_seekWanted d 0 0 Q 0 0 90 [some (.inr (.inr 62)), u1] [] h := by
  refine zrun 50 2 qX9_seekWanted (o := 9) rfl ?_
  show zokO h 62 9 ∧ J mX9_seekWanted d 0 0 Q 0 0 94 [some (.inr (.inr 62)), u1] [.inl (h.1 62 6)] h
  exact ⟨(zo hr (by decide) rfl), J_iret (ty := .boolean) (zat qX9_seekWanted 52 (by rfl)) rfl (znz gn) (Nat.le_refl 0) (Nat.le_refl 0) k⟩

theorem bX9_digits_0 {d : Nat} {Q : Option MV → MH → Prop} {h : MH} {u0 u2 u3 : Option MV} {v1 : Int32} (k1 : v1 < 0 → J mX9_digits d 0 0 Q 0 0 17 [u0, some (.inl v1), u2, u3] [] h) (k2 : ¬ v1 < 0 → J mX9_digits d 0 0 Q 0 0 4 [u0, some (.inl v1), u2, u3] [] h) : J mX9_digits d 0 0 Q 0 0 0 [u0, some (.inl v1), u2, u3] [] h := by
  refine zrun 0 2 qX9_digits (o := 9) rfl ?_
  show ((v1 < 0 → J mX9_digits d 0 0 Q 0 0 17 [u0, some (.inl v1), u2, u3] [] h) ∧ (¬ v1 < 0 → J mX9_digits d 0 0 Q 0 0 4 [u0, some (.inl v1), u2, u3] [] h))
  exact ⟨k1, k2⟩

theorem bX9_digits_4 {d : Nat} {Q : Option MV → MH → Prop} {h : MH} {u2 u3 : Option MV} {v1 : Int32} (hr : zRf h) (k1 : (h.1 62 9) ≤ v1 → J mX9_digits d 0 0 Q 0 0 17 [some (.inr (.inr 62)), some (.inl v1), u2, u3] [] h) (k2 : ¬ (h.1 62 9) ≤ v1 → J mX9_digits d 0 0 Q 0 0 12 [some (.inr (.inr 62)), some (.inl v1), u2, u3] [] h) : J mX9_digits d 0 0 Q 0 0 4 [some (.inr (.inr 62)), some (.inl v1), u2, u3] [] h := by
  refine zrun 2 4 qX9_digits (o := 9) rfl ?_
  show zokO h 62 9 ∧ (((h.1 62 9) ≤ v1 → J mX9_digits d 0 0 Q 0 0 17 [some (.inr (.inr 62)), some (.inl v1), u2, u3] [] h) ∧ (¬ (h.1 62 9) ≤ v1 → J mX9_digits d 0 0 Q 0 0 12 [some (.inr (.inr 62)), some (.inl v1), u2, u3] [] h))
  exact ⟨(zo hr (by decide) rfl), k1, k2⟩

theorem bX9_digits_12 {d : Nat} {Q : Option MV → MH → Prop} {h : MH} {u0 u2 u3 : Option MV} {v1 : Int32} (k1 : v1 < (nI 4) → J mX9_digits d 0 0 Q 0 0 19 [u0, some (.inl v1), u2, u3] [] h) (k2 : ¬ v1 < (nI 4) → J mX9_digits d 0 0 Q 0 0 17 [u0, some (.inl v1), u2, u3] [] h) : J mX9_digits d 0 0 Q 0 0 12 [u0, some (.inl v1), u2, u3] [] h := by
  refine zrun 6 3 qX9_digits (o := 9) rfl ?_
  show ((v1 < (nI 4) → J mX9_digits d 0 0 Q 0 0 19 [u0, some (.inl v1), u2, u3] [] h) ∧ (¬ v1 < (nI 4) → J mX9_digits d 0 0 Q 0 0 17 [u0, some (.inl v1), u2, u3] [] h))
  exact ⟨k1, k2⟩

theorem bX9_digits_17 {d : Nat} {Q : Option MV → MH → Prop} {h : MH} {u0 u1 u2 u3 : Option MV} (k : Q (some (.inl (-(nI 1)))) h) : J mX9_digits d 0 0 Q 0 0 17 [u0, u1, u2, u3] [] h := by
  refine zrun 9 1 qX9_digits (o := 9) rfl ?_
  show J mX9_digits d 0 0 Q 0 0 18 [u0, u1, u2, u3] [.inl (-(nI 1))] h
  exact J_iret (ty := .int) (zat qX9_digits 10 (by rfl)) rfl rfl (Nat.le_refl 0) (Nat.le_refl 0) k

theorem bX9_digits_19 {d : Nat} {Q : Option MV → MH → Prop} {h : MH} {u0 u2 u3 : Option MV} {v1 : Int32} (k : J mX9_digits d 0 0 Q 0 0 23 [u0, some (.inl v1), some (.inl (nI 0)), some (.inl (nI 0))] [] h) : J mX9_digits d 0 0 Q 0 0 19 [u0, some (.inl v1), u2, u3] [] h := by
  refine zrun 11 4 qX9_digits (o := 9) rfl ?_
  show J mX9_digits d 0 0 Q 0 0 23 [u0, some (.inl v1), some (.inl (nI 0)), some (.inl (nI 0))] [] h
  exact k

theorem bX9_digits_23 {d : Nat} {Q : Option MV → MH → Prop} {h : MH} {u1 u2 : Option MV} {v3 : Int32} (hr : zRf h) (k1 : (h.1 62 0) ≤ v3 → J mX9_digits d 0 0 Q 0 0 53 [some (.inr (.inr 62)), u1, u2, some (.inl v3)] [] h) (k2 : ¬ (h.1 62 0) ≤ v3 → J mX9_digits d 0 0 Q 0 0 31 [some (.inr (.inr 62)), u1, u2, some (.inl v3)] [] h) : J mX9_digits d 0 0 Q 0 0 23 [some (.inr (.inr 62)), u1, u2, some (.inl v3)] [] h := by
  refine zrun 15 4 qX9_digits (o := 9) rfl ?_
  show zokO h 62 9 ∧ (((h.1 62 0) ≤ v3 → J mX9_digits d 0 0 Q 0 0 53 [some (.inr (.inr 62)), u1, u2, some (.inl v3)] [] h) ∧ (¬ (h.1 62 0) ≤ v3 → J mX9_digits d 0 0 Q 0 0 31 [some (.inr (.inr 62)), u1, u2, some (.inl v3)] [] h))
  exact ⟨(zo hr (by decide) rfl), k1, k2⟩

theorem bX9_digits_31 {d : Nat} {Q : Option MV → MH → Prop} {h : MH} {v2 v1 v3 : Int32} (hr : zRf h) (g0 : vp_in (v1 + (nI 1)) 5) (g1 : zokA h (72 + (v1 + (nI 1)).toNatClampNeg) 20 v3) (k : J mX9_digits d 0 0 Q 0 0 23 [some (.inr (.inr 62)), some (.inl v1), some (.inl ((v2 * (nI 10)) + (h.1 (72 + (v1 + (nI 1)).toNatClampNeg) v3.toNatClampNeg))), some (.inl (v3 + nI 1))] [] h) : J mX9_digits d 0 0 Q 0 0 31 [some (.inr (.inr 62)), some (.inl v1), some (.inl v2), some (.inl v3)] [] h := by
  refine zrun 19 15 qX9_digits (o := 9) rfl ?_
  show zokO h 62 9 ∧ zokR h (h.2.2.1 62 15) (v1 + (nI 1)) ∧ zokA h (h.2.2.1 (h.2.2.1 62 15) (v1 + (nI 1)).toNatClampNeg) 20 v3 ∧ J mX9_digits d 0 0 Q 0 0 23 [some (.inr (.inr 62)), some (.inl v1), some (.inl ((v2 * (nI 10)) + (h.1 (h.2.2.1 (h.2.2.1 62 15) (v1 + (nI 1)).toNatClampNeg) v3.toNatClampNeg))), some (.inl (v3 + nI 1))] [] h
  rw [(show h.2.2.1 62 15 = 71 from (hr.at (by decide) (by decide) (by rfl))), (show h.2.2.1 71 (v1 + (nI 1)).toNatClampNeg = (72 + (v1 + (nI 1)).toNatClampNeg) from (hr.a33 (by decide) (by rfl) (vp_lt g0)))]
  exact ⟨(zo hr (by decide) rfl), (zir_ hr (by decide) (by rfl) (by decide) g0), g1, k⟩

theorem bX9_digits_53 {d : Nat} {Q : Option MV → MH → Prop} {h : MH} {u0 u1 u3 : Option MV} {v2 : Int32} (k : Q (some (.inl v2)) h) : J mX9_digits d 0 0 Q 0 0 53 [u0, u1, some (.inl v2), u3] [] h := by
  refine zrun 34 1 qX9_digits (o := 9) rfl ?_
  show J mX9_digits d 0 0 Q 0 0 54 [u0, u1, some (.inl v2), u3] [.inl v2] h
  exact J_iret (ty := .int) (zat qX9_digits 35 (by rfl)) rfl rfl (Nat.le_refl 0) (Nat.le_refl 0) k

theorem bX9_begin_0 {d : Nat} {Q : Option MV → MH → Prop} {h : MH} (hr : zRf h) (g0 : vp_in (nI 0) 5) (k : Q none (zsI (zsI (zsI h 62 6 (nI 0)) 62 7 (nI 0)) 64 0 (nI 0))) : J mX9_begin d 0 0 Q 0 0 0 [some (.inr (.inr 62))] [] h := by
  refine zrun 0 11 qX9_begin (o := 9) rfl ?_
  show (zokO h 62 9 ∧ ((.inl (nI 0) : MV) = .inl 0 ∨ (.inl (nI 0) : MV) = .inl 1)) ∧ (zokO (zsI h 62 6 (nI 0)) 62 9 ∧ ((.inl (nI 0) : MV) = .inl 0 ∨ (.inl (nI 0) : MV) = .inl 1)) ∧ zokO (zsI (zsI h 62 6 (nI 0)) 62 7 (nI 0)) 62 9 ∧ zokA (zsI (zsI h 62 6 (nI 0)) 62 7 (nI 0)) (h.2.2.1 62 13) 20 (nI 0) ∧ J mX9_begin d 0 0 Q 0 0 17 [some (.inr (.inr 62))] [] (zsI (zsI (zsI h 62 6 (nI 0)) 62 7 (nI 0)) (h.2.2.1 62 13) 0 (nI 0))
  rw [(show h.2.2.1 62 13 = 64 from (hr.at (by decide) (by decide) (by rfl)))]
  exact ⟨⟨zo hr (by decide) rfl, Or.inl rfl⟩, ⟨zo hr (by decide) rfl, Or.inl rfl⟩, (zo hr (by decide) rfl), (zia hr (by decide) (by rfl) g0), J_vret (zat qX9_begin 11 (by rfl)) rfl (Nat.le_refl 0) (Nat.le_refl 0) k⟩

theorem bX9_go_0 {d : Nat} {Q : Option MV → MH → Prop} {h : MH} {u0 u2 u3 u4 : Option MV} {v1 : Int32} (k1 : (nI 4) ≤ v1 → J mX9_go d 0 0 Q 0 0 9 [u0, some (.inl v1), u2, u3, u4] [] h) (k2 : ¬ (nI 4) ≤ v1 → J mX9_go d 0 0 Q 0 0 5 [u0, some (.inl v1), u2, u3, u4] [] h) : J mX9_go d 0 0 Q 0 0 0 [u0, some (.inl v1), u2, u3, u4] [] h := by
  refine zrun 0 3 qX9_go (o := 9) rfl ?_
  show (((nI 4) ≤ v1 → J mX9_go d 0 0 Q 0 0 9 [u0, some (.inl v1), u2, u3, u4] [] h) ∧ (¬ (nI 4) ≤ v1 → J mX9_go d 0 0 Q 0 0 5 [u0, some (.inl v1), u2, u3, u4] [] h))
  exact ⟨k1, k2⟩

theorem bX9_go_5 {d : Nat} {Q : Option MV → MH → Prop} {h : MH} {u0 u1 u3 u4 : Option MV} {v2 : Int32} (k1 : 0 < v2 → J mX9_go d 0 0 Q 0 0 10 [u0, u1, some (.inl v2), u3, u4] [] h) (k2 : ¬ 0 < v2 → J mX9_go d 0 0 Q 0 0 9 [u0, u1, some (.inl v2), u3, u4] [] h) : J mX9_go d 0 0 Q 0 0 5 [u0, u1, some (.inl v2), u3, u4] [] h := by
  refine zrun 3 2 qX9_go (o := 9) rfl ?_
  show ((0 < v2 → J mX9_go d 0 0 Q 0 0 10 [u0, u1, some (.inl v2), u3, u4] [] h) ∧ (¬ 0 < v2 → J mX9_go d 0 0 Q 0 0 9 [u0, u1, some (.inl v2), u3, u4] [] h))
  exact ⟨k1, k2⟩

theorem bX9_go_9 {d : Nat} {Q : Option MV → MH → Prop} {h : MH} {u0 u1 u2 u3 u4 : Option MV} (k : Q none h) : J mX9_go d 0 0 Q 0 0 9 [u0, u1, u2, u3, u4] [] h := by
  exact J_vret (zat qX9_go 5 (by rfl)) rfl (Nat.le_refl 0) (Nat.le_refl 0) k

theorem bX9_go_10 {d : Nat} {Q : Option MV → MH → Prop} {h : MH} {u0 u1 u2 u4 : Option MV} {v3 : Int32} (k : J mX9_go d 0 0 Q 0 0 13 [u0, u1, u2, some (.inl v3), some (.inl (nI 0))] [] h) : J mX9_go d 0 0 Q 0 0 10 [u0, u1, u2, some (.inl v3), u4] [] h := by
  refine zrun 6 2 qX9_go (o := 9) rfl ?_
  show J mX9_go d 0 0 Q 0 0 13 [u0, u1, u2, some (.inl v3), some (.inl (nI 0))] [] h
  exact k

theorem bX9_go_13 {d : Nat} {Q : Option MV → MH → Prop} {h : MH} {u1 u2 u3 : Option MV} {v4 : Int32} (hr : zRf h) (k1 : (h.1 62 0) ≤ v4 → J mX9_go d 0 0 Q 0 0 46 [some (.inr (.inr 62)), u1, u2, u3, some (.inl v4)] [] h) (k2 : ¬ (h.1 62 0) ≤ v4 → J mX9_go d 0 0 Q 0 0 22 [some (.inr (.inr 62)), u1, u2, u3, some (.inl v4)] [] h) : J mX9_go d 0 0 Q 0 0 13 [some (.inr (.inr 62)), u1, u2, u3, some (.inl v4)] [] h := by
  refine zrun 8 4 qX9_go (o := 9) rfl ?_
  show zokO h 62 9 ∧ (((h.1 62 0) ≤ v4 → J mX9_go d 0 0 Q 0 0 46 [some (.inr (.inr 62)), u1, u2, u3, some (.inl v4)] [] h) ∧ (¬ (h.1 62 0) ≤ v4 → J mX9_go d 0 0 Q 0 0 22 [some (.inr (.inr 62)), u1, u2, u3, some (.inl v4)] [] h))
  exact ⟨(zo hr (by decide) rfl), k1, k2⟩

theorem bX9_go_22 {d d' : Nat} {Q : Option MV → MH → Prop} {h : MH} {u2 u3 : Option MV} {v1 v4 : Int32} (hr : zRf h) (g0 : vp_in (v1 + (nI 1)) 5) (hd : d' + 1 ≤ d) (k : Con mX9_fewestFor d' 0 0 [.inr (.inr 62), .inl v1, .inl v4] h (zri fun (x : Int32) h' => J mX9_go d 0 0 Q 0 0 39 [some (.inr (.inr 62)), some (.inl v1), u2, u3, some (.inl v4)] [.inl x, .inl v4, .inr (.inr (72 + (v1 + (nI 1)).toNatClampNeg))] h')) : J mX9_go d 0 0 Q 0 0 22 [some (.inr (.inr 62)), some (.inl v1), u2, u3, some (.inl v4)] [] h := by
  refine zrun 12 10 qX9_go (o := 9) rfl ?_
  show zokO h 62 9 ∧ zokR h (h.2.2.1 62 15) (v1 + (nI 1)) ∧ J mX9_go d 0 0 Q 0 0 36 [some (.inr (.inr 62)), some (.inl v1), u2, u3, some (.inl v4)] [.inl v4, .inl v1, .inr (.inr 62), .inl v4, .inr (.inr (h.2.2.1 (h.2.2.1 62 15) (v1 + (nI 1)).toNatClampNeg))] h
  rw [(show h.2.2.1 62 15 = 71 from (hr.at (by decide) (by decide) (by rfl))), (show h.2.2.1 71 (v1 + (nI 1)).toNatClampNeg = (72 + (v1 + (nI 1)).toNatClampNeg) from (hr.a33 (by decide) (by rfl) (vp_lt g0)))]
  exact ⟨(zo hr (by decide) rfl), (zir_ hr (by decide) (by rfl) (by decide) g0), zcVi (as := [.inl v1, .inl v4]) (zat qX9_go 22 (by rfl)) l9_98 rfl hd rfl (Nat.le_of_ble_eq_true rfl) zle0 (ci := 9) (by decide) rfl (zo hr (by decide) rfl) k⟩

theorem bX9_go_39 {d : Nat} {Q : Option MV → MH → Prop} {h : MH} {u0 u1 u2 : Option MV} {vs1 vs2 v4 v3 : Int32} {vs0 : Nat} (g0 : zokA h vs0 20 vs1) (k : J mX9_go d 0 0 Q 0 0 13 [u0, u1, u2, some (.inl v3), some (.inl (v4 + nI 1))] [] (zsI h vs0 vs1.toNatClampNeg vs2)) : J mX9_go d 0 0 Q 0 0 39 [u0, u1, u2, some (.inl v3), some (.inl v4)] [.inl vs2, .inl vs1, .inr (.inr vs0)] h := by
  refine zrun 23 3 qX9_go (o := 9) rfl ?_
  show zokA h vs0 20 vs1 ∧ J mX9_go d 0 0 Q 0 0 13 [u0, u1, u2, some (.inl v3), some (.inl (v4 + nI 1))] [] (zsI h vs0 vs1.toNatClampNeg vs2)
  exact ⟨g0, k⟩

theorem bX9_go_46 {d : Nat} {Q : Option MV → MH → Prop} {h : MH} {u0 u1 u2 u4 : Option MV} {v3 : Int32} (k : J mX9_go d 0 0 Q 0 0 49 [u0, u1, u2, some (.inl v3), some (.inl (nI 0))] [] h) : J mX9_go d 0 0 Q 0 0 46 [u0, u1, u2, some (.inl v3), u4] [] h := by
  refine zrun 26 2 qX9_go (o := 9) rfl ?_
  show J mX9_go d 0 0 Q 0 0 49 [u0, u1, u2, some (.inl v3), some (.inl (nI 0))] [] h
  exact k

theorem bX9_go_49 {d : Nat} {Q : Option MV → MH → Prop} {h : MH} {u0 u1 u2 u3 : Option MV} {v4 : Int32} (k1 : (nI 81) ≤ v4 → J mX9_go d 0 0 Q 0 0 85 [u0, u1, u2, u3, some (.inl v4)] [] h) (k2 : ¬ (nI 81) ≤ v4 → J mX9_go d 0 0 Q 0 0 56 [u0, u1, u2, u3, some (.inl v4)] [] h) : J mX9_go d 0 0 Q 0 0 49 [u0, u1, u2, u3, some (.inl v4)] [] h := by
  refine zrun 28 3 qX9_go (o := 9) rfl ?_
  show (((nI 81) ≤ v4 → J mX9_go d 0 0 Q 0 0 85 [u0, u1, u2, u3, some (.inl v4)] [] h) ∧ (¬ (nI 81) ≤ v4 → J mX9_go d 0 0 Q 0 0 56 [u0, u1, u2, u3, some (.inl v4)] [] h))
  exact ⟨k1, k2⟩

theorem bX9_go_56 {d d' : Nat} {Q : Option MV → MH → Prop} {h : MH} {u4 : Option MV} {v1 v2 v3 : Int32} (hr : zRf h) (hd : d' + 1 ≤ d) (k : Con mX9_follow d' 0 0 [.inr (.inr 62), .inl v1, .inl v2, .inl v3] h (zrv fun h' => J mX9_go d 0 0 Q 0 0 63 [some (.inr (.inr 62)), some (.inl v1), some (.inl v2), some (.inl v3), u4] [] h')) : J mX9_go d 0 0 Q 0 0 56 [some (.inr (.inr 62)), some (.inl v1), some (.inl v2), some (.inl v3), u4] [] h := by
  refine zrun 31 4 qX9_go (o := 9) rfl ?_
  show J mX9_go d 0 0 Q 0 0 60 [some (.inr (.inr 62)), some (.inl v1), some (.inl v2), some (.inl v3), u4] [.inl v3, .inl v2, .inl v1, .inr (.inr 62)] h
  exact zcVv (as := [.inl v1, .inl v2, .inl v3]) (zat qX9_go 35 (by rfl)) l9_101 rfl hd rfl (Nat.le_of_ble_eq_true rfl) zle0 (ci := 9) (by decide) rfl (zo hr (by decide) rfl) k

theorem bX9_go_63 {d : Nat} {Q : Option MV → MH → Prop} {h : MH} {u1 u2 u3 u4 : Option MV} (hr : zRf h) (k1 : ¬ (h.1 62 7) = 0 → J mX9_go d 0 0 Q 0 0 78 [some (.inr (.inr 62)), u1, u2, u3, u4] [] h) (k2 : (h.1 62 7) = 0 → J mX9_go d 0 0 Q 0 0 70 [some (.inr (.inr 62)), u1, u2, u3, u4] [] h) : J mX9_go d 0 0 Q 0 0 63 [some (.inr (.inr 62)), u1, u2, u3, u4] [] h := by
  refine zrun 36 3 qX9_go (o := 9) rfl ?_
  show zokO h 62 9 ∧ ((¬ (h.1 62 7) = 0 → J mX9_go d 0 0 Q 0 0 78 [some (.inr (.inr 62)), u1, u2, u3, u4] [] h) ∧ ((h.1 62 7) = 0 → J mX9_go d 0 0 Q 0 0 70 [some (.inr (.inr 62)), u1, u2, u3, u4] [] h))
  exact ⟨(zo hr (by decide) rfl), k1, k2⟩

theorem bX9_go_70 {d d' : Nat} {Q : Option MV → MH → Prop} {h : MH} {u2 u3 u4 : Option MV} {v1 : Int32} (hr : zRf h) (hd : d' + 1 ≤ d) (k : Con mX9_giveNext d' 0 0 [.inr (.inr 62), .inl v1] h (zri fun (x : Int32) h' => J mX9_go d 0 0 Q 0 0 75 [some (.inr (.inr 62)), some (.inl v1), u2, u3, u4] [.inl x] h')) : J mX9_go d 0 0 Q 0 0 70 [some (.inr (.inr 62)), some (.inl v1), u2, u3, u4] [] h := by
  refine zrun 39 2 qX9_go (o := 9) rfl ?_
  show J mX9_go d 0 0 Q 0 0 72 [some (.inr (.inr 62)), some (.inl v1), u2, u3, u4] [.inl v1, .inr (.inr 62)] h
  exact zcVi (as := [.inl v1]) (zat qX9_go 41 (by rfl)) l9_104 rfl hd rfl (Nat.le_of_ble_eq_true rfl) zle0 (ci := 9) (by decide) rfl (zo hr (by decide) rfl) k

theorem bX9_go_75 {d : Nat} {Q : Option MV → MH → Prop} {h : MH} {u0 u1 u2 u3 u4 : Option MV} {vs0 : Int32} (k1 : ¬ vs0 = 0 → J mX9_go d 0 0 Q 0 0 79 [u0, u1, u2, u3, u4] [] h) (k2 : vs0 = 0 → J mX9_go d 0 0 Q 0 0 78 [u0, u1, u2, u3, u4] [] h) : J mX9_go d 0 0 Q 0 0 75 [u0, u1, u2, u3, u4] [.inl vs0] h := by
  refine zrun 42 1 qX9_go (o := 9) rfl ?_
  show ((¬ vs0 = 0 → J mX9_go d 0 0 Q 0 0 79 [u0, u1, u2, u3, u4] [] h) ∧ (vs0 = 0 → J mX9_go d 0 0 Q 0 0 78 [u0, u1, u2, u3, u4] [] h))
  exact ⟨k1, k2⟩

theorem bX9_go_78 {d : Nat} {Q : Option MV → MH → Prop} {h : MH} {u0 u1 u2 u3 u4 : Option MV} (k : Q none h) : J mX9_go d 0 0 Q 0 0 78 [u0, u1, u2, u3, u4] [] h := by
  exact J_vret (zat qX9_go 43 (by rfl)) rfl (Nat.le_refl 0) (Nat.le_refl 0) k

theorem bX9_go_79 {d : Nat} {Q : Option MV → MH → Prop} {h : MH} {u0 u1 u2 : Option MV} {v4 v3 : Int32} (k : J mX9_go d 0 0 Q 0 0 49 [u0, u1, u2, some (.inl v3), some (.inl (v4 + nI 1))] [] h) : J mX9_go d 0 0 Q 0 0 79 [u0, u1, u2, some (.inl v3), some (.inl v4)] [] h := by
  refine zrun 44 2 qX9_go (o := 9) rfl ?_
  show J mX9_go d 0 0 Q 0 0 49 [u0, u1, u2, some (.inl v3), some (.inl (v4 + nI 1))] [] h
  exact k

theorem bX9_go_85 {d : Nat} {Q : Option MV → MH → Prop} {h : MH} {u0 u1 u2 u3 u4 : Option MV} (k : Q none h) : J mX9_go d 0 0 Q 0 0 85 [u0, u1, u2, u3, u4] [] h := by
  exact J_vret (zat qX9_go 46 (by rfl)) rfl (Nat.le_refl 0) (Nat.le_refl 0) k

theorem bX9_fewestFor_0 {d : Nat} {Q : Option MV → MH → Prop} {h : MH} {u1 u2 : Option MV} (hr : zRf h) (k1 : ¬ (h.1 62 1) = 0 → J mX9_fewestFor d 0 0 Q 0 0 18 [some (.inr (.inr 62)), u1, u2] [] h) (k2 : (h.1 62 1) = 0 → J mX9_fewestFor d 0 0 Q 0 0 7 [some (.inr (.inr 62)), u1, u2] [] h) : J mX9_fewestFor d 0 0 Q 0 0 0 [some (.inr (.inr 62)), u1, u2] [] h := by
  refine zrun 0 3 qX9_fewestFor (o := 9) rfl ?_
  show zokO h 62 9 ∧ ((¬ (h.1 62 1) = 0 → J mX9_fewestFor d 0 0 Q 0 0 18 [some (.inr (.inr 62)), u1, u2] [] h) ∧ ((h.1 62 1) = 0 → J mX9_fewestFor d 0 0 Q 0 0 7 [some (.inr (.inr 62)), u1, u2] [] h))
  exact ⟨(zo hr (by decide) rfl), k1, k2⟩

theorem bX9_fewestFor_7 {d : Nat} {Q : Option MV → MH → Prop} {h : MH} {v1 v2 : Int32} (hr : zRf h) (g0 : vp_in v1 5) (g1 : zokA h (66 + v1.toNatClampNeg) 20 v2) (k1 : ¬ (h.1 (66 + v1.toNatClampNeg) v2.toNatClampNeg) = 0 → J mX9_fewestFor d 0 0 Q 0 0 22 [some (.inr (.inr 62)), some (.inl v1), some (.inl v2)] [] h) (k2 : (h.1 (66 + v1.toNatClampNeg) v2.toNatClampNeg) = 0 → J mX9_fewestFor d 0 0 Q 0 0 18 [some (.inr (.inr 62)), some (.inl v1), some (.inl v2)] [] h) : J mX9_fewestFor d 0 0 Q 0 0 7 [some (.inr (.inr 62)), some (.inl v1), some (.inl v2)] [] h := by
  refine zrun 3 7 qX9_fewestFor (o := 9) rfl ?_
  show zokO h 62 9 ∧ zokR h (h.2.2.1 62 14) v1 ∧ zokA h (h.2.2.1 (h.2.2.1 62 14) v1.toNatClampNeg) 20 v2 ∧ ((¬ (h.1 (h.2.2.1 (h.2.2.1 62 14) v1.toNatClampNeg) v2.toNatClampNeg) = 0 → J mX9_fewestFor d 0 0 Q 0 0 22 [some (.inr (.inr 62)), some (.inl v1), some (.inl v2)] [] h) ∧ ((h.1 (h.2.2.1 (h.2.2.1 62 14) v1.toNatClampNeg) v2.toNatClampNeg) = 0 → J mX9_fewestFor d 0 0 Q 0 0 18 [some (.inr (.inr 62)), some (.inl v1), some (.inl v2)] [] h))
  rw [(show h.2.2.1 62 14 = 65 from (hr.at (by decide) (by decide) (by rfl))), (show h.2.2.1 65 v1.toNatClampNeg = (66 + v1.toNatClampNeg) from (hr.a33 (by decide) (by rfl) (vp_lt g0)))]
  exact ⟨(zo hr (by decide) rfl), (zir_ hr (by decide) (by rfl) (by decide) g0), g1, k1, k2⟩

theorem bX9_fewestFor_18 {d : Nat} {Q : Option MV → MH → Prop} {h : MH} {u0 u1 u2 : Option MV} (k : J mX9_fewestFor d 0 0 Q 0 0 30 [u0, u1, u2] [.inl (nI 0)] h) : J mX9_fewestFor d 0 0 Q 0 0 18 [u0, u1, u2] [] h := by
  refine zrun 10 2 qX9_fewestFor (o := 9) rfl ?_
  show J mX9_fewestFor d 0 0 Q 0 0 30 [u0, u1, u2] [.inl (nI 0)] h
  exact k

theorem bX9_fewestFor_22 {d : Nat} {Q : Option MV → MH → Prop} {h : MH} {v1 v2 : Int32} (hr : zRf h) (g0 : vp_in v1 5) (g1 : zokA h (72 + v1.toNatClampNeg) 20 v2) (k : J mX9_fewestFor d 0 0 Q 0 0 30 [some (.inr (.inr 62)), some (.inl v1), some (.inl v2)] [.inl (h.1 (72 + v1.toNatClampNeg) v2.toNatClampNeg)] h) : J mX9_fewestFor d 0 0 Q 0 0 22 [some (.inr (.inr 62)), some (.inl v1), some (.inl v2)] [] h := by
  refine zrun 12 6 qX9_fewestFor (o := 9) rfl ?_
  show zokO h 62 9 ∧ zokR h (h.2.2.1 62 15) v1 ∧ zokA h (h.2.2.1 (h.2.2.1 62 15) v1.toNatClampNeg) 20 v2 ∧ J mX9_fewestFor d 0 0 Q 0 0 30 [some (.inr (.inr 62)), some (.inl v1), some (.inl v2)] [.inl (h.1 (h.2.2.1 (h.2.2.1 62 15) v1.toNatClampNeg) v2.toNatClampNeg)] h
  rw [(show h.2.2.1 62 15 = 71 from (hr.at (by decide) (by decide) (by rfl))), (show h.2.2.1 71 v1.toNatClampNeg = (72 + v1.toNatClampNeg) from (hr.a33 (by decide) (by rfl) (vp_lt g0)))]
  exact ⟨(zo hr (by decide) rfl), (zir_ hr (by decide) (by rfl) (by decide) g0), g1, k⟩

theorem bX9_fewestFor_30 {d : Nat} {Q : Option MV → MH → Prop} {h : MH} {u0 u1 u2 : Option MV} {vs0 : Int32} (k : Q (some (.inl vs0)) h) : J mX9_fewestFor d 0 0 Q 0 0 30 [u0, u1, u2] [.inl vs0] h := by
  exact J_iret (ty := .int) (zat qX9_fewestFor 18 (by rfl)) rfl rfl (Nat.le_refl 0) (Nat.le_refl 0) k

theorem bX9_giveNext_0 {d : Nat} {Q : Option MV → MH → Prop} {h : MH} {u2 u3 : Option MV} {v1 : Int32} (hr : zRf h) (g0 : vp_in (v1 + (nI 1)) 5) (k : J mX9_giveNext d 0 0 Q 0 0 16 [some (.inr (.inr 62)), some (.inl v1), some (.inr (.inr (72 + (v1 + (nI 1)).toNatClampNeg))), some (.inl ((h.1 62 0) - (nI 1)))] [] h) : J mX9_giveNext d 0 0 Q 0 0 0 [some (.inr (.inr 62)), some (.inl v1), u2, u3] [] h := by
  refine zrun 0 12 qX9_giveNext (o := 9) rfl ?_
  show zokO h 62 9 ∧ zokR h (h.2.2.1 62 15) (v1 + (nI 1)) ∧ zokO h 62 9 ∧ J mX9_giveNext d 0 0 Q 0 0 16 [some (.inr (.inr 62)), some (.inl v1), some (.inr (.inr (h.2.2.1 (h.2.2.1 62 15) (v1 + (nI 1)).toNatClampNeg))), some (.inl ((h.1 62 0) - (nI 1)))] [] h
  rw [(show h.2.2.1 62 15 = 71 from (hr.at (by decide) (by decide) (by rfl))), (show h.2.2.1 71 (v1 + (nI 1)).toNatClampNeg = (72 + (v1 + (nI 1)).toNatClampNeg) from (hr.a33 (by decide) (by rfl) (vp_lt g0)))]
  exact ⟨(zo hr (by decide) rfl), (zir_ hr (by decide) (by rfl) (by decide) g0), (zo hr (by decide) rfl), k⟩

theorem bX9_giveNext_16 {d : Nat} {Q : Option MV → MH → Prop} {h : MH} {u0 u1 u2 : Option MV} {v3 : Int32} (k1 : v3 < 0 → J mX9_giveNext d 0 0 Q 0 0 62 [u0, u1, u2, some (.inl v3)] [] h) (k2 : ¬ v3 < 0 → J mX9_giveNext d 0 0 Q 0 0 20 [u0, u1, u2, some (.inl v3)] [] h) : J mX9_giveNext d 0 0 Q 0 0 16 [u0, u1, u2, some (.inl v3)] [] h := by
  refine zrun 12 2 qX9_giveNext (o := 9) rfl ?_
  show ((v3 < 0 → J mX9_giveNext d 0 0 Q 0 0 62 [u0, u1, u2, some (.inl v3)] [] h) ∧ (¬ v3 < 0 → J mX9_giveNext d 0 0 Q 0 0 20 [u0, u1, u2, some (.inl v3)] [] h))
  exact ⟨k1, k2⟩

theorem bX9_giveNext_20 {d : Nat} {Q : Option MV → MH → Prop} {h : MH} {u2 : Option MV} {v1 v3 : Int32} (hr : zRf h) (g0 : vp_in v1 5) (g1 : zokA h (66 + v1.toNatClampNeg) 20 v3) (k1 : (h.1 (66 + v1.toNatClampNeg) v3.toNatClampNeg) ≤ 0 → J mX9_giveNext d 0 0 Q 0 0 47 [some (.inr (.inr 62)), some (.inl v1), u2, some (.inl v3)] [] h) (k2 : ¬ (h.1 (66 + v1.toNatClampNeg) v3.toNatClampNeg) ≤ 0 → J mX9_giveNext d 0 0 Q 0 0 31 [some (.inr (.inr 62)), some (.inl v1), u2, some (.inl v3)] [] h) : J mX9_giveNext d 0 0 Q 0 0 20 [some (.inr (.inr 62)), some (.inl v1), u2, some (.inl v3)] [] h := by
  refine zrun 14 7 qX9_giveNext (o := 9) rfl ?_
  show zokO h 62 9 ∧ zokR h (h.2.2.1 62 14) v1 ∧ zokA h (h.2.2.1 (h.2.2.1 62 14) v1.toNatClampNeg) 20 v3 ∧ (((h.1 (h.2.2.1 (h.2.2.1 62 14) v1.toNatClampNeg) v3.toNatClampNeg) ≤ 0 → J mX9_giveNext d 0 0 Q 0 0 47 [some (.inr (.inr 62)), some (.inl v1), u2, some (.inl v3)] [] h) ∧ (¬ (h.1 (h.2.2.1 (h.2.2.1 62 14) v1.toNatClampNeg) v3.toNatClampNeg) ≤ 0 → J mX9_giveNext d 0 0 Q 0 0 31 [some (.inr (.inr 62)), some (.inl v1), u2, some (.inl v3)] [] h))
  rw [(show h.2.2.1 62 14 = 65 from (hr.at (by decide) (by decide) (by rfl))), (show h.2.2.1 65 v1.toNatClampNeg = (66 + v1.toNatClampNeg) from (hr.a33 (by decide) (by rfl) (vp_lt g0)))]
  exact ⟨(zo hr (by decide) rfl), (zir_ hr (by decide) (by rfl) (by decide) g0), g1, k1, k2⟩

theorem bX9_giveNext_31 {d : Nat} {Q : Option MV → MH → Prop} {h : MH} {u0 u1 : Option MV} {v3 : Int32} {v2 : Nat} (g0 : zokA h v2 20 v3) (k1 : (nI 2) ≤ (h.1 v2 v3.toNatClampNeg) → J mX9_giveNext d 0 0 Q 0 0 47 [u0, u1, some (.inr (.inr v2)), some (.inl v3)] [] h) (k2 : ¬ (nI 2) ≤ (h.1 v2 v3.toNatClampNeg) → J mX9_giveNext d 0 0 Q 0 0 38 [u0, u1, some (.inr (.inr v2)), some (.inl v3)] [] h) : J mX9_giveNext d 0 0 Q 0 0 31 [u0, u1, some (.inr (.inr v2)), some (.inl v3)] [] h := by
  refine zrun 21 5 qX9_giveNext (o := 9) rfl ?_
  show zokA h v2 20 v3 ∧ (((nI 2) ≤ (h.1 v2 v3.toNatClampNeg) → J mX9_giveNext d 0 0 Q 0 0 47 [u0, u1, some (.inr (.inr v2)), some (.inl v3)] [] h) ∧ (¬ (nI 2) ≤ (h.1 v2 v3.toNatClampNeg) → J mX9_giveNext d 0 0 Q 0 0 38 [u0, u1, some (.inr (.inr v2)), some (.inl v3)] [] h))
  exact ⟨g0, k1, k2⟩

theorem bX9_giveNext_38 {d : Nat} {Q : Option MV → MH → Prop} {h : MH} {u0 u1 : Option MV} {v3 : Int32} {v2 : Nat} (g0 : zokA h v2 20 v3) (k : Q (some (.inl (nI 1))) (zsI h v2 v3.toNatClampNeg ((h.1 v2 v3.toNatClampNeg) + (nI 1)))) : J mX9_giveNext d 0 0 Q 0 0 38 [u0, u1, some (.inr (.inr v2)), some (.inl v3)] [] h := by
  refine zrun 26 8 qX9_giveNext (o := 9) rfl ?_
  show zokA h v2 20 v3 ∧ zokA h v2 20 v3 ∧ J mX9_giveNext d 0 0 Q 0 0 46 [u0, u1, some (.inr (.inr v2)), some (.inl v3)] [.inl (nI 1)] (zsI h v2 v3.toNatClampNeg ((h.1 v2 v3.toNatClampNeg) + (nI 1)))
  exact ⟨g0, g0, J_iret (ty := .boolean) (zat qX9_giveNext 34 (by rfl)) rfl (by decide) (Nat.le_refl 0) (Nat.le_refl 0) k⟩

theorem bX9_giveNext_47 {d d' : Nat} {Q : Option MV → MH → Prop} {h : MH} {v3 v1 : Int32} {v2 : Nat} (hr : zRf h) (hd : d' + 1 ≤ d) (k : Con mX9_fewestFor d' 0 0 [.inr (.inr 62), .inl v1, .inl v3] h (zri fun (x : Int32) h' => J mX9_giveNext d 0 0 Q 0 0 55 [some (.inr (.inr 62)), some (.inl v1), some (.inr (.inr v2)), some (.inl v3)] [.inl x, .inl v3, .inr (.inr v2)] h')) : J mX9_giveNext d 0 0 Q 0 0 47 [some (.inr (.inr 62)), some (.inl v1), some (.inr (.inr v2)), some (.inl v3)] [] h := by
  refine zrun 35 5 qX9_giveNext (o := 9) rfl ?_
  show J mX9_giveNext d 0 0 Q 0 0 52 [some (.inr (.inr 62)), some (.inl v1), some (.inr (.inr v2)), some (.inl v3)] [.inl v3, .inl v1, .inr (.inr 62), .inl v3, .inr (.inr v2)] h
  exact zcVi (as := [.inl v1, .inl v3]) (zat qX9_giveNext 40 (by rfl)) l9_98 rfl hd rfl (Nat.le_of_ble_eq_true rfl) zle0 (ci := 9) (by decide) rfl (zo hr (by decide) rfl) k

theorem bX9_giveNext_55 {d : Nat} {Q : Option MV → MH → Prop} {h : MH} {u0 u1 : Option MV} {vs1 vs2 v3 : Int32} {vs0 v2 : Nat} (g0 : zokA h vs0 20 vs1) (k : J mX9_giveNext d 0 0 Q 0 0 16 [u0, u1, some (.inr (.inr v2)), some (.inl (v3 + -(nI 1)))] [] (zsI h vs0 vs1.toNatClampNeg vs2)) : J mX9_giveNext d 0 0 Q 0 0 55 [u0, u1, some (.inr (.inr v2)), some (.inl v3)] [.inl vs2, .inl vs1, .inr (.inr vs0)] h := by
  refine zrun 41 3 qX9_giveNext (o := 9) rfl ?_
  show zokA h vs0 20 vs1 ∧ J mX9_giveNext d 0 0 Q 0 0 16 [u0, u1, some (.inr (.inr v2)), some (.inl (v3 + -(nI 1)))] [] (zsI h vs0 vs1.toNatClampNeg vs2)
  exact ⟨g0, k⟩

theorem bX9_giveNext_62 {d : Nat} {Q : Option MV → MH → Prop} {h : MH} {u0 u1 u2 u3 : Option MV} (k : Q (some (.inl (nI 0))) h) : J mX9_giveNext d 0 0 Q 0 0 62 [u0, u1, u2, u3] [] h := by
  refine zrun 44 1 qX9_giveNext (o := 9) rfl ?_
  show J mX9_giveNext d 0 0 Q 0 0 63 [u0, u1, u2, u3] [.inl (nI 0)] h
  exact J_iret (ty := .boolean) (zat qX9_giveNext 45 (by rfl)) rfl (by decide) (Nat.le_refl 0) (Nat.le_refl 0) k

theorem bX9_follow_0 {d : Nat} {Q : Option MV → MH → Prop} {h : MH} {u2 u4 u5 u6 u7 u8 u9 : Option MV} {v1 v3 : Int32} (hr : zRf h) (g0 : vp_in v1 5) (g1 : vp_in (v1 + (nI 1)) 5) (k : J mX9_follow d 0 0 Q 0 0 27 [some (.inr (.inr 62)), some (.inl v1), u2, some (.inl v3), some (.inr (.inr (66 + v1.toNatClampNeg))), some (.inr (.inr (72 + (v1 + (nI 1)).toNatClampNeg))), some (.inl (nI 0)), some (.inl (nI 0)), some (.inl (nI 0)), u9] [] h) : J mX9_follow d 0 0 Q 0 0 0 [some (.inr (.inr 62)), some (.inl v1), u2, some (.inl v3), u4, u5, u6, u7, u8, u9] [] h := by
  refine zrun 0 18 qX9_follow (o := 9) rfl ?_
  show zokO h 62 9 ∧ zokR h (h.2.2.1 62 14) v1 ∧ zokO h 62 9 ∧ zokR h (h.2.2.1 62 15) (v1 + (nI 1)) ∧ J mX9_follow d 0 0 Q 0 0 27 [some (.inr (.inr 62)), some (.inl v1), u2, some (.inl v3), some (.inr (.inr (h.2.2.1 (h.2.2.1 62 14) v1.toNatClampNeg))), some (.inr (.inr (h.2.2.1 (h.2.2.1 62 15) (v1 + (nI 1)).toNatClampNeg))), some (.inl (nI 0)), some (.inl (nI 0)), some (.inl (nI 0)), u9] [] h
  rw [(show h.2.2.1 62 14 = 65 from (hr.at (by decide) (by decide) (by rfl))), (show h.2.2.1 65 v1.toNatClampNeg = (66 + v1.toNatClampNeg) from (hr.a33 (by decide) (by rfl) (vp_lt g0))), (show h.2.2.1 62 15 = 71 from (hr.at (by decide) (by decide) (by rfl))), (show h.2.2.1 71 (v1 + (nI 1)).toNatClampNeg = (72 + (v1 + (nI 1)).toNatClampNeg) from (hr.a33 (by decide) (by rfl) (vp_lt g1)))]
  exact ⟨(zo hr (by decide) rfl), (zir_ hr (by decide) (by rfl) (by decide) g0), (zo hr (by decide) rfl), (zir_ hr (by decide) (by rfl) (by decide) g1), k⟩

theorem bX9_follow_27 {d : Nat} {Q : Option MV → MH → Prop} {h : MH} {u1 u2 u3 u4 u5 u6 u7 u9 : Option MV} {v8 : Int32} (hr : zRf h) (k1 : (h.1 62 0) ≤ v8 → J mX9_follow d 0 0 Q 0 0 105 [some (.inr (.inr 62)), u1, u2, u3, u4, u5, u6, u7, some (.inl v8), u9] [] h) (k2 : ¬ (h.1 62 0) ≤ v8 → J mX9_follow d 0 0 Q 0 0 36 [some (.inr (.inr 62)), u1, u2, u3, u4, u5, u6, u7, some (.inl v8), u9] [] h) : J mX9_follow d 0 0 Q 0 0 27 [some (.inr (.inr 62)), u1, u2, u3, u4, u5, u6, u7, some (.inl v8), u9] [] h := by
  refine zrun 18 4 qX9_follow (o := 9) rfl ?_
  show zokO h 62 9 ∧ (((h.1 62 0) ≤ v8 → J mX9_follow d 0 0 Q 0 0 105 [some (.inr (.inr 62)), u1, u2, u3, u4, u5, u6, u7, some (.inl v8), u9] [] h) ∧ (¬ (h.1 62 0) ≤ v8 → J mX9_follow d 0 0 Q 0 0 36 [some (.inr (.inr 62)), u1, u2, u3, u4, u5, u6, u7, some (.inl v8), u9] [] h))
  exact ⟨(zo hr (by decide) rfl), k1, k2⟩

theorem bX9_follow_36 {d : Nat} {Q : Option MV → MH → Prop} {h : MH} {u0 u1 u2 u3 u4 u6 u7 u9 : Option MV} {v8 : Int32} {v5 : Nat} (g0 : zokA h v5 20 v8) (k1 : (h.1 v5 v8.toNatClampNeg) ≤ 0 → J mX9_follow d 0 0 Q 0 0 99 [u0, u1, u2, u3, u4, some (.inr (.inr v5)), u6, u7, some (.inl v8), u9] [] h) (k2 : ¬ (h.1 v5 v8.toNatClampNeg) ≤ 0 → J mX9_follow d 0 0 Q 0 0 44 [u0, u1, u2, u3, u4, some (.inr (.inr v5)), u6, u7, some (.inl v8), u9] [] h) : J mX9_follow d 0 0 Q 0 0 36 [u0, u1, u2, u3, u4, some (.inr (.inr v5)), u6, u7, some (.inl v8), u9] [] h := by
  refine zrun 22 4 qX9_follow (o := 9) rfl ?_
  show zokA h v5 20 v8 ∧ (((h.1 v5 v8.toNatClampNeg) ≤ 0 → J mX9_follow d 0 0 Q 0 0 99 [u0, u1, u2, u3, u4, some (.inr (.inr v5)), u6, u7, some (.inl v8), u9] [] h) ∧ (¬ (h.1 v5 v8.toNatClampNeg) ≤ 0 → J mX9_follow d 0 0 Q 0 0 44 [u0, u1, u2, u3, u4, some (.inr (.inr v5)), u6, u7, some (.inl v8), u9] [] h))
  exact ⟨g0, k1, k2⟩

theorem bX9_follow_44 {d : Nat} {Q : Option MV → MH → Prop} {h : MH} {u0 u1 u2 u3 u4 u6 u7 u9 : Option MV} {v8 : Int32} {v5 : Nat} (g0 : zokA h v5 20 v8) (k1 : ¬ (h.1 v5 v8.toNatClampNeg) = (nI 2) → J mX9_follow d 0 0 Q 0 0 63 [u0, u1, u2, u3, u4, some (.inr (.inr v5)), u6, u7, some (.inl v8), u9] [] h) (k2 : (h.1 v5 v8.toNatClampNeg) = (nI 2) → J mX9_follow d 0 0 Q 0 0 53 [u0, u1, u2, u3, u4, some (.inr (.inr v5)), u6, u7, some (.inl v8), u9] [] h) : J mX9_follow d 0 0 Q 0 0 44 [u0, u1, u2, u3, u4, some (.inr (.inr v5)), u6, u7, some (.inl v8), u9] [] h := by
  refine zrun 26 5 qX9_follow (o := 9) rfl ?_
  show zokA h v5 20 v8 ∧ ((¬ (h.1 v5 v8.toNatClampNeg) = (nI 2) → J mX9_follow d 0 0 Q 0 0 63 [u0, u1, u2, u3, u4, some (.inr (.inr v5)), u6, u7, some (.inl v8), u9] [] h) ∧ ((h.1 v5 v8.toNatClampNeg) = (nI 2) → J mX9_follow d 0 0 Q 0 0 53 [u0, u1, u2, u3, u4, some (.inr (.inr v5)), u6, u7, some (.inl v8), u9] [] h))
  exact ⟨g0, k1, k2⟩

theorem bX9_follow_53 {d : Nat} {Q : Option MV → MH → Prop} {h : MH} {u0 u1 u2 u3 u5 u6 u7 u9 : Option MV} {v8 : Int32} {v4 : Nat} (g0 : zokA h v4 20 v8) (k : J mX9_follow d 0 0 Q 0 0 68 [u0, u1, u2, u3, some (.inr (.inr v4)), u5, u6, u7, some (.inl v8), u9] [.inl ((h.1 v4 v8.toNatClampNeg) >>> ((nI 1) &&& 31))] h) : J mX9_follow d 0 0 Q 0 0 53 [u0, u1, u2, u3, some (.inr (.inr v4)), u5, u6, u7, some (.inl v8), u9] [] h := by
  refine zrun 31 6 qX9_follow (o := 9) rfl ?_
  show zokA h v4 20 v8 ∧ J mX9_follow d 0 0 Q 0 0 68 [u0, u1, u2, u3, some (.inr (.inr v4)), u5, u6, u7, some (.inl v8), u9] [.inl ((h.1 v4 v8.toNatClampNeg) >>> ((nI 1) &&& 31))] h
  exact ⟨g0, k⟩

theorem bX9_follow_63 {d : Nat} {Q : Option MV → MH → Prop} {h : MH} {u0 u1 u2 u3 u5 u6 u7 u9 : Option MV} {v8 : Int32} {v4 : Nat} (g0 : zokA h v4 20 v8) (k : J mX9_follow d 0 0 Q 0 0 68 [u0, u1, u2, u3, some (.inr (.inr v4)), u5, u6, u7, some (.inl v8), u9] [.inl (h.1 v4 v8.toNatClampNeg)] h) : J mX9_follow d 0 0 Q 0 0 63 [u0, u1, u2, u3, some (.inr (.inr v4)), u5, u6, u7, some (.inl v8), u9] [] h := by
  refine zrun 37 3 qX9_follow (o := 9) rfl ?_
  show zokA h v4 20 v8 ∧ J mX9_follow d 0 0 Q 0 0 68 [u0, u1, u2, u3, some (.inr (.inr v4)), u5, u6, u7, some (.inl v8), u9] [.inl (h.1 v4 v8.toNatClampNeg)] h
  exact ⟨g0, k⟩

theorem bX9_follow_68 {d : Nat} {Q : Option MV → MH → Prop} {h : MH} {u0 u1 u2 u3 u4 u5 u6 u9 : Option MV} {vs0 v8 v7 : Int32} (k1 : ¬ v7 = 0 → J mX9_follow d 0 0 Q 0 0 80 [u0, u1, u2, u3, u4, u5, u6, some (.inl v7), some (.inl v8), some (.inl vs0)] [] h) (k2 : v7 = 0 → J mX9_follow d 0 0 Q 0 0 75 [u0, u1, u2, u3, u4, u5, u6, some (.inl v7), some (.inl v8), some (.inl vs0)] [] h) : J mX9_follow d 0 0 Q 0 0 68 [u0, u1, u2, u3, u4, u5, u6, some (.inl v7), some (.inl v8), u9] [.inl vs0] h := by
  refine zrun 40 3 qX9_follow (o := 9) rfl ?_
  show ((¬ v7 = 0 → J mX9_follow d 0 0 Q 0 0 80 [u0, u1, u2, u3, u4, u5, u6, some (.inl v7), some (.inl v8), some (.inl vs0)] [] h) ∧ (v7 = 0 → J mX9_follow d 0 0 Q 0 0 75 [u0, u1, u2, u3, u4, u5, u6, some (.inl v7), some (.inl v8), some (.inl vs0)] [] h))
  exact ⟨k1, k2⟩

theorem bX9_follow_75 {d : Nat} {Q : Option MV → MH → Prop} {h : MH} {u0 u1 u2 u3 u4 u5 u6 u7 u8 : Option MV} {v9 : Int32} (k : J mX9_follow d 0 0 Q 0 0 87 [u0, u1, u2, u3, u4, u5, u6, u7, u8, some (.inl v9)] [.inl v9] h) : J mX9_follow d 0 0 Q 0 0 75 [u0, u1, u2, u3, u4, u5, u6, u7, u8, some (.inl v9)] [] h := by
  refine zrun 43 2 qX9_follow (o := 9) rfl ?_
  show J mX9_follow d 0 0 Q 0 0 87 [u0, u1, u2, u3, u4, u5, u6, u7, u8, some (.inl v9)] [.inl v9] h
  exact k

theorem bX9_follow_80 {d : Nat} {Q : Option MV → MH → Prop} {h : MH} {u0 u1 u2 u3 u4 u5 u7 u8 : Option MV} {v6 v9 : Int32} (hd : 1 ≤ d) (k : J mX9_follow d 0 0 Q 0 0 87 [u0, u1, u2, u3, u4, u5, some (.inl v6), u7, u8, some (.inl v9)] [.inl (if v9 < v6 then v9 else v6)] h) : J mX9_follow d 0 0 Q 0 0 80 [u0, u1, u2, u3, u4, u5, some (.inl v6), u7, u8, some (.inl v9)] [] h := by
  refine zrun 45 2 qX9_follow (o := 9) rfl ?_
  show J mX9_follow d 0 0 Q 0 0 84 [u0, u1, u2, u3, u4, u5, some (.inl v6), u7, u8, some (.inl v9)] [.inl v9, .inl v6] h
  exact zmin (zat qX9_follow 47 (by rfl)) mm9_107 rfl hd (Nat.le_of_ble_eq_true rfl) zle0 k

theorem bX9_follow_87 {d : Nat} {Q : Option MV → MH → Prop} {h : MH} {u0 u1 u2 u3 u4 u6 u9 : Option MV} {vs0 v7 v8 : Int32} {v5 : Nat} (g0 : zokA h v5 20 v8) (k : J mX9_follow d 0 0 Q 0 0 99 [u0, u1, u2, u3, u4, some (.inr (.inr v5)), some (.inl vs0), some (.inl (v7 + (h.1 v5 v8.toNatClampNeg))), some (.inl v8), u9] [] h) : J mX9_follow d 0 0 Q 0 0 87 [u0, u1, u2, u3, u4, some (.inr (.inr v5)), u6, some (.inl v7), some (.inl v8), u9] [.inl vs0] h := by
  refine zrun 48 7 qX9_follow (o := 9) rfl ?_
  show zokA h v5 20 v8 ∧ J mX9_follow d 0 0 Q 0 0 99 [u0, u1, u2, u3, u4, some (.inr (.inr v5)), some (.inl vs0), some (.inl (v7 + (h.1 v5 v8.toNatClampNeg))), some (.inl v8), u9] [] h
  exact ⟨g0, k⟩

theorem bX9_follow_99 {d : Nat} {Q : Option MV → MH → Prop} {h : MH} {u0 u1 u2 u3 u4 u5 u6 u9 : Option MV} {v8 v7 : Int32} (k : J mX9_follow d 0 0 Q 0 0 27 [u0, u1, u2, u3, u4, u5, u6, some (.inl v7), some (.inl (v8 + nI 1)), u9] [] h) : J mX9_follow d 0 0 Q 0 0 99 [u0, u1, u2, u3, u4, u5, u6, some (.inl v7), some (.inl v8), u9] [] h := by
  refine zrun 55 2 qX9_follow (o := 9) rfl ?_
  show J mX9_follow d 0 0 Q 0 0 27 [u0, u1, u2, u3, u4, u5, u6, some (.inl v7), some (.inl (v8 + nI 1)), u9] [] h
  exact k

theorem bX9_follow_105 {d : Nat} {Q : Option MV → MH → Prop} {h : MH} {u0 u1 u2 u3 u4 u5 u6 u8 u9 : Option MV} {v7 : Int32} (k1 : ¬ v7 = 0 → J mX9_follow d 0 0 Q 0 0 111 [u0, u1, u2, u3, u4, u5, u6, some (.inl v7), u8, u9] [] h) (k2 : v7 = 0 → J mX9_follow d 0 0 Q 0 0 110 [u0, u1, u2, u3, u4, u5, u6, some (.inl v7), u8, u9] [] h) : J mX9_follow d 0 0 Q 0 0 105 [u0, u1, u2, u3, u4, u5, u6, some (.inl v7), u8, u9] [] h := by
  refine zrun 57 2 qX9_follow (o := 9) rfl ?_
  show ((¬ v7 = 0 → J mX9_follow d 0 0 Q 0 0 111 [u0, u1, u2, u3, u4, u5, u6, some (.inl v7), u8, u9] [] h) ∧ (v7 = 0 → J mX9_follow d 0 0 Q 0 0 110 [u0, u1, u2, u3, u4, u5, u6, some (.inl v7), u8, u9] [] h))
  exact ⟨k1, k2⟩

theorem bX9_follow_110 {d : Nat} {Q : Option MV → MH → Prop} {h : MH} {u0 u1 u2 u3 u4 u5 u6 u7 u8 u9 : Option MV} (k : Q none h) : J mX9_follow d 0 0 Q 0 0 110 [u0, u1, u2, u3, u4, u5, u6, u7, u8, u9] [] h := by
  exact J_vret (zat qX9_follow 59 (by rfl)) rfl (Nat.le_refl 0) (Nat.le_refl 0) k

theorem bX9_follow_111 {d : Nat} {Q : Option MV → MH → Prop} {h : MH} {u2 u3 u4 u5 u6 u8 u9 : Option MV} {v1 v7 : Int32} (hr : zRf h) (g0 : vp_in (v1 + (nI 1)) 5) (k : J mX9_follow d 0 0 Q 0 0 124 [some (.inr (.inr 62)), some (.inl v1), u2, u3, u4, u5, u6, some (.inl v7), some (.inr (.inr (66 + (v1 + (nI 1)).toNatClampNeg))), some (.inl (nI 0))] [] h) : J mX9_follow d 0 0 Q 0 0 111 [some (.inr (.inr 62)), some (.inl v1), u2, u3, u4, u5, u6, some (.inl v7), u8, u9] [] h := by
  refine zrun 60 9 qX9_follow (o := 9) rfl ?_
  show zokO h 62 9 ∧ zokR h (h.2.2.1 62 14) (v1 + (nI 1)) ∧ J mX9_follow d 0 0 Q 0 0 124 [some (.inr (.inr 62)), some (.inl v1), u2, u3, u4, u5, u6, some (.inl v7), some (.inr (.inr (h.2.2.1 (h.2.2.1 62 14) (v1 + (nI 1)).toNatClampNeg))), some (.inl (nI 0))] [] h
  rw [(show h.2.2.1 62 14 = 65 from (hr.at (by decide) (by decide) (by rfl))), (show h.2.2.1 65 (v1 + (nI 1)).toNatClampNeg = (66 + (v1 + (nI 1)).toNatClampNeg) from (hr.a33 (by decide) (by rfl) (vp_lt g0)))]
  exact ⟨(zo hr (by decide) rfl), (zir_ hr (by decide) (by rfl) (by decide) g0), k⟩

theorem bX9_follow_124 {d : Nat} {Q : Option MV → MH → Prop} {h : MH} {u1 u2 u3 u4 u5 u6 u7 u8 : Option MV} {v9 : Int32} (hr : zRf h) (k1 : (h.1 62 0) ≤ v9 → J mX9_follow d 0 0 Q 0 0 158 [some (.inr (.inr 62)), u1, u2, u3, u4, u5, u6, u7, u8, some (.inl v9)] [] h) (k2 : ¬ (h.1 62 0) ≤ v9 → J mX9_follow d 0 0 Q 0 0 133 [some (.inr (.inr 62)), u1, u2, u3, u4, u5, u6, u7, u8, some (.inl v9)] [] h) : J mX9_follow d 0 0 Q 0 0 124 [some (.inr (.inr 62)), u1, u2, u3, u4, u5, u6, u7, u8, some (.inl v9)] [] h := by
  refine zrun 69 4 qX9_follow (o := 9) rfl ?_
  show zokO h 62 9 ∧ (((h.1 62 0) ≤ v9 → J mX9_follow d 0 0 Q 0 0 158 [some (.inr (.inr 62)), u1, u2, u3, u4, u5, u6, u7, u8, some (.inl v9)] [] h) ∧ (¬ (h.1 62 0) ≤ v9 → J mX9_follow d 0 0 Q 0 0 133 [some (.inr (.inr 62)), u1, u2, u3, u4, u5, u6, u7, u8, some (.inl v9)] [] h))
  exact ⟨(zo hr (by decide) rfl), k1, k2⟩

theorem bX9_follow_133 {d : Nat} {Q : Option MV → MH → Prop} {h : MH} {u0 u1 u2 u3 u7 : Option MV} {v9 v6 : Int32} {v8 v4 v5 : Nat} (g0 : zokA h v4 20 v9) (g1 : zokA h v5 20 v9) (g2 : zokA h v8 20 v9) (k : J mX9_follow d 0 0 Q 0 0 124 [u0, u1, u2, u3, some (.inr (.inr v4)), some (.inr (.inr v5)), some (.inl v6), u7, some (.inr (.inr v8)), some (.inl (v9 + nI 1))] [] (zsI h v8 v9.toNatClampNeg ((h.1 v4 v9.toNatClampNeg) - ((h.1 v5 v9.toNatClampNeg) * v6)))) : J mX9_follow d 0 0 Q 0 0 133 [u0, u1, u2, u3, some (.inr (.inr v4)), some (.inr (.inr v5)), some (.inl v6), u7, some (.inr (.inr v8)), some (.inl v9)] [] h := by
  refine zrun 73 14 qX9_follow (o := 9) rfl ?_
  show zokA h v4 20 v9 ∧ zokA h v5 20 v9 ∧ zokA h v8 20 v9 ∧ J mX9_follow d 0 0 Q 0 0 124 [u0, u1, u2, u3, some (.inr (.inr v4)), some (.inr (.inr v5)), some (.inl v6), u7, some (.inr (.inr v8)), some (.inl (v9 + nI 1))] [] (zsI h v8 v9.toNatClampNeg ((h.1 v4 v9.toNatClampNeg) - ((h.1 v5 v9.toNatClampNeg) * v6)))
  exact ⟨g0, g1, g2, k⟩

theorem bX9_follow_158 {d d' : Nat} {Q : Option MV → MH → Prop} {h : MH} {u4 u5 u8 u9 : Option MV} {v1 v6 v2 v7 v3 : Int32} (hr : zRf h) (g0 : vp_in v1 5) (g1 : vp_in (v1 + (nI 1)) 5) (hd : d' + 1 ≤ d) (k : Con mX9_arrive d' 0 0 [.inr (.inr 62), .inl (v1 + (nI 1)), .inl (v2 - (v7 * v6)), .inl v3] (zsI h 64 (v1 + (nI 1)).toNatClampNeg ((h.1 64 v1.toNatClampNeg) + v6)) (zrv fun h' => J mX9_follow d 0 0 Q 0 0 190 [some (.inr (.inr 62)), some (.inl v1), some (.inl v2), some (.inl v3), u4, u5, some (.inl v6), some (.inl v7), u8, u9] [] h')) : J mX9_follow d 0 0 Q 0 0 158 [some (.inr (.inr 62)), some (.inl v1), some (.inl v2), some (.inl v3), u4, u5, some (.inl v6), some (.inl v7), u8, u9] [] h := by
  refine zrun 87 22 qX9_follow (o := 9) rfl ?_
  show zokO h 62 9 ∧ zokO h 62 9 ∧ zokA h (h.2.2.1 62 13) 20 v1 ∧ zokA h (h.2.2.1 62 13) 20 (v1 + (nI 1)) ∧ J mX9_follow d 0 0 Q 0 0 187 [some (.inr (.inr 62)), some (.inl v1), some (.inl v2), some (.inl v3), u4, u5, some (.inl v6), some (.inl v7), u8, u9] [.inl v3, .inl (v2 - (v7 * v6)), .inl (v1 + (nI 1)), .inr (.inr 62)] (zsI h (h.2.2.1 62 13) (v1 + (nI 1)).toNatClampNeg ((h.1 (h.2.2.1 62 13) v1.toNatClampNeg) + v6))
  rw [(show h.2.2.1 62 13 = 64 from (hr.at (by decide) (by decide) (by rfl)))]
  exact ⟨(zo hr (by decide) rfl), (zo hr (by decide) rfl), (zia hr (by decide) (by rfl) g0), (zia hr (by decide) (by rfl) g1), zcVv (as := [.inl (v1 + (nI 1)), .inl (v2 - (v7 * v6)), .inl v3]) (zat qX9_follow 109 (by rfl)) l9_112 rfl hd rfl (Nat.le_of_ble_eq_true rfl) zle0 (ci := 9) (by decide) rfl (show zokO _ _ _ from (zo hr (by decide) rfl)) k⟩

theorem bX9_follow_190 {d : Nat} {Q : Option MV → MH → Prop} {h : MH} {u0 u1 u2 u3 u4 u5 u6 u7 u8 u9 : Option MV} (k : Q none h) : J mX9_follow d 0 0 Q 0 0 190 [u0, u1, u2, u3, u4, u5, u6, u7, u8, u9] [] h := by
  exact J_vret (zat qX9_follow 110 (by rfl)) rfl (Nat.le_refl 0) (Nat.le_refl 0) k

theorem bX9_arrive_0 {d : Nat} {Q : Option MV → MH → Prop} {h : MH} {u1 u2 u3 : Option MV} (hr : zRf h) (k : J mX9_arrive d 0 0 Q 0 0 4 [some (.inr (.inr 62)), u1, u2, u3] [.inl (h.1 62 4)] h) : J mX9_arrive d 0 0 Q 0 0 0 [some (.inr (.inr 62)), u1, u2, u3] [] h := by
  refine zrun 0 2 qX9_arrive (o := 9) rfl ?_
  show zokO h 62 9 ∧ J mX9_arrive d 0 0 Q 0 0 4 [some (.inr (.inr 62)), u1, u2, u3] [.inl (h.1 62 4)] h
  exact ⟨(zo hr (by decide) rfl), k⟩

theorem bX9_arrive_40 {d d' : Nat} {Q : Option MV → MH → Prop} {h : MH} {u2 u3 : Option MV} {v1 : Int32} (hr : zRf h) (g0 : vp_in v1 5) (gr : zokO h (h.2.2.1 62 11) 3) (hd : d' + 1 ≤ d) (k : Con mX3_add d' 0 0 [.inr (.inr (h.2.2.1 62 11)), .inl (h.1 64 v1.toNatClampNeg)] h (zrv fun h' => J mX9_arrive d 0 0 Q 0 0 53 [some (.inr (.inr 62)), some (.inl v1), u2, u3] [] h')) : J mX9_arrive d 0 0 Q 0 0 40 [some (.inr (.inr 62)), some (.inl v1), u2, u3] [] h := by
  refine zrun 2 6 qX9_arrive (o := 9) rfl ?_
  show zokO h 62 9 ∧ zokO h 62 9 ∧ zokA h (h.2.2.1 62 13) 20 v1 ∧ J mX9_arrive d 0 0 Q 0 0 50 [some (.inr (.inr 62)), some (.inl v1), u2, u3] [.inl (h.1 (h.2.2.1 62 13) v1.toNatClampNeg), .inr (.inr (h.2.2.1 62 11))] h
  rw [(show h.2.2.1 62 13 = 64 from (hr.at (by decide) (by decide) (by rfl)))]
  exact ⟨(zo hr (by decide) rfl), (zo hr (by decide) rfl), (zia hr (by decide) (by rfl) g0), zcVv (as := [.inl (h.1 64 v1.toNatClampNeg)]) (zat qX9_arrive 8 (by rfl)) l9_115 rfl hd rfl (Nat.le_of_ble_eq_true rfl) zle0 (ci := 3) (by decide) rfl gr k⟩

theorem bX9_arrive_53 {d d' : Nat} {Q : Option MV → MH → Prop} {h : MH} {v1 v2 v3 : Int32} (hr : zRf h) (hd : d' + 1 ≤ d) (k : Con mX9_go d' 0 0 [.inr (.inr 62), .inl v1, .inl v2, .inl v3] h (zrv fun h' => J mX9_arrive d 0 0 Q 0 0 60 [some (.inr (.inr 62)), some (.inl v1), some (.inl v2), some (.inl v3)] [] h')) : J mX9_arrive d 0 0 Q 0 0 53 [some (.inr (.inr 62)), some (.inl v1), some (.inl v2), some (.inl v3)] [] h := by
  refine zrun 9 4 qX9_arrive (o := 9) rfl ?_
  show J mX9_arrive d 0 0 Q 0 0 57 [some (.inr (.inr 62)), some (.inl v1), some (.inl v2), some (.inl v3)] [.inl v3, .inl v2, .inl v1, .inr (.inr 62)] h
  exact zcVv (as := [.inl v1, .inl v2, .inl v3]) (zat qX9_arrive 13 (by rfl)) l9_63 rfl hd rfl (Nat.le_of_ble_eq_true rfl) zle0 (ci := 9) (by decide) rfl (zo hr (by decide) rfl) k

theorem bX9_arrive_60 {d : Nat} {Q : Option MV → MH → Prop} {h : MH} {u0 u1 u2 u3 : Option MV} (k : J mX9_arrive d 0 0 Q 0 0 134 [u0, u1, u2, u3] [] h) : J mX9_arrive d 0 0 Q 0 0 60 [u0, u1, u2, u3] [] h := by
  refine zrun 14 1 qX9_arrive (o := 9) rfl ?_
  show J mX9_arrive d 0 0 Q 0 0 134 [u0, u1, u2, u3] [] h
  exact k

theorem bX9_arrive_63 {d d' : Nat} {Q : Option MV → MH → Prop} {h : MH} {u2 u3 : Option MV} {v1 : Int32} (hr : zRf h) (hd : d' + 1 ≤ d) (k : Con mX9_liesBetween d' 0 0 [.inr (.inr 62), .inl v1] h (zri fun (x : Int32) h' => J mX9_arrive d 0 0 Q 0 0 68 [some (.inr (.inr 62)), some (.inl v1), u2, u3] [.inl x] h')) : J mX9_arrive d 0 0 Q 0 0 63 [some (.inr (.inr 62)), some (.inl v1), u2, u3] [] h := by
  refine zrun 15 2 qX9_arrive (o := 9) rfl ?_
  show J mX9_arrive d 0 0 Q 0 0 65 [some (.inr (.inr 62)), some (.inl v1), u2, u3] [.inl v1, .inr (.inr 62)] h
  exact zcVi (as := [.inl v1]) (zat qX9_arrive 17 (by rfl)) l9_121 rfl hd rfl (Nat.le_of_ble_eq_true rfl) zle0 (ci := 9) (by decide) rfl (zo hr (by decide) rfl) k

theorem bX9_arrive_68 {d : Nat} {Q : Option MV → MH → Prop} {h : MH} {u0 u1 u2 u3 : Option MV} {vs0 : Int32} (k1 : vs0 = 0 → J mX9_arrive d 0 0 Q 0 0 84 [u0, u1, u2, u3] [] h) (k2 : ¬ vs0 = 0 → J mX9_arrive d 0 0 Q 0 0 71 [u0, u1, u2, u3] [] h) : J mX9_arrive d 0 0 Q 0 0 68 [u0, u1, u2, u3] [.inl vs0] h := by
  refine zrun 18 1 qX9_arrive (o := 9) rfl ?_
  show ((vs0 = 0 → J mX9_arrive d 0 0 Q 0 0 84 [u0, u1, u2, u3] [] h) ∧ (¬ vs0 = 0 → J mX9_arrive d 0 0 Q 0 0 71 [u0, u1, u2, u3] [] h))
  exact ⟨k1, k2⟩

theorem bX9_arrive_71 {d : Nat} {Q : Option MV → MH → Prop} {h : MH} {u1 u2 u3 : Option MV} (hr : zRf h) (k : J mX9_arrive d 0 0 Q 0 0 134 [some (.inr (.inr 62)), u1, u2, u3] [] (zsI (zsI h 62 6 (nI 1)) 62 7 (nI 1))) : J mX9_arrive d 0 0 Q 0 0 71 [some (.inr (.inr 62)), u1, u2, u3] [] h := by
  refine zrun 19 7 qX9_arrive (o := 9) rfl ?_
  show (zokO h 62 9 ∧ ((.inl (nI 1) : MV) = .inl 0 ∨ (.inl (nI 1) : MV) = .inl 1)) ∧ (zokO (zsI h 62 6 (nI 1)) 62 9 ∧ ((.inl (nI 1) : MV) = .inl 0 ∨ (.inl (nI 1) : MV) = .inl 1)) ∧ J mX9_arrive d 0 0 Q 0 0 134 [some (.inr (.inr 62)), u1, u2, u3] [] (zsI (zsI h 62 6 (nI 1)) 62 7 (nI 1))
  exact ⟨⟨zo hr (by decide) rfl, Or.inr rfl⟩, ⟨zo hr (by decide) rfl, Or.inr rfl⟩, k⟩

theorem bX9_arrive_84 {d d' : Nat} {Q : Option MV → MH → Prop} {h : MH} {v1 v2 v3 : Int32} (hr : zRf h) (hd : d' + 1 ≤ d) (k : Con mX9_go d' 0 0 [.inr (.inr 62), .inl v1, .inl v2, .inl v3] h (zrv fun h' => J mX9_arrive d 0 0 Q 0 0 91 [some (.inr (.inr 62)), some (.inl v1), some (.inl v2), some (.inl v3)] [] h')) : J mX9_arrive d 0 0 Q 0 0 84 [some (.inr (.inr 62)), some (.inl v1), some (.inl v2), some (.inl v3)] [] h := by
  refine zrun 26 4 qX9_arrive (o := 9) rfl ?_
  show J mX9_arrive d 0 0 Q 0 0 88 [some (.inr (.inr 62)), some (.inl v1), some (.inl v2), some (.inl v3)] [.inl v3, .inl v2, .inl v1, .inr (.inr 62)] h
  exact zcVv (as := [.inl v1, .inl v2, .inl v3]) (zat qX9_arrive 30 (by rfl)) l9_63 rfl hd rfl (Nat.le_of_ble_eq_true rfl) zle0 (ci := 9) (by decide) rfl (zo hr (by decide) rfl) k

theorem bX9_arrive_91 {d : Nat} {Q : Option MV → MH → Prop} {h : MH} {u0 u1 u2 u3 : Option MV} (k : J mX9_arrive d 0 0 Q 0 0 134 [u0, u1, u2, u3] [] h) : J mX9_arrive d 0 0 Q 0 0 91 [u0, u1, u2, u3] [] h := by
  refine zrun 31 1 qX9_arrive (o := 9) rfl ?_
  show J mX9_arrive d 0 0 Q 0 0 134 [u0, u1, u2, u3] [] h
  exact k

theorem bX9_arrive_94 {d d' : Nat} {Q : Option MV → MH → Prop} {h : MH} {v1 v2 v3 : Int32} (hr : zRf h) (hd : d' + 1 ≤ d) (k : Con mX9_arriveWanting d' 0 0 [.inr (.inr 62), .inl v1, .inl v2, .inl v3] h (zrv fun h' => J mX9_arrive d 0 0 Q 0 0 101 [some (.inr (.inr 62)), some (.inl v1), some (.inl v2), some (.inl v3)] [] h')) : J mX9_arrive d 0 0 Q 0 0 94 [some (.inr (.inr 62)), some (.inl v1), some (.inl v2), some (.inl v3)] [] h := by
  refine zrun 32 4 qX9_arrive (o := 9) rfl ?_
  show J mX9_arrive d 0 0 Q 0 0 98 [some (.inr (.inr 62)), some (.inl v1), some (.inl v2), some (.inl v3)] [.inl v3, .inl v2, .inl v1, .inr (.inr 62)] h
  exact zcVv (as := [.inl v1, .inl v2, .inl v3]) (zat qX9_arrive 36 (by rfl)) l9_124 rfl hd rfl (Nat.le_of_ble_eq_true rfl) zle0 (ci := 9) (by decide) rfl (zo hr (by decide) rfl) k

theorem bX9_arrive_101 {d : Nat} {Q : Option MV → MH → Prop} {h : MH} {u0 u1 u2 u3 : Option MV} (k : J mX9_arrive d 0 0 Q 0 0 134 [u0, u1, u2, u3] [] h) : J mX9_arrive d 0 0 Q 0 0 101 [u0, u1, u2, u3] [] h := by
  refine zrun 37 1 qX9_arrive (o := 9) rfl ?_
  show J mX9_arrive d 0 0 Q 0 0 134 [u0, u1, u2, u3] [] h
  exact k

theorem bX9_arrive_104 {d : Nat} {Q : Option MV → MH → Prop} {h : MH} {u3 : Option MV} {v1 v2 : Int32} (hr : zRf h) (k1 : ¬ (h.1 62 4) = (nI 2) → J mX9_arrive d 0 0 Q 0 0 125 [some (.inr (.inr 62)), some (.inl v1), some (.inl v2), u3] [.inl v2, .inl v1, .inr (.inr 62)] h) (k2 : (h.1 62 4) = (nI 2) → J mX9_arrive d 0 0 Q 0 0 115 [some (.inr (.inr 62)), some (.inl v1), some (.inl v2), u3] [.inl v2, .inl v1, .inr (.inr 62)] h) : J mX9_arrive d 0 0 Q 0 0 104 [some (.inr (.inr 62)), some (.inl v1), some (.inl v2), u3] [] h := by
  refine zrun 38 7 qX9_arrive (o := 9) rfl ?_
  show zokO h 62 9 ∧ ((¬ (h.1 62 4) = (nI 2) → J mX9_arrive d 0 0 Q 0 0 125 [some (.inr (.inr 62)), some (.inl v1), some (.inl v2), u3] [.inl v2, .inl v1, .inr (.inr 62)] h) ∧ ((h.1 62 4) = (nI 2) → J mX9_arrive d 0 0 Q 0 0 115 [some (.inr (.inr 62)), some (.inl v1), some (.inl v2), u3] [.inl v2, .inl v1, .inr (.inr 62)] h))
  exact ⟨(zo hr (by decide) rfl), k1, k2⟩

theorem bX9_arrive_115 {d d' : Nat} {Q : Option MV → MH → Prop} {h : MH} {u2 : Option MV} {vs1 vs2 v3 v1 : Int32} (hr : zRf h) (hd : d' + 1 ≤ d) (k : Con mX9_newFlames d' 0 0 [.inr (.inr 62), .inl v1] h (zri fun (x : Int32) h' => J mX9_arrive d 0 0 Q 0 0 121 [some (.inr (.inr 62)), some (.inl v1), u2, some (.inl v3)] [.inl x, .inl v3, .inl vs2, .inl vs1, .inr (.inr 62)] h')) : J mX9_arrive d 0 0 Q 0 0 115 [some (.inr (.inr 62)), some (.inl v1), u2, some (.inl v3)] [.inl vs2, .inl vs1, .inr (.inr 62)] h := by
  refine zrun 45 3 qX9_arrive (o := 9) rfl ?_
  show J mX9_arrive d 0 0 Q 0 0 118 [some (.inr (.inr 62)), some (.inl v1), u2, some (.inl v3)] [.inl v1, .inr (.inr 62), .inl v3, .inl vs2, .inl vs1, .inr (.inr 62)] h
  exact zcVi (as := [.inl v1]) (zat qX9_arrive 48 (by rfl)) l9_127 rfl hd rfl (Nat.le_of_ble_eq_true rfl) zle0 (ci := 9) (by decide) rfl (zo hr (by decide) rfl) k

theorem bX9_arrive_121 {d : Nat} {Q : Option MV → MH → Prop} {h : MH} {u0 u1 u2 u3 : Option MV} {vs1 vs2 vs3 vs4 : Int32} (k : J mX9_arrive d 0 0 Q 0 0 131 [u0, u1, u2, u3] [.inl (vs3 + vs4), .inl vs2, .inl vs1, .inr (.inr 62)] h) : J mX9_arrive d 0 0 Q 0 0 121 [u0, u1, u2, u3] [.inl vs4, .inl vs3, .inl vs2, .inl vs1, .inr (.inr 62)] h := by
  refine zrun 49 2 qX9_arrive (o := 9) rfl ?_
  show J mX9_arrive d 0 0 Q 0 0 131 [u0, u1, u2, u3] [.inl (vs3 + vs4), .inl vs2, .inl vs1, .inr (.inr 62)] h
  exact k

theorem bX9_arrive_125 {d : Nat} {Q : Option MV → MH → Prop} {h : MH} {u1 u3 : Option MV} {vs1 vs2 v2 : Int32} (hr : zRf h) (k : J mX9_arrive d 0 0 Q 0 0 131 [some (.inr (.inr 62)), u1, some (.inl v2), u3] [.inl ((h.1 62 2) - v2), .inl vs2, .inl vs1, .inr (.inr 62)] h) : J mX9_arrive d 0 0 Q 0 0 125 [some (.inr (.inr 62)), u1, some (.inl v2), u3] [.inl vs2, .inl vs1, .inr (.inr 62)] h := by
  refine zrun 51 4 qX9_arrive (o := 9) rfl ?_
  show zokO h 62 9 ∧ J mX9_arrive d 0 0 Q 0 0 131 [some (.inr (.inr 62)), u1, some (.inl v2), u3] [.inl ((h.1 62 2) - v2), .inl vs2, .inl vs1, .inr (.inr 62)] h
  exact ⟨(zo hr (by decide) rfl), k⟩

theorem bX9_arrive_131 {d d' : Nat} {Q : Option MV → MH → Prop} {h : MH} {u0 u1 u2 u3 : Option MV} {vs1 vs2 vs3 : Int32} (hr : zRf h) (hd : d' + 1 ≤ d) (k : Con mX9_arriveSeeking d' 0 0 [.inr (.inr 62), .inl vs1, .inl vs2, .inl vs3] h (zrv fun h' => J mX9_arrive d 0 0 Q 0 0 134 [u0, u1, u2, u3] [] h')) : J mX9_arrive d 0 0 Q 0 0 131 [u0, u1, u2, u3] [.inl vs3, .inl vs2, .inl vs1, .inr (.inr 62)] h := by
  exact zcVv (as := [.inl vs1, .inl vs2, .inl vs3]) (zat qX9_arrive 55 (by rfl)) l9_130 rfl hd rfl (Nat.le_of_ble_eq_true rfl) zle0 (ci := 9) (by decide) rfl (zo hr (by decide) rfl) k

theorem bX9_arrive_134 {d : Nat} {Q : Option MV → MH → Prop} {h : MH} {u0 u1 u2 u3 : Option MV} (k : Q none h) : J mX9_arrive d 0 0 Q 0 0 134 [u0, u1, u2, u3] [] h := by
  exact J_vret (zat qX9_arrive 56 (by rfl)) rfl (Nat.le_refl 0) (Nat.le_refl 0) k

theorem bX9_liesBetween_0 {d : Nat} {Q : Option MV → MH → Prop} {h : MH} {u0 u2 : Option MV} {v1 : Int32} (k : J mX9_liesBetween d 0 0 Q 0 0 2 [u0, some (.inl v1), some (.inl (nI 0))] [] h) : J mX9_liesBetween d 0 0 Q 0 0 0 [u0, some (.inl v1), u2] [] h := by
  refine zrun 0 2 qX9_liesBetween (o := 9) rfl ?_
  show J mX9_liesBetween d 0 0 Q 0 0 2 [u0, some (.inl v1), some (.inl (nI 0))] [] h
  exact k

theorem bX9_liesBetween_2 {d : Nat} {Q : Option MV → MH → Prop} {h : MH} {u0 : Option MV} {v2 v1 : Int32} (k1 : v1 ≤ v2 → J mX9_liesBetween d 0 0 Q 0 0 35 [u0, some (.inl v1), some (.inl v2)] [] h) (k2 : ¬ v1 ≤ v2 → J mX9_liesBetween d 0 0 Q 0 0 7 [u0, some (.inl v1), some (.inl v2)] [] h) : J mX9_liesBetween d 0 0 Q 0 0 2 [u0, some (.inl v1), some (.inl v2)] [] h := by
  refine zrun 2 3 qX9_liesBetween (o := 9) rfl ?_
  show ((v1 ≤ v2 → J mX9_liesBetween d 0 0 Q 0 0 35 [u0, some (.inl v1), some (.inl v2)] [] h) ∧ (¬ v1 ≤ v2 → J mX9_liesBetween d 0 0 Q 0 0 7 [u0, some (.inl v1), some (.inl v2)] [] h))
  exact ⟨k1, k2⟩

theorem bX9_liesBetween_7 {d : Nat} {Q : Option MV → MH → Prop} {h : MH} {v1 v2 : Int32} (hr : zRf h) (g0 : vp_in v1 5) (g1 : vp_in v2 5) (k1 : ¬ ((h.1 64 v1.toNatClampNeg) - (h.1 64 v2.toNatClampNeg)) = (h.1 62 5) → J mX9_liesBetween d 0 0 Q 0 0 29 [some (.inr (.inr 62)), some (.inl v1), some (.inl v2)] [] h) (k2 : ((h.1 64 v1.toNatClampNeg) - (h.1 64 v2.toNatClampNeg)) = (h.1 62 5) → J mX9_liesBetween d 0 0 Q 0 0 27 [some (.inr (.inr 62)), some (.inl v1), some (.inl v2)] [] h) : J mX9_liesBetween d 0 0 Q 0 0 7 [some (.inr (.inr 62)), some (.inl v1), some (.inl v2)] [] h := by
  refine zrun 5 12 qX9_liesBetween (o := 9) rfl ?_
  show zokO h 62 9 ∧ zokA h (h.2.2.1 62 13) 20 v1 ∧ zokO h 62 9 ∧ zokA h (h.2.2.1 62 13) 20 v2 ∧ zokO h 62 9 ∧ ((¬ ((h.1 (h.2.2.1 62 13) v1.toNatClampNeg) - (h.1 (h.2.2.1 62 13) v2.toNatClampNeg)) = (h.1 62 5) → J mX9_liesBetween d 0 0 Q 0 0 29 [some (.inr (.inr 62)), some (.inl v1), some (.inl v2)] [] h) ∧ (((h.1 (h.2.2.1 62 13) v1.toNatClampNeg) - (h.1 (h.2.2.1 62 13) v2.toNatClampNeg)) = (h.1 62 5) → J mX9_liesBetween d 0 0 Q 0 0 27 [some (.inr (.inr 62)), some (.inl v1), some (.inl v2)] [] h))
  rw [(show h.2.2.1 62 13 = 64 from (hr.at (by decide) (by decide) (by rfl)))]
  exact ⟨(zo hr (by decide) rfl), (zia hr (by decide) (by rfl) g0), (zo hr (by decide) rfl), (zia hr (by decide) (by rfl) g1), (zo hr (by decide) rfl), k1, k2⟩

theorem bX9_liesBetween_27 {d : Nat} {Q : Option MV → MH → Prop} {h : MH} {u0 u1 u2 : Option MV} (k : Q (some (.inl (nI 1))) h) : J mX9_liesBetween d 0 0 Q 0 0 27 [u0, u1, u2] [] h := by
  refine zrun 17 1 qX9_liesBetween (o := 9) rfl ?_
  show J mX9_liesBetween d 0 0 Q 0 0 28 [u0, u1, u2] [.inl (nI 1)] h
  exact J_iret (ty := .boolean) (zat qX9_liesBetween 18 (by rfl)) rfl (by decide) (Nat.le_refl 0) (Nat.le_refl 0) k

theorem bX9_liesBetween_29 {d : Nat} {Q : Option MV → MH → Prop} {h : MH} {u0 : Option MV} {v2 v1 : Int32} (k : J mX9_liesBetween d 0 0 Q 0 0 2 [u0, some (.inl v1), some (.inl (v2 + nI 1))] [] h) : J mX9_liesBetween d 0 0 Q 0 0 29 [u0, some (.inl v1), some (.inl v2)] [] h := by
  refine zrun 19 2 qX9_liesBetween (o := 9) rfl ?_
  show J mX9_liesBetween d 0 0 Q 0 0 2 [u0, some (.inl v1), some (.inl (v2 + nI 1))] [] h
  exact k

theorem bX9_liesBetween_35 {d : Nat} {Q : Option MV → MH → Prop} {h : MH} {u0 u1 u2 : Option MV} (k : Q (some (.inl (nI 0))) h) : J mX9_liesBetween d 0 0 Q 0 0 35 [u0, u1, u2] [] h := by
  refine zrun 21 1 qX9_liesBetween (o := 9) rfl ?_
  show J mX9_liesBetween d 0 0 Q 0 0 36 [u0, u1, u2] [.inl (nI 0)] h
  exact J_iret (ty := .boolean) (zat qX9_liesBetween 22 (by rfl)) rfl (by decide) (Nat.le_refl 0) (Nat.le_refl 0) k

theorem bX9_arriveWanting_0 {d : Nat} {Q : Option MV → MH → Prop} {h : MH} {u2 u4 u5 : Option MV} {v1 v3 : Int32} (hr : zRf h) (g0 : vp_in v1 5) (k1 : (h.1 62 10) ≤ v3 → J mX9_arriveWanting d 0 0 Q 0 0 27 [some (.inr (.inr 62)), some (.inl v1), u2, some (.inl v3), some (.inl (h.1 64 v1.toNatClampNeg)), u5] [] h) (k2 : ¬ (h.1 62 10) ≤ v3 → J mX9_arriveWanting d 0 0 Q 0 0 16 [some (.inr (.inr 62)), some (.inl v1), u2, some (.inl v3), some (.inl (h.1 64 v1.toNatClampNeg)), u5] [] h) : J mX9_arriveWanting d 0 0 Q 0 0 0 [some (.inr (.inr 62)), some (.inl v1), u2, some (.inl v3), u4, u5] [] h := by
  refine zrun 0 9 qX9_arriveWanting (o := 9) rfl ?_
  show zokO h 62 9 ∧ zokA h (h.2.2.1 62 13) 20 v1 ∧ zokO h 62 9 ∧ (((h.1 62 10) ≤ v3 → J mX9_arriveWanting d 0 0 Q 0 0 27 [some (.inr (.inr 62)), some (.inl v1), u2, some (.inl v3), some (.inl (h.1 (h.2.2.1 62 13) v1.toNatClampNeg)), u5] [] h) ∧ (¬ (h.1 62 10) ≤ v3 → J mX9_arriveWanting d 0 0 Q 0 0 16 [some (.inr (.inr 62)), some (.inl v1), u2, some (.inl v3), some (.inl (h.1 (h.2.2.1 62 13) v1.toNatClampNeg)), u5] [] h))
  rw [(show h.2.2.1 62 13 = 64 from (hr.at (by decide) (by decide) (by rfl)))]
  exact ⟨(zo hr (by decide) rfl), (zia hr (by decide) (by rfl) g0), (zo hr (by decide) rfl), k1, k2⟩

theorem bX9_arriveWanting_16 {d : Nat} {Q : Option MV → MH → Prop} {h : MH} {u1 u2 u5 : Option MV} {v4 v3 : Int32} (hr : zRf h) (g0 : vp_in v3 4) (k1 : v4 ≤ (h.1 63 v3.toNatClampNeg) → J mX9_arriveWanting d 0 0 Q 0 0 28 [some (.inr (.inr 62)), u1, u2, some (.inl v3), some (.inl v4), u5] [] h) (k2 : ¬ v4 ≤ (h.1 63 v3.toNatClampNeg) → J mX9_arriveWanting d 0 0 Q 0 0 27 [some (.inr (.inr 62)), u1, u2, some (.inl v3), some (.inl v4), u5] [] h) : J mX9_arriveWanting d 0 0 Q 0 0 16 [some (.inr (.inr 62)), u1, u2, some (.inl v3), some (.inl v4), u5] [] h := by
  refine zrun 9 6 qX9_arriveWanting (o := 9) rfl ?_
  show zokO h 62 9 ∧ zokA h (h.2.2.1 62 12) 20 v3 ∧ ((v4 ≤ (h.1 (h.2.2.1 62 12) v3.toNatClampNeg) → J mX9_arriveWanting d 0 0 Q 0 0 28 [some (.inr (.inr 62)), u1, u2, some (.inl v3), some (.inl v4), u5] [] h) ∧ (¬ v4 ≤ (h.1 (h.2.2.1 62 12) v3.toNatClampNeg) → J mX9_arriveWanting d 0 0 Q 0 0 27 [some (.inr (.inr 62)), u1, u2, some (.inl v3), some (.inl v4), u5] [] h))
  rw [(show h.2.2.1 62 12 = 63 from (hr.at (by decide) (by decide) (by rfl)))]
  exact ⟨(zo hr (by decide) rfl), (zia hr (by decide) (by rfl) g0), k1, k2⟩

theorem bX9_arriveWanting_27 {d : Nat} {Q : Option MV → MH → Prop} {h : MH} {u0 u1 u2 u3 u4 u5 : Option MV} (k : Q none h) : J mX9_arriveWanting d 0 0 Q 0 0 27 [u0, u1, u2, u3, u4, u5] [] h := by
  exact J_vret (zat qX9_arriveWanting 15 (by rfl)) rfl (Nat.le_refl 0) (Nat.le_refl 0) k

theorem bX9_arriveWanting_28 {d : Nat} {Q : Option MV → MH → Prop} {h : MH} {u1 u2 u5 : Option MV} {v4 v3 : Int32} (hr : zRf h) (g0 : vp_in v3 4) (k1 : ¬ v4 = (h.1 63 v3.toNatClampNeg) → J mX9_arriveWanting d 0 0 Q 0 0 45 [some (.inr (.inr 62)), u1, u2, some (.inl v3), some (.inl v4), u5] [] h) (k2 : v4 = (h.1 63 v3.toNatClampNeg) → J mX9_arriveWanting d 0 0 Q 0 0 39 [some (.inr (.inr 62)), u1, u2, some (.inl v3), some (.inl v4), u5] [] h) : J mX9_arriveWanting d 0 0 Q 0 0 28 [some (.inr (.inr 62)), u1, u2, some (.inl v3), some (.inl v4), u5] [] h := by
  refine zrun 16 6 qX9_arriveWanting (o := 9) rfl ?_
  show zokO h 62 9 ∧ zokA h (h.2.2.1 62 12) 20 v3 ∧ ((¬ v4 = (h.1 (h.2.2.1 62 12) v3.toNatClampNeg) → J mX9_arriveWanting d 0 0 Q 0 0 45 [some (.inr (.inr 62)), u1, u2, some (.inl v3), some (.inl v4), u5] [] h) ∧ (v4 = (h.1 (h.2.2.1 62 12) v3.toNatClampNeg) → J mX9_arriveWanting d 0 0 Q 0 0 39 [some (.inr (.inr 62)), u1, u2, some (.inl v3), some (.inl v4), u5] [] h))
  rw [(show h.2.2.1 62 12 = 63 from (hr.at (by decide) (by decide) (by rfl)))]
  exact ⟨(zo hr (by decide) rfl), (zia hr (by decide) (by rfl) g0), k1, k2⟩

theorem bX9_arriveWanting_39 {d : Nat} {Q : Option MV → MH → Prop} {h : MH} {u0 u1 u2 u4 u5 : Option MV} {v3 : Int32} (k : J mX9_arriveWanting d 0 0 Q 0 0 46 [u0, u1, u2, some (.inl v3), u4, u5] [.inl (v3 + (nI 1))] h) : J mX9_arriveWanting d 0 0 Q 0 0 39 [u0, u1, u2, some (.inl v3), u4, u5] [] h := by
  refine zrun 22 4 qX9_arriveWanting (o := 9) rfl ?_
  show J mX9_arriveWanting d 0 0 Q 0 0 46 [u0, u1, u2, some (.inl v3), u4, u5] [.inl (v3 + (nI 1))] h
  exact k

theorem bX9_arriveWanting_45 {d : Nat} {Q : Option MV → MH → Prop} {h : MH} {u0 u1 u2 u4 u5 : Option MV} {v3 : Int32} (k : J mX9_arriveWanting d 0 0 Q 0 0 46 [u0, u1, u2, some (.inl v3), u4, u5] [.inl v3] h) : J mX9_arriveWanting d 0 0 Q 0 0 45 [u0, u1, u2, some (.inl v3), u4, u5] [] h := by
  refine zrun 26 1 qX9_arriveWanting (o := 9) rfl ?_
  show J mX9_arriveWanting d 0 0 Q 0 0 46 [u0, u1, u2, some (.inl v3), u4, u5] [.inl v3] h
  exact k

theorem bX9_arriveWanting_46 {d : Nat} {Q : Option MV → MH → Prop} {h : MH} {u1 u2 u3 u5 : Option MV} {vs0 v4 : Int32} (hr : zRf h) (k1 : vs0 < (h.1 62 10) → J mX9_arriveWanting d 0 0 Q 0 0 70 [some (.inr (.inr 62)), u1, u2, u3, some (.inl v4), some (.inl vs0)] [] h) (k2 : ¬ vs0 < (h.1 62 10) → J mX9_arriveWanting d 0 0 Q 0 0 57 [some (.inr (.inr 62)), u1, u2, u3, some (.inl v4), some (.inl vs0)] [] h) : J mX9_arriveWanting d 0 0 Q 0 0 46 [some (.inr (.inr 62)), u1, u2, u3, some (.inl v4), u5] [.inl vs0] h := by
  refine zrun 27 5 qX9_arriveWanting (o := 9) rfl ?_
  show zokO h 62 9 ∧ ((vs0 < (h.1 62 10) → J mX9_arriveWanting d 0 0 Q 0 0 70 [some (.inr (.inr 62)), u1, u2, u3, some (.inl v4), some (.inl vs0)] [] h) ∧ (¬ vs0 < (h.1 62 10) → J mX9_arriveWanting d 0 0 Q 0 0 57 [some (.inr (.inr 62)), u1, u2, u3, some (.inl v4), some (.inl vs0)] [] h))
  exact ⟨(zo hr (by decide) rfl), k1, k2⟩

theorem bX9_arriveWanting_57 {d : Nat} {Q : Option MV → MH → Prop} {h : MH} {u1 u2 u3 u4 u5 : Option MV} (hr : zRf h) (k : J mX9_arriveWanting d 0 0 Q 0 0 96 [some (.inr (.inr 62)), u1, u2, u3, u4, u5] [] (zsI (zsI h 62 6 (nI 1)) 62 7 (nI 1))) : J mX9_arriveWanting d 0 0 Q 0 0 57 [some (.inr (.inr 62)), u1, u2, u3, u4, u5] [] h := by
  refine zrun 32 7 qX9_arriveWanting (o := 9) rfl ?_
  show (zokO h 62 9 ∧ ((.inl (nI 1) : MV) = .inl 0 ∨ (.inl (nI 1) : MV) = .inl 1)) ∧ (zokO (zsI h 62 6 (nI 1)) 62 9 ∧ ((.inl (nI 1) : MV) = .inl 0 ∨ (.inl (nI 1) : MV) = .inl 1)) ∧ J mX9_arriveWanting d 0 0 Q 0 0 96 [some (.inr (.inr 62)), u1, u2, u3, u4, u5] [] (zsI (zsI h 62 6 (nI 1)) 62 7 (nI 1))
  exact ⟨⟨zo hr (by decide) rfl, Or.inr rfl⟩, ⟨zo hr (by decide) rfl, Or.inr rfl⟩, k⟩

theorem bX9_arriveWanting_70 {d d' : Nat} {Q : Option MV → MH → Prop} {h : MH} {u2 u3 : Option MV} {v1 v5 v4 : Int32} (hr : zRf h) (g0 : vp_in v5 4) (hd : d' + 1 ≤ d) (k : Con mX9_mayTell d' 0 0 [.inr (.inr 62), .inl v1, .inl ((h.1 63 v5.toNatClampNeg) - v4)] h (zri fun (x : Int32) h' => J mX9_arriveWanting d 0 0 Q 0 0 85 [some (.inr (.inr 62)), some (.inl v1), u2, u3, some (.inl v4), some (.inl v5)] [.inl x] h')) : J mX9_arriveWanting d 0 0 Q 0 0 70 [some (.inr (.inr 62)), some (.inl v1), u2, u3, some (.inl v4), some (.inl v5)] [] h := by
  refine zrun 39 8 qX9_arriveWanting (o := 9) rfl ?_
  show zokO h 62 9 ∧ zokA h (h.2.2.1 62 12) 20 v5 ∧ J mX9_arriveWanting d 0 0 Q 0 0 82 [some (.inr (.inr 62)), some (.inl v1), u2, u3, some (.inl v4), some (.inl v5)] [.inl ((h.1 (h.2.2.1 62 12) v5.toNatClampNeg) - v4), .inl v1, .inr (.inr 62)] h
  rw [(show h.2.2.1 62 12 = 63 from (hr.at (by decide) (by decide) (by rfl)))]
  exact ⟨(zo hr (by decide) rfl), (zia hr (by decide) (by rfl) g0), zcVi (as := [.inl v1, .inl ((h.1 63 v5.toNatClampNeg) - v4)]) (zat qX9_arriveWanting 47 (by rfl)) l9_133 rfl hd rfl (Nat.le_of_ble_eq_true rfl) zle0 (ci := 9) (by decide) rfl (zo hr (by decide) rfl) k⟩

theorem bX9_arriveWanting_85 {d : Nat} {Q : Option MV → MH → Prop} {h : MH} {u0 u1 u2 u3 u4 u5 : Option MV} {vs0 : Int32} (k1 : vs0 = 0 → J mX9_arriveWanting d 0 0 Q 0 0 96 [u0, u1, u2, u3, u4, u5] [] h) (k2 : ¬ vs0 = 0 → J mX9_arriveWanting d 0 0 Q 0 0 88 [u0, u1, u2, u3, u4, u5] [] h) : J mX9_arriveWanting d 0 0 Q 0 0 85 [u0, u1, u2, u3, u4, u5] [.inl vs0] h := by
  refine zrun 48 1 qX9_arriveWanting (o := 9) rfl ?_
  show ((vs0 = 0 → J mX9_arriveWanting d 0 0 Q 0 0 96 [u0, u1, u2, u3, u4, u5] [] h) ∧ (¬ vs0 = 0 → J mX9_arriveWanting d 0 0 Q 0 0 88 [u0, u1, u2, u3, u4, u5] [] h))
  exact ⟨k1, k2⟩

theorem bX9_arriveWanting_88 {d d' : Nat} {Q : Option MV → MH → Prop} {h : MH} {u3 u4 : Option MV} {v1 v2 v5 : Int32} (hr : zRf h) (hd : d' + 1 ≤ d) (k : Con mX9_go d' 0 0 [.inr (.inr 62), .inl v1, .inl v2, .inl v5] h (zrv fun h' => J mX9_arriveWanting d 0 0 Q 0 0 96 [some (.inr (.inr 62)), some (.inl v1), some (.inl v2), u3, u4, some (.inl v5)] [] h')) : J mX9_arriveWanting d 0 0 Q 0 0 88 [some (.inr (.inr 62)), some (.inl v1), some (.inl v2), u3, u4, some (.inl v5)] [] h := by
  refine zrun 49 4 qX9_arriveWanting (o := 9) rfl ?_
  show J mX9_arriveWanting d 0 0 Q 0 0 93 [some (.inr (.inr 62)), some (.inl v1), some (.inl v2), u3, u4, some (.inl v5)] [.inl v5, .inl v2, .inl v1, .inr (.inr 62)] h
  exact zcVv (as := [.inl v1, .inl v2, .inl v5]) (zat qX9_arriveWanting 53 (by rfl)) l9_63 rfl hd rfl (Nat.le_of_ble_eq_true rfl) zle0 (ci := 9) (by decide) rfl (zo hr (by decide) rfl) k

theorem bX9_arriveWanting_96 {d : Nat} {Q : Option MV → MH → Prop} {h : MH} {u0 u1 u2 u3 u4 u5 : Option MV} (k : Q none h) : J mX9_arriveWanting d 0 0 Q 0 0 96 [u0, u1, u2, u3, u4, u5] [] h := by
  exact J_vret (zat qX9_arriveWanting 54 (by rfl)) rfl (Nat.le_refl 0) (Nat.le_refl 0) k

theorem bX9_arriveSeeking_0 {d : Nat} {Q : Option MV → MH → Prop} {h : MH} {u2 u4 : Option MV} {v1 v3 : Int32} (hr : zRf h) (g0 : vp_in v1 5) (k1 : (h.1 62 5) < (h.1 64 v1.toNatClampNeg) → J mX9_arriveSeeking d 0 0 Q 0 0 43 [some (.inr (.inr 62)), some (.inl v1), u2, some (.inl v3), some (.inl (h.1 64 v1.toNatClampNeg))] [] h) (k2 : ¬ (h.1 62 5) < (h.1 64 v1.toNatClampNeg) → J mX9_arriveSeeking d 0 0 Q 0 0 17 [some (.inr (.inr 62)), some (.inl v1), u2, some (.inl v3), some (.inl (h.1 64 v1.toNatClampNeg))] [] h) : J mX9_arriveSeeking d 0 0 Q 0 0 0 [some (.inr (.inr 62)), some (.inl v1), u2, some (.inl v3), u4] [] h := by
  refine zrun 0 9 qX9_arriveSeeking (o := 9) rfl ?_
  show zokO h 62 9 ∧ zokA h (h.2.2.1 62 13) 20 v1 ∧ zokO h 62 9 ∧ (((h.1 62 5) < (h.1 (h.2.2.1 62 13) v1.toNatClampNeg) → J mX9_arriveSeeking d 0 0 Q 0 0 43 [some (.inr (.inr 62)), some (.inl v1), u2, some (.inl v3), some (.inl (h.1 (h.2.2.1 62 13) v1.toNatClampNeg))] [] h) ∧ (¬ (h.1 62 5) < (h.1 (h.2.2.1 62 13) v1.toNatClampNeg) → J mX9_arriveSeeking d 0 0 Q 0 0 17 [some (.inr (.inr 62)), some (.inl v1), u2, some (.inl v3), some (.inl (h.1 (h.2.2.1 62 13) v1.toNatClampNeg))] [] h))
  rw [(show h.2.2.1 62 13 = 64 from (hr.at (by decide) (by decide) (by rfl)))]
  exact ⟨(zo hr (by decide) rfl), (zia hr (by decide) (by rfl) g0), (zo hr (by decide) rfl), k1, k2⟩

theorem bX9_arriveSeeking_17 {d : Nat} {Q : Option MV → MH → Prop} {h : MH} {u1 u3 : Option MV} {v4 v2 : Int32} (hr : zRf h) (k1 : (v4 + v2) < (h.1 62 5) → J mX9_arriveSeeking d 0 0 Q 0 0 43 [some (.inr (.inr 62)), u1, some (.inl v2), u3, some (.inl v4)] [] h) (k2 : ¬ (v4 + v2) < (h.1 62 5) → J mX9_arriveSeeking d 0 0 Q 0 0 28 [some (.inr (.inr 62)), u1, some (.inl v2), u3, some (.inl v4)] [] h) : J mX9_arriveSeeking d 0 0 Q 0 0 17 [some (.inr (.inr 62)), u1, some (.inl v2), u3, some (.inl v4)] [] h := by
  refine zrun 9 6 qX9_arriveSeeking (o := 9) rfl ?_
  show zokO h 62 9 ∧ (((v4 + v2) < (h.1 62 5) → J mX9_arriveSeeking d 0 0 Q 0 0 43 [some (.inr (.inr 62)), u1, some (.inl v2), u3, some (.inl v4)] [] h) ∧ (¬ (v4 + v2) < (h.1 62 5) → J mX9_arriveSeeking d 0 0 Q 0 0 28 [some (.inr (.inr 62)), u1, some (.inl v2), u3, some (.inl v4)] [] h))
  exact ⟨(zo hr (by decide) rfl), k1, k2⟩

theorem bX9_arriveSeeking_28 {d : Nat} {Q : Option MV → MH → Prop} {h : MH} {u1 u2 u3 u4 : Option MV} (hr : zRf h) (k1 : (h.1 62 6) = 0 → J mX9_arriveSeeking d 0 0 Q 0 0 44 [some (.inr (.inr 62)), u1, u2, u3, u4] [] h) (k2 : ¬ (h.1 62 6) = 0 → J mX9_arriveSeeking d 0 0 Q 0 0 35 [some (.inr (.inr 62)), u1, u2, u3, u4] [] h) : J mX9_arriveSeeking d 0 0 Q 0 0 28 [some (.inr (.inr 62)), u1, u2, u3, u4] [] h := by
  refine zrun 15 3 qX9_arriveSeeking (o := 9) rfl ?_
  show zokO h 62 9 ∧ (((h.1 62 6) = 0 → J mX9_arriveSeeking d 0 0 Q 0 0 44 [some (.inr (.inr 62)), u1, u2, u3, u4] [] h) ∧ (¬ (h.1 62 6) = 0 → J mX9_arriveSeeking d 0 0 Q 0 0 35 [some (.inr (.inr 62)), u1, u2, u3, u4] [] h))
  exact ⟨(zo hr (by decide) rfl), k1, k2⟩

theorem bX9_arriveSeeking_35 {d : Nat} {Q : Option MV → MH → Prop} {h : MH} {u1 u2 u4 : Option MV} {v3 : Int32} (hr : zRf h) (k1 : v3 < (h.1 62 8) → J mX9_arriveSeeking d 0 0 Q 0 0 44 [some (.inr (.inr 62)), u1, u2, some (.inl v3), u4] [] h) (k2 : ¬ v3 < (h.1 62 8) → J mX9_arriveSeeking d 0 0 Q 0 0 43 [some (.inr (.inr 62)), u1, u2, some (.inl v3), u4] [] h) : J mX9_arriveSeeking d 0 0 Q 0 0 35 [some (.inr (.inr 62)), u1, u2, some (.inl v3), u4] [] h := by
  refine zrun 18 4 qX9_arriveSeeking (o := 9) rfl ?_
  show zokO h 62 9 ∧ ((v3 < (h.1 62 8) → J mX9_arriveSeeking d 0 0 Q 0 0 44 [some (.inr (.inr 62)), u1, u2, some (.inl v3), u4] [] h) ∧ (¬ v3 < (h.1 62 8) → J mX9_arriveSeeking d 0 0 Q 0 0 43 [some (.inr (.inr 62)), u1, u2, some (.inl v3), u4] [] h))
  exact ⟨(zo hr (by decide) rfl), k1, k2⟩

theorem bX9_arriveSeeking_43 {d : Nat} {Q : Option MV → MH → Prop} {h : MH} {u0 u1 u2 u3 u4 : Option MV} (k : Q none h) : J mX9_arriveSeeking d 0 0 Q 0 0 43 [u0, u1, u2, u3, u4] [] h := by
  exact J_vret (zat qX9_arriveSeeking 22 (by rfl)) rfl (Nat.le_refl 0) (Nat.le_refl 0) k

theorem bX9_arriveSeeking_44 {d : Nat} {Q : Option MV → MH → Prop} {h : MH} {u1 u2 u3 : Option MV} {v4 : Int32} (hr : zRf h) (k1 : (h.1 62 5) ≤ v4 → J mX9_arriveSeeking d 0 0 Q 0 0 76 [some (.inr (.inr 62)), u1, u2, u3, some (.inl v4)] [] h) (k2 : ¬ (h.1 62 5) ≤ v4 → J mX9_arriveSeeking d 0 0 Q 0 0 53 [some (.inr (.inr 62)), u1, u2, u3, some (.inl v4)] [] h) : J mX9_arriveSeeking d 0 0 Q 0 0 44 [some (.inr (.inr 62)), u1, u2, u3, some (.inl v4)] [] h := by
  refine zrun 23 4 qX9_arriveSeeking (o := 9) rfl ?_
  show zokO h 62 9 ∧ (((h.1 62 5) ≤ v4 → J mX9_arriveSeeking d 0 0 Q 0 0 76 [some (.inr (.inr 62)), u1, u2, u3, some (.inl v4)] [] h) ∧ (¬ (h.1 62 5) ≤ v4 → J mX9_arriveSeeking d 0 0 Q 0 0 53 [some (.inr (.inr 62)), u1, u2, u3, some (.inl v4)] [] h))
  exact ⟨(zo hr (by decide) rfl), k1, k2⟩

theorem bX9_arriveSeeking_53 {d d' : Nat} {Q : Option MV → MH → Prop} {h : MH} {u2 u3 : Option MV} {v1 v4 : Int32} (hr : zRf h) (hd : d' + 1 ≤ d) (k : Con mX9_mayTell d' 0 0 [.inr (.inr 62), .inl v1, .inl ((h.1 62 5) - v4)] h (zri fun (x : Int32) h' => J mX9_arriveSeeking d 0 0 Q 0 0 65 [some (.inr (.inr 62)), some (.inl v1), u2, u3, some (.inl v4)] [.inl x] h')) : J mX9_arriveSeeking d 0 0 Q 0 0 53 [some (.inr (.inr 62)), some (.inl v1), u2, u3, some (.inl v4)] [] h := by
  refine zrun 27 6 qX9_arriveSeeking (o := 9) rfl ?_
  show zokO h 62 9 ∧ J mX9_arriveSeeking d 0 0 Q 0 0 62 [some (.inr (.inr 62)), some (.inl v1), u2, u3, some (.inl v4)] [.inl ((h.1 62 5) - v4), .inl v1, .inr (.inr 62)] h
  exact ⟨(zo hr (by decide) rfl), zcVi (as := [.inl v1, .inl ((h.1 62 5) - v4)]) (zat qX9_arriveSeeking 33 (by rfl)) l9_133 rfl hd rfl (Nat.le_of_ble_eq_true rfl) zle0 (ci := 9) (by decide) rfl (zo hr (by decide) rfl) k⟩

theorem bX9_arriveSeeking_65 {d : Nat} {Q : Option MV → MH → Prop} {h : MH} {u0 u1 u2 u3 u4 : Option MV} {vs0 : Int32} (k1 : vs0 = 0 → J mX9_arriveSeeking d 0 0 Q 0 0 75 [u0, u1, u2, u3, u4] [] h) (k2 : ¬ vs0 = 0 → J mX9_arriveSeeking d 0 0 Q 0 0 68 [u0, u1, u2, u3, u4] [] h) : J mX9_arriveSeeking d 0 0 Q 0 0 65 [u0, u1, u2, u3, u4] [.inl vs0] h := by
  refine zrun 34 1 qX9_arriveSeeking (o := 9) rfl ?_
  show ((vs0 = 0 → J mX9_arriveSeeking d 0 0 Q 0 0 75 [u0, u1, u2, u3, u4] [] h) ∧ (¬ vs0 = 0 → J mX9_arriveSeeking d 0 0 Q 0 0 68 [u0, u1, u2, u3, u4] [] h))
  exact ⟨k1, k2⟩

theorem bX9_arriveSeeking_68 {d d' : Nat} {Q : Option MV → MH → Prop} {h : MH} {u4 : Option MV} {v1 v2 v3 : Int32} (hr : zRf h) (hd : d' + 1 ≤ d) (k : Con mX9_go d' 0 0 [.inr (.inr 62), .inl v1, .inl v2, .inl v3] h (zrv fun h' => J mX9_arriveSeeking d 0 0 Q 0 0 75 [some (.inr (.inr 62)), some (.inl v1), some (.inl v2), some (.inl v3), u4] [] h')) : J mX9_arriveSeeking d 0 0 Q 0 0 68 [some (.inr (.inr 62)), some (.inl v1), some (.inl v2), some (.inl v3), u4] [] h := by
  refine zrun 35 4 qX9_arriveSeeking (o := 9) rfl ?_
  show J mX9_arriveSeeking d 0 0 Q 0 0 72 [some (.inr (.inr 62)), some (.inl v1), some (.inl v2), some (.inl v3), u4] [.inl v3, .inl v2, .inl v1, .inr (.inr 62)] h
  exact zcVv (as := [.inl v1, .inl v2, .inl v3]) (zat qX9_arriveSeeking 39 (by rfl)) l9_63 rfl hd rfl (Nat.le_of_ble_eq_true rfl) zle0 (ci := 9) (by decide) rfl (zo hr (by decide) rfl) k

theorem bX9_arriveSeeking_75 {d : Nat} {Q : Option MV → MH → Prop} {h : MH} {u0 u1 u2 u3 u4 : Option MV} (k : Q none h) : J mX9_arriveSeeking d 0 0 Q 0 0 75 [u0, u1, u2, u3, u4] [] h := by
  exact J_vret (zat qX9_arriveSeeking 40 (by rfl)) rfl (Nat.le_refl 0) (Nat.le_refl 0) k

theorem bX9_arriveSeeking_76 {d : Nat} {Q : Option MV → MH → Prop} {h : MH} {u2 u4 : Option MV} {v3 v1 : Int32} (hr : zRf h) (k1 : ¬ ((zsI (zsI (zsI h 62 6 (nI 1)) 62 8 v3) 62 9 v1).1 62 4) = (nI 1) → J mX9_arriveSeeking d 0 0 Q 0 0 104 [some (.inr (.inr 62)), some (.inl v1), u2, some (.inl v3), u4] [.inr (.inr 62)] (zsI (zsI (zsI h 62 6 (nI 1)) 62 8 v3) 62 9 v1)) (k2 : ((zsI (zsI (zsI h 62 6 (nI 1)) 62 8 v3) 62 9 v1).1 62 4) = (nI 1) → J mX9_arriveSeeking d 0 0 Q 0 0 100 [some (.inr (.inr 62)), some (.inl v1), u2, some (.inl v3), u4] [.inr (.inr 62)] (zsI (zsI (zsI h 62 6 (nI 1)) 62 8 v3) 62 9 v1)) : J mX9_arriveSeeking d 0 0 Q 0 0 76 [some (.inr (.inr 62)), some (.inl v1), u2, some (.inl v3), u4] [] h := by
  refine zrun 41 14 qX9_arriveSeeking (o := 9) rfl ?_
  show (zokO h 62 9 ∧ ((.inl (nI 1) : MV) = .inl 0 ∨ (.inl (nI 1) : MV) = .inl 1)) ∧ zokO (zsI h 62 6 (nI 1)) 62 9 ∧ zokO (zsI (zsI h 62 6 (nI 1)) 62 8 v3) 62 9 ∧ zokO (zsI (zsI (zsI h 62 6 (nI 1)) 62 8 v3) 62 9 v1) 62 9 ∧ ((¬ ((zsI (zsI (zsI h 62 6 (nI 1)) 62 8 v3) 62 9 v1).1 62 4) = (nI 1) → J mX9_arriveSeeking d 0 0 Q 0 0 104 [some (.inr (.inr 62)), some (.inl v1), u2, some (.inl v3), u4] [.inr (.inr 62)] (zsI (zsI (zsI h 62 6 (nI 1)) 62 8 v3) 62 9 v1)) ∧ (((zsI (zsI (zsI h 62 6 (nI 1)) 62 8 v3) 62 9 v1).1 62 4) = (nI 1) → J mX9_arriveSeeking d 0 0 Q 0 0 100 [some (.inr (.inr 62)), some (.inl v1), u2, some (.inl v3), u4] [.inr (.inr 62)] (zsI (zsI (zsI h 62 6 (nI 1)) 62 8 v3) 62 9 v1)))
  exact ⟨⟨zo hr (by decide) rfl, Or.inr rfl⟩, (zo hr (by decide) rfl), (zo hr (by decide) rfl), (zo hr (by decide) rfl), k1, k2⟩

theorem bX9_arriveSeeking_100 {d : Nat} {Q : Option MV → MH → Prop} {h : MH} {u0 u1 u2 u3 u4 : Option MV} (k : J mX9_arriveSeeking d 0 0 Q 0 0 105 [u0, u1, u2, u3, u4] [.inl (nI 1), .inr (.inr 62)] h) : J mX9_arriveSeeking d 0 0 Q 0 0 100 [u0, u1, u2, u3, u4] [.inr (.inr 62)] h := by
  refine zrun 55 2 qX9_arriveSeeking (o := 9) rfl ?_
  show J mX9_arriveSeeking d 0 0 Q 0 0 105 [u0, u1, u2, u3, u4] [.inl (nI 1), .inr (.inr 62)] h
  exact k

theorem bX9_arriveSeeking_104 {d : Nat} {Q : Option MV → MH → Prop} {h : MH} {u0 u1 u2 u3 u4 : Option MV} (k : J mX9_arriveSeeking d 0 0 Q 0 0 105 [u0, u1, u2, u3, u4] [.inl (nI 0), .inr (.inr 62)] h) : J mX9_arriveSeeking d 0 0 Q 0 0 104 [u0, u1, u2, u3, u4] [.inr (.inr 62)] h := by
  refine zrun 57 1 qX9_arriveSeeking (o := 9) rfl ?_
  show J mX9_arriveSeeking d 0 0 Q 0 0 105 [u0, u1, u2, u3, u4] [.inl (nI 0), .inr (.inr 62)] h
  exact k

theorem bX9_arriveSeeking_105 {d : Nat} {Q : Option MV → MH → Prop} {h : MH} {u0 u1 u2 u3 u4 : Option MV} {vs1 : Int32} (hr : zRf h) (g0 : vs1 = 0 ∨ vs1 = 1) (k : Q none (zsI h 62 7 vs1)) : J mX9_arriveSeeking d 0 0 Q 0 0 105 [u0, u1, u2, u3, u4] [.inl vs1, .inr (.inr 62)] h := by
  refine zrun 58 1 qX9_arriveSeeking (o := 9) rfl ?_
  show (zokO h 62 9 ∧ ((.inl vs1 : MV) = .inl 0 ∨ (.inl vs1 : MV) = .inl 1)) ∧ J mX9_arriveSeeking d 0 0 Q 0 0 108 [u0, u1, u2, u3, u4] [] (zsI h 62 7 vs1)
  exact ⟨⟨zo hr (by decide) rfl, zbo g0⟩, J_vret (zat qX9_arriveSeeking 59 (by rfl)) rfl (Nat.le_refl 0) (Nat.le_refl 0) k⟩

theorem bX9_mayTell_0 {d : Nat} {Q : Option MV → MH → Prop} {h : MH} {u0 u1 u3 u4 u5 : Option MV} {v2 : Int32} (k : J mX9_mayTell d 0 0 Q 0 0 8 [u0, u1, some (.inl v2), some (.inl (nI 0)), some (.inl (nI 0)), some (.inl (nI 0))] [] h) : J mX9_mayTell d 0 0 Q 0 0 0 [u0, u1, some (.inl v2), u3, u4, u5] [] h := by
  refine zrun 0 6 qX9_mayTell (o := 9) rfl ?_
  show J mX9_mayTell d 0 0 Q 0 0 8 [u0, u1, some (.inl v2), some (.inl (nI 0)), some (.inl (nI 0)), some (.inl (nI 0))] [] h
  exact k

theorem bX9_mayTell_8 {d : Nat} {Q : Option MV → MH → Prop} {h : MH} {u1 u2 u3 u4 : Option MV} {v5 : Int32} (hr : zRf h) (k1 : (h.1 62 0) ≤ v5 → J mX9_mayTell d 0 0 Q 0 0 52 [some (.inr (.inr 62)), u1, u2, u3, u4, some (.inl v5)] [] h) (k2 : ¬ (h.1 62 0) ≤ v5 → J mX9_mayTell d 0 0 Q 0 0 17 [some (.inr (.inr 62)), u1, u2, u3, u4, some (.inl v5)] [] h) : J mX9_mayTell d 0 0 Q 0 0 8 [some (.inr (.inr 62)), u1, u2, u3, u4, some (.inl v5)] [] h := by
  refine zrun 6 4 qX9_mayTell (o := 9) rfl ?_
  show zokO h 62 9 ∧ (((h.1 62 0) ≤ v5 → J mX9_mayTell d 0 0 Q 0 0 52 [some (.inr (.inr 62)), u1, u2, u3, u4, some (.inl v5)] [] h) ∧ (¬ (h.1 62 0) ≤ v5 → J mX9_mayTell d 0 0 Q 0 0 17 [some (.inr (.inr 62)), u1, u2, u3, u4, some (.inl v5)] [] h))
  exact ⟨(zo hr (by decide) rfl), k1, k2⟩

theorem bX9_mayTell_17 {d : Nat} {Q : Option MV → MH → Prop} {h : MH} {u2 u3 u4 : Option MV} {v1 v5 : Int32} (hr : zRf h) (g0 : vp_in v1 5) (g1 : zokA h (66 + v1.toNatClampNeg) 20 v5) (k1 : (h.1 (66 + v1.toNatClampNeg) v5.toNatClampNeg) ≤ 0 → J mX9_mayTell d 0 0 Q 0 0 46 [some (.inr (.inr 62)), some (.inl v1), u2, u3, u4, some (.inl v5)] [] h) (k2 : ¬ (h.1 (66 + v1.toNatClampNeg) v5.toNatClampNeg) ≤ 0 → J mX9_mayTell d 0 0 Q 0 0 29 [some (.inr (.inr 62)), some (.inl v1), u2, u3, u4, some (.inl v5)] [] h) : J mX9_mayTell d 0 0 Q 0 0 17 [some (.inr (.inr 62)), some (.inl v1), u2, u3, u4, some (.inl v5)] [] h := by
  refine zrun 10 7 qX9_mayTell (o := 9) rfl ?_
  show zokO h 62 9 ∧ zokR h (h.2.2.1 62 14) v1 ∧ zokA h (h.2.2.1 (h.2.2.1 62 14) v1.toNatClampNeg) 20 v5 ∧ (((h.1 (h.2.2.1 (h.2.2.1 62 14) v1.toNatClampNeg) v5.toNatClampNeg) ≤ 0 → J mX9_mayTell d 0 0 Q 0 0 46 [some (.inr (.inr 62)), some (.inl v1), u2, u3, u4, some (.inl v5)] [] h) ∧ (¬ (h.1 (h.2.2.1 (h.2.2.1 62 14) v1.toNatClampNeg) v5.toNatClampNeg) ≤ 0 → J mX9_mayTell d 0 0 Q 0 0 29 [some (.inr (.inr 62)), some (.inl v1), u2, u3, u4, some (.inl v5)] [] h))
  rw [(show h.2.2.1 62 14 = 65 from (hr.at (by decide) (by decide) (by rfl))), (show h.2.2.1 65 v1.toNatClampNeg = (66 + v1.toNatClampNeg) from (hr.a33 (by decide) (by rfl) (vp_lt g0)))]
  exact ⟨(zo hr (by decide) rfl), (zir_ hr (by decide) (by rfl) (by decide) g0), g1, k1, k2⟩

theorem bX9_mayTell_29 {d : Nat} {Q : Option MV → MH → Prop} {h : MH} {v3 v2 v4 v1 v5 : Int32} (hr : zRf h) (g0 : vp_in v1 5) (g1 : zokA h (66 + v1.toNatClampNeg) 20 v5) (k : J mX9_mayTell d 0 0 Q 0 0 46 [some (.inr (.inr 62)), some (.inl v1), some (.inl v2), some (.inl (v3 + nI 1)), some (.inl (v4 ||| (h.1 (66 + v1.toNatClampNeg) v5.toNatClampNeg))), some (.inl v5)] [] h) : J mX9_mayTell d 0 0 Q 0 0 29 [some (.inr (.inr 62)), some (.inl v1), some (.inl v2), some (.inl v3), some (.inl v4), some (.inl v5)] [] h := by
  refine zrun 17 10 qX9_mayTell (o := 9) rfl ?_
  show zokO h 62 9 ∧ zokR h (h.2.2.1 62 14) v1 ∧ zokA h (h.2.2.1 (h.2.2.1 62 14) v1.toNatClampNeg) 20 v5 ∧ J mX9_mayTell d 0 0 Q 0 0 46 [some (.inr (.inr 62)), some (.inl v1), some (.inl v2), some (.inl (v3 + nI 1)), some (.inl (v4 ||| (h.1 (h.2.2.1 (h.2.2.1 62 14) v1.toNatClampNeg) v5.toNatClampNeg))), some (.inl v5)] [] h
  rw [(show h.2.2.1 62 14 = 65 from (hr.at (by decide) (by decide) (by rfl))), (show h.2.2.1 65 v1.toNatClampNeg = (66 + v1.toNatClampNeg) from (hr.a33 (by decide) (by rfl) (vp_lt g0)))]
  exact ⟨(zo hr (by decide) rfl), (zir_ hr (by decide) (by rfl) (by decide) g0), g1, k⟩

theorem bX9_mayTell_46 {d : Nat} {Q : Option MV → MH → Prop} {h : MH} {u0 u1 u2 u3 : Option MV} {v5 v4 : Int32} (k : J mX9_mayTell d 0 0 Q 0 0 8 [u0, u1, u2, u3, some (.inl v4), some (.inl (v5 + nI 1))] [] h) : J mX9_mayTell d 0 0 Q 0 0 46 [u0, u1, u2, u3, some (.inl v4), some (.inl v5)] [] h := by
  refine zrun 27 2 qX9_mayTell (o := 9) rfl ?_
  show J mX9_mayTell d 0 0 Q 0 0 8 [u0, u1, u2, u3, some (.inl v4), some (.inl (v5 + nI 1))] [] h
  exact k

theorem bX9_mayTell_52 {d : Nat} {Q : Option MV → MH → Prop} {h : MH} {u0 u1 u2 u4 u5 : Option MV} {v3 : Int32} (k1 : ¬ v3 = (nI 1) → J mX9_mayTell d 0 0 Q 0 0 77 [u0, u1, u2, some (.inl v3), u4, u5] [] h) (k2 : v3 = (nI 1) → J mX9_mayTell d 0 0 Q 0 0 57 [u0, u1, u2, some (.inl v3), u4, u5] [] h) : J mX9_mayTell d 0 0 Q 0 0 52 [u0, u1, u2, some (.inl v3), u4, u5] [] h := by
  refine zrun 29 3 qX9_mayTell (o := 9) rfl ?_
  show ((¬ v3 = (nI 1) → J mX9_mayTell d 0 0 Q 0 0 77 [u0, u1, u2, some (.inl v3), u4, u5] [] h) ∧ (v3 = (nI 1) → J mX9_mayTell d 0 0 Q 0 0 57 [u0, u1, u2, some (.inl v3), u4, u5] [] h))
  exact ⟨k1, k2⟩

theorem bX9_mayTell_57 {d : Nat} {Q : Option MV → MH → Prop} {h : MH} {u0 u1 u3 u5 : Option MV} {v2 v4 : Int32} (k1 : v2 = v4 → J mX9_mayTell d 0 0 Q 0 0 71 [u0, u1, some (.inl v2), u3, some (.inl v4), u5] [] h) (k2 : ¬ v2 = v4 → J mX9_mayTell d 0 0 Q 0 0 63 [u0, u1, some (.inl v2), u3, some (.inl v4), u5] [] h) : J mX9_mayTell d 0 0 Q 0 0 57 [u0, u1, some (.inl v2), u3, some (.inl v4), u5] [] h := by
  refine zrun 32 3 qX9_mayTell (o := 9) rfl ?_
  show ((v2 = v4 → J mX9_mayTell d 0 0 Q 0 0 71 [u0, u1, some (.inl v2), u3, some (.inl v4), u5] [] h) ∧ (¬ v2 = v4 → J mX9_mayTell d 0 0 Q 0 0 63 [u0, u1, some (.inl v2), u3, some (.inl v4), u5] [] h))
  exact ⟨k1, k2⟩

theorem bX9_mayTell_63 {d : Nat} {Q : Option MV → MH → Prop} {h : MH} {u0 u1 u3 u5 : Option MV} {v2 v4 : Int32} (k1 : ¬ (v2 * (nI 2)) = v4 → J mX9_mayTell d 0 0 Q 0 0 75 [u0, u1, some (.inl v2), u3, some (.inl v4), u5] [] h) (k2 : (v2 * (nI 2)) = v4 → J mX9_mayTell d 0 0 Q 0 0 71 [u0, u1, some (.inl v2), u3, some (.inl v4), u5] [] h) : J mX9_mayTell d 0 0 Q 0 0 63 [u0, u1, some (.inl v2), u3, some (.inl v4), u5] [] h := by
  refine zrun 35 5 qX9_mayTell (o := 9) rfl ?_
  show ((¬ (v2 * (nI 2)) = v4 → J mX9_mayTell d 0 0 Q 0 0 75 [u0, u1, some (.inl v2), u3, some (.inl v4), u5] [] h) ∧ ((v2 * (nI 2)) = v4 → J mX9_mayTell d 0 0 Q 0 0 71 [u0, u1, some (.inl v2), u3, some (.inl v4), u5] [] h))
  exact ⟨k1, k2⟩

theorem bX9_mayTell_71 {d : Nat} {Q : Option MV → MH → Prop} {h : MH} {u0 u1 u2 u3 u4 u5 : Option MV} (k : J mX9_mayTell d 0 0 Q 0 0 76 [u0, u1, u2, u3, u4, u5] [.inl (nI 1)] h) : J mX9_mayTell d 0 0 Q 0 0 71 [u0, u1, u2, u3, u4, u5] [] h := by
  refine zrun 40 2 qX9_mayTell (o := 9) rfl ?_
  show J mX9_mayTell d 0 0 Q 0 0 76 [u0, u1, u2, u3, u4, u5] [.inl (nI 1)] h
  exact k

theorem bX9_mayTell_75 {d : Nat} {Q : Option MV → MH → Prop} {h : MH} {u0 u1 u2 u3 u4 u5 : Option MV} (k : J mX9_mayTell d 0 0 Q 0 0 76 [u0, u1, u2, u3, u4, u5] [.inl (nI 0)] h) : J mX9_mayTell d 0 0 Q 0 0 75 [u0, u1, u2, u3, u4, u5] [] h := by
  refine zrun 42 1 qX9_mayTell (o := 9) rfl ?_
  show J mX9_mayTell d 0 0 Q 0 0 76 [u0, u1, u2, u3, u4, u5] [.inl (nI 0)] h
  exact k

theorem bX9_mayTell_76 {d : Nat} {Q : Option MV → MH → Prop} {h : MH} {u0 u1 u2 u3 u4 u5 : Option MV} {vs0 : Int32} (gn : vs0 = 0 ∨ vs0 = 1) (k : Q (some (.inl vs0)) h) : J mX9_mayTell d 0 0 Q 0 0 76 [u0, u1, u2, u3, u4, u5] [.inl vs0] h := by
  exact J_iret (ty := .boolean) (zat qX9_mayTell 43 (by rfl)) rfl (znz gn) (Nat.le_refl 0) (Nat.le_refl 0) k

theorem bX9_mayTell_77 {d : Nat} {Q : Option MV → MH → Prop} {h : MH} {u0 u1 u5 : Option MV} {v4 v3 v2 : Int32} (k1 : ¬ (v2 &&& (((v4 &&& (-v4)) >>> (v3 &&& 31)) - (nI 1))) = 0 → J mX9_mayTell d 0 0 Q 0 0 100 [u0, u1, some (.inl v2), some (.inl v3), some (.inl v4), some (.inl ((v4 &&& (-v4)) >>> (v3 &&& 31)))] [] h) (k2 : (v2 &&& (((v4 &&& (-v4)) >>> (v3 &&& 31)) - (nI 1))) = 0 → J mX9_mayTell d 0 0 Q 0 0 96 [u0, u1, some (.inl v2), some (.inl v3), some (.inl v4), some (.inl ((v4 &&& (-v4)) >>> (v3 &&& 31)))] [] h) : J mX9_mayTell d 0 0 Q 0 0 77 [u0, u1, some (.inl v2), some (.inl v3), some (.inl v4), u5] [] h := by
  refine zrun 44 13 qX9_mayTell (o := 9) rfl ?_
  show ((¬ (v2 &&& (((v4 &&& (-v4)) >>> (v3 &&& 31)) - (nI 1))) = 0 → J mX9_mayTell d 0 0 Q 0 0 100 [u0, u1, some (.inl v2), some (.inl v3), some (.inl v4), some (.inl ((v4 &&& (-v4)) >>> (v3 &&& 31)))] [] h) ∧ ((v2 &&& (((v4 &&& (-v4)) >>> (v3 &&& 31)) - (nI 1))) = 0 → J mX9_mayTell d 0 0 Q 0 0 96 [u0, u1, some (.inl v2), some (.inl v3), some (.inl v4), some (.inl ((v4 &&& (-v4)) >>> (v3 &&& 31)))] [] h))
  exact ⟨k1, k2⟩

theorem bX9_mayTell_96 {d : Nat} {Q : Option MV → MH → Prop} {h : MH} {u0 u1 u2 u3 u4 u5 : Option MV} (k : J mX9_mayTell d 0 0 Q 0 0 101 [u0, u1, u2, u3, u4, u5] [.inl (nI 1)] h) : J mX9_mayTell d 0 0 Q 0 0 96 [u0, u1, u2, u3, u4, u5] [] h := by
  refine zrun 57 2 qX9_mayTell (o := 9) rfl ?_
  show J mX9_mayTell d 0 0 Q 0 0 101 [u0, u1, u2, u3, u4, u5] [.inl (nI 1)] h
  exact k

theorem bX9_mayTell_100 {d : Nat} {Q : Option MV → MH → Prop} {h : MH} {u0 u1 u2 u3 u4 u5 : Option MV} (k : J mX9_mayTell d 0 0 Q 0 0 101 [u0, u1, u2, u3, u4, u5] [.inl (nI 0)] h) : J mX9_mayTell d 0 0 Q 0 0 100 [u0, u1, u2, u3, u4, u5] [] h := by
  refine zrun 59 1 qX9_mayTell (o := 9) rfl ?_
  show J mX9_mayTell d 0 0 Q 0 0 101 [u0, u1, u2, u3, u4, u5] [.inl (nI 0)] h
  exact k

theorem bX9_mayTell_101 {d : Nat} {Q : Option MV → MH → Prop} {h : MH} {u0 u1 u2 u3 u4 u5 : Option MV} {vs0 : Int32} (gn : vs0 = 0 ∨ vs0 = 1) (k : Q (some (.inl vs0)) h) : J mX9_mayTell d 0 0 Q 0 0 101 [u0, u1, u2, u3, u4, u5] [.inl vs0] h := by
  exact J_iret (ty := .boolean) (zat qX9_mayTell 60 (by rfl)) rfl (znz gn) (Nat.le_refl 0) (Nat.le_refl 0) k

theorem bX9_newFlames_0 {d : Nat} {Q : Option MV → MH → Prop} {h : MH} {u0 u2 u3 : Option MV} {v1 : Int32} (k : J mX9_newFlames d 0 0 Q 0 0 4 [u0, some (.inl v1), some (.inl (nI 0)), some (.inl (nI 0))] [] h) : J mX9_newFlames d 0 0 Q 0 0 0 [u0, some (.inl v1), u2, u3] [] h := by
  refine zrun 0 4 qX9_newFlames (o := 9) rfl ?_
  show J mX9_newFlames d 0 0 Q 0 0 4 [u0, some (.inl v1), some (.inl (nI 0)), some (.inl (nI 0))] [] h
  exact k

theorem bX9_newFlames_4 {d : Nat} {Q : Option MV → MH → Prop} {h : MH} {u1 u2 : Option MV} {v3 : Int32} (hr : zRf h) (k1 : (h.1 62 0) ≤ v3 → J mX9_newFlames d 0 0 Q 0 0 44 [some (.inr (.inr 62)), u1, u2, some (.inl v3)] [] h) (k2 : ¬ (h.1 62 0) ≤ v3 → J mX9_newFlames d 0 0 Q 0 0 12 [some (.inr (.inr 62)), u1, u2, some (.inl v3)] [] h) : J mX9_newFlames d 0 0 Q 0 0 4 [some (.inr (.inr 62)), u1, u2, some (.inl v3)] [] h := by
  refine zrun 4 4 qX9_newFlames (o := 9) rfl ?_
  show zokO h 62 9 ∧ (((h.1 62 0) ≤ v3 → J mX9_newFlames d 0 0 Q 0 0 44 [some (.inr (.inr 62)), u1, u2, some (.inl v3)] [] h) ∧ (¬ (h.1 62 0) ≤ v3 → J mX9_newFlames d 0 0 Q 0 0 12 [some (.inr (.inr 62)), u1, u2, some (.inl v3)] [] h))
  exact ⟨(zo hr (by decide) rfl), k1, k2⟩

theorem bX9_newFlames_12 {d : Nat} {Q : Option MV → MH → Prop} {h : MH} {v2 v1 v3 : Int32} (hr : zRf h) (g0 : vp_in v1 5) (g1 : zokA h (72 + v1.toNatClampNeg) 20 v3) (g2 : vp_in (v1 - (nI 1)) 5) (g3 : zokA h (72 + (v1 - (nI 1)).toNatClampNeg) 20 v3) (hd : 1 ≤ d) (k : J mX9_newFlames d 0 0 Q 0 0 36 [some (.inr (.inr 62)), some (.inl v1), some (.inl v2), some (.inl v3)] [.inl (if (nI 0) < ((h.1 (72 + v1.toNatClampNeg) v3.toNatClampNeg) - (h.1 (72 + (v1 - (nI 1)).toNatClampNeg) v3.toNatClampNeg)) then ((h.1 (72 + v1.toNatClampNeg) v3.toNatClampNeg) - (h.1 (72 + (v1 - (nI 1)).toNatClampNeg) v3.toNatClampNeg)) else (nI 0)), .inl v2] h) : J mX9_newFlames d 0 0 Q 0 0 12 [some (.inr (.inr 62)), some (.inl v1), some (.inl v2), some (.inl v3)] [] h := by
  refine zrun 8 17 qX9_newFlames (o := 9) rfl ?_
  show zokO h 62 9 ∧ zokR h (h.2.2.1 62 15) v1 ∧ zokA h (h.2.2.1 (h.2.2.1 62 15) v1.toNatClampNeg) 20 v3 ∧ zokO h 62 9 ∧ zokR h (h.2.2.1 62 15) (v1 - (nI 1)) ∧ zokA h (h.2.2.1 (h.2.2.1 62 15) (v1 - (nI 1)).toNatClampNeg) 20 v3 ∧ J mX9_newFlames d 0 0 Q 0 0 33 [some (.inr (.inr 62)), some (.inl v1), some (.inl v2), some (.inl v3)] [.inl ((h.1 (h.2.2.1 (h.2.2.1 62 15) v1.toNatClampNeg) v3.toNatClampNeg) - (h.1 (h.2.2.1 (h.2.2.1 62 15) (v1 - (nI 1)).toNatClampNeg) v3.toNatClampNeg)), .inl (nI 0), .inl v2] h
  rw [(show h.2.2.1 62 15 = 71 from (hr.at (by decide) (by decide) (by rfl))), (show h.2.2.1 71 v1.toNatClampNeg = (72 + v1.toNatClampNeg) from (hr.a33 (by decide) (by rfl) (vp_lt g0))), (show h.2.2.1 71 (v1 - (nI 1)).toNatClampNeg = (72 + (v1 - (nI 1)).toNatClampNeg) from (hr.a33 (by decide) (by rfl) (vp_lt g2)))]
  exact ⟨(zo hr (by decide) rfl), (zir_ hr (by decide) (by rfl) (by decide) g0), g1, (zo hr (by decide) rfl), (zir_ hr (by decide) (by rfl) (by decide) g2), g3, zmax (zat qX9_newFlames 25 (by rfl)) mm9_140 rfl hd (Nat.le_of_ble_eq_true rfl) zle0 k⟩

theorem bX9_newFlames_36 {d : Nat} {Q : Option MV → MH → Prop} {h : MH} {u0 u2 : Option MV} {vs0 vs1 v1 v3 : Int32} (k : J mX9_newFlames d 0 0 Q 0 0 4 [u0, some (.inl v1), some (.inl (vs0 + vs1)), some (.inl (v3 + nI 1))] [] h) : J mX9_newFlames d 0 0 Q 0 0 36 [u0, some (.inl v1), u2, some (.inl v3)] [.inl vs1, .inl vs0] h := by
  refine zrun 26 4 qX9_newFlames (o := 9) rfl ?_
  show J mX9_newFlames d 0 0 Q 0 0 4 [u0, some (.inl v1), some (.inl (vs0 + vs1)), some (.inl (v3 + nI 1))] [] h
  exact k

theorem bX9_newFlames_44 {d : Nat} {Q : Option MV → MH → Prop} {h : MH} {u0 u1 u3 : Option MV} {v2 : Int32} (k : Q (some (.inl v2)) h) : J mX9_newFlames d 0 0 Q 0 0 44 [u0, u1, some (.inl v2), u3] [] h := by
  refine zrun 30 1 qX9_newFlames (o := 9) rfl ?_
  show J mX9_newFlames d 0 0 Q 0 0 45 [u0, u1, some (.inl v2), u3] [.inl v2] h
  exact J_iret (ty := .int) (zat qX9_newFlames 31 (by rfl)) rfl rfl (Nat.le_refl 0) (Nat.le_refl 0) k

