/-! ===== open, readLine ===== -/
theorem c_open {C : CE} {h : MH} {d : Nat} {Q : Option MV → MH → Prop} (hr : zRf h) (hC : cOK C) (q : cAt C h 4) (k0 : ¬ C.1 < 8 → Q (some (.inl (-(nI 1)))) h) (k1 : C.1 < 8 → ∀ h', zRf h' → zF (fun a => a < 4 ∨ 8 < a) h h' → cNew C 0 (fun _ => 0) 60 0 h' 4 → Q (some (.inl (nI C.1))) h') : Con mX2_open d 0 0 [.inr (.inr 4)] h Q := by
  have h8 := hC.1
  have e0 := q.1
  have o1 : ∀ (g : MH) (k : Nat) (v : Int32), (zsI g (4 + 1) k v).1 4 = g.1 4 := fun g k v => zI_o g k v (by decide)
  have o3 : ∀ (g : MH) (k : Nat) (v : Int32), (zsI g (4 + 3) k v).1 4 = g.1 4 := fun g k v => zI_o g k v (by decide)
  have o4 : ∀ (g : MH) (k : Nat) (v : Int32), (zsI g (4 + 4) k v).1 4 = g.1 4 := fun g k v => zI_o g k v (by decide)
  have ec : (nI C.1).toNatClampNeg = C.1 := nI_clamp (by omega)
  have hlt : h.1 4 0 < nI 8 ↔ C.1 < 8 := by rw [e0, nI_ltI (by omega) (by omega)]
  refine t_X2_open hr (zo hr (by decide) rfl) (fun p => ?_) (fun p => ?_) (fun p => ?_) (fun p => ?_) (fun p => k0 (fun z => p (hlt.mpr z)))
  · rw [e0]; exact vp_in_nI (hlt.mp p) (by omega)
  · rw [o1, e0]; exact vp_in_nI (hlt.mp p) (by omega)
  · rw [o3, o1, e0]; exact vp_in_nI (hlt.mp p) (by omega)
  · simp only [o1, o3, o4, zI_s, e0, ec, nI_add]
    rw [pk_sub (by omega), show C.1 + 1 - 1 = C.1 by omega]
    refine k1 (hlt.mp p) _ hr ((((zF_I _ _ _ (by omega)).trans (zF_I _ _ _ (by omega))).trans (zF_I _ _ _ (by omega))).trans (zF_I _ _ _ (by omega))) ⟨?_, fun c hc => ?_, ?_, fun j hj => absurd hj (Nat.not_lt_zero _), ?_, ?_⟩
    · rw [zI_s]
    · have := q.2 c hc
      refine ⟨?_, fun k hk => ?_, ?_, ?_⟩
      · rw [zI_o _ _ _ (by decide), zI_o _ _ _ (by decide), zI_o _ _ _ (by decide), zI_k _ _ _ (by omega)]; exact this.1
      · rw [zI_o _ _ _ (by decide), zI_o _ _ _ (by decide), zI_o _ _ _ (by decide), zI_o _ _ _ (by decide)]; exact this.2.1 k hk
      · rw [zI_o _ _ _ (by decide), zI_o _ _ _ (by decide), zI_k _ _ _ (by omega), zI_o _ _ _ (by decide)]; exact this.2.2.1
      · rw [zI_o _ _ _ (by decide), zI_k _ _ _ (by omega), zI_o _ _ _ (by decide), zI_o _ _ _ (by decide)]; exact this.2.2.2
    · rw [zI_o _ _ _ (by decide), zI_o _ _ _ (by decide), zI_o _ _ _ (by decide), zI_s]
    · rw [zI_o _ _ _ (by decide), zI_o _ _ _ (by decide), zI_s]
    · rw [zI_o _ _ _ (by decide), zI_s]
theorem RI.w {f : Nat → Nat} {n : Nat} {t : TK} {h : MH} {d j : Nat} {Q : Option MV → MH → Prop} (R : RI f n t h) (hZ : kStr) (hj : j < 11) (hd : 11 ≤ d) (kk : Q (some (.inl (if t.1 = j then nI 1 else nI 0))) h) : Con mX6_isWord d 0 0 [.inr (.inr 2), .inr (.inr (1000 + j))] h Q :=
  c_isw hZ R.1 R.2.1 R.2.2.1 hj R.2.2.2.1 R.2.2.2.2.1 R.2.2.2.2.2.1 R.2.2.2.2.2.2.1 hd kk
theorem cAdd_ok {C : CE} {k : Nat} {ms : Nat → Nat} {w d : Nat} (hC : cOK C) (h8 : C.1 < 8) (hk : 1 ≤ k ∧ k ≤ 6) (hm : ∀ j, j < k → 1 ≤ ms j ∧ ms j ≤ 60) (hw : 1 ≤ w ∧ w ≤ 999) (hd : d ≤ 50) : cOK (cAdd C k ms w d) := by
  refine ⟨h8, fun c hc => ?_⟩
  have hc' : c < C.1 + 1 := hc
  show (1 ≤ (if c = C.1 then k else C.2.1 c) ∧ (if c = C.1 then k else C.2.1 c) ≤ 6) ∧ (∀ j, j < (if c = C.1 then k else C.2.1 c) → 1 ≤ (if c = C.1 then ms else C.2.2.1 c) j ∧ (if c = C.1 then ms else C.2.2.1 c) j ≤ 60) ∧ (1 ≤ (if c = C.1 then w else C.2.2.2.1 c) ∧ (if c = C.1 then w else C.2.2.2.1 c) ≤ 999) ∧ (if c = C.1 then d else C.2.2.2.2 c) ≤ 50
  by_cases e : c = C.1
  · rw [if_pos e, if_pos e, if_pos e, if_pos e]
    exact ⟨hk, hm, hw, hd⟩
  · rw [if_neg e, if_neg e, if_neg e, if_neg e]
    exact hC.2 c (by omega)
theorem pOpt_no {f : Nat → Nat} {n : Nat} {t : TK} {w lo hi dflt : Nat} (h : ¬ t.1 = w) : pOpt f n t w lo hi dflt = .inr (dflt, t) := if_neg h
theorem pOpt_in {f : Nat → Nat} {n : Nat} {t : TK} {w lo hi dflt : Nat} {e : Nat × Nat} (h : t.1 = w) (q : pNum (kNx f n t) lo hi = .inl e) : pOpt f n t w lo hi dflt = .inl e := by unfold pOpt; rw [if_pos h, q]
theorem pOpt_ok {f : Nat → Nat} {n : Nat} {t : TK} {w lo hi dflt v : Nat} (h : t.1 = w) (q : pNum (kNx f n t) lo hi = .inr v) : pOpt f n t w lo hi dflt = .inr (v, kNx f n (kNx f n t)) := by unfold pOpt; rw [if_pos h, q]
theorem pNum_b {t : TK} {lo hi v : Nat} (q : pNum t lo hi = .inr v) : lo ≤ v ∧ v ≤ hi := by
  unfold pNum at q
  split at q
  · split at q
    · rename_i w
      have := Sum.inr.inj q
      omega
    · cases q
  · cases q
theorem c_line {f : Nat → Nat} {n : Nat} {t : TK} {C : CE} {h : MH} {d : Nat} {Q : Option MV → MH → Prop} (hZ : kStr) (hC : cOK C) (R : RI f n t h) (q : cAt C h 4) (hd : 13 ≤ d) (k0 : ∀ e h', pLn f n t C = .inl e → zRf h' → zG h h' → h'.1 2 6 = nI e.1 → h'.1 2 7 = nI e.2 → Q (some (.inl (nI 0))) h') (k1 : ∀ C' t' h', pLn f n t C = .inr (C', t') → RI f n t' h' → zG h h' → h'.1 2 6 = h.1 2 6 → h'.1 2 7 = h.1 2 7 → cAt C' h' 4 → cOK C' → Q (some (.inl (nI 1))) h') : Con mX6_readLine d 0 0 [.inr (.inr 2), .inr (.inr 4)] h Q := by
  refine t_X6_readLine (d1' := 12) R.1 (by omega) ?_
  refine R.w hZ (j := 0) (by decide) (by omega) ?_
  have h8 := hC.1
  by_cases c0 : t.1 = 0
  · rw [if_pos c0]
    refine t_X6_readLine_6 (d1' := 0) R.1 (by omega) (by omega) (fun _ => zo R.1 (by decide) rfl) (fun _ => ?_) (fun z => absurd z (by decide)) (fun z => absurd z (by decide))
    refine c_open R.1 hC q (fun w => ?_) (fun w h1 r1 f1 q1 => ?_)
    · have E : pLn f n t C = .inl (pFl t 4) := by unfold pLn; rw [if_pos c0, if_neg w]
      refine t_X6_readLine_19 (d1' := 0) R.1 (by omega) (by omega) (fun z => absurd rfl z) (fun _ z => ?_) (fun _ z => ?_)
      · rw [(rf_at R 4).1 z]
        exact k0 _ _ E (rfH_r _ R.1) (rfH_g _ zF.rfl) (rfH_6 _ _) (rfH_7 _ _)
      · rw [(rf_at R 4).2 z]
        exact k0 _ _ E (rfH_r _ R.1) (rfH_g _ zF.rfl) (rfH_6 _ _) (rfH_7 _ _)
    · have R1 : RI f n t h1 := R.keep r1 (f1.i (by decide)) (f1.i (by decide))
      have g1 : zG h h1 := f1.weak (fun a z => by omega)
      have nm : ¬ nI C.1 = -(nI 1) := by
        have hall : ∀ k, k < 8 → ¬ nI k = -(nI 1) := by decide +kernel
        exact hall _ w
      refine t_X6_readLine_19 (d1' := 3) R1.1 (by omega) (by omega) (fun _ => ?_) (fun z => absurd z nm) (fun z => absurd z nm)
      refine t_X6_readPieces ?_
      have E : pLn f n t C = (match pPcs f n 8 0 (fun _ => 0) (kNx f n t) with
        | .inl e => .inl e
        | .inr (k, ms, t1) => match pOpt f n t1 1 1 999 60 with
          | .inl e => .inl e
          | .inr (w, t2) => match pOpt f n t2 2 0 50 0 with
            | .inl e => .inl e
            | .inr (d, t3) => if t3.1 = 13 then .inr (cAdd C k ms w d, t3) else .inl (pFl t3 2)) := by
        unfold pLn
        rw [if_pos c0, if_pos w]
        rfl
      refine c_pcs hC w h (by omega) 6 0 (by omega) (fun _ => 0) t h1 R1 g1 (by rw [f1.i (by decide)]) (by rw [f1.i (by decide)]) q1 (fun j hj => absurd hj (Nat.not_lt_zero _)) (fun e h2 he r2 g2 e6 e7 => ?_) (fun k ms t1 h2 he R2 g2 e6 e7 q2 hk hms => ?_)
      · rw [he] at E
        exact t_X6_readLine_37 (d1' := 0) r2 (by omega) (fun z => absurd rfl z) (fun _ => k0 e h2 E r2 g2 e6 e7)
      · rw [he] at E
        replace E : pLn f n t C = (match pOpt f n t1 1 1 999 60 with
          | .inl e => .inl e
          | .inr (w, t2) => match pOpt f n t2 2 0 50 0 with
            | .inl e => .inl e
            | .inr (d, t3) => if t3.1 = 13 then .inr (cAdd C k ms w d, t3) else .inl (pFl t3 2)) := E
        refine t_X6_readLine_37 (d1' := 12) R2.1 (by omega) (fun _ => ?_) (fun z => absurd z (by decide))
        refine R2.w hZ (j := 1) (by decide) (by omega) ?_
        have W : ∀ wx t2 h3, pOpt f n t1 1 1 999 60 = .inr (wx, t2) → (1 ≤ wx ∧ wx ≤ 999) → RI f n t2 h3 → zG h h3 → h3.1 2 6 = h.1 2 6 → h3.1 2 7 = h.1 2 7 → cNew C k ms wx 0 h3 4 → J mX6_readLine d 0 0 Q 0 0 84 [some (.inr (.inr 2)), some (.inr (.inr 4)), some (.inl (nI C.1))] [.inl (if t2.1 = 2 then nI 1 else nI 0)] h3 := by
          intro wx t2 h3 hw hwx R3 g3 f6 f7 q3
          rw [hw] at E
          replace E : pLn f n t C = (match pOpt f n t2 2 0 50 0 with
            | .inl e => .inl e
            | .inr (d, t3) => if t3.1 = 13 then .inr (cAdd C k ms wx d, t3) else .inl (pFl t3 2)) := E
          by_cases c2 : t2.1 = 2
          · rw [if_pos c2]
            refine t_X6_readLine_84 (d1' := 3) R3.1 (by omega) (by omega) (fun z => absurd z (by decide)) (fun z => absurd z (by decide)) (fun z => absurd z (by decide)) (fun _ => ?_)
            refine c_ato (lo := 0) (hi := 50) R3 (by omega) (by omega) (by omega) (fun h4 e R4 s4 he => ?_) (fun h4 v R4 s4 hv hv5 => ?_)
            · rw [pOpt_in c2 he] at E
              exact t_X6_readLine_94 (d1' := 0) (rfH_r _ R4.1) (by omega) (fun z => absurd rfl z) (fun z => absurd rfl z) (fun z => absurd rfl z) (fun _ => k0 e _ E (rfH_r _ R4.1) (rfH_g _ (g3.trans s4.g)) (rfH_6 _ _) (rfH_7 _ _))
            · rw [pOpt_ok c2 hv] at E
              replace E : pLn f n t C = (if (kNx f n (kNx f n t2)).1 = 13 then .inr (cAdd C k ms wx v, kNx f n (kNx f n t2)) else .inl (pFl (kNx f n (kNx f n t2)) 2)) := E
              refine t_X6_readLine_94 (d1' := 2) R4.1 (by omega) (fun _ => zo R4.1 (by decide) rfl) (fun _ => vp_in_nI w (by omega)) (fun _ => ?_) (fun z => absurd z (by decide))
              rw [hv5, nI_clamp (by omega)]
              have q4 := q3.rS s4
              have R5 : RI f n (kNx f n t2) (zsI h4 (4 + 4) C.1 (nI v)) := R4.keep R4.1 (zI_o _ _ _ (by decide)) (zI_o _ _ _ (by decide))
              have q5 : cNew C k ms wx v (zsI h4 (4 + 4) C.1 (nI v)) 4 := by
                obtain ⟨a0, ao, a1, a2, a3, a4⟩ := q4
                refine ⟨a0, fun c hc => ⟨(ao c hc).1, (ao c hc).2.1, (ao c hc).2.2.1, ?_⟩, a1, a2, a3, zI_s _ _ _ _⟩
                rw [zI_k _ _ _ (by omega)]; exact (ao c hc).2.2.2
              refine c_nxt R5 (by omega) (fun h6 R6 s6 => ?_)
              have g6 : zG h h6 := ((g3.trans s4.g).trans (zF_I _ _ _ (by omega))).trans s6.g
              have x6 : h6.1 2 6 = h.1 2 6 := s6.2.1.trans ((congrFun (zI_o h4 C.1 (nI v) (show (2 : Nat) ≠ 4 + 4 by decide)) 6 : (zsI h4 (4 + 4) C.1 (nI v)).1 2 6 = h4.1 2 6).trans (s4.2.1.trans f6))
              have x7 : h6.1 2 7 = h.1 2 7 := s6.2.2.trans ((congrFun (zI_o h4 C.1 (nI v) (show (2 : Nat) ≠ 4 + 4 by decide)) 7 : (zsI h4 (4 + 4) C.1 (nI v)).1 2 7 = h4.1 2 7).trans (s4.2.2.trans f7))
              refine t_X6_readLine_113 R6.1 (by omega) (fun z => ?_) (fun z z2 => ?_) (fun z z2 => ?_)
              · have z3 := R6.cl.2.2.1.mp z
                rw [if_pos z3] at E
                exact k1 _ _ h6 E R6 g6 x6 x7 (cNew_at (q5.rS s6)) (cAdd_ok hC w hk hms hwx (pNum_b hv).2)
              · rw [if_neg (fun z3 => z (R6.cl.2.2.1.mpr z3))] at E
                rw [(rf_at R6 2).1 z2]
                exact k0 _ _ E (rfH_r _ R6.1) (rfH_g _ g6) (rfH_6 _ _) (rfH_7 _ _)
              · rw [if_neg (fun z3 => z (R6.cl.2.2.1.mpr z3))] at E
                rw [(rf_at R6 2).2 z2]
                exact k0 _ _ E (rfH_r _ R6.1) (rfH_g _ g6) (rfH_6 _ _) (rfH_7 _ _)
          · rw [if_neg c2]
            rw [pOpt_no c2] at E
            replace E : pLn f n t C = (if t2.1 = 13 then .inr (cAdd C k ms wx 0, t2) else .inl (pFl t2 2)) := E
            refine t_X6_readLine_84 (d1' := 0) R3.1 (by omega) (by omega) (fun _ z => ?_) (fun _ z z2 => ?_) (fun _ z z2 => ?_) (fun z => absurd rfl z)
            · have z3 := R3.cl.2.2.1.mp z
              rw [if_pos z3] at E
              exact k1 _ _ h3 E R3 g3 f6 f7 (cNew_at q3) (cAdd_ok hC w hk hms hwx (by omega))
            · rw [if_neg (fun z3 => z (R3.cl.2.2.1.mpr z3))] at E
              rw [(rf_at R3 2).1 z2]
              exact k0 _ _ E (rfH_r _ R3.1) (rfH_g _ g3) (rfH_6 _ _) (rfH_7 _ _)
            · rw [if_neg (fun z3 => z (R3.cl.2.2.1.mpr z3))] at E
              rw [(rf_at R3 2).2 z2]
              exact k0 _ _ E (rfH_r _ R3.1) (rfH_g _ g3) (rfH_6 _ _) (rfH_7 _ _)
        by_cases c1 : t1.1 = 1
        · rw [if_pos c1]
          refine t_X6_readLine_48 (d1' := 0) (d2' := 3) R2.1 (by omega) (by omega) (fun z => absurd z (by decide)) (fun _ => ?_)
          refine c_ato (lo := 1) (hi := 999) R2 (by omega) (by omega) (by omega) (fun h4 e R4 s4 he => ?_) (fun h4 v R4 s4 hv hv5 => ?_)
          · rw [pOpt_in c1 he] at E
            exact t_X6_readLine_59 (d1' := 0) (rfH_r _ R4.1) (by omega) (fun z => absurd rfl z) (fun z => absurd rfl z) (fun z => absurd rfl z) (fun _ => k0 e _ E (rfH_r _ R4.1) (rfH_g _ (g2.trans s4.g)) (rfH_6 _ _) (rfH_7 _ _))
          · refine t_X6_readLine_59 (d1' := 2) R4.1 (by omega) (fun _ => zo R4.1 (by decide) rfl) (fun _ => vp_in_nI w (by omega)) (fun _ => ?_) (fun z => absurd z (by decide))
            rw [hv5, nI_clamp (by omega)]
            have q4 := q2.rS s4
            have R5 : RI f n (kNx f n t1) (zsI h4 (4 + 3) C.1 (nI v)) := R4.keep R4.1 (zI_o _ _ _ (by decide)) (zI_o _ _ _ (by decide))
            have q5 : cNew C k ms v 0 (zsI h4 (4 + 3) C.1 (nI v)) 4 := by
              obtain ⟨a0, ao, a1, a2, a3, a4⟩ := q4
              refine ⟨a0, fun c hc => ⟨(ao c hc).1, (ao c hc).2.1, ?_, (ao c hc).2.2.2⟩, a1, a2, zI_s _ _ _ _, a4⟩
              rw [zI_k _ _ _ (by omega)]; exact (ao c hc).2.2.1
            refine c_nxt R5 (by omega) (fun h6 R6 s6 => ?_)
            have g6 : zG h h6 := ((g2.trans s4.g).trans (zF_I _ _ _ (by omega))).trans s6.g
            have x6 : h6.1 2 6 = h.1 2 6 := s6.2.1.trans ((congrFun (zI_o h4 C.1 (nI v) (show (2 : Nat) ≠ 4 + 3 by decide)) 6 : (zsI h4 (4 + 3) C.1 (nI v)).1 2 6 = h4.1 2 6).trans (s4.2.1.trans e6))
            have x7 : h6.1 2 7 = h.1 2 7 := s6.2.2.trans ((congrFun (zI_o h4 C.1 (nI v) (show (2 : Nat) ≠ 4 + 3 by decide)) 7 : (zsI h4 (4 + 3) C.1 (nI v)).1 2 7 = h4.1 2 7).trans (s4.2.2.trans e7))
            refine t_X6_readLine_78 (d1' := 12) R6.1 (by omega) ?_
            refine R6.w hZ (j := 2) (by decide) (by omega) ?_
            exact W v _ h6 (pOpt_ok c1 hv) (pNum_b hv) R6 g6 x6 x7 (q5.rS s6)
        · rw [if_neg c1]
          refine t_X6_readLine_48 (d1' := 12) (d2' := 0) R2.1 (by omega) (by omega) (fun _ => ?_) (fun z => absurd rfl z)
          refine R2.w hZ (j := 2) (by decide) (by omega) ?_
          exact W 60 t1 h2 (pOpt_no c1) (by decide) R2 g2 e6 e7 q2
  · rw [if_neg c0]
    have E : pLn f n t C = .inl (pFl t 2) := by unfold pLn; rw [if_neg c0]
    refine t_X6_readLine_6 (d1' := 0) R.1 (by omega) (by omega) (fun z => absurd rfl z) (fun z => absurd rfl z) (fun _ z => ?_) (fun _ z => ?_)
    · rw [(rf_at R 2).1 z]
      exact k0 _ _ E (rfH_r _ R.1) (rfH_g _ zF.rfl) (rfH_6 _ _) (rfH_7 _ _)
    · rw [(rf_at R 2).2 z]
      exact k0 _ _ E (rfH_r _ R.1) (rfH_g _ zF.rfl) (rfH_6 _ _) (rfH_7 _ _)
