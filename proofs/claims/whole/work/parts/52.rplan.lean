/-! ===== the class's draft plan (cell 9) ===== -/
def zH (h h' : MH) : Prop := zF (fun a => a ≠ 2 ∧ (a < 9 ∨ 14 < a)) h h'
/-- a plan while it is read: a rule is open -/
def pMid (P : PL) : Prop := P.1 ≤ 20 ∧ P.2.1 ≤ 40 ∧ (∀ r, r < P.1 → P.2.2.1 r ≤ 8 ∧ P.2.2.2.1 r ≤ P.2.1 ∧ pFr P r ≤ P.2.2.2.1 r) ∧ (P.2.1 = pFr P P.1) ∧ ∀ k, k < P.2.1 → (P.2.2.2.2 k).1 ≤ 4 ∧ (P.2.2.2.2 k).2.1 ≤ 7 ∧ (P.2.2.2.2 k).2.2 ≤ 7
theorem pAddR_ok {P : PL} {b : Nat} (hP : pOK P) (h20 : P.1 < 20) (hb : b ≤ 8) : pOK (pAddR P b) := by
  obtain ⟨p1, p2, p3, p4, p5⟩ := hP
  have hU : ∀ r, r < P.1 → kU P.2.2.2.1 P.1 P.2.1 r = P.2.2.2.1 r := fun r hr => if_neg (by omega)
  have hUn : kU P.2.2.2.1 P.1 P.2.1 P.1 = P.2.1 := if_pos rfl
  have hF : ∀ r, r ≤ P.1 → pFr (pAddR P b) r = pFr P r := by
    intro r hr
    unfold pFr
    by_cases e : r = 0
    · rw [if_pos e, if_pos e]
    · rw [if_neg e, if_neg e]
      exact hU _ (by omega)
  refine ⟨h20, p2, fun r hr => ?_, ?_, p5⟩
  · have hr' : r < P.1 + 1 := hr
    rw [hF r (by omega)]
    show (if r = P.1 then b else P.2.2.1 r) ≤ 8 ∧ kU P.2.2.2.1 P.1 P.2.1 r ≤ P.2.1 ∧ pFr P r ≤ kU P.2.2.2.1 P.1 P.2.1 r
    by_cases e : r = P.1
    · rw [if_pos e, e, hUn, ← p4]
      exact ⟨hb, Nat.le_refl _, Nat.le_refl _⟩
    · rw [if_neg e, hU r (by omega)]
      exact p3 r (by omega)
  · show P.2.1 = if P.1 + 1 = 0 then 0 else kU P.2.2.2.1 P.1 P.2.1 (P.1 + 1 - 1)
    rw [if_neg (by omega), show P.1 + 1 - 1 = P.1 by omega, hUn]
theorem pAddA_ok {P : PL} {a : Nat × Nat × Nat} (hP : pOK P) (h1 : 0 < P.1) (h40 : P.2.1 < 40) (ha : a.1 ≤ 4 ∧ a.2.1 ≤ 7 ∧ a.2.2 ≤ 7) : pOK (pAddA P a) := by
  obtain ⟨p1, p2, p3, p4, p5⟩ := hP
  have hU : ∀ r, r < P.1 - 1 → kU P.2.2.2.1 (P.1 - 1) (P.2.1 + 1) r = P.2.2.2.1 r := fun r hr => if_neg (by omega)
  have hUn : kU P.2.2.2.1 (P.1 - 1) (P.2.1 + 1) (P.1 - 1) = P.2.1 + 1 := if_pos rfl
  have hF : ∀ r, r < P.1 → pFr (pAddA P a) r = pFr P r := by
    intro r hr
    unfold pFr
    by_cases e : r = 0
    · rw [if_pos e, if_pos e]
    · rw [if_neg e, if_neg e]
      exact hU _ (by omega)
  refine ⟨p1, h40, fun r hr => ?_, ?_, fun k hk => ?_⟩
  · have hr' : r < P.1 := hr
    rw [hF r hr']
    have := p3 r hr'
    show P.2.2.1 r ≤ 8 ∧ kU P.2.2.2.1 (P.1 - 1) (P.2.1 + 1) r ≤ P.2.1 + 1 ∧ pFr P r ≤ kU P.2.2.2.1 (P.1 - 1) (P.2.1 + 1) r
    by_cases e : r = P.1 - 1
    · rw [e, hUn]
      rw [e] at this
      exact ⟨this.1, Nat.le_refl _, by omega⟩
    · rw [hU r (by omega)]
      exact ⟨this.1, by omega, this.2.2⟩
  · show P.2.1 + 1 = if P.1 = 0 then 0 else kU P.2.2.2.1 (P.1 - 1) (P.2.1 + 1) (P.1 - 1)
    rw [if_neg (by omega), hUn]
  · have hk' : k < P.2.1 + 1 := hk
    show (kU P.2.2.2.2 P.2.1 a k).1 ≤ 4 ∧ (kU P.2.2.2.2 P.2.1 a k).2.1 ≤ 7 ∧ (kU P.2.2.2.2 P.2.1 a k).2.2 ≤ 7
    by_cases e : k = P.2.1
    · have : kU P.2.2.2.2 P.2.1 a k = a := if_pos e
      rw [this]; exact ha
    · have : kU P.2.2.2.2 P.2.1 a k = P.2.2.2.2 k := if_neg e
      rw [this]; exact p5 k (by omega)
theorem c_addR {P : PL} {b : Nat} {h : MH} {d : Nat} {Q : Option MV → MH → Prop} (hr : zRf h) (hP : pOK P) (q : pAt P h 9) (h20 : P.1 < 20) (kk : ∀ h', zRf h' → zF (fun a => a < 9 ∨ 14 < a) h h' → pAt (pAddR P b) h' 9 → Q none h') : Con mX5_addRule d 0 0 [.inr (.inr 9), .inl (pBy b)] h Q := by
  obtain ⟨q0, q1, q2, q3⟩ := q
  have o1 : ∀ (g : MH) (k : Nat) (v : Int32), (zsI g (9 + 1) k v).1 9 = g.1 9 := fun g k v => zI_o g k v (by decide)
  have o2 : ∀ (g : MH) (k : Nat) (v : Int32), (zsI g (9 + 2) k v).1 9 = g.1 9 := fun g k v => zI_o g k v (by decide)
  have ec : (nI P.1).toNatClampNeg = P.1 := nI_clamp (by omega)
  have nl : ¬ nI 20 ≤ h.1 9 0 := by rw [q0, nI_leI (by omega) (by omega)]; omega
  refine t_X5_addRule hr (zo hr (by decide) rfl) (fun _ => by rw [q0]; exact vp_in_nI h20 (by omega)) (fun _ => by rw [o1, q0]; exact vp_in_nI h20 (by omega)) (fun z => absurd z nl) (fun _ => ?_)
  simp only [o1, o2, q0, q1, ec, nI_add]
  refine kk _ hr (((zF_I _ _ _ (by omega)).trans (zF_I _ _ _ (by omega))).trans (zF_I _ _ _ (by omega))) ⟨zI_s _ _ _ _, ?_, fun r hrr => ?_, fun k hk => ?_⟩
  · rw [zI_k _ _ _ (by decide), o2, o1]; exact q1
  · have hr' : r < P.1 + 1 := hrr
    show (zsI h (9 + 1) P.1 (pBy b)).1 (9 + 1) r = pBy (if r = P.1 then b else P.2.2.1 r) ∧ (zsI (zsI h (9 + 1) P.1 (pBy b)) (9 + 2) P.1 (nI P.2.1)).1 (9 + 2) r = nI (if r = P.1 then P.2.1 else P.2.2.2.1 r)
    by_cases e : r = P.1
    · rw [if_pos e, if_pos e, e, zI_s, zI_s]
      exact ⟨rfl, rfl⟩
    · rw [if_neg e, if_neg e, zI_k _ _ _ e, zI_k _ _ _ e, zI_o _ _ _ (by decide)]
      exact q2 r (by omega)
  · exact q3 k hk
theorem c_addA {P : PL} {a : Nat × Nat × Nat} {h : MH} {d : Nat} {Q : Option MV → MH → Prop} (hr : zRf h) (hP : pOK P) (q : pAt P h 9) (h1 : 0 < P.1) (h40 : P.2.1 < 40) (kk : ∀ h', zRf h' → zF (fun a => a < 9 ∨ 14 < a) h h' → pAt (pAddA P a) h' 9 → Q none h') : Con mX5_addAct d 0 0 [.inr (.inr 9), .inl (nI a.1), .inl (nI a.2.1), .inl (nI a.2.2)] h Q := by
  obtain ⟨q0, q1, q2, q3⟩ := q
  have h20 := hP.1
  have o2 : ∀ (g : MH) (k : Nat) (v : Int32), (zsI g (9 + 2) k v).1 9 = g.1 9 := fun g k v => zI_o g k v (by decide)
  have o3 : ∀ (g : MH) (k : Nat) (v : Int32), (zsI g (9 + 3) k v).1 9 = g.1 9 := fun g k v => zI_o g k v (by decide)
  have o4 : ∀ (g : MH) (k : Nat) (v : Int32), (zsI g (9 + 4) k v).1 9 = g.1 9 := fun g k v => zI_o g k v (by decide)
  have o5 : ∀ (g : MH) (k : Nat) (v : Int32), (zsI g (9 + 5) k v).1 9 = g.1 9 := fun g k v => zI_o g k v (by decide)
  have o9 : ∀ (g : MH) (v : Int32), (zsI g 9 1 v).1 9 0 = g.1 9 0 := fun g v => zI_k g 9 v (by decide)
  have ec : (nI P.2.1).toNatClampNeg = P.2.1 := nI_clamp (by omega)
  have ed : (nI (P.1 - 1)).toNatClampNeg = P.1 - 1 := nI_clamp (by omega)
  have es : nI P.1 - nI 1 = nI (P.1 - 1) := pk_sub (by omega)
  have nl : ¬ nI 40 ≤ h.1 9 1 := by rw [q1, nI_leI (by omega) (by omega)]; omega
  have nl0 : ¬ h.1 9 0 ≤ 0 := by rw [q0]; exact nI_nle h1 (by omega)
  refine t_X5_addAct hr (zo hr (by decide) rfl) (fun _ _ => ?_) (fun _ _ => ?_) (fun _ _ => ?_) (fun _ _ => ?_) (fun z => absurd z nl) (fun _ z => absurd z nl0) (fun _ _ => ?_)
  · rw [q1]; exact vp_in_nI h40 (by omega)
  · rw [o3, q1]; exact vp_in_nI h40 (by omega)
  · rw [o4, o3, q1]; exact vp_in_nI h40 (by omega)
  · rw [o9, o5, o4, o3, q0, es]; exact vp_in_nI (by omega) (by omega)
  · simp only [o3, o4, o5, o9, q0, q1, ec, es, ed, zI_s, nI_add]
    refine kk _ hr (((((zF_I _ _ _ (by omega)).trans (zF_I _ _ _ (by omega))).trans (zF_I _ _ _ (by omega))).trans (zF_I _ _ _ (by omega))).trans (zF_I _ _ _ (by omega))) ⟨?_, ?_, fun r hrr => ?_, fun k hk => ?_⟩
    · rw [o2, o9, o5, o4, o3]; exact q0
    · rw [o2, zI_s]; rfl
    · have hr' : r < P.1 := hrr
      refine ⟨(q2 r hr').1, ?_⟩
      show _ = nI (if r = P.1 - 1 then P.2.1 + 1 else P.2.2.2.1 r)
      by_cases e : r = P.1 - 1
      · rw [if_pos e, e, zI_s]
      · rw [if_neg e, zI_k _ _ _ e]
        exact (q2 r hr').2
    · have hk' : k < P.2.1 + 1 := hk
      show (zsI h (9 + 3) P.2.1 (nI a.1)).1 (9 + 3) k = nI (kU P.2.2.2.2 P.2.1 a k).1 ∧ (zsI h (9 + 4) P.2.1 (nI a.2.1)).1 (9 + 4) k = nI (kU P.2.2.2.2 P.2.1 a k).2.1 ∧ (zsI h (9 + 5) P.2.1 (nI a.2.2)).1 (9 + 5) k = nI (kU P.2.2.2.2 P.2.1 a k).2.2
      by_cases e : k = P.2.1
      · have : kU P.2.2.2.2 P.2.1 a k = a := if_pos e
        rw [this, e, zI_s, zI_s, zI_s]
        exact ⟨rfl, rfl, rfl⟩
      · have : kU P.2.2.2.2 P.2.1 a k = P.2.2.2.2 k := if_neg e
        rw [this, zI_k _ _ _ e, zI_k _ _ _ e, zI_k _ _ _ e]
        exact q3 k (by omega)
