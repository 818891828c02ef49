/-! ===== open, readLine ===== -/
theorem c_open {C : CE} {h : MH} {d : Nat} {Q : Option MV → MH → Prop} (hr : zRf h) (hC : cOK C) (q : cAt C h 4) (k0 : ¬ C.1 < 8 → Q (some (.inl (-(nI 1)))) h) (k1 : C.1 < 8 → ∀ h', zRf h' → zF (fun a => a < 4 ∨ 8 < a) h h' → cNew C 0 (fun _ => 0) 60 0 h' 4 → Q (some (.inl (nI C.1))) h') : Con mX2_open d 0 0 [.inr (.inr 4)] h Q := by
  have h8 := hC.1
  have e0 := q.1
  have o1 : ∀ (g : MH) (k : Nat) (v : Int32), (zsI g (4 + 1) k v).1 4 = g.1 4 := fun g k v => zI_o g k v (by decide)
  have o3 : ∀ (g : MH) (k : Nat) (v : Int32), (zsI g (4 + 3) k v).1 4 = g.1 4 := fun g k v => zI_o g k v (by decide)
  have o4 : ∀ (g : MH) (k : Nat) (v : Int32), (zsI g (4 + 4) k v).1 4 = g.1 4 := fun g k v => zI_o g k v (by decide)
  have ec : (nI C.1).toNatClampNeg = C.1 := nI_clamp (by omega)
  have hlt : h.1 4 0 < nI 8 ↔ C.1 < 8 := by rw [e0, nI_ltI (by omega) (by omega)]
  refine t_X2_open hr (zo hr (by decide) rfl) (fun p => ?_) (fun p => ?_) (fun p => ?_) (fun p => ?_) (fun p => k0 (fun z => p (hlt.mpr z)))
  · rw [e0]; exact vp_in_nI (hlt.mp p) (by omega)
  · rw [o1, e0]; exact vp_in_nI (hlt.mp p) (by omega)
  · rw [o3, o1, e0]; exact vp_in_nI (hlt.mp p) (by omega)
  · simp only [o1, o3, o4, zI_s, e0, ec, nI_add]
    rw [pk_sub (by omega), show C.1 + 1 - 1 = C.1 by omega]
    refine k1 (hlt.mp p) _ hr ((((zF_I _ _ _ (by omega)).trans (zF_I _ _ _ (by omega))).trans (zF_I _ _ _ (by omega))).trans (zF_I _ _ _ (by omega))) ⟨?_, fun c hc => ?_, ?_, fun j hj => absurd hj (Nat.not_lt_zero _), ?_, ?_⟩
    · rw [zI_s]
    · have := q.2 c hc
      refine ⟨?_, fun k hk => ?_, ?_, ?_⟩
      · rw [zI_o _ _ _ (by decide), zI_o _ _ _ (by decide), zI_o _ _ _ (by decide), zI_k _ _ _ (by omega)]; exact this.1
      · rw [zI_o _ _ _ (by decide), zI_o _ _ _ (by decide), zI_o _ _ _ (by decide), zI_o _ _ _ (by decide)]; exact this.2.1 k hk
      · rw [zI_o _ _ _ (by decide), zI_o _ _ _ (by decide), zI_k _ _ _ (by omega), zI_o _ _ _ (by decide)]; exact this.2.2.1
      · rw [zI_o _ _ _ (by decide), zI_k _ _ _ (by omega), zI_o _ _ _ (by decide), zI_o _ _ _ (by decide)]; exact this.2.2.2
    · rw [zI_o _ _ _ (by decide), zI_o _ _ _ (by decide), zI_o _ _ _ (by decide), zI_s]
    · rw [zI_o _ _ _ (by decide), zI_o _ _ _ (by decide), zI_s]
    · rw [zI_o _ _ _ (by decide), zI_s]
theorem RI.w {f : Nat → Nat} {n : Nat} {t : TK} {h : MH} {d j : Nat} {Q : Option MV → MH → Prop} (R : RI f n t h) (hZ : kStr) (hj : j < 11) (hd : 11 ≤ d) (kk : Q (some (.inl (if t.1 = j then nI 1 else nI 0))) h) : Con mX6_isWord d 0 0 [.inr (.inr 3), .inr (.inr (1000 + j))] h Q :=
  c_isw hZ R.1 R.2.1 R.2.2.1 hj R.2.2.2.1 R.2.2.2.2.1 R.2.2.2.2.2.1 R.2.2.2.2.2.2.1 hd kk
theorem cAdd_ok {C : CE} {k : Nat} {ms : Nat → Nat} {w d : Nat} (hC : cOK C) (h8 : C.1 < 8) (hk : 1 ≤ k ∧ k ≤ 6) (hm : ∀ j, j < k → 1 ≤ ms j ∧ ms j ≤ 60) (hw : 1 ≤ w ∧ w ≤ 999) (hd : d ≤ 50) : cOK (cAdd C k ms w d) := by
  refine ⟨h8, fun c hc => ?_⟩
  have hc' : c < C.1 + 1 := hc
  show (1 ≤ (if c = C.1 then k else C.2.1 c) ∧ (if c = C.1 then k else C.2.1 c) ≤ 6) ∧ (∀ j, j < (if c = C.1 then k else C.2.1 c) → 1 ≤ (if c = C.1 then ms else C.2.2.1 c) j ∧ (if c = C.1 then ms else C.2.2.1 c) j ≤ 60) ∧ (1 ≤ (if c = C.1 then w else C.2.2.2.1 c) ∧ (if c = C.1 then w else C.2.2.2.1 c) ≤ 999) ∧ (if c = C.1 then d else C.2.2.2.2 c) ≤ 50
  by_cases e : c = C.1
  · rw [if_pos e, if_pos e, if_pos e, if_pos e]
    exact ⟨hk, hm, hw, hd⟩
  · rw [if_neg e, if_neg e, if_neg e, if_neg e]
    exact hC.2 c (by omega)
