/-! ===== readCellar (class) ===== -/
theorem c_begin {f : Nat → Nat} {n : Nat} {h : MH} {d : Nat} {Q : Option MV → MH → Prop} (hr : zRf h) (hk : kC f n h) (hd : 1 ≤ d) (kk : ∀ h', RI f n (14, 0, 0, 0) h' ∨ True → zRf h' → kC f n h' → h'.1 3 1 = nI n → h'.1 3 2 = nI 0 → zF (fun a => a ≠ 3) h h' → h'.1 3 6 = nI 0 → h'.1 3 7 = -(nI 1) → Q none h') : Con mX6_begin d 0 0 [.inr (.inr 3), .inl (nI n)] h Q := by
  have h4 := hk.1
  have e : (if nI 0 < (if nI 400 < nI n then nI 400 else nI n) then (if nI 400 < nI n then nI 400 else nI n) else nI 0) = nI n := by
    have l : ¬ nI 400 < nI n := by rw [nI_ltI (by omega) (by omega)]; omega
    rw [if_neg l]
    by_cases z : 0 < n
    · rw [if_pos (nI_lt z (by omega))]
    · have : n = 0 := by omega
      subst this
      rw [if_neg (by decide)]
  refine t_X6_begin hr hd ?_
  rw [e]
  refine kk _ (Or.inr trivial) hr (hk.keep rfl) ?_ ?_ ((((zF_I _ _ _ (by omega)).trans (zF_I _ _ _ (by omega))).trans (zF_I _ _ _ (by omega))).trans (zF_I _ _ _ (by omega))) ?_ ?_
  · rw [zI_k _ _ _ (by decide), zI_k _ _ _ (by decide), zI_k _ _ _ (by decide), zI_s]
  · rw [zI_k _ _ _ (by decide), zI_k _ _ _ (by decide), zI_s]
  · rw [zI_k _ _ _ (by decide), zI_s]
  · rw [zI_s]
