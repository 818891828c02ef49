/-! ===== the reference's readCandle ===== -/
def cOm (C : CE) (h : MH) : Prop := ∀ c, c < C.1 → h.1 115 (1 + c) = nI (C.2.1 c) ∧ (∀ k, k < C.2.1 c → h.1 115 (9 + 6 * c + k) = nI (C.2.2.1 c k)) ∧ h.1 115 (57 + c) = nI (C.2.2.2.1 c) ∧ h.1 115 (65 + c) = nI (C.2.2.2.2 c)
def cTm (C : CE) (n : Nat) (h : MH) : Prop := h.1 115 0 = nI C.1 ∧ h.1 115 73 = nI C.1 ∧ cOm C h ∧ ∀ c, n ≤ c → c < 8 → h.1 115 (65 + c) = nI 0
def cM6 (C : CE) : Prop := C.1 ≤ 8 ∧ ∀ c, c < C.1 → C.2.1 c ≤ 6
def cFr (C : CE) (h : MH) : Prop := cTm C C.1 h ∧ cM6 C
theorem cFr.i {C : CE} {h : MH} (q : cFr C h) : cIn C (h.1 115) 0 := by
  obtain ⟨⟨h0, h1, h2, h3⟩, _⟩ := q
  refine ⟨h0, h1, fun c hc => ?_⟩
  obtain ⟨a, b, c1, d⟩ := h2 c hc
  rw [show 0 + 1 + c = 1 + c by omega, show 0 + 57 + c = 57 + c by omega, show 0 + 65 + c = 65 + c by omega]
  refine ⟨a, fun k hk => ?_, c1, d⟩
  rw [show 0 + 9 + 6 * c + k = 9 + 6 * c + k by omega]
  exact b k hk
theorem cTm.keep {C : CE} {n : Nat} {h h' : MH} (q : cTm C n h) (e : h'.1 115 = h.1 115) : cTm C n h' := by
  obtain ⟨h0, h1, h2, h3⟩ := q
  unfold cTm cOm
  rw [e]
  exact ⟨h0, h1, h2, h3⟩
/-- a write beside what stands -/
theorem cTm.put {C : CE} {n j : Nat} {v : Int32} {h : MH} (q : cTm C n h) (h6 : cM6 C) (hj : (1 + C.1 ≤ j ∧ j < 9) ∨ (9 + 6 * C.1 ≤ j ∧ j < 57) ∨ (57 + C.1 ≤ j ∧ j < 65) ∨ (65 + C.1 ≤ j ∧ j < 65 + n)) (hn : n ≤ 8) : cTm C n (zsI h 115 j v) := by
  obtain ⟨h0, h1, h2, h3⟩ := q
  have h8 := h6.1
  refine ⟨by rw [zI_k _ _ _ (by omega)]; exact h0, by rw [zI_k _ _ _ (by omega)]; exact h1, fun c hc => ?_, fun c c1 c2 => ?_⟩
  · obtain ⟨a, b, c1, d⟩ := h2 c hc
    have := h6.2 c hc
    refine ⟨?_, fun k hk => ?_, ?_, ?_⟩
    · rw [zI_k _ _ _ (by omega)]; exact a
    · rw [zI_k _ _ _ (by omega)]; exact b k hk
    · rw [zI_k _ _ _ (by omega)]; exact c1
    · rw [zI_k _ _ _ (by omega)]; exact d
  · rw [zI_k _ _ _ (by omega)]; exact h3 c c1 c2
def cQm (C : CE) (i : Nat) (ms : Nat → Nat) (w dr : Nat) (h : MH) : Prop := cTm C (C.1 + 1) h ∧ h.1 115 (1 + C.1) = nI i ∧ (∀ j, j < i → h.1 115 (9 + 6 * C.1 + j) = nI (ms j)) ∧ h.1 115 (57 + C.1) = nI w ∧ h.1 115 (65 + C.1) = nI dr
theorem cQm.keep {C : CE} {i : Nat} {ms : Nat → Nat} {w dr : Nat} {h h' : MH} (q : cQm C i ms w dr h) (e : h'.1 115 = h.1 115) : cQm C i ms w dr h' := by
  obtain ⟨h0, h1, h2, h3⟩ := q
  refine ⟨h0.keep e, ?_⟩
  rw [e]
  exact ⟨h1, h2, h3⟩
theorem cQ_fin {C : CE} {i : Nat} {ms : Nat → Nat} {w dr : Nat} {h : MH} (q : cQm C i ms w dr h) (h6 : cM6 C) (h8 : C.1 < 8) (hi : i ≤ 6) : cFr (cAdd C i ms w dr) (zsI (zsI h 115 0 (nI (C.1 + 1))) 115 73 (nI (C.1 + 1))) := by
  obtain ⟨⟨h0, h1, h2, h3⟩, a1, a2, a3, a4⟩ := q
  refine ⟨⟨?_, ?_, fun c hc => ?_, fun c c1 c2 => ?_⟩, ?_, fun c hc => ?_⟩
  · rw [zI_k _ _ _ (by omega), zI_s]; rfl
  · rw [zI_s]; rfl
  · have hc' : c < C.1 + 1 := hc
    by_cases y : c = C.1
    · subst y
      have e1 : (cAdd C i ms w dr).2.1 C.1 = i := if_pos rfl
      have e2 : (cAdd C i ms w dr).2.2.1 C.1 = ms := if_pos rfl
      have e3 : (cAdd C i ms w dr).2.2.2.1 C.1 = w := if_pos rfl
      have e4 : (cAdd C i ms w dr).2.2.2.2 C.1 = dr := if_pos rfl
      rw [e1, e2, e3, e4]
      refine ⟨?_, fun k hk => ?_, ?_, ?_⟩
      · rw [zI_k _ _ _ (by omega), zI_k _ _ _ (by omega)]; exact a1
      · rw [zI_k _ _ _ (by omega), zI_k _ _ _ (by omega)]; exact a2 k hk
      · rw [zI_k _ _ _ (by omega), zI_k _ _ _ (by omega)]; exact a3
      · rw [zI_k _ _ _ (by omega), zI_k _ _ _ (by omega)]; exact a4
    · have e1 : (cAdd C i ms w dr).2.1 c = C.2.1 c := if_neg y
      have e2 : (cAdd C i ms w dr).2.2.1 c = C.2.2.1 c := if_neg y
      have e3 : (cAdd C i ms w dr).2.2.2.1 c = C.2.2.2.1 c := if_neg y
      have e4 : (cAdd C i ms w dr).2.2.2.2 c = C.2.2.2.2 c := if_neg y
      rw [e1, e2, e3, e4]
      obtain ⟨b1, b2, b3, b4⟩ := h2 c (by omega)
      have := h6.2 c (by omega)
      refine ⟨?_, fun k hk => ?_, ?_, ?_⟩
      · rw [zI_k _ _ _ (by omega), zI_k _ _ _ (by omega)]; exact b1
      · rw [zI_k _ _ _ (by omega), zI_k _ _ _ (by omega)]; exact b2 k hk
      · rw [zI_k _ _ _ (by omega), zI_k _ _ _ (by omega)]; exact b3
      · rw [zI_k _ _ _ (by omega), zI_k _ _ _ (by omega)]; exact b4
  · have c1' : C.1 + 1 ≤ c := c1
    rw [zI_k _ _ _ (by omega), zI_k _ _ _ (by omega)]
    exact h3 c c1' c2
  · show C.1 + 1 ≤ 8
    omega
  · have hc' : c < C.1 + 1 := hc
    by_cases y : c = C.1
    · have e1 : (cAdd C i ms w dr).2.1 c = i := if_pos y
      rw [e1]; exact hi
    · have e1 : (cAdd C i ms w dr).2.1 c = C.2.1 c := if_neg y
      rw [e1]; exact h6.2 c (by omega)
