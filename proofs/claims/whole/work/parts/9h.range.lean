/-! ===== cellar, plan: out of range ===== -/
theorem o_cel3 {T : Nat} {x : Int32} {h : MH} {d : Nat} {Q : Option MV → MH → Prop} (hr : zRf h) (h1 : h.1 1 0 = nI T) (hd : 1 ≤ d) (hx : x < 0 ∨ ¬ x ≤ nI T) (kk : Q (some (.inl (-(nI 3)))) h) : Con mX10_cellar d 0 0 [.inr (.inr 1), .inl x] h Q := by
  refine u_X10_cellar (d1' := 0) hr (by omega) ?_
  rw [h1]
  by_cases c : x < 0
  · exact ⟨fun _ => kk, fun z => absurd c z⟩
  · have c2 : ¬ x ≤ nI T := hx.resolve_left c
    exact ⟨fun z => absurd z c, fun _ => ⟨fun z => absurd z c2, fun _ => kk⟩⟩
theorem o_pla3 {T p : Nat} {x : Int32} {h : MH} {d : Nat} {Q : Option MV → MH → Prop} (hr : zRf h) (h1 : h.1 1 0 = nI T) (hp : p < 4) (hd : 1 ≤ d) (hx : x < 0 ∨ ¬ x ≤ nI T) (kk : Q (some (.inl (-(nI 3)))) h) : Con mX10_plan d 0 0 [.inr (.inr 1), .inl (nI p), .inl x] h Q := by
  refine u_X10_plan (d1' := 0) hr (by omega) (by omega) ?_
  rw [h1]
  have a1 : ¬ nI p < 0 := by rw [show (0 : Int32) = nI 0 from rfl]; exact nI_nlt (Nat.zero_le _) (by omega)
  have a2 : ¬ (4 : Int32) ≤ nI p := by rw [show (4 : Int32) = nI 4 from rfl, nI_leI (by omega) (by omega)]; omega
  refine ⟨fun z => absurd z a1, fun _ => ⟨fun z => absurd z a2, fun _ => ?_⟩⟩
  by_cases c : x < 0
  · exact ⟨fun _ => kk, fun z => absurd c z⟩
  · have c2 : ¬ x ≤ nI T := hx.resolve_left c
    exact ⟨fun z => absurd z c, fun _ => ⟨fun z => absurd z c2, fun _ => kk⟩⟩
