/-! ===== where the law starts: the two objects as their constructors leave them ===== -/
def zH0 : MH := (fun _ _ => 0, fun _ _ => 0, fun _ _ => 0, 0)
def hS1 : MH := hX10 (zNw zH0)
def hS2 : MH := hX11 (zNw hS1)
def bN : BK := ((0, fun _ => 0, fun _ _ => 0, fun _ => 0, fun _ => 0), fun _ => pNil)
def sN : SS := (bN, (0, fun _ => 0), (nI 0, -(nI 1)), fun _ => none, fun _ => none)
theorem zvh_0 : zvh zH0 := fun o k h1 h2 _ => by
  have h2' : o ≤ 0 := h2
  omega
theorem hS1_n : hS1.2.2.2 = 110 := rfl
theorem hN1_n : (zNw hS1).2.2.2 = 111 := by
  show hS1.2.2.2 + 1 = 111
  rw [hS1_n]
theorem hS2_n : hS2.2.2.2 = 142 := (nX11 (zNw hS1)).trans (by rw [hN1_n])
theorem hS1_v : zvh hS1 := vX10 (h := zNw zH0) (fun i hi => rfl) (zvh_N zvh_0)
def stT (f : Nat → Nat → Nat) (o : Nat) : Bool := (List.range 60).all (fun k => !(zir o k) || (if zmu o k = true then Nat.ble (f o k) 142 else Nat.beq (f o k) (zR0 o k)))
theorem stT_ok : (List.range 142).all (fun o => stT hS2.2.2.1 (o + 1)) = true := by decide +kernel
set_option maxRecDepth 100000 in
theorem stT_46 (k : Nat) : hS2.2.2.1 46 k = 0 := rfl
theorem zk_31 : (List.range 142).all (fun o => !(Nat.beq (zk (o + 1)).1 31) || Nat.beq (o + 1) 46) = true := by decide +kernel
theorem zir_6 {o k : Nat} (h : zir o k = true) (h0 : 0 < o) (h1 : o ≤ 142) (h46 : o ≠ 46) : k < 60 := by
  by_cases m : zmu o k = true
  · have n31 : (zk o).1 ≠ 31 := fun z => by
      have t := List.all_eq_true.mp zk_31 (o - 1) (List.mem_range.mpr (by omega))
      rw [show o - 1 + 1 = o by omega, z] at t
      simp at t
      omega
    unfold zmu at m
    split at m
    · have := Nat.eq_of_beq_eq_true m; omega
    · have := Nat.eq_of_beq_eq_true m; omega
    · have := Nat.eq_of_beq_eq_true m; omega
    · rename_i z; exact absurd z n31
    · cases m
  · exact zir_60 h (by simpa using m)
theorem hS2_r : zRf hS2 := by
  refine ⟨Or.inl hS2_n, fun o k h1 h2 => ?_⟩
  rw [hS2_n] at h2 ⊢
  by_cases z : o = 46
  · subst z
    have m : zmu 46 k = true := rfl
    exact ⟨fun q => (by rw [m] at q; cases q), fun _ _ => by rw [stT_46]; exact Nat.zero_le _⟩
  · have t := List.all_eq_true.mp stT_ok (o - 1) (List.mem_range.mpr (by omega))
    rw [show o - 1 + 1 = o by omega] at t
    have u : ∀ hz : zir o k = true, (if zmu o k = true then Nat.ble (hS2.2.2.1 o k) 142 else Nat.beq (hS2.2.2.1 o k) (zR0 o k)) = true := fun hz => by
      have v := List.all_eq_true.mp t k (List.mem_range.mpr (zir_6 hz h1 h2 z))
      rw [hz, Bool.not_true, Bool.false_or] at v
      exact v
    refine ⟨fun q hz => ?_, fun q hz => ?_⟩
    · have v := u hz
      rw [q, if_neg (by decide)] at v
      exact Nat.eq_of_beq_eq_true v
    · have v := u hz
      rw [q, if_pos rfl] at v
      exact Nat.le_of_ble_eq_true v
theorem sN_ok : sO sN := ⟨⟨⟨by decide, fun c hc => absurd hc (Nat.not_lt_zero _)⟩, fun p hp => pNil_ok⟩, ⟨by decide, fun k hk => absurd hk (Nat.not_lt_zero _)⟩, fun r s n f h => (by cases h), fun i B h => (by cases h)⟩
theorem i_a : hS2.1 (15 + 1) 0 = nI 0 ∧ (∀ p, p < 4 → hS2.1 (15 + 7 + 6 * p) 0 = nI 0 ∧ hS2.1 (15 + 7 + 6 * p) 1 = nI 0) ∧ hS2.1 1 0 = nI 0 ∧ (hS2.1 2 6 = nI 0 ∧ hS2.1 2 7 = -(nI 1)) ∧ (∀ r, r < 4 → hS2.1 (103 + 2 * r) 0 = nI 0) ∧ hS2.1 58 0 = -(nI 1) ∧ hS2.1 (98 - 1) 0 = nI 0 ∧ hS2.1 (100 - 1) 0 = nI 0 ∧ hS2.1 101 0 = nI 0 := by decide +kernel
theorem i_b : (hS2.1 112 0 = nI 0 ∧ hS2.1 112 73 = nI 0) ∧ (∀ p, p < 4 → hS2.1 112 (0 + 74 + 162 * p) = nI 0 ∧ hS2.1 112 (0 + 74 + 162 * p + 1) = nI 0) ∧ hS2.1 111 5 = nI 0 ∧ (hS2.1 111 13 = nI 0 ∧ hS2.1 111 14 = -(nI 1)) ∧ (∀ r, r < 4 → hS2.1 140 r = -(nI 1)) ∧ (∀ i, i < 2 → hS2.1 113 i = nI 0) ∧ hS2.1 111 28 = -(nI 1) := by decide +kernel
theorem sN_C : sC sN hS2 := by
  obtain ⟨a1, a2, a3, a4, a5, a6, a7, a8, a9⟩ := i_a
  refine ⟨⟨⟨a1, fun c hc => absurd hc (Nat.not_lt_zero _)⟩, fun p hp => ⟨(a2 p hp).1, (a2 p hp).2, fun r hr => absurd hr (Nat.not_lt_zero _), fun k hk => absurd hk (Nat.not_lt_zero _)⟩⟩, ⟨a3, fun k hk => absurd hk (Nat.not_lt_zero _)⟩, a4, fun r hr => ⟨fun _ => a5 r hr, fun s n f h => (by cases h)⟩, ⟨fun i hi => ⟨fun _ => stT_46 i, fun B' h => (by cases h)⟩, fun B0 B1 h => (by cases h), hS2_n⟩, Or.inl a6, ⟨Or.inl a7, Or.inl a8⟩, Or.inl a9⟩
theorem sN_M : sM sN hS2 := by
  obtain ⟨a1, a2, a3, a4, a5, a6, a7⟩ := i_b
  refine ⟨⟨⟨a1.1, a1.2, fun c hc => absurd hc (Nat.not_lt_zero _)⟩, fun p hp => ⟨(a2 p hp).1, (a2 p hp).2, fun r hr => absurd hr (Nat.not_lt_zero _), fun k hk => absurd hk (Nat.not_lt_zero _)⟩⟩, ⟨a3, fun k hk => absurd hk (Nat.not_lt_zero _)⟩, a4, fun r hr => ⟨fun _ => a5 r hr, fun s n f h => (by cases h)⟩, fun i hi => ⟨fun _ => a6 i hi, fun B' h => (by cases h)⟩, a7⟩
theorem dL_0 : decode code 0 = .ok (.new 7, 3) := by decide +kernel
theorem dL_3 : decode code 3 = .ok (.dup, 1) := by decide +kernel
theorem dL_4 : decode code 4 = .ok (.invokespecial 9, 3) := by decide +kernel
theorem dL_7 : decode code 7 = .ok (.astore_n 1, 1) := by decide +kernel
theorem dL_8 : decode code 8 = .ok (.new 10, 3) := by decide +kernel
theorem dL_11 : decode code 11 = .ok (.dup, 1) := by decide +kernel
theorem dL_12 : decode code 12 = .ok (.invokespecial 12, 3) := by decide +kernel
theorem dL_15 : decode code 15 = .ok (.astore_n 2, 1) := by decide +kernel
theorem dL_16 : decode code 16 = .ok (.iconst 0, 1) := by decide +kernel
theorem dL_17 : decode code 17 = .ok (.istore_n 3, 1) := by decide +kernel
theorem wL_7 : Cond.classLink "UnevenWaxLaw" 7 (zcn 10) ∈ zgw := zin_gw (i := 130) (by decide +kernel) rfl
theorem wL_10 : Cond.classLink "UnevenWaxLaw" 10 (zcn 11) ∈ zgw := zin_gw (i := 1274) (by decide +kernel) rfl
theorem zinst : ∀ c, c < 12 → Cond.instantiable (zcn c) (zN c) ∈ lw_tbl := by decide +kernel
theorem zinst' (c : Nat) (hc : c < 12) : Cond.instantiable (zcn c) (zN c) ∈ zgw := List.mem_filter.mpr ⟨zinst c hc, rfl⟩
theorem wL_i0 : Cond.initialized (zcn 10) ∈ zgw := zin_gw (i := 110) (by decide +kernel) rfl
theorem wL_i1 : Cond.initialized (zcn 11) ∈ zgw := zin_gw (i := 121) (by decide +kernel) rfl
theorem wL_m0 : Cond.instanceMethod mX10_init.1 ∈ zgw := zin_gw (i := 133) (by decide +kernel) rfl
theorem wL_m1 : Cond.instanceMethod mX11_init.1 ∈ zgw := zin_gw (i := 1277) (by decide +kernel) rfl
theorem kL_9 : zLk "UnevenWaxLaw" 9 0 mX10_init := ⟨⟨zin_gw (i := 132) (by decide +kernel) rfl, zin_gw (i := 110) (by decide +kernel) rfl, zMs_in (i := 0) rfl⟩, by decide +kernel⟩
theorem kL_12 : zLk "UnevenWaxLaw" 12 0 mX11_init := ⟨⟨zin_gw (i := 1276) (by decide +kernel) rfl, zin_gw (i := 121) (by decide +kernel) rfl, zMs_in (i := 184) rfl⟩, by decide +kernel⟩
theorem L_start {E : LE} (F : LF E) (hL : lL E ≤ 3072) : JL E 0 0 0 [some (.inr (.inr 1012)), none, none, none] [] zH0 := by
  refine L_new F dL_0 (cx := 10) (by decide) wL_7 (zinst' 10 (by decide)) wL_i0 (by decide) zvh_0 ⟨fun v hv => absurd hv List.not_mem_nil, fun v hv => ?_⟩ ⟨by decide, by decide⟩ ?_
  · simp at hv; subst hv; exact Or.inr (by decide)
  refine L_dup F dL_3 rfl ?_
  refine L_callI F dL_4 (N := mX10_init) (as := []) (a := 1) (st := [.inr (.inr 1)]) (d' := 1000) (mc' := 109) (ms' := 3085) (Q' := fun r h' => r = none ∧ h' = hS1) kL_9 wL_m0 rfl rfl (Nat.le_refl _) rfl (by decide) ⟨by decide, by decide⟩ (fun _ => ⟨fun v hv => ?_, fun v hv => ?_⟩) (by decide) (tX10 (h := zNw zH0) (fun i hi => rfl) (by decide) (zvh_N zvh_0) (by decide) ⟨rfl, rfl⟩) (fun r h' z => ?_)
  · simp at hv; subst hv; exact Or.inl (Nat.le_refl 1)
  · simp at hv; subst hv; exact Or.inr (by decide)
  obtain ⟨rfl, rfl⟩ := z
  refine L_astore_n F dL_7 (x := 1) (by decide) ?_
  have e1 : zs1 [some (.inr (.inr 1012)), none, none, none] 1 (.inr (.inr 1)) = [some (.inr (.inr 1012)), some (.inr (.inr 1)), none, none] := rfl
  rw [show ((1 : Fin 4) : Nat) = 1 from rfl, e1]
  refine L_new F dL_8 (cx := 11) (by decide) wL_10 (zinst' 11 (by decide)) wL_i1 (by rw [hS1_n]; decide) hS1_v ⟨fun v hv => absurd hv List.not_mem_nil, fun v hv => ?_⟩ ⟨by decide, by decide⟩ ?_
  · simp at hv
    rcases hv with rfl | rfl
    · exact Or.inr (by decide)
    · exact Or.inl (by rw [hS1_n]; decide)
  rw [hS1_n]
  refine L_dup F dL_11 rfl ?_
  refine L_callI F dL_12 (N := mX11_init) (as := []) (a := 111) (st := [.inr (.inr 111)]) (d' := 1000) (mc' := 31) (ms' := 15340) (Q' := fun r h' => r = none ∧ h' = hS2) kL_12 wL_m1 rfl rfl (Nat.le_refl _) rfl (by decide) ⟨by decide, by decide⟩ (fun _ => ⟨fun v hv => ?_, fun v hv => ?_⟩) (by decide) ?_ (fun r h' z => ?_)
  · simp at hv; subst hv; exact Or.inl (by rw [hN1_n]; decide)
  · simp at hv
    rcases hv with rfl | rfl
    · exact Or.inr (by decide)
    · exact Or.inl (by rw [hN1_n]; decide)
  · have t := tX11 (h := zNw hS1) (d := 1000) (Q := fun r h' => r = none ∧ h' = hS2) (fun i hi => by rw [hN1_n]) (by rw [hN1_n]; decide) (zvh_N hS1_v) (by decide) ⟨rfl, rfl⟩
    rw [hN1_n] at t
    exact t
  obtain ⟨rfl, rfl⟩ := z
  refine L_astore_n F dL_15 (x := 111) (by decide) ?_
  refine L_iconst F dL_16 ?_
  refine L_istore_n F dL_17 (by decide) ?_
  exact L_loop F hL 513 0 hS2 sN sN_ok hS2_r sN_C sN_M (by omega) (by decide)
