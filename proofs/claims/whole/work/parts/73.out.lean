/-! ===== what comes out of a run ===== -/
def rY (f : Nat → Nat) (R : RS) : Prop := (∀ b, b ∈ R.2.1 → b ≤ R.2.2.2.2.2) ∧ (∀ c, R.1.2.2.2.2.2 c ≤ R.2.2.2.2.2 + 1) ∧ ∀ c, R.1.2.2.1 c ≤ f c
theorem rY_act {n k : Nat} {a : Nat × Nat × Nat} {f : Nat → Nat} {R : RS} (h : rY f R) : rY f (rAct n k a R) := by
  unfold rAct
  split
  · refine ⟨fun b hb => ?_, h.2.1, h.2.2⟩
    have hb' : b ∈ R.2.1 ++ [R.2.2.2.2.2] := hb
    rcases List.mem_append.mp hb' with z | z
    · exact h.1 b z
    · rw [List.mem_singleton.mp z]; exact Nat.le_refl _
  · split
    · split
      · exact h
      · exact h
    · by_cases q : a.2.1 < n ∧ R.1.2.2.2.2.1 a.2.1 = 0 ∧ (if a.1 = 2 then 0 < R.1.2.1 a.2.1 else R.1.2.1 a.2.1 < 2)
      · rw [if_pos q]; exact h
      · rw [if_neg q]; exact h
theorem rY_acts {P : PL} {n lo : Nat} {f : Nat → Nat} : ∀ (m k : Nat) {R : RS}, rY f R → rY f (rActs P n lo m k R)
  | 0, _, _, h => h
  | m + 1, k, R, h => by
    refine rY_acts m (k + 1) ?_
    split
    · exact h
    · exact rY_act h
theorem rY_rules {P : PL} {n lo c : Nat} {f : Nat → Nat} : ∀ (m r : Nat) {R : RS}, rY f R → rY f (rRules P n lo c m r R)
  | 0, _, _, h => h
  | m + 1, r, R, h => by
    refine rY_rules m (r + 1) ?_
    split
    · exact rY_acts _ _ (show rY f (rDone R r) from h)
    · exact h
theorem rY_ends {P : PL} {n lo : Nat} {E : Nat → Bool} {f : Nat → Nat} : ∀ (m c : Nat) {R : RS}, rY f R → rY f (rEnds P n lo E m c R)
  | 0, _, _, h => h
  | m + 1, c, R, h => by
    refine rY_ends m (c + 1) ?_
    split
    · exact rY_rules _ _ h
    · exact h
theorem rY_burn {n s : Nat} {f : Nat → Nat} {R : RS} (h : rY f R) : rY f (rBurn s n 0 R.1, rTick s R.2) := by
  obtain ⟨a1, a2, a3, a4⟩ := rBurn_rest s n 0 R.1
  have hen : (rBurn s n 0 R.1).2.2.2.2.2 = R.1.2.2.2.2.2 := congrArg (fun z => z.2.2) a2
  refine ⟨fun b hb => Nat.le_trans (h.1 b hb) (Nat.le_add_right _ _), fun c => ?_, fun c => Nat.le_trans (a4 c) (h.2.2 c)⟩
  show (rBurn s n 0 R.1).2.2.2.2.2 c ≤ R.2.2.2.2.2 + s + 1
  rw [hen]
  have := h.2.1 c
  omega
theorem rY_turn {P : PL} {n lo s : Nat} {f : Nat → Nat} {R : RS} (h : rY f R) : rY f (rTurn P n lo s R) := by
  have hb := rY_burn (n := n) (s := s) h
  refine rY_ends _ _ ⟨hb.1, fun c => ?_, hb.2.2⟩
  show (if c < n ∧ rE (rBurn s n 0 R.1) c = true then R.2.2.2.2.2 + s + 1 else (rBurn s n 0 R.1).2.2.2.2.2 c) ≤ R.2.2.2.2.2 + s + 1
  split
  · exact Nat.le_refl _
  · exact hb.2.1 c
/-- what is known of a run's end -/
def rOut (P : PL) (n : Nat) (f : Nat → Nat) (R : RS) : Prop := R.2.1.length ≤ 40 ∧ R.2.2.2.2.1 ≤ 80 ∧ (∀ k, P.2.1 ≤ k → R.2.2.1 k = false) ∧ R.2.2.2.2.2 ≤ 400000000 ∧ rY f R ∧ ∀ c, c < n → R.1.1 c ≤ 400000000 ∧ R.1.2.1 c ≤ 2
theorem rH.o {P : PL} {n t : Nat} {f : Nat → Nat} {R : RS} (hP : pOK P) (h : rH P n t R) (hy : rY f R) : rOut P n f R := by
  obtain ⟨h1, h2, h3, h4⟩ := h
  have w := wD_40 hP (rDm n R)
  have b1 := h2.1
  have b2 := h2.2.1
  have b3 := h1.2.2
  exact ⟨by omega, by omega, h2.2.2.1, by omega, hy, fun c hc => ⟨h1.re c hc, (h1.1.2.2.1 c hc).1⟩⟩
theorem rLoop_o {P : PL} {n lo u : Nat} {f : Nat → Nat} (hP : pOK P) : ∀ (m t : Nat) (R : RS), t + m = 8 → rH P n t R → rY f R → R.2.2.2.2.2 ≤ u → rOut P n f (rLoop P n lo u m R)
  | 0, t, R, _, h, hy, _ => h.o hP hy
  | m + 1, t, R, ht, h, hy, hu => by
    show rOut P n f (match rNx R.1 n 0 none with
      | none => R
      | some s => if R.2.2.2.2.2 + s ≤ u then rLoop P n lo u m (rTurn P n lo s R) else (rBurn (u - R.2.2.2.2.2) n 0 R.1, rTick (u - R.2.2.2.2.2) R.2))
    cases hx : rNx R.1 n 0 none with
    | none => exact h.o hP hy
    | some s =>
      obtain ⟨b1, b2⟩ := rNx_4 h.1 hx
      show rOut P n f (if R.2.2.2.2.2 + s ≤ u then rLoop P n lo u m (rTurn P n lo s R) else (rBurn (u - R.2.2.2.2.2) n 0 R.1, rTick (u - R.2.2.2.2.2) R.2))
      by_cases q : R.2.2.2.2.2 + s ≤ u
      · rw [if_pos q]
        refine rLoop_o hP m (t + 1) _ (by omega) (rH_turn hP h (by omega) hx) (rY_turn hy) ?_
        have := (rEnds_st P n lo (rE (rBurn s n 0 R.1)) 0 n 0 (rAway (rBurn s n 0 R.1) (R.2.2.2.2.2 + s) n, rTick s R.2)).2.2
        show (rEnds P n lo _ n 0 _).2.2.2.2.2 ≤ u
        rw [this]
        exact q
      · rw [if_neg q]
        obtain ⟨o1, o2, o3, o4, o5, o6⟩ := h.o hP hy
        refine ⟨o1, o2, o3, ?_, rY_burn hy, fun c hc => ?_⟩
        · show R.2.2.2.2.2 + (u - R.2.2.2.2.2) ≤ _
          omega
        · obtain ⟨a1, a2, a3, a4⟩ := rBurn_rest (u - R.2.2.2.2.2) n 0 R.1
          refine ⟨?_, ?_⟩
          · show (rBurn (u - R.2.2.2.2.2) n 0 R.1).1 c ≤ _
            rw [a3 c]
            have := (o6 c hc).1
            split <;> omega
          · show (rBurn (u - R.2.2.2.2.2) n 0 R.1).2.1 c ≤ _
            rw [a1]; exact (o6 c hc).2
theorem rY_start {f : Nat → Nat} : rY f (rStart f) := ⟨fun b hb => absurd hb List.not_mem_nil, fun _ => Nat.zero_le _, fun _ => Nat.le_refl _⟩
theorem rPlay_o {P : PL} {n lo u : Nat} {f : Nat → Nat} (hP : pOK P) (hF : fOK n f) : rOut P n f (rPlay P n lo u f) := by
  refine rLoop_o hP 8 0 _ (by omega) (rH_start hP hF) (rY_rules _ _ rY_start) ?_
  rw [(rRules_b P n lo 8 P.1 0 (rStart f)).2.2.2]
  exact Nat.zero_le _
theorem rLoop_d {P : PL} {n lo u : Nat} (hP : pOK P) : ∀ (m t : Nat) (R : RS), t + m = 8 → rH P n t R → rD n (m + 8) R → ∀ b, b ∈ (rLoop P n lo u m R).2.1 → 256 ∣ b
  | 0, t, R, _, h, hd => hd.2.2
  | m + 1, t, R, ht, h, hd => by
    show ∀ b, b ∈ (match rNx R.1 n 0 none with
      | none => R
      | some s => if R.2.2.2.2.2 + s ≤ u then rLoop P n lo u m (rTurn P n lo s R) else (rBurn (u - R.2.2.2.2.2) n 0 R.1, rTick (u - R.2.2.2.2.2) R.2)).2.1 → 256 ∣ b
    have hh : ∀ b, b ∈ R.2.1 → 256 ∣ b := fun b hb => Nat.dvd_trans (show 2 ^ 8 ∣ 2 ^ (m + 1 + 8) from Nat.pow_dvd_pow 2 (by omega)) (hd.2.2 b hb)
    cases hx : rNx R.1 n 0 none with
    | none => exact hh
    | some s =>
      show ∀ b, b ∈ (if R.2.2.2.2.2 + s ≤ u then rLoop P n lo u m (rTurn P n lo s R) else (rBurn (u - R.2.2.2.2.2) n 0 R.1, rTick (u - R.2.2.2.2.2) R.2)).2.1 → 256 ∣ b
      by_cases q : R.2.2.2.2.2 + s ≤ u
      · rw [if_pos q]
        refine rLoop_d hP m (t + 1) _ (by omega) (rH_turn hP h (by omega) hx) (rD_turn ?_ h.1 hx)
        rw [show m + 8 + 1 = m + 1 + 8 by omega]; exact hd
      · rw [if_neg q]; exact hh
theorem rPlay_d {P : PL} {n lo u : Nat} {f : Nat → Nat} (hP : pOK P) (hF : fOK n f) (h2 : ∀ c, c < n → 65536 ∣ f c) : ∀ b, b ∈ (rPlay P n lo u f).2.1 → 256 ∣ b :=
  rLoop_d hP 8 0 _ (by omega) (rH_start hP hF) (rD_rules _ _ ⟨h2, Nat.dvd_zero _, fun b hb => absurd hb List.not_mem_nil⟩)
