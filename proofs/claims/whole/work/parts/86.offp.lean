/-! ===== off, pure: what is not used doesn't matter ===== -/
def rSim (U : Nat → Bool) (R R' : RS) : Prop := R.2 = R'.2 ∧ R.1.2.1 = R'.1.2.1 ∧ R.1.2.2.2.2.1 = R'.1.2.2.2.2.1 ∧ (∀ c, U c = true → R.1.1 c = R'.1.1 c) ∧ ∀ c, U c = false → R.1.2.1 c = 0
def pUs (P : PL) (U : Nat → Bool) : Prop := ∀ k, k < P.2.1 → ((P.2.2.2.2 k).1 = 0 ∨ (P.2.2.2.2 k).1 = 1 ∨ (P.2.2.2.2 k).1 = 3 → U (P.2.2.2.2 k).2.1 = true) ∧ ((P.2.2.2.2 k).1 = 3 → U (P.2.2.2.2 k).2.2 = true)
theorem rAct_sim {n k : Nat} {a : Nat × Nat × Nat} {U : Nat → Bool} {R R' : RS} (h : rSim U R R') (h1 : a.1 = 0 ∨ a.1 = 1 ∨ a.1 = 3 → U a.2.1 = true) (h2 : a.1 = 3 → U a.2.2 = true) (h4 : a.1 ≤ 4) : rSim U (rAct n k a R) (rAct n k a R') := by
  obtain ⟨s1, s2, s3, s4, s5⟩ := h
  unfold rAct
  by_cases q4 : a.1 = 4
  · rw [if_pos q4, if_pos q4]
    refine ⟨?_, s2, s3, s4, s5⟩
    show (R.2.1 ++ [R.2.2.2.2.2], R.2.2) = (R'.2.1 ++ [R'.2.2.2.2.2], R'.2.2)
    rw [s1]
  · rw [if_neg q4, if_neg q4]
    have vn : rSim U (rVn k R) (rVn k R') := by
      refine ⟨?_, s2, s3, s4, s5⟩
      show (R.2.1, kU R.2.2.1 k true, R.2.2.2) = (R'.2.1, kU R'.2.2.1 k true, R'.2.2.2)
      rw [s1]
    by_cases q3 : a.1 = 3
    · rw [if_pos q3, if_pos q3, s2, s3]
      by_cases c : a.2.1 < n ∧ R'.1.2.2.2.2.1 a.2.1 = 0 ∧ a.2.2 < n ∧ R'.1.2.2.2.2.1 a.2.2 = 0 ∧ a.2.1 ≠ a.2.2 ∧ R'.1.2.1 a.2.1 = 0 ∧ R'.1.2.1 a.2.2 = 0
      · rw [if_pos c, if_pos c]
        refine ⟨s1, s2, ?_, fun c hc => ?_, s5⟩
        · show kU R.1.2.2.2.2.1 a.2.2 2 = kU R'.1.2.2.2.2.1 a.2.2 2
          rw [s3]
        · show kU (kU R.1.1 a.2.1 (R.1.1 a.2.1 + R.1.1 a.2.2)) a.2.2 0 c = kU (kU R'.1.1 a.2.1 (R'.1.1 a.2.1 + R'.1.1 a.2.2)) a.2.2 0 c
          rw [s4 _ (h1 (Or.inr (Or.inr q3))), s4 _ (h2 q3)]
          by_cases e : c = a.2.2
          · rw [e, kU_s, kU_s]
          · rw [kU_o _ _ e, kU_o _ _ e]
            by_cases e2 : c = a.2.1
            · rw [e2, kU_s, kU_s]
            · rw [kU_o _ _ e2, kU_o _ _ e2]; exact s4 c hc
      · rw [if_neg c, if_neg c]; exact vn
    · rw [if_neg q3, if_neg q3, s2, s3]
      by_cases c : a.2.1 < n ∧ R'.1.2.2.2.2.1 a.2.1 = 0 ∧ (if a.1 = 2 then 0 < R'.1.2.1 a.2.1 else R'.1.2.1 a.2.1 < 2)
      · rw [if_pos c, if_pos c]
        have hu : U a.2.1 = true := by
          by_cases q2 : a.1 = 2
          · have hc := c.2.2
            rw [if_pos q2] at hc
            cases z : U a.2.1 with
            | true => rfl
            | false =>
              have := s5 _ z
              rw [s2] at this
              omega
          · exact h1 (by omega)
        refine ⟨?_, ?_, s3, s4, fun c hc => ?_⟩
        · show (R.2.1, R.2.2.1, R.2.2.2.1, R.2.2.2.2.1 + (_ - R.1.2.1 a.2.1), R.2.2.2.2.2) = (R'.2.1, R'.2.2.1, R'.2.2.2.1, R'.2.2.2.2.1 + (_ - R'.1.2.1 a.2.1), R'.2.2.2.2.2)
          rw [s1, s2]
        · show kU R.1.2.1 a.2.1 _ = kU R'.1.2.1 a.2.1 _
          rw [s2]
        · show kU R.1.2.1 a.2.1 _ c = 0
          have : c ≠ a.2.1 := fun e => by rw [e, hu] at hc; cases hc
          rw [kU_o _ _ this]; exact s5 c hc
      · rw [if_neg c, if_neg c]; exact vn
theorem rActs_sim {P : PL} {n lo : Nat} {U : Nat → Bool} (hO : pOK P) (hU : pUs P U) : ∀ (m k : Nat) {R R' : RS}, k + m ≤ P.2.1 → rSim U R R' → rSim U (rActs P n lo m k R) (rActs P n lo m k R')
  | 0, _, _, _, _, h => h
  | m + 1, k, R, R', hk, h => by
    refine rActs_sim hO hU m (k + 1) (by omega) ?_
    by_cases e : k = lo
    · rw [if_pos e, if_pos e]; exact h
    · rw [if_neg e, if_neg e]
      exact rAct_sim h (hU k (by omega)).1 (hU k (by omega)).2 (hO.2.2.2.2 k (by omega)).1
theorem rRules_sim {P : PL} {n lo c : Nat} {U : Nat → Bool} (hO : pOK P) (hU : pUs P U) : ∀ (m r : Nat) {R R' : RS}, r + m ≤ P.1 → rSim U R R' → rSim U (rRules P n lo c m r R) (rRules P n lo c m r R')
  | 0, _, _, _, _, h => h
  | m + 1, r, R, R', hr, h => by
    refine rRules_sim hO hU m (r + 1) (by omega) ?_
    by_cases e : P.2.2.1 r = c
    · rw [if_pos e, if_pos e]
      obtain ⟨o1, o2, o3⟩ := hO.2.2.1 r (by omega)
      refine rActs_sim hO hU _ _ (by omega) ⟨?_, h.2⟩
      show (R.2.1, R.2.2.1, R.2.2.2.1 ||| rBit r, R.2.2.2.2) = (R'.2.1, R'.2.2.1, R'.2.2.2.1 ||| rBit r, R'.2.2.2.2)
      rw [h.1]
    · rw [if_neg e, if_neg e]; exact h
theorem rEnds_sim {P : PL} {n lo : Nat} {U E : Nat → Bool} (hO : pOK P) (hU : pUs P U) : ∀ (m c : Nat) {R R' : RS}, rSim U R R' → rSim U (rEnds P n lo E m c R) (rEnds P n lo E m c R')
  | 0, _, _, _, h => h
  | m + 1, c, R, R', h => by
    refine rEnds_sim hO hU m (c + 1) ?_
    by_cases e : E c = true
    · rw [if_pos e, if_pos e]; exact rRules_sim hO hU _ _ (by omega) h
    · rw [if_neg e, if_neg e]; exact h
theorem rNx_sim {U : Nat → Bool} {R R' : RS} (h : rSim U R R') : ∀ (m c : Nat) (o : Option Nat), rNx R.1 m c o = rNx R'.1 m c o
  | 0, _, _ => rfl
  | m + 1, c, o => by
    show rNx R.1 m (c + 1) (if 0 < R.1.2.1 c then some (oMin o (R.1.1 c / R.1.2.1 c)) else o) = rNx R'.1 m (c + 1) (if 0 < R'.1.2.1 c then some (oMin o (R'.1.1 c / R'.1.2.1 c)) else o)
    rw [rNx_sim h m (c + 1)]
    congr 1
    rw [h.2.1]
    by_cases f : 0 < R'.1.2.1 c
    · rw [if_pos f, if_pos f]
      have : U c = true := by
        cases z : U c with
        | true => rfl
        | false =>
          have := h.2.2.2.2 c z
          rw [h.2.1] at this
          omega
      rw [h.2.2.2.1 c this]
    · rw [if_neg f, if_neg f]
theorem rBurn_sim {n s : Nat} {U : Nat → Bool} {R R' : RS} (h : rSim U R R') : rSim U (rBurn s n 0 R.1, rTick s R.2) (rBurn s n 0 R'.1, rTick s R'.2) := by
  obtain ⟨s1, s2, s3, s4, s5⟩ := h
  obtain ⟨a1, a2, a3, a4⟩ := rBurn_rest s n 0 R.1
  obtain ⟨b1, b2, b3, b4⟩ := rBurn_rest s n 0 R'.1
  refine ⟨?_, ?_, ?_, fun c hc => ?_, fun c hc => ?_⟩
  · show rTick s R.2 = rTick s R'.2
    rw [s1]
  · show (rBurn s n 0 R.1).2.1 = (rBurn s n 0 R'.1).2.1
    rw [a1, b1]; exact s2
  · show (rBurn s n 0 R.1).2.2.2.2.1 = (rBurn s n 0 R'.1).2.2.2.2.1
    rw [a2, b2]; exact s3
  · show (rBurn s n 0 R.1).1 c = (rBurn s n 0 R'.1).1 c
    rw [a3 c, b3 c, s4 c hc, s2]
  · show (rBurn s n 0 R.1).2.1 c = 0
    rw [a1]; exact s5 c hc
theorem rTurn_sim {P : PL} {n lo s : Nat} {U : Nat → Bool} {R R' : RS} (hO : pOK P) (hU : pUs P U) (h : rSim U R R') : rSim U (rTurn P n lo s R) (rTurn P n lo s R') := by
  obtain ⟨t1, t2, t3, t4, t5⟩ := rBurn_sim (n := n) (s := s) h
  have hE : rE (rBurn s n 0 R.1) = rE (rBurn s n 0 R'.1) := funext fun c => by
    have t2' : (rBurn s n 0 R.1).2.1 = (rBurn s n 0 R'.1).2.1 := t2
    unfold rE
    rw [t2']
    cases z : U c with
    | true =>
      have : (rBurn s n 0 R.1).1 c = (rBurn s n 0 R'.1).1 c := t4 c z
      rw [this]
    | false =>
      have : (rBurn s n 0 R.1).2.1 c = 0 := t5 c z
      rw [t2'] at this
      rw [this]; rfl
  unfold rTurn
  rw [hE]
  have hno : R.2.2.2.2.2 = R'.2.2.2.2.2 := by rw [h.1]
  refine rEnds_sim hO hU _ _ ⟨t1, ?_, ?_, t4, fun c hc => ?_⟩
  · show (fun c => if c < n ∧ rE (rBurn s n 0 R.1) c = true then 0 else (rBurn s n 0 R.1).2.1 c) = (fun c => if c < n ∧ rE (rBurn s n 0 R'.1) c = true then 0 else (rBurn s n 0 R'.1).2.1 c)
    have t2' : (rBurn s n 0 R.1).2.1 = (rBurn s n 0 R'.1).2.1 := t2
    rw [hE, t2']
  · show (fun c => if c < n ∧ rE (rBurn s n 0 R.1) c = true then 1 else (rBurn s n 0 R.1).2.2.2.2.1 c) = (fun c => if c < n ∧ rE (rBurn s n 0 R'.1) c = true then 1 else (rBurn s n 0 R'.1).2.2.2.2.1 c)
    have t3' : (rBurn s n 0 R.1).2.2.2.2.1 = (rBurn s n 0 R'.1).2.2.2.2.1 := t3
    rw [hE, t3']
  · show (if c < n ∧ rE (rBurn s n 0 R.1) c = true then 0 else (rBurn s n 0 R.1).2.1 c) = 0
    split
    · rfl
    · exact t5 c hc
theorem rLoop_sim {P : PL} {n lo u : Nat} {U : Nat → Bool} (hO : pOK P) (hU : pUs P U) : ∀ (m : Nat) {R R' : RS}, rSim U R R' → rSim U (rLoop P n lo u m R) (rLoop P n lo u m R')
  | 0, _, _, h => h
  | m + 1, R, R', h => by
    show rSim U (match rNx R.1 n 0 none with
      | none => R
      | some s => if R.2.2.2.2.2 + s ≤ u then rLoop P n lo u m (rTurn P n lo s R) else (rBurn (u - R.2.2.2.2.2) n 0 R.1, rTick (u - R.2.2.2.2.2) R.2)) (match rNx R'.1 n 0 none with
      | none => R'
      | some s => if R'.2.2.2.2.2 + s ≤ u then rLoop P n lo u m (rTurn P n lo s R') else (rBurn (u - R'.2.2.2.2.2) n 0 R'.1, rTick (u - R'.2.2.2.2.2) R'.2))
    rw [← rNx_sim h n 0 none]
    have hno : R.2.2.2.2.2 = R'.2.2.2.2.2 := by rw [h.1]
    cases rNx R.1 n 0 none with
    | none => exact h
    | some s =>
      show rSim U (if R.2.2.2.2.2 + s ≤ u then rLoop P n lo u m (rTurn P n lo s R) else (rBurn (u - R.2.2.2.2.2) n 0 R.1, rTick (u - R.2.2.2.2.2) R.2)) (if R'.2.2.2.2.2 + s ≤ u then rLoop P n lo u m (rTurn P n lo s R') else (rBurn (u - R'.2.2.2.2.2) n 0 R'.1, rTick (u - R'.2.2.2.2.2) R'.2))
      rw [← hno]
      by_cases q : R.2.2.2.2.2 + s ≤ u
      · rw [if_pos q, if_pos q]; exact rLoop_sim hO hU m (rTurn_sim hO hU h)
      · rw [if_neg q, if_neg q]; exact rBurn_sim h
theorem rPlay_sim {P : PL} {n lo u : Nat} {U : Nat → Bool} (hO : pOK P) (hU : pUs P U) {f f' : Nat → Nat} (h : ∀ c, U c = true → f c = f' c) : (rPlay P n lo u f).2.1 = (rPlay P n lo u f').2.1 := by
  have h0 : rSim U (rStart f) (rStart f') := ⟨rfl, rfl, rfl, h, fun _ _ => rfl⟩
  have := (rLoop_sim (n := n) (lo := lo) (u := u) hO hU 8 (rRules_sim (n := n) (lo := lo) (c := 8) hO hU P.1 0 (by omega) h0)).1
  exact congrArg (fun z => z.1) this
/-! digits by threes -/
def oDec (pt : Nat → Bool) : Nat → Nat → Nat → Nat → Nat
  | 0, _, _, _ => 0
  | m + 1, c, j, x => if x = c then (if pt c = true then j % 3 else 0) else oDec pt m (c + 1) (if pt c = true then j / 3 else j) x
def oEnc (pt : Nat → Bool) (σ : Nat → Nat) : Nat → Nat → Nat
  | 0, _ => 0
  | m + 1, c => if pt c = true then σ c + 3 * oEnc pt σ m (c + 1) else oEnc pt σ m (c + 1)
def oCt (pt : Nat → Bool) : Nat → Nat → Nat
  | 0, _ => 1
  | m + 1, c => if pt c = true then 3 * oCt pt m (c + 1) else oCt pt m (c + 1)
theorem oDec_2 (pt : Nat → Bool) : ∀ m c j x, oDec pt m c j x ≤ 2
  | 0, _, _, _ => Nat.zero_le _
  | m + 1, c, j, x => by
    show (if x = c then (if pt c = true then j % 3 else 0) else oDec pt m (c + 1) (if pt c = true then j / 3 else j) x) ≤ 2
    split
    · split <;> omega
    · exact oDec_2 pt m (c + 1) _ x
theorem oEnc_lt {pt : Nat → Bool} {σ : Nat → Nat} (h : ∀ x, σ x ≤ 2) : ∀ m c, oEnc pt σ m c < oCt pt m c
  | 0, _ => Nat.one_pos
  | m + 1, c => by
    have ih := oEnc_lt (pt := pt) h m (c + 1)
    have := h c
    show (if pt c = true then σ c + 3 * oEnc pt σ m (c + 1) else oEnc pt σ m (c + 1)) < if pt c = true then 3 * oCt pt m (c + 1) else oCt pt m (c + 1)
    split <;> omega
theorem oDec_enc {pt : Nat → Bool} {σ : Nat → Nat} (h : ∀ x, σ x ≤ 2) : ∀ m c x, c ≤ x → x < c + m → pt x = true → oDec pt m c (oEnc pt σ m c) x = σ x
  | 0, c, x, h1, h2, _ => by omega
  | m + 1, c, x, h1, h2, h3 => by
    have := h c
    show (if x = c then (if pt c = true then oEnc pt σ (m + 1) c % 3 else 0) else oDec pt m (c + 1) (if pt c = true then oEnc pt σ (m + 1) c / 3 else oEnc pt σ (m + 1) c) x) = σ x
    have e : oEnc pt σ (m + 1) c = if pt c = true then σ c + 3 * oEnc pt σ m (c + 1) else oEnc pt σ m (c + 1) := rfl
    by_cases q : x = c
    · subst q
      rw [if_pos rfl, if_pos h3, e, if_pos h3]
      omega
    · rw [if_neg q]
      have ih := oDec_enc (pt := pt) h m (c + 1) x (by omega) (by omega) h3
      by_cases p : pt c = true
      · rw [if_pos p, e, if_pos p, show (σ c + 3 * oEnc pt σ m (c + 1)) / 3 = oEnc pt σ m (c + 1) by omega]; exact ih
      · rw [if_neg p, e, if_neg p]; exact ih
theorem oCt_le (pt : Nat → Bool) : ∀ m c, 1 ≤ oCt pt m c ∧ oCt pt m c ≤ 3 ^ m
  | 0, _ => ⟨Nat.le_refl _, Nat.le_refl _⟩
  | m + 1, c => by
    have ih := oCt_le pt m (c + 1)
    have e : oCt pt (m + 1) c = if pt c = true then 3 * oCt pt m (c + 1) else oCt pt m (c + 1) := rfl
    rw [e, Nat.pow_succ]
    split <;> omega
theorem oCt_all : ∀ m c, oCt (fun _ => true) m c = 3 ^ m
  | 0, _ => rfl
  | m + 1, c => by
    show 3 * oCt (fun _ => true) m (c + 1) = _
    rw [oCt_all m (c + 1), Nat.pow_succ, Nat.mul_comm]
/-! the least, the greatest -/
def oB (w : Nat) (o b : Option Nat) : Option Nat := match b with
  | none => o
  | some v => match o with
    | none => some v
    | some u => some (if w = 0 then min u v else max u v)
def oFold (w : Nat) (g : Nat → Option Nat) : Nat → Option Nat
  | 0 => none
  | n + 1 => oB w (oFold w g n) (g n)
theorem oFold_none {w : Nat} {g : Nat → Option Nat} : ∀ {n : Nat}, oFold w g n = none ↔ ∀ i, i < n → g i = none
  | 0 => ⟨fun _ i hi => absurd hi (Nat.not_lt_zero _), fun _ => rfl⟩
  | n + 1 => by
    show oB w (oFold w g n) (g n) = none ↔ _
    have ih := oFold_none (w := w) (g := g) (n := n)
    cases hg : g n with
    | none =>
      show oFold w g n = none ↔ _
      rw [ih]
      exact ⟨fun h i hi => if e : i = n then by rw [e]; exact hg else h i (by omega), fun h i hi => h i (by omega)⟩
    | some v =>
      constructor
      · intro h
        cases ho : oFold w g n with
        | none => rw [ho] at h; cases h
        | some u => rw [ho] at h; cases h
      · intro h
        have := h n (by omega)
        rw [hg] at this; cases this
theorem oFold_some {w : Nat} {g : Nat → Option Nat} : ∀ {n v : Nat}, oFold w g n = some v → (∃ i, i < n ∧ g i = some v) ∧ ∀ i u, i < n → g i = some u → if w = 0 then v ≤ u else u ≤ v
  | 0, v, h => by cases h
  | n + 1, v, h => by
    have h' : oB w (oFold w g n) (g n) = some v := h
    cases hg : g n with
    | none =>
      rw [hg] at h'
      obtain ⟨⟨i, i1, i2⟩, i3⟩ := oFold_some (n := n) (v := v) h'
      refine ⟨⟨i, by omega, i2⟩, fun j u hj hu => ?_⟩
      by_cases e : j = n
      · rw [e, hg] at hu; cases hu
      · exact i3 j u (by omega) hu
    | some x =>
      rw [hg] at h'
      cases ho : oFold w g n with
      | none =>
        rw [ho] at h'
        have e : x = v := Option.some.inj h'
        subst e
        refine ⟨⟨n, by omega, hg⟩, fun j u hj hu => ?_⟩
        by_cases e : j = n
        · rw [e, hg] at hu
          have := Option.some.inj hu
          subst this
          split <;> omega
        · have := oFold_none.mp ho j (by omega)
          rw [this] at hu; cases hu
      | some y =>
        rw [ho] at h'
        have e : (if w = 0 then min y x else max y x) = v := Option.some.inj h'
        obtain ⟨⟨i, i1, i2⟩, i3⟩ := oFold_some ho
        refine ⟨?_, fun j u hj hu => ?_⟩
        · by_cases c : v = x
          · exact ⟨n, by omega, by rw [hg, c]⟩
          · refine ⟨i, by omega, ?_⟩
            rw [i2]
            congr 1
            by_cases z : w = 0
            · rw [if_pos z] at e; omega
            · rw [if_neg z] at e; omega
        · by_cases c : j = n
          · rw [c, hg] at hu
            have := Option.some.inj hu
            subst this
            by_cases z : w = 0
            · rw [if_pos z] at e ⊢; omega
            · rw [if_neg z] at e ⊢; omega
          · have := i3 j u (by omega) hu
            by_cases z : w = 0
            · rw [if_pos z] at e this ⊢; omega
            · rw [if_neg z] at e this ⊢; omega
theorem oFold_eq {w : Nat} {g g' : Nat → Option Nat} {n m : Nat} (h1 : ∀ i, i < n → ∃ j, j < m ∧ g' j = g i) (h2 : ∀ j, j < m → ∃ i, i < n ∧ g i = g' j) : oFold w g n = oFold w g' m := by
  cases ho : oFold w g n with
  | none =>
    symm
    rw [oFold_none]
    intro j hj
    obtain ⟨i, i1, i2⟩ := h2 j hj
    rw [← i2]; exact oFold_none.mp ho i i1
  | some v =>
    cases hp : oFold w g' m with
    | none =>
      obtain ⟨⟨i, i1, i2⟩, _⟩ := oFold_some ho
      obtain ⟨j, j1, j2⟩ := h1 i i1
      rw [oFold_none.mp hp j j1, i2] at j2; cases j2
    | some u =>
      obtain ⟨⟨i, i1, i2⟩, i3⟩ := oFold_some ho
      obtain ⟨⟨j, j1, j2⟩, j3⟩ := oFold_some hp
      obtain ⟨j', a1, a2⟩ := h1 i i1
      obtain ⟨i', b1, b2⟩ := h2 j j1
      have c1 := j3 j' v a1 (by rw [a2]; exact i2)
      have c2 := i3 i' u b1 (by rw [b2]; exact j2)
      congr 1
      by_cases z : w = 0
      · rw [if_pos z] at c1 c2; omega
      · rw [if_neg z] at c1 c2; omega
