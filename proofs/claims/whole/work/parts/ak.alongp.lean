/-! ===== along a candle or two, each end by itself: pure ===== -/
/-- how many candles, their pieces, the edges of these -/
abbrev AX : Type := Nat × (Nat → Nat) × (Nat → Nat → Nat)
def aA (X : AX) (i : Nat) : Nat := X.2.2 i (X.2.1 i)
def aOK (X : AX) : Prop := X.1 ≤ 2 ∧ ∀ i, i < X.1 → (1 ≤ X.2.1 i ∧ X.2.1 i ≤ 6) ∧ X.2.2 i 0 = 0 ∧ aA X i ≤ 92160 ∧ (∀ j, j < X.2.1 i → X.2.2 i j < X.2.2 i (j + 1)) ∧ ∀ j, 256 ∣ X.2.2 i j
theorem aOK.lt {X : AX} (hX : aOK X) {i : Nat} (hi : i < X.1) {j : Nat} : ∀ {k : Nat}, k ≤ X.2.1 i → j < k → X.2.2 i j < X.2.2 i k
  | 0, _, h => by omega
  | k + 1, hk, h => by
    have h1 := (hX.2 i hi).2.2.2.1 k (by omega)
    by_cases z : j = k
    · rw [z]; exact h1
    · have h2 := aOK.lt hX hi (j := j) (k := k) (by omega) (by omega)
      omega
def aF1 (e a t s : Nat) : Nat := if e % 2 = 1 ∧ a < t ∧ t - a < s then t - a else s
def aF2 (e b t A s : Nat) : Nat := if 1 < e ∧ t + b < A ∧ A - t - b < s then A - t - b else s
theorem aF1_p (e a t s : Nat) : aF1 e a t s ≤ s ∧ (e % 2 = 1 → a < t → aF1 e a t s ≤ t - a) ∧ (aF1 e a t s = s ∨ (e % 2 = 1 ∧ a < t ∧ aF1 e a t s = t - a)) := by
  unfold aF1
  split
  · rename_i z
    exact ⟨by omega, fun _ _ => by omega, Or.inr ⟨z.1, z.2.1, rfl⟩⟩
  · rename_i z
    exact ⟨by omega, fun _ _ => by omega, Or.inl rfl⟩
theorem aF2_p (e b t A s : Nat) : aF2 e b t A s ≤ s ∧ (1 < e → t + b < A → aF2 e b t A s ≤ A - t - b) ∧ (aF2 e b t A s = s ∨ (1 < e ∧ t + b < A ∧ aF2 e b t A s = A - t - b)) := by
  unfold aF2
  split
  · rename_i z
    exact ⟨by omega, fun _ _ => by omega, Or.inr ⟨z.1, z.2.1, rfl⟩⟩
  · rename_i z
    exact ⟨by omega, fun _ _ => by omega, Or.inl rfl⟩
/-- until something happens to candle i, of whose length a, b are gone, with flames e: so far edges 1 .. k are looked at -/
def aS1 (X : AX) (i a b e : Nat) : Nat → Nat
  | 0 => if e = 3 then (aA X i - a - b) / 2 else aA X i - a - b
  | k + 1 => aF2 e b (X.2.2 i (k + 1)) (aA X i) (aF1 e a (X.2.2 i (k + 1)) (aS1 X i a b e k))
def aSp (X : AX) (i a b e : Nat) : Nat := aS1 X i a b e (X.2.1 i - 1)
def aIs (X : AX) (i a b e k v : Nat) : Prop :=
  v ≤ aS1 X i a b e 0 ∧ (∀ j, 1 ≤ j → j ≤ k → (e % 2 = 1 → a < X.2.2 i j → v ≤ X.2.2 i j - a) ∧ (1 < e → X.2.2 i j + b < aA X i → v ≤ aA X i - X.2.2 i j - b)) ∧
  (v = aS1 X i a b e 0 ∨ ∃ j, 1 ≤ j ∧ j ≤ k ∧ ((e % 2 = 1 ∧ a < X.2.2 i j ∧ v = X.2.2 i j - a) ∨ (1 < e ∧ X.2.2 i j + b < aA X i ∧ v = aA X i - X.2.2 i j - b)))
theorem aS1_is (X : AX) (i a b e : Nat) : ∀ k, aIs X i a b e k (aS1 X i a b e k)
  | 0 => ⟨Nat.le_refl _, fun j _ _ => by omega, Or.inl rfl⟩
  | k + 1 => by
    obtain ⟨h1, h2, h3⟩ := aS1_is X i a b e k
    obtain ⟨p1, p2, p3⟩ := aF1_p e a (X.2.2 i (k + 1)) (aS1 X i a b e k)
    obtain ⟨q1, q2, q3⟩ := aF2_p e b (X.2.2 i (k + 1)) (aA X i) (aF1 e a (X.2.2 i (k + 1)) (aS1 X i a b e k))
    refine ⟨Nat.le_trans q1 (Nat.le_trans p1 h1), fun j j1 j2 => ?_, ?_⟩
    · by_cases z : j = k + 1
      · rw [z]
        exact ⟨fun y1 y2 => Nat.le_trans q1 (p2 y1 y2), q2⟩
      · obtain ⟨g1, g2⟩ := h2 j j1 (by omega)
        exact ⟨fun y1 y2 => Nat.le_trans q1 (Nat.le_trans p1 (g1 y1 y2)), fun y1 y2 => Nat.le_trans q1 (Nat.le_trans p1 (g2 y1 y2))⟩
    · rcases q3 with q3 | ⟨y1, y2, y3⟩
      · rcases p3 with p3 | ⟨y1, y2, y3⟩
        · rcases h3 with h3 | ⟨j, j1, j2, hj⟩
          · exact Or.inl (q3.trans (p3.trans h3))
          · refine Or.inr ⟨j, j1, by omega, ?_⟩
            rw [show aS1 X i a b e (k + 1) = aS1 X i a b e k from q3.trans p3]
            exact hj
        · exact Or.inr ⟨k + 1, by omega, by omega, Or.inl ⟨y1, y2, q3.trans y3⟩⟩
      · exact Or.inr ⟨k + 1, by omega, by omega, Or.inr ⟨y1, y2, y3⟩⟩
theorem aIs_u {X : AX} {i a b e k v v' : Nat} (h : aIs X i a b e k v) (h' : aIs X i a b e k v') : v = v' := by
  have key : ∀ {v v' : Nat}, aIs X i a b e k v → aIs X i a b e k v' → v ≤ v' := fun {v v'} h h' => by
    rcases h'.2.2 with z | ⟨j, j1, j2, ⟨y1, y2, y3⟩ | ⟨y1, y2, y3⟩⟩
    · rw [z]; exact h.1
    · rw [y3]; exact (h.2.1 j j1 j2).1 y1 y2
    · rw [y3]; exact (h.2.1 j j1 j2).2 y1 y2
  exact Nat.le_antisymm (key h h') (key h' h)
/-! the class looks for the next edge from each side -/
def uF (X : AX) (i a u : Nat) : Prop := ∃ j, 1 ≤ j ∧ j ≤ X.2.1 i ∧ a < X.2.2 i j ∧ u = X.2.2 i j - a ∧ ∀ k, 1 ≤ k → k < j → X.2.2 i k ≤ a
def uB (X : AX) (i b u : Nat) : Prop := ∃ j, j < X.2.1 i ∧ X.2.2 i j + b < aA X i ∧ u = aA X i - X.2.2 i j - b ∧ ∀ k, j < k → k < X.2.1 i → aA X i ≤ X.2.2 i k + b
theorem uF_le {X : AX} (hX : aOK X) {i a u : Nat} (hi : i < X.1) (h : uF X i a u) {j : Nat} (y1 : 1 ≤ j) (y2 : j ≤ X.2.1 i) (y3 : a < X.2.2 i j) : u ≤ X.2.2 i j - a := by
  obtain ⟨j0, j1, j2, j3, rfl, j5⟩ := h
  rcases Nat.lt_or_ge j j0 with z | z
  · have := j5 j y1 z
    omega
  · rcases Nat.lt_or_ge j0 j with z' | z'
    · have := hX.lt hi y2 z'
      omega
    · obtain rfl : j = j0 := by omega
      omega
theorem uB_le {X : AX} (hX : aOK X) {i b u : Nat} (hi : i < X.1) (h : uB X i b u) {j : Nat} (y2 : j < X.2.1 i) (y3 : X.2.2 i j + b < aA X i) : u ≤ aA X i - X.2.2 i j - b := by
  obtain ⟨j0, j2, j3, rfl, j5⟩ := h
  rcases Nat.lt_or_ge j0 j with z | z
  · have := j5 j z y2
    omega
  · rcases Nat.lt_or_ge j j0 with z' | z'
    · have := hX.lt hi (show j0 ≤ X.2.1 i by omega) z'
      omega
    · obtain rfl : j = j0 := by omega
      omega
theorem as_1 {X : AX} (hX : aOK X) {i a u : Nat} (hi : i < X.1) (ha : a < aA X i) (h : uF X i a u) : aSp X i a 0 1 = u := by
  have hp := (hX.2 i hi).1.1
  have e0 : aS1 X i a 0 1 0 = aA X i - a - 0 := rfl
  have hu := uF_le hX hi h hp (Nat.le_refl _) ha
  have eA : aA X i = X.2.2 i (X.2.1 i) := rfl
  refine aIs_u (aS1_is X i a 0 1 _) ⟨?_, fun j j1 j2 => ⟨fun _ y => uF_le hX hi h j1 (by omega) y, fun y => by omega⟩, ?_⟩
  · omega
  · obtain ⟨j0, j1, j2, j3, j4, j5⟩ := h
    by_cases z : j0 = X.2.1 i
    · rw [z] at j4
      exact Or.inl (by omega)
    · exact Or.inr ⟨j0, j1, by omega, Or.inl ⟨rfl, j3, j4⟩⟩
theorem as_2 {X : AX} (hX : aOK X) {i b u : Nat} (hi : i < X.1) (hb : b < aA X i) (h : uB X i b u) : aSp X i 0 b 2 = u := by
  have hp := (hX.2 i hi).1.1
  have z0 := (hX.2 i hi).2.1
  have e0 : aS1 X i 0 b 2 0 = aA X i - 0 - b := rfl
  have hu := uB_le hX hi h (j := 0) (by omega) (by omega)
  refine aIs_u (aS1_is X i 0 b 2 _) ⟨?_, fun j j1 j2 => ⟨fun y => by omega, fun _ y => uB_le hX hi h (by omega) y⟩, ?_⟩
  · omega
  · obtain ⟨j0, j2, j3, j4, j5⟩ := h
    by_cases z : j0 = 0
    · rw [z] at j4
      exact Or.inl (by omega)
    · exact Or.inr ⟨j0, by omega, by omega, Or.inr ⟨by omega, j3, j4⟩⟩
theorem as_3 {X : AX} (hX : aOK X) {i a b u u' v : Nat} (hi : i < X.1) (hab : a + b < aA X i) (h : uF X i a u) (h' : uB X i b u') (l1 : v ≤ u) (l2 : v ≤ u') (l3 : v ≤ (aA X i - a - b) / 2) (l4 : v = u ∨ v = u' ∨ v = (aA X i - a - b) / 2) : aSp X i a b 3 = v := by
  have hp := (hX.2 i hi).1.1
  have z0 := (hX.2 i hi).2.1
  have e0 : aS1 X i a b 3 0 = (aA X i - a - b) / 2 := rfl
  have eA : aA X i = X.2.2 i (X.2.1 i) := rfl
  refine aIs_u (aS1_is X i a b 3 _) ⟨?_, fun j j1 j2 => ⟨fun _ y => Nat.le_trans l1 (uF_le hX hi h j1 (by omega) y), fun _ y => Nat.le_trans l2 (uB_le hX hi h' (by omega) y)⟩, ?_⟩
  · omega
  · rcases l4 with l4 | l4 | l4
    · obtain ⟨j0, j1, j2, j3, j4, j5⟩ := h
      by_cases z : j0 = X.2.1 i
      · rw [z] at j4
        omega
      · exact Or.inr ⟨j0, j1, by omega, Or.inl ⟨rfl, j3, by omega⟩⟩
    · obtain ⟨j0, j2, j3, j4, j5⟩ := h'
      by_cases z : j0 = 0
      · rw [z] at j4
        omega
      · exact Or.inr ⟨j0, by omega, by omega, Or.inr ⟨by omega, j3, by omega⟩⟩
    · exact Or.inl (by omega)
/-! nodes: what is gone from each end (place 2 i, 2 i + 1), which ends are lit (a number below 16) -/
def aQ (l i : Nat) : Nat := l / 4 ^ i % 4
def aLv (X : AX) (G : Nat → Nat) (i : Nat) : Bool := decide (i < X.1 ∧ G (2 * i) + G (2 * i + 1) < aA X i)
def aE (X : AX) (G : Nat → Nat) (l i : Nat) : Nat := if aLv X G i = true then aQ l i else 0
def aO1 (X : AX) (G : Nat → Nat) (lit w i : Nat) : Bool := if aLv X G i = true then decide (aQ w i &&& aQ lit i = 0) else decide (aQ w i = 0)
def aOk (X : AX) (G : Nat → Nat) (lit w : Nat) : Bool := aO1 X G lit w 0 && aO1 X G lit w 1
def aMn (s : Option Nat) (t : Nat) : Nat := match s with
  | none => t
  | some v => if t < v then t else v
def aS2 (X : AX) (G : Nat → Nat) (l : Nat) : Nat → Option Nat
  | 0 => none
  | k + 1 => if aE X G l k = 0 then aS2 X G l k else some (aMn (aS2 X G l k) (aSp X k (G (2 * k)) (G (2 * k + 1)) (aE X G l k)))
def aG (X : AX) (G : Nat → Nat) (l st : Nat) : Nat → Nat := fun q => G q + (if aE X G l (q / 2) / 2 ^ (q % 2) % 2 = 1 then st else 0)
def aCh (X : AX) (nx : (Nat → Nat) → Nat → Nat → List Nat) (G : Nat → Nat) (l now : Nat) : List Nat := match aS2 X G l 2 with
  | none => []
  | some st => (now + st) :: nx (aG X G l st) l (now + st)
theorem aCh_n {X : AX} {nx : (Nat → Nat) → Nat → Nat → List Nat} {G : Nat → Nat} {l now : Nat} (h : aS2 X G l 2 = none) : aCh X nx G l now = [] := by
  unfold aCh
  rw [h]
theorem aCh_s {X : AX} {nx : (Nat → Nat) → Nat → Nat → List Nat} {G : Nat → Nat} {l now st : Nat} (h : aS2 X G l 2 = some st) : aCh X nx G l now = (now + st) :: nx (aG X G l st) l (now + st) := by
  unfold aCh
  rw [h]
def aBr (X : AX) (nx : (Nat → Nat) → Nat → Nat → List Nat) (G : Nat → Nat) (lit now w : Nat) : List Nat := if aOk X G lit w = true then aCh X nx G (lit ||| w) now else []
theorem aBr_y {X : AX} {nx : (Nat → Nat) → Nat → Nat → List Nat} {G : Nat → Nat} {lit now w : Nat} (h : aOk X G lit w = true) : aBr X nx G lit now w = aCh X nx G (lit ||| w) now := if_pos h
theorem aBr_n {X : AX} {nx : (Nat → Nat) → Nat → Nat → List Nat} {G : Nat → Nat} {lit now w : Nat} (h : ¬ aOk X G lit w = true) : aBr X nx G lit now w = [] := if_neg h
def aT (X : AX) : Nat → (Nat → Nat) → Nat → Nat → List Nat
  | 0 => fun _ _ _ => []
  | m + 1 => fun G lit now => (List.range' 0 16).flatMap (aBr X (aT X m) G lit now)
theorem aG_0 (X : AX) (G : Nat → Nat) (l st i : Nat) : aG X G l st (2 * i) = G (2 * i) + (if aE X G l i % 2 = 1 then st else 0) := by
  unfold aG
  rw [show 2 * i / 2 = i by omega, show 2 * i % 2 = 0 by omega, Nat.pow_zero, Nat.div_one]
theorem aG_1 (X : AX) (G : Nat → Nat) (l st i : Nat) : aG X G l st (2 * i + 1) = G (2 * i + 1) + (if aE X G l i / 2 % 2 = 1 then st else 0) := by
  unfold aG
  rw [show (2 * i + 1) / 2 = i by omega, show (2 * i + 1) % 2 = 1 by omega, Nat.pow_one]
theorem aLv_i {X : AX} {G : Nat → Nat} {i : Nat} : aLv X G i = true ↔ i < X.1 ∧ G (2 * i) + G (2 * i + 1) < aA X i := decide_eq_true_iff
theorem aE_l {X : AX} {G : Nat → Nat} {l i : Nat} (h : aLv X G i = true) : aE X G l i = aQ l i := if_pos h
theorem aE_d {X : AX} {G : Nat → Nat} {l i : Nat} (h : ¬ aLv X G i = true) : aE X G l i = 0 := if_neg h
theorem aQ_lt (l i : Nat) : aQ l i < 4 := Nat.mod_lt _ (by decide)
theorem aE_lt {X : AX} {G : Nat → Nat} {l i : Nat} : aE X G l i < 4 := by
  unfold aE
  have := aQ_lt l i
  split <;> omega
theorem aE_lv {X : AX} {G : Nat → Nat} {l i : Nat} (h : aE X G l i ≠ 0) : aLv X G i = true := by
  refine Classical.byContradiction fun z => h (aE_d z)
theorem aMn_p (s : Option Nat) (t : Nat) : aMn s t ≤ t ∧ (∀ v, s = some v → aMn s t ≤ v) ∧ (aMn s t = t ∨ s = some (aMn s t)) := by
  cases s with
  | none => exact ⟨Nat.le_refl _, fun v h => (by cases h), Or.inl rfl⟩
  | some v =>
    show (if t < v then t else v) ≤ t ∧ (∀ v', some v = some v' → (if t < v then t else v) ≤ v') ∧ ((if t < v then t else v) = t ∨ some v = some (if t < v then t else v))
    split
    · exact ⟨Nat.le_refl _, fun v' h => (by cases h; omega), Or.inl rfl⟩
    · exact ⟨by omega, fun v' h => (by cases h; omega), Or.inr rfl⟩
theorem aS2_p {X : AX} {G : Nat → Nat} {l : Nat} : ∀ {k st : Nat}, aS2 X G l k = some st → (∀ i, i < k → aE X G l i ≠ 0 → st ≤ aSp X i (G (2 * i)) (G (2 * i + 1)) (aE X G l i)) ∧ ∃ i, i < k ∧ aE X G l i ≠ 0 ∧ st = aSp X i (G (2 * i)) (G (2 * i + 1)) (aE X G l i)
  | 0, _, h => by cases h
  | k + 1, st, h => by
    have h' : (if aE X G l k = 0 then aS2 X G l k else some (aMn (aS2 X G l k) (aSp X k (G (2 * k)) (G (2 * k + 1)) (aE X G l k)))) = some st := h
    by_cases z : aE X G l k = 0
    · rw [if_pos z] at h'
      obtain ⟨h1, i, h2, h3, h4⟩ := aS2_p h'
      refine ⟨fun j hj y => ?_, i, by omega, h3, h4⟩
      by_cases e : j = k
      · rw [e] at y; exact absurd z y
      · exact h1 j (by omega) y
    · rw [if_neg z] at h'
      have e := Option.some.inj h'
      obtain ⟨p1, p2, p3⟩ := aMn_p (aS2 X G l k) (aSp X k (G (2 * k)) (G (2 * k + 1)) (aE X G l k))
      rw [e] at p1 p2 p3
      refine ⟨fun j hj y => ?_, ?_⟩
      · by_cases ej : j = k
        · rw [ej]; exact p1
        · cases hs : aS2 X G l k with
          | none =>
            exfalso
            have : ∀ k', k' ≤ k → aS2 X G l k' = none → j < k' → False := by
              intro k'
              induction k' with
              | zero => intro _ _ q; omega
              | succ k' ih =>
                intro hk' hn hj'
                have hn' : (if aE X G l k' = 0 then aS2 X G l k' else some (aMn (aS2 X G l k') (aSp X k' (G (2 * k')) (G (2 * k' + 1)) (aE X G l k')))) = none := hn
                by_cases z' : aE X G l k' = 0
                · rw [if_pos z'] at hn'
                  by_cases ek : j = k'
                  · rw [ek] at y; exact y z'
                  · exact ih (by omega) hn' (by omega)
                · rw [if_neg z'] at hn'
                  cases hn'
            exact this k (Nat.le_refl _) hs (by omega)
          | some v =>
            have := (aS2_p hs).1 j (by omega) y
            have := p2 v hs
            omega
      · rcases p3 with p3 | p3
        · exact ⟨k, by omega, z, p3⟩
        · obtain ⟨_, i, h2, h3, h4⟩ := aS2_p p3
          exact ⟨i, by omega, h3, h4⟩
theorem aS2_n {X : AX} {G : Nat → Nat} {l : Nat} : ∀ {k : Nat}, aS2 X G l k = none ↔ ∀ i, i < k → aE X G l i = 0
  | 0 => ⟨fun _ i hi => by omega, fun _ => rfl⟩
  | k + 1 => by
    have e : aS2 X G l (k + 1) = if aE X G l k = 0 then aS2 X G l k else some (aMn (aS2 X G l k) (aSp X k (G (2 * k)) (G (2 * k + 1)) (aE X G l k))) := rfl
    rw [e]
    by_cases z : aE X G l k = 0
    · rw [if_pos z, aS2_n (k := k)]
      refine ⟨fun h i hi => ?_, fun h i hi => h i (by omega)⟩
      by_cases ei : i = k
      · rw [ei]; exact z
      · exact h i (by omega)
    · rw [if_neg z]
      exact ⟨fun h => (by cases h), fun h => absurd (h k (by omega)) z⟩
