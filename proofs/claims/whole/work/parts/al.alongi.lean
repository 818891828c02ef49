/-! ===== along: what holds at each node ===== -/
def aK (X : AX) (G : Nat → Nat) : Nat := (if aLv X G 0 = true then 1 else 0) + (if aLv X G 1 = true then 1 else 0)
def aI (X : AX) (G : Nat → Nat) (lit now : Nat) : Prop := lit < 16 ∧ (∀ i, i < X.1 → G (2 * i) + G (2 * i + 1) ≤ aA X i ∧ (aQ lit i % 2 = 0 → G (2 * i) = 0) ∧ (aQ lit i / 2 = 0 → G (2 * i + 1) = 0)) ∧ (∀ i, aLv X G i = true → 64 * 2 ^ aK X G ∣ G (2 * i) ∧ 64 * 2 ^ aK X G ∣ G (2 * i + 1)) ∧ 64 * 2 ^ aK X G ∣ now ∧ now ≤ G 0 + G 1 + G 2 + G 3 ∧ ∀ q, 2 * X.1 ≤ q → G q = 0
def aC (X : AX) (G : Nat → Nat) (i : Nat) : Nat := fb_ct (fun j => decide (G (2 * i) < X.2.2 i (j + 1) ∧ X.2.2 i (j + 1) + G (2 * i + 1) < aA X i)) (X.2.1 i - 1)
def aM1 (X : AX) (G : Nat → Nat) (i : Nat) : Nat := if aLv X G i = true then 1 + aC X G i else 0
def aMu (X : AX) (G : Nat → Nat) : Nat := aM1 X G 0 + aM1 X G 1
theorem fb_ct_ss {p q : Nat → Bool} : ∀ {n : Nat}, (∀ k, k < n → p k = true → q k = true) → (∃ k, k < n ∧ q k = true ∧ p k = false) → fb_ct p n + 1 ≤ fb_ct q n
  | 0, _, ⟨k, h, _⟩ => by omega
  | n + 1, h, ⟨k, h1, h2, h3⟩ => by
    rw [fb_ct_succ, fb_ct_succ]
    have le := fb_ct_sub (n := n) (fun k hk => h k (by omega))
    by_cases z : k = n
    · rw [z] at h2 h3
      rw [h2, h3, if_pos rfl, if_neg (by decide)]
      omega
    · have := fb_ct_ss (n := n) (fun k hk => h k (by omega)) ⟨k, by omega, h2, h3⟩
      cases hp : p n with
      | true => rw [h n (by omega) hp]; omega
      | false =>
        rw [if_neg (show ¬ (false = true) by decide)]
        omega
/-- from place to place nothing comes back -/
theorem aLv_m {X : AX} {G G' : Nat → Nat} {i : Nat} (l0 : G (2 * i) ≤ G' (2 * i)) (l1 : G (2 * i + 1) ≤ G' (2 * i + 1)) (h : aLv X G' i = true) : aLv X G i = true := by
  obtain ⟨h1, h2⟩ := aLv_i.mp h
  exact aLv_i.mpr ⟨h1, by omega⟩
theorem aM1_m {X : AX} {G G' : Nat → Nat} {i : Nat} (l0 : G (2 * i) ≤ G' (2 * i)) (l1 : G (2 * i + 1) ≤ G' (2 * i + 1)) : aM1 X G' i ≤ aM1 X G i := by
  unfold aM1
  by_cases z : aLv X G' i = true
  · rw [if_pos z, if_pos (aLv_m l0 l1 z)]
    have : aC X G' i ≤ aC X G i := fb_ct_sub (fun k _ q => by
      have := of_decide_eq_true q
      exact decide_eq_true (by omega))
    omega
  · rw [if_neg z]
    omega
theorem aM1_s {X : AX} {G G' : Nat → Nat} {i : Nat} (l0 : G (2 * i) ≤ G' (2 * i)) (l1 : G (2 * i + 1) ≤ G' (2 * i + 1)) (hl : aLv X G i = true) (h : ¬ aLv X G' i = true ∨ ∃ j, 1 ≤ j ∧ j ≤ X.2.1 i - 1 ∧ G (2 * i) < X.2.2 i j ∧ X.2.2 i j + G (2 * i + 1) < aA X i ∧ (aA X i ≤ X.2.2 i j + G' (2 * i + 1) ∨ X.2.2 i j ≤ G' (2 * i))) : aM1 X G' i + 1 ≤ aM1 X G i := by
  unfold aM1
  rw [if_pos hl]
  by_cases z : aLv X G' i = true
  · rw [if_pos z]
    rcases h with h | ⟨j, j1, j2, j3, j4, j5⟩
    · exact absurd z h
    · have : aC X G' i + 1 ≤ aC X G i := fb_ct_ss (fun k _ q => by
        have := of_decide_eq_true q
        exact decide_eq_true (by omega)) ⟨j - 1, by omega, decide_eq_true (by rw [show j - 1 + 1 = j by omega]; exact ⟨j3, j4⟩), decide_eq_false (by rw [show j - 1 + 1 = j by omega]; omega)⟩
      omega
  · rw [if_neg z]
    omega
theorem aM1_le {X : AX} (hX : aOK X) {G : Nat → Nat} {i : Nat} : aM1 X G i ≤ 6 := by
  unfold aM1
  by_cases z : aLv X G i = true
  · rw [if_pos z]
    have h1 := (hX.2 i (aLv_i.mp z).1).1
    have : aC X G i ≤ X.2.1 i - 1 := fb_ct_le _ _
    omega
  · rw [if_neg z]
    omega
/-- one candle, until something happens to it -/
theorem aSp_c {X : AX} (hX : aOK X) {i a b e K s : Nat} (hi : i < X.1) (lv : a + b < aA X i) (he : e = 1 ∧ b = 0 ∨ e = 2 ∧ a = 0 ∨ e = 3) (hK : K = 1 ∨ K = 2) (da : 64 * 2 ^ K ∣ a) (db : 64 * 2 ^ K ∣ b) (hs : s = aSp X i a b e) :
    (a + (if e % 2 = 1 then s else 0)) + (b + (if e / 2 % 2 = 1 then s else 0)) ≤ aA X i ∧
    (((a + (if e % 2 = 1 then s else 0)) + (b + (if e / 2 % 2 = 1 then s else 0)) = aA X i ∧ 64 * 2 ^ (K - 1) ∣ s) ∨
    (64 * 2 ^ K ∣ s ∧ ∃ j, 1 ≤ j ∧ j ≤ X.2.1 i - 1 ∧ a < X.2.2 i j ∧ X.2.2 i j + b < aA X i ∧ (aA X i ≤ X.2.2 i j + (b + (if e / 2 % 2 = 1 then s else 0)) ∨ X.2.2 i j ≤ a + (if e % 2 = 1 then s else 0)))) := by
  obtain ⟨h1, h2, h3⟩ := aS1_is X i a b e (X.2.1 i - 1)
  have hs' : aS1 X i a b e (X.2.1 i - 1) = s := hs.symm
  rw [hs'] at h1 h3
  clear h2 hs hs'
  have hd := (hX.2 i hi).2.2.2.2
  have dA : 256 ∣ aA X i := hd _
  have z0 := (hX.2 i hi).2.1
  have lt1 : ∀ j, 1 ≤ j → j ≤ X.2.1 i - 1 → 0 < X.2.2 i j ∧ X.2.2 i j < aA X i := fun j j1 j2 => by
    have a1 := hX.lt hi (j := 0) (k := j) (by omega) (by omega)
    have a2 := hX.lt hi (j := j) (k := X.2.1 i) (Nat.le_refl _) (by omega)
    have a3 : aA X i = X.2.2 i (X.2.1 i) := rfl
    omega
  have e0 : aS1 X i a b e 0 = if e = 3 then (aA X i - a - b) / 2 else aA X i - a - b := rfl
  rw [e0] at h1 h3
  clear e0
  have eA : ∃ A, A = aA X i := ⟨_, rfl⟩
  obtain ⟨A, eA⟩ := eA
  rw [← eA] at lv h1 h3 dA lt1 ⊢
  clear eA
  have main : ∀ D, D = 64 * 2 ^ K → ∀ D1, D1 = 64 * 2 ^ (K - 1) → (D = 128 ∧ D1 = 64 ∨ D = 256 ∧ D1 = 128) → D ∣ a → D ∣ b → (a + (if e % 2 = 1 then s else 0)) + (b + (if e / 2 % 2 = 1 then s else 0)) ≤ A ∧
    (((a + (if e % 2 = 1 then s else 0)) + (b + (if e / 2 % 2 = 1 then s else 0)) = A ∧ D1 ∣ s) ∨
    (D ∣ s ∧ ∃ j, 1 ≤ j ∧ j ≤ X.2.1 i - 1 ∧ a < X.2.2 i j ∧ X.2.2 i j + b < A ∧ (A ≤ X.2.2 i j + (b + (if e / 2 % 2 = 1 then s else 0)) ∨ X.2.2 i j ≤ a + (if e % 2 = 1 then s else 0)))) := by
    intro D _ D1 _ hD da db
    rcases he with ⟨he, hb⟩ | ⟨he, hb⟩ | he
    · rw [he, if_neg (by decide)] at h1 h3
      rw [he, if_pos (by decide), if_neg (by decide)]
      rcases h3 with h3 | ⟨j, j1, j2, ⟨_, y2, y3⟩ | ⟨y1, _, _⟩⟩
      · refine ⟨by omega, Or.inl ⟨by omega, ?_⟩⟩
        rcases hD with ⟨rfl, rfl⟩ | ⟨rfl, rfl⟩ <;> omega
      · have dj := hd j
        have lj := lt1 j j1 j2
        refine ⟨by omega, Or.inr ⟨?_, j, j1, j2, y2, by omega, Or.inr (by omega)⟩⟩
        rcases hD with ⟨rfl, rfl⟩ | ⟨rfl, rfl⟩ <;> omega
      · omega
    · rw [he, if_neg (by decide)] at h1 h3
      rw [he, if_neg (by decide), if_pos (by decide)]
      rcases h3 with h3 | ⟨j, j1, j2, ⟨y1, _, _⟩ | ⟨_, y2, y3⟩⟩
      · refine ⟨by omega, Or.inl ⟨by omega, ?_⟩⟩
        rcases hD with ⟨rfl, rfl⟩ | ⟨rfl, rfl⟩ <;> omega
      · omega
      · have dj := hd j
        have lj := lt1 j j1 j2
        refine ⟨by omega, Or.inr ⟨?_, j, j1, j2, by omega, y2, Or.inl (by omega)⟩⟩
        rcases hD with ⟨rfl, rfl⟩ | ⟨rfl, rfl⟩ <;> omega
    · rw [he, if_pos rfl] at h1 h3
      rw [he, if_pos (by decide)]
      rcases h3 with h3 | ⟨j, j1, j2, ⟨_, y2, y3⟩ | ⟨_, y2, y3⟩⟩
      · refine ⟨by omega, Or.inl ?_⟩
        rcases hD with ⟨rfl, rfl⟩ | ⟨rfl, rfl⟩
        · exact ⟨by omega, by omega⟩
        · exact ⟨by omega, by omega⟩
      · have dj := hd j
        have lj := lt1 j j1 j2
        refine ⟨by omega, Or.inr ⟨?_, j, j1, j2, y2, by omega, Or.inr (by omega)⟩⟩
        rcases hD with ⟨rfl, rfl⟩ | ⟨rfl, rfl⟩ <;> omega
      · have dj := hd j
        have lj := lt1 j j1 j2
        refine ⟨by omega, Or.inr ⟨?_, j, j1, j2, by omega, y2, Or.inl (by omega)⟩⟩
        rcases hD with ⟨rfl, rfl⟩ | ⟨rfl, rfl⟩ <;> omega
  exact main _ rfl _ rfl (by rcases hK with rfl | rfl; exact Or.inl ⟨rfl, rfl⟩; exact Or.inr ⟨rfl, rfl⟩) da db
theorem aQ_or : ∀ lit, lit < 16 → ∀ w, w < 16 → ∀ i, i < 2 → (aQ (lit ||| w) i % 2 = 0 → aQ lit i % 2 = 0) ∧ (aQ (lit ||| w) i / 2 = 0 → aQ lit i / 2 = 0) := by decide +kernel
theorem or16 {a b : Nat} (ha : a < 16) (hb : b < 16) : a ||| b < 16 := Nat.or_lt_two_pow (n := 4) ha hb
theorem aK_le (X : AX) (G : Nat → Nat) : aK X G ≤ 2 := by
  unfold aK
  split <;> split <;> omega
theorem aK_pos {X : AX} {G : Nat → Nat} {i : Nat} (hi : i < 2) (h : aLv X G i = true) : 1 ≤ aK X G := by
  unfold aK
  have : i = 0 ∨ i = 1 := by omega
  rcases this with rfl | rfl
  · rw [if_pos h]; omega
  · rw [if_pos h]; omega
theorem aK_m {X : AX} {G G' : Nat → Nat} (l : ∀ q, G q ≤ G' q) : aK X G' ≤ aK X G := by
  have h0 := fun h => aLv_m (X := X) (i := 0) (l _) (l _) h
  have h1 := fun h => aLv_m (X := X) (i := 1) (l _) (l _) h
  unfold aK
  by_cases z0 : aLv X G' 0 = true
  · rw [if_pos z0, if_pos (h0 z0)]
    by_cases z1 : aLv X G' 1 = true
    · rw [if_pos z1, if_pos (h1 z1)]; omega
    · rw [if_neg z1]; omega
  · rw [if_neg z0]
    by_cases z1 : aLv X G' 1 = true
    · rw [if_pos z1, if_pos (h1 z1)]; omega
    · rw [if_neg z1]; omega
theorem aK_s {X : AX} {G G' : Nat → Nat} (l : ∀ q, G q ≤ G' q) {i : Nat} (hi : i < 2) (h : aLv X G i = true) (h' : ¬ aLv X G' i = true) : aK X G' + 1 ≤ aK X G := by
  have h0 := fun h => aLv_m (X := X) (i := 0) (l _) (l _) h
  have h1 := fun h => aLv_m (X := X) (i := 1) (l _) (l _) h
  unfold aK
  have : i = 0 ∨ i = 1 := by omega
  rcases this with rfl | rfl
  · rw [if_neg h', if_pos h]
    by_cases z1 : aLv X G' 1 = true
    · rw [if_pos z1, if_pos (h1 z1)]; omega
    · rw [if_neg z1]; omega
  · rw [if_neg h', if_pos h]
    by_cases z1 : aLv X G' 0 = true
    · rw [if_pos z1, if_pos (h0 z1)]; omega
    · rw [if_neg z1]; omega
theorem aG_le (X : AX) (G : Nat → Nat) (l st q : Nat) : G q ≤ aG X G l st q := by
  unfold aG
  omega
/-- which flames a candle has -/
theorem aE_c {X : AX} {G : Nat → Nat} {lit w now i : Nat} (hX : aOK X) (hI : aI X G lit now) (hw : w < 16) (h : aE X G (lit ||| w) i ≠ 0) : i < X.1 ∧ i < 2 ∧ G (2 * i) + G (2 * i + 1) < aA X i ∧ (aE X G (lit ||| w) i = 1 ∧ G (2 * i + 1) = 0 ∨ aE X G (lit ||| w) i = 2 ∧ G (2 * i) = 0 ∨ aE X G (lit ||| w) i = 3) := by
  have hl := aE_lv h
  obtain ⟨h1, h2⟩ := aLv_i.mp hl
  have i2 : i < 2 := Nat.lt_of_lt_of_le h1 hX.1
  obtain ⟨_, g1, g2⟩ := hI.2.1 i h1
  obtain ⟨o1, o2⟩ := aQ_or lit hI.1 w hw i i2
  refine ⟨h1, i2, h2, ?_⟩
  rw [aE_l hl] at h ⊢
  have := aQ_lt (lit ||| w) i
  have c : aQ (lit ||| w) i = 1 ∨ aQ (lit ||| w) i = 2 ∨ aQ (lit ||| w) i = 3 := by omega
  rcases c with c | c | c
  · exact Or.inl ⟨c, g2 (o2 (by rw [c]))⟩
  · exact Or.inr (Or.inl ⟨c, g1 (o1 (by rw [c]))⟩)
  · exact Or.inr (Or.inr c)
theorem aI_ch {X : AX} {G : Nat → Nat} {lit w now st : Nat} (hX : aOK X) (hI : aI X G lit now) (hw : w < 16) (hs : aS2 X G (lit ||| w) 2 = some st) : aI X (aG X G (lit ||| w) st) (lit ||| w) (now + st) ∧ aMu X (aG X G (lit ||| w) st) + 1 ≤ aMu X G := by
  obtain ⟨s1, i0, i2, n0, s2⟩ := aS2_p hs
  obtain ⟨c1, _, c3, c4⟩ := aE_c hX hI hw n0
  have lv0 := aE_lv n0
  have kp := aK_pos i2 lv0
  have kl := aK_le X G
  obtain ⟨d1, d2⟩ := hI.2.2.1 i0 lv0
  obtain ⟨_, b2⟩ := aSp_c hX c1 c3 c4 (by omega) d1 d2 s2
  have le := aG_le X G (lit ||| w) st
  have kk : ∃ K1, aK X (aG X G (lit ||| w) st) ≤ K1 ∧ K1 ≤ aK X G ∧ 64 * 2 ^ K1 ∣ st := by
    rcases b2 with ⟨b3, b4⟩ | ⟨b3, _⟩
    · refine ⟨aK X G - 1, ?_, by omega, b4⟩
      have : ¬ aLv X (aG X G (lit ||| w) st) i0 = true := fun q => by
        have := (aLv_i.mp q).2
        rw [aG_0, aG_1] at this
        omega
      have := aK_s le i2 lv0 this
      omega
    · exact ⟨aK X G, aK_m le, Nat.le_refl _, b3⟩
  obtain ⟨K1, k1, k2, k3⟩ := kk
  have dv1 : ∀ x, 64 * 2 ^ aK X G ∣ x → 64 * 2 ^ aK X (aG X G (lit ||| w) st) ∣ x := fun x hx => Nat.dvd_trans (Nat.mul_dvd_mul_left _ (Nat.pow_dvd_pow 2 (by omega))) hx
  have dv2 : 64 * 2 ^ aK X (aG X G (lit ||| w) st) ∣ st := Nat.dvd_trans (Nat.mul_dvd_mul_left _ (Nat.pow_dvd_pow 2 k1)) k3
  have dv3 : ∀ (p : Prop) [Decidable p], 64 * 2 ^ aK X (aG X G (lit ||| w) st) ∣ (if p then st else 0) := fun p _ => by
    split
    · exact dv2
    · exact Nat.dvd_zero _
  refine ⟨⟨or16 hI.1 hw, fun i hi => ?_, fun i hi => ?_, Nat.dvd_add (dv1 _ hI.2.2.2.1) dv2, ?_, fun q hq => ?_⟩, ?_⟩
  · obtain ⟨g0, g1, g2⟩ := hI.2.1 i hi
    have i2' : i < 2 := Nat.lt_of_lt_of_le hi hX.1
    obtain ⟨o1, o2⟩ := aQ_or lit hI.1 w hw i i2'
    rw [aG_0, aG_1]
    by_cases z : aE X G (lit ||| w) i = 0
    · rw [z, if_neg (by decide)]
      exact ⟨g0, fun q => g1 (o1 q), fun q => g2 (o2 q)⟩
    · obtain ⟨_, _, y3, y4⟩ := aE_c hX hI hw z
      have ly := aE_lv z
      obtain ⟨e1, e2⟩ := hI.2.2.1 i ly
      obtain ⟨b1, _⟩ := aSp_c hX hi y3 y4 (by omega) e1 e2 rfl
      have sl := s1 i i2' z
      refine ⟨?_, fun q => ?_, fun q => ?_⟩
      · refine Nat.le_trans (Nat.add_le_add (Nat.add_le_add_left ?_ _) (Nat.add_le_add_left ?_ _)) b1
        · split <;> omega
        · split <;> omega
      · rw [g1 (o1 q), if_neg (by rw [aE_l ly, q]; decide)]
      · rw [g2 (o2 q), if_neg (by rw [aE_l ly, q]; decide)]
  · have lo := aLv_m (X := X) (i := i) (le _) (le _) hi
    obtain ⟨e1, e2⟩ := hI.2.2.1 i lo
    rw [aG_0, aG_1]
    exact ⟨Nat.dvd_add (dv1 _ e1) (dv3 _), Nat.dvd_add (dv1 _ e2) (dv3 _)⟩
  · have nw := hI.2.2.2.2.1
    have a0 := aG_0 X G (lit ||| w) st 0
    have a1 := aG_1 X G (lit ||| w) st 0
    have a2 := aG_0 X G (lit ||| w) st 1
    have a3 := aG_1 X G (lit ||| w) st 1
    have a0' : aG X G (lit ||| w) st 0 = G 0 + (if aE X G (lit ||| w) 0 % 2 = 1 then st else 0) := a0
    have a1' : aG X G (lit ||| w) st 1 = G 1 + (if aE X G (lit ||| w) 0 / 2 % 2 = 1 then st else 0) := a1
    have a2' : aG X G (lit ||| w) st 2 = G 2 + (if aE X G (lit ||| w) 1 % 2 = 1 then st else 0) := a2
    have a3' : aG X G (lit ||| w) st 3 = G 3 + (if aE X G (lit ||| w) 1 / 2 % 2 = 1 then st else 0) := a3
    clear a0 a1 a2 a3
    have l0 := le 0
    have l1 := le 1
    have l2 := le 2
    have l3 := le 3
    have e4 : aE X G (lit ||| w) i0 % 2 = 1 ∨ aE X G (lit ||| w) i0 / 2 % 2 = 1 := by omega
    have ic : i0 = 0 ∨ i0 = 1 := by omega
    rcases ic with rfl | rfl
    · rcases e4 with q | q
      · rw [if_pos q] at a0'; omega
      · rw [if_pos q] at a1'; omega
    · rcases e4 with q | q
      · rw [if_pos q] at a2'; omega
      · rw [if_pos q] at a3'; omega
  · unfold aG
    rw [hI.2.2.2.2.2 q hq, aE_d (fun y => by have := (aLv_i.mp y).1; omega), Nat.zero_div, if_neg (by decide)]
  · have m0 := aM1_m (X := X) (i := 0) (le _) (le _)
    have m1 := aM1_m (X := X) (i := 1) (le _) (le _)
    have ms := aM1_s (X := X) (i := i0) (le _) (le _) lv0 (by
      rw [aG_0, aG_1]
      rcases b2 with ⟨b3, _⟩ | ⟨_, b3⟩
      · refine Or.inl (fun q => ?_)
        have := (aLv_i.mp q).2
        rw [aG_0, aG_1] at this
        omega
      · exact Or.inr b3)
    unfold aMu
    have ic : i0 = 0 ∨ i0 = 1 := by omega
    rcases ic with rfl | rfl <;> omega
theorem aI_now {X : AX} {G : Nat → Nat} {lit now : Nat} (hX : aOK X) (hI : aI X G lit now) : 64 ∣ now ∧ now ≤ 184320 ∧ ∀ q, G q ≤ 92160 := by
  have hn := hX.1
  have hz := hI.2.2.2.2.2
  have b : ∀ i, i < 2 → G (2 * i) + G (2 * i + 1) ≤ 92160 := fun i hi => by
    by_cases z : i < X.1
    · have h1 := (hI.2.1 i z).1
      have h2 := (hX.2 i z).2.2.1
      omega
    · rw [hz _ (by omega), hz _ (by omega)]
      omega
  have b0 := b 0 (by omega)
  have b1 := b 1 (by omega)
  have nw := hI.2.2.2.2.1
  refine ⟨Nat.dvd_trans (Nat.dvd_mul_right _ _) hI.2.2.2.1, ?_, fun q => ?_⟩
  · have b0' : G 0 + G 1 ≤ 92160 := b0
    have b1' : G 2 + G 3 ≤ 92160 := b1
    omega
  · rcases Nat.lt_or_ge q 4 with h | h
    · have c := b (q / 2) (by omega)
      have : q = 2 * (q / 2) ∨ q = 2 * (q / 2) + 1 := by omega
      rcases this with e | e
      · rw [e]; omega
      · rw [e]; omega
    · rw [hz q (by omega)]
      omega
theorem aT_p {X : AX} (hX : aOK X) : ∀ {m : Nat} {G : Nat → Nat} {lit now t : Nat}, aI X G lit now → t ∈ aT X m G lit now → 64 ∣ t ∧ t ≤ 184320
  | 0, _, _, _, _, _, h => by cases h
  | m + 1, G, lit, now, t, hI, h => by
    obtain ⟨w, hw, ht⟩ := List.mem_flatMap.mp h
    have hw16 : w < 16 := by
      rw [List.mem_range'_1] at hw
      omega
    by_cases ok : aOk X G lit w = true
    · rw [aBr_y ok] at ht
      cases hs : aS2 X G (lit ||| w) 2 with
      | none => rw [aCh_n hs] at ht; cases ht
      | some st =>
        rw [aCh_s hs] at ht
        have hc := (aI_ch hX hI hw16 hs).1
        rcases List.mem_cons.mp ht with e | e
        · rw [e]
          exact ⟨(aI_now hX hc).1, (aI_now hX hc).2.1⟩
        · exact aT_p hX hc e
    · rw [aBr_n ok] at ht
      cases ht
theorem aI_0 {X : AX} : aI X (fun _ => 0) 0 0 ∧ aMu X (fun _ => 0) ≤ aM1 X (fun _ => 0) 0 + aM1 X (fun _ => 0) 1 := ⟨⟨by decide, fun i hi => ⟨Nat.zero_le _, fun _ => rfl, fun _ => rfl⟩, fun i _ => ⟨Nat.dvd_zero _, Nat.dvd_zero _⟩, Nat.dvd_zero _, Nat.zero_le _, fun _ _ => rfl⟩, Nat.le_refl _⟩
