/-! ===== Long.bitCount ===== -/
def bM (b : Nat) : Nat → Nat
  | 0 => 0
  | n + 1 => b + 256 * bM b n
def bA (f : Nat → Nat) : Nat → Nat → Nat
  | 0, _ => 0
  | n + 1, x => f (x % 256) + 256 * bA f n (x / 256)
theorem and_sp {lo hi m M : Nat} (h1 : lo < 256) (h2 : m < 256) : (lo + 256 * hi) &&& (m + 256 * M) = (lo &&& m) + 256 * (hi &&& M) := by
  have h3 : lo &&& m < 256 := Nat.lt_of_le_of_lt Nat.and_le_left h1
  apply Nat.eq_of_testBit_eq
  intro i
  rw [Nat.testBit_and, Nat.add_comm lo, Nat.add_comm m, Nat.add_comm (lo &&& m)]
  have e1 := Nat.testBit_two_pow_mul_add hi (i := 8) (b := lo) h1 i
  have e2 := Nat.testBit_two_pow_mul_add M (i := 8) (b := m) h2 i
  have e3 := Nat.testBit_two_pow_mul_add (hi &&& M) (i := 8) (b := lo &&& m) h3 i
  rw [show (2 : Nat) ^ 8 = 256 from rfl] at e1 e2 e3
  rw [e1, e2, e3]
  by_cases q : i < 8
  · rw [if_pos q, if_pos q, if_pos q, Nat.testBit_and]
  · rw [if_neg q, if_neg q, if_neg q, Nat.testBit_and]
def p1 (b : Nat) : Nat := b - ((b / 2) &&& 85)
def p2 (b : Nat) : Nat := (p1 b &&& 51) + ((p1 b / 4) &&& 51)
def p3 (b : Nat) : Nat := (p2 b + p2 b / 16) % 16
theorem pq1 : ∀ a, a < 256 → ∀ b, b < 2 → (a / 2 + 128 * b) &&& 85 = (a / 2) &&& 85 := by decide +kernel
theorem pq2 : ∀ a, a < 256 → ((a / 2) &&& 85) ≤ a ∧ p1 a < 256 ∧ p2 a % 16 ≤ 4 ∧ p2 a / 16 ≤ 4 ∧ p3 a ≤ 8 := by decide +kernel
theorem pq3 : ∀ a, a < 256 → ∀ b, b < 4 → (a / 4 + 64 * b) &&& 51 = (a / 4) &&& 51 := by decide +kernel
theorem pq4 : ∀ b, b < 256 → fb_ct (fun i => b.testBit i) 8 = p3 b := by decide +kernel
theorem ps1 : ∀ n x, x < 256 ^ n → x - ((x / 2) &&& bM 85 n) = bA p1 n x
  | 0, x, h => by
    have : x = 0 := by
      have : x < 1 := h
      omega
    rw [this]; rfl
  | n + 1, x, h => by
    have hx : x / 256 < 256 ^ n := Nat.div_lt_of_lt_mul (by rw [Nat.pow_succ, Nat.mul_comm] at h; exact h)
    have ih := ps1 n (x / 256) hx
    have hlt : x % 256 < 256 := Nat.mod_lt _ (by decide)
    have e : x / 2 = (x % 256 / 2 + 128 * (x / 256 % 2)) + 256 * (x / 256 / 2) := by omega
    show x - ((x / 2) &&& (85 + 256 * bM 85 n)) = p1 (x % 256) + 256 * bA p1 n (x / 256)
    rw [e, and_sp (by omega) (by decide), pq1 _ hlt _ (by omega), ← ih]
    have h1 := (pq2 _ hlt).1
    have h2 : (x / 256 / 2) &&& bM 85 n ≤ x / 256 / 2 := Nat.and_le_left
    unfold p1
    omega
theorem ps2 : ∀ n x, (bA p1 n x &&& bM 51 n) + ((bA p1 n x / 4) &&& bM 51 n) = bA p2 n x
  | 0, x => by simp [bA, bM]
  | n + 1, x => by
    have ih := ps2 n (x / 256)
    have hlt : x % 256 < 256 := Nat.mod_lt _ (by decide)
    have h1 := (pq2 _ hlt).2.1
    show ((p1 (x % 256) + 256 * bA p1 n (x / 256)) &&& (51 + 256 * bM 51 n)) + (((p1 (x % 256) + 256 * bA p1 n (x / 256)) / 4) &&& (51 + 256 * bM 51 n)) = p2 (x % 256) + 256 * bA p2 n (x / 256)
    generalize bA p1 n (x / 256) = y at ih
    have e : (p1 (x % 256) + 256 * y) / 4 = (p1 (x % 256) / 4 + 64 * (y % 4)) + 256 * (y / 4) := by omega
    rw [e, and_sp h1 (by decide), and_sp (by omega) (by decide), pq3 _ h1 _ (by omega), ← ih]
    unfold p2
    omega
theorem ps3a : ∀ n x, bA p2 n x % 16 ≤ 4
  | 0, x => Nat.zero_le _
  | n + 1, x => by
    have hlt : x % 256 < 256 := Nat.mod_lt _ (by decide)
    have h1 := (pq2 _ hlt).2.2.1
    show (p2 (x % 256) + 256 * bA p2 n (x / 256)) % 16 ≤ 4
    omega
theorem ps3 : ∀ n x, (bA p2 n x + bA p2 n x / 16) &&& bM 15 n = bA p3 n x
  | 0, x => by simp [bA, bM]
  | n + 1, x => by
    have ih := ps3 n (x / 256)
    have hlt : x % 256 < 256 := Nat.mod_lt _ (by decide)
    obtain ⟨_, _, h1, h2, _⟩ := pq2 _ hlt
    have h3 := ps3a n (x / 256)
    show ((p2 (x % 256) + 256 * bA p2 n (x / 256)) + (p2 (x % 256) + 256 * bA p2 n (x / 256)) / 16) &&& (15 + 256 * bM 15 n) = p3 (x % 256) + 256 * bA p3 n (x / 256)
    generalize bA p2 n (x / 256) = y at ih h3
    have e : (p2 (x % 256) + 256 * y) + (p2 (x % 256) + 256 * y) / 16 = (p2 (x % 256) + p2 (x % 256) / 16 + 16 * (y % 16)) + 256 * (y + y / 16) := by omega
    have e2 : ∀ z, z &&& 15 = z % 16 := fun z => Nat.and_two_pow_sub_one_eq_mod z 4
    rw [e, and_sp (by omega) (by decide), ih, e2]
    unfold p3
    omega
def bC : Nat → Nat → Nat
  | 0, _ => 0
  | n + 1, x => p3 (x % 256) + bC n (x / 256)
theorem bC_ct : ∀ n x, bC n x = fb_ct (fun i => x.testBit i) (8 * n)
  | 0, x => rfl
  | n + 1, x => by
    have hlt : x % 256 < 256 := Nat.mod_lt _ (by decide)
    rw [show 8 * (n + 1) = 8 + 8 * n by omega, fb_ct_split]
    show p3 (x % 256) + bC n (x / 256) = _
    rw [bC_ct n (x / 256), ← pq4 _ hlt]
    congr 1
    · refine fb_ct_cong (fun k hk => ?_)
      have := Nat.testBit_mod_two_pow x 8 k
      rw [show (2 : Nat) ^ 8 = 256 from rfl, decide_eq_true hk, Bool.true_and] at this
      exact this
    · refine fb_ct_cong (fun k hk => ?_)
      have := Nat.testBit_div_two_pow (n := 8) x k
      rw [show (2 : Nat) ^ 8 = 256 from rfl] at this
      rw [this, Nat.add_comm]
theorem dvm {l k A : Nat} (h : l < k) : (l + k * A) / k = A := by
  rw [Nat.add_mul_div_left _ _ (by omega), Nat.div_eq_of_lt h, Nat.zero_add]
theorem ps61 {c0 c1 c2 A1 A2 A3 : Nat} (h : c0 + c1 + 256 * (c1 + c2) < 65536) (a2 : A2 = c2 + 256 * A3) (a1 : A1 = c1 + 256 * A2) : c0 + 256 * A1 + A1 = (c0 + c1 + 256 * (c1 + c2)) + 65536 * (A2 + A3) := by omega
theorem ps62 {x0 x1 c2 c3 c4 c5 c6 c7 A2 A3 A4 A5 A6 : Nat} (a6 : A6 = c6 + 256 * c7) (a5 : A5 = c5 + 256 * A6) (a4 : A4 = c4 + 256 * A5) (a3 : A3 = c3 + 256 * A4) (a2 : A2 = c2 + 256 * A3) : x0 + 256 * x1 + 65536 * (A2 + A3) + (A2 + A3) = (x0 + (c2 + c3) + 256 * (x1 + (c3 + c4)) + 65536 * (c2 + c3 + (c4 + c5)) + 16777216 * (c3 + c4 + (c5 + c6))) + 4294967296 * (A4 + A5 + (A6 + c7)) := by omega
theorem ps63 {y0 y1 y2 y3 c4 c5 c6 c7 A4 A5 A6 : Nat} (a6 : A6 = c6 + 256 * c7) (a5 : A5 = c5 + 256 * A6) (a4 : A4 = c4 + 256 * A5) (hb : y0 + (c4 + c5 + (c6 + c7)) < 128) : ((y0 + 256 * y1 + 65536 * y2 + 16777216 * y3) + 4294967296 * (A4 + A5 + (A6 + c7)) + (A4 + A5 + (A6 + c7))) % 128 = y0 + (c4 + c5 + (c6 + c7)) := by omega
theorem ps6a {c0 c1 c2 c3 c4 c5 c6 c7 A1 A2 A3 A4 A5 A6 : Nat} (h0 : c0 ≤ 8) (h1 : c1 ≤ 8) (h2 : c2 ≤ 8) (h3 : c3 ≤ 8) (h4 : c4 ≤ 8) (h5 : c5 ≤ 8) (h6 : c6 ≤ 8) (h7 : c7 ≤ 8) (a6 : A6 = c6 + 256 * c7) (a5 : A5 = c5 + 256 * A6) (a4 : A4 = c4 + 256 * A5) (a3 : A3 = c3 + 256 * A4) (a2 : A2 = c2 + 256 * A3) (a1 : A1 = c1 + 256 * A2) : ∃ w1 w2, w1 = c0 + 256 * A1 + (c0 + 256 * A1) / 256 ∧ w2 = w1 + w1 / 65536 ∧ (w2 + w2 / 4294967296) % 128 = c0 + c1 + (c2 + c3) + (c4 + c5 + (c6 + c7)) := by
  refine ⟨_, _, rfl, rfl, ?_⟩
  rw [dvm (show c0 < 256 by clear a1 a2 a3 a4 a5 a6; omega), ps61 (by clear a1 a2 a3 a4 a5 a6; omega) a2 a1, dvm (show c0 + c1 + 256 * (c1 + c2) < 65536 by clear a1 a2 a3 a4 a5 a6; omega), ps62 a6 a5 a4 a3 a2, dvm (by clear a1 a2 a3 a4 a5 a6; omega)]
  exact ps63 a6 a5 a4 (by clear a1 a2 a3 a4 a5 a6; omega)
