/-! ===== ways: what the moments behind a node can be ===== -/
def wLt (n : Nat) (a : WN) : Nat := fb_sm (fun i => fb_sm (fun c => a.2.2.1 (i + 1) c - a.2.2.1 i c) n) a.1
theorem wLt_ch (n : Nat) (a : WN) (W : Nat) : wLt n (wCh n a W) = wLt n a + fb_sm (fun c => wG n W c - a.2.2.1 a.1 c) n := by
  unfold wLt
  rw [wCh_L, fb_sm_succ]
  congr 1
  · exact fb_sm_cong (fun i hi => by rw [wCh_Fo (by omega), wCh_Fo (by omega)])
  · exact fb_sm_cong (fun c hc => by rw [wCh_F, wCh_Fo (Nat.le_refl _)])
/-- b is a or lies behind it -/
def wE (n : Nat) (a b : WN) : Prop := a.1 ≤ b.1 ∧ (∀ i, i ≤ a.1 → b.2.2.2 i = a.2.2.2 i ∧ b.2.2.1 i = a.2.2.1 i ∧ b.2.1 i = a.2.1 i) ∧ (∀ i, a.1 ≤ i → i < b.1 → b.2.2.2 i < b.2.2.2 (i + 1)) ∧ b.2.2.2 b.1 + fb_sm (b.2.1 b.1) n ≤ a.2.2.2 a.1 + fb_sm (a.2.1 a.1) n ∧ fb_sm (b.2.1 b.1) n ≤ fb_sm (a.2.1 a.1) n ∧ wLt n a ≤ wLt n b
theorem wE.rfl {n : Nat} {a : WN} : wE n a a := ⟨Nat.le_refl _, fun _ _ => ⟨Eq.refl _, Eq.refl _, Eq.refl _⟩, fun i q1 q2 => by omega, Nat.le_refl _, Nat.le_refl _, Nat.le_refl _⟩
theorem wE_ch {n : Nat} {out : Bool} {a b : WN} {W : Nat} (hI : wI n b) (hE : wE n a b) (h0 : 0 < W) (h3 : W < 3 ^ n) (hok : wOk n out (b.2.1 b.1) (b.2.2.1 b.1) (wG n W) = true) : wE n a (wCh n b W) := by
  obtain ⟨e1, e2, e3, e4, e5, e6⟩ := hE
  obtain ⟨_, s0, _⟩ := wStp hI h0 h3 hok
  obtain ⟨sx, b0⟩ := wCh_sum hI h0 h3 hok
  have sB : wS n b W ≤ fb_sm (wG n W) n * wS n b W := Nat.le_mul_of_pos_left _ b0
  refine ⟨by rw [wCh_L]; omega, fun i hi => ?_, fun i q1 q2 => ?_, ?_, ?_, ?_⟩
  · rw [wCh_Mo (by omega), wCh_Fo (by omega), wCh_Xo (by omega)]
    exact e2 i hi
  · rw [wCh_L] at q2
    by_cases z : i = b.1
    · rw [z, wCh_M, wCh_Mo (Nat.le_refl _)]; omega
    · rw [wCh_Mo (by omega), wCh_Mo (by omega)]
      exact e3 i q1 (by omega)
  · rw [wCh_L, wCh_M]; omega
  · rw [wCh_L]; omega
  · rw [wLt_ch]; omega
theorem wE.up {n : Nat} {a b : WN} (hE : wE n a b) : ∀ i, a.1 ≤ i → i ≤ b.1 → a.2.2.2 a.1 ≤ b.2.2.2 i := by
  intro i
  induction i with
  | zero => intro q1 q2; rw [(hE.2.1 0 (by omega)).1, show a.1 = 0 by omega]; exact Nat.le_refl _
  | succ i ih =>
    intro q1 q2
    by_cases z : a.1 = i + 1
    · rw [← z, (hE.2.1 a.1 (Nat.le_refl _)).1]; exact Nat.le_refl _
    · have := ih (by omega) (by omega)
      have := hE.2.2.1 i (by omega) (by omega)
      omega
theorem wNd_E {n : Nat} {out : Bool} {a b : WN} (hI : wI n a) : ∀ {k : Nat}, b ∈ wNd n out k a → ∃ W, 0 < W ∧ W < 3 ^ n ∧ wOk n out (a.2.1 a.1) (a.2.2.1 a.1) (wG n W) = true ∧ wI n b ∧ wE n (wCh n a W) b ∧ wE n a b
  | 0, h => by cases h
  | k + 1, h => by
    obtain ⟨W, _, w2, w3⟩ := wTl_mem (show b ∈ wTl (wBr n out a (wNd n out k)) (3 ^ n) 0 from h)
    unfold wBr at w3
    by_cases q : 0 < W ∧ wOk n out (a.2.1 a.1) (a.2.2.1 a.1) (wG n W) = true
    · rw [if_pos q] at w3
      have hI' := (wCh_I hI q.1 (by omega) q.2).1
      have h1 : wI n b ∧ wE n (wCh n a W) b ∧ wE n a b := by
        rcases List.mem_cons.mp w3 with e | e
        · rw [e]; exact ⟨hI', wE.rfl, wE_ch hI wE.rfl q.1 (by omega) q.2⟩
        · exact wNd_all (out := out) (P := fun b => wE n (wCh n a W) b ∧ wE n a b) (fun a' W' i' p' w0 w3' ok' => ⟨wE_ch i' p'.1 w0 w3' ok', wE_ch i' p'.2 w0 w3' ok'⟩) k _ hI' ⟨wE.rfl, wE_ch hI wE.rfl q.1 (by omega) q.2⟩ b e
      exact ⟨W, q.1, by omega, q.2, h1⟩
    · rw [if_neg q] at w3
      cases w3
theorem wNd_lt {n k : Nat} {out : Bool} {a b : WN} (hI : wI n a) (h : b ∈ wNd n out k a) : a.1 < b.1 ∧ a.2.2.2 a.1 < b.2.2.2 b.1 := by
  obtain ⟨W, w0, w3, ok, _, e, _⟩ := wNd_E hI h
  obtain ⟨_, s0, _⟩ := wStp hI w0 w3 ok
  have h1 := e.1
  rw [wCh_L] at h1
  have h2 := e.up b.1 e.1 (Nat.le_refl _)
  rw [wCh_L, wCh_M] at h2
  omega
/-- the step's power of two -/
theorem wS_dv {n t : Nat} {out : Bool} {a : WN} {W : Nat} (hI : wI n a) (h0 : 0 < W) (h3 : W < 3 ^ n) (hok : wOk n out (a.2.1 a.1) (a.2.2.1 a.1) (wG n W) = true) (hx : ∀ c, c < n → 2 ^ (t + 1) ∣ a.2.1 a.1 c) : 2 ^ t ∣ wS n a W := by
  obtain ⟨_, _, _, ⟨j, hj, hj0, hjx⟩, _⟩ := wStp hI h0 h3 hok
  obtain ⟨q, hq⟩ := hx j hj
  have g3 := wOk_3 hok j hj
  rcases (show wG n W j = 0 ∨ wG n W j = 1 ∨ wG n W j = 2 by omega) with z | z | z
  · rw [z, Nat.zero_mul] at hjx; omega
  · rw [z, Nat.one_mul] at hjx
    rw [hjx, hq]
    exact ⟨2 * q, by rw [Nat.pow_succ, Nat.mul_assoc]⟩
  · rw [z] at hjx
    rw [hq, Nat.pow_succ, Nat.mul_comm (2 ^ t) 2, Nat.mul_assoc] at hjx
    exact ⟨q, Nat.eq_of_mul_eq_mul_left (by decide) hjx⟩
theorem wSt_pos {n : Nat} {out : Bool} {a : WN} {W : Nat} (hI : wI n a) (h0 : 0 < W) (h3 : W < 3 ^ n) (hok : wOk n out (a.2.1 a.1) (a.2.2.1 a.1) (wG n W) = true) : 0 < wSt n (a.2.1 a.1) := by
  have := (wCh_I hI h0 h3 hok).2
  omega
theorem wNd_dv {n : Nat} {out : Bool} {b : WN} : ∀ {k : Nat} {a : WN} {t : Nat}, wI n a → (∀ c, c < n → 2 ^ t ∣ a.2.1 a.1 c) → wSt n (a.2.1 a.1) ≤ t → b ∈ wNd n out k a → ∃ q, b.2.2.2 b.1 = a.2.2.2 a.1 + 2 ^ (t - wSt n (a.2.1 a.1)) * q
  | 0, a, t, hI, hx, hst, h => by cases h
  | k + 1, a, t, hI, hx, hst, h => by
    obtain ⟨W, _, w2, w3⟩ := wTl_mem (show b ∈ wTl (wBr n out a (wNd n out k)) (3 ^ n) 0 from h)
    unfold wBr at w3
    by_cases q : 0 < W ∧ wOk n out (a.2.1 a.1) (a.2.2.1 a.1) (wG n W) = true
    · rw [if_pos q] at w3
      have h3 : W < 3 ^ n := by omega
      obtain ⟨hI', st'⟩ := wCh_I hI q.1 h3 q.2
      obtain ⟨t, rfl⟩ : ∃ t', t = t' + 1 := ⟨t - 1, by omega⟩
      have dv := wS_dv hI q.1 h3 q.2 hx
      have key : ∀ u, u ≤ t → 2 ^ (t + 1 - wSt n (a.2.1 a.1)) ∣ 2 ^ u ∨ u < t + 1 - wSt n (a.2.1 a.1) := fun u hu => by
        by_cases z : u < t + 1 - wSt n (a.2.1 a.1)
        · exact Or.inr z
        · exact Or.inl (Nat.pow_dvd_pow 2 (by omega))
      have d1 : 2 ^ (t + 1 - wSt n (a.2.1 a.1)) ∣ wS n a W := Nat.dvd_trans (Nat.pow_dvd_pow 2 (by omega)) dv
      obtain ⟨q1, hq1⟩ := d1
      rcases List.mem_cons.mp w3 with e | e
      · refine ⟨q1, ?_⟩
        rw [e, wCh_L, wCh_M, ← hq1]
      · have hx' : ∀ c, c < n → 2 ^ t ∣ (wCh n a W).2.1 (wCh n a W).1 c := fun c hc => by
          rw [wCh_L, wCh_X]
          refine Nat.dvd_sub (Nat.dvd_trans (Nat.pow_dvd_pow 2 (by omega)) (hx c hc)) (Nat.dvd_trans dv ⟨_, Nat.mul_comm _ _⟩)
        rw [← wCh_L n a W] at st'
        obtain ⟨q2, hq2⟩ := wNd_dv hI' hx' (by omega) e
        have d2 : 2 ^ (t + 1 - wSt n (a.2.1 a.1)) ∣ 2 ^ (t - wSt n ((wCh n a W).2.1 (wCh n a W).1)) := Nat.pow_dvd_pow 2 (by omega)
        obtain ⟨q3, hq3⟩ := d2
        refine ⟨q1 + q3 * q2, ?_⟩
        rw [hq2, hq3, wCh_L, wCh_M, Nat.mul_add, ← hq1, Nat.mul_assoc, Nat.add_assoc]
    · rw [if_neg q] at w3
      cases w3
/-- one stands: its whole, or half of it -/
theorem wNd_one {n k j : Nat} {out : Bool} {a b : WN} (hI : wI n a) (hj : j < n) (ho : ∀ c, c < n → c ≠ j → a.2.1 a.1 c = 0) (h : b ∈ wNd n out k a) : b.2.2.2 b.1 = a.2.2.2 a.1 + a.2.1 a.1 j ∨ 2 * (b.2.2.2 b.1 - a.2.2.2 a.1) = a.2.1 a.1 j := by
  rcases k with _ | k
  · cases h
  obtain ⟨W, _, w2, w3⟩ := wTl_mem (show b ∈ wTl (wBr n out a (wNd n out k)) (3 ^ n) 0 from h)
  unfold wBr at w3
  by_cases q : 0 < W ∧ wOk n out (a.2.1 a.1) (a.2.2.1 a.1) (wG n W) = true
  · rw [if_pos q] at w3
    have h3 : W < 3 ^ n := by omega
    obtain ⟨_, s0, sm, ⟨i, hi, hi0, hix⟩, _⟩ := wStp hI q.1 h3 q.2
    have ij : i = j := Classical.byContradiction fun z => by have := ho i hi z; omega
    rw [ij] at hix
    have nil := wNd_nil (n := n) (out := out) (a := wCh n a W) (fun c hc => by
      rw [wCh_L, wCh_X]
      by_cases z : c = j
      · rw [z, hix]; omega
      · rw [ho c hc z]; omega) k
    rw [nil] at w3
    have e := List.mem_singleton.mp w3
    have g3 := wOk_3 q.2 j hj
    rw [e, wCh_L, wCh_M]
    rcases (show wG n W j = 0 ∨ wG n W j = 1 ∨ wG n W j = 2 by omega) with z | z | z
    · rw [z] at hix; rw [ij] at hi0; omega
    · rw [z] at hix; omega
    · rw [z] at hix; omega
  · rw [if_neg q] at w3
    cases w3
/-! bits -/
def wOr (x : Nat → Nat) : Nat → Nat
  | 0 => 0
  | c + 1 => wOr x c ||| x c
theorem wOr_bit (x : Nat → Nat) (i : Nat) : ∀ n, (wOr x n).testBit i = true ↔ ∃ c, c < n ∧ (x c).testBit i = true
  | 0 => ⟨fun h => absurd h (by rw [show wOr x 0 = 0 from rfl, Nat.zero_testBit]; decide), fun ⟨c, hc, _⟩ => by omega⟩
  | n + 1 => by
    show (wOr x n ||| x n).testBit i = true ↔ _
    rw [Nat.testBit_or, Bool.or_eq_true, wOr_bit x i n]
    constructor
    · intro h
      rcases h with ⟨c, h1, h2⟩ | h
      · exact ⟨c, by omega, h2⟩
      · exact ⟨n, by omega, h⟩
    · intro ⟨c, h1, h2⟩
      by_cases z : c = n
      · rw [z] at h2; exact Or.inr h2
      · exact Or.inl ⟨c, by omega, h2⟩
theorem wOr_lt {x : Nat → Nat} {m : Nat} : ∀ {n : Nat}, (∀ c, c < n → x c < 2 ^ m) → wOr x n < 2 ^ m
  | 0, _ => Nat.two_pow_pos m
  | n + 1, h => Nat.or_lt_two_pow (wOr_lt (fun c hc => h c (by omega))) (h n (by omega))
theorem dv_bit {t x : Nat} : 2 ^ t ∣ x ↔ ∀ i, i < t → x.testBit i = false := by
  constructor
  · intro ⟨q, hq⟩ i hi
    rw [hq, Nat.testBit_two_pow_mul]
    simp only [Bool.and_eq_false_imp, decide_eq_true_eq]
    intro h; omega
  · intro h
    refine Nat.dvd_of_mod_eq_zero (Nat.eq_of_testBit_eq (fun i => ?_))
    rw [Nat.testBit_mod_two_pow, Nat.zero_testBit]
    by_cases z : i < t
    · rw [h i z, Bool.and_false]
    · rw [decide_eq_false z, Bool.false_and]
theorem wOr_dv {x : Nat → Nat} {t n : Nat} : 2 ^ t ∣ wOr x n ↔ ∀ c, c < n → 2 ^ t ∣ x c := by
  rw [dv_bit]
  constructor
  · intro h c hc
    refine dv_bit.mpr (fun i hi => ?_)
    refine Bool.eq_false_iff.mpr (fun q => ?_)
    have := (wOr_bit x i n).mpr ⟨c, hc, q⟩
    rw [h i hi] at this
    cases this
  · intro h i hi
    refine Bool.eq_false_iff.mpr (fun q => ?_)
    obtain ⟨c, hc, q2⟩ := (wOr_bit x i n).mp q
    rw [dv_bit.mp (h c hc) i hi] at q2
    cases q2
theorem odd_part : ∀ (B : Nat), 0 < B → ∃ t q, B = 2 ^ t * (2 * q + 1) := by
  intro B
  induction B using Nat.strongRecOn with
  | ind B ih =>
    intro h
    by_cases z : B % 2 = 1
    · exact ⟨0, B / 2, by rw [Nat.pow_zero, Nat.one_mul]; omega⟩
    · obtain ⟨t, q, e⟩ := ih (B / 2) (by omega) (by omega)
      refine ⟨t + 1, q, ?_⟩
      rw [Nat.pow_succ, Nat.mul_comm (2 ^ t) 2, Nat.mul_assoc, ← e]
      omega
theorem low_nat {B t q : Nat} (e : B = 2 ^ t * (2 * q + 1)) (hB : B < 2 ^ 32) : B &&& (2 ^ 32 - B) = 2 ^ t := by
  have p := Nat.two_pow_pos t
  have B0 : 0 < B := by rw [e]; exact Nat.mul_pos p (by omega)
  have e1 : B - 1 = 2 ^ t * (2 * q) + (2 ^ t - 1) := by rw [e, Nat.mul_add, Nat.mul_one]; omega
  refine Nat.eq_of_testBit_eq (fun i => ?_)
  rw [Nat.testBit_and, show 2 ^ 32 - B = 2 ^ 32 - ((B - 1) + 1) by omega, Nat.testBit_two_pow_sub_succ (by omega), Nat.testBit_two_pow]
  have hb : B.testBit i = true → i < 32 := fun h => Classical.byContradiction fun z => by
    rw [Nat.testBit_lt_two_pow (Nat.lt_of_lt_of_le hB (Nat.pow_le_pow_right (by decide) (by omega)))] at h
    cases h
  have b1 : B.testBit i = if i < t then false else (2 * q + 1).testBit (i - t) := by
    have := Nat.testBit_two_pow_mul_add (2 * q + 1) (b := 0) p i
    rw [Nat.add_zero, Nat.zero_testBit] at this
    rw [e, this]
  have b2 : (B - 1).testBit i = if i < t then (2 ^ t - 1).testBit i else (2 * q).testBit (i - t) := by
    rw [e1, Nat.testBit_two_pow_mul_add _ (by omega)]
  by_cases z : i < t
  · rw [b1, if_pos z, Bool.false_and, decide_eq_false (by omega)]
  · by_cases y : i = t
    · have z1 : B.testBit i = true := by
        rw [b1, if_neg z, y, Nat.sub_self, Nat.testBit_zero]
        exact decide_eq_true (by omega)
      have z2 : (B - 1).testBit i = false := by
        rw [b2, if_neg z, y, Nat.sub_self, Nat.testBit_zero]
        exact decide_eq_false (by omega)
      rw [z1, z2, decide_eq_true (hb z1), decide_eq_true y.symm]
      rfl
    · have z3 : (B - 1).testBit i = B.testBit i := by
        rw [b1, b2, if_neg z, if_neg z]
        obtain ⟨j, hj⟩ : ∃ j, i - t = j + 1 := ⟨i - t - 1, by omega⟩
        rw [hj, Nat.testBit_succ, Nat.testBit_succ, show 2 * q / 2 = q by omega, show (2 * q + 1) / 2 = q by omega]
      rw [z3, decide_eq_false (p := t = i) (fun q => y q.symm)]
      cases B.testBit i with
      | false => rfl
      | true => simp
theorem nI_neg {B : Nat} (h : 0 < B) (hB : B < 2 ^ 32) : -(nI B) = nI (2 ^ 32 - B) := by
  refine Int32.toBitVec_inj.mp ?_
  rw [Int32.toBitVec_neg]
  show -(BitVec.ofNat 32 B) = BitVec.ofNat 32 (2 ^ 32 - B)
  refine BitVec.eq_of_toNat_eq ?_
  rw [BitVec.toNat_neg, BitVec.toNat_ofNat, BitVec.toNat_ofNat, Nat.mod_eq_of_lt hB]
theorem low_I {B t q : Nat} (e : B = 2 ^ t * (2 * q + 1)) (hB : B < 2 ^ 32) : nI B &&& -(nI B) = nI (2 ^ t) := by
  rw [nI_neg (by rw [e]; exact Nat.mul_pos (Nat.two_pow_pos _) (by omega)) hB, nx_and, low_nat e hB]
