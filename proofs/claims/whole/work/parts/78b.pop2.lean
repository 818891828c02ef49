/-! ===== Long.bitCount, Integer.bitCount ===== -/
theorem bA_le {f : Nat → Nat} {c : Nat} (hf : ∀ b, b < 256 → f b ≤ c) : ∀ n x, bA f n x ≤ c * bM 1 n
  | 0, x => Nat.zero_le _
  | n + 1, x => by
    have h1 := bA_le hf n (x / 256)
    have h2 := hf (x % 256) (Nat.mod_lt _ (by decide))
    show f (x % 256) + 256 * bA f n (x / 256) ≤ c * (1 + 256 * bM 1 n)
    rw [Nat.mul_add, Nat.mul_one, Nat.mul_left_comm]
    omega
theorem bM1 : bM 1 8 = 72340172838076673 := by decide +kernel
theorem bM85 : bM 85 8 = 6148914691236517205 := by decide +kernel
theorem bM51 : bM 51 8 = 3689348814741910323 := by decide +kernel
theorem bM15 : bM 15 8 = 1085102592571150095 := by decide +kernel
theorem p2_68 (b : Nat) (hb : b < 256) : p2 b ≤ 68 := by
  obtain ⟨_, _, h1, h2, _⟩ := pq2 b hb
  omega
theorem p1_255 (b : Nat) (hb : b < 256) : p1 b ≤ 255 := by
  have := (pq2 b hb).2.1
  omega
theorem L85 : (6148914691236517205 : Int64) = lN 6148914691236517205 := rfl
theorem L51 : (3689348814741910323 : Int64) = lN 3689348814741910323 := rfl
theorem L15 : (1085102592571150095 : Int64) = lN 1085102592571150095 := rfl
theorem bA8 (x : Nat) : bA p3 8 x = p3 (x % 256) + 256 * bA p3 7 (x / 256) := rfl
theorem bA_s (f : Nat → Nat) (n x : Nat) : bA f (n + 1) x = f (x % 256) + 256 * bA f n (x / 256) := rfl
theorem bC_s (n x : Nat) : bC (n + 1) x = p3 (x % 256) + bC n (x / 256) := rfl
theorem popW (x : Nat) : ∃ w1 w2, w1 = bA p3 8 x + bA p3 8 x / 256 ∧ w2 = w1 + w1 / 65536 ∧ (w2 + w2 / 4294967296) % 128 = bC 8 x := by
  have hb : ∀ y, p3 (y % 256) ≤ 8 := fun y => (pq2 _ (Nat.mod_lt _ (by decide))).2.2.2.2
  have z : ∀ y, bA p3 0 y = 0 := fun _ => rfl
  have zc : ∀ y, bC 0 y = 0 := fun _ => rfl
  have a7 : ∀ y, bA p3 1 y = p3 (y % 256) := fun y => by rw [bA_s, z]; rfl
  obtain ⟨w1, w2, e1, e2, e3⟩ := ps6a (c0 := p3 (x % 256)) (hb _) (hb (x / 256)) (hb (x / 256 / 256)) (hb (x / 256 / 256 / 256)) (hb (x / 256 / 256 / 256 / 256)) (hb (x / 256 / 256 / 256 / 256 / 256)) (hb (x / 256 / 256 / 256 / 256 / 256 / 256)) (hb (x / 256 / 256 / 256 / 256 / 256 / 256 / 256)) rfl rfl rfl rfl rfl rfl
  refine ⟨w1, w2, ?_, e2, ?_⟩
  · rw [bA_s, bA_s, bA_s, bA_s, bA_s, bA_s, bA_s, a7]; exact e1
  · rw [e3, bC_s, bC_s, bC_s, bC_s, bC_s, bC_s, bC_s, bC_s, zc]; simp only [Nat.add_assoc, Nat.add_zero]
theorem c_bitL {h : MH} {d : Nat} {Q : Option MV → MH → Prop} (v : Int64) (kk : Q (some (.inl (nI (fb_ct (fun i => v.toBitVec.getLsbD i) 64)))) h) : Con mJ13_bitCount_95d88 d 0 0 [.inr (.inl v)] h Q := by
  obtain ⟨x, hx, rfl⟩ := wb_of v
  refine Con.intro (by decide +kernel) (Nat.le_of_ble_eq_true rfl) ?_
  refine bJ13_bitCount_95d88_0 ?_
  have l1 : (x / 2 ^ 1 &&& 6148914691236517205) ≤ x := Nat.le_trans Nat.and_le_left (Nat.div_le_self _ _)
  have s1 : x - (x / 2 ^ 1 &&& 6148914691236517205) = bA p1 8 x := by
    have := ps1 8 x hx
    rw [bM85] at this
    exact this
  have s2 : (bA p1 8 x &&& 3689348814741910323) + (bA p1 8 x / 2 ^ 2 &&& 3689348814741910323) = bA p2 8 x := by
    have := ps2 8 x
    rw [bM51] at this
    exact this
  have s3 : (bA p2 8 x + bA p2 8 x / 2 ^ 4) &&& 1085102592571150095 = bA p3 8 x := by
    have := ps3 8 x
    rw [bM15] at this
    exact this
  have b1 := bA_le p1_255 8 x
  have b2 := bA_le p2_68 8 x
  have b3 := bA_le (c := 8) (fun b hb => (pq2 b hb).2.2.2.2) 8 x
  rw [bM1] at b1 b2 b3
  obtain ⟨w1, w2, e1, e2, e3⟩ := popW x
  have ec : bC 8 x = fb_ct (fun i => (lN x).toBitVec.getLsbD i) 64 := by
    rw [bC_ct]
    refine fb_ct_cong (fun k hk => ?_)
    rw [wb_tb, BitVec.getLsbD_ofNat, decide_eq_true hk, Bool.true_and]
  rw [← ec] at kk
  generalize bA p1 8 x = y1 at s1 s2 b1
  generalize bA p2 8 x = y2 at s2 s3 b2
  generalize bA p3 8 x = y3 at s3 b3 e1
  generalize bC 8 x = z at kk e3
  have h1 : ((lN x).toUInt64 >>> ((nI 1).toInt64.toUInt64 &&& Int64.toUInt64 63)).toInt64 = lN (x / 2 ^ 1) := wb_shr hx (by decide)
  have hx2 : x / 2 ^ 1 < 2 ^ 64 := Nat.lt_of_le_of_lt (Nat.div_le_self _ _) hx
  have g1 : lN x - ((((lN x).toUInt64 >>> ((nI 1).toInt64.toUInt64 &&& Int64.toUInt64 63)).toInt64) &&& (6148914691236517205 : Int64)) = lN y1 := by
    rw [h1, L85, wb_and hx2 (by decide), lN_sub l1, s1]
  have hy1 : y1 < 2 ^ 64 := Nat.lt_of_le_of_lt b1 (by decide)
  have g2 : (lN y1 &&& (3689348814741910323 : Int64)) + ((((lN y1).toUInt64 >>> ((nI 2).toInt64.toUInt64 &&& Int64.toUInt64 63)).toInt64) &&& (3689348814741910323 : Int64)) = lN y2 := by
    rw [wb_shr hy1 (by decide), L51, wb_and hy1 (by decide), wb_and (Nat.lt_of_le_of_lt (Nat.div_le_self _ _) hy1) (by decide), lN_add, s2]
  have hy2 : y2 < 2 ^ 64 := Nat.lt_of_le_of_lt b2 (by decide)
  have hy2b : y2 + y2 / 2 ^ 4 < 2 ^ 64 := Nat.lt_of_le_of_lt (Nat.add_le_add b2 (Nat.le_trans (Nat.div_le_self _ _) b2)) (by decide)
  have g3 : (lN y2 + ((lN y2).toUInt64 >>> ((nI 4).toInt64.toUInt64 &&& Int64.toUInt64 63)).toInt64) &&& (1085102592571150095 : Int64) = lN y3 := by
    rw [wb_shr hy2 (by decide), L15, lN_add, wb_and hy2b (by decide), s3]
  have hy3 : y3 < 2 ^ 64 := Nat.lt_of_le_of_lt b3 (by decide)
  have g4 : lN y3 + ((lN y3).toUInt64 >>> ((nI 8).toInt64.toUInt64 &&& Int64.toUInt64 63)).toInt64 = lN w1 := by
    rw [wb_shr hy3 (by decide), lN_add, e1]
  have hw1' : w1 ≤ 16 * 72340172838076673 := by
    rw [e1]
    exact Nat.le_trans (Nat.add_le_add b3 (Nat.le_trans (Nat.div_le_self _ _) b3)) (by decide)
  have hw1 : w1 < 2 ^ 64 := Nat.lt_of_le_of_lt hw1' (by decide)
  have g5 : lN w1 + ((lN w1).toUInt64 >>> ((nI 16).toInt64.toUInt64 &&& Int64.toUInt64 63)).toInt64 = lN w2 := by
    rw [wb_shr hw1 (by decide), lN_add, e2]
  have hw2' : w2 ≤ 32 * 72340172838076673 := by
    rw [e2]
    exact Nat.le_trans (Nat.add_le_add hw1' (Nat.le_trans (Nat.div_le_self _ _) hw1')) (by decide)
  have hw2 : w2 < 2 ^ 64 := Nat.lt_of_le_of_lt hw2' (by decide)
  have g6 : lN w2 + ((lN w2).toUInt64 >>> ((nI 32).toInt64.toUInt64 &&& Int64.toUInt64 63)).toInt64 = lN (w2 + w2 / 4294967296) := by
    rw [wb_shr hw2 (by decide), lN_add]
  simp only [g1, g2, g3, g4, g5, g6]
  rw [lN_i, pk_and _ 7 rfl]
  have e9 : (nI (w2 + w2 / 4294967296)).toBitVec.toNat % 2 ^ 7 = z := by
    show ((w2 + w2 / 4294967296) % 2 ^ 32) % 2 ^ 7 = z
    rw [Nat.mod_mod_of_dvd _ (by decide)]
    exact e3
  rw [e9]
  exact kk
def pc8 (n : Nat) : Nat := fb_ct (fun i => n.testBit i) 8
