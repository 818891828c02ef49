/-! ===== longs ===== -/
theorem ylle_t {a b : Nat} (h : a ≤ b) (hb : b < 2 ^ 63) : (lN a ≤ lN b) = True := eq_true ((pk_lLE (by omega) hb).mpr h)
theorem ylle_f {a b : Nat} (h : b < a) (ha : a < 2 ^ 63) : (lN a ≤ lN b) = False := eq_false (fun q => by
  have := (pk_lLE ha (by omega)).mp q
  omega)
theorem ylle_i {a b : Nat} (ha : a < 2 ^ 63) (hb : b < 2 ^ 63) : (lN a ≤ lN b) = (a ≤ b) := propext (pk_lLE ha hb)
theorem xcl {a n : Nat} (ha : a < 2 ^ 31) (hn : n < 2 ^ 31) : (lN a ≤ (nI n - nI 1).toInt64) = (a < n) := by
  refine propext ?_
  rw [wle, w64, pk_lT (by omega)]
  by_cases h0 : n = 0
  · subst h0
    rw [show (nI 0 - nI 1).toInt = -1 from by decide]
    omega
  · rw [pk_sub (by omega), nI_toInt (by omega)]
    omega
theorem xcl_t {a n : Nat} (h : a < n) (hn : n < 2 ^ 31) : (lN a ≤ (nI n - nI 1).toInt64) = True := by rw [xcl (by omega) hn]; exact eq_true h
theorem xcl_f {a n : Nat} (h : n ≤ a) (ha : a < 2 ^ 31) : (lN a ≤ (nI n - nI 1).toInt64) = False := by rw [xcl ha (by omega)]; exact eq_false (by omega)
