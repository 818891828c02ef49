/-! ===== conditions that omega decides, as rewriting rows ===== -/
theorem xle_t {a b : Nat} (h : a ≤ b) (hb : b < 2 ^ 31) : (nI a ≤ nI b) = True := eq_true (nI_le h hb)
theorem xle_f {a b : Nat} (h : b < a) (ha : a < 2 ^ 31) : (nI a ≤ nI b) = False := eq_false (nI_ge h ha)
theorem xlt_t {a b : Nat} (h : a < b) (hb : b < 2 ^ 31) : (nI a < nI b) = True := eq_true (nI_lt h hb)
theorem xlt_f {a b : Nat} (h : b ≤ a) (ha : a < 2 ^ 31) : (nI a < nI b) = False := eq_false (nI_nlt h ha)
theorem xeq_t {a b : Nat} (h : a = b) : (nI a = nI b) = True := eq_true (by rw [h])
theorem xeq_f {a b : Nat} (h : a ≠ b) (ha : a < 2 ^ 31) (hb : b < 2 ^ 31) : (nI a = nI b) = False := eq_false (fun q => h ((nI_eq ha hb).mp q))
theorem xle0_t {a : Nat} (h : a = 0) : (nI a ≤ 0) = True := eq_true (by subst h; decide)
theorem xle0_f {a : Nat} (h : 0 < a) (ha : a < 2 ^ 31) : (nI a ≤ 0) = False := eq_false (nI_nle h ha)
theorem xlt0_f {a : Nat} (ha : a < 2 ^ 31) : (nI a < 0) = False := eq_false (nI_pos ha)
theorem x0lt_t {a : Nat} (h : 0 < a) (ha : a < 2 ^ 31) : (0 < nI a) = True := eq_true (by have := nI_lt h ha; rwa [nI_0] at this)
theorem x0lt_f {a : Nat} (h : a = 0) : (0 < nI a) = False := eq_false (by subst h; decide)
theorem x0le_t {a : Nat} (ha : a < 2 ^ 31) : (0 ≤ nI a) = True := eq_true (nI_pos' ha)
theorem xeq0_t {a : Nat} (h : a = 0) : (nI a = 0) = True := eq_true (by subst h; decide)
theorem xeq0_f {a : Nat} (h : 0 < a) (ha : a < 2 ^ 31) : (nI a = 0) = False := eq_false (nI_ne0 h ha)
theorem xle0_i {a : Nat} (ha : a < 2 ^ 31) : (nI a ≤ 0) = (a = 0) := by
  by_cases h : a = 0
  · rw [xle0_t h, eq_true h]
  · rw [xle0_f (by omega) ha, eq_false h]
theorem xeq0_i {a : Nat} (ha : a < 2 ^ 31) : (nI a = 0) = (a = 0) := by
  by_cases h : a = 0
  · rw [xeq0_t h, eq_true h]
  · rw [xeq0_f (by omega) ha, eq_false h]
theorem x0lt_i {a : Nat} (ha : a < 2 ^ 31) : (0 < nI a) = (0 < a) := by
  by_cases h : 0 < a
  · rw [x0lt_t h ha, eq_true h]
  · rw [x0lt_f (by omega), eq_false h]
theorem xle_i {a b : Nat} (ha : a < 2 ^ 31) (hb : b < 2 ^ 31) : (nI a ≤ nI b) = (a ≤ b) := propext (nI_leI ha hb)
theorem xlt_i {a b : Nat} (ha : a < 2 ^ 31) (hb : b < 2 ^ 31) : (nI a < nI b) = (a < b) := propext (nI_ltI ha hb)
theorem xeq_i {a b : Nat} (ha : a < 2 ^ 31) (hb : b < 2 ^ 31) : (nI a = nI b) = (a = b) := propext (nI_eq ha hb)
theorem xin {a N : Nat} (h : a < N) (hN : N < 2 ^ 31) : vp_in (nI a) N = True := eq_true (vp_in_nI h hN)
theorem xm1_toInt : (-(nI 1)).toInt = -1 := by decide
theorem xem_f {a : Nat} (ha : a < 2 ^ 31) : (nI a = -(nI 1)) = False := eq_false (fun q => by
  have h1 := nI_toInt ha
  rw [q, xm1_toInt] at h1
  omega)
theorem xme_f {a : Nat} (ha : a < 2 ^ 31) : (-(nI 1) = nI a) = False := eq_false (fun q => by
  have h1 := nI_toInt ha
  rw [← q, xm1_toInt] at h1
  omega)
theorem xlem_f {a : Nat} (ha : a < 2 ^ 31) : (nI a ≤ -(nI 1)) = False := eq_false (fun q => by
  rw [Int32.le_iff_toInt_le, nI_toInt ha, xm1_toInt] at q
  omega)
theorem xlm_f {a : Nat} (ha : a < 2 ^ 31) : (nI a < -(nI 1)) = False := eq_false (fun q => by
  rw [Int32.lt_iff_toInt_lt, nI_toInt ha, xm1_toInt] at q
  omega)
theorem xml_t {a : Nat} (ha : a < 2 ^ 31) : (-(nI 1) < nI a) = True := eq_true (by
  rw [Int32.lt_iff_toInt_lt, nI_toInt ha, xm1_toInt]
  omega)
theorem xmle_t {a : Nat} (ha : a < 2 ^ 31) : (-(nI 1) ≤ nI a) = True := eq_true (by
  rw [Int32.le_iff_toInt_le, nI_toInt ha, xm1_toInt]
  omega)
theorem xmin {a b : Nat} (hb : b < 2 ^ 31) (ha : a < 2 ^ 31) : (if nI a < nI b then nI a else nI b) = nI (min a b) := by
  by_cases h : a < b
  · rw [if_pos (nI_lt h hb), Nat.min_eq_left (by omega)]
  · rw [if_neg (nI_nlt (by omega) ha), Nat.min_eq_right (by omega)]
theorem xmax {a b : Nat} (hb : b < 2 ^ 31) (ha : a < 2 ^ 31) : (if nI a < nI b then nI b else nI a) = nI (max a b) := by
  by_cases h : a < b
  · rw [if_pos (nI_lt h hb), Nat.max_eq_right (by omega)]
  · rw [if_neg (nI_nlt (by omega) ha), Nat.max_eq_left (by omega)]
theorem zR_s (h : MH) (a k : Nat) (v : Nat) : (zsR h a k v).2.2.1 a k = v := by
  show (if a = a then va_up (h.2.2.1 a) k v else h.2.2.1 a) k = v
  rw [if_pos rfl]
  exact if_pos rfl
theorem zR_k (h : MH) (a : Nat) {j k : Nat} (v : Nat) (hj : j ≠ k) : (zsR h a k v).2.2.1 a j = h.2.2.1 a j := by
  show (if a = a then va_up (h.2.2.1 a) k v else h.2.2.1 a) j = _
  rw [if_pos rfl]
  exact if_neg hj
theorem zR_o (h : MH) {a b : Nat} (k : Nat) (v : Nat) (hb : b ≠ a) : (zsR h a k v).2.2.1 b = h.2.2.1 b := if_neg hb
theorem zIL (h : MH) (a k : Nat) (v : Int32) : (zsI h a k v).2.1 = h.2.1 := rfl
theorem zIR (h : MH) (a k : Nat) (v : Int32) : (zsI h a k v).2.2.1 = h.2.2.1 := rfl
theorem zIN (h : MH) (a k : Nat) (v : Int32) : (zsI h a k v).2.2.2 = h.2.2.2 := rfl
theorem zLI (h : MH) (a k : Nat) (v : Int64) : (zsL h a k v).1 = h.1 := rfl
theorem zLR (h : MH) (a k : Nat) (v : Int64) : (zsL h a k v).2.2.1 = h.2.2.1 := rfl
theorem zLN (h : MH) (a k : Nat) (v : Int64) : (zsL h a k v).2.2.2 = h.2.2.2 := rfl
theorem zRI (h : MH) (a k : Nat) (v : Nat) : (zsR h a k v).1 = h.1 := rfl
theorem zRL (h : MH) (a k : Nat) (v : Nat) : (zsR h a k v).2.1 = h.2.1 := rfl
theorem zRN (h : MH) (a k : Nat) (v : Nat) : (zsR h a k v).2.2.2 = h.2.2.2 := rfl
theorem zC_s (h : MH) (a b n : Nat) {j : Nat} (hj : j < n) : (zcI h a b 0 0 n).1 b j = h.1 a j := by
  show (if b = b then va_cpy (h.1 a) (h.1 b) 0 0 n else h.1 b) j = _
  rw [if_pos rfl, pk_cpy_in (Nat.zero_le _) (by omega), Nat.zero_add, Nat.sub_zero]
theorem zC_o (h : MH) (a : Nat) {b c : Nat} (s e n : Nat) (hc : c ≠ b) : (zcI h a b s e n).1 c = h.1 c := if_neg hc
theorem zCL (h : MH) (a b s e n : Nat) : (zcI h a b s e n).2.1 = h.2.1 := rfl
theorem zCR (h : MH) (a b s e n : Nat) : (zcI h a b s e n).2.2.1 = h.2.2.1 := rfl
theorem zCN (h : MH) (a b s e n : Nat) : (zcI h a b s e n).2.2.2 = h.2.2.2 := rfl
theorem zF_C {p : Nat → Prop} {b : Nat} (h : MH) (a s e n : Nat) (hb : ¬ p b) : zF p h (zcI h a b s e n) := ⟨fun c hc => ⟨if_neg (fun q => hb (by rw [← q]; exact hc)), rfl, rfl⟩, rfl⟩
/-- an update of a function -/
theorem kU_s {α : Type} (g : Nat → α) (i : Nat) (v : α) : kU g i v i = v := if_pos rfl
theorem kU_o {α : Type} (g : Nat → α) {i j : Nat} (v : α) (h : j ≠ i) : kU g i v j = g j := if_neg h
