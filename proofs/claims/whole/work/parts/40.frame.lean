/-! ===== what stays: frames; the tape ===== -/
def zF (p : Nat → Prop) (h h' : MH) : Prop := (∀ a, p a → h'.1 a = h.1 a ∧ h'.2.1 a = h.2.1 a ∧ h'.2.2.1 a = h.2.2.1 a) ∧ h'.2.2.2 = h.2.2.2
theorem zF.rfl {p : Nat → Prop} {h : MH} : zF p h h := ⟨fun _ _ => ⟨Eq.refl _, Eq.refl _, Eq.refl _⟩, Eq.refl _⟩
theorem zF.trans {p : Nat → Prop} {h h1 h2 : MH} (a : zF p h h1) (b : zF p h1 h2) : zF p h h2 := ⟨fun x q => ⟨(b.1 x q).1.trans (a.1 x q).1, (b.1 x q).2.1.trans (a.1 x q).2.1, (b.1 x q).2.2.trans (a.1 x q).2.2⟩, b.2.trans a.2⟩
theorem zF.weak {p q : Nat → Prop} {h h' : MH} (f : zF p h h') (w : ∀ a, q a → p a) : zF q h h' := ⟨fun a ha => f.1 a (w a ha), f.2⟩
theorem zF.i {p : Nat → Prop} {h h' : MH} (f : zF p h h') {a : Nat} (ha : p a) : h'.1 a = h.1 a := (f.1 a ha).1
theorem zF.l {p : Nat → Prop} {h h' : MH} (f : zF p h h') {a : Nat} (ha : p a) : h'.2.1 a = h.2.1 a := (f.1 a ha).2.1
theorem zF.r {p : Nat → Prop} {h h' : MH} (f : zF p h h') {a : Nat} (ha : p a) : h'.2.2.1 a = h.2.2.1 a := (f.1 a ha).2.2
theorem zI_s (h : MH) (a k : Nat) (v : Int32) : (zsI h a k v).1 a k = v := by
  show (if a = a then upd (h.1 a) k v else h.1 a) k = v
  rw [if_pos rfl]
  exact if_pos rfl
theorem zI_k (h : MH) (a : Nat) {j k : Nat} (v : Int32) (hj : j ≠ k) : (zsI h a k v).1 a j = h.1 a j := by
  show (if a = a then upd (h.1 a) k v else h.1 a) j = _
  rw [if_pos rfl]
  exact if_neg hj
theorem zI_o (h : MH) {a b : Nat} (k : Nat) (v : Int32) (hb : b ≠ a) : (zsI h a k v).1 b = h.1 b := if_neg hb
theorem zL_s (h : MH) (a k : Nat) (v : Int64) : (zsL h a k v).2.1 a k = v := by
  show (if a = a then vp_updL (h.2.1 a) k v else h.2.1 a) k = v
  rw [if_pos rfl]
  exact if_pos rfl
theorem zL_k (h : MH) (a : Nat) {j k : Nat} (v : Int64) (hj : j ≠ k) : (zsL h a k v).2.1 a j = h.2.1 a j := by
  show (if a = a then vp_updL (h.2.1 a) k v else h.2.1 a) j = _
  rw [if_pos rfl]
  exact if_neg hj
theorem zL_o (h : MH) {a b : Nat} (k : Nat) (v : Int64) (hb : b ≠ a) : (zsL h a k v).2.1 b = h.2.1 b := if_neg hb
theorem zF_I {p : Nat → Prop} {a : Nat} (h : MH) (k : Nat) (v : Int32) (ha : ¬ p a) : zF p h (zsI h a k v) := ⟨fun b hb => ⟨if_neg (fun q => ha (by rw [← q]; exact hb)), rfl, rfl⟩, rfl⟩
theorem zF_L {p : Nat → Prop} {a : Nat} (h : MH) (k : Nat) (v : Int64) (ha : ¬ p a) : zF p h (zsL h a k v) := ⟨fun b hb => ⟨rfl, if_neg (fun q => ha (by rw [← q]; exact hb)), rfl⟩, rfl⟩
theorem zF_R {p : Nat → Prop} {a : Nat} (h : MH) (k : Nat) (v : Nat) (ha : ¬ p a) : zF p h (zsR h a k v) := ⟨fun b hb => ⟨rfl, rfl, if_neg (fun q => ha (by rw [← q]; exact hb))⟩, rfl⟩
/-- byte j of a number -/
def zby (v : Int32) (j : Nat) : Nat := v.toBitVec.toNat / 2 ^ (24 - 8 * j) % 256
theorem zby_lt (v : Int32) (j : Nat) : zby v j < 256 := Nat.mod_lt _ (by decide)
theorem zby_c (v : Int32) {j : Nat} (hj : j < 4) : ((v.toUInt32 >>> ((nI (24 - 8 * j)).toUInt32 &&& Int32.toUInt32 31)).toInt32) &&& (nI 255) = nI (zby v j) := by
  rw [pk_and _ 8 rfl]
  have h4 : j = 0 ∨ j = 1 ∨ j = 2 ∨ j = 3 := by omega
  rcases h4 with rfl | rfl | rfl | rfl
  · rw [pk_ushr v (nI 24) 24 rfl]; rfl
  · rw [pk_ushr v (nI 16) 16 rfl]; rfl
  · rw [pk_ushr v (nI 8) 8 rfl]; rfl
  · rw [pk_ushr v (nI 0) 0 rfl]; rfl
theorem zshr_mod (v : Int32) (s : Int32) (k : Nat) (hs : (s.toBitVec.smod 32).toNat = k) (hk : k ≤ 24) : (v >>> s).toBitVec.toNat % 256 = v.toBitVec.toNat / 2 ^ k % 256 := by
  have e := pk_shr v s k hs
  have e1 : ((v >>> s).toBitVec.toNat : Int) % 256 = (v >>> s).toInt % 256 := by
    have : (v >>> s).toInt = (v >>> s).toBitVec.toInt := rfl
    rw [this, BitVec.toInt_eq_toNat_cond]
    split
    · rfl
    · omega
  have e2 : ((v.toBitVec.toNat / 2 ^ k : Nat) : Int) % 256 = (v.toInt >>> k) % 256 := by
    have h0 : v.toInt = v.toBitVec.toInt := rfl
    rw [h0, BitVec.toInt_eq_toNat_cond, Int.shiftRight_eq_div_pow]
    split
    · rfl
    · have hp : ((2 ^ k : Nat) : Int) * (2 ^ (32 - k) : Nat) = 2 ^ 32 := by
        rw [← Int.natCast_mul, ← Nat.pow_add, show k + (32 - k) = 32 by omega]; rfl
      have hq : ((v.toBitVec.toNat : Int) - ((2 ^ 32 : Nat) : Int)) = v.toBitVec.toNat + (2 ^ k : Nat) * (-((2 ^ (32 - k) : Nat) : Int)) := by
        rw [Int.mul_neg, hp]
        rfl
      rw [hq, Int.add_mul_ediv_left _ _ (by have := Nat.two_pow_pos k; omega)]
      have h8 : ((2 ^ (32 - k) : Nat) : Int) = 256 * (2 ^ (24 - k) : Nat) := by
        rw [show 32 - k = 8 + (24 - k) by omega, Nat.pow_add]; rfl
      rw [h8, Int.natCast_ediv]
      omega
  rw [e] at e1
  omega
theorem zby_m (v : Int32) {j : Nat} (hj : j < 4) : (v >>> ((nI 24 - nI 8 * nI j) &&& nI 31)) &&& (nI 255) = nI (zby v j) := by
  rw [pk_and _ 8 rfl]
  have h4 : j = 0 ∨ j = 1 ∨ j = 2 ∨ j = 3 := by omega
  have h2 : (2 : Nat) ^ 8 = 256 := rfl
  rw [h2]
  rcases h4 with rfl | rfl | rfl | rfl
  · rw [zshr_mod v _ 24 (by decide) (by omega)]; rfl
  · rw [zshr_mod v _ 16 (by decide) (by omega)]; rfl
  · rw [zshr_mod v _ 8 (by decide) (by omega)]; rfl
  · rw [zshr_mod v _ 0 (by decide) (by omega)]; rfl
