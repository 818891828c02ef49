/-! ===== the layout: which cell is where, once all is made ===== -/
def zR0 (o k : Nat) : Nat := match (zk o).1 with
  | 0 => o + [0, 0, 1, 2, 3, 6].getD k 0
  | 1 => o + [1, 6].getD k 0
  | 2 => o + k
  | 3 => o + 1
  | 4 => o + (k - 1)
  | 5 => o + (k - 1)
  | 6 => o + 1
  | 7 => o + 1
  | 8 => o + k
  | 9 => o + [0, 0, 0, 0, 0, 0, 0, 0, 0, 0, 0, 0, 1, 2, 3, 9].getD k 0
  | 10 => [0, 2, 4, 9, 15, 46, 47, 48, 57, 58, 62, 77, 97, 99, 101].getD k 0
  | 11 => [0, 112, 113, 114, 115, 0, 0, 0, 0, 0, 0, 0, 0, 0, 0, 116, 117, 118, 119, 120, 121, 122, 123, 124, 0, 0, 0, 0, 0, 0, 125, 126, 0, 127, 128, 129, 130, 131, 0, 0, 0, 0, 0, 132, 133, 134, 135, 0, 0, 136, 137, 138, 139, 140, 141, 142].getD k 0
  | 30 => o + 1 + 6 * k
  | 32 => 103 + 2 * k
  | 33 => o + 1 + k
  | _ => 0
def zmu (o k : Nat) : Bool := match (zk o).1 with
  | 8 => Nat.beq k 14
  | 9 => Nat.beq k 11
  | 0 => Nat.beq k 1
  | 31 => true
  | _ => false
def zir (o k : Nat) : Bool := match (zk o).1 with
  | 30 => Nat.blt k 4
  | 32 => Nat.blt k 4
  | 33 => Nat.blt k (zk o).2
  | 31 => true
  | 99 => false
  | 20 => false
  | 21 => false
  | 22 => false
  | c => Nat.blt k (zN c) && (match zty c k with
    | .object _ => true
    | .array _ => true
    | _ => false)
def zRf (h : MH) : Prop := (h.2.2.2 = 142 ∨ h.2.2.2 = 173 ∨ h.2.2.2 = 204) ∧ ∀ o k, 0 < o → o ≤ h.2.2.2 → (zmu o k = false → zir o k = true → h.2.2.1 o k = zR0 o k) ∧ (zmu o k = true → zir o k = true → h.2.2.1 o k ≤ h.2.2.2)
theorem zRf.n {h : MH} (hr : zRf h) : 142 ≤ h.2.2.2 := by
  have := hr.1
  omega
theorem zRf.at {h : MH} (hr : zRf h) {o k v : Nat} (h1 : 0 < o ∧ o ≤ 142) (hm : zmu o k = false ∧ zir o k = true) (hv : zR0 o k = v) : h.2.2.1 o k = v := by
  rw [← hv]
  exact (hr.2 o k h1.1 (by have := hr.n; omega)).1 hm.1 hm.2
theorem zo {h : MH} (hr : zRf h) {a c : Nat} (h1 : 0 < a ∧ a ≤ 142) (hk : (zk a).1 = c) : zokO h a c := ⟨h1.1, by have := hr.n; omega, hk⟩
theorem zia {h : MH} (hr : zRf h) {a kc n : Nat} {i : Int32} (h1 : 0 < a ∧ a ≤ 142) (hk : zk a = (kc, n)) (hi : vp_in i n) : zokA h a kc i := ⟨h1.1, by have := hr.n; omega, by rw [hk], by rw [hk]; exact hi⟩
theorem zir_ {h : MH} (hr : zRf h) {a kc n : Nat} {i : Int32} (h1 : 0 < a ∧ a ≤ 142) (hk : zk a = (kc, n)) (hc : 30 ≤ kc ∧ kc ≤ 33) (hi : vp_in i n) : zokR h a i := ⟨h1.1, by have := hr.n; omega, by rw [hk]; exact hc, by rw [hk]; exact hi⟩
def zoffT : List (Nat × Nat × Nat × Nat) := [(2, 1, 20, 8), (2, 2, 20, 48), (2, 3, 20, 8), (2, 4, 20, 8), (5, 1, 20, 20), (5, 2, 20, 20), (5, 3, 20, 40), (5, 4, 20, 40), (5, 5, 20, 40), (1, 1, 2, 5), (1, 6, 30, 4), (7, 1, 21, 40), (3, 1, 21, 361)]
def zoffG (a : Nat) (q : Nat × Nat × Nat × Nat) : Bool := !(Nat.beq (zk a).1 q.1) || (decide (zk (a + q.2.1) = (q.2.2.1, q.2.2.2)) && (decide (a ≤ 142 → a + q.2.1 ≤ 142) && (decide (a ≤ 173 → a + q.2.1 ≤ 173) && decide (a ≤ 204 → a + q.2.1 ≤ 204))))
theorem zoff_all : (List.range 205).all (fun a => zoffT.all (zoffG a)) = true := by decide +kernel
theorem zoff_at {h : MH} (hr : zRf h) {a c k kc n : Nat} (ho : zokO h a c) (hc : c < 12) (hm : (c, k, kc, n) ∈ zoffT) : 0 < a + k ∧ a + k ≤ h.2.2.2 ∧ zk (a + k) = (kc, n) := by
  have hlt : a < 205 := zk_lt (by rw [ho.2.2]; omega)
  have h1 := List.all_eq_true.mp (List.all_eq_true.mp zoff_all a (List.mem_range.mpr hlt)) _ hm
  unfold zoffG at h1
  simp only [ho.2.2, Nat.beq_refl, Bool.not_true, Bool.false_or, Bool.and_eq_true, decide_eq_true_eq] at h1
  refine ⟨by have := ho.1; omega, ?_, h1.1⟩
  have h2 := hr.1
  have h3 := ho.2.1
  omega
theorem zca {h : MH} (hr : zRf h) {a c k kc n : Nat} {i : Int32} (ho : zokO h a c) (hc : c < 12) (hm : (c, k, kc, n) ∈ zoffT) (hi : vp_in i n) : zokA h (a + k) kc i := by
  obtain ⟨h1, h2, h3⟩ := zoff_at hr ho hc hm
  exact ⟨h1, h2, by rw [h3], by rw [h3]; exact hi⟩
theorem zRf.f {h : MH} (hr : zRf h) {o k v c : Nat} (ho : zokO h o c) (hm : zmu o k = false ∧ zir o k = true) (hv : zR0 o k = v) : h.2.2.1 o k = v := by
  rw [← hv]
  exact (hr.2 o k ho.1 ho.2.1).1 hm.1 hm.2
theorem zRf.f2 {h : MH} (hr : zRf h) {o : Nat} (k : Nat) (ho : zokO h o 2) (hk : 1 ≤ k ∧ k ≤ 4) : h.2.2.1 o k = o + k := by
  have e := ho.2.2
  refine hr.f ho ⟨by unfold zmu; rw [e]; rfl, ?_⟩ (by unfold zR0; rw [e]; rfl)
  have : k = 1 ∨ k = 2 ∨ k = 3 ∨ k = 4 := by omega
  unfold zir
  rw [e]
  rcases this with q | q | q | q <;> subst q <;> rfl
theorem zRf.f5 {h : MH} (hr : zRf h) {o : Nat} (k : Nat) (ho : zokO h o 5) (hk : 2 ≤ k ∧ k ≤ 6) : h.2.2.1 o k = o + (k - 1) := by
  have e := ho.2.2
  refine hr.f ho ⟨by unfold zmu; rw [e]; rfl, ?_⟩ (by unfold zR0; rw [e]; rfl)
  have : k = 2 ∨ k = 3 ∨ k = 4 ∨ k = 5 ∨ k = 6 := by omega
  unfold zir
  rw [e]
  rcases this with q | q | q | q | q <;> subst q <;> rfl
theorem zRf.f1 {h : MH} (hr : zRf h) {o : Nat} (k : Nat) (ho : zokO h o 1) (hk : k < 2) : h.2.2.1 o k = o + [1, 6].getD k 0 := by
  have e := ho.2.2
  refine hr.f ho ⟨by unfold zmu; rw [e]; rfl, ?_⟩ (by unfold zR0; rw [e]; rfl)
  have : k = 0 ∨ k = 1 := by omega
  unfold zir
  rw [e]
  rcases this with q | q <;> subst q <;> rfl
theorem zRf.f7 {h : MH} (hr : zRf h) {o : Nat} (ho : zokO h o 7) : h.2.2.1 o 3 = o + 1 := by
  have e := ho.2.2
  exact hr.f ho ⟨by unfold zmu; rw [e]; rfl, by unfold zir; rw [e]; rfl⟩ (by unfold zR0; rw [e]; rfl)
theorem zRf.f3 {h : MH} (hr : zRf h) {o : Nat} (ho : zokO h o 3) : h.2.2.1 o 1 = o + 1 := by
  have e := ho.2.2
  exact hr.f ho ⟨by unfold zmu; rw [e]; rfl, by unfold zir; rw [e]; rfl⟩ (by unfold zR0; rw [e]; rfl)
theorem zRf.a30 {h : MH} (hr : zRf h) {o j : Nat} (h1 : 0 < o) (h2 : o ≤ h.2.2.2) (hk : zk o = (30, 4)) (hj : j < 4) : h.2.2.1 o j = o + 1 + 6 * j := by
  have e := (hr.2 o j h1 h2).1 (by unfold zmu; rw [hk]; rfl) (by unfold zir; rw [hk]; exact Nat.blt_eq.mpr hj)
  rw [e]
  unfold zR0
  rw [hk]
  rfl
theorem zRf.a32 {h : MH} (hr : zRf h) {j : Nat} (hj : j < 4) : h.2.2.1 47 j = 103 + 2 * j := by
  have e := (hr.2 47 j (by omega) (by have := hr.n; omega)).1 rfl (Nat.blt_eq.mpr hj)
  rw [e]
  rfl
theorem zRf.a33 {h : MH} (hr : zRf h) {o j n : Nat} (h1 : 0 < o ∧ o ≤ 142) (hk : zk o = (33, n)) (hj : j < n) : h.2.2.1 o j = o + 1 + j := by
  have e := (hr.2 o j h1.1 (by have := hr.n; omega)).1 (by unfold zmu; rw [hk]; rfl) (by unfold zir; rw [hk]; exact Nat.blt_eq.mpr hj)
  rw [e]
  unfold zR0
  rw [hk]
  rfl
theorem vp_lt {i : Int32} {n : Nat} (h : vp_in i n) : i.toNatClampNeg < n := Nat.not_le.mp fun q => h (Or.inr q)
/-- a call's result, by what it is -/
def zri (k : Int32 → MH → Prop) : Option MV → MH → Prop := fun r h => match r with
  | some (.inl x) => k x h
  | _ => False
def zrl (k : Int64 → MH → Prop) : Option MV → MH → Prop := fun r h => match r with
  | some (.inr (.inl x)) => k x h
  | _ => False
def zrr (k : Nat → MH → Prop) : Option MV → MH → Prop := fun r h => match r with
  | some (.inr (.inr x)) => k x h
  | _ => False
def zrv (k : MH → Prop) : Option MV → MH → Prop := fun r h => match r with
  | none => k h
  | _ => False
theorem zat {cc : ByteArray} {L : List (Nat × Instr)} (h : zdc cc L = true) (i : Nat) {pc : Nat} {ins : Instr} (hi : L[i]? = some (pc, ins)) : decode cc pc = .ok (ins, zln ins) := zdc_at (q := (pc, ins)) h (List.mem_of_getElem? hi)
