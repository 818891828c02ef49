/-! ===== ways: the tree of moments, pure ===== -/
/-- a node: how many moments; what is left of each behind each of them; what was given ahead of each; when each was -/
abbrev WN : Type := Nat × (Nat → Nat → Nat) × (Nat → Nat → Nat) × (Nat → Nat)
def wVl (g : Nat → Nat) : Nat → Nat
  | 0 => 0
  | n + 1 => 3 * wVl g n + g n
theorem wVl_mono {a b : Nat → Nat} {m : Nat} : ∀ {n : Nat}, m ≤ n → wVl a m ≤ wVl b m → (∀ i, m ≤ i → i < n → a i ≤ b i) → wVl a n ≤ wVl b n
  | 0, hm, h, _ => by rw [show m = 0 by omega] at h; exact h
  | n + 1, hm, h, hi => by
    by_cases e : m = n + 1
    · rw [e] at h; exact h
    · have h1 := wVl_mono (n := n) (by omega) h (fun i q1 q2 => hi i q1 (by omega))
      have h2 := hi n (by omega) (by omega)
      show 3 * wVl a n + a n ≤ 3 * wVl b n + b n
      omega
theorem wVl_cong {a b : Nat → Nat} : ∀ {n : Nat}, (∀ i, i < n → a i = b i) → wVl a n = wVl b n
  | 0, _ => rfl
  | n + 1, h => by
    show 3 * wVl a n + a n = 3 * wVl b n + b n
    rw [wVl_cong (fun i hi => h i (by omega)), h n (by omega)]
theorem wVl_lt {g : Nat → Nat} : ∀ {n : Nat}, (∀ i, i < n → g i < 3) → wVl g n < 3 ^ n
  | 0, _ => Nat.lt_of_lt_of_le Nat.zero_lt_one (Nat.le_refl 1)
  | n + 1, h => by
    have h1 := wVl_lt (n := n) (fun i hi => h i (by omega))
    have h2 := h n (by omega)
    rw [Nat.pow_succ]
    show 3 * wVl g n + g n < _
    omega
def wG (n W : Nat) (c : Nat) : Nat := W / 3 ^ (n - 1 - c) % 3
theorem wG_lt (n W c : Nat) : wG n W c < 3 := Nat.mod_lt _ (by decide)
theorem wVl_div {g : Nat → Nat} {m : Nat} : ∀ {n : Nat}, m ≤ n → (∀ i, i < n → g i < 3) → wVl g n / 3 ^ (n - m) = wVl g m
  | 0, hm, _ => by rw [show m = 0 by omega, Nat.sub_self, Nat.pow_zero, Nat.div_one]
  | n + 1, hm, h => by
    by_cases e : m = n + 1
    · rw [e, Nat.sub_self, Nat.pow_zero, Nat.div_one]
    · have h1 := wVl_div (n := n) (m := m) (by omega) (fun i hi => h i (by omega))
      have h2 := h n (by omega)
      rw [show n + 1 - m = (n - m) + 1 by omega, Nat.pow_succ, Nat.mul_comm, ← Nat.div_div_eq_div_mul]
      have e3 : wVl g (n + 1) / 3 = wVl g n := by
        show (3 * wVl g n + g n) / 3 = _
        omega
      rw [e3, h1]
theorem wG_Vl {g : Nat → Nat} {n c : Nat} (h : ∀ i, i < n → g i < 3) (hc : c < n) : wG n (wVl g n) c = g c := by
  unfold wG
  rw [show n - 1 - c = n - (c + 1) by omega, wVl_div (by omega) h]
  have := h c hc
  show (3 * wVl g c + g c) % 3 = _
  omega
theorem wVl_G (n W : Nat) : ∀ m, m ≤ n → wVl (wG n W) m = W / 3 ^ (n - m) % 3 ^ m
  | 0, _ => by rw [Nat.pow_zero, Nat.mod_one]; rfl
  | m + 1, hm => by
    have h1 := wVl_G n W m (by omega)
    show 3 * wVl (wG n W) m + wG n W m = _
    rw [h1]
    unfold wG
    rw [show n - 1 - m = n - (m + 1) by omega, show n - m = (n - (m + 1)) + 1 by omega, Nat.pow_succ 3 (n - (m + 1)), ← Nat.div_div_eq_div_mul, Nat.pow_succ, Nat.mul_comm (3 ^ m) 3, Nat.mod_mul]
    omega
theorem wVl_Gn {n W : Nat} (h : W < 3 ^ n) : wVl (wG n W) n = W := by
  rw [wVl_G n W n (Nat.le_refl _), Nat.sub_self, Nat.pow_zero, Nat.div_one, Nat.mod_eq_of_lt h]
def wLo (out : Bool) (x w : Nat → Nat) (c : Nat) : Nat := if out = true ∨ x c = 0 then 0 else w c
def wHi (x : Nat → Nat) (c : Nat) : Nat := if x c = 0 then 0 else 2
def wOk (n : Nat) (out : Bool) (x w g : Nat → Nat) : Bool := decide (∀ c, c < n → wLo out x w c ≤ g c ∧ g c ≤ wHi x c)
theorem wOk_i {n : Nat} {out : Bool} {x w g : Nat → Nat} : wOk n out x w g = true ↔ ∀ c, c < n → wLo out x w c ≤ g c ∧ g c ≤ wHi x c := by unfold wOk; exact decide_eq_true_iff
theorem wHi_le (x : Nat → Nat) (c : Nat) : wHi x c ≤ 2 := by unfold wHi; split <;> omega
theorem wOk_3 {n : Nat} {out : Bool} {x w g : Nat → Nat} (h : wOk n out x w g = true) : ∀ c, c < n → g c < 3 := fun c hc => by
  have h1 := ((wOk_i.mp h) c hc).2
  have := wHi_le x c
  omega
theorem wOk_c {n : Nat} {out : Bool} {x w g g' : Nat → Nat} (h : ∀ c, c < n → g c = g' c) : wOk n out x w g = wOk n out x w g' := by
  rw [Bool.eq_iff_iff, wOk_i, wOk_i]
  exact ⟨fun q c hc => by rw [← h c hc]; exact q c hc, fun q c hc => by rw [h c hc]; exact q c hc⟩
/-- the next one: at c one more, behind it the fewest -/
def wNx (lo g : Nat → Nat) (c : Nat) : Nat → Nat := fun i => if i < c then g i else if i = c then g i + 1 else lo i
theorem wNx_Vl (lo g : Nat → Nat) (c : Nat) : wVl (wNx lo g c) (c + 1) = wVl g (c + 1) + 1 := by
  show 3 * wVl (wNx lo g c) c + wNx lo g c c = 3 * wVl g c + g c + 1
  have e1 : wVl (wNx lo g c) c = wVl g c := wVl_cong (fun i hi => if_pos hi)
  have e2 : wNx lo g c c = g c + 1 := by unfold wNx; rw [if_neg (by omega), if_pos rfl]
  omega
theorem wNx_no {n c : Nat} {out : Bool} {x w g v : Nat → Nat} (hc : c < n) (hf : ∀ i, c < i → i < n → g i = wHi x i) (hv : wOk n out x w v = true) (h1 : wVl g n < wVl v n) : wVl (wNx (wLo out x w) g c) n ≤ wVl v n := by
  have hv' := wOk_i.mp hv
  by_cases q : wVl v (c + 1) ≤ wVl g (c + 1)
  · have := wVl_mono (n := n) (by omega) q (fun i q1 q2 => by rw [hf i (by omega) q2]; exact (hv' i q2).2)
    omega
  · refine wVl_mono (m := c + 1) (by omega) (by rw [wNx_Vl]; omega) (fun i q1 q2 => ?_)
    unfold wNx
    rw [if_neg (by omega), if_neg (by omega)]
    exact (hv' i q2).1
theorem wNx_gt {n c : Nat} {lo g : Nat → Nat} (hc : c < n) (h3 : ∀ i, i < n → g i < 3) : wVl g n < wVl (wNx lo g c) n := by
  refine Nat.lt_of_not_le (fun q => ?_)
  have : ∀ m, c + 1 ≤ m → m ≤ n → wVl g m < wVl (wNx lo g c) m := by
    intro m
    induction m with
    | zero => intro h; omega
    | succ m ih =>
      intro h1 h2
      by_cases e : c = m
      · rw [e, wNx_Vl]; omega
      · have := ih (by omega) (by omega)
        have h4 := h3 m (by omega)
        show 3 * wVl g m + g m < 3 * wVl (wNx lo g c) m + _
        omega
  have := this n (by omega) (by omega)
  omega
theorem wNx_end {n : Nat} {out : Bool} {x w g v : Nat → Nat} (hf : ∀ i, i < n → g i = wHi x i) (hv : wOk n out x w v = true) : wVl v n ≤ wVl g n :=
  wVl_mono (m := 0) (by omega) (Nat.le_refl _) (fun i _ q2 => by rw [hf i q2]; exact ((wOk_i.mp hv) i q2).2)
/-- how long until the first of those that burn ends -/
def wSp (x g : Nat → Nat) : Nat → Option Nat
  | 0 => none
  | c + 1 => if 0 < g c then some (match wSp x g c with
    | none => x c / g c
    | some s => min s (x c / g c)) else wSp x g c
theorem wSp_c {x x' g g' : Nat → Nat} : ∀ {n : Nat}, (∀ c, c < n → x c = x' c ∧ g c = g' c) → wSp x g n = wSp x' g' n
  | 0, _ => rfl
  | n + 1, h => by
    obtain ⟨e1, e2⟩ := h n (by omega)
    unfold wSp
    rw [wSp_c (fun c hc => h c (by omega)), e1, e2]
theorem wSp_none {x g : Nat → Nat} : ∀ {n : Nat}, wSp x g n = none ↔ ∀ c, c < n → g c = 0
  | 0 => ⟨fun _ c hc => by omega, fun _ => rfl⟩
  | n + 1 => by
    unfold wSp
    by_cases q : 0 < g n
    · rw [if_pos q]
      exact ⟨fun e => (nomatch e), fun e => absurd (e n (by omega)) (by omega)⟩
    · rw [if_neg q, wSp_none]
      exact ⟨fun e c hc => by
        by_cases z : c = n
        · rw [z]; omega
        · exact e c (by omega), fun e c hc => e c (by omega)⟩
theorem wSp_some {x g : Nat → Nat} {s : Nat} : ∀ {n : Nat}, wSp x g n = some s → (∃ j, j < n ∧ 0 < g j ∧ s = x j / g j) ∧ ∀ c, c < n → 0 < g c → s ≤ x c / g c
  | 0, h => by cases h
  | n + 1, h => by
    unfold wSp at h
    by_cases q : 0 < g n
    · rw [if_pos q] at h
      rcases e : wSp x g n with _ | s'
      · rw [e] at h
        have h1 : x n / g n = s := Option.some.inj h
        refine ⟨⟨n, by omega, q, h1.symm⟩, fun c hc hg => ?_⟩
        by_cases z : c = n
        · rw [z, h1]; exact Nat.le_refl _
        · have := wSp_none.mp e c (by omega); omega
      · rw [e] at h
        have h1 : min s' (x n / g n) = s := Option.some.inj h
        obtain ⟨⟨j, j1, j2, j3⟩, h2⟩ := wSp_some e
        refine ⟨?_, fun c hc hg => ?_⟩
        · by_cases z : s' ≤ x n / g n
          · exact ⟨j, by omega, j2, by rw [← h1, Nat.min_eq_left z]; exact j3⟩
          · exact ⟨n, by omega, q, by rw [← h1, Nat.min_eq_right (by omega)]⟩
        · by_cases z : c = n
          · rw [z]; omega
          · have := h2 c (by omega) hg; omega
    · rw [if_neg q] at h
      obtain ⟨⟨j, j1, j2, j3⟩, h2⟩ := wSp_some h
      exact ⟨⟨j, by omega, j2, j3⟩, fun c hc hg => by
        by_cases z : c = n
        · rw [z] at hg; omega
        · exact h2 c (by omega) hg⟩
def wS (n : Nat) (a : WN) (W : Nat) : Nat := (wSp (a.2.1 a.1) (wG n W) n).getD 0
def wCh (n : Nat) (a : WN) (W : Nat) : WN := (a.1 + 1, kU a.2.1 (a.1 + 1) (fun c => a.2.1 a.1 c - wG n W c * wS n a W), kU a.2.2.1 (a.1 + 1) (wG n W), kU a.2.2.2 (a.1 + 1) (a.2.2.2 a.1 + wS n a W))
def wTl {α : Type} (f : Nat → List α) : Nat → Nat → List α
  | 0, _ => []
  | m + 1, W => f W ++ wTl f m (W + 1)
theorem wTl_mem {α : Type} {f : Nat → List α} {b : α} : ∀ {m W : Nat}, b ∈ wTl f m W → ∃ i, W ≤ i ∧ i < W + m ∧ b ∈ f i
  | 0, W, h => by cases h
  | m + 1, W, h => by
    have h' : b ∈ f W ++ wTl f m (W + 1) := h
    rcases List.mem_append.mp h' with q | q
    · exact ⟨W, by omega, by omega, q⟩
    · obtain ⟨i, i1, i2, i3⟩ := wTl_mem q
      exact ⟨i, by omega, by omega, i3⟩
theorem wTl_nil {α : Type} {f : Nat → List α} : ∀ {m W : Nat}, (∀ i, W ≤ i → i < W + m → f i = []) → wTl f m W = []
  | 0, W, h => rfl
  | m + 1, W, h => by
    show f W ++ wTl f m (W + 1) = []
    rw [h W (by omega) (by omega), wTl_nil (fun i q1 q2 => h i (by omega) (by omega))]
    rfl
theorem wTl_skip {α : Type} {f : Nat → List α} : ∀ {j m W : Nat}, (∀ i, W ≤ i → i < W + j → f i = []) → wTl f (j + m) W = wTl f m (W + j)
  | 0, m, W, h => by rw [Nat.zero_add, Nat.add_zero]
  | j + 1, m, W, h => by
    rw [show j + 1 + m = (j + m) + 1 by omega]
    show f W ++ wTl f (j + m) (W + 1) = _
    rw [h W (by omega) (by omega), wTl_skip (fun i q1 q2 => h i (by omega) (by omega)), show W + 1 + j = W + (j + 1) by omega]
    rfl
/-- one of its ways on, and all behind it -/
def wBr (n : Nat) (out : Bool) (a : WN) (nd : WN → List WN) (W : Nat) : List WN := if 0 < W ∧ wOk n out (a.2.1 a.1) (a.2.2.1 a.1) (wG n W) = true then wCh n a W :: nd (wCh n a W) else []
/-- all moments behind a, in their order -/
def wNd (n : Nat) (out : Bool) : Nat → WN → List WN
  | 0, _ => []
  | k + 1, a => wTl (wBr n out a (wNd n out k)) (3 ^ n) 0
def wSt (n : Nat) (x : Nat → Nat) : Nat := fb_ct (fun c => decide (0 < x c)) n
/-- what holds at every node -/
def wI (n : Nat) (a : WN) : Prop := n ≤ 4 ∧ a.1 + wSt n (a.2.1 a.1) ≤ 4 ∧ (∀ c, c < n → 2 ^ (8 - a.1) ∣ a.2.1 a.1 c ∧ a.2.2.1 a.1 c ≤ 2) ∧ fb_sm (a.2.1 a.1) n + a.2.2.2 a.1 ≤ 368640
theorem wCh_L (n : Nat) (a : WN) (W : Nat) : (wCh n a W).1 = a.1 + 1 := rfl
theorem wCh_X (n : Nat) (a : WN) (W c : Nat) : (wCh n a W).2.1 (a.1 + 1) c = a.2.1 a.1 c - wG n W c * wS n a W := by
  show kU a.2.1 (a.1 + 1) _ (a.1 + 1) c = _
  rw [kU_s]
theorem wCh_F (n : Nat) (a : WN) (W c : Nat) : (wCh n a W).2.2.1 (a.1 + 1) c = wG n W c := by
  show kU a.2.2.1 (a.1 + 1) _ (a.1 + 1) c = _
  rw [kU_s]
theorem wCh_M (n : Nat) (a : WN) (W : Nat) : (wCh n a W).2.2.2 (a.1 + 1) = a.2.2.2 a.1 + wS n a W := by
  show kU a.2.2.2 (a.1 + 1) _ (a.1 + 1) = _
  rw [kU_s]
theorem wCh_Xo {n : Nat} {a : WN} {W i : Nat} (h : i ≤ a.1) : (wCh n a W).2.1 i = a.2.1 i := by
  show kU a.2.1 (a.1 + 1) _ i = _
  rw [kU_o _ _ (by omega)]
theorem wCh_Fo {n : Nat} {a : WN} {W i : Nat} (h : i ≤ a.1) : (wCh n a W).2.2.1 i = a.2.2.1 i := by
  show kU a.2.2.1 (a.1 + 1) _ i = _
  rw [kU_o _ _ (by omega)]
theorem wCh_Mo {n : Nat} {a : WN} {W i : Nat} (h : i ≤ a.1) : (wCh n a W).2.2.2 i = a.2.2.2 i := by
  show kU a.2.2.2 (a.1 + 1) _ i = _
  rw [kU_o _ _ (by omega)]
theorem wG_pos {n W : Nat} (h0 : 0 < W) (h : W < 3 ^ n) : ∃ j, j < n ∧ 0 < wG n W j := by
  refine Classical.byContradiction fun q => ?_
  have h1 : ∀ i, i < n → wG n W i = (fun _ => 0) i := fun i hi => by
    by_cases z : 0 < wG n W i
    · exact absurd ⟨i, hi, z⟩ q
    · show _ = 0; omega
  have h2 : ∀ m, wVl (fun _ => 0) m = 0 := fun m => by
    induction m with
    | zero => rfl
    | succ m ih => show 3 * wVl (fun _ => 0) m + 0 = 0; omega
  have h3 := wVl_cong h1
  rw [wVl_Gn h, h2] at h3
  omega
/-- a step: what it is -/
theorem wStp {n : Nat} {out : Bool} {a : WN} {W : Nat} (hI : wI n a) (h0 : 0 < W) (h3 : W < 3 ^ n) (hok : wOk n out (a.2.1 a.1) (a.2.2.1 a.1) (wG n W) = true) :
    wSp (a.2.1 a.1) (wG n W) n = some (wS n a W) ∧ 0 < wS n a W ∧ (∀ c, c < n → wG n W c * wS n a W ≤ a.2.1 a.1 c) ∧ (∃ j, j < n ∧ 0 < a.2.1 a.1 j ∧ wG n W j * wS n a W = a.2.1 a.1 j) ∧ a.1 < 4 ∧ 2 ^ (7 - a.1) ∣ wS n a W := by
  obtain ⟨hn, hl, hx, hb⟩ := hI
  obtain ⟨j, hj, hg⟩ := wG_pos h0 h3
  have hok' := wOk_i.mp hok
  rcases e : wSp (a.2.1 a.1) (wG n W) n with _ | s
  · have := wSp_none.mp e j hj; omega
  have hs : wS n a W = s := by unfold wS; rw [e]; rfl
  rw [hs]
  obtain ⟨⟨i, i1, i2, i3⟩, hm⟩ := wSp_some e
  have gx : ∀ c, c < n → 0 < wG n W c → 0 < a.2.1 a.1 c ∧ wG n W c ≤ 2 := fun c hc q => by
    have q1 := (hok' c hc).2
    unfold wHi at q1
    by_cases z : a.2.1 a.1 c = 0
    · rw [if_pos z] at q1; omega
    · rw [if_neg z] at q1; omega
  have x0 := (gx i i1 i2).1
  have l4 : a.1 < 4 := by
    have : 0 < wSt n (a.2.1 a.1) := fb_ct_pos.mpr ⟨i, i1, decide_eq_true x0⟩
    omega
  obtain ⟨q, hq⟩ := (hx i i1).1
  rw [show 8 - a.1 = (7 - a.1) + 1 by omega, Nat.pow_succ] at hq
  have q2 : 0 < q := by
    rcases Nat.eq_zero_or_pos q with z | z
    · rw [z, Nat.mul_zero] at hq; omega
    · exact z
  have p2 : 0 < 2 ^ (7 - a.1) := Nat.two_pow_pos _
  have key : s = 2 ^ (7 - a.1) * (2 * q / wG n W i) ∧ wG n W i * s = a.2.1 a.1 i := by
    have g2 := (gx i i1 i2).2
    rcases (show wG n W i = 1 ∨ wG n W i = 2 by omega) with z | z
    · rw [z] at i3 ⊢
      rw [Nat.div_one] at i3 ⊢
      rw [Nat.one_mul, i3, hq, Nat.mul_assoc]
      exact ⟨rfl, rfl⟩
    · rw [z] at i3 ⊢
      rw [Nat.mul_div_cancel_left _ (by decide)]
      have e2 : 2 ^ (7 - a.1) * 2 * q = 2 * (2 ^ (7 - a.1) * q) := by rw [Nat.mul_comm (2 ^ (7 - a.1)) 2, Nat.mul_assoc]
      rw [hq, e2, Nat.mul_div_cancel_left _ (by decide)] at i3
      rw [i3, hq, e2]
      exact ⟨rfl, rfl⟩
  refine ⟨rfl, ?_, fun c hc => ?_, ⟨i, i1, x0, key.2⟩, l4, ⟨_, key.1⟩⟩
  · rcases Nat.eq_zero_or_pos s with z | z
    · rw [z, Nat.mul_zero] at key; omega
    · exact z
  · rcases Nat.eq_zero_or_pos (wG n W c) with z | z
    · rw [z, Nat.zero_mul]; exact Nat.zero_le _
    · have := hm c hc z
      exact Nat.le_trans (Nat.mul_le_mul_left _ this) (Nat.mul_div_le _ _)
theorem wCh_sum {n : Nat} {out : Bool} {a : WN} {W : Nat} (hI : wI n a) (h0 : 0 < W) (h3 : W < 3 ^ n) (hok : wOk n out (a.2.1 a.1) (a.2.2.1 a.1) (wG n W) = true) : fb_sm ((wCh n a W).2.1 (a.1 + 1)) n + fb_sm (wG n W) n * wS n a W = fb_sm (a.2.1 a.1) n ∧ 0 < fb_sm (wG n W) n := by
  obtain ⟨_, _, hm, _⟩ := wStp hI h0 h3 hok
  have e : ∀ m, m ≤ n → fb_sm ((wCh n a W).2.1 (a.1 + 1)) m + fb_sm (wG n W) m * wS n a W = fb_sm (a.2.1 a.1) m := by
    intro m
    induction m with
    | zero => intro _; simp [fb_sm]
    | succ m ih =>
      intro hn
      have h1 := ih (by omega)
      have h2 := hm m (by omega)
      rw [fb_sm_succ, fb_sm_succ, fb_sm_succ, wCh_X, Nat.add_mul]
      omega
  refine ⟨e n (Nat.le_refl _), ?_⟩
  obtain ⟨j, hj, hg⟩ := wG_pos h0 h3
  have := fb_sm_part (wG n W) hj
  omega
theorem wCh_I {n : Nat} {out : Bool} {a : WN} {W : Nat} (hI : wI n a) (h0 : 0 < W) (h3 : W < 3 ^ n) (hok : wOk n out (a.2.1 a.1) (a.2.2.1 a.1) (wG n W) = true) : wI n (wCh n a W) ∧ wSt n ((wCh n a W).2.1 (a.1 + 1)) < wSt n (a.2.1 a.1) := by
  obtain ⟨e, s0, hm, ⟨j, hj, hj0, hjx⟩, l4, dv⟩ := wStp hI h0 h3 hok
  obtain ⟨es, b0⟩ := wCh_sum hI h0 h3 hok
  obtain ⟨hn, hl, hx, hb⟩ := hI
  have st : wSt n ((wCh n a W).2.1 (a.1 + 1)) < wSt n (a.2.1 a.1) := by
    unfold wSt
    have h1 := fb_ct_upd (fun c => decide (0 < a.2.1 a.1 c)) false hj
    rw [decide_eq_true hj0, if_pos rfl, if_neg (by decide)] at h1
    have h2 : fb_ct (fun c => decide (0 < (wCh n a W).2.1 (a.1 + 1) c)) n ≤ fb_ct (fun k => if k = j then false else decide (0 < a.2.1 a.1 k)) n := fb_ct_sub (fun k hk q => by
      rw [wCh_X] at q
      have q' := of_decide_eq_true q
      by_cases z : k = j
      · rw [z, hjx] at q'; omega
      · rw [if_neg z]; exact decide_eq_true (by omega))
    omega
  refine ⟨⟨hn, ?_, ?_, ?_⟩, st⟩
  · rw [wCh_L]; omega
  · intro c hc
    rw [wCh_L, wCh_X, wCh_F, show 8 - (a.1 + 1) = 7 - a.1 by omega]
    refine ⟨Nat.dvd_sub ?_ (Nat.dvd_trans dv ⟨_, Nat.mul_comm _ _⟩), by have := wOk_3 hok c hc; omega⟩
    exact Nat.dvd_trans ⟨2, by rw [← Nat.pow_succ]; congr 1; omega⟩ (hx c hc).1
  · rw [wCh_L, wCh_M]
    have : wS n a W ≤ fb_sm (wG n W) n * wS n a W := Nat.le_mul_of_pos_left _ b0
    omega
/-- all nodes of a tree keep what each step keeps -/
theorem wNd_all {n : Nat} {out : Bool} {P : WN → Prop} (hs : ∀ a W, wI n a → P a → 0 < W → W < 3 ^ n → wOk n out (a.2.1 a.1) (a.2.2.1 a.1) (wG n W) = true → P (wCh n a W)) : ∀ (k : Nat) (a : WN), wI n a → P a → ∀ b, b ∈ wNd n out k a → wI n b ∧ P b
  | 0, _, _, _, b, h => by cases h
  | k + 1, a, hI, hP, b, h => by
    obtain ⟨W, _, w2, w3⟩ := wTl_mem (show b ∈ wTl (wBr n out a (wNd n out k)) (3 ^ n) 0 from h)
    unfold wBr at w3
    by_cases q : 0 < W ∧ wOk n out (a.2.1 a.1) (a.2.2.1 a.1) (wG n W) = true
    · rw [if_pos q] at w3
      have hI' := (wCh_I hI q.1 (by omega) q.2).1
      have hP' := hs a W hI hP q.1 (by omega) q.2
      rcases List.mem_cons.mp w3 with e | e
      · rw [e]; exact ⟨hI', hP'⟩
      · exact wNd_all hs k _ hI' hP' b e
    · rw [if_neg q] at w3
      cases w3
/-- nothing is left: no moments -/
theorem wNd_nil {n : Nat} {out : Bool} {a : WN} (h : ∀ c, c < n → a.2.1 a.1 c = 0) : ∀ k, wNd n out k a = []
  | 0 => rfl
  | k + 1 => wTl_nil (fun W _ w2 => by
    unfold wBr
    refine if_neg (fun q => ?_)
    obtain ⟨j, hj, hg⟩ := wG_pos (n := n) q.1 (by omega)
    have := ((wOk_i.mp q.2) j hj).2
    unfold wHi at this
    rw [if_pos (h j hj)] at this
    omega)
