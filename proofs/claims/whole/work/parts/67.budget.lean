/-! ===== how much is rung, lit, in vain ===== -/
def pCnt (P : PL) (r : Nat) : Nat := P.2.2.2.1 r - pFr P r
def wg (P : PL) (c : Nat) : Nat → Nat → Nat
  | 0, _ => 0
  | m + 1, r => (if P.2.2.1 r = c then pCnt P r else 0) + wg P c m (r + 1)
def wD (P : PL) (D : Nat → Bool) : Nat → Nat → Nat
  | 0, _ => 0
  | m + 1, r => (if D (P.2.2.1 r) = true then pCnt P r else 0) + wD P D m (r + 1)
theorem wD_add (P : PL) {D : Nat → Bool} {c : Nat} (hc : D c = false) : ∀ m r, wD P (kU D c true) m r = wD P D m r + wg P c m r
  | 0, _ => rfl
  | m + 1, r => by
    show (if kU D c true (P.2.2.1 r) = true then pCnt P r else 0) + wD P (kU D c true) m (r + 1) = (if D (P.2.2.1 r) = true then pCnt P r else 0) + wD P D m (r + 1) + ((if P.2.2.1 r = c then pCnt P r else 0) + wg P c m (r + 1))
    rw [wD_add P hc m (r + 1)]
    by_cases e : P.2.2.1 r = c
    · rw [e, kU_s, hc, if_pos rfl, if_pos rfl, if_neg (by decide)]; omega
    · rw [kU_o _ _ e, if_neg e]; omega
theorem pFr_s (P : PL) (r : Nat) : pFr P (r + 1) = P.2.2.2.1 r := if_neg (by omega)
theorem wD_le {P : PL} (hP : pOK P) (D : Nat → Bool) : ∀ m r, r + m ≤ P.1 → wD P D m r + pFr P r ≤ pFr P (r + m)
  | 0, r, _ => by show 0 + pFr P r ≤ pFr P r; omega
  | m + 1, r, h => by
    have h1 := wD_le hP D m (r + 1) (by omega)
    have h2 := (hP.2.2.1 r (by omega)).2.2
    rw [pFr_s, show r + 1 + m = r + (m + 1) by omega] at h1
    show (if D (P.2.2.1 r) = true then pCnt P r else 0) + wD P D m (r + 1) + pFr P r ≤ _
    unfold pCnt
    split <;> omega
theorem wD_40 {P : PL} (hP : pOK P) (D : Nat → Bool) : wD P D P.1 0 ≤ 40 := by
  have h1 := wD_le hP D P.1 0 (by omega)
  have h2 := hP.2.2.2.1
  have h3 := hP.2.1
  rw [Nat.zero_add, ← h2] at h1
  omega
theorem pFr_mono {P : PL} (hP : pOK P) {r s : Nat} (h : r < s) (hs : s ≤ P.1) : P.2.2.2.1 r ≤ pFr P s := by
  induction s with
  | zero => omega
  | succ s ih =>
    rw [pFr_s]
    by_cases e : r = s
    · rw [e]; exact Nat.le_refl _
    · have h1 := ih (by omega) (by omega)
      have h2 := (hP.2.2.1 s (by omega)).2.2
      omega
theorem pRu_one {P : PL} (hP : pOK P) {r s k : Nat} (hr : r < P.1) (hs : s < P.1) (h1 : pFr P r ≤ k) (h2 : k < P.2.2.2.1 r) (h3 : pFr P s ≤ k) (h4 : k < P.2.2.2.1 s) : r = s := by
  by_cases e : r < s
  · have := pFr_mono hP e (by omega); omega
  · by_cases e2 : s < r
    · have := pFr_mono hP e2 (by omega); omega
    · omega
theorem rAct_b (n k : Nat) (a : Nat × Nat × Nat) (R : RS) : (rAct n k a R).2.1.length ≤ R.2.1.length + 1 ∧ (rAct n k a R).2.2.2.2.1 ≤ R.2.2.2.2.1 + 2 ∧ (∀ x, (rAct n k a R).2.2.1 x = true → R.2.2.1 x = true ∨ x = k) ∧ (rAct n k a R).2.2.2.2.2 = R.2.2.2.2.2 ∧ (rAct n k a R).2.2.2.1 = R.2.2.2.1 := by
  unfold rAct
  by_cases h4 : a.1 = 4
  · rw [if_pos h4]
    refine ⟨?_, Nat.le_add_right _ _, fun x hx => Or.inl hx, rfl, rfl⟩
    show (R.2.1 ++ [R.2.2.2.2.2]).length ≤ _
    rw [List.length_append]; exact Nat.le_refl _
  · rw [if_neg h4]
    have vn : (rVn k R).2.1.length ≤ R.2.1.length + 1 ∧ (rVn k R).2.2.2.2.1 ≤ R.2.2.2.2.1 + 2 ∧ (∀ x, (rVn k R).2.2.1 x = true → R.2.2.1 x = true ∨ x = k) ∧ (rVn k R).2.2.2.2.2 = R.2.2.2.2.2 ∧ (rVn k R).2.2.2.1 = R.2.2.2.1 := by
      refine ⟨Nat.le_add_right _ _, Nat.le_add_right _ _, fun x hx => ?_, rfl, rfl⟩
      have hx' : kU R.2.2.1 k true x = true := hx
      by_cases e : x = k
      · exact Or.inr e
      · rw [kU_o _ _ e] at hx'; exact Or.inl hx'
    by_cases h3 : a.1 = 3
    · rw [if_pos h3]
      split
      · exact ⟨Nat.le_add_right _ _, Nat.le_add_right _ _, fun x hx => Or.inl hx, rfl, rfl⟩
      · exact vn
    · rw [if_neg h3]
      by_cases q : a.2.1 < n ∧ R.1.2.2.2.2.1 a.2.1 = 0 ∧ (if a.1 = 2 then 0 < R.1.2.1 a.2.1 else R.1.2.1 a.2.1 < 2)
      · rw [if_pos q]
        refine ⟨Nat.le_add_right _ _, ?_, fun x hx => Or.inl hx, rfl, rfl⟩
        show R.2.2.2.2.1 + ((if a.1 = 2 then 0 else if a.1 = 1 then 2 else R.1.2.1 a.2.1 + 1) - R.1.2.1 a.2.1) ≤ _
        split
        · omega
        · split <;> omega
      · rw [if_neg q]; exact vn
theorem rActs_b (P : PL) (n lo : Nat) : ∀ m k R, (rActs P n lo m k R).2.1.length ≤ R.2.1.length + m ∧ (rActs P n lo m k R).2.2.2.2.1 ≤ R.2.2.2.2.1 + 2 * m ∧ (∀ x, (rActs P n lo m k R).2.2.1 x = true → R.2.2.1 x = true ∨ (k ≤ x ∧ x < k + m)) ∧ (rActs P n lo m k R).2.2.2.2.2 = R.2.2.2.2.2 ∧ (rActs P n lo m k R).2.2.2.1 = R.2.2.2.1
  | 0, k, R => ⟨Nat.le_refl _, Nat.le_refl _, fun x hx => Or.inl hx, rfl, rfl⟩
  | m + 1, k, R => by
    show (rActs P n lo m (k + 1) (if k = lo then R else rAct n k (P.2.2.2.2 k) R)).2.1.length ≤ _ ∧ (rActs P n lo m (k + 1) (if k = lo then R else rAct n k (P.2.2.2.2 k) R)).2.2.2.2.1 ≤ _ ∧ (∀ x, (rActs P n lo m (k + 1) (if k = lo then R else rAct n k (P.2.2.2.2 k) R)).2.2.1 x = true → _) ∧ (rActs P n lo m (k + 1) (if k = lo then R else rAct n k (P.2.2.2.2 k) R)).2.2.2.2.2 = _ ∧ (rActs P n lo m (k + 1) (if k = lo then R else rAct n k (P.2.2.2.2 k) R)).2.2.2.1 = _
    obtain ⟨a1, a2, a3, a4, a5⟩ := rActs_b P n lo m (k + 1) (if k = lo then R else rAct n k (P.2.2.2.2 k) R)
    by_cases e : k = lo
    · rw [if_pos e] at a1 a2 a3 a4 a5 ⊢
      refine ⟨by omega, by omega, fun x hx => ?_, a4, a5⟩
      rcases a3 x hx with z | z
      · exact Or.inl z
      · exact Or.inr (by omega)
    · rw [if_neg e] at a1 a2 a3 a4 a5 ⊢
      obtain ⟨b1, b2, b3, b4, b5⟩ := rAct_b n k (P.2.2.2.2 k) R
      refine ⟨by omega, by omega, fun x hx => ?_, a4.trans b4, a5.trans b5⟩
      rcases a3 x hx with z | z
      · rcases b3 x z with w | w
        · exact Or.inl w
        · exact Or.inr (by omega)
      · exact Or.inr (by omega)
theorem rRules_b (P : PL) (n lo c : Nat) : ∀ m r R, (rRules P n lo c m r R).2.1.length ≤ R.2.1.length + wg P c m r ∧ (rRules P n lo c m r R).2.2.2.2.1 ≤ R.2.2.2.2.1 + 2 * wg P c m r ∧ (∀ x, (rRules P n lo c m r R).2.2.1 x = true → R.2.2.1 x = true ∨ ∃ s, r ≤ s ∧ s < r + m ∧ P.2.2.1 s = c ∧ pFr P s ≤ x ∧ x < P.2.2.2.1 s) ∧ (rRules P n lo c m r R).2.2.2.2.2 = R.2.2.2.2.2
  | 0, r, R => ⟨Nat.le_refl _, Nat.le_refl _, fun x hx => Or.inl hx, rfl⟩
  | m + 1, r, R => by
    show (rRules P n lo c m (r + 1) (if P.2.2.1 r = c then rActs P n lo (P.2.2.2.1 r - pFr P r) (pFr P r) (rDone R r) else R)).2.1.length ≤ R.2.1.length + ((if P.2.2.1 r = c then pCnt P r else 0) + wg P c m (r + 1)) ∧ (rRules P n lo c m (r + 1) (if P.2.2.1 r = c then rActs P n lo (P.2.2.2.1 r - pFr P r) (pFr P r) (rDone R r) else R)).2.2.2.2.1 ≤ R.2.2.2.2.1 + 2 * ((if P.2.2.1 r = c then pCnt P r else 0) + wg P c m (r + 1)) ∧ (∀ x, (rRules P n lo c m (r + 1) (if P.2.2.1 r = c then rActs P n lo (P.2.2.2.1 r - pFr P r) (pFr P r) (rDone R r) else R)).2.2.1 x = true → _) ∧ (rRules P n lo c m (r + 1) (if P.2.2.1 r = c then rActs P n lo (P.2.2.2.1 r - pFr P r) (pFr P r) (rDone R r) else R)).2.2.2.2.2 = _
    obtain ⟨a1, a2, a3, a4⟩ := rRules_b P n lo c m (r + 1) (if P.2.2.1 r = c then rActs P n lo (P.2.2.2.1 r - pFr P r) (pFr P r) (rDone R r) else R)
    by_cases e : P.2.2.1 r = c
    · rw [if_pos e] at a1 a2 a3 a4 ⊢
      rw [if_pos e]
      obtain ⟨b1, b2, b3, b4, b5⟩ := rActs_b P n lo (P.2.2.2.1 r - pFr P r) (pFr P r) (rDone R r)
      have b1' : (rActs P n lo (P.2.2.2.1 r - pFr P r) (pFr P r) (rDone R r)).2.1.length ≤ R.2.1.length + pCnt P r := b1
      have b2' : (rActs P n lo (P.2.2.2.1 r - pFr P r) (pFr P r) (rDone R r)).2.2.2.2.1 ≤ R.2.2.2.2.1 + 2 * pCnt P r := b2
      refine ⟨by omega, by omega, fun x hx => ?_, a4.trans b4⟩
      rcases a3 x hx with z | ⟨s, s1, s2, s3⟩
      · rcases b3 x z with w | w
        · exact Or.inl w
        · exact Or.inr ⟨r, by omega, by omega, e, w.1, by omega⟩
      · exact Or.inr ⟨s, by omega, by omega, s3⟩
    · rw [if_neg e] at a1 a2 a3 a4 ⊢
      rw [if_neg e]
      refine ⟨by omega, by omega, fun x hx => ?_, a4⟩
      rcases a3 x hx with z | ⟨s, s1, s2, s3⟩
      · exact Or.inl z
      · exact Or.inr ⟨s, by omega, by omega, s3⟩
def rCl (P : PL) (c : Nat) (R : RS) : Prop := ∀ r, r < P.1 → P.2.2.1 r = c → ∀ k, pFr P r ≤ k → k < P.2.2.2.1 r → R.2.2.1 k = false
def rB (P : PL) (D : Nat → Bool) (R : RS) : Prop := R.2.1.length ≤ wD P D P.1 0 ∧ R.2.2.2.2.1 ≤ 2 * wD P D P.1 0 ∧ (∀ k, P.2.1 ≤ k → R.2.2.1 k = false) ∧ ∀ c, D c = false → rCl P c R
theorem rB_rules {P : PL} {n lo c : Nat} {D : Nat → Bool} {R : RS} (hP : pOK P) (h : rB P D R) (hc : D c = false) : rB P (kU D c true) (rRules P n lo c P.1 0 R) := by
  obtain ⟨h1, h2, h3, h4⟩ := h
  obtain ⟨b1, b2, b3, b4⟩ := rRules_b P n lo c P.1 0 R
  have e := wD_add P hc P.1 0
  refine ⟨by omega, by omega, fun k hk => ?_, fun c' hc' r hr hb k k1 k2 => ?_⟩
  · cases z : (rRules P n lo c P.1 0 R).2.2.1 k with
    | false => rfl
    | true =>
      rcases b3 k z with w | ⟨s, s1, s2, s3, s4, s5⟩
      · rw [h3 k hk] at w; cases w
      · have := (hP.2.2.1 s (by omega)).2.1
        omega
  · cases z : (rRules P n lo c P.1 0 R).2.2.1 k with
    | false => rfl
    | true =>
      have hne : c' ≠ c := fun w => by rw [w, kU_s] at hc'; cases hc'
      rw [kU_o _ _ hne] at hc'
      rcases b3 k z with w | ⟨s, s1, s2, s3, s4, s5⟩
      · rw [h4 c' hc' r hr hb k k1 k2] at w; cases w
      · have := pRu_one hP hr (by omega) k1 k2 s4 s5
        rw [this, s3] at hb
        exact absurd hb.symm hne
theorem rB_ends {P : PL} {n lo : Nat} {E : Nat → Bool} (hP : pOK P) : ∀ (m c : Nat) {D : Nat → Bool} {R : RS}, rB P D R → (∀ x, c ≤ x → E x = true → D x = false) → rB P (fun x => D x || (decide (c ≤ x) && (decide (x < c + m) && E x))) (rEnds P n lo E m c R)
  | 0, c, D, R, h, _ => by
    have e : (fun x => D x || (decide (c ≤ x) && (decide (x < c + 0) && E x))) = D := funext fun x => by
      by_cases q : c ≤ x
      · rw [decide_eq_false (show ¬ x < c + 0 by omega), Bool.false_and, Bool.and_false, Bool.or_false]
      · rw [decide_eq_false q, Bool.false_and, Bool.or_false]
    rw [e]; exact h
  | m + 1, c, D, R, h, hE => by
    show rB P _ (rEnds P n lo E m (c + 1) (if E c = true then rRules P n lo c P.1 0 R else R))
    by_cases q : E c = true
    · rw [if_pos q]
      have h1 := rB_ends (n := n) (lo := lo) (E := E) hP m (c + 1) (rB_rules (n := n) (lo := lo) hP h (hE c (Nat.le_refl _) q)) (fun x hx hx2 => by rw [kU_o _ _ (by omega)]; exact hE x (by omega) hx2)
      have e : (fun x => kU D c true x || (decide (c + 1 ≤ x) && (decide (x < c + 1 + m) && E x))) = (fun x => D x || (decide (c ≤ x) && (decide (x < c + (m + 1)) && E x))) := funext fun x => by
        by_cases z : x = c
        · rw [z, kU_s, q, decide_eq_true (Nat.le_refl c), decide_eq_true (show c < c + (m + 1) by omega)]
          simp
        · rw [kU_o _ _ z]
          by_cases w : c ≤ x
          · rw [decide_eq_true w, decide_eq_true (show c + 1 ≤ x by omega), show c + 1 + m = c + (m + 1) by omega]
          · rw [decide_eq_false w, decide_eq_false (show ¬ c + 1 ≤ x by omega), Bool.false_and, Bool.false_and]
      rw [← e]; exact h1
    · rw [if_neg q]
      have h1 := rB_ends (n := n) (lo := lo) (E := E) hP m (c + 1) h (fun x hx hx2 => hE x (by omega) hx2)
      have e : (fun x => D x || (decide (c + 1 ≤ x) && (decide (x < c + 1 + m) && E x))) = (fun x => D x || (decide (c ≤ x) && (decide (x < c + (m + 1)) && E x))) := funext fun x => by
        by_cases z : x = c
        · have : E c = false := by cases y : E c with
            | false => rfl
            | true => exact absurd y q
          rw [z, this]; simp
        · by_cases w : c ≤ x
          · rw [decide_eq_true w, decide_eq_true (show c + 1 ≤ x by omega), show c + 1 + m = c + (m + 1) by omega]
          · rw [decide_eq_false w, decide_eq_false (show ¬ c + 1 ≤ x by omega), Bool.false_and, Bool.false_and]
      rw [← e]; exact h1
