/-! ===== the turns, pure ===== -/
theorem rAct_st (n k : Nat) (a : Nat × Nat × Nat) (R : RS) (c : Nat) : ((rAct n k a R).1.2.2.2.2.1 c = 1 ↔ R.1.2.2.2.2.1 c = 1) ∧ (rAct n k a R).1.2.2.2.2.2 c = R.1.2.2.2.2.2 c := by
  unfold rAct
  split
  · exact ⟨Iff.rfl, rfl⟩
  · split
    · split
      · rename_i q
        refine ⟨?_, rfl⟩
        show kU R.1.2.2.2.2.1 a.2.2 2 c = 1 ↔ _
        by_cases e : c = a.2.2
        · rw [e, kU_s, q.2.2.2.1]; omega
        · rw [kU_o _ _ e]
      · exact ⟨Iff.rfl, rfl⟩
    · by_cases q : a.2.1 < n ∧ R.1.2.2.2.2.1 a.2.1 = 0 ∧ (if a.1 = 2 then 0 < R.1.2.1 a.2.1 else R.1.2.1 a.2.1 < 2)
      · rw [if_pos q]; exact ⟨Iff.rfl, rfl⟩
      · rw [if_neg q]; exact ⟨Iff.rfl, rfl⟩
theorem rActs_st (P : PL) (n lo c : Nat) : ∀ m k (R : RS), ((rActs P n lo m k R).1.2.2.2.2.1 c = 1 ↔ R.1.2.2.2.2.1 c = 1) ∧ (rActs P n lo m k R).1.2.2.2.2.2 c = R.1.2.2.2.2.2 c
  | 0, _, _ => ⟨Iff.rfl, rfl⟩
  | m + 1, k, R => by
    have h := rActs_st P n lo c m (k + 1) (if k = lo then R else rAct n k (P.2.2.2.2 k) R)
    show ((rActs P n lo m (k + 1) (if k = lo then R else rAct n k (P.2.2.2.2 k) R)).1.2.2.2.2.1 c = 1 ↔ _) ∧ (rActs P n lo m (k + 1) (if k = lo then R else rAct n k (P.2.2.2.2 k) R)).1.2.2.2.2.2 c = _
    by_cases e : k = lo
    · rw [if_pos e] at h ⊢; exact h
    · rw [if_neg e] at h ⊢
      have h2 := rAct_st n k (P.2.2.2.2 k) R c
      exact ⟨h.1.trans h2.1, h.2.trans h2.2⟩
theorem rRules_st (P : PL) (n lo x c : Nat) : ∀ m r (R : RS), ((rRules P n lo x m r R).1.2.2.2.2.1 c = 1 ↔ R.1.2.2.2.2.1 c = 1) ∧ (rRules P n lo x m r R).1.2.2.2.2.2 c = R.1.2.2.2.2.2 c
  | 0, _, _ => ⟨Iff.rfl, rfl⟩
  | m + 1, r, R => by
    have h := rRules_st P n lo x c m (r + 1) (if P.2.2.1 r = x then rActs P n lo (P.2.2.2.1 r - pFr P r) (pFr P r) (rDone R r) else R)
    show ((rRules P n lo x m (r + 1) (if P.2.2.1 r = x then rActs P n lo (P.2.2.2.1 r - pFr P r) (pFr P r) (rDone R r) else R)).1.2.2.2.2.1 c = 1 ↔ _) ∧ (rRules P n lo x m (r + 1) (if P.2.2.1 r = x then rActs P n lo (P.2.2.2.1 r - pFr P r) (pFr P r) (rDone R r) else R)).1.2.2.2.2.2 c = _
    by_cases e : P.2.2.1 r = x
    · rw [if_pos e] at h ⊢
      have h2 := rActs_st P n lo c (P.2.2.2.1 r - pFr P r) (pFr P r) (rDone R r)
      exact ⟨h.1.trans h2.1, h.2.trans h2.2⟩
    · rw [if_neg e] at h ⊢; exact h
theorem rEnds_st (P : PL) (n lo : Nat) (E : Nat → Bool) (c : Nat) : ∀ m x (R : RS), ((rEnds P n lo E m x R).1.2.2.2.2.1 c = 1 ↔ R.1.2.2.2.2.1 c = 1) ∧ (rEnds P n lo E m x R).1.2.2.2.2.2 c = R.1.2.2.2.2.2 c ∧ (rEnds P n lo E m x R).2.2.2.2.2 = R.2.2.2.2.2
  | 0, _, _ => ⟨Iff.rfl, rfl, rfl⟩
  | m + 1, x, R => by
    have h := rEnds_st P n lo E c m (x + 1) (if E x = true then rRules P n lo x P.1 0 R else R)
    show ((rEnds P n lo E m (x + 1) (if E x = true then rRules P n lo x P.1 0 R else R)).1.2.2.2.2.1 c = 1 ↔ _) ∧ (rEnds P n lo E m (x + 1) (if E x = true then rRules P n lo x P.1 0 R else R)).1.2.2.2.2.2 c = _ ∧ (rEnds P n lo E m (x + 1) (if E x = true then rRules P n lo x P.1 0 R else R)).2.2.2.2.2 = _
    by_cases e : E x = true
    · rw [if_pos e] at h ⊢
      have h2 := rRules_st P n lo x c P.1 0 R
      exact ⟨h.1.trans h2.1, h.2.1.trans h2.2, h.2.2.trans (rRules_b P n lo x P.1 0 R).2.2.2⟩
    · rw [if_neg e] at h ⊢; exact h
theorem wD_mono (P : PL) {D E : Nat → Bool} (h : ∀ c, D c = true → E c = true) : ∀ m r, wD P D m r ≤ wD P E m r
  | 0, _ => Nat.le_refl _
  | m + 1, r => by
    have h1 := wD_mono P h m (r + 1)
    show (if D (P.2.2.1 r) = true then pCnt P r else 0) + wD P D m (r + 1) ≤ (if E (P.2.2.1 r) = true then pCnt P r else 0) + wD P E m (r + 1)
    by_cases e : D (P.2.2.1 r) = true
    · rw [if_pos e, if_pos (h _ e)]; omega
    · rw [if_neg e]; omega
theorem rB.mono {P : PL} {D E : Nat → Bool} {R : RS} (h : rB P D R) (hE : ∀ c, D c = true → E c = true) : rB P E R := by
  have h1 := wD_mono P hE P.1 0
  obtain ⟨a1, a2, a3, a4⟩ := h
  refine ⟨by omega, by omega, a3, fun c hc => a4 c ?_⟩
  cases z : D c with
  | false => rfl
  | true => rw [hE c z] at hc; cases hc
def rDm (n : Nat) (R : RS) (c : Nat) : Bool := decide (c = 8) || (decide (c < n) && decide (R.1.2.2.2.2.1 c = 1))
theorem rDm_t {n : Nat} {R : RS} {c : Nat} : rDm n R c = true ↔ c = 8 ∨ (c < n ∧ R.1.2.2.2.2.1 c = 1) := by unfold rDm; simp
theorem rDm_f {n : Nat} {R : RS} {c : Nat} : rDm n R c = false ↔ ¬ (c = 8 ∨ (c < n ∧ R.1.2.2.2.2.1 c = 1)) := by
  rw [← rDm_t]
  cases rDm n R c <;> simp
theorem rB_turn {P : PL} {n lo s : Nat} {R : RS} (hP : pOK P) (hV : rV n R) (hB : rB P (rDm n R) R) : (∀ x, 0 ≤ x → rE (rBurn s n 0 R.1) x = true → rDm n R x = false) ∧ rB P (rDm n (rTurn P n lo s R)) (rTurn P n lo s R) := by
  have h8 := hV.1.1
  obtain ⟨a1, a2, a3, a4⟩ := rBurn_rest s n 0 R.1
  have hE : ∀ x, 0 ≤ x → rE (rBurn s n 0 R.1) x = true → rDm n R x = false := by
    intro x _ q
    have q1 := (rE_t.mp q).1
    rw [a1] at q1
    have xn : x < n := by
      by_cases z : x < n
      · exact z
      · have := (hV.1.2.1 x (by omega)).1
        omega
    have := hV.fl xn q1
    rw [rDm_f]
    omega
  refine ⟨hE, ?_⟩
  have hB' : rB P (rDm n R) (rAway (rBurn s n 0 R.1) (R.2.2.2.2.2 + s) n, rTick s R.2) := hB
  have h1 := rB_ends (n := n) (lo := lo) (E := rE (rBurn s n 0 R.1)) hP n 0 hB' hE
  refine h1.mono (fun c hc => ?_)
  rw [rDm_t]
  have e := (rEnds_st P n lo (rE (rBurn s n 0 R.1)) c n 0 (rAway (rBurn s n 0 R.1) (R.2.2.2.2.2 + s) n, rTick s R.2)).1
  have hst : (rBurn s n 0 R.1).2.2.2.2.1 = R.1.2.2.2.2.1 := congrArg (fun z => z.2.1) a2
  have e2 : (rAway (rBurn s n 0 R.1) (R.2.2.2.2.2 + s) n).2.2.2.2.1 c = if c < n ∧ rE (rBurn s n 0 R.1) c = true then 1 else R.1.2.2.2.2.1 c := by
    show (if _ then _ else (rBurn s n 0 R.1).2.2.2.2.1 c) = _
    rw [hst]
  have hc2 : rDm n R c = true ∨ (c < n ∧ rE (rBurn s n 0 R.1) c = true) := by
    simp only [Bool.or_eq_true, Bool.and_eq_true, decide_eq_true_eq, Nat.zero_add] at hc
    rcases hc with z | z
    · exact Or.inl z
    · exact Or.inr z.2
  show c = 8 ∨ (c < n ∧ (rEnds P n lo _ n 0 _).1.2.2.2.2.1 c = 1)
  rw [e]
  show c = 8 ∨ (c < n ∧ (rAway (rBurn s n 0 R.1) (R.2.2.2.2.2 + s) n).2.2.2.2.1 c = 1)
  rw [e2]
  rcases hc2 with z | z
  · rw [rDm_t] at z
    rcases z with y | y
    · exact Or.inl y
    · refine Or.inr ⟨y.1, ?_⟩
      split
      · rfl
      · exact y.2
  · exact Or.inr ⟨z.1, by rw [if_pos z]⟩
/-- rests and now are multiples -/
def rD (n w : Nat) (R : RS) : Prop := (∀ c, c < n → 2 ^ w ∣ R.1.1 c) ∧ 2 ^ w ∣ R.2.2.2.2.2 ∧ ∀ b, b ∈ R.2.1 → 2 ^ w ∣ b
theorem rD_act {n k t : Nat} {a : Nat × Nat × Nat} {R : RS} (h : rD n t R) : rD n t (rAct n k a R) := by
  obtain ⟨h1, h2, h3⟩ := h
  unfold rAct
  split
  · refine ⟨h1, h2, fun b hb => ?_⟩
    have hb' : b ∈ R.2.1 ++ [R.2.2.2.2.2] := hb
    rcases List.mem_append.mp hb' with z | z
    · exact h3 b z
    · rw [List.mem_singleton.mp z]; exact h2
  · split
    · split
      · rename_i q
        refine ⟨fun c hc => ?_, h2, h3⟩
        show _ ∣ kU (kU R.1.1 a.2.1 (R.1.1 a.2.1 + R.1.1 a.2.2)) a.2.2 0 c
        by_cases e : c = a.2.2
        · rw [e, kU_s]; exact Nat.dvd_zero _
        · rw [kU_o _ _ e]
          by_cases e2 : c = a.2.1
          · rw [e2, kU_s]; exact Nat.dvd_add (h1 _ q.1) (h1 _ q.2.2.1)
          · rw [kU_o _ _ e2]; exact h1 c hc
      · exact ⟨h1, h2, h3⟩
    · by_cases q : a.2.1 < n ∧ R.1.2.2.2.2.1 a.2.1 = 0 ∧ (if a.1 = 2 then 0 < R.1.2.1 a.2.1 else R.1.2.1 a.2.1 < 2)
      · rw [if_pos q]; exact ⟨h1, h2, h3⟩
      · rw [if_neg q]; exact ⟨h1, h2, h3⟩
theorem rD_acts {P : PL} {n lo t : Nat} : ∀ (m k : Nat) {R : RS}, rD n t R → rD n t (rActs P n lo m k R)
  | 0, _, _, h => h
  | m + 1, k, R, h => by
    refine rD_acts m (k + 1) ?_
    split
    · exact h
    · exact rD_act h
theorem rD_rules {P : PL} {n lo c t : Nat} : ∀ (m r : Nat) {R : RS}, rD n t R → rD n t (rRules P n lo c m r R)
  | 0, _, _, h => h
  | m + 1, r, R, h => by
    refine rD_rules m (r + 1) ?_
    split
    · exact rD_acts _ _ (show rD n t (rDone R r) from h)
    · exact h
theorem rD_ends {P : PL} {n lo t : Nat} {E : Nat → Bool} : ∀ (m c : Nat) {R : RS}, rD n t R → rD n t (rEnds P n lo E m c R)
  | 0, _, _, h => h
  | m + 1, c, R, h => by
    refine rD_ends m (c + 1) ?_
    split
    · exact rD_rules _ _ h
    · exact h
theorem rD_s {n t s : Nat} {R : RS} (h : rD n (t + 1) R) (hV : rV n R) {x : Nat} (hx : x < n) (hf : 0 < R.1.2.1 x) (hs : R.1.1 x / R.1.2.1 x = s) : 2 ^ t ∣ s ∧ R.1.1 x = s * R.1.2.1 x := by
  have hd := h.1 x hx
  have f2 := (hV.1.2.2.1 x hx).1
  have e : 2 ^ (t + 1) = 2 ^ t * 2 := Nat.pow_succ _ _
  rw [e] at hd
  obtain ⟨q, hq⟩ := hd
  have hc : R.1.2.1 x = 1 ∨ R.1.2.1 x = 2 := by omega
  rcases hc with c | c
  · rw [c, Nat.div_one] at hs
    rw [c, ← hs, Nat.mul_one]
    exact ⟨⟨2 * q, by rw [hq, Nat.mul_assoc]⟩, rfl⟩
  · have e2 : R.1.1 x = 2 ^ t * q * 2 := by rw [hq, Nat.mul_assoc, Nat.mul_assoc, Nat.mul_comm 2 q]
    rw [c, e2, Nat.mul_div_cancel _ (by decide)] at hs
    rw [c, ← hs]
    exact ⟨⟨q, rfl⟩, e2⟩
theorem rD_turn {P : PL} {n lo t s : Nat} {R : RS} (h : rD n (t + 1) R) (hV : rV n R) (hs : rNx R.1 n 0 none = some s) : rD n t (rTurn P n lo s R) := by
  obtain ⟨a1, _, _⟩ := rNx_some hs
  rcases a1 with z | ⟨x, _, x2, x3, x4⟩
  · cases z
  · obtain ⟨d1, d2⟩ := rD_s h hV (by omega) x3 x4
    obtain ⟨b1, b2, b3, b4⟩ := rBurn_rest s n 0 R.1
    have hp : 2 ^ t ∣ 2 ^ (t + 1) := ⟨2, Nat.pow_succ _ _⟩
    refine rD_ends _ _ ⟨fun c hc => ?_, ?_, fun b hb => Nat.dvd_trans hp (h.2.2 b hb)⟩
    · show _ ∣ (rBurn s n 0 R.1).1 c
      rw [b3 c, if_pos (by omega)]
      exact Nat.dvd_sub (Nat.dvd_trans hp (h.1 c hc)) (Nat.dvd_mul_right_of_dvd d1 _)
    · exact Nat.dvd_add (Nat.dvd_trans hp h.2.1) d1
/-- so many have ended -/
def rCt (n : Nat) (R : RS) : Nat := fb_ct (fun c => decide (R.1.2.2.2.2.1 c = 1)) n
theorem rCt_turn {P : PL} {n lo t s : Nat} {R : RS} (h : rD n (t + 1) R) (hV : rV n R) (hs : rNx R.1 n 0 none = some s) : rCt n R + 1 ≤ rCt n (rTurn P n lo s R) := by
  obtain ⟨a1, _, _⟩ := rNx_some hs
  rcases a1 with z | ⟨x, _, x2, x3, x4⟩
  · cases z
  · obtain ⟨d1, d2⟩ := rD_s h hV (by omega) x3 x4
    obtain ⟨b1, b2, b3, b4⟩ := rBurn_rest s n 0 R.1
    have hst : (rBurn s n 0 R.1).2.2.2.2.1 = R.1.2.2.2.2.1 := congrArg (fun z => z.2.1) b2
    have hx0 := hV.fl (c := x) (by omega) x3
    have hE : rE (rBurn s n 0 R.1) x = true := rE_t.mpr ⟨by rw [b1]; exact x3, by rw [b3 x, if_pos (by omega)]; omega⟩
    have key : ∀ c, (rTurn P n lo s R).1.2.2.2.2.1 c = 1 ↔ (if c < n ∧ rE (rBurn s n 0 R.1) c = true then 1 else R.1.2.2.2.2.1 c) = 1 := by
      intro c
      have e := (rEnds_st P n lo (rE (rBurn s n 0 R.1)) c n 0 (rAway (rBurn s n 0 R.1) (R.2.2.2.2.2 + s) n, rTick s R.2)).1
      refine e.trans ?_
      show (if _ then _ else (rBurn s n 0 R.1).2.2.2.2.1 c) = 1 ↔ _
      rw [hst]
    have h1 := fb_ct_upd (fun c => decide (R.1.2.2.2.2.1 c = 1)) true (i := x) (n := n) (by omega)
    have h2 : fb_ct (fun k => if k = x then true else decide (R.1.2.2.2.2.1 k = 1)) n ≤ fb_ct (fun c => decide ((rTurn P n lo s R).1.2.2.2.2.1 c = 1)) n := by
      refine fb_ct_sub (fun k hk q => ?_)
      rw [decide_eq_true_eq, key k]
      by_cases e : k = x
      · rw [e, if_pos ⟨by omega, hE⟩]
      · rw [if_neg e, decide_eq_true_eq] at q
        split
        · rfl
        · exact q
    have h3 : (decide (R.1.2.2.2.2.1 x = 1)) = false := decide_eq_false (by omega)
    have h4 : (if (decide (R.1.2.2.2.2.1 x = 1)) = true then 1 else 0) = 0 := by rw [h3]; rfl
    have h5 : fb_ct (fun k => if k = x then true else decide (R.1.2.2.2.2.1 k = 1)) n + (if (decide (R.1.2.2.2.2.1 x = 1)) = true then 1 else 0) = fb_ct (fun c => decide (R.1.2.2.2.2.1 c = 1)) n + 1 := h1
    rw [h4] at h5
    show fb_ct (fun c => decide (R.1.2.2.2.2.1 c = 1)) n + 1 ≤ fb_ct (fun c => decide ((rTurn P n lo s R).1.2.2.2.2.1 c = 1)) n
    omega
theorem rCt_all {n : Nat} {R : RS} (hV : rV n R) (h : 8 ≤ rCt n R) : rNx R.1 n 0 none = none := by
  have h8 := hV.1.1
  have h1 : fb_ct (fun c => decide (R.1.2.2.2.2.1 c = 1)) n ≤ n := fb_ct_le _ _
  have h2 : rCt n R ≤ n := h1
  have h3 : fb_ct (fun c => decide (R.1.2.2.2.2.1 c = 1)) n = n := by
    have : rCt n R = fb_ct (fun c => decide (R.1.2.2.2.2.1 c = 1)) n := rfl
    omega
  have h4 := fb_ct_all.mp h3
  refine rNx_zero (fun x _ hx => ?_)
  have h5 := h4 x (by omega)
  have h6 : R.1.2.2.2.2.1 x = 1 := of_decide_eq_true h5
  exact ((hV.1.2.2.1 x (by omega)).2.1 (by omega)).1
