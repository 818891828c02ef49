/-! ===== what holds of a run ===== -/
def rG (n : Nat) (K : RC) : Prop := ∃ g : Nat → Nat, ∀ c, c < n → K.2.2.2.2.1 c = 0 → (∃ r, K.2.2.2.1 c = c :: r) ∧ ∀ x, x ∈ K.2.2.2.1 c → x < n ∧ g x = c
def rLn (K : RC) (c : Nat) : Nat := if K.2.2.2.2.1 c = 0 then (K.2.2.2.1 c).length else 0
def rI (n : Nat) (K : RC) : Prop := n ≤ 8 ∧ (∀ c, n ≤ c → K.2.1 c = 0 ∧ K.1 c = 0) ∧ (∀ c, c < n → K.2.1 c ≤ 2 ∧ (K.2.2.2.2.1 c ≠ 0 → K.2.1 c = 0 ∧ K.1 c = 0) ∧ K.2.2.1 c ≤ 400000000) ∧ rG n K ∧ fb_sm (rLn K) n ≤ 8
def rV (n : Nat) (R : RS) : Prop := rI n R.1 ∧ (∀ c, c < n → R.1.2.2.2.2.1 c = 0 → 0 < R.1.1 c) ∧ fb_sm R.1.1 n + R.2.2.2.2.2 ≤ 400000000
theorem fb_two (f : Nat → Nat) {a b n : Nat} (h : a ≠ b) (ha : a < n) (hb : b < n) : f a + f b ≤ fb_sm f n := by
  have h1 := fb_sm_part f ha
  have h2 := fb_sm_part f hb
  have e : ∀ {a b : Nat}, a < b → b < n → f a + f b ≤ fb_sm f n := by
    intro a b hab hbn
    have h3 := fb_sm_part f hab
    have h4 := fb_sm_part f hbn
    omega
  by_cases q : a < b
  · exact e q hb
  · have := e (a := b) (b := a) (by omega) ha
    omega
theorem fb_one (f : Nat → Nat) {a n : Nat} (ha : a < n) : f a ≤ fb_sm f n := by
  have h1 := fb_sm_part f ha
  omega
theorem rV.re {n : Nat} {R : RS} (h : rV n R) (c : Nat) (hc : c < n) : R.1.1 c ≤ 400000000 := by
  have := fb_one R.1.1 hc
  have := h.2.2
  omega
theorem rV_give {n a v : Nat} {R : RS} (h : rV n R) (ha : a < n) (hs : R.1.2.2.2.2.1 a = 0) (hv : v ≤ 2) : rV n (rGive R a v) := by
  obtain ⟨⟨i0, i1, i2, i3, i4⟩, p, s⟩ := h
  refine ⟨⟨i0, fun c hc => ⟨?_, (i1 c hc).2⟩, fun c hc => ⟨?_, fun q => ⟨?_, ((i2 c hc).2.1 q).2⟩, (i2 c hc).2.2⟩, i3, i4⟩, p, s⟩
  · show kU R.1.2.1 a v c = 0
    rw [kU_o _ _ (by omega)]
    exact (i1 c hc).1
  · show kU R.1.2.1 a v c ≤ 2
    by_cases e : c = a
    · rw [e, kU_s]; exact hv
    · rw [kU_o _ _ e]; exact (i2 c hc).1
  · show kU R.1.2.1 a v c = 0
    have q' : R.1.2.2.2.2.1 c ≠ 0 := q
    by_cases e : c = a
    · rw [e] at q'; exact absurd hs q'
    · rw [kU_o _ _ e]; exact ((i2 c hc).2.1 q').1
theorem rV_join {n a b : Nat} {R : RS} (h : rV n R) (ha : a < n) (hsa : R.1.2.2.2.2.1 a = 0) (hb : b < n) (hsb : R.1.2.2.2.2.1 b = 0) (hab : a ≠ b) (hfa : R.1.2.1 a = 0) (hfb : R.1.2.1 b = 0) : rV n (rJoin R a b) := by
  obtain ⟨⟨i0, i1, i2, ⟨g, i3⟩, i4⟩, p, s⟩ := h
  have eS : ∀ c, c ≠ b → (rJoin R a b).1.2.2.2.2.1 c = R.1.2.2.2.2.1 c := fun c hc => kU_o _ _ hc
  have eSb : (rJoin R a b).1.2.2.2.2.1 b = 2 := kU_s _ _ _
  have eR : ∀ c, c ≠ a → c ≠ b → (rJoin R a b).1.1 c = R.1.1 c := fun c h1 h2 => by
    show kU (kU R.1.1 a _) b 0 c = _
    rw [kU_o _ _ h2, kU_o _ _ h1]
  have eRa : (rJoin R a b).1.1 a = R.1.1 a + R.1.1 b := by
    show kU (kU R.1.1 a _) b 0 a = _
    rw [kU_o _ _ hab, kU_s]
  have eRb : (rJoin R a b).1.1 b = 0 := kU_s _ _ _
  have eC : ∀ c, c ≠ a → (rJoin R a b).1.2.2.2.1 c = R.1.2.2.2.1 c := fun c hc => kU_o _ _ hc
  have eCa : (rJoin R a b).1.2.2.2.1 a = R.1.2.2.2.1 a ++ R.1.2.2.2.1 b := kU_s _ _ _
  refine ⟨⟨i0, fun c hc => ⟨(i1 c hc).1, ?_⟩, fun c hc => ⟨(i2 c hc).1, fun q => ?_, (i2 c hc).2.2⟩, ⟨fun x => if g x = b then a else g x, fun c hc q => ?_⟩, ?_⟩, fun c hc q => ?_, ?_⟩
  · exact (eR c (by omega) (by omega)).trans (i1 c hc).2
  · have q' : (rJoin R a b).1.2.2.2.2.1 c ≠ 0 := q
    show R.1.2.1 c = 0 ∧ (rJoin R a b).1.1 c = 0
    by_cases e : c = b
    · rw [e]; exact ⟨hfb, eRb⟩
    · rw [eS c e] at q'
      have e2 : c ≠ a := fun z => q' (by rw [z]; exact hsa)
      have := (i2 c hc).2.1 q'
      exact ⟨this.1, (eR c e2 e).trans this.2⟩
  · have q' : (rJoin R a b).1.2.2.2.2.1 c = 0 := q
    have e : c ≠ b := fun z => by rw [z, eSb] at q'; omega
    rw [eS c e] at q'
    have qc := i3 c hc q'
    by_cases e2 : c = a
    · subst e2
      have qb := i3 b hb hsb
      show (∃ r, (rJoin R c b).1.2.2.2.1 c = c :: r) ∧ ∀ x, x ∈ (rJoin R c b).1.2.2.2.1 c → x < n ∧ (if g x = b then c else g x) = c
      rw [eCa]
      obtain ⟨r, er⟩ := qc.1
      refine ⟨⟨r ++ R.1.2.2.2.1 b, by rw [er]; rfl⟩, fun x hx => ?_⟩
      rcases List.mem_append.mp hx with z | z
      · have := qc.2 x z
        refine ⟨this.1, ?_⟩
        rw [this.2, if_neg hab]
      · have := qb.2 x z
        refine ⟨this.1, ?_⟩
        rw [this.2, if_pos rfl]
    · show (∃ r, (rJoin R a b).1.2.2.2.1 c = c :: r) ∧ ∀ x, x ∈ (rJoin R a b).1.2.2.2.1 c → x < n ∧ (if g x = b then a else g x) = c
      rw [eC c e2]
      refine ⟨qc.1, fun x hx => ?_⟩
      have := qc.2 x hx
      refine ⟨this.1, ?_⟩
      rw [this.2, if_neg e]
  · have e1 := fb_sm_upd (rLn R.1) (rLn R.1 a + rLn R.1 b) ha
    have e2 := fb_sm_upd (fun k => if k = a then rLn R.1 a + rLn R.1 b else rLn R.1 k) 0 hb
    have e3 : fb_sm (rLn (rJoin R a b).1) n = fb_sm (fun k => if k = b then 0 else (if k = a then rLn R.1 a + rLn R.1 b else rLn R.1 k)) n := by
      refine fb_sm_cong (fun k hk => ?_)
      show (if (rJoin R a b).1.2.2.2.2.1 k = 0 then ((rJoin R a b).1.2.2.2.1 k).length else 0) = _
      by_cases eb : k = b
      · rw [if_pos eb, eb, eSb, if_neg (by decide)]
      · rw [if_neg eb, eS k eb]
        by_cases ea : k = a
        · rw [if_pos ea, ea, eCa, if_pos hsa]
          unfold rLn
          rw [if_pos hsa, if_pos hsb, List.length_append]
        · rw [if_neg ea, eC k ea]
          rfl
    have e4 : (if b = a then rLn R.1 a + rLn R.1 b else rLn R.1 b) = rLn R.1 b := if_neg (fun z => hab z.symm)
    show fb_sm (rLn (rJoin R a b).1) n ≤ 8
    simp only [e4] at e2
    omega
  · have q' : (rJoin R a b).1.2.2.2.2.1 c = 0 := q
    have e : c ≠ b := fun z => by rw [z, eSb] at q'; omega
    rw [eS c e] at q'
    have := p c hc q'
    by_cases e2 : c = a
    · rw [e2, eRa]; rw [e2] at this; omega
    · rw [eR c e2 e]; exact this
  · have e1 := fb_sm_upd R.1.1 (R.1.1 a + R.1.1 b) ha
    have e2 := fb_sm_upd (kU R.1.1 a (R.1.1 a + R.1.1 b)) 0 hb
    have e4 : kU R.1.1 a (R.1.1 a + R.1.1 b) b = R.1.1 b := kU_o _ _ (fun z => hab z.symm)
    have e5 : fb_sm (rJoin R a b).1.1 n + kU R.1.1 a (R.1.1 a + R.1.1 b) b = fb_sm (kU R.1.1 a (R.1.1 a + R.1.1 b)) n + 0 := e2
    have e6 : fb_sm (kU R.1.1 a (R.1.1 a + R.1.1 b)) n + R.1.1 a = fb_sm R.1.1 n + (R.1.1 a + R.1.1 b) := e1
    rw [e4] at e5
    show fb_sm (rJoin R a b).1.1 n + R.2.2.2.2.2 ≤ 400000000
    omega
theorem rV_act {n k : Nat} {a : Nat × Nat × Nat} {R : RS} (h : rV n R) : rV n (rAct n k a R) := by
  unfold rAct
  split
  · exact h
  · split
    · split
      · rename_i q
        exact rV_join h q.1 q.2.1 q.2.2.1 q.2.2.2.1 q.2.2.2.2.1 q.2.2.2.2.2.1 q.2.2.2.2.2.2
      · exact h
    · by_cases q : a.2.1 < n ∧ R.1.2.2.2.2.1 a.2.1 = 0 ∧ (if a.1 = 2 then 0 < R.1.2.1 a.2.1 else R.1.2.1 a.2.1 < 2)
      · rw [if_pos q]
        refine rV_give h q.1 q.2.1 ?_
        split
        · omega
        · split
          · omega
          · rename_i z _
            have := q.2.2
            rw [if_neg z] at this
            omega
      · rw [if_neg q]; exact h
theorem rV_acts {P : PL} {n lo : Nat} : ∀ (m k : Nat) {R : RS}, rV n R → rV n (rActs P n lo m k R)
  | 0, _, _, h => h
  | m + 1, k, R, h => by
    refine rV_acts m (k + 1) ?_
    split
    · exact h
    · exact rV_act h
theorem rV_rules {P : PL} {n lo c : Nat} : ∀ (m r : Nat) {R : RS}, rV n R → rV n (rRules P n lo c m r R)
  | 0, _, _, h => h
  | m + 1, r, R, h => by
    refine rV_rules m (r + 1) ?_
    split
    · exact rV_acts _ _ h
    · exact h
theorem rV_ends {P : PL} {n lo : Nat} {E : Nat → Bool} : ∀ (m c : Nat) {R : RS}, rV n R → rV n (rEnds P n lo E m c R)
  | 0, _, _, h => h
  | m + 1, c, R, h => by
    refine rV_ends m (c + 1) ?_
    split
    · exact rV_rules _ _ h
    · exact h
