/-! ===== a turn ===== -/
theorem rOwn_le : ∀ (l : List Nat) (a : Nat) (w : Nat → Nat) (x : Nat), rOwn l a w x ≤ w x
  | [], _, _, _ => Nat.le_refl _
  | c :: cs, a, w, x => by
    have h1 := rOwn_le cs (a - min (w c) a) (kU w c (w c - min (w c) a)) x
    have h2 : kU w c (w c - min (w c) a) x ≤ w x := by
      by_cases e : x = c
      · rw [e, kU_s]; omega
      · rw [kU_o _ _ e]; exact Nat.le_refl _
    exact Nat.le_trans h1 h2
theorem kU_id {α : Type} (g : Nat → α) (i : Nat) : kU g i (g i) = g := funext fun j => by
  by_cases e : j = i
  · rw [e, kU_s]
  · rw [kU_o _ _ e]
theorem rOwn_0 : ∀ (l : List Nat) (w : Nat → Nat), rOwn l 0 w = w
  | [], _ => rfl
  | c :: cs, w => by
    show rOwn cs (0 - min (w c) 0) (kU w c (w c - min (w c) 0)) = w
    rw [Nat.min_zero, Nat.sub_zero, Nat.sub_zero, kU_id, rOwn_0]
theorem rBurn1_rest (s c : Nat) (K : RC) : (rBurn1 s c K).2.1 = K.2.1 ∧ (rBurn1 s c K).2.2.2 = K.2.2.2 ∧ (∀ x, (rBurn1 s c K).1 x = if x = c then K.1 x - s * K.2.1 x else K.1 x) ∧ ∀ x, (rBurn1 s c K).2.2.1 x ≤ K.2.2.1 x := by
  unfold rBurn1
  by_cases f : 0 < K.2.1 c
  · rw [if_pos f]
    refine ⟨rfl, rfl, fun x => ?_, fun x => rOwn_le _ _ _ _⟩
    show (if x = c then _ else _) = _
    by_cases e : x = c
    · rw [if_pos e, if_pos e, e]
    · rw [if_neg e, if_neg e]
  · rw [if_neg f]
    refine ⟨rfl, rfl, fun x => ?_, fun x => Nat.le_refl _⟩
    by_cases e : x = c
    · rw [if_pos e, e, show K.2.1 c = 0 by omega, Nat.mul_zero, Nat.sub_zero]
    · rw [if_neg e]
theorem rBurn_rest (s : Nat) : ∀ (m c : Nat) (K : RC), (rBurn s m c K).2.1 = K.2.1 ∧ (rBurn s m c K).2.2.2 = K.2.2.2 ∧ (∀ x, (rBurn s m c K).1 x = if c ≤ x ∧ x < c + m then K.1 x - s * K.2.1 x else K.1 x) ∧ ∀ x, (rBurn s m c K).2.2.1 x ≤ K.2.2.1 x
  | 0, c, K => ⟨rfl, rfl, fun x => (if_neg (by omega)).symm, fun x => Nat.le_refl _⟩
  | m + 1, c, K => by
    obtain ⟨a1, a2, a3, a4⟩ := rBurn_rest s m (c + 1) (rBurn1 s c K)
    obtain ⟨b1, b2, b3, b4⟩ := rBurn1_rest s c K
    show (rBurn s m (c + 1) (rBurn1 s c K)).2.1 = _ ∧ (rBurn s m (c + 1) (rBurn1 s c K)).2.2.2 = _ ∧ (∀ x, (rBurn s m (c + 1) (rBurn1 s c K)).1 x = _) ∧ ∀ x, (rBurn s m (c + 1) (rBurn1 s c K)).2.2.1 x ≤ _
    refine ⟨a1.trans b1, a2.trans b2, fun x => ?_, fun x => Nat.le_trans (a4 x) (b4 x)⟩
    rw [a3 x, b3 x, b1]
    by_cases e : x = c
    · rw [if_neg (by omega), if_pos e, if_pos (by omega)]
    · rw [if_neg e]
      by_cases e2 : c + 1 ≤ x ∧ x < c + 1 + m
      · rw [if_pos e2, if_pos (by omega)]
      · rw [if_neg e2, if_neg (by omega)]
theorem rNx_some {K : RC} : ∀ {m c : Nat} {o : Option Nat} {s : Nat}, rNx K m c o = some s → ((o = some s ∨ ∃ x, c ≤ x ∧ x < c + m ∧ 0 < K.2.1 x ∧ K.1 x / K.2.1 x = s) ∧ (∀ v, o = some v → s ≤ v) ∧ ∀ x, c ≤ x → x < c + m → 0 < K.2.1 x → s ≤ K.1 x / K.2.1 x)
  | 0, c, o, s, h => by
    have h' : o = some s := h
    refine ⟨Or.inl h', fun v hv => ?_, fun x h1 h2 => absurd h2 (by omega)⟩
    rw [h'] at hv
    have := Option.some.inj hv
    omega
  | m + 1, c, o, s, h => by
    have h' : rNx K m (c + 1) (if 0 < K.2.1 c then some (oMin o (K.1 c / K.2.1 c)) else o) = some s := h
    obtain ⟨a1, a2, a3⟩ := rNx_some h'
    by_cases f : 0 < K.2.1 c
    · rw [if_pos f] at a1 a2
      have hm := a2 _ rfl
      have hle : ∀ v, o = some v → oMin o (K.1 c / K.2.1 c) ≤ v := by
        intro v hv
        rw [hv]
        exact Nat.min_le_right _ _
      have hle2 : oMin o (K.1 c / K.2.1 c) ≤ K.1 c / K.2.1 c := by
        cases o with
        | none => exact Nat.le_refl _
        | some v => exact Nat.min_le_left _ _
      refine ⟨?_, fun v hv => Nat.le_trans hm (hle v hv), fun x h1 h2 h3 => ?_⟩
      · rcases a1 with z | ⟨x, x1, x2, x3, x4⟩
        · have z' := Option.some.inj z
          cases o with
          | none => exact Or.inr ⟨c, by omega, by omega, f, z'⟩
          | some v =>
            have z2 : min (K.1 c / K.2.1 c) v = s := z'
            by_cases g : K.1 c / K.2.1 c ≤ v
            · rw [Nat.min_eq_left g] at z2
              exact Or.inr ⟨c, by omega, by omega, f, z2⟩
            · rw [Nat.min_eq_right (by omega)] at z2
              exact Or.inl (by rw [z2])
        · exact Or.inr ⟨x, by omega, by omega, x3, x4⟩
      · by_cases e : x = c
        · rw [e]; exact Nat.le_trans hm hle2
        · exact a3 x (by omega) (by omega) h3
    · rw [if_neg f] at a1 a2
      refine ⟨?_, a2, fun x h1 h2 h3 => ?_⟩
      · rcases a1 with z | ⟨x, x1, x2, x3, x4⟩
        · exact Or.inl z
        · exact Or.inr ⟨x, by omega, by omega, x3, x4⟩
      · by_cases e : x = c
        · rw [e] at h3; exact absurd h3 f
        · exact a3 x (by omega) (by omega) h3
theorem rNx_none {K : RC} : ∀ {m c : Nat} {o : Option Nat}, rNx K m c o = none → o = none ∧ ∀ x, c ≤ x → x < c + m → K.2.1 x = 0
  | 0, c, o, h => ⟨h, fun x h1 h2 => absurd h2 (by omega)⟩
  | m + 1, c, o, h => by
    have h' : rNx K m (c + 1) (if 0 < K.2.1 c then some (oMin o (K.1 c / K.2.1 c)) else o) = none := h
    obtain ⟨a1, a2⟩ := rNx_none h'
    by_cases f : 0 < K.2.1 c
    · rw [if_pos f] at a1; cases a1
    · rw [if_neg f] at a1
      refine ⟨a1, fun x h1 h2 => ?_⟩
      by_cases e : x = c
      · rw [e]; omega
      · exact a2 x (by omega) (by omega)
theorem rNx_zero {K : RC} : ∀ {m c : Nat} {o : Option Nat}, (∀ x, c ≤ x → x < c + m → K.2.1 x = 0) → rNx K m c o = o
  | 0, c, o, h => rfl
  | m + 1, c, o, h => by
    show rNx K m (c + 1) (if 0 < K.2.1 c then some (oMin o (K.1 c / K.2.1 c)) else o) = o
    rw [if_neg (by rw [h c (by omega) (by omega)]; omega)]
    exact rNx_zero (fun x h1 h2 => h x (by omega) (by omega))
theorem rNx_app {K : RC} : ∀ {m k c : Nat} {o : Option Nat}, rNx K (m + k) c o = rNx K k (c + m) (rNx K m c o)
  | 0, k, c, o => by rw [Nat.zero_add]; rfl
  | m + 1, k, c, o => by
    rw [show m + 1 + k = (m + k) + 1 by omega]
    show rNx K (m + k) (c + 1) _ = rNx K k (c + (m + 1)) (rNx K m (c + 1) _)
    rw [rNx_app, show c + 1 + m = c + (m + 1) by omega]
theorem fb_drop {f g : Nat → Nat} {s i : Nat} : ∀ {n : Nat}, (∀ c, c < n → g c ≤ f c) → i < n → g i + s ≤ f i → fb_sm g n + s ≤ fb_sm f n
  | 0, _, h, _ => absurd h (Nat.not_lt_zero _)
  | n + 1, h1, h2, h3 => by
    show fb_sm g n + g n + s ≤ fb_sm f n + f n
    have hn := h1 n (by omega)
    by_cases e : i = n
    · rw [e] at h3
      have : fb_sm g n ≤ fb_sm f n := fb_sm_le (fun k hk => h1 k (by omega))
      omega
    · have := fb_drop (n := n) (fun c hc => h1 c (by omega)) (by omega) h3
      omega
theorem rE_t {K : RC} {c : Nat} : rE K c = true ↔ 0 < K.2.1 c ∧ K.1 c = 0 := by unfold rE; simp
/-- so far burnt, those that ended put away -/
theorem rV_burn {n s : Nat} {R : RS} (h : rV n R) (hs : ∀ x, x < n → 0 < R.1.2.1 x → s ≤ R.1.1 x / R.1.2.1 x) (h0 : s = 0 ∨ ∃ x, x < n ∧ 0 < R.1.2.1 x) : rV n (rAway (rBurn s n 0 R.1) (R.2.2.2.2.2 + s) n, rTick s R.2) := by
  obtain ⟨⟨i0, i1, i2, ⟨g, i3⟩, i4⟩, p, sm⟩ := h
  obtain ⟨a1, a2, a3, a4⟩ := rBurn_rest s n 0 R.1
  have a3' : ∀ x, x < n → (rBurn s n 0 R.1).1 x = R.1.1 x - s * R.1.2.1 x := fun x hx => by rw [a3 x, if_pos (by omega)]
  have a3o : ∀ x, n ≤ x → (rBurn s n 0 R.1).1 x = R.1.1 x := fun x hx => by rw [a3 x, if_neg (by omega)]
  have hch : (rBurn s n 0 R.1).2.2.2.1 = R.1.2.2.2.1 := congrArg (fun z => z.1) a2
  have hst : (rBurn s n 0 R.1).2.2.2.2.1 = R.1.2.2.2.2.1 := congrArg (fun z => z.2.1) a2
  have hfr : ∀ x, x < n → s * R.1.2.1 x ≤ R.1.1 x := by
    intro x hx
    by_cases f : 0 < R.1.2.1 x
    · have := hs x hx f
      have h2 : R.1.1 x / R.1.2.1 x * R.1.2.1 x ≤ R.1.1 x := Nat.div_mul_le_self _ _
      exact Nat.le_trans (Nat.mul_le_mul_right _ this) h2
    · rw [show R.1.2.1 x = 0 by omega]; omega
  generalize rBurn s n 0 R.1 = K1 at a1 a2 a3 a4 a3' a3o hch hst
  have hE : ∀ x, x < n → rE K1 x = true → R.1.2.2.2.2.1 x = 0 := by
    intro x hx q
    have q1 := (rE_t.mp q).1
    rw [a1] at q1
    by_cases z : R.1.2.2.2.2.1 x = 0
    · exact z
    · have := ((i2 x hx).2.1 z).1
      omega
  have eS : ∀ x, (rAway K1 (R.2.2.2.2.2 + s) n).2.2.2.2.1 x = if x < n ∧ rE K1 x = true then 1 else R.1.2.2.2.2.1 x := fun x => by
    show (if _ then _ else K1.2.2.2.2.1 x) = _
    rw [hst]
  have eF : ∀ x, (rAway K1 (R.2.2.2.2.2 + s) n).2.1 x = if x < n ∧ rE K1 x = true then 0 else R.1.2.1 x := fun x => by
    show (if _ then _ else K1.2.1 x) = _
    rw [a1]
  refine ⟨⟨i0, fun c hc => ⟨?_, ?_⟩, fun c hc => ⟨?_, fun q => ?_, Nat.le_trans (a4 c) (i2 c hc).2.2⟩, ⟨g, fun c hc q => ?_⟩, ?_⟩, fun c hc q => ?_, ?_⟩
  · show (rAway K1 (R.2.2.2.2.2 + s) n).2.1 c = 0
    rw [eF, if_neg (by omega)]; exact (i1 c hc).1
  · show K1.1 c = 0
    rw [a3o c hc]; exact (i1 c hc).2
  · show (rAway K1 (R.2.2.2.2.2 + s) n).2.1 c ≤ 2
    rw [eF]
    split
    · omega
    · exact (i2 c hc).1
  · have q' : (rAway K1 (R.2.2.2.2.2 + s) n).2.2.2.2.1 c ≠ 0 := q
    show (rAway K1 (R.2.2.2.2.2 + s) n).2.1 c = 0 ∧ K1.1 c = 0
    rw [eS] at q'
    rw [eF]
    by_cases z : c < n ∧ rE K1 c = true
    · rw [if_pos z]; exact ⟨rfl, (rE_t.mp z.2).2⟩
    · rw [if_neg z] at q'
      rw [if_neg z]
      have := (i2 c hc).2.1 q'
      rw [a3' c hc, this.1, this.2]
      exact ⟨rfl, rfl⟩
  · have q' : (rAway K1 (R.2.2.2.2.2 + s) n).2.2.2.2.1 c = 0 := q
    show (∃ r, K1.2.2.2.1 c = c :: r) ∧ ∀ x, x ∈ K1.2.2.2.1 c → x < n ∧ g x = c
    rw [eS] at q'
    rw [hch]
    by_cases z : c < n ∧ rE K1 c = true
    · rw [if_pos z] at q'; omega
    · rw [if_neg z] at q'; exact i3 c hc q'
  · refine Nat.le_trans (fb_sm_le (fun c hc => ?_)) i4
    show (if (rAway K1 (R.2.2.2.2.2 + s) n).2.2.2.2.1 c = 0 then (K1.2.2.2.1 c).length else 0) ≤ if R.1.2.2.2.2.1 c = 0 then (R.1.2.2.2.1 c).length else 0
    rw [eS, hch]
    by_cases z : c < n ∧ rE K1 c = true
    · rw [if_pos z, if_neg (by omega)]; exact Nat.zero_le _
    · rw [if_neg z]; exact Nat.le_refl _
  · have q' : (rAway K1 (R.2.2.2.2.2 + s) n).2.2.2.2.1 c = 0 := q
    show 0 < K1.1 c
    rw [eS] at q'
    by_cases z : c < n ∧ rE K1 c = true
    · rw [if_pos z] at q'; omega
    · rw [if_neg z] at q'
      have h1 := p c hc q'
      by_cases f : 0 < R.1.2.1 c
      · by_cases w : K1.1 c = 0
        · exact absurd ⟨hc, rE_t.mpr ⟨by rw [a1]; exact f, w⟩⟩ z
        · omega
      · rw [a3' c hc, show R.1.2.1 c = 0 by omega]; exact h1
  · show fb_sm K1.1 n + (R.2.2.2.2.2 + s) ≤ 400000000
    have : fb_sm K1.1 n + s ≤ fb_sm R.1.1 n := by
      rcases h0 with z | ⟨x, x1, x2⟩
      · subst z
        exact fb_sm_le (fun k hk => by rw [a3' k hk]; omega)
      · refine fb_drop (i := x) (fun k hk => by rw [a3' k hk]; omega) x1 ?_
        rw [a3' x x1]
        have := hfr x x1
        have h2 : s * 1 ≤ s * R.1.2.1 x := Nat.mul_le_mul_left _ x2
        omega
    omega
theorem rV_turn {P : PL} {n lo s : Nat} {R : RS} (h : rV n R) (hs : rNx R.1 n 0 none = some s) : rV n (rTurn P n lo s R) := by
  obtain ⟨a1, _, a3⟩ := rNx_some hs
  refine rV_ends _ _ (rV_burn h (fun x hx => a3 x (by omega) (by omega)) (Or.inr ?_))
  rcases a1 with z | ⟨x, x1, x2, x3, x4⟩
  · cases z
  · exact ⟨x, by omega, x3⟩
