/-! ===== the reader's smaller steps ===== -/
theorem kW_all (g : Nat → Bool) (f : Nat → Nat) (n : Nat) : ∀ m p q, p ≤ q → q < kW g f n m p → g (f q) = true
  | 0, p, q, h1, h2 => by have : q < p := h2; omega
  | m + 1, p, q, h1, h2 => by
    have h3 : q < if p < n ∧ g (f p) = true then kW g f n m (p + 1) else p := h2
    by_cases c : p < n ∧ g (f p) = true
    · rw [if_pos c] at h3
      by_cases e : q = p
      · rw [e]; exact c.2
      · exact kW_all g f n m (p + 1) q (by omega) h3
    · rw [if_neg c] at h3; omega
def kGd (f : Nat → Nat) (n : Nat) (t : TK) : Prop := t.1 ≤ 15 ∧ t.2.1 ≤ t.2.2.1 ∧ t.2.2.1 ≤ n ∧ (t.1 ≤ 11 → t.1 = kKey f t.2.1 t.2.2.1) ∧ (t.1 = 12 → t.2.2.2 ≤ 999)
theorem kGd_1 (f : Nat → Nat) {n s : Nat} (h : s ≤ n) (hn : n ≤ 400) : kGd f n (kT1 f n s) := by
  have hE := kT1_e f h hn
  refine ⟨hE.2.2.2, by rw [hE.1]; exact hE.2.1, hE.2.2.1, ?_, ?_⟩
  · unfold kT1
    by_cases q1 : n ≤ s
    · rw [if_pos q1]; intro z; exact absurd (show (14 : Nat) ≤ 11 from z) (by decide)
    · rw [if_neg q1]
      by_cases q2 : kLet (f s) = true
      · rw [if_pos q2]; intro _; rfl
      · rw [if_neg q2]
        by_cases q3 : kDig (f s) = true
        · rw [if_pos q3]
          intro z
          have z2 : (if kE kDig f n s - s ≤ 3 then 12 else 15) ≤ 11 := z
          split at z2 <;> omega
        · rw [if_neg q3]
          intro z
          have z2 : (if f s = 59 then 13 else 15) ≤ 11 := z
          split at z2 <;> omega
  · unfold kT1
    by_cases q1 : n ≤ s
    · rw [if_pos q1]; intro _; exact Nat.zero_le _
    · rw [if_neg q1]
      by_cases q2 : kLet (f s) = true
      · rw [if_pos q2]; intro _; exact Nat.zero_le _
      · rw [if_neg q2]
        by_cases q3 : kDig (f s) = true
        · rw [if_pos q3]
          intro z
          have z2 : (if kE kDig f n s - s ≤ 3 then 12 else 15) = 12 := z
          have z3 : kE kDig f n s - s ≤ 3 := by
            by_cases c : kE kDig f n s - s ≤ 3
            · exact c
            · rw [if_neg c] at z2; omega
          have hd9 : ∀ i, i < kE kDig f n s - s → f (s + i) ≤ 57 := by
            intro i hi
            have hlt : s + i < kW kDig f n (n - s) s := by show s + i < kE kDig f n s; omega
            exact (kDig_t.mp (kW_all kDig f n (n - s) s (s + i) (by omega) hlt)).2
          have hv := kV_le f s (kE kDig f n s - s) hd9
          have hp : 10 ^ (kE kDig f n s - s) ≤ 10 ^ 3 := Nat.pow_le_pow_right (by decide) z3
          show kV f s (kE kDig f n s - s) ≤ 999
          omega
        · rw [if_neg q3]; intro _; exact Nat.zero_le _
theorem kGd_k (f : Nat → Nat) {n p : Nat} (h : p ≤ n) (hn : n ≤ 400) : kGd f n (kTk f n p) := kGd_1 f (kE_le kSpc f h) hn
def RI (f : Nat → Nat) (n : Nat) (t : TK) (h : MH) : Prop := zRf h ∧ kC f n h ∧ rC n t h ∧ kGd f n t
theorem RI.cl {f : Nat → Nat} {n : Nat} {t : TK} {h : MH} (R : RI f n t h) : (h.1 2 3 = nI 4 ↔ t.1 = 15) ∧ (h.1 2 3 = nI 2 ↔ t.1 = 12) ∧ (h.1 2 3 = nI 3 ↔ t.1 = 13) ∧ (h.1 2 3 = 0 ↔ t.1 = 14) := by
  have e := R.2.2.1.2.2.1
  have h15 := R.2.2.2.1
  rw [e]
  have hall : ∀ k, k ≤ 15 → (nI (kCl k) = nI 4 ↔ k = 15) ∧ (nI (kCl k) = nI 2 ↔ k = 12) ∧ (nI (kCl k) = nI 3 ↔ k = 13) ∧ (nI (kCl k) = 0 ↔ k = 14) := by decide +kernel
  exact hall _ h15
/-- the reader's cell changes, but neither fault nor place -/
def rS (h h' : MH) : Prop := zF (fun a => a ≠ 2) h h' ∧ h'.1 2 6 = h.1 2 6 ∧ h'.1 2 7 = h.1 2 7
theorem rS.trans {h h1 h2 : MH} (a : rS h h1) (b : rS h1 h2) : rS h h2 := ⟨a.1.trans b.1, b.2.1.trans a.2.1, b.2.2.trans a.2.2⟩
theorem c_nxt {f : Nat → Nat} {n : Nat} {t : TK} {h : MH} {d : Nat} {Q : Option MV → MH → Prop} (R : RI f n t h) (hd : 2 ≤ d) (kk : ∀ h', RI f n (kNx f n t) h' → rS h h' → Q none h') : Con mX6_advance d 0 0 [.inr (.inr 2)] h Q := by
  obtain ⟨hr, hk, hR, hG⟩ := R
  refine c_adv hr hk hG.2.2.1 hR.1 hR.2.1 hd (fun h' r' f' e6 e7 R' => ?_)
  exact kk h' ⟨r', hk.keep (f'.i (by decide)), R', kGd_k f hG.2.2.1 hk.1⟩ ⟨f', e6, e7⟩
/-- the heap after a refusal -/
def rfH (h : MH) (e : Nat × Nat) : MH := zsI (zsI h 2 6 (nI e.1)) 2 7 (nI e.2)
theorem rf_at {f : Nat → Nat} {n : Nat} {t : TK} {h : MH} (R : RI f n t h) (k : Nat) : (¬ h.1 2 3 = nI 4 → zsI (zsI h 2 6 (nI k)) 2 7 ((zsI h 2 6 (nI k)).1 2 4) = rfH h (pFl t k)) ∧ (h.1 2 3 = nI 4 → zsI (zsI h 2 6 (nI 1)) 2 7 ((zsI h 2 6 (nI 1)).1 2 4) = rfH h (pFl t k)) := by
  have e4 := R.2.2.1.2.2.2.1
  have c := R.cl.1
  unfold rfH pFl
  constructor
  · intro q
    rw [zI_k _ _ _ (by decide), e4, if_neg (fun z => q (c.mpr z))]
  · intro q
    rw [zI_k _ _ _ (by decide), e4, if_pos (c.mp q)]
theorem c_num {f : Nat → Nat} {n : Nat} {t : TK} {h : MH} {lo hi : Nat} (R : RI f n t h) (hlo : lo ≤ 999) (hhi : hi ≤ 999) {A0 : MH → Prop} {A1 : Prop} (k0 : ∀ e, pNum t lo hi = .inl e → A0 (rfH h e)) (k1 : ∀ v, pNum t lo hi = .inr v → h.1 2 5 = nI v → A1) :
    ((h.1 2 3) = (nI 2) → (h.1 2 5) < nI lo → ¬ (h.1 2 3) = (nI 4) → A0 (zsI (zsI h 2 6 (nI 3)) 2 7 ((zsI h 2 6 (nI 3)).1 2 4))) ∧ ((h.1 2 3) = (nI 2) → (h.1 2 5) < nI lo → (h.1 2 3) = (nI 4) → A0 (zsI (zsI h 2 6 (nI 1)) 2 7 ((zsI h 2 6 (nI 1)).1 2 4))) ∧ ((h.1 2 3) = (nI 2) → ¬ (h.1 2 5) < nI lo → (h.1 2 5) ≤ nI hi → A1) ∧ ((h.1 2 3) = (nI 2) → ¬ (h.1 2 5) < nI lo → ¬ (h.1 2 5) ≤ nI hi → ¬ (h.1 2 3) = (nI 4) → A0 (zsI (zsI h 2 6 (nI 3)) 2 7 ((zsI h 2 6 (nI 3)).1 2 4))) ∧ ((h.1 2 3) = (nI 2) → ¬ (h.1 2 5) < nI lo → ¬ (h.1 2 5) ≤ nI hi → (h.1 2 3) = (nI 4) → A0 (zsI (zsI h 2 6 (nI 1)) 2 7 ((zsI h 2 6 (nI 1)).1 2 4))) ∧ (¬ (h.1 2 3) = (nI 2) → ¬ (h.1 2 3) = (nI 4) → A0 (zsI (zsI h 2 6 (nI 2)) 2 7 ((zsI h 2 6 (nI 2)).1 2 4))) ∧ (¬ (h.1 2 3) = (nI 2) → (h.1 2 3) = (nI 4) → A0 (zsI (zsI h 2 6 (nI 1)) 2 7 ((zsI h 2 6 (nI 1)).1 2 4))) := by
  have c := R.cl
  have r5 := R.2.2.1.2.2.2.2
  have b9 := R.2.2.2.2.2.2.2
  have y : t.1 = 12 → (¬ (lo ≤ t.2.2.2 ∧ t.2.2.2 ≤ hi)) → pNum t lo hi = .inl (pFl t 3) := fun z w => by unfold pNum; rw [if_pos z, if_neg w]
  have w2 : ¬ t.1 = 12 → pNum t lo hi = .inl (pFl t 2) := fun z => by unfold pNum; rw [if_neg z]
  refine ⟨fun p q s => ?_, fun p q s => ?_, fun p q s => ?_, fun p q q2 s => ?_, fun p q q2 s => ?_, fun p s => ?_, fun p s => ?_⟩
  · have z := c.2.1.mp p
    have b := b9 z
    rw [r5 z, nI_ltI (by omega) (by omega)] at q
    rw [(rf_at R 3).1 s]
    exact k0 _ (y z (by omega))
  · exact absurd (c.2.1.mp p) (by rw [c.1.mp s]; decide)
  · have z := c.2.1.mp p
    have b := b9 z
    rw [r5 z, nI_ltI (by omega) (by omega)] at q
    rw [r5 z, nI_leI (by omega) (by omega)] at s
    exact k1 t.2.2.2 (by unfold pNum; rw [if_pos z, if_pos (by omega)]) (r5 z)
  · have z := c.2.1.mp p
    have b := b9 z
    rw [r5 z, nI_leI (by omega) (by omega)] at q2
    rw [(rf_at R 3).1 s]
    exact k0 _ (y z (by omega))
  · exact absurd (c.2.1.mp p) (by rw [c.1.mp s]; decide)
  · rw [(rf_at R 2).1 s]
    exact k0 _ (w2 (fun z => p (c.2.1.mpr z)))
  · rw [(rf_at R 2).2 s]
    exact k0 _ (w2 (fun z => p (c.2.1.mpr z)))
theorem c_ato {f : Nat → Nat} {n : Nat} {t : TK} {h : MH} {d lo hi : Nat} {Q : Option MV → MH → Prop} (R : RI f n t h) (hlo : lo ≤ 999) (hhi : hi ≤ 999) (hd : 3 ≤ d) (k0 : ∀ h' e, RI f n (kNx f n t) h' → rS h h' → pNum (kNx f n t) lo hi = .inl e → Q (some (.inl (nI 0))) (rfH h' e)) (k1 : ∀ h' v, RI f n (kNx f n t) h' → rS h h' → pNum (kNx f n t) lo hi = .inr v → h'.1 2 5 = nI v → Q (some (.inl (nI 1))) h') : Con mX6_advanceTo d 0 0 [.inr (.inr 2), .inl (nI lo), .inl (nI hi)] h Q := by
  refine t_X6_advanceTo (d1' := 2) R.1 (by omega) ?_
  refine c_nxt R (by omega) (fun h' R' s' => ?_)
  have c := c_num (A0 := fun g => Q (some (.inl (nI 0))) g) (A1 := Q (some (.inl (nI 1))) h') R' hlo hhi (fun e => k0 h' e R' s') (fun v => k1 h' v R' s')
  exact t_X6_advanceTo_4 R'.1 (by omega) c.1 c.2.1 c.2.2.1 c.2.2.2.1 c.2.2.2.2.1 c.2.2.2.2.2.1 c.2.2.2.2.2.2
