/-! ===== tokens ===== -/
def kLet (b : Nat) : Bool := decide (97 ≤ b) && decide (b ≤ 122)
def kDig (b : Nat) : Bool := decide (48 ≤ b) && decide (b ≤ 57)
def kSpc (b : Nat) : Bool := decide (b = 32) || decide (b = 10)
theorem kLet_t {b : Nat} : kLet b = true ↔ 97 ≤ b ∧ b ≤ 122 := by simp [kLet]
theorem kDig_t {b : Nat} : kDig b = true ↔ 48 ≤ b ∧ b ≤ 57 := by simp [kDig]
theorem kSpc_t {b : Nat} : kSpc b = true ↔ b = 32 ∨ b = 10 := by simp [kSpc]
/-- from p on, while a byte before n is such -/
def kW (g : Nat → Bool) (f : Nat → Nat) (n : Nat) : Nat → Nat → Nat
  | 0, p => p
  | m + 1, p => if p < n ∧ g (f p) = true then kW g f n m (p + 1) else p
def kE (g : Nat → Bool) (f : Nat → Nat) (n p : Nat) : Nat := kW g f n (n - p) p
theorem kE_stop {g : Nat → Bool} {f : Nat → Nat} {n p : Nat} (h : ¬ (p < n ∧ g (f p) = true)) : kE g f n p = p := by
  unfold kE
  cases n - p with
  | zero => rfl
  | succ m => exact if_neg h
theorem kE_go {g : Nat → Bool} {f : Nat → Nat} {n p : Nat} (h : p < n) (hg : g (f p) = true) : kE g f n p = kE g f n (p + 1) := by
  unfold kE
  rw [show n - p = (n - (p + 1)) + 1 by omega]
  exact if_pos ⟨h, hg⟩
theorem kW_ge (g : Nat → Bool) (f : Nat → Nat) (n : Nat) : ∀ m p, p ≤ kW g f n m p
  | 0, p => Nat.le_refl p
  | m + 1, p => by
    show p ≤ if _ then _ else _
    split
    · have := kW_ge g f n m (p + 1); omega
    · exact Nat.le_refl p
theorem kW_le (g : Nat → Bool) (f : Nat → Nat) (n : Nat) : ∀ m p, p ≤ n → kW g f n m p ≤ n
  | 0, p, h => h
  | m + 1, p, h => by
    show (if _ then _ else _) ≤ n
    split
    · rename_i q; exact kW_le g f n m (p + 1) (by omega)
    · exact h
theorem kE_ge (g : Nat → Bool) (f : Nat → Nat) (n p : Nat) : p ≤ kE g f n p := kW_ge g f n _ p
theorem kE_le (g : Nat → Bool) (f : Nat → Nat) {n p : Nat} (h : p ≤ n) : kE g f n p ≤ n := kW_le g f n _ p h
/-- the number that the first three digits spell -/
def kV (f : Nat → Nat) (s : Nat) : Nat → Nat
  | 0 => 0
  | m + 1 => if m < 3 then kV f s m * 10 + (f (s + m) - 48) else kV f s m
def kWds : List (List Nat) := [[99, 97, 110, 100, 108, 101], [119, 97, 120], [100, 114, 97, 117, 103, 104, 116], [102, 105, 114, 115, 116], [101, 110, 100, 115], [97, 110, 100], [108, 105, 103, 104, 116], [98, 111, 116, 104], [111, 117, 116], [106, 111, 105, 110], [98, 101, 108, 108]]
def kWl (f : Nat → Nat) (s e : Nat) : List Nat := (List.range (e - s)).map (fun i => f (s + i))
def kKey (f : Nat → Nat) (s e : Nat) : Nat := kWds.idxOf (kWl f s e)
theorem kKey_le (f : Nat → Nat) (s e : Nat) : kKey f s e ≤ 11 := List.idxOf_le_length
/-- kind, first, behind, value -/
abbrev TK : Type := Nat × Nat × Nat × Nat
def kT1 (f : Nat → Nat) (n s : Nat) : TK := if n ≤ s then (14, s, s, 0) else if kLet (f s) = true then (kKey f s (kE kLet f n s), s, kE kLet f n s, 0) else if kDig (f s) = true then (if kE kDig f n s - s ≤ 3 then 12 else 15, s, kE kDig f n s, kV f s (kE kDig f n s - s)) else (if f s = 59 then 13 else 15, s, s + 1, 0)
def kTk (f : Nat → Nat) (n p : Nat) : TK := kT1 f n (kE kSpc f n p)
def kCl (k : Nat) : Nat := if k ≤ 11 then 1 else if k = 12 then 2 else if k = 13 then 3 else if k = 14 then 0 else 4
theorem c_let {h : MH} {d : Nat} {Q : Option MV → MH → Prop} {b : Nat} (hb : b < 256) (kk : Q (some (.inl (if kLet b = true then nI 1 else nI 0))) h) : Con mX6_isLetter d 0 0 [.inl (nI b)] h Q := by
  refine t_X6_isLetter (fun p => ?_) (fun p q => ?_) (fun p q => ?_)
  · rw [nI_ltI (by omega) (by omega)] at p
    rw [if_neg (by rw [kLet_t]; omega)] at kk
    exact kk
  · rw [nI_ltI (by omega) (by omega)] at q
    rw [if_neg (by rw [kLet_t]; omega)] at kk
    exact kk
  · rw [nI_ltI (by omega) (by omega)] at p q
    rw [if_pos (by rw [kLet_t]; omega)] at kk
    exact kk
theorem c_dig {h : MH} {d : Nat} {Q : Option MV → MH → Prop} {b : Nat} (hb : b < 256) (kk : Q (some (.inl (if kDig b = true then nI 1 else nI 0))) h) : Con mX6_isDigit d 0 0 [.inl (nI b)] h Q := by
  refine t_X6_isDigit (fun p => ?_) (fun p q => ?_) (fun p q => ?_)
  · rw [nI_ltI (by omega) (by omega)] at p
    rw [if_neg (by rw [kDig_t]; omega)] at kk
    exact kk
  · rw [nI_ltI (by omega) (by omega)] at q
    rw [if_neg (by rw [kDig_t]; omega)] at kk
    exact kk
  · rw [nI_ltI (by omega) (by omega)] at p q
    rw [if_pos (by rw [kDig_t]; omega)] at kk
    exact kk
/-- the class's text -/
def kC (f : Nat → Nat) (n : Nat) (h : MH) : Prop := n ≤ 400 ∧ ∀ k, k < n → h.1 3 k = nI (f k) ∧ f k < 256
def rC (n : Nat) (t : TK) (h : MH) : Prop := h.1 2 1 = nI n ∧ h.1 2 2 = nI t.2.2.1 ∧ h.1 2 3 = nI (kCl t.1) ∧ h.1 2 4 = nI t.2.1 ∧ (t.1 = 12 → h.1 2 5 = nI t.2.2.2)
theorem kC.keep {f : Nat → Nat} {n : Nat} {h h' : MH} (k : kC f n h) (e : h'.1 3 = h.1 3) : kC f n h' := ⟨k.1, fun j hj => by rw [e]; exact k.2 j hj⟩
theorem c_digs {f : Nat → Nat} {n s : Nat} {h : MH} {d : Nat} {Q : Option MV → MH → Prop} (hr : zRf h) (hk : kC f n h) (hs : s < n) (h1 : h.1 2 1 = nI n) (h2 : h.1 2 2 = nI s) (h4 : h.1 2 4 = nI s) (hd : 1 ≤ d) (kk : ∀ h', zRf h' → zF (fun a => a ≠ 2) h h' → h'.1 2 6 = h.1 2 6 → h'.1 2 7 = h.1 2 7 → h'.1 2 1 = nI n → h'.1 2 2 = nI (kE kDig f n s) → h'.1 2 3 = nI (if kE kDig f n s - s ≤ 3 then 2 else 4) → h'.1 2 4 = nI s → h'.1 2 5 = nI (kV f s (kE kDig f n s - s)) → Q none h') : Con mX6_advanceDigits d 0 0 [.inr (.inr 2)] h Q := by
  have h40 := hk.1
  refine q_X6_advanceDigits hr ?_
  have L : ∀ m q, q + m = n → s ≤ q → kE kDig f n q = kE kDig f n s → ∀ g : MH, zRf g → zF (fun a => a ≠ 2) h g → g.1 2 6 = h.1 2 6 → g.1 2 7 = h.1 2 7 → g.1 2 1 = nI n → g.1 2 2 = nI q → g.1 2 4 = nI s → g.1 2 5 = nI (kV f s (q - s)) → J mX6_advanceDigits d 0 0 Q 0 0 5 [some (.inr (.inr 2))] [] g := by
    intro m
    induction m with
    | zero =>
      intro q hq hsq he g rg fg g6 g7 g1 g2 g4 g5
      have hle : g.1 2 1 ≤ g.1 2 2 := by rw [g1, g2]; exact nI_le (by omega) (by omega)
      have hend : kE kDig f n s = q := by rw [← he]; exact kE_stop (by omega)
      have fin : ∀ x : Nat, x = (if kE kDig f n s - s ≤ 3 then 2 else 4) → Q none (zsI g 2 3 (nI x)) := by
        intro x hx
        refine kk _ rg (fg.trans (zF_I _ _ _ (by omega))) ?_ ?_ ?_ ?_ ?_ ?_ ?_
        · rw [zI_k _ _ _ (by decide)]; exact g6
        · rw [zI_k _ _ _ (by decide)]; exact g7
        · rw [zI_k _ _ _ (by decide)]; exact g1
        · rw [zI_k _ _ _ (by decide), hend]; exact g2
        · rw [zI_s, hx]
        · rw [zI_k _ _ _ (by decide)]; exact g4
        · rw [zI_k _ _ _ (by decide), hend]; exact g5
      refine q_X6_advanceDigits_5 (d1' := 0) rg (by omega) (fun p => absurd hle p) (fun _ p => ?_) (fun _ p => ?_) (fun p => absurd hle p)
      · rw [g2, g4, pk_sub hsq, nI_leI (by omega) (by omega)] at p
        exact fin 2 (by rw [hend, if_pos p])
      · rw [g2, g4, pk_sub hsq, nI_leI (by omega) (by omega)] at p
        exact fin 4 (by rw [hend, if_neg p])
    | succ m ih =>
      intro q hq hsq he g rg fg g6 g7 g1 g2 g4 g5
      have hnle : ¬ g.1 2 1 ≤ g.1 2 2 := by rw [g1, g2, nI_leI (by omega) (by omega)]; omega
      have hb : g.1 3 (g.1 2 2).toNatClampNeg = nI (f q) ∧ f q < 256 := by
        rw [g2, nI_clamp (by omega), fg.i (by decide)]
        exact hk.2 q (by omega)
      have hv : vp_in (g.1 2 2) 400 := by rw [g2]; exact vp_in_nI (by omega) (by omega)
      refine q_X6_advanceDigits_5 (d1' := 0) rg (by omega) (fun _ => hv) (fun p => absurd p hnle) (fun p => absurd p hnle) (fun _ => ?_)
      rw [hb.1]
      refine c_dig hb.2 ?_
      by_cases hg : kDig (f q) = true
      · rw [if_pos hg]
        have hg2 := kDig_t.mp hg
        have hstep := kE_go (g := kDig) (show q < n by omega) hg
        refine q_X6_advanceDigits_28 rg (fun _ _ => hv) (fun p => absurd p (by decide)) (fun p => absurd p (by decide)) (fun _ p => ?_) (fun _ p => ?_)
        · rw [g2, g4, pk_sub hsq, nI_leI (by omega) (by omega)] at p
          rw [g2, nI_add]
          refine ih (q + 1) (by omega) (by omega) (by rw [← hstep]; exact he) _ rg (fg.trans (zF_I _ _ _ (by omega))) ?_ ?_ ?_ ?_ ?_ ?_
          · rw [zI_k _ _ _ (by decide)]; exact g6
          · rw [zI_k _ _ _ (by decide)]; exact g7
          · rw [zI_k _ _ _ (by decide)]; exact g1
          · rw [zI_s]
          · rw [zI_k _ _ _ (by decide)]; exact g4
          · rw [zI_k _ _ _ (by decide), g5, show q + 1 - s = (q - s) + 1 by omega]
            show _ = nI (if q - s < 3 then _ else _)
            rw [if_neg (by omega)]
        · rw [g2, g4, pk_sub hsq, nI_leI (by omega) (by omega)] at p
          rw [hb.1, g5, pk_mul, nI_add, pk_sub (by omega)]
          rw [zI_k g 2 _ (show 2 ≠ 5 by decide), g2, nI_add]
          refine ih (q + 1) (by omega) (by omega) (by rw [← hstep]; exact he) _ rg (fg.trans ((zF_I _ _ _ (by omega)).trans (zF_I _ _ _ (by omega)))) ?_ ?_ ?_ ?_ ?_ ?_
          · rw [zI_k _ _ _ (by decide), zI_k _ _ _ (by decide)]; exact g6
          · rw [zI_k _ _ _ (by decide), zI_k _ _ _ (by decide)]; exact g7
          · rw [zI_k _ _ _ (by decide), zI_k _ _ _ (by decide)]; exact g1
          · rw [zI_s]
          · rw [zI_k _ _ _ (by decide), zI_k _ _ _ (by decide)]; exact g4
          · rw [zI_k _ _ _ (by decide), zI_s, show q + 1 - s = (q - s) + 1 by omega]
            show _ = nI (if q - s < 3 then kV f s (q - s) * 10 + (f (s + (q - s)) - 48) else _)
            rw [if_pos (by omega), show s + (q - s) = q by omega, show kV f s (q - s) * 10 + f q - 48 = kV f s (q - s) * 10 + (f q - 48) by omega]
      · rw [if_neg hg]
        have hend : kE kDig f n s = q := by rw [← he]; exact kE_stop (fun z => hg z.2)
        have fin : ∀ x : Nat, x = (if kE kDig f n s - s ≤ 3 then 2 else 4) → Q none (zsI g 2 3 (nI x)) := by
          intro x hx
          refine kk _ rg (fg.trans (zF_I _ _ _ (by omega))) ?_ ?_ ?_ ?_ ?_ ?_ ?_
          · rw [zI_k _ _ _ (by decide)]; exact g6
          · rw [zI_k _ _ _ (by decide)]; exact g7
          · rw [zI_k _ _ _ (by decide)]; exact g1
          · rw [zI_k _ _ _ (by decide), hend]; exact g2
          · rw [zI_s, hx]
          · rw [zI_k _ _ _ (by decide)]; exact g4
          · rw [zI_k _ _ _ (by decide), hend]; exact g5
        refine q_X6_advanceDigits_28 rg (fun p => absurd (show nI 0 = 0 from rfl) p) (fun _ p => ?_) (fun _ p => ?_) (fun p => absurd (show nI 0 = 0 from rfl) p) (fun p => absurd (show nI 0 = 0 from rfl) p)
        · rw [g2, g4, pk_sub hsq, nI_leI (by omega) (by omega)] at p
          exact fin 2 (by rw [hend, if_pos p])
        · rw [g2, g4, pk_sub hsq, nI_leI (by omega) (by omega)] at p
          exact fin 4 (by rw [hend, if_neg p])
  refine L (n - s) s (by omega) (Nat.le_refl _) rfl _ hr (zF_I _ _ _ (by omega)) (zI_k _ _ _ (by decide)) (zI_k _ _ _ (by decide)) ?_ ?_ ?_ ?_
  · rw [zI_k _ _ _ (by decide)]; exact h1
  · rw [zI_k _ _ _ (by decide)]; exact h2
  · rw [zI_k _ _ _ (by decide)]; exact h4
  · rw [zI_s, Nat.sub_self]; rfl
