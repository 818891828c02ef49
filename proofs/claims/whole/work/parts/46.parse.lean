/-! ===== the pure parser ===== -/
def pFl (t : TK) (k : Nat) : Nat × Nat := (if t.1 = 15 then 1 else k, t.2.1)
def kNx (f : Nat → Nat) (n : Nat) (t : TK) : TK := kTk f n t.2.2.1
def pNum (t : TK) (lo hi : Nat) : (Nat × Nat) ⊕ Nat := if t.1 = 12 then (if lo ≤ t.2.2.2 ∧ t.2.2.2 ≤ hi then .inr t.2.2.2 else .inl (pFl t 3)) else .inl (pFl t 2)
def kU {α : Type} (g : Nat → α) (i : Nat) (v : α) : Nat → α := fun j => if j = i then v else g j
/-- pieces: fuel, so many, minutes, the token at hand -/
def pPcs (f : Nat → Nat) (n : Nat) : Nat → Nat → (Nat → Nat) → TK → (Nat × Nat) ⊕ (Nat × (Nat → Nat) × TK)
  | 0, _, _, t => .inl (pFl t 4)
  | m + 1, i, ms, t => if t.1 = 12 then (if 1 ≤ t.2.2.2 ∧ t.2.2.2 ≤ 60 then (if i < 6 then pPcs f n m (i + 1) (kU ms i t.2.2.2) (kNx f n t) else .inl (pFl t 4)) else .inl (pFl t 3)) else if i = 0 then .inl (pFl t 2) else .inr (i, ms, t)
/-- an optional number behind the word w -/
def pOpt (f : Nat → Nat) (n : Nat) (t : TK) (w lo hi dflt : Nat) : (Nat × Nat) ⊕ (Nat × TK) := if t.1 = w then (match pNum (kNx f n t) lo hi with
    | .inl e => .inl e
    | .inr v => .inr (v, kNx f n (kNx f n t))) else .inr (dflt, t)
def cAdd (C : CE) (k : Nat) (ms : Nat → Nat) (w d : Nat) : CE := (C.1 + 1, kU C.2.1 C.1 k, kU C.2.2.1 C.1 ms, kU C.2.2.2.1 C.1 w, kU C.2.2.2.2 C.1 d)
def pLn (f : Nat → Nat) (n : Nat) (t : TK) (C : CE) : (Nat × Nat) ⊕ (CE × TK) :=
  if t.1 = 0 then (if C.1 < 8 then (match pPcs f n 8 0 (fun _ => 0) (kNx f n t) with
    | .inl e => .inl e
    | .inr (k, ms, t1) => match pOpt f n t1 1 1 999 60 with
      | .inl e => .inl e
      | .inr (w, t2) => match pOpt f n t2 2 0 50 0 with
        | .inl e => .inl e
        | .inr (d, t3) => if t3.1 = 13 then .inr (cAdd C k ms w d, t3) else .inl (pFl t3 2)) else .inl (pFl t 4)) else .inl (pFl t 2)
def pCel (f : Nat → Nat) (n : Nat) : Nat → TK → CE → (Nat × Nat) ⊕ CE
  | 0, t, _ => .inl (pFl t 4)
  | m + 1, t, C => if t.1 = 14 then .inr C else match pLn f n t C with
    | .inl e => .inl e
    | .inr (C', t3) => pCel f n m (kNx f n t3) C'
def pAct (f : Nat → Nat) (n : Nat) (t : TK) (na : Nat) : (Nat × Nat) ⊕ ((Nat × Nat × Nat) × TK) :=
  if 6 ≤ t.1 ∧ t.1 ≤ 10 then (if na < 40 then (if t.1 = 10 then .inr ((4, 0, 0), kNx f n t) else match pNum (kNx f n t) 0 7 with
    | .inl e => .inl e
    | .inr a => if t.1 = 9 then (match pNum (kNx f n (kNx f n t)) 0 7 with
        | .inl e => .inl e
        | .inr b => .inr ((3, a, b), kNx f n (kNx f n (kNx f n t)))) else .inr ((t.1 - 6, a, 0), kNx f n (kNx f n t))) else .inl (pFl t 4)) else .inl (pFl t 2)
def pAddR (P : PL) (b : Nat) : PL := (P.1 + 1, P.2.1, kU P.2.2.1 P.1 b, kU P.2.2.2.1 P.1 P.2.1, P.2.2.2.2)
def pAddA (P : PL) (a : Nat × Nat × Nat) : PL := (P.1, P.2.1 + 1, P.2.2.1, kU P.2.2.2.1 (P.1 - 1) (P.2.1 + 1), kU P.2.2.2.2 P.2.1 a)
def pActs (f : Nat → Nat) (n : Nat) : Nat → TK → PL → (Nat × Nat) ⊕ (PL × TK)
  | 0, t, _ => .inl (pFl t 4)
  | m + 1, t, P => match pAct f n t P.2.1 with
    | .inl e => .inl e
    | .inr (a, t1) => if t1.1 = 5 then pActs f n m (kNx f n t1) (pAddA P a) else if t1.1 = 13 then .inr (pAddA P a, t1) else .inl (pFl t1 2)
def pRu (f : Nat → Nat) (n : Nat) (t : TK) (P : PL) : (Nat × Nat) ⊕ (PL × TK) :=
  if t.1 = 4 then (if P.1 < 20 then (match pNum (kNx f n t) 0 7 with
    | .inl e => .inl e
    | .inr b => pActs f n 41 (kNx f n (kNx f n t)) (pAddR P b)) else .inl (pFl t 4))
  else if t.1 = 3 then (if P.1 < 20 then pActs f n 41 (kNx f n t) (pAddR P 8) else .inl (pFl t 4)) else .inl (pFl t 2)
def pPl (f : Nat → Nat) (n : Nat) : Nat → TK → PL → (Nat × Nat) ⊕ PL
  | 0, t, _ => .inl (pFl t 4)
  | m + 1, t, P => if t.1 = 14 then .inr P else match pRu f n t P with
    | .inl e => .inl e
    | .inr (P', t3) => pPl f n m (kNx f n t3) P'
/-! token facts -/
theorem kT1_e (f : Nat → Nat) {n s : Nat} (h : s ≤ n) (hn : n ≤ 400) : (kT1 f n s).2.1 = s ∧ s ≤ (kT1 f n s).2.2.1 ∧ (kT1 f n s).2.2.1 ≤ n ∧ (kT1 f n s).1 ≤ 15 := by
  unfold kT1
  by_cases q1 : n ≤ s
  · rw [if_pos q1]; exact ⟨rfl, Nat.le_refl _, h, show (14 : Nat) ≤ 15 by decide⟩
  · rw [if_neg q1]
    by_cases q2 : kLet (f s) = true
    · rw [if_pos q2]
      exact ⟨rfl, kE_ge _ _ _ _, kE_le _ _ h, Nat.le_trans (kKey_le _ _ _) (by decide)⟩
    · rw [if_neg q2]
      by_cases q3 : kDig (f s) = true
      · rw [if_pos q3]
        exact ⟨rfl, kE_ge _ _ _ _, kE_le _ _ h, by show (if _ then _ else _) ≤ 15; split <;> decide⟩
      · rw [if_neg q3]
        exact ⟨rfl, Nat.le_succ _, by show s + 1 ≤ n; omega, by show (if _ then _ else _) ≤ 15; split <;> decide⟩
theorem kTk_e (f : Nat → Nat) {n p : Nat} (h : p ≤ n) (hn : n ≤ 400) : (kTk f n p).2.1 ≤ n ∧ (kTk f n p).2.1 ≤ (kTk f n p).2.2.1 ∧ (kTk f n p).2.2.1 ≤ n ∧ (kTk f n p).1 ≤ 15 := by
  have h1 := kE_le kSpc f h
  have h2 := kT1_e f h1 hn
  unfold kTk
  rw [h2.1]
  exact ⟨h1, h2.2⟩
theorem kV_le (f : Nat → Nat) (s : Nat) : ∀ m, (∀ i, i < m → f (s + i) ≤ 57) → kV f s m ≤ 10 ^ m - 1
  | 0, _ => Nat.zero_le _
  | m + 1, h => by
    have h1 := kV_le f s m (fun i hi => h i (by omega))
    have h2 := h m (by omega)
    have h3 : 10 ^ (m + 1) = 10 ^ m * 10 := rfl
    have h4 : 0 < 10 ^ m := Nat.pow_pos (by decide)
    show (if m < 3 then kV f s m * 10 + (f (s + m) - 48) else kV f s m) ≤ _
    split <;> omega
