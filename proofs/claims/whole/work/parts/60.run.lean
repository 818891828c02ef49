/-! ===== one run, pure ===== -/
/-- rest, flames, own, chains, state (0 stands, 1 ended, 2 joined), ended at (+1; 0: not) -/
abbrev RC : Type := (Nat → Nat) × (Nat → Nat) × (Nat → Nat) × (Nat → List Nat) × (Nat → Nat) × (Nat → Nat)
/-- bells, in vain, rules done, lit, now -/
abbrev RT : Type := List Nat × (Nat → Bool) × Int32 × Nat × Nat
abbrev RS : Type := RC × RT
def rVn (k : Nat) (R : RS) : RS := (R.1, (R.2.1, kU R.2.2.1 k true, R.2.2.2))
def rRing (R : RS) : RS := (R.1, (R.2.1 ++ [R.2.2.2.2.2], R.2.2))
def rJok (n : Nat) (R : RS) (a b : Nat) : Prop := a < n ∧ R.1.2.2.2.2.1 a = 0 ∧ b < n ∧ R.1.2.2.2.2.1 b = 0 ∧ a ≠ b ∧ R.1.2.1 a = 0 ∧ R.1.2.1 b = 0
def rJoin (R : RS) (a b : Nat) : RS := ((kU (kU R.1.1 a (R.1.1 a + R.1.1 b)) b 0, R.1.2.1, R.1.2.2.1, kU R.1.2.2.2.1 a (R.1.2.2.2.1 a ++ R.1.2.2.2.1 b), kU R.1.2.2.2.2.1 b 2, R.1.2.2.2.2.2), R.2)
def rGive (R : RS) (a v : Nat) : RS := ((R.1.1, kU R.1.2.1 a v, R.1.2.2), (R.2.1, R.2.2.1, R.2.2.2.1, R.2.2.2.2.1 + (v - R.1.2.1 a), R.2.2.2.2.2))
def rGok (n : Nat) (R : RS) (k a : Nat) : Prop := a < n ∧ R.1.2.2.2.2.1 a = 0 ∧ (if k = 2 then 0 < R.1.2.1 a else R.1.2.1 a < 2)
noncomputable def rAct (n k : Nat) (a : Nat × Nat × Nat) (R : RS) : RS :=
  if a.1 = 4 then rRing R
  else if a.1 = 3 then (if a.2.1 < n ∧ R.1.2.2.2.2.1 a.2.1 = 0 ∧ a.2.2 < n ∧ R.1.2.2.2.2.1 a.2.2 = 0 ∧ a.2.1 ≠ a.2.2 ∧ R.1.2.1 a.2.1 = 0 ∧ R.1.2.1 a.2.2 = 0 then rJoin R a.2.1 a.2.2 else rVn k R)
  else if a.2.1 < n ∧ R.1.2.2.2.2.1 a.2.1 = 0 ∧ (if a.1 = 2 then 0 < R.1.2.1 a.2.1 else R.1.2.1 a.2.1 < 2) then rGive R a.2.1 (if a.1 = 2 then 0 else if a.1 = 1 then 2 else R.1.2.1 a.2.1 + 1) else rVn k R
noncomputable def rActs (P : PL) (n lo : Nat) : Nat → Nat → RS → RS
  | 0, _, R => R
  | m + 1, k, R => rActs P n lo m (k + 1) (if k = lo then R else rAct n k (P.2.2.2.2 k) R)
def rBit (r : Nat) : Int32 := (nI 1) <<< (nI r &&& 31)
def rDone (R : RS) (r : Nat) : RS := (R.1, (R.2.1, R.2.2.1, R.2.2.2.1 ||| rBit r, R.2.2.2.2))
noncomputable def rRules (P : PL) (n lo c : Nat) : Nat → Nat → RS → RS
  | 0, _, R => R
  | m + 1, r, R => rRules P n lo c m (r + 1) (if P.2.2.1 r = c then rActs P n lo (P.2.2.2.1 r - pFr P r) (pFr P r) (rDone R r) else R)
def oMin (o : Option Nat) (q : Nat) : Nat := match o with
  | none => q
  | some v => min q v
def rNx (K : RC) : Nat → Nat → Option Nat → Option Nat
  | 0, _, o => o
  | m + 1, c, o => rNx K m (c + 1) (if 0 < K.2.1 c then some (oMin o (K.1 c / K.2.1 c)) else o)
def rOwn : List Nat → Nat → (Nat → Nat) → (Nat → Nat)
  | [], _, w => w
  | c :: cs, a, w => rOwn cs (a - min (w c) a) (kU w c (w c - min (w c) a))
def rBurn1 (s c : Nat) (K : RC) : RC := if 0 < K.2.1 c then (kU K.1 c (K.1 c - s * K.2.1 c), K.2.1, rOwn (K.2.2.2.1 c) (s * K.2.1 c) K.2.2.1, K.2.2.2) else K
def rBurn (s : Nat) : Nat → Nat → RC → RC
  | 0, _, K => K
  | m + 1, c, K => rBurn s m (c + 1) (rBurn1 s c K)
def rE (K : RC) (c : Nat) : Bool := decide (0 < K.2.1 c) && decide (K.1 c = 0)
/-- those before i are put away -/
def rAway (K : RC) (now i : Nat) : RC := (K.1, fun c => if c < i ∧ rE K c = true then 0 else K.2.1 c, K.2.2.1, K.2.2.2.1, fun c => if c < i ∧ rE K c = true then 1 else K.2.2.2.2.1 c, fun c => if c < i ∧ rE K c = true then now + 1 else K.2.2.2.2.2 c)
noncomputable def rEnds (P : PL) (n lo : Nat) (E : Nat → Bool) : Nat → Nat → RS → RS
  | 0, _, R => R
  | m + 1, c, R => rEnds P n lo E m (c + 1) (if E c = true then rRules P n lo c P.1 0 R else R)
def rTick (s : Nat) (T : RT) : RT := (T.1, T.2.1, T.2.2.1, T.2.2.2.1, T.2.2.2.2 + s)
/-- one turn of so long -/
noncomputable def rTurn (P : PL) (n lo s : Nat) (R : RS) : RS :=
  rEnds P n lo (rE (rBurn s n 0 R.1)) n 0 (rAway (rBurn s n 0 R.1) (R.2.2.2.2.2 + s) n, rTick s R.2)
noncomputable def rLoop (P : PL) (n lo u : Nat) : Nat → RS → RS
  | 0, R => R
  | m + 1, R => match rNx R.1 n 0 none with
    | none => R
    | some s => if R.2.2.2.2.2 + s ≤ u then rLoop P n lo u m (rTurn P n lo s R) else (rBurn (u - R.2.2.2.2.2) n 0 R.1, rTick (u - R.2.2.2.2.2) R.2)
def rStart (f : Nat → Nat) : RS := ((f, fun _ => 0, f, fun c => [c], fun _ => 0, fun _ => 0), ([], fun _ => false, 0, 0, 0))
noncomputable def rPlay (P : PL) (n lo u : Nat) (f : Nat → Nat) : RS := rLoop P n lo u 8 (rRules P n lo 8 P.1 0 (rStart f))
