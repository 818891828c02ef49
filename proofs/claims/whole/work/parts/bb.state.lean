/-! ===== the state that both sides hold ===== -/
abbrev SS : Type := BK × TP × (Int32 × Int32) × RW × (Nat → Option BK)
def iC (im : Nat → Option BK) (h : MH) : Prop := (∀ i, i < 2 → (im i = none → h.2.2.1 46 i = 0) ∧ ∀ B', im i = some B' → (h.2.2.1 46 i = 143 ∨ h.2.2.1 46 i = 174) ∧ h.2.2.1 46 i + 30 ≤ h.2.2.2 ∧ bAt B' h (h.2.2.1 46 i)) ∧ (∀ B0 B1, im 0 = some B0 → im 1 = some B1 → h.2.2.1 46 0 ≠ h.2.2.1 46 1) ∧ h.2.2.2 = 142 + (if (im 0).isSome = true then 31 else 0) + (if (im 1).isSome = true then 31 else 0)
def iM (im : Nat → Option BK) (h : MH) : Prop := ∀ i, i < 2 → (im i = none → h.1 113 i = nI 0) ∧ ∀ B', im i = some B' → h.1 113 i = nI 1 ∧ bIn B' (h.1 112) (722 * (i + 1))
theorem iC.keep {im : Nat → Option BK} {h h' : MH} (q : iC im h) (f : zF (fun a => a = 46 ∨ 142 < a) h h') : iC im h' := by
  have e : h'.2.2.1 46 = h.2.2.1 46 := f.r (Or.inl rfl)
  refine ⟨fun i hi => ?_, ?_, ?_⟩
  · rw [e, f.2]
    refine ⟨(q.1 i hi).1, fun B' hB => ?_⟩
    obtain ⟨q1, q2, q3⟩ := (q.1 i hi).2 B' hB
    exact ⟨q1, q2, q3.keep (fun k hk => f.i (Or.inr (by omega)))⟩
  · rw [e]; exact q.2.1
  · rw [f.2]; exact q.2.2
theorem offC.keep {B : BK} {h h' : MH} (q : offC B h) (e1 : h'.1 58 = h.1 58) (e2 : h'.1 59 = h.1 59) (e3 : h'.1 60 = h.1 60) : offC B h' := by
  unfold offC oRep at q ⊢
  rw [e1, e2, e3]
  exact q
def sO (S : SS) : Prop := bOK S.1 ∧ tOK S.2.1 ∧ rwOK S.2.2.2.1 ∧ ∀ i B', S.2.2.2.2 i = some B' → bOK B'
def sC (S : SS) (h : MH) : Prop := bAt S.1 h 15 ∧ tC S.2.1 h ∧ (h.1 2 6 = S.2.2.1.1 ∧ h.1 2 7 = S.2.2.1.2) ∧ rwC S.2.2.2.1 h ∧ iC S.2.2.2.2 h ∧ offC S.1 h ∧ (wMk S.1.1 false 98 h ∧ wMk S.1.1 true 100 h) ∧ aMk S.1.1 h
def sM (S : SS) (h : MH) : Prop := bIn S.1 (h.1 112) 0 ∧ tM S.2.1 h ∧ (h.1 111 13 = S.2.2.1.1 ∧ h.1 111 14 = S.2.2.1.2) ∧ rwM S.2.2.2.1 h ∧ iM S.2.2.2.2 h ∧ h.1 111 28 = -(nI 1)
theorem tC.keep' {T : TP} {h h' : MH} (q : tC T h) (e1 : h'.1 1 = h.1 1) (e2 : h'.1 3 = h.1 3) : tC T h' := by
  unfold tC
  rw [e1, e2]
  exact q
/-- what the class's state rests on, but for what it has worked out -/
theorem sC.k0 {S : SS} {h h' : MH} (q : sC S h) (f : zF (fun a => a < 4 ∨ (15 ≤ a ∧ a < 47) ∨ (103 ≤ a ∧ a ≤ 110) ∨ 142 < a) h h') (o : offC S.1 h') (w : wMk S.1.1 false 98 h' ∧ wMk S.1.1 true 100 h') (a : aMk S.1.1 h') : sC S h' := by
  obtain ⟨q1, q2, q3, q4, q5, _, _, _⟩ := q
  refine ⟨q1.keep (fun k hk => f.i (by omega)), q2.keep' (f.i (by omega)) (f.i (by omega)), ?_, q4.keep (f.weak (fun a q => by omega)), q5.keep (f.weak (fun a q => by omega)), o, w, a⟩
  rw [f.i (by omega)]
  exact q3
theorem sC.k {S : SS} {h h' : MH} (q : sC S h) (f : zF (fun a => a < 4 ∨ (15 ≤ a ∧ a < 47) ∨ (58 ≤ a ∧ a ≤ 61) ∨ (97 ≤ a ∧ a ≤ 110) ∨ 142 < a) h h') : sC S h' := by
  refine q.k0 (f.weak (fun a q => by omega)) (q.2.2.2.2.2.1.keep (f.i (by omega)) (f.i (by omega)) (f.i (by omega))) ⟨q.2.2.2.2.2.2.1.1.keep (f.i (by omega)) (f.l (by omega)), q.2.2.2.2.2.2.1.2.keep (f.i (by omega)) (f.l (by omega))⟩ (q.2.2.2.2.2.2.2.keep (f.i (by omega)) (f.l (by omega)))
theorem sM.k {S : SS} {h h' : MH} (q : sM S h) (f : zF (fun a => 111 ≤ a ∧ a ≤ 142) h h') : sM S h' := by
  obtain ⟨q1, q2, q3, q4, q5, q6⟩ := q
  refine ⟨by rw [f.i (by omega)]; exact q1, ?_, by rw [f.i (by omega)]; exact q3, q4.keep (f.weak (fun a q => by omega)), fun i hi => ?_, by rw [f.i (by omega)]; exact q6⟩
  · unfold tM
    rw [f.i (a := 111) (by omega), f.i (a := 114) (by omega)]
    exact q2
  · rw [f.i (a := 113) (by omega), f.i (a := 112) (by omega)]
    exact q5 i hi
theorem sM.mk {S : SS} {h h' : MH} (q : sM S h) (f : mK h h') : sM S h' := by
  obtain ⟨q1, q2, q3, q4, q5, q6⟩ := q
  obtain ⟨f0, f5, f13, f14, f28⟩ := f
  refine ⟨by rw [f0.i (by omega)]; exact q1, ⟨f5.trans q2.1, fun k hk => by rw [f0.i (by omega)]; exact q2.2 k hk⟩, ⟨f13.trans q3.1, f14.trans q3.2⟩, q4.keep (f0.weak (fun a q => by omega)), fun i hi => ?_, f28.trans q6⟩
  rw [f0.i (a := 113) (by omega), f0.i (a := 112) (by omega)]
  exact q5 i hi
theorem sC.mk {S : SS} {h h' : MH} (q : sC S h) (f : zF (fun a => a ≤ 110 ∨ 142 < a) h h') : sC S h' := q.k (f.weak (fun a q => by omega))
/-- an operation, on either side: from state S to S', its answer -/
def cOp (M : MM) (mc ms : Nat) (as : List MV) (S S' : SS) (r : MV) : Prop := ∀ (h : MH) (d : Nat) (Q : Option MV → MH → Prop), 50 ≤ d → zRf h → sC S h → sM S h → (∀ h', zRf h' → sO S' → sC S' h' → sM S h' → Q (some r) h') → Con M d mc ms (.inr (.inr 1) :: as) h Q
def mOp (M : MM) (as : List MV) (S S' : SS) (r : MV) : Prop := ∀ (h : MH) (d : Nat) (Q : Option MV → MH → Prop), 50 ≤ d → zRf h → sC S' h → sM S h → (∀ h', zRf h' → sC S' h' → sM S' h' → Q (some r) h') → Con M d 0 0 (.inr (.inr 111) :: as) h Q
