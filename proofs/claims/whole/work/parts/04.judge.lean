/-! ===== THE JUDGEMENT: a frame of a method over the mini heap ===== -/
def zFx (M : MM) (p : Program) (s : State) (m : MethodId) (args : Array Value) (meth : Method) (c : Code) : Prop :=
  p.tables.exec = Jvm.exec ∧ c.code = M.2.1 ∧ c.maxLocals = M.2.2.1 ∧ meth.sig.returnType = M.2.2.2 ∧ s.vm.findClass M.1.cls = some m.cls ∧ (∀ w ∈ zwd M, w.before args s = true) ∧ meth.locks = false ∧ meth.name = M.1.name
def zWd (D : va_G) (cA : Nat → ClassId) (ad adV : Nat → Nat) (A : Nat → Prop) (s : State) (H : Heap) (locs : List Loc) (h : MH) : Prop :=
  (∀ q, s.heap.size ≤ q → A q) ∧ va_S A s.heap H locs ∧ va_P D vwCl (zws cA ad h) H ∧ va_D A (zws cA ad h) ∧ va_K D vwCl (ztys cA) s ∧ zEv ad adV A s s.heap
def zEx (mc : Nat) (ad ad' : Nat → Nat) (h h' : MH) : Prop := (∀ i, i ≤ h.2.2.2 ∨ 1000 ≤ i → ad' i = ad i) ∧ (mc = 0 → ad' = ad ∧ h'.2.2.2 = h.2.2.2) ∧ h.2.2.2 ≤ h'.2.2.2
def zEnd (mc : Nat) (D : va_G) (cA : Nat → ClassId) (ad : Nat → Nat) (h : MH) (A : Nat → Prop) (Q : Option MV → MH → Prop) (s : State) (o : Outcome) (t : State) : Prop :=
  (∃ (r : Option MV) (ad' : Nat → Nat) (h' : MH), o = .returned (r.map (zva ad')) ∧ Q r h' ∧ zEx mc ad ad' h h' ∧ va_P D vwCl (zws cA ad' h') t.heap ∧ va_K D vwCl (ztys cA) t ∧ va_D A (zws cA ad' h')) ∧ va_F A s t
def J (M : MM) (d mc ms : Nat) (Q : Option MV → MH → Prop) (cells slots pc : Nat) (ls : List (Option MV)) (st : List MV) (h : MH) : Prop :=
  ∀ (p : Program) (l : Launch) (e : Env) (s : State) (m : MethodId) (args : Array Value) (below : List Frame) (meth : Method) (c : Code) (D : va_G) (cA : Nat → ClassId) (ad adV : Nat → Nat) (A : Nat → Prop) (H : Heap) (locs : List Loc) (lsA : Array Slot) (ad0 : Nat → Nat) (h0 : MH),
    zFx M p s m args meth c → zWd D cA ad adV A s H locs h → lv_has lsA M.2.2.1 (zlv ad ls) → zEx mc ad0 ad h0 h →
    W p l e (zrm d mc ms) s m args below meth c H locs cells slots (MQ below (fun _ => zEnd mc D cA ad0 h0 A Q) args s mc ms A) (F0 m pc lsA (st.map (zva ad)))
def Con (M : MM) (d mc ms : Nat) (av : List MV) (h : MH) (Q : Option MV → MH → Prop) : Prop :=
  ∀ (l : Launch) (D : va_G) (cA : Nat → ClassId) (ad adV : Nat → Nat) (sz : Nat),
    Met l M.1 (zwd M) (zrm d mc ms) (va_Pc (av.map (zva ad)) (fun U => U.heap.size = sz ∧ va_P D vwCl (zws cA ad h) U.heap ∧ va_K D vwCl (ztys cA) U ∧ va_D (fun _ => True) (zws cA ad h) ∧ zEv ad adV (va_A (zws cA ad h) sz) U U.heap))
      (fun _ => zEnd mc D cA ad h (va_A (zws cA ad h) sz) Q) mc ms (va_A (zws cA ad h) sz)
/-- the locals at a method's entry -/
def zsl : List MV → List (Option MV)
  | [] => []
  | .inr (.inl x) :: r => some (.inr (.inl x)) :: none :: zsl r
  | v :: r => some v :: zsl r
theorem zva_cat (ad : Nat → Nat) (v : MV) : (zva ad v).category = match v with | .inr (.inl _) => 2 | _ => 1 := by
  match v with
  | .inl x => rfl
  | .inr (.inl x) => rfl
  | .inr (.inr r) =>
    show (va_rf (zrf ad r)).category = 1
    cases zrf ad r <;> rfl
theorem zsl_at (ad : Nat → Nat) : ∀ (av : List MV) (i : Nat) (v : MV), (zsl av)[i]? = some (some v) → (lg_sl (av.map (zva ad)))[i]? = some (.val (zva ad v))
  | [], i, v, h => by simp [zsl] at h
  | .inl x :: r, i, v, h => by
    have e : lg_sl ((Sum.inl x :: r).map (zva ad)) = .val (.int x) :: lg_sl (r.map (zva ad)) := rfl
    rw [e]
    match i with
    | 0 => simp [zsl] at h; subst h; rfl
    | i + 1 =>
      rw [List.getElem?_cons_succ]
      exact zsl_at ad r i v (by simpa [zsl] using h)
  | .inr (.inl x) :: r, i, v, h => by
    have e : lg_sl ((Sum.inr (Sum.inl x) :: r).map (zva ad)) = .val (.long x) :: .second :: lg_sl (r.map (zva ad)) := rfl
    rw [e]
    match i with
    | 0 => simp [zsl] at h; subst h; rfl
    | 1 => simp [zsl] at h
    | i + 2 =>
      rw [List.getElem?_cons_succ, List.getElem?_cons_succ]
      exact zsl_at ad r i v (by simpa [zsl] using h)
  | .inr (.inr x) :: r, i, v, h => by
    have e : lg_sl ((Sum.inr (Sum.inr x) :: r).map (zva ad)) = .val (zva ad (.inr (.inr x))) :: lg_sl (r.map (zva ad)) := by
      show ((if (zva ad (.inr (.inr x))).category = 2 then [Slot.val (zva ad (.inr (.inr x))), Slot.second] else [Slot.val (zva ad (.inr (.inr x)))]) ++ lg_sl (r.map (zva ad)) : List Slot) = _
      rw [zva_cat]
      rfl
    rw [e]
    match i with
    | 0 => simp [zsl] at h; subst h; rfl
    | i + 1 =>
      rw [List.getElem?_cons_succ]
      exact zsl_at ad r i v (by simpa [zsl] using h)
theorem zsl_len (ad : Nat → Nat) : ∀ (av : List MV), (lg_sl (av.map (zva ad))).length = (zsl av).length
  | [] => rfl
  | .inl x :: r => by
    have e : lg_sl ((Sum.inl x :: r).map (zva ad)) = .val (.int x) :: lg_sl (r.map (zva ad)) := rfl
    rw [e, List.length_cons, zsl_len ad r]
    rfl
  | .inr (.inl x) :: r => by
    have e : lg_sl ((Sum.inr (Sum.inl x) :: r).map (zva ad)) = .val (.long x) :: .second :: lg_sl (r.map (zva ad)) := rfl
    rw [e, List.length_cons, List.length_cons, zsl_len ad r]
    rfl
  | .inr (.inr x) :: r => by
    have e : lg_sl ((Sum.inr (Sum.inr x) :: r).map (zva ad)) = .val (zva ad (.inr (.inr x))) :: lg_sl (r.map (zva ad)) := by
      show ((if (zva ad (.inr (.inr x))).category = 2 then [Slot.val (zva ad (.inr (.inr x))), Slot.second] else [Slot.val (zva ad (.inr (.inr x)))]) ++ lg_sl (r.map (zva ad)) : List Slot) = _
      rw [zva_cat]
      rfl
    rw [e, List.length_cons, zsl_len ad r]
    rfl
def zin (av : List MV) (n : Nat) : List (Option MV) := zsl av ++ List.replicate (n - (zsl av).length) none
theorem Con.intro {M : MM} {d mc ms : Nat} {av : List MV} {h : MH} {Q : Option MV → MH → Prop} (hy : plainName M.1.cls = true) (hn : (zsl av).length ≤ M.2.2.1) (k : J M d mc ms Q 0 0 0 (zin av M.2.2.1) [] h) : Con M d mc ms av h Q := by
  intro l D cA ad adV sz
  refine Met.ofW (cc := M.2.1) (maxL := M.2.2.1) (ret := M.2.2.2) (ws' := zgw) hy rfl ?_
  intro p e s m args below meth c s₁ B hml hv
  obtain ⟨rfl, hsz, hP, hK, hD0, hE⟩ := hv
  subst hsz
  have hD := hD0.self (sz := s.heap.size)
  rw [lg_entry_eq]
  refine k p l e s m _ below meth c D cA ad adV _ s.heap [] _ ad h ⟨B.exec, B.bytes, hml, B.returns, findClass_of_methodNamed B.named, atoms_spec (ws := zwd M) B.pre, B.notSynchronized, (name_of_methodNamed B.named B.method).1⟩ ⟨fun q hq => Or.inr hq, va_S.rf, hP, hD, hK, hE⟩ ?_ ⟨fun _ _ => rfl, fun _ => ⟨rfl, rfl⟩, Nat.le_refl _⟩
  have hl := lv_entry (av.map (zva ad)) (n := M.2.2.1) (by rw [zsl_len]; exact hn)
  refine ⟨hl.1, hl.2.1, ?_⟩
  intro q hq
  obtain ⟨v, h1, h2⟩ := zlv_mem.mp hq
  have h0 : (zsl av)[q.1]? = some (some v) := by
    unfold zin at h1
    by_cases hz : q.1 < (zsl av).length
    · rw [List.getElem?_append_left hz] at h1
      exact h1
    · rw [List.getElem?_append_right (by omega)] at h1
      have h9 := List.mem_of_getElem? h1
      rw [List.mem_replicate] at h9
      cases h9.2
  have h3 := zsl_at ad av q.1 v h0
  rw [h2]
  have hlt := (List.getElem?_eq_some_iff.mp h3).1
  rw [List.getElem?_toArray, List.getElem?_append_left hlt]
  exact h3
theorem zva_ref (ad : Nat → Nat) (x : Nat) : zva ad (.inr (.inr x)) = .null ∨ ∃ a, zva ad (.inr (.inr x)) = .ref a := by
  show va_rf (zrf ad x) = .null ∨ ∃ a, va_rf (zrf ad x) = .ref a
  cases zrf ad x with
  | none => exact Or.inl rfl
  | some a => exact Or.inr ⟨a, rfl⟩
section JR
variable {M : MM} {d mc ms : Nat} {Q : Option MV → MH → Prop} {cells slots pc : Nat} {ls : List (Option MV)} {st : List MV} {h : MH}
theorem J_iret {x : Int32} {ty : FieldType} (hdg : decode M.2.1 pc = .ok (.ireturn, 1)) (hr : M.2.2.2 = some ty) (hn : narrow ty (.int x) = .int x) (hc : cells ≤ mc) (hs : slots ≤ ms) (hq : Q (some (.inl x)) h) : J M d mc ms Q cells slots pc ls [.inl x] h := by
  intro p l e s m args below meth c D cA ad adV A H locs lsA ad0 h0 F X hl hE
  refine W.widen hc hs ?_
  exact W.zret (ty := ty) (v := x) F.1 F.2.1 (F.2.2.2.1.trans hr) hn (fun t ht hW => ⟨⟨some (.inl x), ad, h, rfl, hq, hE, by rw [ht]; exact X.2.2.1, va_K.moved hW.alike X.2.2.2.2.1, X.2.2.2.1⟩, X.2.1.F ht⟩) X.2.1.2.2 hdg F.2.2.2.2.2.2.1
theorem J_lret {x : Int64} (hdg : decode M.2.1 pc = .ok (.lreturn, 1)) (hr : M.2.2.2 = some .long) (hc : cells ≤ mc) (hs : slots ≤ ms) (hq : Q (some (.inr (.inl x))) h) : J M d mc ms Q cells slots pc ls [.inr (.inl x)] h := by
  intro p l e s m args below meth c D cA ad adV A H locs lsA ad0 h0 F X hl hE
  refine W.widen hc hs ?_
  exact W.lret (v := x) F.1 F.2.1 (F.2.2.2.1.trans hr) (fun t ht hW => ⟨⟨some (.inr (.inl x)), ad, h, rfl, hq, hE, by rw [ht]; exact X.2.2.1, va_K.moved hW.alike X.2.2.2.2.1, X.2.2.2.1⟩, X.2.1.F ht⟩) X.2.1.2.2 hdg F.2.2.2.2.2.2.1
theorem J_vret (hdg : decode M.2.1 pc = .ok (.return_, 1)) (hr : M.2.2.2 = none) (hc : cells ≤ mc) (hs : slots ≤ ms) (hq : Q none h) : J M d mc ms Q cells slots pc ls [] h := by
  intro p l e s m args below meth c D cA ad adV A H locs lsA ad0 h0 F X hl hE
  refine W.widen hc hs ?_
  exact W.vret F.1 F.2.1 (F.2.2.2.1.trans hr) (fun t ht hW => ⟨⟨none, ad, h, rfl, hq, hE, by rw [ht]; exact X.2.2.1, va_K.moved hW.alike X.2.2.2.2.1, X.2.2.2.1⟩, X.2.1.F ht⟩) X.2.1.2.2 hdg F.2.2.2.2.2.2.1
theorem J_aret {x : Nat} {C : String} (hdg : decode M.2.1 pc = .ok (.areturn, 1)) (hr : M.2.2.2 = some (.object C)) (hc : cells ≤ mc) (hs : slots ≤ ms) (hq : Q (some (.inr (.inr x))) h) : J M d mc ms Q cells slots pc ls [.inr (.inr x)] h := by
  intro p l e s m args below meth c D cA ad adV A H locs lsA ad0 h0 F X hl hE
  refine W.widen hc hs ?_
  exact W.aret (v := zva ad (.inr (.inr x))) F.1 F.2.1 (F.2.2.2.1.trans hr) (Or.inl ⟨C, rfl⟩) (zva_ref ad x) (fun t ht hW => ⟨⟨some (.inr (.inr x)), ad, h, rfl, hq, hE, by rw [ht]; exact X.2.2.1, va_K.moved hW.alike X.2.2.2.2.1, X.2.2.2.1⟩, X.2.1.F ht⟩) X.2.1.2.2 hdg F.2.2.2.2.2.2.1
end JR
