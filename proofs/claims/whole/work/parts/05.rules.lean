/-! ===== rules of the judgement, an instruction each ===== -/
def zk1 (ls : List (Option MV)) (i : Nat) : List (Option MV) := match i with
  | 0 => ls
  | j + 1 => match ls.getD j none with
    | some (.inr (.inl _)) => ls.set j none
    | _ => ls
def zs1 (ls : List (Option MV)) (i : Nat) (v : MV) : List (Option MV) := (zk1 ls i).set i (some v)
def zs2 (ls : List (Option MV)) (i : Nat) (x : Int64) : List (Option MV) := ((zk1 ls i).set i (some (.inr (.inl x)))).set (i + 1) none
theorem zk1_at {ls : List (Option MV)} {i j : Nat} {v : MV} (h : (zk1 ls i)[j]? = some (some v)) : ls[j]? = some (some v) ∧ (j + 1 = i → ∀ x, v ≠ .inr (.inl x)) := by
  cases i with
  | zero => exact ⟨h, fun q => by omega⟩
  | succ i =>
    show ls[j]? = some (some v) ∧ _
    unfold zk1 at h
    dsimp only at h
    split at h
    · rename_i x hx
      by_cases hj : j = i
      · subst hj
        by_cases hl : j < ls.length
        · rw [List.getElem?_set_self hl] at h
          cases h
        · rw [List.getElem?_eq_none (by rw [List.length_set]; omega)] at h
          cases h
      · rw [List.getElem?_set_ne (Ne.symm hj)] at h
        exact ⟨h, fun q => absurd (by omega) hj⟩
    · rename_i hx
      refine ⟨h, fun q x hv => ?_⟩
      have hji : j = i := by omega
      subst hji
      subst hv
      exact hx x (by rw [List.getD_eq_getElem?_getD, h]; rfl)
theorem zlv_1 {ad : Nat → Nat} {ls : List (Option MV)} {lsA : Array Slot} {nL i : Nat} {v : MV} (hl : lv_has lsA nL ((i, zva ad v) :: (zlv ad ls).filter (fun q => !(q.1 == i) && !(q.1 + 1 == i && q.2.category == 2)))) : lv_has lsA nL (zlv ad (zs1 ls i v)) := by
  refine ⟨hl.1, hl.2.1, fun q hq => hl.2.2 q ?_⟩
  obtain ⟨w, h1, h2⟩ := zlv_mem.mp hq
  unfold zs1 at h1
  by_cases hi : q.1 = i
  · have hlt := (List.getElem?_eq_some_iff.mp h1).1
    rw [hi, List.getElem?_set_self (by rw [hi] at hlt; rw [List.length_set] at hlt; exact hlt)] at h1
    cases h1
    exact List.mem_cons.mpr (Or.inl (by rw [← hi, ← h2]))
  · rw [List.getElem?_set_ne (Ne.symm hi)] at h1
    obtain ⟨h3, h4⟩ := zk1_at h1
    refine List.mem_cons.mpr (Or.inr (List.mem_filter.mpr ⟨zlv_mem.mpr ⟨w, h3, h2⟩, ?_⟩))
    have e1 : (q.1 == i) = false := by simpa using hi
    rw [e1]
    by_cases hj : q.1 + 1 = i
    · have hc : (zva ad w).category = 1 := by
        rw [zva_cat]
        match w, h4 hj with
        | .inl _, _ => rfl
        | .inr (.inl x), hx => exact absurd rfl (hx x)
        | .inr (.inr _), _ => rfl
      rw [h2, hc]
      simp
    · have e2 : (q.1 + 1 == i) = false := by simpa using hj
      rw [e2]
      rfl
theorem zlv_2 {ad : Nat → Nat} {ls : List (Option MV)} {lsA : Array Slot} {nL i : Nat} {x : Int64} (hl : lv_has lsA nL ((i, Value.long x) :: (zlv ad ls).filter (fun q => !(q.1 == i) && (!(q.1 == i + 1) && !(q.1 + 1 == i && q.2.category == 2))))) : lv_has lsA nL (zlv ad (zs2 ls i x)) := by
  refine ⟨hl.1, hl.2.1, fun q hq => hl.2.2 q ?_⟩
  obtain ⟨w, h1, h2⟩ := zlv_mem.mp hq
  unfold zs2 at h1
  by_cases hi1 : q.1 = i + 1
  · have hlt := (List.getElem?_eq_some_iff.mp h1).1
    rw [hi1, List.getElem?_set_self (by rw [hi1] at hlt; rw [List.length_set] at hlt; exact hlt)] at h1
    cases h1
  rw [List.getElem?_set_ne (Ne.symm hi1)] at h1
  by_cases hi : q.1 = i
  · have hlt := (List.getElem?_eq_some_iff.mp h1).1
    rw [hi, List.getElem?_set_self (by rw [hi] at hlt; rw [List.length_set] at hlt; exact hlt)] at h1
    cases h1
    exact List.mem_cons.mpr (Or.inl (by rw [← hi]; exact Prod.ext rfl h2))
  · rw [List.getElem?_set_ne (Ne.symm hi)] at h1
    obtain ⟨h3, h4⟩ := zk1_at h1
    refine List.mem_cons.mpr (Or.inr (List.mem_filter.mpr ⟨zlv_mem.mpr ⟨w, h3, h2⟩, ?_⟩))
    have e1 : (q.1 == i) = false := by simpa using hi
    have e3 : (q.1 == i + 1) = false := by simpa using hi1
    rw [e1, e3]
    by_cases hj : q.1 + 1 = i
    · have hc : (zva ad w).category = 1 := by
        rw [zva_cat]
        match w, h4 hj with
        | .inl _, _ => rfl
        | .inr (.inl x), hx => exact absurd rfl (hx x)
        | .inr (.inr _), _ => rfl
      rw [h2, hc]
      simp
    · have e2 : (q.1 + 1 == i) = false := by simpa using hj
      rw [e2]
      rfl
theorem zmem_at {l : List (Nat × Value)} {q : Nat × Value} (h : q ∈ l) : ∃ k : Nat, l[k]? = some q := List.getElem?_of_mem h
section JS
variable {M : MM} {d mc ms : Nat} {Q : Option MV → MH → Prop} {cells slots pc : Nat} {ls : List (Option MV)} {st : List MV} {h : MH}
theorem s_iconst {n : Int} (hdg : decode M.2.1 pc = .ok (.iconst n, 1)) (k : J M d mc ms Q cells slots (pc + 1) ls (.inl (Int32.ofInt n) :: st) h) : J M d mc ms Q cells slots pc ls st h := by
  intro p l e s m args below meth c D cA ad adV A H locs lsA ad0 h0 F X hl hE
  exact lv_iconst F.1 F.2.1 hdg rfl (k p l e s m args below meth c D cA ad adV A H locs lsA ad0 h0 F X hl hE)
theorem s_bipush {n : Int} (hdg : decode M.2.1 pc = .ok (.bipush n, 2)) (k : J M d mc ms Q cells slots (pc + 2) ls (.inl (Int8.ofInt n).toInt32 :: st) h) : J M d mc ms Q cells slots pc ls st h := by
  intro p l e s m args below meth c D cA ad adV A H locs lsA ad0 h0 F X hl hE
  exact lv_bipush F.1 F.2.1 hdg rfl (k p l e s m args below meth c D cA ad adV A H locs lsA ad0 h0 F X hl hE)
theorem s_sipush {n : Int} (hdg : decode M.2.1 pc = .ok (.sipush n, 3)) (k : J M d mc ms Q cells slots (pc + 3) ls (.inl (Int16.ofInt n).toInt32 :: st) h) : J M d mc ms Q cells slots pc ls st h := by
  intro p l e s m args below meth c D cA ad adV A H locs lsA ad0 h0 F X hl hE
  exact lv_sipush F.1 F.2.1 hdg rfl (k p l e s m args below meth c D cA ad adV A H locs lsA ad0 h0 F X hl hE)
theorem s_lconst {n : Fin 2} (hdg : decode M.2.1 pc = .ok (.lconst n, 1)) (k : J M d mc ms Q cells slots (pc + 1) ls (.inr (.inl (Int64.ofNat (n : Nat))) :: st) h) : J M d mc ms Q cells slots pc ls st h := by
  intro p l e s m args below meth c D cA ad adV A H locs lsA ad0 h0 F X hl hE
  exact lv_lconst F.1 F.2.1 hdg rfl (k p l e s m args below meth c D cA ad adV A H locs lsA ad0 h0 F X hl hE)
theorem s_iadd {x y : Int32} (hdg : decode M.2.1 pc = .ok (.iadd, 1)) (k : J M d mc ms Q cells slots (pc + 1) ls (.inl (x + y) :: st) h) : J M d mc ms Q cells slots pc ls (.inl y :: .inl x :: st) h := by
  intro p l e s m args below meth c D cA ad adV A H locs lsA ad0 h0 F X hl hE
  exact lv_iadd F.1 F.2.1 hdg (k p l e s m args below meth c D cA ad adV A H locs lsA ad0 h0 F X hl hE)
theorem s_isub {x y : Int32} (hdg : decode M.2.1 pc = .ok (.isub, 1)) (k : J M d mc ms Q cells slots (pc + 1) ls (.inl (x - y) :: st) h) : J M d mc ms Q cells slots pc ls (.inl y :: .inl x :: st) h := by
  intro p l e s m args below meth c D cA ad adV A H locs lsA ad0 h0 F X hl hE
  exact lv_isub F.1 F.2.1 hdg (k p l e s m args below meth c D cA ad adV A H locs lsA ad0 h0 F X hl hE)
theorem s_imul {x y : Int32} (hdg : decode M.2.1 pc = .ok (.imul, 1)) (k : J M d mc ms Q cells slots (pc + 1) ls (.inl (x * y) :: st) h) : J M d mc ms Q cells slots pc ls (.inl y :: .inl x :: st) h := by
  intro p l e s m args below meth c D cA ad adV A H locs lsA ad0 h0 F X hl hE
  exact lv_imul F.1 F.2.1 hdg (k p l e s m args below meth c D cA ad adV A H locs lsA ad0 h0 F X hl hE)
theorem s_iand {x y : Int32} (hdg : decode M.2.1 pc = .ok (.iand, 1)) (k : J M d mc ms Q cells slots (pc + 1) ls (.inl (x &&& y) :: st) h) : J M d mc ms Q cells slots pc ls (.inl y :: .inl x :: st) h := by
  intro p l e s m args below meth c D cA ad adV A H locs lsA ad0 h0 F X hl hE
  exact lv_iand F.1 F.2.1 hdg (k p l e s m args below meth c D cA ad adV A H locs lsA ad0 h0 F X hl hE)
theorem s_ior {x y : Int32} (hdg : decode M.2.1 pc = .ok (.ior, 1)) (k : J M d mc ms Q cells slots (pc + 1) ls (.inl (x ||| y) :: st) h) : J M d mc ms Q cells slots pc ls (.inl y :: .inl x :: st) h := by
  intro p l e s m args below meth c D cA ad adV A H locs lsA ad0 h0 F X hl hE
  exact lv_ior F.1 F.2.1 hdg (k p l e s m args below meth c D cA ad adV A H locs lsA ad0 h0 F X hl hE)
theorem s_ixor {x y : Int32} (hdg : decode M.2.1 pc = .ok (.ixor, 1)) (k : J M d mc ms Q cells slots (pc + 1) ls (.inl (x ^^^ y) :: st) h) : J M d mc ms Q cells slots pc ls (.inl y :: .inl x :: st) h := by
  intro p l e s m args below meth c D cA ad adV A H locs lsA ad0 h0 F X hl hE
  exact lv_ixor F.1 F.2.1 hdg (k p l e s m args below meth c D cA ad adV A H locs lsA ad0 h0 F X hl hE)
theorem s_ishl {x y : Int32} (hdg : decode M.2.1 pc = .ok (.ishl, 1)) (k : J M d mc ms Q cells slots (pc + 1) ls (.inl (x <<< (y &&& 31)) :: st) h) : J M d mc ms Q cells slots pc ls (.inl y :: .inl x :: st) h := by
  intro p l e s m args below meth c D cA ad adV A H locs lsA ad0 h0 F X hl hE
  exact lv_ishl F.1 F.2.1 hdg (k p l e s m args below meth c D cA ad adV A H locs lsA ad0 h0 F X hl hE)
theorem s_ishr {x y : Int32} (hdg : decode M.2.1 pc = .ok (.ishr, 1)) (k : J M d mc ms Q cells slots (pc + 1) ls (.inl (x >>> (y &&& 31)) :: st) h) : J M d mc ms Q cells slots pc ls (.inl y :: .inl x :: st) h := by
  intro p l e s m args below meth c D cA ad adV A H locs lsA ad0 h0 F X hl hE
  exact lv_ishr F.1 F.2.1 hdg (k p l e s m args below meth c D cA ad adV A H locs lsA ad0 h0 F X hl hE)
theorem s_idiv {x y : Int32} (hdg : decode M.2.1 pc = .ok (.idiv, 1)) (hne : ¬ y = 0) (k : J M d mc ms Q cells slots (pc + 1) ls (.inl (x / y) :: st) h) : J M d mc ms Q cells slots pc ls (.inl y :: .inl x :: st) h := by
  intro p l e s m args below meth c D cA ad adV A H locs lsA ad0 h0 F X hl hE
  exact lv_idiv F.1 F.2.1 hdg hne (k p l e s m args below meth c D cA ad adV A H locs lsA ad0 h0 F X hl hE)
theorem s_irem {x y : Int32} (hdg : decode M.2.1 pc = .ok (.irem, 1)) (hne : ¬ y = 0) (k : J M d mc ms Q cells slots (pc + 1) ls (.inl (x - x / y * y) :: st) h) : J M d mc ms Q cells slots pc ls (.inl y :: .inl x :: st) h := by
  intro p l e s m args below meth c D cA ad adV A H locs lsA ad0 h0 F X hl hE
  exact lv_irem F.1 F.2.1 hdg hne (k p l e s m args below meth c D cA ad adV A H locs lsA ad0 h0 F X hl hE)
theorem s_ineg {x : Int32} (hdg : decode M.2.1 pc = .ok (.ineg, 1)) (k : J M d mc ms Q cells slots (pc + 1) ls (.inl (-x) :: st) h) : J M d mc ms Q cells slots pc ls (.inl x :: st) h := by
  intro p l e s m args below meth c D cA ad adV A H locs lsA ad0 h0 F X hl hE
  exact lv_ineg F.1 F.2.1 hdg (k p l e s m args below meth c D cA ad adV A H locs lsA ad0 h0 F X hl hE)
theorem s_iushr {x y : Int32} (hdg : decode M.2.1 pc = .ok (.iushr, 1)) (k : J M d mc ms Q cells slots (pc + 1) ls (.inl (x.toUInt32 >>> (y.toUInt32 &&& Int32.toUInt32 31)).toInt32 :: st) h) : J M d mc ms Q cells slots pc ls (.inl y :: .inl x :: st) h := by
  intro p l e s m args below meth c D cA ad adV A H locs lsA ad0 h0 F X hl hE
  exact lv_iushr F.1 F.2.1 hdg rfl (k p l e s m args below meth c D cA ad adV A H locs lsA ad0 h0 F X hl hE)
theorem s_ladd {x y : Int64} (hdg : decode M.2.1 pc = .ok (.ladd, 1)) (k : J M d mc ms Q cells slots (pc + 1) ls (.inr (.inl (x + y)) :: st) h) : J M d mc ms Q cells slots pc ls (.inr (.inl y) :: .inr (.inl x) :: st) h := by
  intro p l e s m args below meth c D cA ad adV A H locs lsA ad0 h0 F X hl hE
  exact lv_ladd F.1 F.2.1 hdg (k p l e s m args below meth c D cA ad adV A H locs lsA ad0 h0 F X hl hE)
theorem s_lsub {x y : Int64} (hdg : decode M.2.1 pc = .ok (.lsub, 1)) (k : J M d mc ms Q cells slots (pc + 1) ls (.inr (.inl (x - y)) :: st) h) : J M d mc ms Q cells slots pc ls (.inr (.inl y) :: .inr (.inl x) :: st) h := by
  intro p l e s m args below meth c D cA ad adV A H locs lsA ad0 h0 F X hl hE
  exact lv_lsub F.1 F.2.1 hdg (k p l e s m args below meth c D cA ad adV A H locs lsA ad0 h0 F X hl hE)
theorem s_lmul {x y : Int64} (hdg : decode M.2.1 pc = .ok (.lmul, 1)) (k : J M d mc ms Q cells slots (pc + 1) ls (.inr (.inl (x * y)) :: st) h) : J M d mc ms Q cells slots pc ls (.inr (.inl y) :: .inr (.inl x) :: st) h := by
  intro p l e s m args below meth c D cA ad adV A H locs lsA ad0 h0 F X hl hE
  exact lv_lmul F.1 F.2.1 hdg (k p l e s m args below meth c D cA ad adV A H locs lsA ad0 h0 F X hl hE)
theorem s_land {x y : Int64} (hdg : decode M.2.1 pc = .ok (.land, 1)) (k : J M d mc ms Q cells slots (pc + 1) ls (.inr (.inl (x &&& y)) :: st) h) : J M d mc ms Q cells slots pc ls (.inr (.inl y) :: .inr (.inl x) :: st) h := by
  intro p l e s m args below meth c D cA ad adV A H locs lsA ad0 h0 F X hl hE
  exact lv_land F.1 F.2.1 hdg (k p l e s m args below meth c D cA ad adV A H locs lsA ad0 h0 F X hl hE)
theorem s_lor {x y : Int64} (hdg : decode M.2.1 pc = .ok (.lor, 1)) (k : J M d mc ms Q cells slots (pc + 1) ls (.inr (.inl (x ||| y)) :: st) h) : J M d mc ms Q cells slots pc ls (.inr (.inl y) :: .inr (.inl x) :: st) h := by
  intro p l e s m args below meth c D cA ad adV A H locs lsA ad0 h0 F X hl hE
  exact lv_lor F.1 F.2.1 hdg (k p l e s m args below meth c D cA ad adV A H locs lsA ad0 h0 F X hl hE)
theorem s_ldiv {x y : Int64} (hdg : decode M.2.1 pc = .ok (.ldiv, 1)) (hne : ¬ y = 0) (k : J M d mc ms Q cells slots (pc + 1) ls (.inr (.inl (x / y)) :: st) h) : J M d mc ms Q cells slots pc ls (.inr (.inl y) :: .inr (.inl x) :: st) h := by
  intro p l e s m args below meth c D cA ad adV A H locs lsA ad0 h0 F X hl hE
  exact lv_ldiv F.1 F.2.1 hdg hne (k p l e s m args below meth c D cA ad adV A H locs lsA ad0 h0 F X hl hE)
theorem s_lushr {x : Int64} {y : Int32} (hdg : decode M.2.1 pc = .ok (.lushr, 1)) (k : J M d mc ms Q cells slots (pc + 1) ls (.inr (.inl (x.toUInt64 >>> (y.toInt64.toUInt64 &&& Int64.toUInt64 63)).toInt64) :: st) h) : J M d mc ms Q cells slots pc ls (.inl y :: .inr (.inl x) :: st) h := by
  intro p l e s m args below meth c D cA ad adV A H locs lsA ad0 h0 F X hl hE
  exact lv_lushr F.1 F.2.1 hdg rfl (k p l e s m args below meth c D cA ad adV A H locs lsA ad0 h0 F X hl hE)
theorem s_lshl {x : Int64} {y : Int32} (hdg : decode M.2.1 pc = .ok (.lshl, 1)) (k : J M d mc ms Q cells slots (pc + 1) ls (.inr (.inl (x <<< (y.toInt64 &&& 63))) :: st) h) : J M d mc ms Q cells slots pc ls (.inl y :: .inr (.inl x) :: st) h := by
  intro p l e s m args below meth c D cA ad adV A H locs lsA ad0 h0 F X hl hE
  exact lv_lshl F.1 F.2.1 hdg rfl (k p l e s m args below meth c D cA ad adV A H locs lsA ad0 h0 F X hl hE)
theorem s_lcmp {x y : Int64} (hdg : decode M.2.1 pc = .ok (.lcmp, 1)) (k : J M d mc ms Q cells slots (pc + 1) ls (.inl (lg_cmp x y) :: st) h) : J M d mc ms Q cells slots pc ls (.inr (.inl y) :: .inr (.inl x) :: st) h := by
  intro p l e s m args below meth c D cA ad adV A H locs lsA ad0 h0 F X hl hE
  exact W.lcmp F.1 F.2.1 hdg (k p l e s m args below meth c D cA ad adV A H locs lsA ad0 h0 F X hl hE)
theorem s_i2l {x : Int32} (hdg : decode M.2.1 pc = .ok (.i2l, 1)) (k : J M d mc ms Q cells slots (pc + 1) ls (.inr (.inl x.toInt64) :: st) h) : J M d mc ms Q cells slots pc ls (.inl x :: st) h := by
  intro p l e s m args below meth c D cA ad adV A H locs lsA ad0 h0 F X hl hE
  exact lv_i2l F.1 F.2.1 hdg rfl (k p l e s m args below meth c D cA ad adV A H locs lsA ad0 h0 F X hl hE)
theorem s_l2i {x : Int64} (hdg : decode M.2.1 pc = .ok (.l2i, 1)) (k : J M d mc ms Q cells slots (pc + 1) ls (.inl x.toInt32 :: st) h) : J M d mc ms Q cells slots pc ls (.inr (.inl x) :: st) h := by
  intro p l e s m args below meth c D cA ad adV A H locs lsA ad0 h0 F X hl hE
  exact lv_l2i F.1 F.2.1 hdg rfl (k p l e s m args below meth c D cA ad adV A H locs lsA ad0 h0 F X hl hE)
theorem s_i2b {x : Int32} (hdg : decode M.2.1 pc = .ok (.i2b, 1)) (k : J M d mc ms Q cells slots (pc + 1) ls (.inl x.toInt8.toInt32 :: st) h) : J M d mc ms Q cells slots pc ls (.inl x :: st) h := by
  intro p l e s m args below meth c D cA ad adV A H locs lsA ad0 h0 F X hl hE
  exact lv_i2b F.1 F.2.1 hdg rfl (k p l e s m args below meth c D cA ad adV A H locs lsA ad0 h0 F X hl hE)
theorem s_i2s {x : Int32} (hdg : decode M.2.1 pc = .ok (.i2s, 1)) (k : J M d mc ms Q cells slots (pc + 1) ls (.inl x.toInt16.toInt32 :: st) h) : J M d mc ms Q cells slots pc ls (.inl x :: st) h := by
  intro p l e s m args below meth c D cA ad adV A H locs lsA ad0 h0 F X hl hE
  exact lv_i2s F.1 F.2.1 hdg rfl (k p l e s m args below meth c D cA ad adV A H locs lsA ad0 h0 F X hl hE)
def zc1 (v : MV) : Bool := match v with
  | .inr (.inl _) => false
  | _ => true
theorem zc1_cat {ad : Nat → Nat} {v : MV} (h : zc1 v = true) : (zva ad v).category = 1 := by
  rw [zva_cat]
  match v, h with
  | .inl _, _ => rfl
  | .inr (.inr _), _ => rfl
  | .inr (.inl _), h => cases h
theorem s_dup {v : MV} (hdg : decode M.2.1 pc = .ok (.dup, 1)) (hv : zc1 v = true) (k : J M d mc ms Q cells slots (pc + 1) ls (v :: v :: st) h) : J M d mc ms Q cells slots pc ls (v :: st) h := by
  intro p l e s m args below meth c D cA ad adV A H locs lsA ad0 h0 F X hl hE
  exact lv_dup F.1 F.2.1 hdg (zc1_cat hv) (k p l e s m args below meth c D cA ad adV A H locs lsA ad0 h0 F X hl hE)
theorem s_pop {v : MV} (hdg : decode M.2.1 pc = .ok (.pop, 1)) (hv : zc1 v = true) (k : J M d mc ms Q cells slots (pc + 1) ls st h) : J M d mc ms Q cells slots pc ls (v :: st) h := by
  intro p l e s m args below meth c D cA ad adV A H locs lsA ad0 h0 F X hl hE
  exact lv_pop F.1 F.2.1 hdg (zc1_cat hv) (k p l e s m args below meth c D cA ad adV A H locs lsA ad0 h0 F X hl hE)
theorem s_dup2 {v w : MV} (hdg : decode M.2.1 pc = .ok (.dup2, 1)) (hv : zc1 v = true) (hw : zc1 w = true) (k : J M d mc ms Q cells slots (pc + 1) ls (v :: w :: v :: w :: st) h) : J M d mc ms Q cells slots pc ls (v :: w :: st) h := by
  intro p l e s m args below meth c D cA ad adV A H locs lsA ad0 h0 F X hl hE
  exact lv_dup2_11 F.1 F.2.1 hdg (zc1_cat hv) (zc1_cat hw) (k p l e s m args below meth c D cA ad adV A H locs lsA ad0 h0 F X hl hE)
theorem s_iload_n {n : Fin 4} {x : Int32} (hdg : decode M.2.1 pc = .ok (.iload_n n, 1)) (hi : ls[(n : Nat)]? = some (some (.inl x))) (k : J M d mc ms Q cells slots (pc + 1) ls (.inl x :: st) h) : J M d mc ms Q cells slots pc ls st h := by
  intro p l e s m args below meth c D cA ad adV A H locs lsA ad0 h0 F X hl hE
  exact lv_iload_n F.1 F.2.1 hdg rfl (zlv_get hl hi) (k p l e s m args below meth c D cA ad adV A H locs lsA ad0 h0 F X hl hE)
theorem s_iload {n : Nat} {x : Int32} (hdg : decode M.2.1 pc = .ok (.iload n, 2)) (hi : ls[n]? = some (some (.inl x))) (k : J M d mc ms Q cells slots (pc + 2) ls (.inl x :: st) h) : J M d mc ms Q cells slots pc ls st h := by
  intro p l e s m args below meth c D cA ad adV A H locs lsA ad0 h0 F X hl hE
  exact lv_iload F.1 F.2.1 hdg (zlv_get hl hi) (k p l e s m args below meth c D cA ad adV A H locs lsA ad0 h0 F X hl hE)
theorem s_lload_n {n : Fin 4} {x : Int64} (hdg : decode M.2.1 pc = .ok (.lload_n n, 1)) (hi : ls[(n : Nat)]? = some (some (.inr (.inl x)))) (k : J M d mc ms Q cells slots (pc + 1) ls (.inr (.inl x) :: st) h) : J M d mc ms Q cells slots pc ls st h := by
  intro p l e s m args below meth c D cA ad adV A H locs lsA ad0 h0 F X hl hE
  exact lv_lload_n F.1 F.2.1 hdg rfl (zlv_get hl hi) (k p l e s m args below meth c D cA ad adV A H locs lsA ad0 h0 F X hl hE)
theorem s_lload {n : Nat} {x : Int64} (hdg : decode M.2.1 pc = .ok (.lload n, 2)) (hi : ls[n]? = some (some (.inr (.inl x)))) (k : J M d mc ms Q cells slots (pc + 2) ls (.inr (.inl x) :: st) h) : J M d mc ms Q cells slots pc ls st h := by
  intro p l e s m args below meth c D cA ad adV A H locs lsA ad0 h0 F X hl hE
  exact lv_lload F.1 F.2.1 hdg (zlv_get hl hi) (k p l e s m args below meth c D cA ad adV A H locs lsA ad0 h0 F X hl hE)
theorem s_aload_n {n : Fin 4} {x : Nat} (hdg : decode M.2.1 pc = .ok (.aload_n n, 1)) (hi : ls[(n : Nat)]? = some (some (.inr (.inr x)))) (k : J M d mc ms Q cells slots (pc + 1) ls (.inr (.inr x) :: st) h) : J M d mc ms Q cells slots pc ls st h := by
  intro p l e s m args below meth c D cA ad adV A H locs lsA ad0 h0 F X hl hE
  have k2 := k p l e s m args below meth c D cA ad adV A H locs lsA ad0 h0 F X hl hE
  have hg := zlv_get hl hi
  have e1 : zva ad (.inr (.inr x)) = va_rf (zrf ad x) := rfl
  rw [e1] at hg
  rw [List.map_cons, e1] at k2
  cases hz : zrf ad x with
  | none =>
    rw [hz] at hg k2
    exact lv_aload_nN F.1 F.2.1 hdg rfl hg k2
  | some a =>
    rw [hz] at hg k2
    exact lv_aload_n F.1 F.2.1 hdg rfl hg k2
theorem s_aload {n x : Nat} (hdg : decode M.2.1 pc = .ok (.aload n, 2)) (hi : ls[n]? = some (some (.inr (.inr x)))) (k : J M d mc ms Q cells slots (pc + 2) ls (.inr (.inr x) :: st) h) : J M d mc ms Q cells slots pc ls st h := by
  intro p l e s m args below meth c D cA ad adV A H locs lsA ad0 h0 F X hl hE
  have k2 := k p l e s m args below meth c D cA ad adV A H locs lsA ad0 h0 F X hl hE
  have hg := zlv_get hl hi
  have e1 : zva ad (.inr (.inr x)) = va_rf (zrf ad x) := rfl
  rw [e1] at hg
  rw [List.map_cons, e1] at k2
  cases hz : zrf ad x with
  | none =>
    rw [hz] at hg k2
    exact lv_aloadN F.1 F.2.1 hdg hg k2
  | some a =>
    rw [hz] at hg k2
    exact lv_aload F.1 F.2.1 hdg hg k2
theorem s_istore_n {n : Fin 4} {x : Int32} (hdg : decode M.2.1 pc = .ok (.istore_n n, 1)) (hn : (n : Nat) < M.2.2.1) (k : J M d mc ms Q cells slots (pc + 1) (zs1 ls (n : Nat) (.inl x)) st h) : J M d mc ms Q cells slots pc ls (.inl x :: st) h := by
  intro p l e s m args below meth c D cA ad adV A H locs lsA ad0 h0 F X hl hE
  exact lv_istore_n F.1 F.2.1 hdg rfl hl hn rfl (fun ls' h' => k p l e s m args below meth c D cA ad adV A H locs ls' ad0 h0 F X (zlv_1 h') hE)
theorem s_istore {n : Nat} {x : Int32} (hdg : decode M.2.1 pc = .ok (.istore n, 2)) (hn : n < M.2.2.1) (k : J M d mc ms Q cells slots (pc + 2) (zs1 ls n (.inl x)) st h) : J M d mc ms Q cells slots pc ls (.inl x :: st) h := by
  intro p l e s m args below meth c D cA ad adV A H locs lsA ad0 h0 F X hl hE
  exact lv_istore F.1 F.2.1 hdg hl hn rfl (fun ls' h' => k p l e s m args below meth c D cA ad adV A H locs ls' ad0 h0 F X (zlv_1 h') hE)
theorem s_lstore_n {n : Fin 4} {x : Int64} (hdg : decode M.2.1 pc = .ok (.lstore_n n, 1)) (hn : (n : Nat) + 1 < M.2.2.1) (k : J M d mc ms Q cells slots (pc + 1) (zs2 ls (n : Nat) x) st h) : J M d mc ms Q cells slots pc ls (.inr (.inl x) :: st) h := by
  intro p l e s m args below meth c D cA ad adV A H locs lsA ad0 h0 F X hl hE
  exact lv_lstore_n F.1 F.2.1 hdg rfl hl hn rfl (fun ls' h' => k p l e s m args below meth c D cA ad adV A H locs ls' ad0 h0 F X (zlv_2 h') hE)
theorem s_lstore {n : Nat} {x : Int64} (hdg : decode M.2.1 pc = .ok (.lstore n, 2)) (hn : n + 1 < M.2.2.1) (k : J M d mc ms Q cells slots (pc + 2) (zs2 ls n x) st h) : J M d mc ms Q cells slots pc ls (.inr (.inl x) :: st) h := by
  intro p l e s m args below meth c D cA ad adV A H locs lsA ad0 h0 F X hl hE
  exact lv_lstore F.1 F.2.1 hdg hl hn rfl (fun ls' h' => k p l e s m args below meth c D cA ad adV A H locs ls' ad0 h0 F X (zlv_2 h') hE)
theorem s_astore_n {n : Fin 4} {x : Nat} (hdg : decode M.2.1 pc = .ok (.astore_n n, 1)) (hn : (n : Nat) < M.2.2.1) (k : J M d mc ms Q cells slots (pc + 1) (zs1 ls (n : Nat) (.inr (.inr x))) st h) : J M d mc ms Q cells slots pc ls (.inr (.inr x) :: st) h := by
  intro p l e s m args below meth c D cA ad adV A H locs lsA ad0 h0 F X hl hE
  have e1 : zva ad (.inr (.inr x)) = va_rf (zrf ad x) := rfl
  have k2 := fun ls' (h' : lv_has ls' M.2.2.1 (((n : Nat), zva ad (.inr (.inr x))) :: (zlv ad ls).filter (fun q => !(q.1 == (n : Nat)) && !(q.1 + 1 == (n : Nat) && q.2.category == 2)))) => k p l e s m args below meth c D cA ad adV A H locs ls' ad0 h0 F X (zlv_1 h') hE
  rw [List.map_cons, e1]
  rw [e1] at k2
  cases hz : zrf ad x with
  | none =>
    rw [hz] at k2
    exact lv_astore_nN F.1 F.2.1 hdg rfl hl hn rfl k2
  | some a =>
    rw [hz] at k2
    exact lv_astore_n F.1 F.2.1 hdg rfl hl hn rfl k2
theorem s_astore {n x : Nat} (hdg : decode M.2.1 pc = .ok (.astore n, 2)) (hn : n < M.2.2.1) (k : J M d mc ms Q cells slots (pc + 2) (zs1 ls n (.inr (.inr x))) st h) : J M d mc ms Q cells slots pc ls (.inr (.inr x) :: st) h := by
  intro p l e s m args below meth c D cA ad adV A H locs lsA ad0 h0 F X hl hE
  have e1 : zva ad (.inr (.inr x)) = va_rf (zrf ad x) := rfl
  have k2 := fun ls' (h' : lv_has ls' M.2.2.1 ((n, zva ad (.inr (.inr x))) :: (zlv ad ls).filter (fun q => !(q.1 == n) && !(q.1 + 1 == n && q.2.category == 2)))) => k p l e s m args below meth c D cA ad adV A H locs ls' ad0 h0 F X (zlv_1 h') hE
  rw [List.map_cons, e1]
  rw [e1] at k2
  cases hz : zrf ad x with
  | none =>
    rw [hz] at k2
    exact lv_astoreN F.1 F.2.1 hdg hl hn rfl k2
  | some a =>
    rw [hz] at k2
    exact lv_astore F.1 F.2.1 hdg hl hn rfl k2
theorem s_iinc {i : Nat} {n : Int} {x : Int32} (hdg : decode M.2.1 pc = .ok (.iinc i n, 3)) (hi : ls[i]? = some (some (.inl x))) (hn : i < M.2.2.1) (k : J M d mc ms Q cells slots (pc + 3) (zs1 ls i (.inl (x + Int32.ofInt n))) st h) : J M d mc ms Q cells slots pc ls st h := by
  intro p l e s m args below meth c D cA ad adV A H locs lsA ad0 h0 F X hl hE
  obtain ⟨q, hq⟩ := zmem_at (zlv_mem.mpr ⟨.inl x, hi, rfl⟩ : (i, zva ad (.inl x)) ∈ zlv ad ls)
  exact lv_iinc F.1 F.2.1 hdg hl hq rfl hn rfl (fun ls' h' => k p l e s m args below meth c D cA ad adV A H locs ls' ad0 h0 F X (zlv_1 h') hE)
theorem s_if_eq {x : Int32} {off : Int} (hdg : decode M.2.1 pc = .ok (.ifCond .eq off, 3)) (hp : 0 ≤ (pc : Int) + off) (k1 : x = 0 → J M d mc ms Q cells slots ((pc : Int) + off).toNat ls st h) (k2 : ¬ x = 0 → J M d mc ms Q cells slots (pc + 3) ls st h) : J M d mc ms Q cells slots pc ls (.inl x :: st) h := by
  intro p l e s m args below meth c D cA ad adV A H locs lsA ad0 h0 F X hl hE
  exact lv_if_eq F.1 F.2.1 hdg (Int.toNat_of_nonneg hp).symm (fun q => k1 q p l e s m args below meth c D cA ad adV A H locs lsA ad0 h0 F X hl hE) (fun q => k2 q p l e s m args below meth c D cA ad adV A H locs lsA ad0 h0 F X hl hE)
theorem s_if_ne {x : Int32} {off : Int} (hdg : decode M.2.1 pc = .ok (.ifCond .ne off, 3)) (hp : 0 ≤ (pc : Int) + off) (k1 : ¬ x = 0 → J M d mc ms Q cells slots ((pc : Int) + off).toNat ls st h) (k2 : x = 0 → J M d mc ms Q cells slots (pc + 3) ls st h) : J M d mc ms Q cells slots pc ls (.inl x :: st) h := by
  intro p l e s m args below meth c D cA ad adV A H locs lsA ad0 h0 F X hl hE
  exact lv_if_ne F.1 F.2.1 hdg (Int.toNat_of_nonneg hp).symm (fun q => k1 q p l e s m args below meth c D cA ad adV A H locs lsA ad0 h0 F X hl hE) (fun q => k2 q p l e s m args below meth c D cA ad adV A H locs lsA ad0 h0 F X hl hE)
theorem s_if_lt {x : Int32} {off : Int} (hdg : decode M.2.1 pc = .ok (.ifCond .lt off, 3)) (hp : 0 ≤ (pc : Int) + off) (k1 : x < 0 → J M d mc ms Q cells slots ((pc : Int) + off).toNat ls st h) (k2 : ¬ x < 0 → J M d mc ms Q cells slots (pc + 3) ls st h) : J M d mc ms Q cells slots pc ls (.inl x :: st) h := by
  intro p l e s m args below meth c D cA ad adV A H locs lsA ad0 h0 F X hl hE
  exact lv_if_lt F.1 F.2.1 hdg (Int.toNat_of_nonneg hp).symm (fun q => k1 q p l e s m args below meth c D cA ad adV A H locs lsA ad0 h0 F X hl hE) (fun q => k2 q p l e s m args below meth c D cA ad adV A H locs lsA ad0 h0 F X hl hE)
theorem s_if_ge {x : Int32} {off : Int} (hdg : decode M.2.1 pc = .ok (.ifCond .ge off, 3)) (hp : 0 ≤ (pc : Int) + off) (k1 : 0 ≤ x → J M d mc ms Q cells slots ((pc : Int) + off).toNat ls st h) (k2 : ¬ 0 ≤ x → J M d mc ms Q cells slots (pc + 3) ls st h) : J M d mc ms Q cells slots pc ls (.inl x :: st) h := by
  intro p l e s m args below meth c D cA ad adV A H locs lsA ad0 h0 F X hl hE
  exact lv_if_ge F.1 F.2.1 hdg (Int.toNat_of_nonneg hp).symm (fun q => k1 q p l e s m args below meth c D cA ad adV A H locs lsA ad0 h0 F X hl hE) (fun q => k2 q p l e s m args below meth c D cA ad adV A H locs lsA ad0 h0 F X hl hE)
theorem s_if_gt {x : Int32} {off : Int} (hdg : decode M.2.1 pc = .ok (.ifCond .gt off, 3)) (hp : 0 ≤ (pc : Int) + off) (k1 : 0 < x → J M d mc ms Q cells slots ((pc : Int) + off).toNat ls st h) (k2 : ¬ 0 < x → J M d mc ms Q cells slots (pc + 3) ls st h) : J M d mc ms Q cells slots pc ls (.inl x :: st) h := by
  intro p l e s m args below meth c D cA ad adV A H locs lsA ad0 h0 F X hl hE
  exact lv_if_gt F.1 F.2.1 hdg (Int.toNat_of_nonneg hp).symm (fun q => k1 q p l e s m args below meth c D cA ad adV A H locs lsA ad0 h0 F X hl hE) (fun q => k2 q p l e s m args below meth c D cA ad adV A H locs lsA ad0 h0 F X hl hE)
theorem s_if_le {x : Int32} {off : Int} (hdg : decode M.2.1 pc = .ok (.ifCond .le off, 3)) (hp : 0 ≤ (pc : Int) + off) (k1 : x ≤ 0 → J M d mc ms Q cells slots ((pc : Int) + off).toNat ls st h) (k2 : ¬ x ≤ 0 → J M d mc ms Q cells slots (pc + 3) ls st h) : J M d mc ms Q cells slots pc ls (.inl x :: st) h := by
  intro p l e s m args below meth c D cA ad adV A H locs lsA ad0 h0 F X hl hE
  exact lv_if_le F.1 F.2.1 hdg (Int.toNat_of_nonneg hp).symm (fun q => k1 q p l e s m args below meth c D cA ad adV A H locs lsA ad0 h0 F X hl hE) (fun q => k2 q p l e s m args below meth c D cA ad adV A H locs lsA ad0 h0 F X hl hE)
theorem s_icmp_eq {x y : Int32} {off : Int} (hdg : decode M.2.1 pc = .ok (.if_icmp .eq off, 3)) (hp : 0 ≤ (pc : Int) + off) (k1 : x = y → J M d mc ms Q cells slots ((pc : Int) + off).toNat ls st h) (k2 : ¬ x = y → J M d mc ms Q cells slots (pc + 3) ls st h) : J M d mc ms Q cells slots pc ls (.inl y :: .inl x :: st) h := by
  intro p l e s m args below meth c D cA ad adV A H locs lsA ad0 h0 F X hl hE
  exact lv_icmp_eq F.1 F.2.1 hdg (Int.toNat_of_nonneg hp).symm (fun q => k1 q p l e s m args below meth c D cA ad adV A H locs lsA ad0 h0 F X hl hE) (fun q => k2 q p l e s m args below meth c D cA ad adV A H locs lsA ad0 h0 F X hl hE)
theorem s_icmp_ne {x y : Int32} {off : Int} (hdg : decode M.2.1 pc = .ok (.if_icmp .ne off, 3)) (hp : 0 ≤ (pc : Int) + off) (k1 : ¬ x = y → J M d mc ms Q cells slots ((pc : Int) + off).toNat ls st h) (k2 : x = y → J M d mc ms Q cells slots (pc + 3) ls st h) : J M d mc ms Q cells slots pc ls (.inl y :: .inl x :: st) h := by
  intro p l e s m args below meth c D cA ad adV A H locs lsA ad0 h0 F X hl hE
  exact lv_icmp_ne F.1 F.2.1 hdg (Int.toNat_of_nonneg hp).symm (fun q => k1 q p l e s m args below meth c D cA ad adV A H locs lsA ad0 h0 F X hl hE) (fun q => k2 q p l e s m args below meth c D cA ad adV A H locs lsA ad0 h0 F X hl hE)
theorem s_icmp_lt {x y : Int32} {off : Int} (hdg : decode M.2.1 pc = .ok (.if_icmp .lt off, 3)) (hp : 0 ≤ (pc : Int) + off) (k1 : x < y → J M d mc ms Q cells slots ((pc : Int) + off).toNat ls st h) (k2 : ¬ x < y → J M d mc ms Q cells slots (pc + 3) ls st h) : J M d mc ms Q cells slots pc ls (.inl y :: .inl x :: st) h := by
  intro p l e s m args below meth c D cA ad adV A H locs lsA ad0 h0 F X hl hE
  exact lv_icmp_lt F.1 F.2.1 hdg (Int.toNat_of_nonneg hp).symm (fun q => k1 q p l e s m args below meth c D cA ad adV A H locs lsA ad0 h0 F X hl hE) (fun q => k2 q p l e s m args below meth c D cA ad adV A H locs lsA ad0 h0 F X hl hE)
theorem s_icmp_ge {x y : Int32} {off : Int} (hdg : decode M.2.1 pc = .ok (.if_icmp .ge off, 3)) (hp : 0 ≤ (pc : Int) + off) (k1 : y ≤ x → J M d mc ms Q cells slots ((pc : Int) + off).toNat ls st h) (k2 : ¬ y ≤ x → J M d mc ms Q cells slots (pc + 3) ls st h) : J M d mc ms Q cells slots pc ls (.inl y :: .inl x :: st) h := by
  intro p l e s m args below meth c D cA ad adV A H locs lsA ad0 h0 F X hl hE
  exact lv_icmp_ge F.1 F.2.1 hdg (Int.toNat_of_nonneg hp).symm (fun q => k1 q p l e s m args below meth c D cA ad adV A H locs lsA ad0 h0 F X hl hE) (fun q => k2 q p l e s m args below meth c D cA ad adV A H locs lsA ad0 h0 F X hl hE)
theorem s_icmp_gt {x y : Int32} {off : Int} (hdg : decode M.2.1 pc = .ok (.if_icmp .gt off, 3)) (hp : 0 ≤ (pc : Int) + off) (k1 : y < x → J M d mc ms Q cells slots ((pc : Int) + off).toNat ls st h) (k2 : ¬ y < x → J M d mc ms Q cells slots (pc + 3) ls st h) : J M d mc ms Q cells slots pc ls (.inl y :: .inl x :: st) h := by
  intro p l e s m args below meth c D cA ad adV A H locs lsA ad0 h0 F X hl hE
  exact lv_icmp_gt F.1 F.2.1 hdg (Int.toNat_of_nonneg hp).symm (fun q => k1 q p l e s m args below meth c D cA ad adV A H locs lsA ad0 h0 F X hl hE) (fun q => k2 q p l e s m args below meth c D cA ad adV A H locs lsA ad0 h0 F X hl hE)
theorem s_icmp_le {x y : Int32} {off : Int} (hdg : decode M.2.1 pc = .ok (.if_icmp .le off, 3)) (hp : 0 ≤ (pc : Int) + off) (k1 : x ≤ y → J M d mc ms Q cells slots ((pc : Int) + off).toNat ls st h) (k2 : ¬ x ≤ y → J M d mc ms Q cells slots (pc + 3) ls st h) : J M d mc ms Q cells slots pc ls (.inl y :: .inl x :: st) h := by
  intro p l e s m args below meth c D cA ad adV A H locs lsA ad0 h0 F X hl hE
  exact lv_icmp_le F.1 F.2.1 hdg (Int.toNat_of_nonneg hp).symm (fun q => k1 q p l e s m args below meth c D cA ad adV A H locs lsA ad0 h0 F X hl hE) (fun q => k2 q p l e s m args below meth c D cA ad adV A H locs lsA ad0 h0 F X hl hE)
theorem s_goto {off : Int} (hdg : decode M.2.1 pc = .ok (.goto off, 3)) (hp : 0 ≤ (pc : Int) + off) (k : J M d mc ms Q cells slots ((pc : Int) + off).toNat ls st h) : J M d mc ms Q cells slots pc ls st h := by
  intro p l e s m args below meth c D cA ad adV A H locs lsA ad0 h0 F X hl hE
  exact lv_goto F.1 F.2.1 hdg (Int.toNat_of_nonneg hp).symm (k p l e s m args below meth c D cA ad adV A H locs lsA ad0 h0 F X hl hE)
theorem s_ifnonnull {x : Nat} {off : Int} (hdg : decode M.2.1 pc = .ok (.ifnonnull off, 3)) (hp : 0 ≤ (pc : Int) + off) (k1 : ¬ x = 0 → J M d mc ms Q cells slots ((pc : Int) + off).toNat ls st h) (k2 : x = 0 → J M d mc ms Q cells slots (pc + 3) ls st h) : J M d mc ms Q cells slots pc ls (.inr (.inr x) :: st) h := by
  intro p l e s m args below meth c D cA ad adV A H locs lsA ad0 h0 F X hl hE
  show W _ _ _ _ _ _ _ _ _ _ _ _ _ _ _ (F0 m pc lsA (va_rf (zrf ad x) :: st.map (zva ad)))
  by_cases hx : x = 0
  · have ez : zrf ad x = none := if_pos hx
    rw [ez]
    exact lv_ifnonnullN F.1 F.2.1 hdg (k2 hx p l e s m args below meth c D cA ad adV A H locs lsA ad0 h0 F X hl hE)
  · have ez : zrf ad x = some (ad x) := if_neg hx
    rw [ez]
    exact lv_ifnonnull F.1 F.2.1 hdg (Int.toNat_of_nonneg hp).symm (k1 hx p l e s m args below meth c D cA ad adV A H locs lsA ad0 h0 F X hl hE)
theorem s_tableOut {x : Int32} {dflt lo hi : Int} {offs : Array Int} {len tgt : Nat} (hdg : decode M.2.1 pc = .ok (.tableswitch dflt lo hi offs, len)) (hx : x.toInt < lo ∨ hi < x.toInt) (ht : (pc : Int) + dflt = (tgt : Int)) (k : J M d mc ms Q cells slots tgt ls st h) : J M d mc ms Q cells slots pc ls (.inl x :: st) h := by
  intro p l e s m args below meth c D cA ad adV A H locs lsA ad0 h0 F X hl hE
  exact lv_tableOut F.1 F.2.1 hdg hx ht (k p l e s m args below meth c D cA ad adV A H locs lsA ad0 h0 F X hl hE)
theorem s_tableIn {x : Int32} {dflt lo hi off : Int} {offs : Array Int} {len tgt : Nat} (hdg : decode M.2.1 pc = .ok (.tableswitch dflt lo hi offs, len)) (h1 : ¬ x.toInt < lo) (h2 : ¬ hi < x.toInt) (ho : offs[(x.toInt - lo).toNat]? = some off) (ht : (pc : Int) + off = (tgt : Int)) (k : J M d mc ms Q cells slots tgt ls st h) : J M d mc ms Q cells slots pc ls (.inl x :: st) h := by
  intro p l e s m args below meth c D cA ad adV A H locs lsA ad0 h0 F X hl hE
  exact lv_tableIn F.1 F.2.1 hdg h1 h2 ho ht (k p l e s m args below meth c D cA ad adV A H locs lsA ad0 h0 F X hl hE)
theorem s_lookup {x : Int32} {dflt off : Int} {ps : Array (Int × Int)} {len tgt : Nat} (hdg : decode M.2.1 pc = .ok (.lookupswitch dflt ps, len)) (hp : (ps.toList.zip (ps.toList.drop 1)).all (fun (a, next) => a.1 < next.1) = true) (ho : Op.lookupswitch.offset ps.toList dflt x.toInt = off) (ht : (pc : Int) + off = (tgt : Int)) (k : J M d mc ms Q cells slots tgt ls st h) : J M d mc ms Q cells slots pc ls (.inl x :: st) h := by
  intro p l e s m args below meth c D cA ad adV A H locs lsA ad0 h0 F X hl hE
  exact lv_lookup F.1 F.2.1 hdg hp ho ht (k p l e s m args below meth c D cA ad adV A H locs lsA ad0 h0 F X hl hE)
end JS
