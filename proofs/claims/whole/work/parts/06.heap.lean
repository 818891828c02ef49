/-! ===== rules of the heap: fields, arrays, constants ===== -/
theorem zFx.w {M : MM} {p : Program} {s : State} {m : MethodId} {args : Array Value} {meth : Method} {c : Code} (F : zFx M p s m args meth c) {w : Cond} (hw : w ∈ zgw) : w.before args s = true := F.2.2.2.2.2.1 w (List.mem_cons_of_mem _ hw)
theorem zkT_ok : zkT.all (fun q => (decide (q.1 < 12) && decide (q.2 = zN q.1)) || decide (q.1 = 20) || decide (q.1 = 21) || decide (q.1 = 22) || (decide (30 ≤ q.1) && decide (q.1 ≤ 33)) || decide (q.1 = 99)) = true := by decide +kernel
theorem zk_ok (a : Nat) : ((zk a).1 < 12 ∧ (zk a).2 = zN (zk a).1) ∨ (zk a).1 = 20 ∨ (zk a).1 = 21 ∨ (zk a).1 = 22 ∨ (30 ≤ (zk a).1 ∧ (zk a).1 ≤ 33) ∨ (zk a).1 = 99 := by
  unfold zk
  rw [List.getD_eq_getElem?_getD]
  cases hz : zkT[a]? with
  | none => exact Or.inr (Or.inr (Or.inr (Or.inr (Or.inr rfl))))
  | some q =>
    have := List.all_eq_true.mp zkT_ok q (List.mem_of_getElem? hz)
    simp only [Bool.or_eq_true, Bool.and_eq_true, decide_eq_true_eq] at this
    show (q.1 < 12 ∧ q.2 = zN q.1) ∨ q.1 = 20 ∨ q.1 = 21 ∨ q.1 = 22 ∨ (30 ≤ q.1 ∧ q.1 ≤ 33) ∨ q.1 = 99
    omega
theorem zk_obj {a c : Nat} (h : (zk a).1 = c) (hc : c < 12) : (zk a).2 = zN c := by
  have := zk_ok a
  subst h
  omega
theorem zk_lt {a : Nat} (h : (zk a).1 ≠ 99) : a < 205 := by
  unfold zk at h
  rw [List.getD_eq_getElem?_getD] at h
  cases hz : zkT[a]? with
  | none => rw [hz] at h; exact absurd rfl h
  | some q => exact (List.getElem?_eq_some_iff.mp hz).1
def zokO (h : MH) (a c : Nat) : Prop := 0 < a ∧ a ≤ h.2.2.2 ∧ (zk a).1 = c
def zokA (h : MH) (a kc : Nat) (i : Int32) : Prop := 0 < a ∧ a ≤ h.2.2.2 ∧ (zk a).1 = kc ∧ vp_in i (zk a).2
def zokR (h : MH) (a : Nat) (i : Int32) : Prop := 0 < a ∧ a ≤ h.2.2.2 ∧ (30 ≤ (zk a).1 ∧ (zk a).1 ≤ 33) ∧ vp_in i (zk a).2
theorem zrf_pos {ad : Nat → Nat} {a : Nat} (h : 0 < a) : zrf ad a = some (ad a) := if_neg (by omega)
theorem zva_pos {ad : Nat → Nat} {a : Nat} (h : 0 < a) : zva ad (.inr (.inr a)) = .ref (ad a) := by
  show va_rf (zrf ad a) = _
  rw [zrf_pos h]
  rfl
theorem zcell_obj {cA : Nat → ClassId} {ad : Nat → Nat} {h : MH} {a c : Nat} (hk : (zk a).1 = c) (hc : c < 12) : zcell cA ad h a = .inr (c, (List.range (zN c)).map (fun k => zfv ad h a k (zty c k))) := by
  unfold zcell
  rw [if_pos (by omega), zk_obj hk hc, hk]
theorem zcell_i {cA : Nat → ClassId} {ad : Nat → Nat} {h : MH} {a : Nat} (hk : (zk a).1 = 20) : zcell cA ad h a = .inl (cA 20, (zk a).2, .inl (h.1 a)) := by
  unfold zcell
  rw [if_neg (by omega), if_neg (by omega), if_pos hk]
theorem zcell_z {cA : Nat → ClassId} {ad : Nat → Nat} {h : MH} {a : Nat} (hk : (zk a).1 = 22) : zcell cA ad h a = .inl (cA 22, (zk a).2, .inl (h.1 a)) := by
  unfold zcell
  rw [if_neg (by omega), if_neg (by omega), if_neg (by omega), if_pos hk]
theorem zcell_l {cA : Nat → ClassId} {ad : Nat → Nat} {h : MH} {a : Nat} (hk : (zk a).1 = 21) : zcell cA ad h a = .inl (cA 21, (zk a).2, .inr (.inl (h.2.1 a))) := by
  unfold zcell
  rw [if_neg (by omega), if_pos hk]
theorem zcell_r {cA : Nat → ClassId} {ad : Nat → Nat} {h : MH} {a : Nat} (hk : 30 ≤ (zk a).1) : zcell cA ad h a = .inl (cA (zk a).1, (zk a).2, .inr (.inr (.inr (.inr (fun j => zrf ad (h.2.2.1 a j)))))) := by
  unfold zcell
  rw [if_neg (by omega), if_neg (by omega), if_neg (by omega), if_neg (by omega)]
theorem zfl_spec {o i c k pos o' i' : Nat} (hf : zfl o i = some (o', i', c, k, pos)) : c < 12 ∧ k < zN c ∧ Cond.fieldLink (zcn o) i (zT c k).1 (zT c k).2.1 (zT c k).2.2.1 ∈ zgw := by
  have h1 := List.find?_some hf
  have h2 := List.mem_of_find?_eq_some hf
  have h3 := List.all_eq_true.mp zfl_all _ h2
  simp only [Bool.and_eq_true] at h1
  have h1 := And.intro (Nat.eq_of_beq_eq_true h1.1) (Nat.eq_of_beq_eq_true h1.2)
  simp only [zflG, Bool.and_eq_true, decide_eq_true_eq] at h3
  obtain ⟨rfl, rfl⟩ := h1
  exact ⟨h3.1.1, h3.1.2, zin_gw h3.2 rfl⟩
theorem zWd.store {D : va_G} {cA : Nat → ClassId} {ad adV : Nat → Nat} {A : Nat → Prop} {s : State} {H H1 : Heap} {locs locs1 : List Loc} {h h' : MH} {a : Nat} (X : zWd D cA ad adV A s H locs h) (e : zag a h h') (h1 : 0 < a) (h2 : a ≤ h.2.2.2) (hP : va_P D vwCl ((zws cA ad h).set (a - 1) (ad a, zcell cA ad h' a)) H1) (hD : va_D A ((zws cA ad h).set (a - 1) (ad a, zcell cA ad h' a))) (hS : va_S A s.heap H1 locs1) : zWd D cA ad adV A s H1 locs1 h' := by
  refine ⟨X.1, hS, ?_, ?_, X.2.2.2.2.1, X.2.2.2.2.2⟩
  · rw [zws_set e h1 h2]; exact hP
  · rw [zws_set e h1 h2]; exact hD
theorem zEx.store {mc a : Nat} {ad0 ad : Nat → Nat} {h0 h h' : MH} (E : zEx mc ad0 ad h0 h) (e : zag a h h') : zEx mc ad0 ad h0 h' := ⟨E.1, fun q => ⟨(E.2.1 q).1, e.2.trans (E.2.1 q).2⟩, by rw [e.2]; exact E.2.2⟩
def zfld (h : MH) (a k : Nat) (ty : FieldType) : MV := match ty with
  | .int => .inl (h.1 a k)
  | .boolean => .inl (h.1 a k)
  | .long => .inr (.inl (h.2.1 a k))
  | _ => .inr (.inr (h.2.2.1 a k))
theorem zfld_va (ad : Nat → Nat) (h : MH) (a k : Nat) (ty : FieldType) : zva ad (zfld h a k ty) = zfv ad h a k ty := by
  cases ty <;> rfl
def zput (h : MH) (a k : Nat) (ty : FieldType) (v : MV) : Option MH := match ty, v with
  | .int, .inl x => some (zsI h a k x)
  | .boolean, .inl x => some (zsI h a k x)
  | .long, .inr (.inl x) => some (zsL h a k x)
  | .object _, .inr (.inr x) => some (zsR h a k x)
  | .array _, .inr (.inr x) => some (zsR h a k x)
  | _, _ => none
theorem zput_spec {ad : Nat → Nat} {h h' : MH} {a k : Nat} {ty : FieldType} {v : MV} (e : zput h a k ty v = some h') (hb : ty = .boolean → v = .inl 0 ∨ v = .inl 1) : zag a h h' ∧ narrow ty (zva ad v) = zva ad v ∧ fits ty (zva ad v) = true ∧ zfv ad h' a k ty = zva ad v ∧ ∀ j ty', j ≠ k → zfv ad h' a j ty' = zfv ad h a j ty' := by
  unfold zput at e
  split at e
  · rename_i x
    cases e
    refine ⟨zag_I _ _ _ _, rfl, rfl, ?_, ?_⟩
    · show Value.int ((if a = a then upd (h.1 a) k x else h.1 a) k) = .int x
      rw [if_pos rfl]
      show Value.int (if k = k then x else _) = _
      rw [if_pos rfl]
    · intro j ty' hj
      have e1 : (zsI h a k x).1 a j = h.1 a j := by
        show (if a = a then upd (h.1 a) k x else h.1 a) j = _
        rw [if_pos rfl]
        exact if_neg hj
      cases ty' <;> first | rfl | exact congrArg Value.int e1
  · rename_i x
    cases e
    refine ⟨zag_I _ _ _ _, ?_, ?_, ?_, ?_⟩
    · rcases hb rfl with q | q <;> cases q
      · show narrow .boolean (.int 0) = .int 0
        decide
      · show narrow .boolean (.int 1) = .int 1
        decide
    · rcases hb rfl with q | q <;> cases q
      · show fits .boolean (.int 0) = true
        decide
      · show fits .boolean (.int 1) = true
        decide
    · show Value.int ((if a = a then upd (h.1 a) k x else h.1 a) k) = .int x
      rw [if_pos rfl]
      show Value.int (if k = k then x else _) = _
      rw [if_pos rfl]
    · intro j ty' hj
      have e1 : (zsI h a k x).1 a j = h.1 a j := by
        show (if a = a then upd (h.1 a) k x else h.1 a) j = _
        rw [if_pos rfl]
        exact if_neg hj
      cases ty' <;> first | rfl | exact congrArg Value.int e1
  · rename_i x
    cases e
    refine ⟨zag_L _ _ _ _, rfl, rfl, ?_, ?_⟩
    · show Value.long ((if a = a then vp_updL (h.2.1 a) k x else h.2.1 a) k) = .long x
      rw [if_pos rfl]
      show Value.long (if k = k then x else _) = _
      rw [if_pos rfl]
    · intro j ty' hj
      have e1 : (zsL h a k x).2.1 a j = h.2.1 a j := by
        show (if a = a then vp_updL (h.2.1 a) k x else h.2.1 a) j = _
        rw [if_pos rfl]
        exact if_neg hj
      cases ty' <;> first | rfl | exact congrArg Value.long e1
  · rename_i C x
    cases e
    have e0 : ∀ (C : String) (r : Option Nat), narrow (.object C) (va_rf r) = va_rf r ∧ fits (.object C) (va_rf r) = true := by intro C r; cases r <;> exact ⟨rfl, rfl⟩
    refine ⟨zag_R _ _ _ _, (e0 _ _).1, (e0 _ _).2, ?_, ?_⟩
    · show va_rf (zrf ad ((if a = a then va_up (h.2.2.1 a) k x else h.2.2.1 a) k)) = va_rf (zrf ad x)
      rw [if_pos rfl]
      show va_rf (zrf ad (if k = k then x else _)) = _
      rw [if_pos rfl]
    · intro j ty' hj
      have e1 : (zsR h a k x).2.2.1 a j = h.2.2.1 a j := by
        show (if a = a then va_up (h.2.2.1 a) k x else h.2.2.1 a) j = _
        rw [if_pos rfl]
        exact if_neg hj
      cases ty' <;> first | rfl | exact congrArg (fun z => va_rf (zrf ad z)) e1
  · rename_i t x
    cases e
    have e0 : ∀ (t : FieldType) (r : Option Nat), narrow (.array t) (va_rf r) = va_rf r ∧ fits (.array t) (va_rf r) = true := by intro t r; cases r <;> exact ⟨rfl, rfl⟩
    refine ⟨zag_R _ _ _ _, (e0 _ _).1, (e0 _ _).2, ?_, ?_⟩
    · show va_rf (zrf ad ((if a = a then va_up (h.2.2.1 a) k x else h.2.2.1 a) k)) = va_rf (zrf ad x)
      rw [if_pos rfl]
      show va_rf (zrf ad (if k = k then x else _)) = _
      rw [if_pos rfl]
    · intro j ty' hj
      have e1 : (zsR h a k x).2.2.1 a j = h.2.2.1 a j := by
        show (if a = a then va_up (h.2.2.1 a) k x else h.2.2.1 a) j = _
        rw [if_pos rfl]
        exact if_neg hj
      cases ty' <;> first | rfl | exact congrArg (fun z => va_rf (zrf ad z)) e1
  · cases e
section JH
variable {M : MM} {d mc ms : Nat} {Q : Option MV → MH → Prop} {cells slots pc : Nat} {ls : List (Option MV)} {st : List MV} {h : MH}
theorem s_getf {o i c k pos o' i' a : Nat} (hdg : decode M.2.1 pc = .ok (.getfield i, 3)) (ho : zcn o = M.1.cls) (hf : zfl o i = some (o', i', c, k, pos)) (ha : zokO h a c) (kk : J M d mc ms Q cells slots (pc + 3) ls (zfld h a k (zty c k) :: st) h) : J M d mc ms Q cells slots pc ls (.inr (.inr a) :: st) h := by
  intro p l e s m args below meth cd D cA ad adV A H locs lsA ad0 h0 F X hl hE
  obtain ⟨hc, hk, hw⟩ := zfl_spec hf
  have k2 := kk p l e s m args below meth cd D cA ad adV A H locs lsA ad0 h0 F X hl hE
  rw [List.map_cons, zfld_va] at k2
  rw [List.map_cons, zva_pos ha.1]
  have he := zws_at (cA := cA) (ad := ad) ha.1 ha.2.1
  rw [zcell_obj ha.2.2 hc] at he
  rw [ho] at hw
  exact va_get (own := M.1.cls) (C := zcn c) (T := zT c) (N := zN c) (ref := (zT c k).1) F.1 F.2.1 (fun w hw => F.w hw) (zlay_in c hc) F.2.2.2.2.1 X.2.2.2.2.1 X.2.2.1 (a - 1) he (zcl_at c hc) k hk (F.w hw) (fun _ q => q) (by rw [List.getElem?_map, List.getElem?_range hk]; rfl) hdg k2
theorem s_putf {o i c k pos o' i' a : Nat} {v : MV} {h' : MH} (hdg : decode M.2.1 pc = .ok (.putfield i, 3)) (ho : zcn o = M.1.cls) (hf : zfl o i = some (o', i', c, k, pos)) (hp : zput h a k (zty c k) v = some h') (hfin : (zT c k).2.2.2 = false ∨ (M.1.name = "<init>" ∧ (zT c k).1 = M.1.cls)) (ha : zokO h a c) (hb : zty c k = .boolean → v = .inl 0 ∨ v = .inl 1) (kk : J M d mc ms Q cells slots (pc + 3) ls st h') : J M d mc ms Q cells slots pc ls (v :: .inr (.inr a) :: st) h := by
  intro p l e s m args below meth cd D cA ad adV A H locs lsA ad0 h0 F X hl hE
  obtain ⟨hc, hk, hw⟩ := zfl_spec hf
  obtain ⟨z1, z2, z3, z4, z5⟩ := zput_spec (ad := ad) hp hb
  rw [List.map_cons, List.map_cons, zva_pos ha.1]
  have he := zws_at (cA := cA) (ad := ad) ha.1 ha.2.1
  rw [zcell_obj ha.2.2 hc] at he
  rw [ho] at hw
  have hcell : zcell cA ad h' a = .inr (c, ((List.range (zN c)).map (fun k => zfv ad h a k (zty c k))).set k (zva ad v)) := by
    rw [zcell_obj ha.2.2 hc, zmap_set (f := fun k => zfv ad h a k (zty c k)) hk (fun j hj => z5 j _ hj), z4]
  have go : ∀ (H1 : Heap) (locs1 : List Loc), va_P D vwCl ((zws cA ad h).set (a - 1) (ad a, .inr (c, ((List.range (zN c)).map (fun k => zfv ad h a k (zty c k))).set k (zva ad v)))) H1 → va_D A ((zws cA ad h).set (a - 1) (ad a, .inr (c, ((List.range (zN c)).map (fun k => zfv ad h a k (zty c k))).set k (zva ad v)))) → va_S A s.heap H1 locs1 → W p l e (zrm d mc ms) s m args below meth cd H1 locs1 cells slots (MQ below (fun _ => zEnd mc D cA ad0 h0 A Q) args s mc ms A) (F0 m (pc + 3) lsA (st.map (zva ad))) := by
    intro H1 locs1 q1 q2 q3
    rw [← hcell] at q1 q2
    exact kk p l e s m args below meth cd D cA ad adV A H1 locs1 lsA ad0 h0 F (X.store z1 ha.1 ha.2.1 q1 q2 q3) hl (hE.store z1)
  cases hz : (zT c k).2.2.2 with
  | false => exact va_put (own := M.1.cls) (C := zcn c) (T := zT c) (N := zN c) (ref := (zT c k).1) (ty := zty c k) F.1 F.2.1 (fun w hw => F.w hw) (zlay_in c hc) (zty c) (zty_ok c hc) (znm_ok c hc) F.2.2.2.2.1 X.2.2.2.2.1 X.2.2.1 X.2.2.2.1 X.2.1 (a - 1) he (zcl_at c hc) k hk (F.w hw) (fun _ q => q) hz (zty_ok c hc k hk) z2 z3 (by rw [List.length_map, List.length_range]; exact hk) hdg go
  | true =>
    obtain ⟨hi, hd⟩ : M.1.name = "<init>" ∧ (zT c k).1 = M.1.cls := by
      rcases hfin with q | q
      · rw [hz] at q; cases q
      · exact q
    exact va_putF (own := M.1.cls) (C := zcn c) (T := zT c) (N := zN c) (ref := (zT c k).1) (ty := zty c k) F.1 F.2.1 (fun w hw => F.w hw) (zlay_in c hc) (zty c) (zty_ok c hc) (znm_ok c hc) F.2.2.2.2.1 X.2.2.2.2.1 X.2.2.1 X.2.2.2.1 X.2.1 (a - 1) he (zcl_at c hc) k hk (F.w hw) (fun _ q => q) hz (F.2.2.2.2.2.2.2.trans hi) hd (zty_ok c hc k hk) z2 z3 (by rw [List.length_map, List.length_range]; exact hk) hdg go
theorem s_iaload {a : Nat} {i : Int32} (hdg : decode M.2.1 pc = .ok (.iaload, 1)) (ha : zokA h a 20 i) (kk : J M d mc ms Q cells slots (pc + 1) ls (.inl (h.1 a i.toNatClampNeg) :: st) h) : J M d mc ms Q cells slots pc ls (.inl i :: .inr (.inr a) :: st) h := by
  intro p l e s m args below meth cd D cA ad adV A H locs lsA ad0 h0 F X hl hE
  have k2 := kk p l e s m args below meth cd D cA ad adV A H locs lsA ad0 h0 F X hl hE
  rw [List.map_cons, List.map_cons, zva_pos ha.1]
  have he := zws_at (cA := cA) (ad := ad) ha.1 ha.2.1
  rw [zcell_i ha.2.2.1] at he
  exact va_iald F.1 F.2.1 X.2.2.2.2.1 X.2.2.1 (a - 1) 0 he rfl ha.2.2.2 hdg k2
theorem s_baload {a : Nat} {i : Int32} (hdg : decode M.2.1 pc = .ok (.baload, 1)) (ha : zokA h a 22 i) (kk : J M d mc ms Q cells slots (pc + 1) ls (.inl (h.1 a i.toNatClampNeg) :: st) h) : J M d mc ms Q cells slots pc ls (.inl i :: .inr (.inr a) :: st) h := by
  intro p l e s m args below meth cd D cA ad adV A H locs lsA ad0 h0 F X hl hE
  have k2 := kk p l e s m args below meth cd D cA ad adV A H locs lsA ad0 h0 F X hl hE
  rw [List.map_cons, List.map_cons, zva_pos ha.1]
  have he := zws_at (cA := cA) (ad := ad) ha.1 ha.2.1
  rw [zcell_z ha.2.2.1] at he
  exact va_zald F.1 F.2.1 X.2.2.2.2.1 X.2.2.1 (a - 1) 2 he rfl ha.2.2.2 hdg k2
theorem s_laload {a : Nat} {i : Int32} (hdg : decode M.2.1 pc = .ok (.laload, 1)) (ha : zokA h a 21 i) (kk : J M d mc ms Q cells slots (pc + 1) ls (.inr (.inl (h.2.1 a i.toNatClampNeg)) :: st) h) : J M d mc ms Q cells slots pc ls (.inl i :: .inr (.inr a) :: st) h := by
  intro p l e s m args below meth cd D cA ad adV A H locs lsA ad0 h0 F X hl hE
  have k2 := kk p l e s m args below meth cd D cA ad adV A H locs lsA ad0 h0 F X hl hE
  rw [List.map_cons, List.map_cons, zva_pos ha.1]
  have he := zws_at (cA := cA) (ad := ad) ha.1 ha.2.1
  rw [zcell_l ha.2.2.1] at he
  exact va_lald F.1 F.2.1 X.2.2.2.2.1 X.2.2.1 (a - 1) 1 he rfl ha.2.2.2 hdg k2
theorem zat_r {n : Nat} (h : 30 ≤ n ∧ n ≤ 33) : n = 30 ∨ n = 31 ∨ n = 32 ∨ n = 33 := by omega
theorem s_aaload {a : Nat} {i : Int32} (hdg : decode M.2.1 pc = .ok (.aaload, 1)) (ha : zokR h a i) (kk : J M d mc ms Q cells slots (pc + 1) ls (.inr (.inr (h.2.2.1 a i.toNatClampNeg)) :: st) h) : J M d mc ms Q cells slots pc ls (.inl i :: .inr (.inr a) :: st) h := by
  intro p l e s m args below meth cd D cA ad adV A H locs lsA ad0 h0 F X hl hE
  have k2 := kk p l e s m args below meth cd D cA ad adV A H locs lsA ad0 h0 F X hl hE
  rw [List.map_cons, List.map_cons, zva_pos ha.1]
  have he := zws_at (cA := cA) (ad := ad) ha.1 ha.2.1
  rw [zcell_r ha.2.2.1.1] at he
  rcases zat_r ha.2.2.1 with q | q | q | q <;> rw [q] at he
  · exact va_aldq F.1 F.2.1 X.2.2.2.2.1 X.2.2.1 (a - 1) 3 he rfl ha.2.2.2 hdg k2
  · exact va_aldq F.1 F.2.1 X.2.2.2.2.1 X.2.2.1 (a - 1) 4 he rfl ha.2.2.2 hdg k2
  · exact va_aldq F.1 F.2.1 X.2.2.2.2.1 X.2.2.1 (a - 1) 5 he rfl ha.2.2.2 hdg k2
  · have hlt : i.toNatClampNeg < (zk a).2 := Nat.not_le.mp fun q => ha.2.2.2 (Or.inr q)
    exact W.aald (v := va_rf (zrf ad (h.2.2.1 a i.toNatClampNeg))) (ty := .array .int) F.1 F.2.1 (X.2.2.1 (a - 1) _ he) ((X.2.2.2.2.1.2 6 _ rfl).1 (zk a).2 (fun j => va_rf (zrf ad (h.2.2.1 a j)))) rfl (fun q => by cases q) (by show ¬ (i < 0 ∨ (arrV _ _ _).slots.size ≤ _); rw [arrV_size]; exact ha.2.2.2) (by show (arrV _ _ _).slots[_]? = _; rw [arrV_read _ _ hlt]) rfl rfl hdg k2
theorem s_iastore {a : Nat} {i x : Int32} (hdg : decode M.2.1 pc = .ok (.iastore, 1)) (ha : zokA h a 20 i) (kk : J M d mc ms Q cells slots (pc + 1) ls st (zsI h a i.toNatClampNeg x)) : J M d mc ms Q cells slots pc ls (.inl x :: .inl i :: .inr (.inr a) :: st) h := by
  intro p l e s m args below meth cd D cA ad adV A H locs lsA ad0 h0 F X hl hE
  rw [List.map_cons, List.map_cons, List.map_cons, zva_pos ha.1]
  have he := zws_at (cA := cA) (ad := ad) ha.1 ha.2.1
  rw [zcell_i ha.2.2.1] at he
  have hcell : zcell cA ad (zsI h a i.toNatClampNeg x) a = .inl (cA 20, (zk a).2, .inl (upd (h.1 a) i.toNatClampNeg x)) := by
    rw [zcell_i ha.2.2.1]
    show Sum.inl (cA 20, (zk a).2, Sum.inl (if a = a then _ else _)) = _
    rw [if_pos rfl]
  refine va_iast F.1 F.2.1 X.2.2.2.2.1 X.2.2.1 X.2.2.2.1 X.2.1 (a - 1) 0 he rfl ha.2.2.2 hdg (fun H1 locs1 q1 q2 q3 => ?_)
  rw [← hcell] at q1 q2
  exact kk p l e s m args below meth cd D cA ad adV A H1 locs1 lsA ad0 h0 F (X.store (zag_I _ _ _ _) ha.1 ha.2.1 q1 q2 q3) hl (hE.store (zag_I h a _ _))
theorem s_bastore {a : Nat} {i x : Int32} (hdg : decode M.2.1 pc = .ok (.bastore, 1)) (ha : zokA h a 22 i) (hx : x = 0 ∨ x = 1) (kk : J M d mc ms Q cells slots (pc + 1) ls st (zsI h a i.toNatClampNeg x)) : J M d mc ms Q cells slots pc ls (.inl x :: .inl i :: .inr (.inr a) :: st) h := by
  intro p l e s m args below meth cd D cA ad adV A H locs lsA ad0 h0 F X hl hE
  rw [List.map_cons, List.map_cons, List.map_cons, zva_pos ha.1]
  have he := zws_at (cA := cA) (ad := ad) ha.1 ha.2.1
  rw [zcell_z ha.2.2.1] at he
  have hnar : vp_nar .boolean x = x := by rcases hx with q | q <;> subst q <;> decide
  have hcell : zcell cA ad (zsI h a i.toNatClampNeg x) a = .inl (cA 22, (zk a).2, .inl (upd (h.1 a) i.toNatClampNeg (vp_nar .boolean x))) := by
    rw [zcell_z ha.2.2.1, hnar]
    show Sum.inl (cA 22, (zk a).2, Sum.inl (if a = a then _ else _)) = _
    rw [if_pos rfl]
  refine va_zast F.1 F.2.1 X.2.2.2.2.1 X.2.2.1 X.2.2.2.1 X.2.1 (a - 1) 2 he rfl ha.2.2.2 hdg (fun H1 locs1 q1 q2 q3 => ?_)
  rw [← hcell] at q1 q2
  exact kk p l e s m args below meth cd D cA ad adV A H1 locs1 lsA ad0 h0 F (X.store (zag_I _ _ _ _) ha.1 ha.2.1 q1 q2 q3) hl (hE.store (zag_I h a _ _))
theorem s_lastore {a : Nat} {i : Int32} {x : Int64} (hdg : decode M.2.1 pc = .ok (.lastore, 1)) (ha : zokA h a 21 i) (kk : J M d mc ms Q cells slots (pc + 1) ls st (zsL h a i.toNatClampNeg x)) : J M d mc ms Q cells slots pc ls (.inr (.inl x) :: .inl i :: .inr (.inr a) :: st) h := by
  intro p l e s m args below meth cd D cA ad adV A H locs lsA ad0 h0 F X hl hE
  rw [List.map_cons, List.map_cons, List.map_cons, zva_pos ha.1]
  have he := zws_at (cA := cA) (ad := ad) ha.1 ha.2.1
  rw [zcell_l ha.2.2.1] at he
  have hcell : zcell cA ad (zsL h a i.toNatClampNeg x) a = .inl (cA 21, (zk a).2, .inr (.inl (vp_updL (h.2.1 a) i.toNatClampNeg x))) := by
    rw [zcell_l ha.2.2.1]
    show Sum.inl (cA 21, (zk a).2, Sum.inr (Sum.inl (if a = a then _ else _))) = _
    rw [if_pos rfl]
  refine va_last F.1 F.2.1 X.2.2.2.2.1 X.2.2.1 X.2.2.2.1 X.2.1 (a - 1) 1 he rfl ha.2.2.2 hdg (fun H1 locs1 q1 q2 q3 => ?_)
  rw [← hcell] at q1 q2
  exact kk p l e s m args below meth cd D cA ad adV A H1 locs1 lsA ad0 h0 F (X.store (zag_L _ _ _ _) ha.1 ha.2.1 q1 q2 q3) hl (hE.store (zag_L h a _ _))
theorem s_alen {a : Nat} (hdg : decode M.2.1 pc = .ok (.arraylength, 1)) (h1 : 0 < a) (h2 : a ≤ h.2.2.2) (h3 : (zk a).1 = 20) (kk : J M d mc ms Q cells slots (pc + 1) ls (.inl (Int32.ofNat (zk a).2) :: st) h) : J M d mc ms Q cells slots pc ls (.inr (.inr a) :: st) h := by
  intro p l e s m args below meth cd D cA ad adV A H locs lsA ad0 h0 F X hl hE
  have k2 := kk p l e s m args below meth cd D cA ad adV A H locs lsA ad0 h0 F X hl hE
  rw [List.map_cons, zva_pos h1]
  have he := zws_at (cA := cA) (ad := ad) h1 h2
  rw [zcell_i h3] at he
  exact va_alen F.1 F.2.1 X.2.2.2.2.1 X.2.2.1 (a - 1) 0 he rfl rfl hdg k2
theorem zld_spec {o i o' i' pos : Nat} {v : Int32} (hf : zld o i = some (o', i', v, pos)) : Cond.constant (zcn o) i v ∈ zgw := by
  have h1 := List.find?_some hf
  have h2 := List.mem_of_find?_eq_some hf
  have h3 := List.all_eq_true.mp zld_all _ h2
  simp only [Bool.and_eq_true] at h1
  have h1 := And.intro (Nat.eq_of_beq_eq_true h1.1) (Nat.eq_of_beq_eq_true h1.2)
  simp only [decide_eq_true_eq] at h3
  obtain ⟨rfl, rfl⟩ := h1
  exact zin_gw h3 rfl
theorem zl2_spec {o i o' i' pos : Nat} {v : Int64} (hf : zl2 o i = some (o', i', v, pos)) : Cond.constantLong (zcn o) i v ∈ zgw := by
  have h1 := List.find?_some hf
  have h2 := List.mem_of_find?_eq_some hf
  have h3 := List.all_eq_true.mp zl2_all _ h2
  simp only [Bool.and_eq_true] at h1
  have h1 := And.intro (Nat.eq_of_beq_eq_true h1.1) (Nat.eq_of_beq_eq_true h1.2)
  simp only [decide_eq_true_eq] at h3
  obtain ⟨rfl, rfl⟩ := h1
  exact zin_gw h3 rfl
theorem s_ldc {o i o' i' pos : Nat} {v : Int32} (hdg : decode M.2.1 pc = .ok (.ldc i, 2)) (ho : zcn o = M.1.cls) (hf : zld o i = some (o', i', v, pos)) (k : J M d mc ms Q cells slots (pc + 2) ls (.inl v :: st) h) : J M d mc ms Q cells slots pc ls st h := by
  intro p l e s m args below meth cd D cA ad adV A H locs lsA ad0 h0 F X hl hE
  have hw := zld_spec hf
  rw [ho] at hw
  exact lv_ldc F.1 F.2.1 F.2.2.2.2.1 (F.w hw) hdg (k p l e s m args below meth cd D cA ad adV A H locs lsA ad0 h0 F X hl hE)
theorem s_ldcw {o i o' i' pos : Nat} {v : Int32} (hdg : decode M.2.1 pc = .ok (.ldc_w i, 3)) (ho : zcn o = M.1.cls) (hf : zld o i = some (o', i', v, pos)) (k : J M d mc ms Q cells slots (pc + 3) ls (.inl v :: st) h) : J M d mc ms Q cells slots pc ls st h := by
  intro p l e s m args below meth cd D cA ad adV A H locs lsA ad0 h0 F X hl hE
  have hw := zld_spec hf
  rw [ho] at hw
  exact lv_ldcw F.1 F.2.1 F.2.2.2.2.1 (F.w hw) hdg (k p l e s m args below meth cd D cA ad adV A H locs lsA ad0 h0 F X hl hE)
theorem s_ldc2 {o i o' i' pos : Nat} {v : Int64} (hdg : decode M.2.1 pc = .ok (.ldc2_w i, 3)) (ho : zcn o = M.1.cls) (hf : zl2 o i = some (o', i', v, pos)) (k : J M d mc ms Q cells slots (pc + 3) ls (.inr (.inl v) :: st) h) : J M d mc ms Q cells slots pc ls st h := by
  intro p l e s m args below meth cd D cA ad adV A H locs lsA ad0 h0 F X hl hE
  have hw := zl2_spec hf
  rw [ho] at hw
  exact lv_ldc2 F.1 F.2.1 F.2.2.2.2.1 (F.w hw) hdg (k p l e s m args below meth cd D cA ad adV A H locs lsA ad0 h0 F X hl hE)
theorem s_ldcS {i j : Nat} {tx : String} (hdg : decode M.2.1 pc = .ok (.ldc i, 2)) (hj : zsx[j]? = some (M.1.cls, i, tx)) (k : J M d mc ms Q cells slots (pc + 2) ls (.inr (.inr (1000 + j)) :: st) h) : J M d mc ms Q cells slots pc ls st h := by
  intro p l e s m args below meth cd D cA ad adV A H locs lsA ad0 h0 F X hl hE
  have k2 := k p l e s m args below meth cd D cA ad adV A H locs lsA ad0 h0 F X hl hE
  rw [List.map_cons, zva_pos (by omega)] at k2
  exact va_ldcS F.1 F.2.1 F.2.2.2.2.1 (X.2.2.2.2.2.2.2.1 j _ hj) hdg k2
end JH
