/-! ===== calls ===== -/
theorem zEv.go {ad adV : Nat → Nat} {A B : Nat → Prop} {s U : State} {H : Heap} (E : zEv ad adV A s s.heap) (hW : s.WarmedH U.vm) (hq : ∀ a : Nat, a < s.heap.size → ¬ A a → H[a]? = s.heap[a]?) (hU : U.heap = H) (hAB : ∀ q, B q → A q) : zEv ad adV B U U.heap := by
  obtain ⟨e1, ⟨e2, e3, e4, e5⟩, e6, e7, e8, e9⟩ := E
  subst hU
  exact ⟨fun q hq => va_Nw.warmM hW (e1 q hq), ⟨e2.moved hW.alike, e3.moved hW.alike, e4.moved hW.alike, over_moved hW.alike e5⟩, fun i q hi => vk_R.warm hW (e6 i q hi), ((e7.kept hq).moved hW.alike).narrow hAB, ((e8.kept hq).moved hW.alike).narrow hAB, ((e9.kept hq).moved hW.alike).narrow hAB⟩
theorem zEv.same {ad adV : Nat → Nat} {A : Nat → Prop} {u U : State} {H : Heap} (E : zEv ad adV A u H) (hv : U.vm = u.vm) : zEv ad adV A U H := by
  obtain ⟨e1, ⟨e2, e3, e4, e5⟩, e6, e7, e8, e9⟩ := E
  have hal : u.vm.Alike U.vm := by rw [hv]; exact Vm.Alike.refl _
  exact ⟨fun q hq => va_Nw.same rfl hv.symm (e1 q hq), ⟨e2.moved hal, e3.moved hal, e4.moved hal, over_moved hal e5⟩, fun i q hi => vk_R.same hv (e6 i q hi), e7.moved hal, e8.moved hal, e9.moved hal⟩
theorem zEv.ext {ad ad' adV : Nat → Nat} {A : Nat → Prop} {s : State} {H : Heap} (E : zEv ad adV A s H) (h : ∀ i, 1000 ≤ i → ad' i = ad i) : zEv ad' adV A s H := by
  obtain ⟨e1, e2, e6, e7, e8⟩ := E
  have hf : (fun i => ad' (1000 + i)) = (fun i => ad (1000 + i)) := funext fun i => h (1000 + i) (by omega)
  refine ⟨e1, e2, fun i q hi => ?_, ?_, e8⟩
  · rw [h (1000 + i) (by omega)]; exact e6 i q hi
  · rw [hf]; exact e7
def zvl (n : Nat) (v : MV) : Prop := match v with
  | .inr (.inr r) => r ≤ n ∨ 1000 ≤ r
  | _ => True
theorem zva_ext {ad ad' : Nat → Nat} {n : Nat} {v : MV} (E : ∀ i, i ≤ n ∨ 1000 ≤ i → ad' i = ad i) (hv : zvl n v) : zva ad' v = zva ad v := by
  match v, hv with
  | .inl _, _ => rfl
  | .inr (.inl _), _ => rfl
  | .inr (.inr r), hv =>
    show va_rf (zrf ad' r) = va_rf (zrf ad r)
    unfold zrf
    rw [E r hv]
theorem zmap_ext {ad ad' : Nat → Nat} {n : Nat} {st : List MV} (E : ∀ i, i ≤ n ∨ 1000 ≤ i → ad' i = ad i) (hv : ∀ v ∈ st, zvl n v) : st.map (zva ad') = st.map (zva ad) := List.map_congr_left (fun v h => zva_ext E (hv v h))
theorem zlv_ext {ad ad' : Nat → Nat} {n : Nat} {ls : List (Option MV)} (E : ∀ i, i ≤ n ∨ 1000 ≤ i → ad' i = ad i) (hv : ∀ v, some v ∈ ls → zvl n v) {lsA : Array Slot} {nL : Nat} (h : lv_has lsA nL (zlv ad ls)) : lv_has lsA nL (zlv ad' ls) := by
  refine ⟨h.1, h.2.1, fun q hq => h.2.2 q ?_⟩
  obtain ⟨v, h1, h2⟩ := zlv_mem.mp hq
  exact zlv_mem.mpr ⟨v, h1, by rw [h2]; exact zva_ext E (hv v (List.mem_of_getElem? h1))⟩
/-- refs of the frame that stay behind a call that may make cells -/
def zvs (h : MH) (ls : List (Option MV)) (st : List MV) : Prop := (∀ v ∈ st, zvl h.2.2.2 v) ∧ ∀ v, some v ∈ ls → zvl h.2.2.2 v
section JC
variable {M : MM} {d mc ms : Nat} {Q : Option MV → MH → Prop} {cells slots pc : Nat} {ls : List (Option MV)} {st : List MV} {h : MH}
theorem zFr {cA : Nat → ClassId} {ad adV : Nat → Nat} {D : va_G} {A : Nat → Prop} {s : State} {H : Heap} {locs : List Loc} (X : zWd D cA ad adV A s H locs h) : ∀ q, va_A (zws cA ad h) H.size q → A q := by
  intro q hq
  rcases hq with ⟨k, e, hk⟩ | hq
  · exact X.2.2.2.1.2 k (q, e) hk
  · exact X.1 q (Nat.le_trans X.2.1.1 hq)
theorem zcall {p : Program} {l : Launch} {e : Env} {s : State} {m : MethodId} {args : Array Value} {below : List Frame} {meth : Method} {c : Code} {D : va_G} {cA : Nat → ClassId} {ad adV : Nat → Nat} {A : Nat → Prop} {H : Heap} {locs : List Loc} {lsA : Array Slot} {ad0 : Nat → Nat} {h0 : MH} {mc' ms' : Nat} {Q' : Option MV → MH → Prop} {st0 : List Value}
    (F : zFx M p s m args meth c) (X : zWd D cA ad adV A s H locs h) (hl : lv_has lsA M.2.2.1 (zlv ad ls)) (hE : zEx mc ad0 ad h0 h) (hm : cells + mc' ≤ mc) (hv : mc' ≠ 0 → zvs h ls st)
    (hr : va_Run p l e (zrm d mc ms) s m args below meth c H locs cells slots mc' ms' (F0 m pc lsA st0) (st.map (zva ad)) (zEnd mc' D cA ad h (va_A (zws cA ad h) H.size) Q') (va_A (zws cA ad h) H.size))
    (kk : ∀ r h', Q' r h' → J M d mc ms Q (cells + mc') (slots + ms') (pc + 3) ls (r.toList ++ st) h') :
    W p l e (zrm d mc ms) s m args below meth c H locs cells slots (MQ below (fun _ => zEnd mc D cA ad0 h0 A Q) args s mc ms A) (F0 m pc lsA st0) := by
  intro T hT Z
  obtain ⟨v, st₀, t, T', L, q0, Z', hL, e1, e2, ⟨⟨r, ad', h', hv1, hq, ⟨x1, x2, x3⟩, hP, hK, hD⟩, hz, hk⟩, go⟩ := hr T hT Z
  cases hv1
  rw [q0] at hz hk
  have hF := zFr X
  have hS : va_S A s.heap T'.heap (locs ++ L) := ⟨Nat.le_trans X.2.1.1 (by rw [e1]; exact hz), fun q h1 h2 => by rw [e1, hk q (Nat.lt_of_lt_of_le h1 X.2.1.1) (fun z => h2 (hF q z))]; exact X.2.1.2.1 q h1 h2, fun q hq => by
      rcases List.mem_append.mp hq with h | h
      · exact X.2.1.2.2 q h
      · exact hF _ (hL q h)⟩
  have X' : zWd D cA ad' adV A s T'.heap (locs ++ L) h' := ⟨X.1, hS, by rw [e1]; exact hP, hD.weaken (fun k q _ h => hF q.1 h), X.2.2.2.2.1, X.2.2.2.2.2.ext (fun i hi => x1 i (Or.inr hi))⟩
  have hE' : zEx mc ad0 ad' h0 h' := ⟨fun i hi => (x1 i (hi.elim (fun q => Or.inl (Nat.le_trans q hE.2.2)) Or.inr)).trans (hE.1 i hi), fun q => by
      have q2 : mc' = 0 := by omega
      exact ⟨(x2 q2).1.trans (hE.2.1 q).1, (x2 q2).2.trans (hE.2.1 q).2⟩, Nat.le_trans hE.2.2 x3⟩
  have hl' : lv_has lsA M.2.2.1 (zlv ad' ls) := by
    by_cases q : mc' = 0
    · rw [(x2 q).1]; exact hl
    · exact zlv_ext x1 (hv q).2 hl
  have hst : st.map (zva ad') = st.map (zva ad) := by
    by_cases q : mc' = 0
    · rw [(x2 q).1]
    · exact zmap_ext x1 (hv q).1
  obtain ⟨t2, a1, b1⟩ := kk r h' hq p l e s m args below meth c D cA ad' adV A T'.heap (locs ++ L) lsA ad0 h0 F X' hl' hE' T' rfl Z'
  refine ⟨t2, go t2 ?_, b1⟩
  have es : (r.toList ++ st).map (zva ad') = (r.map (zva ad')).toList ++ st.map (zva ad) := by
    rw [List.map_append, hst]
    cases r <;> rfl
  rw [es] at a1
  exact a1
theorem zPre {cA : Nat → ClassId} {ad adV : Nat → Nat} {D : va_G} {A : Nat → Prop} {s : State} {H : Heap} {locs : List Loc} {av : List MV} (X : zWd D cA ad adV A s H locs h) : PreS s H (va_Pc (av.map (zva ad)) (fun U => U.heap.size = H.size ∧ va_P D vwCl (zws cA ad h) U.heap ∧ va_K D vwCl (ztys cA) U ∧ va_D (fun _ => True) (zws cA ad h) ∧ zEv ad adV (va_A (zws cA ad h) H.size) U U.heap)) (av.map (zva ad)) := by
  refine ⟨fun a U g mk q => ?_, fun U hU hW => ?_⟩
  · obtain ⟨q0, q1, qP, qK, qD, qE⟩ := q
    exact ⟨q0, q1, qP, va_K.moved (u := U) (U := U.calling g mk a) (Vm.Alike.refl U.vm) qK, qD, qE.same (U := U.calling g mk a) rfl⟩
  · exact ⟨rfl, by rw [hU], by rw [hU]; exact X.2.2.1, va_K.moved hW.alike X.2.2.2.2.1, X.2.2.2.1.weaken (fun _ _ _ _ => trivial), X.2.2.2.2.2.go hW X.2.1.2.1 hU (zFr X)⟩
/-- the words of a call -/
def zLk (own : String) (idx n : Nat) (N : MM) : Prop := (Cond.methodLink own idx N.1 ∈ zgw ∧ Cond.initialized N.1.cls ∈ zgw ∧ Cond.code N.1 N.2.1 N.2.2.1 N.2.2.2 ∈ zgw) ∧ (N.1.cls ≠ "java/lang/invoke/MethodHandle" ∧ N.1.cls ≠ "java/lang/invoke/VarHandle" ∧ (parseMethodDescriptor N.1.desc).map (fun d => d.parameters.length) = some n) ∧ N.2.2.1 ≤ 41
def zLv (own : String) (idx n : Nat) (N : MM) : Prop := zLk own idx n N ∧ Cond.instanceMethod N.1 ∈ zgw ∧ Cond.selects N.1.cls N.1 N.1 ∈ zgw
def zLs (own : String) (idx n : Nat) (N : MM) : Prop := zLk own idx n N ∧ Cond.static N.1 ∈ zgw
theorem zgood {M N : MM} (h : Cond.code N.1 N.2.1 N.2.2.1 N.2.2.2 ∈ zgw) : GoodIn (zwd M) (zwd N) := by
  intro w hw
  have hg : w ∈ zgw := by
    rcases List.mem_cons.mp hw with q | q
    · rw [q]; exact h
    · exact q
  exact ⟨List.mem_cons_of_mem _ hg, good_of_word (List.mem_filter.mp hg).2⟩
theorem zCB {N : MM} {idx n : Nat} {mc' ms' d' : Nat} {p : Program} {s : State} {m : MethodId} {args : Array Value} {meth : Method} {c : Code} (F : zFx M p s m args meth c) (hk : zLk M.1.cls idx n N) (hd : d' + 1 ≤ d) : CallB (zrm d mc ms) s args M.1.cls idx N.1 N.2.1 N.2.2.1 N.2.2.2 (zwd N) (zrm d' mc' ms') mc' ms' n :=
  callB_of (Ts := zwd M) n F.2.2.2.2.2.1 (zgood hk.1.2.2) rfl rfl rfl (F.w hk.1.2.1) (F.w hk.1.1) hk.2.1 ⟨hd, by show 8 + (N.2.2.1 + 11) + 60 * d' ≤ 60 * d; have := hk.2.2; omega⟩
theorem zcats (ad : Nat → Nat) : ∀ (st : List MV), ((st.map (zva ad)).map fun v => v.category).sum ≤ 2 * st.length
  | [] => Nat.le_refl 0
  | v :: r => by
    have h1 := zcats ad r
    have h2 : (zva ad v).category ≤ 2 := by rcases lv_cat (zva ad v) with q | q <;> omega
    simp only [List.map_cons, List.sum_cons, List.length_cons]
    omega
theorem s_callV {N : MM} {idx n d' mc' ms' a : Nat} {as : List MV} {Q' : Option MV → MH → Prop} (hdg : decode M.2.1 pc = .ok (.invokevirtual idx, 3)) (hk : zLv M.1.cls idx n N) (hd : d' + 1 ≤ d) (hn : as.length = n) (hs : st.length ≤ 4) (hm : cells + mc' ≤ mc ∧ slots + ms' ≤ ms) (hv : mc' ≠ 0 → zvs h ls st) {ci : Nat} (hci : ci < 12) (hcn : zcn ci = N.1.cls) (ha : zokO h a ci)
    (hC : Con N d' mc' ms' (.inr (.inr a) :: as) h Q') (kk : ∀ r h', Q' r h' → J M d mc ms Q (cells + mc') (slots + ms') (pc + 3) ls (r.toList ++ st) h') : J M d mc ms Q cells slots pc ls (as.reverse ++ .inr (.inr a) :: st) h := by
  intro p l e s m args below meth c D cA ad adV A H locs lsA ad0 h0 F X hl hE
  refine zcall F X hl hE hm.1 hv ?_ kk
  have hp := zPre (av := .inr (.inr a) :: as) X
  have e0 : (Sum.inr (Sum.inr a) :: as : List MV).map (zva ad) = Value.ref (ad a) :: as.map (zva ad) := by rw [List.map_cons, zva_pos ha.1]
  have he := zws_at (cA := cA) (ad := ad) ha.1 ha.2.1
  rw [zcell_obj ha.2.2 hci] at he
  have hrecv := va_recv X.2.2.2.2.1 X.2.2.1 (zcl_at ci hci) he
  rw [show ((zcn ci, zT ci, zN ci) : vw_C).1 = zcn ci from rfl, hcn] at hrecv
  have cw : CallW (zrm d mc ms) s args M.1.cls N.1.cls idx N.1 N.2.1 N.2.2.1 N.2.2.2 (zwd N) (zrm d' mc' ms') mc' ms' n := ⟨zCB F hk.1 hd, F.w hk.2.1, F.w hk.2.2⟩
  have hM := hC l D cA ad adV H.size
  rw [e0] at hp hM
  exact va_runV (Ts := zwd M) (own := M.1.cls) (C := N.1.cls) (b := ad a) (As := as.map (zva ad)) (rest := st.map (zva ad)) ⟨F.1, F.2.1, F.2.2.1, F.2.2.2.2.1, F.2.2.2.2.2.1⟩ hM cw ⟨hp.1, hrecv, hp.2⟩ rfl (by rw [List.length_map]; exact hn) hl.1 (by rw [List.map_append, List.map_reverse, List.map_cons, zva_pos ha.1]) (lv_room (by have := zcats ad st; omega)) hdg hm
theorem s_callS {N : MM} {idx n d' mc' ms' : Nat} {as : List MV} {Q' : Option MV → MH → Prop} (hdg : decode M.2.1 pc = .ok (.invokestatic idx, 3)) (hk : zLs M.1.cls idx n N) (hd : d' + 1 ≤ d) (hn : as.length = n) (hs : st.length ≤ 4) (hm : cells + mc' ≤ mc ∧ slots + ms' ≤ ms) (hv : mc' ≠ 0 → zvs h ls st)
    (hC : Con N d' mc' ms' as h Q') (kk : ∀ r h', Q' r h' → J M d mc ms Q (cells + mc') (slots + ms') (pc + 3) ls (r.toList ++ st) h') : J M d mc ms Q cells slots pc ls (as.reverse ++ st) h := by
  intro p l e s m args below meth c D cA ad adV A H locs lsA ad0 h0 F X hl hE
  refine zcall F X hl hE hm.1 hv ?_ kk
  have hp := zPre (av := as) X
  exact va_runS (Ts := zwd M) (own := M.1.cls) (As := as.map (zva ad)) (rest := st.map (zva ad)) ⟨F.1, F.2.1, F.2.2.1, F.2.2.2.2.1, F.2.2.2.2.2.1⟩ (hC l D cA ad adV H.size) ⟨zCB F hk.1 hd, F.w hk.2⟩ hp rfl (by rw [List.length_map]; exact hn) hl.1 (by rw [List.map_append, List.map_reverse]) (lv_room (by have := zcats ad st; omega)) hdg hm
theorem s_callI {N : MM} {idx n d' mc' ms' a : Nat} {as : List MV} {Q' : Option MV → MH → Prop} (hdg : decode M.2.1 pc = .ok (.invokespecial idx, 3)) (hk : zLk M.1.cls idx n N) (hin : Cond.instanceMethod N.1 ∈ zgw) (hy : N.1.name = "<init>") (hr : N.2.2.2 = none) (hd : d' + 1 ≤ d) (hn : as.length = n) (hs : st.length ≤ 4) (hm : cells + mc' ≤ mc ∧ slots + ms' ≤ ms) (hv : mc' ≠ 0 → zvs h ls st) (ha : 0 < a)
    (hC : Con N d' mc' ms' (.inr (.inr a) :: as) h Q') (kk : ∀ r h', Q' r h' → J M d mc ms Q (cells + mc') (slots + ms') (pc + 3) ls (r.toList ++ st) h') : J M d mc ms Q cells slots pc ls (as.reverse ++ .inr (.inr a) :: st) h := by
  intro p l e s m args below meth c D cA ad adV A H locs lsA ad0 h0 F X hl hE
  refine zcall F X hl hE hm.1 hv ?_ kk
  have hp := zPre (av := .inr (.inr a) :: as) X
  have e0 : (Sum.inr (Sum.inr a) :: as : List MV).map (zva ad) = Value.ref (ad a) :: as.map (zva ad) := by rw [List.map_cons, zva_pos ha]
  have hM := hC l D cA ad adV H.size
  rw [e0] at hp hM
  have hB := zCB (mc := mc) (ms := ms) (mc' := mc') (ms' := ms') F hk hd
  rw [hr] at hB
  exact va_runI (Ts := zwd M) (own := M.1.cls) (b := ad a) (As := as.map (zva ad)) (rest := st.map (zva ad)) ⟨F.1, F.2.1, F.2.2.1, F.2.2.2.2.1, F.2.2.2.2.2.1⟩ hM ⟨hB, hy, F.w hin⟩ hp rfl (by rw [List.length_map]; exact hn) hl.1 (by rw [List.map_append, List.map_reverse, List.map_cons, zva_pos ha]) (lv_room (by have := zcats ad st; omega)) hdg hm
theorem s_callN {N : MM} {idx d' mc' ms' a : Nat} {Q' : Option MV → MH → Prop} (hdg : decode M.2.1 pc = .ok (.invokespecial idx, 3)) (hns : (M.1.cls, idx, N.1) ∈ zns) (hi : Cond.initialized N.1.cls ∈ zgw) (hc : Cond.code N.1 N.2.1 N.2.2.1 N.2.2.2 ∈ zgw) (hy2 : N.1.cls ≠ "java/lang/invoke/MethodHandle" ∧ N.1.cls ≠ "java/lang/invoke/VarHandle" ∧ (parseMethodDescriptor N.1.desc).map (fun d => d.parameters.length) = some 0) (hx : N.2.2.1 ≤ 41) (hin : Cond.instanceMethod N.1 ∈ zgw) (hy : N.1.name = "<init>") (hr : N.2.2.2 = none) (hd : d' + 1 ≤ d) (hs : st.length ≤ 4) (hm : cells + mc' ≤ mc ∧ slots + ms' ≤ ms) (hv : mc' ≠ 0 → zvs h ls st) (ha : 0 < a)
    (hC : Con N d' mc' ms' [.inr (.inr a)] h Q') (kk : ∀ r h', Q' r h' → J M d mc ms Q (cells + mc') (slots + ms') (pc + 3) ls (r.toList ++ st) h') : J M d mc ms Q cells slots pc ls (.inr (.inr a) :: st) h := by
  intro p l e s m args below meth c D cA ad adV A H locs lsA ad0 h0 F X hl hE
  refine zcall F X hl hE hm.1 hv ?_ kk
  have hp := zPre (av := [.inr (.inr a)]) X
  have e0 : ([Sum.inr (Sum.inr a)] : List MV).map (zva ad) = [Value.ref (ad a)] := by rw [List.map_cons, zva_pos ha]; rfl
  have hM := hC l D cA ad adV H.size
  rw [e0] at hp hM
  have hB : va_CN (zrm d mc ms) s args M.1.cls idx N.1 "UnevenWax" N.2.1 N.2.2.1 N.2.2.2 (zwd N) (zrm d' mc' ms') mc' ms' 0 := va_cnB (Ts := zwd M) 0 F.2.2.2.2.2.1 (zgood hc) rfl rfl rfl (X.2.2.2.2.2.1 _ hns) (F.w hi) hy2 ⟨hd, by show 8 + (N.2.2.1 + 11) + 60 * d' ≤ 60 * d; omega⟩
  rw [hr] at hB
  exact va_runIN (Ts := zwd M) (own := M.1.cls) (b := ad a) (As := []) (rest := st.map (zva ad)) ⟨F.1, F.2.1, F.2.2.1, F.2.2.2.2.1, F.2.2.2.2.2.1⟩ hM ⟨hB, hy, F.w hin⟩ hp rfl rfl hl.1 (by rw [List.map_cons, zva_pos ha]; rfl) (lv_room (by have := zcats ad st; omega)) hdg hm
theorem s_objInit {idx a : Nat} (hdg : decode M.2.1 pc = .ok (.invokespecial idx, 3)) (hl1 : Cond.methodLink M.1.cls idx objectInit ∈ zgw) (hin : Cond.instanceMethod objectInit ∈ zgw) (hco : Cond.code objectInit ⟨#[0xb1]⟩ 1 none ∈ zgw) (hd : 1 ≤ d) (hs : st.length ≤ 4) (ha : 0 < a) (k : J M d mc ms Q cells slots (pc + 3) ls st h) : J M d mc ms Q cells slots pc ls (.inr (.inr a) :: st) h := by
  intro p l e s m args below meth c D cA ad adV A H locs lsA ad0 h0 F X hl hE
  have k2 := k p l e s m args below meth c D cA ad adV A H locs lsA ad0 h0 F X hl hE
  rw [List.map_cons, zva_pos ha]
  exact W.objInit F.1 F.2.1 F.2.2.2.2.1 (F.w hl1) (F.w hin) (F.w hco) rfl (by rw [F.2.2.1]; exact hl.1) rfl hdg hd (by show 2 * 0 + _ + 12 ≤ 60 * d; have := zcats ad st; omega) k2
theorem s_copy {idx a b : Nat} {sp dp n : Int32} (hdg : decode M.2.1 pc = .ok (.invokestatic idx, 3)) (hl1 : Cond.methodLink M.1.cls idx arraycopyName ∈ zgw) (hnat : Cond.native arraycopyName ∈ zgw) (hst : Cond.static arraycopyName ∈ zgw) (hini : Cond.initialized "java/lang/System" ∈ zgw) (hd : 1 ≤ d) (hs : st.length ≤ 4) (ha : 0 < a ∧ a ≤ h.2.2.2 ∧ (zk a).1 = 20) (hb : 0 < b ∧ b ≤ h.2.2.2 ∧ (zk b).1 = 20) (h1 : ¬ sp < 0) (h2 : ¬ dp < 0) (h3 : ¬ n < 0) (h4 : sp.toNatClampNeg + n.toNatClampNeg ≤ (zk a).2) (h5 : dp.toNatClampNeg + n.toNatClampNeg ≤ (zk b).2)
    (k : J M d mc ms Q cells slots (pc + 3) ls st (zcI h a b sp.toNatClampNeg dp.toNatClampNeg n.toNatClampNeg)) : J M d mc ms Q cells slots pc ls (.inl n :: .inl dp :: .inr (.inr b) :: .inl sp :: .inr (.inr a) :: st) h := by
  intro p l e s m args below meth c D cA ad adV A H locs lsA ad0 h0 F X hl hE
  rw [List.map_cons, List.map_cons, List.map_cons, List.map_cons, List.map_cons, zva_pos ha.1, zva_pos hb.1]
  have he := zws_at (cA := cA) (ad := ad) ha.1 ha.2.1
  rw [zcell_i ha.2.2] at he
  have he2 := zws_at (cA := cA) (ad := ad) hb.1 hb.2.1
  rw [zcell_i hb.2.2] at he2
  have hcell : zcell cA ad (zcI h a b sp.toNatClampNeg dp.toNatClampNeg n.toNatClampNeg) b = .inl (cA 20, (zk b).2, .inl (va_cpy (h.1 a) (h.1 b) sp.toNatClampNeg dp.toNatClampNeg n.toNatClampNeg)) := by
    rw [zcell_i hb.2.2]
    show Sum.inl (cA 20, (zk b).2, Sum.inl (if b = b then _ else _)) = _
    rw [if_pos rfl]
  have e9 : nativeFrameWords "java/lang/System" "arraycopy" 5 + 11 ≤ 50 := by decide
  have hloc : ((st.map (zva ad)).map fun v => v.category).sum + (nativeFrameWords "java/lang/System" "arraycopy" 5 + 11) ≤ (zrm d mc ms).locals := by
    have h9 := zcats ad st
    show _ ≤ 60 * d
    omega
  refine va_copyi F.1 F.2.1 (by rw [F.2.2.1]; exact hl.1.symm) F.2.2.2.2.1 (F.w hl1) (F.w hnat) (F.w hst) (F.w hini) X.2.2.2.2.1 X.2.2.1 X.2.2.2.1 X.2.1 (a - 1) (b - 1) 0 0 he he2 rfl rfl (by decide) h1 h2 h3 h4 h5 (fun i _ => rfl) hd hloc hdg (fun H1 locs1 q1 q2 q3 => ?_)
  rw [← hcell] at q1 q2
  exact k p l e s m args below meth c D cA ad adV A H1 locs1 lsA ad0 h0 F (X.store (zag_C _ _ _ _ _ _) hb.1 hb.2.1 q1 q2 q3) hl (hE.store (zag_C h a b _ _ _))
end JC
