/-! ===== calls on String constants ===== -/
section JT
variable {M : MM} {d mc ms : Nat} {Q : Option MV → MH → Prop} {cells slots pc : Nat} {ls : List (Option MV)} {st : List MV} {h : MH}
theorem s_callT {N : MM} {idx n d' j : Nat} {as : List MV} {Q' : Option MV → MH → Prop} (hdg : decode M.2.1 pc = .ok (.invokevirtual idx, 3)) (hk : zLv M.1.cls idx n N) (hd : d' + 1 ≤ d) (hn : as.length = n) (hs : st.length ≤ 4) (hm : cells ≤ mc ∧ slots ≤ ms) (hcn : N.1.cls = "java/lang/String") (hj : j < 12)
    (hC : Con N d' 0 0 (.inr (.inr (1000 + j)) :: as) h Q') (kk : ∀ r h', Q' r h' → J M d mc ms Q cells slots (pc + 3) ls (r.toList ++ st) h') : J M d mc ms Q cells slots pc ls (as.reverse ++ .inr (.inr (1000 + j)) :: st) h := by
  intro p l e s m args below meth c D cA ad adV A H locs lsA ad0 h0 F X hl hE
  refine zcall (mc' := 0) (ms' := 0) F X hl hE hm.1 (fun q => absurd rfl q) ?_ kk
  have hp := zPre (av := .inr (.inr (1000 + j)) :: as) X
  have e0 : (Sum.inr (Sum.inr (1000 + j)) :: as : List MV).map (zva ad) = Value.ref (ad (1000 + j)) :: as.map (zva ad) := by rw [List.map_cons, zva_pos (by omega)]
  have hrecv := vk_recv X.2.2.2.2.2.2.2.2.1 hj X.2.1
  have cw : CallW (zrm d mc ms) s args M.1.cls N.1.cls idx N.1 N.2.1 N.2.2.1 N.2.2.2 (zwd N) (zrm d' 0 0) 0 0 n := ⟨zCB F hk.1 hd, F.w hk.2.1, F.w hk.2.2⟩
  have hM := hC l D cA ad adV H.size
  rw [e0] at hp hM
  exact va_runV (Ts := zwd M) (own := M.1.cls) (C := N.1.cls) (b := ad (1000 + j)) (As := as.map (zva ad)) (rest := st.map (zva ad)) ⟨F.1, F.2.1, F.2.2.1, F.2.2.2.2.1, F.2.2.2.2.2.1⟩ hM cw ⟨hp.1, by rw [hcn]; exact hrecv, hp.2⟩ rfl (by rw [List.length_map]; exact hn) hl.1 (by rw [List.map_append, List.map_reverse, List.map_cons, zva_pos (by omega)]) (lv_room (by have := zcats ad st; omega)) hdg hm
theorem zcTi {N : MM} {o idx n d' a : Nat} {as : List MV} (hdg : decode M.2.1 pc = .ok (.invokevirtual idx, 3)) (hk : zLv (zcn o) idx n N) (ho : zcn o = M.1.cls) (hd : d' + 1 ≤ d) (hn : as.length = n) (hs : st.length ≤ 4) (hm : cells ≤ mc ∧ slots ≤ ms) (hcn : N.1.cls = "java/lang/String") (ha : ∃ j, a = 1000 + j ∧ j < 12)
    (hC : Con N d' 0 0 (.inr (.inr a) :: as) h (zri fun x h' => J M d mc ms Q cells slots (pc + 3) ls (.inl x :: st) h')) : J M d mc ms Q cells slots pc ls (as.reverse ++ .inr (.inr a) :: st) h := by
  obtain ⟨j, rfl, hj⟩ := ha
  exact s_callT hdg (by rw [← ho]; exact hk) hd hn hs hm hcn hj hC (fun r h' hq => by
    match r, hq with
    | some (.inl x), hq => exact hq
    | some (.inr _), hq => exact hq.elim
    | none, hq => exact hq.elim)
end JT
/-! ===== Math.min, Math.max ===== -/
def zMm (own : String) (idx : Nat) (y : MethodName) (cc : ByteArray) : Prop := Cond.methodLink own idx y ∈ zgw ∧ Cond.static y ∈ zgw ∧ Cond.initialized "java/lang/Math" ∈ zgw ∧ Cond.code y cc 2 (some .int) ∈ zgw
theorem zMm_of {own : String} {idx : Nat} {y : MethodName} {cc : ByteArray} (p1 p2 p3 p4 : Nat) (h : lw_tbl[p1]? = some (Cond.methodLink own idx y) ∧ lw_tbl[p2]? = some (Cond.static y) ∧ lw_tbl[p3]? = some (Cond.initialized "java/lang/Math") ∧ lw_tbl[p4]? = some (Cond.code y cc 2 (some .int))) : zMm own idx y cc := ⟨zin_gw h.1 rfl, zin_gw h.2.1 rfl, zin_gw h.2.2.1 rfl, zin_gw h.2.2.2 rfl⟩
section JM
variable {M : MM} {d mc ms : Nat} {Q : Option MV → MH → Prop} {cells slots pc : Nat} {ls : List (Option MV)} {st : List MV} {h : MH}
theorem zmin {o idx : Nat} {x y : Int32} (hdg : decode M.2.1 pc = .ok (.invokestatic idx, 3)) (hk : zMm (zcn o) idx Lib.Math.min.name Lib.Math.min.code) (ho : zcn o = M.1.cls) (hd : 1 ≤ d) (hs : st.length ≤ 4) (hm : cells ≤ mc ∧ slots ≤ ms) (k : J M d mc ms Q cells slots (pc + 3) ls (.inl (if y < x then y else x) :: st) h) : J M d mc ms Q cells slots pc ls (.inl y :: .inl x :: st) h := by
  intro p l e s m args below meth c D cA ad adV A H locs lsA ad0 h0 F X hl hE
  rw [ho] at hk
  have hloc : ((st.map (zva ad)).map fun v => v.category).sum + 13 ≤ (zrm d mc ms).locals := by
    have h9 := zcats ad st
    show _ ≤ 60 * d
    omega
  exact va_mmin F.1 F.2.1 (by rw [F.2.2.1]; exact hl.1.symm) F.2.2.2.2.1 (F.w hk.1) (F.w hk.2.1) (F.w hk.2.2.1) (F.w hk.2.2.2) hd hloc hm.1 hm.2 hdg (k p l e s m args below meth c D cA ad adV A H locs lsA ad0 h0 F X hl hE)
theorem zmax {o idx : Nat} {x y : Int32} (hdg : decode M.2.1 pc = .ok (.invokestatic idx, 3)) (hk : zMm (zcn o) idx Lib.Math.max.name Lib.Math.max.code) (ho : zcn o = M.1.cls) (hd : 1 ≤ d) (hs : st.length ≤ 4) (hm : cells ≤ mc ∧ slots ≤ ms) (k : J M d mc ms Q cells slots (pc + 3) ls (.inl (if x < y then y else x) :: st) h) : J M d mc ms Q cells slots pc ls (.inl y :: .inl x :: st) h := by
  intro p l e s m args below meth c D cA ad adV A H locs lsA ad0 h0 F X hl hE
  rw [ho] at hk
  have hloc : ((st.map (zva ad)).map fun v => v.category).sum + 13 ≤ (zrm d mc ms).locals := by
    have h9 := zcats ad st
    show _ ≤ 60 * d
    omega
  exact va_mmax F.1 F.2.1 (by rw [F.2.2.1]; exact hl.1.symm) F.2.2.2.2.1 (F.w hk.1) (F.w hk.2.1) (F.w hk.2.2.1) (F.w hk.2.2.2) hd hloc hm.1 hm.2 hdg (k p l e s m args below meth c D cA ad adV A H locs lsA ad0 h0 F X hl hE)
end JM
