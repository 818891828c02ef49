/-! ===== calls on String constants ===== -/
section JT
variable {M : MM} {d mc ms : Nat} {Q : Option MV → MH → Prop} {cells slots pc : Nat} {ls : List (Option MV)} {st : List MV} {h : MH}
theorem s_callT {N : MM} {idx n d' j : Nat} {as : List MV} {Q' : Option MV → MH → Prop} (hdg : decode M.2.1 pc = .ok (.invokevirtual idx, 3)) (hk : zLv M.1.cls idx n N) (hd : d' + 1 ≤ d) (hn : as.length = n) (hs : st.length ≤ 4) (hm : cells ≤ mc ∧ slots ≤ ms) (hcn : N.1.cls = "java/lang/String") (hj : j < 12)
    (hC : Con N d' 0 0 (.inr (.inr (1000 + j)) :: as) h Q') (kk : ∀ r h', Q' r h' → J M d mc ms Q cells slots (pc + 3) ls (r.toList ++ st) h') : J M d mc ms Q cells slots pc ls (as.reverse ++ .inr (.inr (1000 + j)) :: st) h := by
  intro p l e s m args below meth c D cA ad adV A H locs lsA ad0 h0 F X hl hE
  refine zcall (mc' := 0) (ms' := 0) F X hl hE hm.1 (fun q => absurd rfl q) ?_ kk
  have hp := zPre (av := .inr (.inr (1000 + j)) :: as) X
  have e0 : (Sum.inr (Sum.inr (1000 + j)) :: as : List MV).map (zva ad) = Value.ref (ad (1000 + j)) :: as.map (zva ad) := by rw [List.map_cons, zva_pos (by omega)]
  have hrecv := vk_recv X.2.2.2.2.2.2.2.2.1 hj X.2.1
  have cw : CallW (zrm d mc ms) s args M.1.cls N.1.cls idx N.1 N.2.1 N.2.2.1 N.2.2.2 (zwd N) (zrm d' 0 0) 0 0 n := ⟨zCB F hk.1 hd, F.w hk.2.1, F.w hk.2.2⟩
  have hM := hC l D cA ad adV H.size
  rw [e0] at hp hM
  exact va_runV (Ts := zwd M) (own := M.1.cls) (C := N.1.cls) (b := ad (1000 + j)) (As := as.map (zva ad)) (rest := st.map (zva ad)) ⟨F.1, F.2.1, F.2.2.1, F.2.2.2.2.1, F.2.2.2.2.2.1⟩ hM cw ⟨hp.1, by rw [hcn]; exact hrecv, hp.2⟩ rfl (by rw [List.length_map]; exact hn) hl.1 (by rw [List.map_append, List.map_reverse, List.map_cons, zva_pos (by omega)]) (lv_room (by have := zcats ad st; omega)) hdg hm
theorem zcTi {N : MM} {o idx n d' a : Nat} {as : List MV} (hdg : decode M.2.1 pc = .ok (.invokevirtual idx, 3)) (hk : zLv (zcn o) idx n N) (ho : zcn o = M.1.cls) (hd : d' + 1 ≤ d) (hn : as.length = n) (hs : st.length ≤ 4) (hm : cells ≤ mc ∧ slots ≤ ms) (hcn : N.1.cls = "java/lang/String") (ha : ∃ j, a = 1000 + j ∧ j < 12)
    (hC : Con N d' 0 0 (.inr (.inr a) :: as) h (zri fun x h' => J M d mc ms Q cells slots (pc + 3) ls (.inl x :: st) h')) : J M d mc ms Q cells slots pc ls (as.reverse ++ .inr (.inr a) :: st) h := by
  obtain ⟨j, rfl, hj⟩ := ha
  exact s_callT hdg (by rw [← ho]; exact hk) hd hn hs hm hcn hj hC (fun r h' hq => by
    match r, hq with
    | some (.inl x), hq => exact hq
    | some (.inr _), hq => exact hq.elim
    | none, hq => exact hq.elim)
end JT
