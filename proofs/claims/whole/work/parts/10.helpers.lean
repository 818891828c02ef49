/-! ===== calls by what they answer; conditions ===== -/
theorem zle0 : (0 : Nat) ≤ 0 ∧ (0 : Nat) ≤ 0 := ⟨Nat.le_refl 0, Nat.le_refl 0⟩
theorem znz {x : Int32} (h : x = 0 ∨ x = 1) : narrow .boolean (.int x) = .int x := by rcases h with q | q <;> subst q <;> decide
theorem zbo {x : Int32} (h : x = 0 ∨ x = 1) : (Sum.inl x : MV) = .inl 0 ∨ (Sum.inl x : MV) = .inl 1 := h.elim (fun q => Or.inl (by rw [q])) (fun q => Or.inr (by rw [q]))
section ZCV
variable {M : MM} {d mc ms : Nat} {Q : Option MV → MH → Prop} {cells slots pc : Nat} {ls : List (Option MV)} {st : List MV} {h : MH}
theorem zcVi {N : MM} {o idx n d' a : Nat} {as : List MV} (hdg : decode M.2.1 pc = .ok (.invokevirtual idx, 3)) (hk : zLv (zcn o) idx n N) (ho : zcn o = M.1.cls) (hd : d' + 1 ≤ d) (hn : as.length = n) (hs : st.length ≤ 4) (hm : cells ≤ mc ∧ slots ≤ ms) {ci : Nat} (hci : ci < 12) (hcn : zcn ci = N.1.cls) (ha : zokO h a ci)
    (hC : Con N d' 0 0 (.inr (.inr a) :: as) h (zri fun x h' => J M d mc ms Q cells slots (pc + 3) ls (.inl x :: st) h')) : J M d mc ms Q cells slots pc ls (as.reverse ++ .inr (.inr a) :: st) h :=
  s_callV hdg (by rw [← ho]; exact hk) hd hn hs hm (fun q => absurd rfl q) hci hcn ha hC (fun r h' hq => by
    match r, hq with
    | some (.inl x), hq => exact hq
    | some (.inr _), hq => exact hq.elim
    | none, hq => exact hq.elim)
theorem zcVl {N : MM} {o idx n d' a : Nat} {as : List MV} (hdg : decode M.2.1 pc = .ok (.invokevirtual idx, 3)) (hk : zLv (zcn o) idx n N) (ho : zcn o = M.1.cls) (hd : d' + 1 ≤ d) (hn : as.length = n) (hs : st.length ≤ 4) (hm : cells ≤ mc ∧ slots ≤ ms) {ci : Nat} (hci : ci < 12) (hcn : zcn ci = N.1.cls) (ha : zokO h a ci)
    (hC : Con N d' 0 0 (.inr (.inr a) :: as) h (zrl fun x h' => J M d mc ms Q cells slots (pc + 3) ls (.inr (.inl x) :: st) h')) : J M d mc ms Q cells slots pc ls (as.reverse ++ .inr (.inr a) :: st) h :=
  s_callV hdg (by rw [← ho]; exact hk) hd hn hs hm (fun q => absurd rfl q) hci hcn ha hC (fun r h' hq => by
    match r, hq with
    | some (.inr (.inl x)), hq => exact hq
    | some (.inl _), hq => exact hq.elim
    | some (.inr (.inr _)), hq => exact hq.elim
    | none, hq => exact hq.elim)
theorem zcVr {N : MM} {o idx n d' a : Nat} {as : List MV} (hdg : decode M.2.1 pc = .ok (.invokevirtual idx, 3)) (hk : zLv (zcn o) idx n N) (ho : zcn o = M.1.cls) (hd : d' + 1 ≤ d) (hn : as.length = n) (hs : st.length ≤ 4) (hm : cells ≤ mc ∧ slots ≤ ms) {ci : Nat} (hci : ci < 12) (hcn : zcn ci = N.1.cls) (ha : zokO h a ci)
    (hC : Con N d' 0 0 (.inr (.inr a) :: as) h (zrr fun x h' => J M d mc ms Q cells slots (pc + 3) ls (.inr (.inr x) :: st) h')) : J M d mc ms Q cells slots pc ls (as.reverse ++ .inr (.inr a) :: st) h :=
  s_callV hdg (by rw [← ho]; exact hk) hd hn hs hm (fun q => absurd rfl q) hci hcn ha hC (fun r h' hq => by
    match r, hq with
    | some (.inr (.inr x)), hq => exact hq
    | some (.inl _), hq => exact hq.elim
    | some (.inr (.inl _)), hq => exact hq.elim
    | none, hq => exact hq.elim)
theorem zcVv {N : MM} {o idx n d' a : Nat} {as : List MV} (hdg : decode M.2.1 pc = .ok (.invokevirtual idx, 3)) (hk : zLv (zcn o) idx n N) (ho : zcn o = M.1.cls) (hd : d' + 1 ≤ d) (hn : as.length = n) (hs : st.length ≤ 4) (hm : cells ≤ mc ∧ slots ≤ ms) {ci : Nat} (hci : ci < 12) (hcn : zcn ci = N.1.cls) (ha : zokO h a ci)
    (hC : Con N d' 0 0 (.inr (.inr a) :: as) h (zrv fun h' => J M d mc ms Q cells slots (pc + 3) ls st h')) : J M d mc ms Q cells slots pc ls (as.reverse ++ .inr (.inr a) :: st) h :=
  s_callV hdg (by rw [← ho]; exact hk) hd hn hs hm (fun q => absurd rfl q) hci hcn ha hC (fun r h' hq => by
    match r, hq with
    | none, hq => exact hq
    | some _, hq => exact hq.elim)
theorem zcSi {N : MM} {o idx n d' : Nat} {as : List MV} (hdg : decode M.2.1 pc = .ok (.invokestatic idx, 3)) (hk : zLs (zcn o) idx n N) (ho : zcn o = M.1.cls) (hd : d' + 1 ≤ d) (hn : as.length = n) (hs : st.length ≤ 4) (hm : cells ≤ mc ∧ slots ≤ ms)
    (hC : Con N d' 0 0 as h (zri fun x h' => J M d mc ms Q cells slots (pc + 3) ls (.inl x :: st) h')) : J M d mc ms Q cells slots pc ls (as.reverse ++ st) h :=
  s_callS hdg (by rw [← ho]; exact hk) hd hn hs hm (fun q => absurd rfl q) hC (fun r h' hq => by
    match r, hq with
    | some (.inl x), hq => exact hq
    | some (.inr _), hq => exact hq.elim
    | none, hq => exact hq.elim)
theorem zcSl {N : MM} {o idx n d' : Nat} {as : List MV} (hdg : decode M.2.1 pc = .ok (.invokestatic idx, 3)) (hk : zLs (zcn o) idx n N) (ho : zcn o = M.1.cls) (hd : d' + 1 ≤ d) (hn : as.length = n) (hs : st.length ≤ 4) (hm : cells ≤ mc ∧ slots ≤ ms)
    (hC : Con N d' 0 0 as h (zrl fun x h' => J M d mc ms Q cells slots (pc + 3) ls (.inr (.inl x) :: st) h')) : J M d mc ms Q cells slots pc ls (as.reverse ++ st) h :=
  s_callS hdg (by rw [← ho]; exact hk) hd hn hs hm (fun q => absurd rfl q) hC (fun r h' hq => by
    match r, hq with
    | some (.inr (.inl x)), hq => exact hq
    | some (.inl _), hq => exact hq.elim
    | some (.inr (.inr _)), hq => exact hq.elim
    | none, hq => exact hq.elim)
end ZCV
theorem zcO {h : MH} (hr : zRf h) {a c k c2 n : Nat} (ho : zokO h a c) (hc : c < 12) (hm : (c, k, c2, n) ∈ zoffT) : zokO h (a + k) c2 := by
  obtain ⟨h1, h2, h3⟩ := zoff_at hr ho hc hm
  exact ⟨h1, h2, by rw [h3]⟩
theorem zcR {h : MH} (hr : zRf h) {a c k kc n : Nat} {i : Int32} (ho : zokO h a c) (hc : c < 12) (hm : (c, k, kc, n) ∈ zoffT) (hk : 30 ≤ kc ∧ kc ≤ 33) (hi : vp_in i n) : zokR h (a + k) i := by
  obtain ⟨h1, h2, h3⟩ := zoff_at hr ho hc hm
  exact ⟨h1, h2, by rw [h3]; exact hk, by rw [h3]; exact hi⟩
theorem zca30 {h : MH} (hr : zRf h) {a : Nat} {i : Int32} (ho : zokO h a 1) (hi : vp_in i 4) : h.2.2.1 (a + 6) i.toNatClampNeg = a + 6 + 1 + 6 * i.toNatClampNeg := by
  obtain ⟨h1, h2, h3⟩ := zoff_at (k := 6) (kc := 30) (n := 4) hr ho (by decide) (by decide)
  exact hr.a30 h1 h2 h3 (vp_lt hi)
theorem zbook_all : (List.range 205).all (fun a => !(Nat.beq (zk a).1 1) || (List.range 4).all (fun j => decide (zk (a + 6 + 1 + 6 * j) = (5, 7)) && (decide (a ≤ 142 → a + 30 ≤ 142) && (decide (a ≤ 173 → a + 30 ≤ 173) && decide (a ≤ 204 → a + 30 ≤ 204))))) = true := by decide +kernel
theorem zbp' {h : MH} (hr : zRf h) {a j : Nat} (ho : zokO h a 1) (hj : j < 4) : zokO h (a + 6 + 1 + 6 * j) 5 := by
  have hlt : a < 205 := zk_lt (by rw [ho.2.2]; omega)
  have h1 := List.all_eq_true.mp zbook_all a (List.mem_range.mpr hlt)
  simp only [ho.2.2, Nat.beq_refl, Bool.not_true, Bool.false_or] at h1
  have h2 := List.all_eq_true.mp h1 j (List.mem_range.mpr hj)
  simp only [Bool.and_eq_true, decide_eq_true_eq] at h2
  have h3 := hr.1
  have h4 := ho.2.1
  refine ⟨by omega, by omega, by rw [h2.1]⟩
theorem zbp {h : MH} (hr : zRf h) {a : Nat} {i : Int32} (ho : zokO h a 1) (hi : vp_in i 4) : zokO h (a + 6 + 1 + 6 * i.toNatClampNeg) 5 := zbp' hr ho (vp_lt hi)
theorem zpl {h : MH} (hr : zRf h) {i : Int32} (hi : vp_in i 4) : zokO h (22 + 6 * i.toNatClampNeg) 5 := zbp hr (zo hr (a := 15) (c := 1) (by decide) rfl) hi
theorem zrw {h : MH} (hr : zRf h) {i : Int32} (hi : vp_in i 4) : zokO h (103 + 2 * i.toNatClampNeg) 7 := by
  have h1 := vp_lt hi
  generalize i.toNatClampNeg = j at h1
  have h2 := hr.n
  have : j = 0 ∨ j = 1 ∨ j = 2 ∨ j = 3 := by omega
  rcases this with q | q | q | q <;> subst q <;> exact ⟨by decide, by omega, rfl⟩
theorem zRf_I {h : MH} (hr : zRf h) (a j : Nat) (v : Int32) : zRf (zsI h a j v) := hr
theorem zRf_L {h : MH} (hr : zRf h) (a j : Nat) (v : Int64) : zRf (zsL h a j v) := hr
theorem zRf_C {h : MH} (hr : zRf h) (a b sp dp n : Nat) : zRf (zcI h a b sp dp n) := hr
theorem zRf_R {h : MH} (hr : zRf h) {a j : Nat} (v : Nat) (hm : zmu a j = true) (hv : v ≤ h.2.2.2) : zRf (zsR h a j v) := by
  refine ⟨hr.1, fun o k h1 h2 => ⟨fun h3 h4 => ?_, fun h3 h4 => ?_⟩⟩
  · show (if o = a then va_up (h.2.2.1 a) j v else h.2.2.1 o) k = _
    by_cases e : o = a
    · subst e
      rw [if_pos rfl]
      have hk : k ≠ j := fun q => by subst q; rw [h3] at hm; cases hm
      show (if k = j then v else h.2.2.1 o k) = _
      rw [if_neg hk]
      exact (hr.2 o k h1 h2).1 h3 h4
    · rw [if_neg e]
      exact (hr.2 o k h1 h2).1 h3 h4
  · show (if o = a then va_up (h.2.2.1 a) j v else h.2.2.1 o) k ≤ h.2.2.2
    by_cases e : o = a
    · subst e
      rw [if_pos rfl]
      show (if k = j then v else h.2.2.1 o k) ≤ _
      by_cases hk : k = j
      · rw [if_pos hk]
        exact hv
      · rw [if_neg hk]
        exact (hr.2 o k h1 h2).2 h3 h4
    · rw [if_neg e]
      exact (hr.2 o k h1 h2).2 h3 h4
def zCp (own : String) (idx : Nat) : Prop := Cond.methodLink own idx arraycopyName ∈ zgw ∧ Cond.native arraycopyName ∈ zgw ∧ Cond.static arraycopyName ∈ zgw ∧ Cond.initialized "java/lang/System" ∈ zgw
theorem zCp_of {own : String} {idx : Nat} (p1 p2 p3 p4 : Nat) (h : lw_tbl[p1]? = some (Cond.methodLink own idx arraycopyName) ∧ lw_tbl[p2]? = some (Cond.native arraycopyName) ∧ lw_tbl[p3]? = some (Cond.static arraycopyName) ∧ lw_tbl[p4]? = some (Cond.initialized "java/lang/System")) : zCp own idx := ⟨zin_gw h.1 rfl, zin_gw h.2.1 rfl, zin_gw h.2.2.1 rfl, zin_gw h.2.2.2 rfl⟩
theorem zcopy {M : MM} {d mc ms : Nat} {Q : Option MV → MH → Prop} {cells slots pc : Nat} {ls : List (Option MV)} {st : List MV} {h : MH} {o idx a b N : Nat} (hdg : decode M.2.1 pc = .ok (.invokestatic idx, 3)) (hk : zCp (zcn o) idx) (ho : zcn o = M.1.cls) (hd : 1 ≤ d) (hs : st.length ≤ 4) (ha : 0 < a ∧ a ≤ h.2.2.2 ∧ zk a = (20, N)) (hb : 0 < b ∧ b ≤ h.2.2.2 ∧ zk b = (20, N)) (hN : N < 2147483648)
    (k : J M d mc ms Q cells slots (pc + 3) ls st (zcI h a b 0 0 N)) : J M d mc ms Q cells slots pc ls (.inl (nI N) :: .inl (nI 0) :: .inr (.inr b) :: .inl (nI 0) :: .inr (.inr a) :: st) h := by
  have e0 : (nI 0).toNatClampNeg = 0 := nI_clamp (by decide)
  have eN : (nI N).toNatClampNeg = N := nI_clamp hN
  rw [ho] at hk
  refine s_copy hdg hk.1 hk.2.1 hk.2.2.1 hk.2.2.2 hd hs ⟨ha.1, ha.2.1, by rw [ha.2.2]⟩ ⟨hb.1, hb.2.1, by rw [hb.2.2]⟩ (nI_pos (by decide)) (nI_pos (by decide)) (nI_pos hN) ?_ ?_ ?_
  · rw [e0, eN, ha.2.2]; exact Nat.le_of_eq (Nat.zero_add N)
  · rw [e0, eN, hb.2.2]; exact Nat.le_of_eq (Nat.zero_add N)
  · rw [e0, eN]; exact k
