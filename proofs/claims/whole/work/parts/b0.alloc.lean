/-! ===== cells that are made: the rules ===== -/
def zrT (ty : FieldType) : Bool := match ty with
  | .object _ => true
  | .array _ => true
  | _ => false
theorem zty_k : ∀ c, c < 12 → ∀ k, k < zN c → zrT (zty c k) = true ∨ zty c k = .int ∨ zty c k = .boolean ∨ zty c k = .long := by decide +kernel
theorem zir_o {o k c : Nat} (hk : (zk o).1 = c) (hc : c < 12) (hkN : k < zN c) (ht : zrT (zty c k) = true) : zir o k = true := by
  have hb : Nat.blt k (zN c) = true := Nat.blt_eq.mpr hkN
  have e : ∀ x y : Bool, x = true → y = true → (x && y) = true := fun x y h1 h2 => by rw [h1, h2]; rfl
  unfold zir
  rw [hk]
  match c, hc with
  | 0, _ => exact e _ _ hb ht
  | 1, _ => exact e _ _ hb ht
  | 2, _ => exact e _ _ hb ht
  | 3, _ => exact e _ _ hb ht
  | 4, _ => exact e _ _ hb ht
  | 5, _ => exact e _ _ hb ht
  | 6, _ => exact e _ _ hb ht
  | 7, _ => exact e _ _ hb ht
  | 8, _ => exact e _ _ hb ht
  | 9, _ => exact e _ _ hb ht
  | 10, _ => exact e _ _ hb ht
  | 11, _ => exact e _ _ hb ht
/-- every reference that a cell holds is of a cell that is there -/
def zvh (h : MH) : Prop := ∀ o k, 0 < o → o ≤ h.2.2.2 → zir o k = true → h.2.2.1 o k ≤ h.2.2.2
theorem zrf_ext {ad ad' : Nat → Nat} {n r : Nat} (E : ∀ i, i ≤ n → ad' i = ad i) (hr : r ≤ n) : zrf ad' r = zrf ad r := by
  unfold zrf
  rw [E r hr]
theorem zk_r : (List.range 205).all (fun a => !(decide (30 ≤ (zk a).1 ∧ (zk a).1 ≤ 33)) || (List.range (zk a).2).all (fun j => zir a j)) = true := by decide +kernel
theorem zir_r {a j : Nat} (hk : 30 ≤ (zk a).1 ∧ (zk a).1 ≤ 33) (hj : j < (zk a).2) : zir a j = true := by
  have hl : a < 205 := zk_lt (by omega)
  have h := List.all_eq_true.mp zk_r a (List.mem_range.mpr hl)
  rw [decide_eq_true hk, Bool.not_true, Bool.false_or] at h
  exact List.all_eq_true.mp h j (List.mem_range.mpr hj)
/-- a cell that was there, seen from a larger heap -/
theorem zcell_grow {D : va_G} {cA : Nat → ClassId} {ad ad' : Nat → Nat} {h h' : MH} {H1 : Heap} {b x : Nat} (hv : zvh h) (had : ∀ i, i ≤ h.2.2.2 → ad' i = ad i) (h1 : 0 < b) (h2 : b ≤ h.2.2.2) (e : h'.1 b = h.1 b ∧ h'.2.1 b = h.2.1 b ∧ h'.2.2.1 b = h.2.2.1 b) (hat : va_at D vwCl (x, zcell cA ad h b) H1) : va_at D vwCl (x, zcell cA ad' h' b) H1 := by
  rcases zk_ok b with ⟨c1, c2⟩ | c1 | c1 | c1 | c1 | c1
  · have ee : zcell cA ad' h' b = zcell cA ad h b := by
      rw [zcell_obj rfl c1, zcell_obj rfl c1]
      congr 2
      refine List.map_congr_left (fun k hk => ?_)
      have hkN := List.mem_range.mp hk
      unfold zfv
      rw [e.1, e.2.1, e.2.2]
      rcases zty_k _ c1 k hkN with t | t | t | t
      · have r := hv b k h1 h2 (zir_o rfl c1 hkN t)
        rw [zrf_ext had r]
      · rw [t]
      · rw [t]
      · rw [t]
    rw [ee]
    exact hat
  · rw [zcell_i c1, e.1, ← zcell_i (cA := cA) (ad := ad) c1]
    exact hat
  · rw [zcell_l c1, e.2.1, ← zcell_l (cA := cA) (ad := ad) c1]
    exact hat
  · rw [zcell_z c1, e.1, ← zcell_z (cA := cA) (ad := ad) c1]
    exact hat
  · rw [zcell_r c1.1] at hat ⊢
    have hat' : H1[x]? = some (vp_cell (cA (zk b).1) ((zk b).2, .inr (.inr (.inr (.inr (fun j => zrf ad (h.2.2.1 b j))))))) := hat
    show H1[x]? = some (vp_cell (cA (zk b).1) ((zk b).2, .inr (.inr (.inr (.inr (fun j => zrf ad' (h'.2.2.1 b j)))))))
    rw [hat', vp_cell_q, vp_cell_q]
    congr 1
    refine zm_cong (fun j hj => ?_)
    rw [e.2.2, zrf_ext had (hv b j h1 h2 (zir_r c1 hj))]
  · have ee : zcell cA ad' h' b = .inl (cA (zk b).1, (zk b).2, .inr (.inr (.inr (.inr (fun j => zrf ad' (h'.2.2.1 b j)))))) := zcell_r (by omega)
    have e0 : zcell cA ad h b = .inl (cA (zk b).1, (zk b).2, .inr (.inr (.inr (.inr (fun j => zrf ad (h.2.2.1 b j)))))) := zcell_r (by omega)
    have hz : (zk b).2 = 0 := by
      have : zkT.all (fun q => !(decide (q.1 = 99)) || decide (q.2 = 0)) = true := by decide +kernel
      unfold zk at c1 ⊢
      rw [List.getD_eq_getElem?_getD] at c1 ⊢
      cases hz : zkT[b]? with
      | none => rfl
      | some q =>
        rw [hz] at c1
        have t := List.all_eq_true.mp this q (List.mem_of_getElem? hz)
        have c1' : q.1 = 99 := c1
        rw [decide_eq_true c1', Bool.not_true, Bool.false_or] at t
        exact of_decide_eq_true t
    rw [ee]
    rw [e0] at hat
    have hat' : H1[x]? = some (vp_cell (cA (zk b).1) ((zk b).2, .inr (.inr (.inr (.inr (fun j => zrf ad (h.2.2.1 b j))))))) := hat
    show H1[x]? = some (vp_cell (cA (zk b).1) ((zk b).2, .inr (.inr (.inr (.inr (fun j => zrf ad' (h'.2.2.1 b j)))))))
    rw [hat', vp_cell_q, vp_cell_q]
    congr 1
    refine zm_cong (fun j hj => ?_)
    omega
theorem zWd.grow {D : va_G} {cA : Nat → ClassId} {ad ad' adV : Nat → Nat} {A : Nat → Prop} {s : State} {H H1 : Heap} {locs : List Loc} {h h' : MH} {m : Nat} (X : zWd D cA ad adV A s H locs h) (hv : zvh h) (hn : h'.2.2.2 = h.2.2.2 + m) (old : ∀ b, 0 < b → b ≤ h.2.2.2 → h'.1 b = h.1 b ∧ h'.2.1 b = h.2.1 b ∧ h'.2.2.1 b = h.2.2.1 b) (had : ∀ i, i ≤ h.2.2.2 ∨ 1000 ≤ i → ad' i = ad i)
    (hP1 : va_P D vwCl (zws cA ad h) H1) (hS1 : va_S A s.heap H1 locs) (hnew : ∀ b, h.2.2.2 < b → b ≤ h.2.2.2 + m → va_at D vwCl (ad' b, zcell cA ad' h' b) H1) (hA1 : ∀ b, h.2.2.2 < b → b ≤ h.2.2.2 + m → A (ad' b)) (hinj : ∀ b b', h.2.2.2 < b → b ≤ h.2.2.2 + m → 0 < b' → b' ≤ h.2.2.2 + m → ad' b = ad' b' → b = b') : zWd D cA ad' adV A s H1 locs h' := by
  have at_ : ∀ k (q : Nat × va_E), (zws cA ad' h')[k]? = some q → k < h.2.2.2 + m ∧ q = (ad' (k + 1), zcell cA ad' h' (k + 1)) := fun k q hq => by
    have hl := (List.getElem?_eq_some_iff.mp hq).1
    rw [zws_len, hn] at hl
    have e := zws_at (cA := cA) (ad := ad') (h := h') (a := k + 1) (by omega) (by omega)
    rw [Nat.add_sub_cancel, hq] at e
    exact ⟨hl, Option.some.inj e⟩
  have ol := fun k (hk : k < h.2.2.2) => (zws_at (cA := cA) (ad := ad) (h := h) (a := k + 1) (by omega) (by omega))
  have adk := fun i (hi : i ≤ h.2.2.2) => had i (Or.inl hi)
  refine ⟨X.1, hS1, fun k q hq => ?_, ⟨fun i j p q hp hq e => ?_, fun k q hq => ?_⟩, X.2.2.2.2.1, X.2.2.2.2.2.ext (fun i hi => had i (Or.inr hi))⟩
  · obtain ⟨hl, rfl⟩ := at_ k q hq
    by_cases z : k < h.2.2.2
    · have e := ol k z
      rw [Nat.add_sub_cancel] at e
      have g := hP1 k _ e
      rw [adk (k + 1) (by omega)]
      exact zcell_grow hv adk (by omega) (by omega) (old (k + 1) (by omega) (by omega)) g
    · exact hnew (k + 1) (by omega) (by omega)
  · obtain ⟨l1, rfl⟩ := at_ i p hp
    obtain ⟨l2, rfl⟩ := at_ j q hq
    have e' : ad' (i + 1) = ad' (j + 1) := e
    by_cases z1 : i < h.2.2.2
    · by_cases z2 : j < h.2.2.2
      · rw [adk (i + 1) (by omega), adk (j + 1) (by omega)] at e'
        have o1 := ol i z1
        have o2 := ol j z2
        rw [Nat.add_sub_cancel] at o1 o2
        exact X.2.2.2.1.1 i j _ _ o1 o2 e'
      · have := hinj (j + 1) (i + 1) (by omega) (by omega) (by omega) (by omega) e'.symm
        omega
    · have := hinj (i + 1) (j + 1) (by omega) (by omega) (by omega) (by omega) e'
      omega
  · obtain ⟨hl, rfl⟩ := at_ k q hq
    by_cases z : k < h.2.2.2
    · have e := ol k z
      rw [Nat.add_sub_cancel] at e
      have g := X.2.2.2.1.2 k _ e
      show A (ad' (k + 1))
      rw [adk (k + 1) (by omega)]
      exact g
    · exact hA1 (k + 1) (by omega) (by omega)
/-- one cell more, empty -/
def zNw (h : MH) : MH := (fun b => if b = h.2.2.2 + 1 then fun _ => 0 else h.1 b, fun b => if b = h.2.2.2 + 1 then fun _ => 0 else h.2.1 b, fun b => if b = h.2.2.2 + 1 then fun _ => 0 else h.2.2.1 b, h.2.2.2 + 1)
def zna (ad : Nat → Nat) (n q : Nat) : Nat → Nat := fun i => if i = n then q else ad i
theorem zNi {h : MH} {b : Nat} (hb : b ≠ h.2.2.2 + 1) : (zNw h).1 b = h.1 b := if_neg hb
theorem zNl {h : MH} {b : Nat} (hb : b ≠ h.2.2.2 + 1) : (zNw h).2.1 b = h.2.1 b := if_neg hb
theorem zNr {h : MH} {b : Nat} (hb : b ≠ h.2.2.2 + 1) : (zNw h).2.2.1 b = h.2.2.1 b := if_neg hb
theorem zNn (h : MH) : (zNw h).2.2.2 = h.2.2.2 + 1 := rfl
theorem zvh_N {h : MH} (hv : zvh h) : zvh (zNw h) := fun o k h1 h2 h3 => by
  rw [zNn] at h2 ⊢
  by_cases z : o = h.2.2.2 + 1
  · show (if o = h.2.2.2 + 1 then fun _ => 0 else h.2.2.1 o) k ≤ _
    rw [if_pos z]
    omega
  · rw [zNr z]
    have := hv o k h1 (by omega) h3
    omega
theorem zvh_R {h : MH} (hv : zvh h) {a k v : Nat} (hx : v ≤ h.2.2.2) : zvh (zsR h a k v) := fun o j h1 h2 h3 => by
  show (if o = a then va_up (h.2.2.1 a) k v else h.2.2.1 o) j ≤ h.2.2.2
  by_cases z : o = a
  · rw [if_pos z]
    show (if j = k then v else h.2.2.1 a j) ≤ h.2.2.2
    by_cases y : j = k
    · rw [if_pos y]; exact hx
    · rw [if_neg y, ← z]; exact hv o j h1 h2 h3
  · rw [if_neg z]
    exact hv o j h1 h2 h3
theorem zvh_I {h : MH} (hv : zvh h) {a k : Nat} {v : Int32} : zvh (zsI h a k v) := hv
section JA
variable {M : MM} {d mc ms : Nat} {Q : Option MV → MH → Prop} {cells slots pc : Nat} {ls : List (Option MV)} {st : List MV} {h : MH}
/-- what all the rules that make one cell have alike -/
theorem zgrow1 {p : Program} {l : Launch} {e : Env} {s : State} {m : MethodId} {args : Array Value} {below : List Frame} {meth : Method} {c : Code} {D : va_G} {cA : Nat → ClassId} {ad adV : Nat → Nat} {A : Nat → Prop} {H H1 : Heap} {locs : List Loc} {lsA : Array Slot} {ad0 : Nat → Nat} {h0 : MH} {E : va_E} {q cells' slots' pc' : Nat}
    (F : zFx M p s m args meth c) (X : zWd D cA ad adV A s H locs h) (hl : lv_has lsA M.2.2.1 (zlv ad ls)) (hE : zEx mc ad0 ad h0 h) (hv : zvh h) (hs : zvs h ls st) (hm : mc ≠ 0) (hk : (zk (h.2.2.2 + 1)).1 ≠ 99)
    (hP : va_P D vwCl (zws cA ad h ++ [(q, E)]) H1) (hD : va_D A (zws cA ad h ++ [(q, E)])) (hS : va_S A s.heap H1 locs) (hEE : zcell cA (zna ad (h.2.2.2 + 1) q) (zNw h) (h.2.2.2 + 1) = E)
    (kk : J M d mc ms Q cells' slots' pc' ls (.inr (.inr (h.2.2.2 + 1)) :: st) (zNw h)) :
    W p l e (zrm d mc ms) s m args below meth c H1 locs cells' slots' (MQ below (fun _ => zEnd mc D cA ad0 h0 A Q) args s mc ms A) (F0 m pc' lsA (.ref q :: st.map (zva ad))) := by
  have hlt : h.2.2.2 + 1 < 205 := zk_lt hk
  have had : ∀ i, i ≤ h.2.2.2 ∨ 1000 ≤ i → zna ad (h.2.2.2 + 1) q i = ad i := fun i hi => if_neg (by omega)
  have hq : zna ad (h.2.2.2 + 1) q (h.2.2.2 + 1) = q := if_pos rfl
  have len : (zws cA ad h).length = h.2.2.2 := zws_len
  have lst : (zws cA ad h ++ [(q, E)])[h.2.2.2]? = some (q, E) := by
    rw [List.getElem?_append_right (by omega), len, Nat.sub_self]
    rfl
  have X' : zWd D cA (zna ad (h.2.2.2 + 1) q) adV A s H1 locs (zNw h) := by
    refine X.grow (m := 1) hv rfl (fun b b1 b2 => ⟨zNi (by omega), zNl (by omega), zNr (by omega)⟩) had ?_ hS ?_ ?_ ?_
    · intro k x hx
      exact hP k x (by rw [List.getElem?_append_left (List.getElem?_eq_some_iff.mp hx).1]; exact hx)
    · intro b b1 b2
      rw [show b = h.2.2.2 + 1 by omega, hq, hEE]
      exact hP h.2.2.2 _ lst
    · intro b b1 b2
      rw [show b = h.2.2.2 + 1 by omega, hq]
      exact hD.2 h.2.2.2 _ lst
    · intro b b' b1 b2 b3 b4 e1
      rw [show b = h.2.2.2 + 1 by omega, hq] at e1
      by_cases z : b' = h.2.2.2 + 1
      · omega
      · rw [had b' (by omega)] at e1
        have o := zws_at (cA := cA) (ad := ad) (h := h) (a := b') b3 (by omega)
        have o' : (zws cA ad h ++ [(q, E)])[b' - 1]? = some (ad b', zcell cA ad h b') := by
          rw [List.getElem?_append_left (by rw [len]; omega)]
          exact o
        have := hD.1 h.2.2.2 (b' - 1) _ _ lst o' e1
        omega
  have hE' : zEx mc ad0 (zna ad (h.2.2.2 + 1) q) h0 (zNw h) := ⟨fun i hi => (had i (hi.elim (fun y => Or.inl (Nat.le_trans y hE.2.2)) Or.inr)).trans (hE.1 i hi), fun y => absurd y hm, Nat.le_trans hE.2.2 (Nat.le_succ _)⟩
  have k2 := kk p l e s m args below meth c D cA _ adV A H1 locs lsA ad0 h0 F X' (zlv_ext had hs.2 hl) hE'
  rw [List.map_cons, zva_pos (by omega), hq, zmap_ext had hs.1] at k2
  exact k2
theorem s_new {idx c : Nat} (hdg : decode M.2.1 pc = .ok (.new idx, 3)) (hc : c < 12) (hcl : Cond.classLink M.1.cls idx (zcn c) ∈ zgw) (hin : Cond.instantiable (zcn c) (zN c) ∈ zgw) (hini : Cond.initialized (zcn c) ∈ zgw) (hk : (zk (h.2.2.2 + 1)).1 = c) (hv : zvh h) (hs : zvs h ls st) (hm : cells + 1 ≤ mc ∧ slots + zN c ≤ ms)
    (kk : J M d mc ms Q (cells + 1) (slots + zN c) (pc + 3) ls (.inr (.inr (h.2.2.2 + 1)) :: st) (zNw h)) : J M d mc ms Q cells slots pc ls st h := by
  intro p l e s m args below meth cd D cA ad adV A H locs lsA ad0 h0 F X hl hE
  refine va_new (ci := c) (fs := (List.range (zN c)).map (fun k => zfv ad (zNw h) (h.2.2.2 + 1) k (zty c k))) (C := zcn c) (T := zT c) (N := zN c) F.1 F.2.1 (fun w hw => F.w hw) (zlay_in c hc) (zty c) (zty_ok c hc) F.2.2.2.2.1 (F.w hcl) (F.w hin) (F.w hini) X.2.2.2.2.1 X.2.2.1 X.2.2.2.1 X.2.1 X.1 (zcl_at c hc) (fun j hj => ?_) hm.1 hm.2 hdg (fun q H1 q1 q2 q3 => ?_)
  · unfold vp_V
    rw [List.getD_eq_getElem?_getD, List.getElem?_map, List.getElem?_range hj]
    show defaultValue (zty c j) = zfv ad (zNw h) (h.2.2.2 + 1) j (zty c j)
    have z1 : (zNw h).1 (h.2.2.2 + 1) = fun _ => 0 := if_pos rfl
    have z2 : (zNw h).2.1 (h.2.2.2 + 1) = fun _ => 0 := if_pos rfl
    have z3 : (zNw h).2.2.1 (h.2.2.2 + 1) = fun _ => 0 := if_pos rfl
    unfold zfv
    rw [z1, z2, z3]
    rcases zty_k c hc j hj with t | t | t | t
    · revert t
      cases zty c j <;> intro t <;> first | rfl | cases t
    · rw [t]; rfl
    · rw [t]; rfl
    · rw [t]; rfl
  · refine zgrow1 F X hl hE hv hs (by omega) (by omega) q1 q2 q3 ?_ kk
    rw [zcell_obj hk hc]
    congr 2
    refine List.map_congr_left (fun k hk => ?_)
    have z3 : (zNw h).2.2.1 (h.2.2.2 + 1) = fun _ => 0 := if_pos rfl
    unfold zfv
    rw [z3]
    have hkN := List.mem_range.mp hk
    rcases zty_k c hc k hkN with t | t | t | t
    · revert t
      cases zty c k <;> intro t <;> first | rfl | cases t
    · rw [t]
    · rw [t]
    · rw [t]
end JA
