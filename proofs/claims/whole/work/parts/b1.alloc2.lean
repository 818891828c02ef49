/-! ===== arrays that are made; references stored ===== -/
section JA
variable {M : MM} {d mc ms : Nat} {Q : Option MV → MH → Prop} {cells slots pc : Nat} {ls : List (Option MV)} {st : List MV} {h : MH}
theorem zK_n {D : va_G} {cA : Nat → ClassId} {s : State} {cA' : ClassId} {ty : FieldType} (hK : va_K D vwCl (ztys cA ++ [(cA', ty)]) s) : va_RA s cA' ty := (hK.2 7 (cA', ty) rfl).2
theorem s_newi {N : Nat} {x : Int32} (hdg : decode M.2.1 pc = .ok (.newarray .int, 2)) (harr : Cond.arrayClass .int ∈ zgw) (hx : ¬ x < 0) (hN : x.toNatClampNeg = N) (hb : N ≤ 100000) (hk : zk (h.2.2.2 + 1) = (20, N)) (hv : zvh h) (hs : zvs h ls st) (hm : cells + 1 ≤ mc ∧ slots + N ≤ ms)
    (kk : J M d mc ms Q (cells + 1) (slots + N) (pc + 2) ls (.inr (.inr (h.2.2.2 + 1)) :: st) (zNw h)) : J M d mc ms Q cells slots pc ls (.inl x :: st) h := by
  intro p l e s m args below meth cd D cA ad adV A H locs lsA ad0 h0 F X hl hE
  refine va_newa (atype := .int) (ty := .int) (a0 := (N, .inl (fun _ => 0))) F.1 F.2.1 (F.w harr) rfl X.2.2.2.2.1 X.2.2.1 X.2.2.2.1 X.2.1 X.1 (fun cA => rfl) hx hN (by show N * 4 ≤ _; omega) hm.1 hm.2 hdg (fun q cA' H1 q0 q1 q2 q3 => ?_)
  have e1 : s.vm.findClass ("[" ++ FieldType.int.toString) = some cA' := zK_n q0
  have e2 : s.vm.findClass ("[" ++ FieldType.int.toString) = some (cA 20) := (X.2.2.2.2.1.2 0 _ rfl).2
  obtain rfl : cA' = cA 20 := Option.some.inj (e1.symm.trans e2)
  refine zgrow1 F X hl hE hv hs (by omega) (by rw [hk]; exact Nat.ne_of_beq_eq_false rfl) q1 q2 q3 ?_ kk
  have z1 : (zNw h).1 (h.2.2.2 + 1) = fun _ => 0 := if_pos rfl
  rw [zcell_i (by rw [hk]), hk, z1]
theorem s_newl {N : Nat} {x : Int32} (hdg : decode M.2.1 pc = .ok (.newarray .long, 2)) (harr : Cond.arrayClass .long ∈ zgw) (hx : ¬ x < 0) (hN : x.toNatClampNeg = N) (hb : N ≤ 100000) (hk : zk (h.2.2.2 + 1) = (21, N)) (hv : zvh h) (hs : zvs h ls st) (hm : cells + 1 ≤ mc ∧ slots + N ≤ ms)
    (kk : J M d mc ms Q (cells + 1) (slots + N) (pc + 2) ls (.inr (.inr (h.2.2.2 + 1)) :: st) (zNw h)) : J M d mc ms Q cells slots pc ls (.inl x :: st) h := by
  intro p l e s m args below meth cd D cA ad adV A H locs lsA ad0 h0 F X hl hE
  refine va_newa (atype := .long) (ty := .long) (a0 := (N, .inr (.inl (fun _ => 0)))) F.1 F.2.1 (F.w harr) rfl X.2.2.2.2.1 X.2.2.1 X.2.2.2.1 X.2.1 X.1 (fun cA => rfl) hx hN (by show N * 8 ≤ _; omega) hm.1 hm.2 hdg (fun q cA' H1 q0 q1 q2 q3 => ?_)
  have e1 : s.vm.findClass ("[" ++ FieldType.long.toString) = some cA' := zK_n q0
  have e2 : s.vm.findClass ("[" ++ FieldType.long.toString) = some (cA 21) := (X.2.2.2.2.1.2 1 _ rfl).2
  obtain rfl : cA' = cA 21 := Option.some.inj (e1.symm.trans e2)
  refine zgrow1 F X hl hE hv hs (by omega) (by rw [hk]; exact Nat.ne_of_beq_eq_false rfl) q1 q2 q3 ?_ kk
  have z1 : (zNw h).2.1 (h.2.2.2 + 1) = fun _ => 0 := if_pos rfl
  rw [zcell_l (by rw [hk]), hk, z1]
theorem s_newz {N : Nat} {x : Int32} (hdg : decode M.2.1 pc = .ok (.newarray .boolean, 2)) (harr : Cond.arrayClass .boolean ∈ zgw) (hx : ¬ x < 0) (hN : x.toNatClampNeg = N) (hb : N ≤ 100000) (hk : zk (h.2.2.2 + 1) = (22, N)) (hv : zvh h) (hs : zvs h ls st) (hm : cells + 1 ≤ mc ∧ slots + N ≤ ms)
    (kk : J M d mc ms Q (cells + 1) (slots + N) (pc + 2) ls (.inr (.inr (h.2.2.2 + 1)) :: st) (zNw h)) : J M d mc ms Q cells slots pc ls (.inl x :: st) h := by
  intro p l e s m args below meth cd D cA ad adV A H locs lsA ad0 h0 F X hl hE
  refine va_newa (atype := .boolean) (ty := .boolean) (a0 := (N, .inl (fun _ => 0))) F.1 F.2.1 (F.w harr) rfl X.2.2.2.2.1 X.2.2.1 X.2.2.2.1 X.2.1 X.1 (fun cA => rfl) hx hN (by show N * 1 ≤ _; omega) hm.1 hm.2 hdg (fun q cA' H1 q0 q1 q2 q3 => ?_)
  have e1 : s.vm.findClass ("[" ++ FieldType.boolean.toString) = some cA' := zK_n q0
  have e2 : s.vm.findClass ("[" ++ FieldType.boolean.toString) = some (cA 22) := (X.2.2.2.2.1.2 2 _ rfl).2
  obtain rfl : cA' = cA 22 := Option.some.inj (e1.symm.trans e2)
  refine zgrow1 F X hl hE hv hs (by omega) (by rw [hk]; exact Nat.ne_of_beq_eq_false rfl) q1 q2 q3 ?_ kk
  have z1 : (zNw h).1 (h.2.2.2 + 1) = fun _ => 0 := if_pos rfl
  rw [zcell_z (by rw [hk]), hk, z1]
/-- arrays of references: 30 Plan, 31 Book, 32 Row -/
def zqn (kc : Nat) : String := if kc = 30 then "UnevenWax$Plan" else if kc = 31 then "UnevenWax$Book" else "UnevenWax$Row"
theorem s_newq {kc N idx : Nat} {x : Int32} (hdg : decode M.2.1 pc = .ok (.anewarray idx, 3)) (h3 : kc = 30 ∨ kc = 31 ∨ kc = 32) (hcl : Cond.classLink M.1.cls idx (zqn kc) ∈ zgw) (hx : ¬ x < 0) (hN : x.toNatClampNeg = N) (hb : N ≤ 100000) (hk : zk (h.2.2.2 + 1) = (kc, N)) (hv : zvh h) (hs : zvs h ls st) (hm : cells + 1 ≤ mc ∧ slots + N ≤ ms)
    (kk : J M d mc ms Q (cells + 1) (slots + N) (pc + 3) ls (.inr (.inr (h.2.2.2 + 1)) :: st) (zNw h)) : J M d mc ms Q cells slots pc ls (.inl x :: st) h := by
  intro p l e s m args below meth cd D cA ad adV A H locs lsA ad0 h0 F X hl hE
  have ao : va_AO (zqn kc) s := by
    rcases h3 with rfl | rfl | rfl
    · exact X.2.2.2.2.2.2.1.1
    · exact X.2.2.2.2.2.2.1.2.1
    · exact X.2.2.2.2.2.2.1.2.2.1
  have e2 : s.vm.findClass ("[" ++ (FieldType.object (zqn kc)).toString) = some (cA kc) := by
    rcases h3 with rfl | rfl | rfl
    · obtain ⟨_, _, _, _, _, g⟩ := (X.2.2.2.2.1.2 3 _ rfl).2
      exact g
    · obtain ⟨_, _, _, _, _, g⟩ := (X.2.2.2.2.1.2 4 _ rfl).2
      exact g
    · obtain ⟨_, _, _, _, _, g⟩ := (X.2.2.2.2.1.2 5 _ rfl).2
      exact g
  refine va_newq (C := zqn kc) (N' := N) F.1 F.2.1 F.2.2.2.2.1 (F.w hcl) ao X.2.2.2.2.1 X.2.2.1 X.2.2.2.1 X.2.1 X.1 hx hN (by omega) hm.1 hm.2 hdg (fun q cA' H1 q0 q1 q2 q3 => ?_)
  obtain ⟨_, _, _, _, _, e1⟩ := zK_n q0
  obtain rfl : cA' = cA kc := Option.some.inj (e1.symm.trans e2)
  refine zgrow1 F X hl hE hv hs (by omega) (by rw [hk]; show kc ≠ 99; omega) q1 q2 q3 ?_ kk
  have z1 : (zNw h).2.2.1 (h.2.2.2 + 1) = fun _ => 0 := if_pos rfl
  rw [zcell_r (by rw [hk]; show 30 ≤ kc; omega), hk, z1]
  rfl
/-- a reference put into an array -/
theorem s_aast {a v kc ci : Nat} {i : Int32} (hdg : decode M.2.1 pc = .ok (.aastore, 1)) (h3 : kc = 30 ∧ ci = 5 ∨ kc = 31 ∧ ci = 1 ∨ kc = 32 ∧ ci = 7) (ha : 0 < a ∧ a ≤ h.2.2.2 ∧ (zk a).1 = kc) (hi : vp_in i (zk a).2) (hv : zokO h v ci)
    (kk : J M d mc ms Q cells slots (pc + 1) ls st (zsR h a i.toNatClampNeg v)) : J M d mc ms Q cells slots pc ls (.inr (.inr v) :: .inl i :: .inr (.inr a) :: st) h := by
  intro p l e s m args below meth cd D cA ad adV A H locs lsA ad0 h0 F X hl hE
  rw [List.map_cons, List.map_cons, List.map_cons, zva_pos ha.1, zva_pos hv.1]
  have k30 : 30 ≤ (zk a).1 := by omega
  have he := zws_at (cA := cA) (ad := ad) ha.1 ha.2.1
  rw [zcell_r k30] at he
  have c12 : ci < 12 := by omega
  have hev := zws_at (cA := cA) (ad := ad) hv.1 hv.2.1
  rw [zcell_obj hv.2.2 c12] at hev
  have hcell : zcell cA ad (zsR h a i.toNatClampNeg v) a = .inl (cA (zk a).1, (zk a).2, .inr (.inr (.inr (.inr (va_up (fun j => zrf ad (h.2.2.1 a j)) i.toNatClampNeg (some (ad v))))))) := by
    rw [zcell_r k30]
    have ef : (fun j => zrf ad ((zsR h a i.toNatClampNeg v).2.2.1 a j)) = va_up (fun j => zrf ad (h.2.2.1 a j)) i.toNatClampNeg (some (ad v)) := funext fun j => by
      have e1 : (zsR h a i.toNatClampNeg v).2.2.1 a j = if j = i.toNatClampNeg then v else h.2.2.1 a j := by
        show (if a = a then va_up (h.2.2.1 a) i.toNatClampNeg v else h.2.2.1 a) j = _
        rw [if_pos rfl]
        rfl
      rw [e1]
      show _ = if j = i.toNatClampNeg then some (ad v) else zrf ad (h.2.2.1 a j)
      by_cases z : j = i.toNatClampNeg
      · rw [if_pos z, if_pos z, zrf_pos hv.1]
      · rw [if_neg z, if_neg z]
    rw [ef]
  have fin : ∀ (H1 : Heap) (locs1 : List Loc), va_P D vwCl ((zws cA ad h).set (a - 1) (ad a, .inl (cA (zk a).1, (zk a).2, .inr (.inr (.inr (.inr (va_up (fun j => zrf ad (h.2.2.1 a j)) i.toNatClampNeg (some (ad v))))))))) H1 → va_D A ((zws cA ad h).set (a - 1) (ad a, .inl (cA (zk a).1, (zk a).2, .inr (.inr (.inr (.inr (va_up (fun j => zrf ad (h.2.2.1 a j)) i.toNatClampNeg (some (ad v))))))))) → va_S A s.heap H1 locs1 → W p l e (zrm d mc ms) s m args below meth cd H1 locs1 cells slots (MQ below (fun _ => zEnd mc D cA ad0 h0 A Q) args s mc ms A) (F0 m (pc + 1) lsA (st.map (zva ad))) := fun H1 locs1 q1 q2 q3 => by
    rw [← hcell] at q1 q2
    exact kk p l e s m args below meth cd D cA ad adV A H1 locs1 lsA ad0 h0 F (X.store (zag_R _ _ _ _) ha.1 ha.2.1 q1 q2 q3) hl (hE.store (zag_R h a _ _))
  rcases h3 with ⟨rfl, rfl⟩ | ⟨rfl, rfl⟩ | ⟨rfl, rfl⟩
  · rw [ha.2.2] at he fin
    exact va_astq (r := (zcn 5, zT 5, zN 5)) F.1 F.2.1 X.2.2.2.2.1 X.2.2.1 X.2.2.2.1 X.2.1 (a - 1) 3 (v - 1) 5 he rfl hev (zcl_at 5 (by decide)) hi hdg fin
  · rw [ha.2.2] at he fin
    exact va_astq (r := (zcn 1, zT 1, zN 1)) F.1 F.2.1 X.2.2.2.2.1 X.2.2.1 X.2.2.2.1 X.2.1 (a - 1) 4 (v - 1) 1 he rfl hev (zcl_at 1 (by decide)) hi hdg fin
  · rw [ha.2.2] at he fin
    exact va_astq (r := (zcn 7, zT 7, zN 7)) F.1 F.2.1 X.2.2.2.2.1 X.2.2.1 X.2.2.2.1 X.2.1 (a - 1) 5 (v - 1) 7 he rfl hev (zcl_at 7 (by decide)) hi hdg fin
/-- a row of rows, all at once -/
def zM2 (n : Nat) (h : MH) : MH := (fun b => if h.2.2.2 < b ∧ b ≤ h.2.2.2 + (1 + n) then fun _ => 0 else h.1 b, fun b => if h.2.2.2 < b ∧ b ≤ h.2.2.2 + (1 + n) then fun _ => 0 else h.2.1 b, fun b => if b = h.2.2.2 + 1 then fun j => h.2.2.2 + 1 + 1 + j else if h.2.2.2 < b ∧ b ≤ h.2.2.2 + (1 + n) then fun _ => 0 else h.2.2.1 b, h.2.2.2 + (1 + n))
theorem s_mna {n k idx : Nat} (hdg : decode M.2.1 pc = .ok (.multianewarray idx 2, 4)) (hcl : Cond.classLink M.1.cls idx "[[I" ∈ zgw) (harr : Cond.arrayClass .int ∈ zgw) (hn : n ≤ 100) (hk : k ≤ 100) (k1 : zk (h.2.2.2 + 1) = (33, n)) (k2 : ∀ j, j < n → zk (h.2.2.2 + 2 + j) = (20, k)) (hv : zvh h) (hs : zvs h ls st) (hm : cells + (1 + n) ≤ mc ∧ slots + (n + n * k) ≤ ms)
    (kk : J M d mc ms Q (cells + 1 + n) (slots + n + n * k) (pc + 4) ls (.inr (.inr (h.2.2.2 + 1)) :: st) (zM2 n h)) : J M d mc ms Q cells slots pc ls (.inl (nI k) :: .inl (nI n) :: st) h := by
  intro p l e s m args below meth cd D cA ad adV A H locs lsA ad0 h0 F X hl hE
  have cn : (nI n).toNatClampNeg = n := nI_clamp (by omega)
  have ck : (nI k).toNatClampNeg = k := nI_clamp (by omega)
  have hlt : h.2.2.2 + 1 < 205 := zk_lt (by rw [k1]; exact Nat.ne_of_beq_eq_false rfl)
  have hlt2 : n = 0 ∨ h.2.2.2 + 1 + n < 205 := by
    rcases Nat.eq_zero_or_pos n with z | z
    · exact Or.inl z
    · have := zk_lt (a := h.2.2.2 + 2 + (n - 1)) (by rw [k2 (n - 1) (by omega)]; exact Nat.ne_of_beq_eq_false rfl)
      omega
  refine zm_mna (n := nI n) (k := nI k) F.1 F.2.1 F.2.2.2.2.1 (F.w hcl) X.2.2.2.2.2.2.1.2.2.2 (F.w harr) (nI_pos (by omega)) (nI_pos (by omega)) (by rw [cn]; omega) (by rw [ck]; omega) (by rw [cn]; exact hm.1) (by rw [cn, ck]; exact hm.2) hdg (fun H1 cM cI f1 f2 sz old o1 o2 => ?_)
  rw [cn] at sz o1 o2 ⊢
  rw [ck] at o2 ⊢
  have e1 : s.vm.findClass ("[" ++ (FieldType.array .int).toString) = some (cA 33) := (X.2.2.2.2.1.2 6 _ rfl).2
  have e2 : s.vm.findClass ("[" ++ FieldType.int.toString) = some (cA 20) := (X.2.2.2.2.1.2 0 _ rfl).2
  obtain rfl : cM = cA 33 := Option.some.inj (f1.symm.trans e1)
  obtain rfl : cI = cA 20 := Option.some.inj (f2.symm.trans e2)
  obtain ⟨ad', had'⟩ : ∃ ad' : Nat → Nat, ad' = fun i => if h.2.2.2 < i ∧ i ≤ h.2.2.2 + (1 + n) then H.size + (i - (h.2.2.2 + 1)) else ad i := ⟨_, rfl⟩
  have had : ∀ i, i ≤ h.2.2.2 ∨ 1000 ≤ i → ad' i = ad i := fun i hi => by rw [had']; exact if_neg (by omega)
  have hnw : ∀ i, h.2.2.2 < i → i ≤ h.2.2.2 + (1 + n) → ad' i = H.size + (i - (h.2.2.2 + 1)) := fun i q1 q2 => by rw [had']; exact if_pos ⟨q1, q2⟩
  have X' : zWd D cA ad' adV A s H1 locs (zM2 n h) := by
    refine X.grow (m := 1 + n) hv rfl (fun b b1 b2 => ⟨if_neg (by omega), if_neg (by omega), ?_⟩) had ?_ ?_ ?_ ?_ ?_
    · show (if b = h.2.2.2 + 1 then fun j => h.2.2.2 + 1 + 1 + j else if h.2.2.2 < b ∧ b ≤ h.2.2.2 + (1 + n) then fun _ => 0 else h.2.2.1 b) = _
      rw [if_neg (by omega), if_neg (by omega)]
    · exact X.2.2.1.kept (fun k x hx => old x.1 ((X.2.2.1 k x hx).lt))
    · exact ⟨Nat.le_trans X.2.1.1 (by omega), fun q h1 h2 => (old q (Nat.lt_of_lt_of_le h1 X.2.1.1)).trans (X.2.1.2.1 q h1 h2), X.2.1.2.2⟩
    · intro b b1 b2
      rw [hnw b b1 b2]
      by_cases z : b = h.2.2.2 + 1
      · have kz : (zk b).1 = 33 := by rw [z, k1]
        rw [zcell_r (by omega)]
        have zr : (zM2 n h).2.2.1 b = fun j => h.2.2.2 + 1 + 1 + j := by
          show (if b = h.2.2.2 + 1 then fun j => h.2.2.2 + 1 + 1 + j else if h.2.2.2 < b ∧ b ≤ h.2.2.2 + (1 + n) then fun _ => 0 else h.2.2.1 b) = _
          rw [if_pos z]
        show H1[H.size + (b - (h.2.2.2 + 1))]? = some (vp_cell (cA (zk b).1) ((zk b).2, .inr (.inr (.inr (.inr (fun j => zrf ad' ((zM2 n h).2.2.1 b j)))))))
        rw [zr, show H.size + (b - (h.2.2.2 + 1)) = H.size by omega, o1, kz, show (zk b).2 = n by rw [z, k1], vp_cell_q]
        congr 1
        refine zm_cong (fun j hj => ?_)
        show Value.ref (H.size + 1 + j) = va_rf (zrf ad' (h.2.2.2 + 1 + 1 + j))
        rw [zrf_pos (by omega), hnw _ (by omega) (by omega), show H.size + (h.2.2.2 + 1 + 1 + j - (h.2.2.2 + 1)) = H.size + 1 + j by omega]
        rfl
      · obtain ⟨j, rfl⟩ : ∃ j, b = h.2.2.2 + 2 + j := ⟨b - (h.2.2.2 + 2), by omega⟩
        have kb := k2 j (by omega)
        rw [zcell_i (by rw [kb])]
        have zi : (zM2 n h).1 (h.2.2.2 + 2 + j) = fun _ => 0 := if_pos ⟨by omega, by omega⟩
        show H1[H.size + (h.2.2.2 + 2 + j - (h.2.2.2 + 1))]? = some (vp_cell (cA 20) ((zk (h.2.2.2 + 2 + j)).2, .inl ((zM2 n h).1 (h.2.2.2 + 2 + j))))
        rw [zi, kb, show H.size + (h.2.2.2 + 2 + j - (h.2.2.2 + 1)) = H.size + 1 + j by omega, o2 j (by omega)]
        rfl
    · intro b b1 b2
      rw [hnw b b1 b2]
      exact X.1 _ (by have := X.2.1.1; omega)
    · intro b b' b1 b2 b3 b4 eb
      rw [hnw b b1 b2] at eb
      by_cases z : h.2.2.2 < b'
      · rw [hnw b' z b4] at eb
        omega
      · rw [had b' (by omega)] at eb
        have o := zws_at (cA := cA) (ad := ad) (h := h) (a := b') b3 (by omega)
        have := (X.2.2.1 _ _ o).lt
        have : ad b' < H.size := this
        omega
  have hE' : zEx mc ad0 ad' h0 (zM2 n h) := ⟨fun i hi => (had i (hi.elim (fun y => Or.inl (Nat.le_trans y hE.2.2)) Or.inr)).trans (hE.1 i hi), fun y => absurd y (by omega), Nat.le_trans hE.2.2 (Nat.le_add_right _ _)⟩
  have k2' := kk p l e s m args below meth cd D cA _ adV A H1 locs lsA ad0 h0 F X' (zlv_ext had hs.2 hl) hE'
  rw [List.map_cons, zva_pos (by omega), hnw _ (by omega) (by omega), zmap_ext had hs.1, show H.size + (h.2.2.2 + 1 - (h.2.2.2 + 1)) = H.size by omega] at k2'
  exact k2'
end JA
