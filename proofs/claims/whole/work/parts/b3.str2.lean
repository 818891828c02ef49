/-! ===== String constants: charAt ===== -/
section ST
variable {h : MH} {d : Nat} {Q : Option MV → MH → Prop}
theorem zPreV {cA : Nat → ClassId} {ad adV : Nat → Nat} {D : va_G} {A : Nat → Prop} {s : State} {H : Heap} {locs : List Loc} {As : List Value} (X : zWd D cA ad adV A s H locs h) : PreS s H (va_Pc As (zPa D cA ad adV h H.size)) As := by
  refine ⟨fun a U g mk q => ?_, fun U hU hW => ?_⟩
  · obtain ⟨q0, q1, qP, qK, qD, qE⟩ := q
    exact ⟨q0, q1, qP, va_K.moved (u := U) (U := U.calling g mk a) (Vm.Alike.refl U.vm) qK, qD, qE.same (U := U.calling g mk a) rfl⟩
  · exact ⟨rfl, by rw [hU], by rw [hU]; exact X.2.2.1, va_K.moved hW.alike X.2.2.2.2.1, X.2.2.2.1.weaken (fun _ _ _ _ => trivial), X.2.2.2.2.2.go hW X.2.1.2.1 hU (zFr X)⟩
/-- a call that makes nothing, seen from a frame whose locals are what they are -/
theorem zcallW {p : Program} {l : Launch} {e : Env} {s : State} {m : MethodId} {args : Array Value} {below : List Frame} {meth : Method} {c : Code} {D : va_G} {cA : Nat → ClassId} {ad adV : Nat → Nat} {A : Nat → Prop} {H : Heap} {locs : List Loc} {lsA : Array Slot} {mc ms cells slots pc : Nat} {Q' : Option MV → MH → Prop} {st0 st1 : List Value} {QQ : State → Prop}
    (X : zWd D cA ad adV A s H locs h)
    (hr : va_Run p l e (zrm d mc ms) s m args below meth c H locs cells slots 0 0 (F0 m pc lsA st0) st1 (zEnd 0 D cA ad h (va_A (zws cA ad h) H.size) Q') (va_A (zws cA ad h) H.size))
    (kk : ∀ r h' H' locs', Q' r h' → zWd D cA ad adV A s H' locs' h' → h'.2.2.2 = h.2.2.2 → W p l e (zrm d mc ms) s m args below meth c H' locs' cells slots QQ (F0 m (pc + 3) lsA ((r.map (zva ad)).toList ++ st1))) :
    W p l e (zrm d mc ms) s m args below meth c H locs cells slots QQ (F0 m pc lsA st0) := by
  intro T hT Z
  obtain ⟨v, st₀, t, T', L, q0, Z', hL, e1, e2, ⟨⟨r, ad', h', hv1, hq, ⟨x1, x2, x3⟩, hP, hK, hD⟩, hz, hk⟩, go⟩ := hr T hT Z
  cases hv1
  rw [q0] at hz hk
  have hF := zFr X
  have hS : va_S A s.heap T'.heap (locs ++ L) := ⟨Nat.le_trans X.2.1.1 (by rw [e1]; exact hz), fun q h1 h2 => by rw [e1, hk q (Nat.lt_of_lt_of_le h1 X.2.1.1) (fun z => h2 (hF q z))]; exact X.2.1.2.1 q h1 h2, fun q hq => by
      rcases List.mem_append.mp hq with h | h
      · exact X.2.1.2.2 q h
      · exact hF _ (hL q h)⟩
  obtain ⟨y1, y2⟩ := x2 rfl
  subst y1
  have X' : zWd D cA ad' adV A s T'.heap (locs ++ L) h' := ⟨X.1, hS, by rw [e1]; exact hP, hD.weaken (fun k q _ h => hF q.1 h), X.2.2.2.2.1, X.2.2.2.2.2⟩
  obtain ⟨t2, a1, b1⟩ := kk r h' T'.heap (locs ++ L) hq X' y2 T' rfl Z'
  exact ⟨t2, go t2 a1, b1⟩
theorem c_chk {i n : Nat} (hin : i < n) (hn : n < 2 ^ 31) (hd : 2 ≤ d) (kk : Q none h) : Con mJ0_chk d 0 0 [.inl (nI i), .inl (nI n)] h Q := by
  refine Con.intro (by decide) (Nat.le_of_ble_eq_true rfl) ?_
  refine s_iload_n eK_0 rfl ?_
  refine s_iload_n eK_1 rfl ?_
  intro p l e s m args below meth c D cA ad adV A H locs lsA ad0 h0 F X hl hE
  have fin : J mJ0_chk d 0 0 Q 0 0 8 (zin [.inl (nI i), .inl (nI n)] 2) [.inl (nI i)] h := s_pop eK_8 rfl (J_vret eK_9 rfl (Nat.le_refl 0) (Nat.le_refl 0) kk)
  have go : ∀ x : Value, (x = .null ∨ ∃ a, x = .ref a) → W p l e (zrm d 0 0) s m args below meth c H locs 0 0 (MQ below (fun _ => zEnd 0 D cA ad0 h0 A Q) args s 0 0 A) (F0 m 5 lsA [x, .int (nI n), .int (nI i)]) := fun x hx => by
    refine zcall (M := mJ0_chk) (st := []) (mc' := 0) (ms' := 0) (Q' := fun r h' => r = some (.inl (nI i)) ∧ h' = h) F X hl hE (Nat.le_refl 0) (fun q => absurd rfl q) ?_ (fun r h' hq => ?_)
    · exact va_runS (Ts := zwd mJ0_chk) (own := mJ0_chk.1.cls) (As := [.int (nI i), .int (nI n), x]) (rest := []) ⟨F.1, F.2.1, F.2.2.1, F.2.2.2.2.1, F.2.2.2.2.2.1⟩ (m_pck (d := d - 1) hx hin hn l D cA ad adV H.size ⟨rfl, rfl⟩) ⟨zCB F lS_1059.1 (by omega), F.w lS_1059.2⟩ (zPreV X) rfl rfl hl.1 rfl (lv_room (Nat.le_of_ble_eq_true rfl)) eK_5 ⟨Nat.le_refl 0, Nat.le_refl 0⟩
    · obtain ⟨rfl, rfl⟩ := hq
      exact fin
  rcases X.2.2.2.2.2.2.2.2.2.2 with z | ⟨t, z⟩
  · exact va_gets F.1 F.2.1 z X.2.1 F.2.2.2.2.1 (F.w wS_1053) (fun _ q => q) eK_2 (go .null (Or.inl rfl))
  · exact va_gets F.1 F.2.1 z X.2.1 F.2.2.2.2.1 (F.w wS_1053) (fun _ q => q) eK_2 (go (.ref t) (Or.inr ⟨t, rfl⟩))
theorem zby_ok : ∀ j, j < 12 → ∀ i, i < 60 → ((((zbytes.getD j []).getD i 0) &&& 255).toUInt32 % 65536).toInt32 = (zbytes.getD j []).getD i 0 ∧ narrow .char (.int ((zbytes.getD j []).getD i 0)) = .int ((zbytes.getD j []).getD i 0) := by decide +kernel
theorem zln_ok : ∀ j, j < 12 → zlens.getD j 0 ≤ 60 := by decide +kernel
/-- StringLatin1.charAt on a constant's bytes -/
theorem m_lca {i j : Nat} (hj : j < 12) (hi : i < zlens.getD j 0) (hd : 3 ≤ d) (l : Launch) (D : va_G) (cA : Nat → ClassId) (ad adV : Nat → Nat) (sz : Nat) (kk : Q (some (.inl ((zbytes.getD j []).getD i 0))) h) :
    Met l mJ1_charAt.1 (zwd mJ1_charAt) (zrm d 0 0) (va_Pc [.ref (adV j), .int (nI i)] (zPa D cA ad adV h sz)) (fun _ => zEnd 0 D cA ad h (va_A (zws cA ad h) sz) Q) 0 0 (va_A (zws cA ad h) sz) := by
  have l60 := zln_ok j hj
  refine Met.ofW (cc := mJ1_charAt.2.1) (maxL := 2) (ret := some .char) (ws' := zgw) (by decide) rfl ?_
  intro p e s m args below meth c s₁ B hml hv
  obtain ⟨rfl, hsz, hP, hK, hD0, hE⟩ := hv
  subst hsz
  have hD := hD0.self (sz := s.heap.size)
  rw [lg_entry_eq]
  have hl : lv_has ((lg_sl [.ref (adV j), .int (nI i)] ++ List.replicate (2 - (lg_sl [.ref (adV j), .int (nI i)]).length) Slot.unset).toArray) 2 _ := lv_entry [.ref (adV j), .int (nI i)] (n := 2) (Nat.le_of_ble_eq_true rfl)
  have g0 : ((lg_sl [.ref (adV j), .int (nI i)] ++ List.replicate (2 - (lg_sl [.ref (adV j), .int (nI i)]).length) Slot.unset).toArray)[0]? = some (.val (.ref (adV j))) := rfl
  have g1 : ((lg_sl [.ref (adV j), .int (nI i)] ++ List.replicate (2 - (lg_sl [.ref (adV j), .int (nI i)]).length) Slot.unset).toArray)[1]? = some (.val (.int (nI i))) := rfl
  generalize ((lg_sl [.ref (adV j), .int (nI i)] ++ List.replicate (2 - (lg_sl [.ref (adV j), .int (nI i)]).length) Slot.unset).toArray) = lsA at hl g0 g1 ⊢
  have F : zFx mJ1_charAt p s m [.ref (adV j), .int (nI i)].toArray meth c := ⟨B.exec, B.bytes, hml, B.returns, findClass_of_methodNamed B.named, atoms_spec (ws := zwd mJ1_charAt) B.pre, B.notSynchronized, (name_of_methodNamed B.named B.method).1⟩
  have X : zWd D cA ad adV (va_A (zws cA ad h) s.heap.size) s s.heap [] h := ⟨fun q hq => Or.inr hq, va_S.rf, hP, hD, hK, hE⟩
  have hT := (X.2.2.2.2.2.2.2.2.1.1 j hj).2.2.2
  refine lv_iload_n F.1 F.2.1 eA_0 rfl g1 ?_
  refine lv_aload_n F.1 F.2.1 eA_1 rfl g0 ?_
  refine va_tlen F.1 F.2.1 hT X.2.1 rfl eA_2 ?_
  refine zcallW (Q' := fun r h' => r = none ∧ h' = h) (st1 := []) X ?_ (fun r h' H' locs' hq X' hn => ?_)
  · exact va_runS (Ts := zwd mJ1_charAt) (own := mJ1_charAt.1.cls) (As := [.int (nI i), .int (nI (zlens.getD j 0))]) (rest := []) ⟨F.1, F.2.1, F.2.2.1, F.2.2.2.2.1, F.2.2.2.2.2.1⟩ (c_chk (d := d - 1) (Q := fun r h' => r = none ∧ h' = h) hi (by omega) (by omega) ⟨rfl, rfl⟩ l D cA ad adV s.heap.size) ⟨zCB F lS_9.1 (by omega), F.w lS_9.2⟩ (zPreV X) rfl rfl hl.1 rfl (lv_room (Nat.le_of_ble_eq_true rfl)) eA_3 ⟨Nat.le_refl 0, Nat.le_refl 0⟩
  · obtain ⟨rfl, rfl⟩ := hq
    have hT' := (X'.2.2.2.2.2.2.2.2.1.1 j hj).2.2.2
    refine lv_aload_n F.1 F.2.1 eA_6 rfl g0 ?_
    refine lv_iload_n F.1 F.2.1 eA_7 rfl g1 ?_
    refine va_tb F.1 F.2.1 hT' X'.2.1 (vp_in_nI hi (by omega)) (v := .int ((zbytes.getD j []).getD i 0)) (by rw [nI_clamp (by omega)]) eA_8 ?_
    refine lv_sipush F.1 F.2.1 eA_9 (v := 255) (by decide) ?_
    refine lv_iand F.1 F.2.1 eA_12 ?_
    have zb := zby_ok j hj i (by omega)
    refine lv_i2c F.1 F.2.1 eA_13 (v := (zbytes.getD j []).getD i 0) zb.1 ?_
    have go : J mJ1_charAt d 0 0 Q 0 0 14 [none, none] [.inl ((zbytes.getD j []).getD i 0)] h' := J_iret (ty := .char) eA_14 rfl zb.2 (Nat.le_refl 0) (Nat.le_refl 0) kk
    refine go p l e s m _ below meth c D cA ad adV _ H' locs' lsA ad h' F X' ⟨hl.1, hl.2.1, fun q hq => ?_⟩ ⟨fun _ _ => rfl, fun _ => ⟨rfl, rfl⟩, Nat.le_refl _⟩
    obtain ⟨v, y1, _⟩ := zlv_mem.mp hq
    rcases q with ⟨q1, q2⟩
    match q1, y1 with
    | 0, y1 => cases y1
    | 1, y1 => cases y1
    | k + 2, y1 => cases y1
theorem c_cha {i j : Nat} (hj : j < 12) (hi : i < zlens.getD j 0) (hd : 4 ≤ d) (kk : Q (some (.inl ((zbytes.getD j []).getD i 0))) h) : Con mJ0_charAt_5068e d 0 0 [.inr (.inr (1000 + j)), .inl (nI i)] h Q := by
  have l60 := zln_ok j hj
  refine Con.intro (by decide) (Nat.le_of_ble_eq_true rfl) ?_
  refine s_aload_n eC_0 rfl ?_
  refine zcTi (o := 14) (d' := d - 1) (as := []) eC_1 lS_492 rfl (by omega) rfl (Nat.le_of_ble_eq_true rfl) zle0 rfl ⟨j, rfl, hj⟩ ?_
  refine c_iL1 hj ?_
  refine s_if_eq eC_4 (by decide) (fun q => absurd q (by decide)) (fun _ => ?_)
  intro p l e s m args below meth c D cA ad adV A H locs lsA ad0 h0 F X hl hE
  have g0 := zlv_get hl (i := 0) (v := .inr (.inr (1000 + j))) rfl
  rw [zva_pos (by omega)] at g0
  have g1 := zlv_get hl (i := 1) (v := .inl (nI i)) rfl
  refine lv_aload_n F.1 F.2.1 eC_7 rfl (x := ad (1000 + j)) g0 ?_
  have hs := X.2.2.2.2.2.2.2.2.1.1 j hj
  refine vk_getf F.1 F.2.1 hs.2.2.1 X.2.1 F.2.2.2.2.1 (F.w wS_9) (fun _ q => q) eC_8 ?_
  refine lv_iload_n F.1 F.2.1 eC_11 rfl g1 ?_
  refine zcall (M := mJ0_charAt_5068e) (st := []) (mc' := 0) (ms' := 0) (Q' := fun r h' => r = some (.inl ((zbytes.getD j []).getD i 0)) ∧ h' = h) F X hl hE (Nat.le_refl 0) (fun q => absurd rfl q) ?_ (fun r h' hq => ?_)
  · exact va_runS (Ts := zwd mJ0_charAt_5068e) (own := mJ0_charAt_5068e.1.cls) (As := [.ref (adV j), .int (nI i)]) (rest := []) ⟨F.1, F.2.1, F.2.2.1, F.2.2.2.2.1, F.2.2.2.2.2.1⟩ (m_lca (d := d - 1) hj hi (by omega) l D cA ad adV H.size ⟨rfl, rfl⟩) ⟨zCB F lS_495.1 (by omega), F.w lS_495.2⟩ (zPreV X) rfl rfl hl.1 rfl (lv_room (Nat.le_of_ble_eq_true rfl)) eC_12 ⟨Nat.le_refl 0, Nat.le_refl 0⟩
  · obtain ⟨rfl, rfl⟩ := hq
    exact J_iret (ty := .char) eC_15 rfl (zby_ok j hj i (by omega)).2 (Nat.le_refl 0) (Nat.le_refl 0) kk
end ST
theorem kStr_ok : kStr := ⟨fun j d h Q hj hd kk => c_len hj (by omega) kk, fun j i d h Q hj hi hd kk => c_cha hj hi (by omega) kk⟩
