/-! ===== String constants: length, charAt ===== -/
def mJ0_coder : MM := (yJ0_coder_7d493, cJ0_coder_7d493, 1, some .byte)
def mJ0_isL1 : MM := (yJ0_isLatin1_aae02, cJ0_isLatin1_aae02, 1, some .boolean)
def mJ0_chk : MM := (yJ0_checkIndex_df160, cJ0_checkIndex_df160, 2, none)
def mJ1_charAt : MM := (yJ1_charAt_3b067, cJ1_charAt_3b067, 2, some .char)
def mJ3_chk : MM := (yJ3_checkIndex_8e157, cJ3_checkIndex_8e157, 3, some .int)
theorem eL_0 : decode mJ0_length_8abf5.2.1 0 = .ok (.aload_n 0, 1) := by decide +kernel
theorem eL_1 : decode mJ0_length_8abf5.2.1 1 = .ok (.getfield 9, 3) := by decide +kernel
theorem eL_4 : decode mJ0_length_8abf5.2.1 4 = .ok (.arraylength, 1) := by decide +kernel
theorem eL_5 : decode mJ0_length_8abf5.2.1 5 = .ok (.aload_n 0, 1) := by decide +kernel
theorem eL_6 : decode mJ0_length_8abf5.2.1 6 = .ok (.invokevirtual 335, 3) := by decide +kernel
theorem eL_9 : decode mJ0_length_8abf5.2.1 9 = .ok (.ishr, 1) := by decide +kernel
theorem eL_10 : decode mJ0_length_8abf5.2.1 10 = .ok (.ireturn, 1) := by decide +kernel
theorem eC_0 : decode mJ0_charAt_5068e.2.1 0 = .ok (.aload_n 0, 1) := by decide +kernel
theorem eC_1 : decode mJ0_charAt_5068e.2.1 1 = .ok (.invokevirtual 492, 3) := by decide +kernel
theorem eC_4 : decode mJ0_charAt_5068e.2.1 4 = .ok (.ifCond .eq 12, 3) := by decide +kernel
theorem eC_7 : decode mJ0_charAt_5068e.2.1 7 = .ok (.aload_n 0, 1) := by decide +kernel
theorem eC_8 : decode mJ0_charAt_5068e.2.1 8 = .ok (.getfield 9, 3) := by decide +kernel
theorem eC_11 : decode mJ0_charAt_5068e.2.1 11 = .ok (.iload_n 1, 1) := by decide +kernel
theorem eC_12 : decode mJ0_charAt_5068e.2.1 12 = .ok (.invokestatic 495, 3) := by decide +kernel
theorem eC_15 : decode mJ0_charAt_5068e.2.1 15 = .ok (.ireturn, 1) := by decide +kernel
theorem eD_0 : decode mJ0_coder.2.1 0 = .ok (.getstatic 38, 3) := by decide +kernel
theorem eD_3 : decode mJ0_coder.2.1 3 = .ok (.ifCond .eq 10, 3) := by decide +kernel
theorem eD_6 : decode mJ0_coder.2.1 6 = .ok (.aload_n 0, 1) := by decide +kernel
theorem eD_7 : decode mJ0_coder.2.1 7 = .ok (.getfield 15, 3) := by decide +kernel
theorem eD_10 : decode mJ0_coder.2.1 10 = .ok (.goto 4, 3) := by decide +kernel
theorem eD_14 : decode mJ0_coder.2.1 14 = .ok (.ireturn, 1) := by decide +kernel
theorem eI_0' : decode mJ0_isL1.2.1 0 = .ok (.getstatic 38, 3) := by decide +kernel
theorem eI_3' : decode mJ0_isL1.2.1 3 = .ok (.ifCond .eq 14, 3) := by decide +kernel
theorem eI_6' : decode mJ0_isL1.2.1 6 = .ok (.aload_n 0, 1) := by decide +kernel
theorem eI_7' : decode mJ0_isL1.2.1 7 = .ok (.getfield 15, 3) := by decide +kernel
theorem eI_10' : decode mJ0_isL1.2.1 10 = .ok (.ifCond .ne 7, 3) := by decide +kernel
theorem eI_13' : decode mJ0_isL1.2.1 13 = .ok (.iconst 1, 1) := by decide +kernel
theorem eI_14' : decode mJ0_isL1.2.1 14 = .ok (.goto 4, 3) := by decide +kernel
theorem eI_18' : decode mJ0_isL1.2.1 18 = .ok (.ireturn, 1) := by decide +kernel
theorem eK_0 : decode mJ0_chk.2.1 0 = .ok (.iload_n 0, 1) := by decide +kernel
theorem eK_1 : decode mJ0_chk.2.1 1 = .ok (.iload_n 1, 1) := by decide +kernel
theorem eK_2 : decode mJ0_chk.2.1 2 = .ok (.getstatic 1053, 3) := by decide +kernel
theorem eK_5 : decode mJ0_chk.2.1 5 = .ok (.invokestatic 1059, 3) := by decide +kernel
theorem eK_8 : decode mJ0_chk.2.1 8 = .ok (.pop, 1) := by decide +kernel
theorem eK_9 : decode mJ0_chk.2.1 9 = .ok (.return_, 1) := by decide +kernel
theorem eA_0 : decode mJ1_charAt.2.1 0 = .ok (.iload_n 1, 1) := by decide +kernel
theorem eA_1 : decode mJ1_charAt.2.1 1 = .ok (.aload_n 0, 1) := by decide +kernel
theorem eA_2 : decode mJ1_charAt.2.1 2 = .ok (.arraylength, 1) := by decide +kernel
theorem eA_3 : decode mJ1_charAt.2.1 3 = .ok (.invokestatic 9, 3) := by decide +kernel
theorem eA_6 : decode mJ1_charAt.2.1 6 = .ok (.aload_n 0, 1) := by decide +kernel
theorem eA_7 : decode mJ1_charAt.2.1 7 = .ok (.iload_n 1, 1) := by decide +kernel
theorem eA_8 : decode mJ1_charAt.2.1 8 = .ok (.baload, 1) := by decide +kernel
theorem eA_9 : decode mJ1_charAt.2.1 9 = .ok (.sipush 255, 3) := by decide +kernel
theorem eA_12 : decode mJ1_charAt.2.1 12 = .ok (.iand, 1) := by decide +kernel
theorem eA_13 : decode mJ1_charAt.2.1 13 = .ok (.i2c, 1) := by decide +kernel
theorem eA_14 : decode mJ1_charAt.2.1 14 = .ok (.ireturn, 1) := by decide +kernel
theorem eP_0 : decode mJ3_chk.2.1 0 = .ok (.iload_n 0, 1) := by decide +kernel
theorem eP_1 : decode mJ3_chk.2.1 1 = .ok (.ifCond .lt 8, 3) := by decide +kernel
theorem eP_4 : decode mJ3_chk.2.1 4 = .ok (.iload_n 0, 1) := by decide +kernel
theorem eP_5 : decode mJ3_chk.2.1 5 = .ok (.iload_n 1, 1) := by decide +kernel
theorem eP_6 : decode mJ3_chk.2.1 6 = .ok (.if_icmp .lt 10, 3) := by decide +kernel
theorem eP_16 : decode mJ3_chk.2.1 16 = .ok (.iload_n 0, 1) := by decide +kernel
theorem eP_17 : decode mJ3_chk.2.1 17 = .ok (.ireturn, 1) := by decide +kernel
theorem zLv_p {own : String} {idx n : Nat} {N : MM} (p1 p2 p3 p4 p5 : Nat) (h1 : lw_tbl[p1]? = some (Cond.methodLink own idx N.1)) (h2 : lw_tbl[p2]? = some (Cond.initialized N.1.cls)) (h3 : lw_tbl[p3]? = some (Cond.code N.1 N.2.1 N.2.2.1 N.2.2.2)) (h4 : lw_tbl[p4]? = some (Cond.instanceMethod N.1)) (h5 : lw_tbl[p5]? = some (Cond.selects N.1.cls N.1 N.1)) (h : (N.1.cls ≠ "java/lang/invoke/MethodHandle" ∧ N.1.cls ≠ "java/lang/invoke/VarHandle" ∧ (parseMethodDescriptor N.1.desc).map (fun d => d.parameters.length) = some n) ∧ N.2.2.1 ≤ 41) : zLv own idx n N := ⟨⟨⟨zin_gw h1 rfl, zin_gw h2 rfl, zin_gw h3 rfl⟩, h⟩, zin_gw h4 rfl, zin_gw h5 rfl⟩
theorem zLs_p {own : String} {idx n : Nat} {N : MM} (p1 p2 p3 p4 : Nat) (h1 : lw_tbl[p1]? = some (Cond.methodLink own idx N.1)) (h2 : lw_tbl[p2]? = some (Cond.initialized N.1.cls)) (h3 : lw_tbl[p3]? = some (Cond.code N.1 N.2.1 N.2.2.1 N.2.2.2)) (h4 : lw_tbl[p4]? = some (Cond.static N.1)) (h : (N.1.cls ≠ "java/lang/invoke/MethodHandle" ∧ N.1.cls ≠ "java/lang/invoke/VarHandle" ∧ (parseMethodDescriptor N.1.desc).map (fun d => d.parameters.length) = some n) ∧ N.2.2.1 ≤ 41) : zLs own idx n N := ⟨⟨⟨zin_gw h1 rfl, zin_gw h2 rfl, zin_gw h3 rfl⟩, h⟩, zin_gw h4 rfl⟩
theorem lS_335 : zLv (zcn 14) 335 0 mJ0_coder := zLv_p 585 123 588 586 587 (by decide +kernel) (by decide +kernel) (by decide +kernel) (by decide +kernel) (by decide +kernel) (by decide +kernel)
theorem lS_492 : zLv (zcn 14) 492 0 mJ0_isL1 := zLv_p 595 123 598 596 597 (by decide +kernel) (by decide +kernel) (by decide +kernel) (by decide +kernel) (by decide +kernel) (by decide +kernel)
theorem lS_495 : zLs (zcn 14) 495 2 mJ1_charAt := zLs_p 599 124 601 600 (by decide +kernel) (by decide +kernel) (by decide +kernel) (by decide +kernel) (by decide +kernel)
theorem lS_9 : zLs (zcn 15) 9 2 mJ0_chk := zLs_p 602 123 604 603 (by decide +kernel) (by decide +kernel) (by decide +kernel) (by decide +kernel) (by decide +kernel)
theorem lS_1059 : zLs (zcn 14) 1059 3 mJ3_chk := zLs_p 607 125 609 608 (by decide +kernel) (by decide +kernel) (by decide +kernel) (by decide +kernel) (by decide +kernel)
theorem wS_38 : Cond.fieldLink "java/lang/String" 38 "java/lang/String" "COMPACT_STRINGS" "Z" ∈ zgw := zin_gw (i := 589) (by decide +kernel) rfl
theorem wS_9 : Cond.fieldLink "java/lang/String" 9 "java/lang/String" "value" "[B" ∈ zgw := zin_gw (i := 1868) (by decide +kernel) rfl
theorem wS_15 : Cond.fieldLink "java/lang/String" 15 "java/lang/String" "coder" "B" ∈ zgw := zin_gw (i := 1869) (by decide +kernel) rfl
theorem wS_1053 : Cond.fieldLink "java/lang/String" 1053 "jdk/internal/util/Preconditions" "SIOOBE_FORMATTER" "Ljava/util/function/BiFunction;" ∈ zgw := zin_gw (i := 605) (by decide +kernel) rfl
/-- the world at a method's entry, whatever its arguments are -/
def zPa (D : va_G) (cA : Nat → ClassId) (ad adV : Nat → Nat) (h : MH) (sz : Nat) (U : State) : Prop := U.heap.size = sz ∧ va_P D vwCl (zws cA ad h) U.heap ∧ va_K D vwCl (ztys cA) U ∧ va_D (fun _ => True) (zws cA ad h) ∧ zEv ad adV (va_A (zws cA ad h) sz) U U.heap
section ST
variable {h : MH} {d : Nat} {Q : Option MV → MH → Prop}
theorem c_cod {j : Nat} (hj : j < 12) (kk : Q (some (.inl (nI 0))) h) : Con mJ0_coder d 0 0 [.inr (.inr (1000 + j))] h Q := by
  refine Con.intro (by decide) (Nat.le_of_ble_eq_true rfl) ?_
  intro p l e s m args below meth c D cA ad adV A H locs lsA ad0 h0 F X hl hE
  refine va_gets F.1 F.2.1 X.2.2.2.2.2.2.2.2.2.1 X.2.1 F.2.2.2.2.1 (F.w wS_38) (fun _ q => q) eD_0 ?_
  refine lv_if_eq F.1 F.2.1 eD_3 (tgt := 13) rfl (fun q => absurd q (by decide)) (fun _ => ?_)
  refine lv_aload_n F.1 F.2.1 eD_6 rfl (x := ad (1000 + j)) ?_ ?_
  · have := zlv_get hl (i := 0) (v := .inr (.inr (1000 + j))) rfl
    rw [zva_pos (by omega)] at this
    exact this
  refine vk_getf F.1 F.2.1 (X.2.2.2.2.2.2.2.2.1.1 j hj).2.1 X.2.1 F.2.2.2.2.1 (F.w wS_15) (fun _ q => q) eD_7 ?_
  refine lv_goto F.1 F.2.1 eD_10 (tgt := 14) rfl ?_
  exact J_iret (M := mJ0_coder) (x := nI 0) (ty := .byte) eD_14 rfl (by decide) (Nat.le_refl 0) (Nat.le_refl 0) kk p l e s m args below meth c D cA ad adV A H locs lsA ad0 h0 F X hl hE
theorem c_iL1 {j : Nat} (hj : j < 12) (kk : Q (some (.inl (nI 1))) h) : Con mJ0_isL1 d 0 0 [.inr (.inr (1000 + j))] h Q := by
  refine Con.intro (by decide) (Nat.le_of_ble_eq_true rfl) ?_
  intro p l e s m args below meth c D cA ad adV A H locs lsA ad0 h0 F X hl hE
  refine va_gets F.1 F.2.1 X.2.2.2.2.2.2.2.2.2.1 X.2.1 F.2.2.2.2.1 (F.w wS_38) (fun _ q => q) eI_0' ?_
  refine lv_if_eq F.1 F.2.1 eI_3' (tgt := 17) rfl (fun q => absurd q (by decide)) (fun _ => ?_)
  refine lv_aload_n F.1 F.2.1 eI_6' rfl (x := ad (1000 + j)) ?_ ?_
  · have := zlv_get hl (i := 0) (v := .inr (.inr (1000 + j))) rfl
    rw [zva_pos (by omega)] at this
    exact this
  refine vk_getf F.1 F.2.1 (X.2.2.2.2.2.2.2.2.1.1 j hj).2.1 X.2.1 F.2.2.2.2.1 (F.w wS_15) (fun _ q => q) eI_7' ?_
  refine (s_if_ne (M := mJ0_isL1) (x := nI 0) (st := []) eI_10' (by decide) (fun q => absurd rfl q) (fun _ => ?_)) p l e s m args below meth c D cA ad adV A H locs lsA ad0 h0 F X hl hE
  refine s_iconst eI_13' ?_
  refine s_goto eI_14' (by decide) ?_
  exact J_iret (M := mJ0_isL1) (x := nI 1) (ty := .boolean) eI_18' rfl (by decide) (Nat.le_refl 0) (Nat.le_refl 0) kk
theorem c_len {j : Nat} (hj : j < 12) (hd : 2 ≤ d) (kk : Q (some (.inl (nI (zlens.getD j 0)))) h) : Con mJ0_length_8abf5 d 0 0 [.inr (.inr (1000 + j))] h Q := by
  refine Con.intro (by decide) (Nat.le_of_ble_eq_true rfl) ?_
  intro p l e s m args below meth c D cA ad adV A H locs lsA ad0 h0 F X hl hE
  refine lv_aload_n F.1 F.2.1 eL_0 rfl (x := ad (1000 + j)) ?_ ?_
  · have := zlv_get hl (i := 0) (v := .inr (.inr (1000 + j))) rfl
    rw [zva_pos (by omega)] at this
    exact this
  have hs := X.2.2.2.2.2.2.2.2.1.1 j hj
  refine vk_getf F.1 F.2.1 hs.2.2.1 X.2.1 F.2.2.2.2.1 (F.w wS_9) (fun _ q => q) eL_1 ?_
  refine va_tlen F.1 F.2.1 hs.2.2.2 X.2.1 rfl eL_4 ?_
  have go : J mJ0_length_8abf5 d 0 0 Q 0 0 5 [some (.inr (.inr (1000 + j)))] [.inl (nI (zlens.getD j 0))] h := by
    refine s_aload_n eL_5 rfl ?_
    refine zcTi (o := 14) (d' := d - 1) (as := []) eL_6 lS_335 rfl (by omega) rfl (Nat.le_of_ble_eq_true rfl) zle0 rfl ⟨j, rfl, hj⟩ ?_
    refine c_cod hj ?_
    refine s_ishr eL_9 ?_
    have e0 : nI (zlens.getD j 0) >>> (nI 0 &&& 31) = nI (zlens.getD j 0) := by
      have : ∀ j, j < 12 → nI (zlens.getD j 0) >>> (nI 0 &&& 31) = nI (zlens.getD j 0) := by decide +kernel
      exact this j hj
    rw [e0]
    exact J_iret (ty := .int) eL_10 rfl rfl (Nat.le_refl 0) (Nat.le_refl 0) kk
  exact go p l e s m args below meth c D cA ad adV A H locs lsA ad0 h0 F X hl hE
/-- Preconditions.checkIndex, whatever is handed in third -/
theorem m_pck {i n : Nat} {x : Value} (hx : x = .null ∨ ∃ a, x = .ref a) (hin : i < n) (hn : n < 2 ^ 31) (l : Launch) (D : va_G) (cA : Nat → ClassId) (ad adV : Nat → Nat) (sz : Nat) (kk : Q (some (.inl (nI i))) h) :
    Met l mJ3_chk.1 (zwd mJ3_chk) (zrm d 0 0) (va_Pc [.int (nI i), .int (nI n), x] (zPa D cA ad adV h sz)) (fun _ => zEnd 0 D cA ad h (va_A (zws cA ad h) sz) Q) 0 0 (va_A (zws cA ad h) sz) := by
  refine Met.ofW (cc := mJ3_chk.2.1) (maxL := 3) (ret := some .int) (ws' := zgw) (by decide) rfl ?_
  intro p e s m args below meth c s₁ B hml hv
  obtain ⟨rfl, hsz, hP, hK, hD0, hE⟩ := hv
  subst hsz
  have hD := hD0.self (sz := s.heap.size)
  rw [lg_entry_eq]
  have go : J mJ3_chk d 0 0 Q 0 0 0 [some (.inl (nI i)), some (.inl (nI n)), none] [] h := by
    refine s_iload_n eP_0 rfl ?_
    refine s_if_lt eP_1 (by decide) (fun q => absurd q (nI_pos (by omega))) (fun _ => ?_)
    refine s_iload_n eP_4 rfl ?_
    refine s_iload_n eP_5 rfl ?_
    refine s_icmp_lt eP_6 (by decide) (fun _ => ?_) (fun q => absurd (nI_lt hin hn) q)
    refine s_iload_n eP_16 rfl ?_
    exact J_iret (ty := .int) eP_17 rfl rfl (Nat.le_refl 0) (Nat.le_refl 0) kk
  refine go p l e s m _ below meth c D cA ad adV _ s.heap [] _ ad h ⟨B.exec, B.bytes, hml, B.returns, findClass_of_methodNamed B.named, atoms_spec (ws := zwd mJ3_chk) B.pre, B.notSynchronized, (name_of_methodNamed B.named B.method).1⟩ ⟨fun q hq => Or.inr hq, va_S.rf, hP, hD, hK, hE⟩ ?_ ⟨fun _ _ => rfl, fun _ => ⟨rfl, rfl⟩, Nat.le_refl _⟩
  have hl : lv_has _ 3 _ := lv_entry [.int (nI i), .int (nI n), x] (n := 3) (by rcases hx with rfl | ⟨a, rfl⟩ <;> exact Nat.le_of_ble_eq_true rfl)
  refine ⟨hl.1, hl.2.1, fun q hq => ?_⟩
  obtain ⟨v, g1, g2⟩ := zlv_mem.mp hq
  have c : q.1 = 0 ∧ v = .inl (nI i) ∨ q.1 = 1 ∧ v = .inl (nI n) := by
    rcases q with ⟨q1, q2⟩
    match q1, g1 with
    | 0, g1 => exact Or.inl ⟨rfl, (Option.some.inj (Option.some.inj g1)).symm⟩
    | 1, g1 => exact Or.inr ⟨rfl, (Option.some.inj (Option.some.inj g1)).symm⟩
    | 2, g1 => cases g1
    | k + 3, g1 => cases g1
  rcases c with ⟨c1, c2⟩ | ⟨c1, c2⟩
  · rw [g2, c1, c2]
    rcases hx with rfl | ⟨a, rfl⟩ <;> rfl
  · rw [g2, c1, c2]
    rcases hx with rfl | ⟨a, rfl⟩ <;> rfl
end ST
