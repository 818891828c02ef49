/-! ===== the judgement of the law itself, and its rules ===== -/
abbrev LE : Type := Program × Launch × Env × State × MethodId × List Frame × Method × Code × va_G × (Nat → ClassId) × (Nat → Nat) × Nat × Nat × (Nat → Int32)
/-- what the law's frame knows all along -/
def LF : LE → Prop
  | (p, _, _, s, m, _, meth, c, _, _, _, b, L, xs) => p.tables.exec = Jvm.exec ∧ c.code = code ∧ c.maxLocals = 4 ∧ meth.sig.returnType = ret ∧ s.vm.findClass "UnevenWaxLaw" = some m.cls ∧ (∀ w ∈ zgw, w.before #[Value.ref b] s = true) ∧ va_X b L xs s s.heap ∧ b < s.heap.size ∧ meth.locks = false
def lL : LE → Nat
  | (_, _, _, _, _, _, _, _, _, _, _, _, L, _) => L
def lX : LE → Nat → Int32
  | (_, _, _, _, _, _, _, _, _, _, _, _, _, xs) => xs
def JL : LE → Nat → Nat → Nat → List (Option MV) → List MV → MH → Prop
  | (p, l, e, s, m, below, meth, c, D, cA, adV, b, _, _), cells, slots, pc, ls, st, h => ∀ (ad : Nat → Nat) (H : Heap) (locs : List Loc) (lsA : Array Slot), zWd D cA ad adV (fun q => s.heap.size ≤ q) s H locs h → lv_has lsA 4 (zlv ad ls) → ad 1012 = b → W p l e room_1 s m #[Value.ref b] below meth c H locs cells slots (lw_Z below #[Value.ref b] s) (F0 m pc lsA (st.map (zva ad)))
section JLs
variable {E : LE} {cells slots pc : Nat} {ls : List (Option MV)} {st : List MV} {h : MH}
theorem L_iconst {n : Int} (F : LF E) (hdg : decode code pc = .ok (.iconst n, 1)) (k : JL E cells slots (pc + 1) ls (.inl (Int32.ofInt n) :: st) h) : JL E cells slots pc ls st h := by
  obtain ⟨p, l, e, s, m, below, meth, c, D, cA, adV, b, L, xs⟩ := E
  intro ad H locs lsA X hl hb
  exact lv_iconst F.1 F.2.1 hdg rfl (k ad H locs lsA X hl hb)
theorem L_bipush {n : Int} (F : LF E) (hdg : decode code pc = .ok (.bipush n, 2)) (k : JL E cells slots (pc + 2) ls (.inl (Int8.ofInt n).toInt32 :: st) h) : JL E cells slots pc ls st h := by
  obtain ⟨p, l, e, s, m, below, meth, c, D, cA, adV, b, L, xs⟩ := E
  intro ad H locs lsA X hl hb
  exact lv_bipush F.1 F.2.1 hdg rfl (k ad H locs lsA X hl hb)
theorem L_iadd {x y : Int32} (F : LF E) (hdg : decode code pc = .ok (.iadd, 1)) (k : JL E cells slots (pc + 1) ls (.inl (x + y) :: st) h) : JL E cells slots pc ls (.inl y :: .inl x :: st) h := by
  obtain ⟨p, l, e, s, m, below, meth, c, D, cA, adV, b, L, xs⟩ := E
  intro ad H locs lsA X hl hb
  exact lv_iadd F.1 F.2.1 hdg (k ad H locs lsA X hl hb)
theorem L_isub {x y : Int32} (F : LF E) (hdg : decode code pc = .ok (.isub, 1)) (k : JL E cells slots (pc + 1) ls (.inl (x - y) :: st) h) : JL E cells slots pc ls (.inl y :: .inl x :: st) h := by
  obtain ⟨p, l, e, s, m, below, meth, c, D, cA, adV, b, L, xs⟩ := E
  intro ad H locs lsA X hl hb
  exact lv_isub F.1 F.2.1 hdg (k ad H locs lsA X hl hb)
theorem L_iand {x y : Int32} (F : LF E) (hdg : decode code pc = .ok (.iand, 1)) (k : JL E cells slots (pc + 1) ls (.inl (x &&& y) :: st) h) : JL E cells slots pc ls (.inl y :: .inl x :: st) h := by
  obtain ⟨p, l, e, s, m, below, meth, c, D, cA, adV, b, L, xs⟩ := E
  intro ad H locs lsA X hl hb
  exact lv_iand F.1 F.2.1 hdg (k ad H locs lsA X hl hb)
theorem L_lshl {x : Int64} {y : Int32} (F : LF E) (hdg : decode code pc = .ok (.lshl, 1)) (k : JL E cells slots (pc + 1) ls (.inr (.inl (x <<< (y.toInt64 &&& 63))) :: st) h) : JL E cells slots pc ls (.inl y :: .inr (.inl x) :: st) h := by
  obtain ⟨p, l, e, s, m, below, meth, c, D, cA, adV, b, L, xs⟩ := E
  intro ad H locs lsA X hl hb
  exact lv_lshl F.1 F.2.1 hdg rfl (k ad H locs lsA X hl hb)
theorem L_land {x y : Int64} (F : LF E) (hdg : decode code pc = .ok (.land, 1)) (k : JL E cells slots (pc + 1) ls (.inr (.inl (x &&& y)) :: st) h) : JL E cells slots pc ls (.inr (.inl y) :: .inr (.inl x) :: st) h := by
  obtain ⟨p, l, e, s, m, below, meth, c, D, cA, adV, b, L, xs⟩ := E
  intro ad H locs lsA X hl hb
  exact lv_land F.1 F.2.1 hdg (k ad H locs lsA X hl hb)
theorem L_lor {x y : Int64} (F : LF E) (hdg : decode code pc = .ok (.lor, 1)) (k : JL E cells slots (pc + 1) ls (.inr (.inl (x ||| y)) :: st) h) : JL E cells slots pc ls (.inr (.inl y) :: .inr (.inl x) :: st) h := by
  obtain ⟨p, l, e, s, m, below, meth, c, D, cA, adV, b, L, xs⟩ := E
  intro ad H locs lsA X hl hb
  exact lv_lor F.1 F.2.1 hdg (k ad H locs lsA X hl hb)
theorem L_lcmp {x y : Int64} (F : LF E) (hdg : decode code pc = .ok (.lcmp, 1)) (k : JL E cells slots (pc + 1) ls (.inl (lg_cmp x y) :: st) h) : JL E cells slots pc ls (.inr (.inl y) :: .inr (.inl x) :: st) h := by
  obtain ⟨p, l, e, s, m, below, meth, c, D, cA, adV, b, L, xs⟩ := E
  intro ad H locs lsA X hl hb
  exact W.lcmp F.1 F.2.1 hdg (k ad H locs lsA X hl hb)
theorem L_i2l {x : Int32} (F : LF E) (hdg : decode code pc = .ok (.i2l, 1)) (k : JL E cells slots (pc + 1) ls (.inr (.inl x.toInt64) :: st) h) : JL E cells slots pc ls (.inl x :: st) h := by
  obtain ⟨p, l, e, s, m, below, meth, c, D, cA, adV, b, L, xs⟩ := E
  intro ad H locs lsA X hl hb
  exact lv_i2l F.1 F.2.1 hdg rfl (k ad H locs lsA X hl hb)
theorem L_dup {v : MV} (F : LF E) (hdg : decode code pc = .ok (.dup, 1)) (hv : zc1 v = true) (k : JL E cells slots (pc + 1) ls (v :: v :: st) h) : JL E cells slots pc ls (v :: st) h := by
  obtain ⟨p, l, e, s, m, below, meth, c, D, cA, adV, b, L, xs⟩ := E
  intro ad H locs lsA X hl hb
  exact lv_dup F.1 F.2.1 hdg (zc1_cat hv) (k ad H locs lsA X hl hb)
theorem L_iload_n {n : Fin 4} {x : Int32} (F : LF E) (hdg : decode code pc = .ok (.iload_n n, 1)) (hi : ls[(n : Nat)]? = some (some (.inl x))) (k : JL E cells slots (pc + 1) ls (.inl x :: st) h) : JL E cells slots pc ls st h := by
  obtain ⟨p, l, e, s, m, below, meth, c, D, cA, adV, b, L, xs⟩ := E
  intro ad H locs lsA X hl hb
  exact lv_iload_n F.1 F.2.1 hdg rfl (zlv_get hl hi) (k ad H locs lsA X hl hb)
theorem L_aload_n {n : Fin 4} {x : Nat} (F : LF E) (hdg : decode code pc = .ok (.aload_n n, 1)) (hi : ls[(n : Nat)]? = some (some (.inr (.inr x)))) (k : JL E cells slots (pc + 1) ls (.inr (.inr x) :: st) h) : JL E cells slots pc ls st h := by
  obtain ⟨p, l, e, s, m, below, meth, c, D, cA, adV, b, L, xs⟩ := E
  intro ad H locs lsA X hl hb
  have k2 := k ad H locs lsA X hl hb
  have hg := zlv_get hl hi
  have e1 : zva ad (.inr (.inr x)) = va_rf (zrf ad x) := rfl
  rw [e1] at hg
  rw [List.map_cons, e1] at k2
  cases hz : zrf ad x with
  | none =>
    rw [hz] at hg k2
    exact lv_aload_nN F.1 F.2.1 hdg rfl hg k2
  | some a =>
    rw [hz] at hg k2
    exact lv_aload_n F.1 F.2.1 hdg rfl hg k2
theorem L_istore_n {n : Fin 4} {x : Int32} (F : LF E) (hdg : decode code pc = .ok (.istore_n n, 1)) (hn : (n : Nat) < 4) (k : JL E cells slots (pc + 1) (zs1 ls (n : Nat) (.inl x)) st h) : JL E cells slots pc ls (.inl x :: st) h := by
  obtain ⟨p, l, e, s, m, below, meth, c, D, cA, adV, b, L, xs⟩ := E
  intro ad H locs lsA X hl hb
  exact lv_istore_n F.1 F.2.1 hdg rfl hl hn rfl (fun ls' h' => k ad H locs ls' X (zlv_1 h') hb)
theorem L_astore_n {n : Fin 4} {x : Nat} (F : LF E) (hdg : decode code pc = .ok (.astore_n n, 1)) (hn : (n : Nat) < 4) (k : JL E cells slots (pc + 1) (zs1 ls (n : Nat) (.inr (.inr x))) st h) : JL E cells slots pc ls (.inr (.inr x) :: st) h := by
  obtain ⟨p, l, e, s, m, below, meth, c, D, cA, adV, b, L, xs⟩ := E
  intro ad H locs lsA X hl hb
  have e1 : zva ad (.inr (.inr x)) = va_rf (zrf ad x) := rfl
  have k2 := fun ls' (h' : lv_has ls' 4 (((n : Nat), zva ad (.inr (.inr x))) :: (zlv ad ls).filter (fun q => !(q.1 == (n : Nat)) && !(q.1 + 1 == (n : Nat) && q.2.category == 2)))) => k ad H locs ls' X (zlv_1 h') hb
  rw [List.map_cons, e1]
  rw [e1] at k2
  cases hz : zrf ad x with
  | none =>
    rw [hz] at k2
    exact lv_astore_nN F.1 F.2.1 hdg rfl hl hn rfl k2
  | some a =>
    rw [hz] at k2
    exact lv_astore_n F.1 F.2.1 hdg rfl hl hn rfl k2
theorem L_iinc {i : Nat} {n : Int} {x : Int32} (F : LF E) (hdg : decode code pc = .ok (.iinc i n, 3)) (hi : ls[i]? = some (some (.inl x))) (hn : i < 4) (k : JL E cells slots (pc + 3) (zs1 ls i (.inl (x + Int32.ofInt n))) st h) : JL E cells slots pc ls st h := by
  obtain ⟨p, l, e, s, m, below, meth, c, D, cA, adV, b, L, xs⟩ := E
  intro ad H locs lsA X hl hb
  obtain ⟨q, hq⟩ := zmem_at (zlv_mem.mpr ⟨.inl x, hi, rfl⟩ : (i, zva ad (.inl x)) ∈ zlv ad ls)
  exact lv_iinc F.1 F.2.1 hdg hl hq rfl hn rfl (fun ls' h' => k ad H locs ls' X (zlv_1 h') hb)
theorem L_if_eq {x : Int32} {off : Int} (F : LF E) (hdg : decode code pc = .ok (.ifCond .eq off, 3)) (hp : 0 ≤ (pc : Int) + off) (k1 : x = 0 → JL E cells slots ((pc : Int) + off).toNat ls st h) (k2 : ¬ x = 0 → JL E cells slots (pc + 3) ls st h) : JL E cells slots pc ls (.inl x :: st) h := by
  obtain ⟨p, l, e, s, m, below, meth, c, D, cA, adV, b, L, xs⟩ := E
  intro ad H locs lsA X hl hb
  exact lv_if_eq F.1 F.2.1 hdg (Int.toNat_of_nonneg hp).symm (fun q => k1 q ad H locs lsA X hl hb) (fun q => k2 q ad H locs lsA X hl hb)
theorem L_icmp_eq {x y : Int32} {off : Int} (F : LF E) (hdg : decode code pc = .ok (.if_icmp .eq off, 3)) (hp : 0 ≤ (pc : Int) + off) (k1 : x = y → JL E cells slots ((pc : Int) + off).toNat ls st h) (k2 : ¬ x = y → JL E cells slots (pc + 3) ls st h) : JL E cells slots pc ls (.inl y :: .inl x :: st) h := by
  obtain ⟨p, l, e, s, m, below, meth, c, D, cA, adV, b, L, xs⟩ := E
  intro ad H locs lsA X hl hb
  exact lv_icmp_eq F.1 F.2.1 hdg (Int.toNat_of_nonneg hp).symm (fun q => k1 q ad H locs lsA X hl hb) (fun q => k2 q ad H locs lsA X hl hb)
theorem L_icmp_gt {x y : Int32} {off : Int} (F : LF E) (hdg : decode code pc = .ok (.if_icmp .gt off, 3)) (hp : 0 ≤ (pc : Int) + off) (k1 : y < x → JL E cells slots ((pc : Int) + off).toNat ls st h) (k2 : ¬ y < x → JL E cells slots (pc + 3) ls st h) : JL E cells slots pc ls (.inl y :: .inl x :: st) h := by
  obtain ⟨p, l, e, s, m, below, meth, c, D, cA, adV, b, L, xs⟩ := E
  intro ad H locs lsA X hl hb
  exact lv_icmp_gt F.1 F.2.1 hdg (Int.toNat_of_nonneg hp).symm (fun q => k1 q ad H locs lsA X hl hb) (fun q => k2 q ad H locs lsA X hl hb)
theorem L_goto {off : Int} (F : LF E) (hdg : decode code pc = .ok (.goto off, 3)) (hp : 0 ≤ (pc : Int) + off) (k : JL E cells slots ((pc : Int) + off).toNat ls st h) : JL E cells slots pc ls st h := by
  obtain ⟨p, l, e, s, m, below, meth, c, D, cA, adV, b, L, xs⟩ := E
  intro ad H locs lsA X hl hb
  exact lv_goto F.1 F.2.1 hdg (Int.toNat_of_nonneg hp).symm (k ad H locs lsA X hl hb)
theorem L_tableOut {x : Int32} {dflt lo hi : Int} {offs : Array Int} {len tgt : Nat} (F : LF E) (hdg : decode code pc = .ok (.tableswitch dflt lo hi offs, len)) (hx : x.toInt < lo ∨ hi < x.toInt) (ht : (pc : Int) + dflt = (tgt : Int)) (k : JL E cells slots tgt ls st h) : JL E cells slots pc ls (.inl x :: st) h := by
  obtain ⟨p, l, e, s, m, below, meth, c, D, cA, adV, b, L, xs⟩ := E
  intro ad H locs lsA X hl hb
  exact lv_tableOut F.1 F.2.1 hdg hx ht (k ad H locs lsA X hl hb)
theorem L_tableIn {x : Int32} {dflt lo hi off : Int} {offs : Array Int} {len tgt : Nat} (F : LF E) (hdg : decode code pc = .ok (.tableswitch dflt lo hi offs, len)) (h1 : ¬ x.toInt < lo) (h2 : ¬ hi < x.toInt) (ho : offs[(x.toInt - lo).toNat]? = some off) (ht : (pc : Int) + off = (tgt : Int)) (k : JL E cells slots tgt ls st h) : JL E cells slots pc ls (.inl x :: st) h := by
  obtain ⟨p, l, e, s, m, below, meth, c, D, cA, adV, b, L, xs⟩ := E
  intro ad H locs lsA X hl hb
  exact lv_tableIn F.1 F.2.1 hdg h1 h2 ho ht (k ad H locs lsA X hl hb)
theorem L_ldc2 {i j : Nat} {v : Int64} (F : LF E) (hdg : decode code pc = .ok (.ldc2_w i, 3)) (hw : lw_tbl[j]? = some (Cond.constantLong "UnevenWaxLaw" i v)) (k : JL E cells slots (pc + 3) ls (.inr (.inl v) :: st) h) : JL E cells slots pc ls st h := by
  obtain ⟨p, l, e, s, m, below, meth, c, D, cA, adV, b, L, xs⟩ := E
  intro ad H locs lsA X hl hb
  exact lv_ldc2 F.1 F.2.1 F.2.2.2.2.1 (F.2.2.2.2.2.1 _ (zin_gw hw rfl)) hdg (k ad H locs lsA X hl hb)
theorem L_len (F : LF E) (hdg : decode code pc = .ok (.arraylength, 1)) (k : JL E cells slots (pc + 1) ls (.inl (Int32.ofNat (lL E)) :: st) h) : JL E cells slots pc ls (.inr (.inr 1012) :: st) h := by
  obtain ⟨p, l, e, s, m, below, meth, c, D, cA, adV, b, L, xs⟩ := E
  intro ad H locs lsA X hl hb
  have k2 := k ad H locs lsA X hl hb
  rw [List.map_cons, zva_pos (by omega), hb]
  exact va_slen F.1 F.2.1 F.2.2.2.2.2.2.1 F.2.2.2.2.2.2.2.1 (by have := F.2.2.2.2.2.2.2.1; omega) X.2.1 hdg k2
theorem L_iald {i : Int32} (F : LF E) (hdg : decode code pc = .ok (.iaload, 1)) (hi : vp_in i (lL E)) (k : JL E cells slots (pc + 1) ls (.inl (lX E i.toNatClampNeg) :: st) h) : JL E cells slots pc ls (.inl i :: .inr (.inr 1012) :: st) h := by
  obtain ⟨p, l, e, s, m, below, meth, c, D, cA, adV, b, L, xs⟩ := E
  intro ad H locs lsA X hl hb
  have k2 := k ad H locs lsA X hl hb
  rw [List.map_cons, List.map_cons, zva_pos (by omega), hb]
  exact va_sld F.1 F.2.1 F.2.2.2.2.2.2.1 F.2.2.2.2.2.2.2.1 (by have := F.2.2.2.2.2.2.2.1; omega) X.2.1 hi hdg k2
theorem L_ret (F : LF E) (hdg : decode code pc = .ok (.ireturn, 1)) (hc : cells ≤ 600000 ∧ slots ≤ 7302250) : JL E cells slots pc ls [.inl (nI 1)] h := by
  obtain ⟨p, l, e, s, m, below, meth, c, D, cA, adV, b, L, xs⟩ := E
  intro ad H locs lsA X hl hb
  refine W.widen hc.1 hc.2 (va_forget X.2.1.2.2 ?_)
  exact lw_ret F.1 F.2.1 F.2.2.2.1 F.2.2.2.2.2.2.2.2 hdg
theorem L_wid {c' s' : Nat} (h1 : cells ≤ c') (h2 : slots ≤ s') (k : JL E c' s' pc ls st h) : JL E cells slots pc ls st h := by
  obtain ⟨p, l, e, s, m, below, meth, c, D, cA, adV, b, L, xs⟩ := E
  intro ad H locs lsA X hl hb
  exact W.widen h1 h2 (k ad H locs lsA X hl hb)
theorem zcallL {p : Program} {l : Launch} {e : Env} {s : State} {m : MethodId} {below : List Frame} {meth : Method} {c : Code} {D : va_G} {cA : Nat → ClassId} {ad adV : Nat → Nat} {b L : Nat} {xs : Nat → Int32} {H : Heap} {locs : List Loc} {lsA : Array Slot} {mc' ms' : Nat} {Q' : Option MV → MH → Prop} {st0 : List Value}
    (X : zWd D cA ad adV (fun q => s.heap.size ≤ q) s H locs h) (hl : lv_has lsA 4 (zlv ad ls)) (hb : ad 1012 = b) (hv : mc' ≠ 0 → zvs h ls st)
    (hr : va_Run p l e room_1 s m #[Value.ref b] below meth c H locs cells slots mc' ms' (F0 m pc lsA st0) (st.map (zva ad)) (zEnd mc' D cA ad h (va_A (zws cA ad h) H.size) Q') (va_A (zws cA ad h) H.size))
    (kk : ∀ r h', Q' r h' → JL (p, l, e, s, m, below, meth, c, D, cA, adV, b, L, xs) (cells + mc') (slots + ms') (pc + 3) ls (r.toList ++ st) h') :
    W p l e room_1 s m #[Value.ref b] below meth c H locs cells slots (lw_Z below #[Value.ref b] s) (F0 m pc lsA st0) := by
  intro T hT Z
  obtain ⟨v, st₀, t, T', L', q0, Z', hL, e1, e2, ⟨⟨r, ad', h', hv1, hq, ⟨x1, x2, x3⟩, hP, hK, hD⟩, hz, hk⟩, go⟩ := hr T hT Z
  cases hv1
  rw [q0] at hz hk
  have hF := zFr X
  have hS : va_S (fun q => s.heap.size ≤ q) s.heap T'.heap (locs ++ L') := ⟨Nat.le_trans X.2.1.1 (by rw [e1]; exact hz), fun q h1 h2 => by rw [e1, hk q (Nat.lt_of_lt_of_le h1 X.2.1.1) (fun z => h2 (hF q z))]; exact X.2.1.2.1 q h1 h2, fun q hq => by
      rcases List.mem_append.mp hq with h | h
      · exact X.2.1.2.2 q h
      · exact hF _ (hL q h)⟩
  have X' : zWd D cA ad' adV (fun q => s.heap.size ≤ q) s T'.heap (locs ++ L') h' := ⟨X.1, hS, by rw [e1]; exact hP, hD.weaken (fun k q _ h => hF q.1 h), X.2.2.2.2.1, X.2.2.2.2.2.ext (fun i hi => x1 i (Or.inr hi))⟩
  have hl' : lv_has lsA 4 (zlv ad' ls) := by
    by_cases q : mc' = 0
    · rw [(x2 q).1]; exact hl
    · exact zlv_ext x1 (hv q).2 hl
  have hst : st.map (zva ad') = st.map (zva ad) := by
    by_cases q : mc' = 0
    · rw [(x2 q).1]
    · exact zmap_ext x1 (hv q).1
  obtain ⟨t2, a1, b1⟩ := kk r h' hq ad' T'.heap (locs ++ L') lsA X' hl' ((x1 1012 (Or.inr (by omega))).trans hb) T' rfl Z'
  refine ⟨t2, go t2 ?_, b1⟩
  have es : (r.toList ++ st).map (zva ad') = (r.map (zva ad')).toList ++ st.map (zva ad) := by
    rw [List.map_append, hst]
    cases r <;> rfl
  rw [es] at a1
  exact a1
theorem zgoodL {N : MM} (h : Cond.code N.1 N.2.1 N.2.2.1 N.2.2.2 ∈ zgw) : GoodIn zgw (zwd N) := by
  intro w hw
  have hg : w ∈ zgw := by
    rcases List.mem_cons.mp hw with q | q
    · rw [q]; exact h
    · exact q
  exact ⟨hg, good_of_word (List.mem_filter.mp hg).2⟩
theorem zCBL {N : MM} {idx n : Nat} {mc' ms' d' : Nat} {s : State} {b : Nat} (F : ∀ w ∈ zgw, w.before #[Value.ref b] s = true) (hk : zLk "UnevenWaxLaw" idx n N) (hd : d' ≤ 1000) : CallB room_1 s #[Value.ref b] "UnevenWaxLaw" idx N.1 N.2.1 N.2.2.1 N.2.2.2 (zwd N) (zrm d' mc' ms') mc' ms' n :=
  callB_of (Ts := zgw) n F (zgoodL hk.1.2.2) rfl rfl rfl (F _ hk.1.2.1) (F _ hk.1.1) hk.2.1 ⟨by show d' + 1 ≤ 2048; omega, by show 8 + (N.2.2.1 + 11) + 60 * d' ≤ 84000; have := hk.2.2; omega⟩
theorem L_callV {N : MM} {idx n d' mc' ms' a : Nat} {as : List MV} {Q' : Option MV → MH → Prop} (F : LF E) (hdg : decode code pc = .ok (.invokevirtual idx, 3)) (hk : zLv "UnevenWaxLaw" idx n N) (hd : d' ≤ 1000) (hn : as.length = n) (hs : st.length ≤ 4) (hm : cells + mc' ≤ 600000 ∧ slots + ms' ≤ 7302250) (hv : mc' ≠ 0 → zvs h ls st) {ci : Nat} (hci : ci < 12) (hcn : zcn ci = N.1.cls) (ha : zokO h a ci)
    (hC : Con N d' mc' ms' (.inr (.inr a) :: as) h Q') (kk : ∀ r h', Q' r h' → JL E (cells + mc') (slots + ms') (pc + 3) ls (r.toList ++ st) h') : JL E cells slots pc ls (as.reverse ++ .inr (.inr a) :: st) h := by
  obtain ⟨p, l, e, s, m, below, meth, c, D, cA, adV, b, L, xs⟩ := E
  intro ad H locs lsA X hl hb
  refine zcallL X hl hb hv ?_ kk
  have hp := zPre (av := .inr (.inr a) :: as) X
  have e0 : (Sum.inr (Sum.inr a) :: as : List MV).map (zva ad) = Value.ref (ad a) :: as.map (zva ad) := by rw [List.map_cons, zva_pos ha.1]
  have he := zws_at (cA := cA) (ad := ad) ha.1 ha.2.1
  rw [zcell_obj ha.2.2 hci] at he
  have hrecv := va_recv X.2.2.2.2.1 X.2.2.1 (zcl_at ci hci) he
  rw [show ((zcn ci, zT ci, zN ci) : vw_C).1 = zcn ci from rfl, hcn] at hrecv
  have cw : CallW (room_1) s #[Value.ref b] "UnevenWaxLaw" N.1.cls idx N.1 N.2.1 N.2.2.1 N.2.2.2 (zwd N) (zrm d' mc' ms') mc' ms' n := ⟨zCBL F.2.2.2.2.2.1 hk.1 hd, F.2.2.2.2.2.1 _ hk.2.1, F.2.2.2.2.2.1 _ hk.2.2⟩
  have hM := hC l D cA ad adV H.size
  rw [e0] at hp hM
  exact va_runV (Ts := zgw) (own := "UnevenWaxLaw") (C := N.1.cls) (b := ad a) (As := as.map (zva ad)) (rest := st.map (zva ad)) ⟨F.1, F.2.1, F.2.2.1, F.2.2.2.2.1, F.2.2.2.2.2.1⟩ hM cw ⟨hp.1, hrecv, hp.2⟩ rfl (by rw [List.length_map]; exact hn) hl.1 (by rw [List.map_append, List.map_reverse, List.map_cons, zva_pos ha.1]) (lv_room (by have := zcats ad st; omega)) hdg hm
theorem L_callI {N : MM} {idx n d' mc' ms' a : Nat} {as : List MV} {Q' : Option MV → MH → Prop} (F : LF E) (hdg : decode code pc = .ok (.invokespecial idx, 3)) (hk : zLk "UnevenWaxLaw" idx n N) (hin : Cond.instanceMethod N.1 ∈ zgw) (hy : N.1.name = "<init>") (hr : N.2.2.2 = none) (hd : d' ≤ 1000) (hn : as.length = n) (hs : st.length ≤ 4) (hm : cells + mc' ≤ 600000 ∧ slots + ms' ≤ 7302250) (hv : mc' ≠ 0 → zvs h ls st) (ha : 0 < a)
    (hC : Con N d' mc' ms' (.inr (.inr a) :: as) h Q') (kk : ∀ r h', Q' r h' → JL E (cells + mc') (slots + ms') (pc + 3) ls (r.toList ++ st) h') : JL E cells slots pc ls (as.reverse ++ .inr (.inr a) :: st) h := by
  obtain ⟨p, l, e, s, m, below, meth, c, D, cA, adV, b, L, xs⟩ := E
  intro ad H locs lsA X hl hb
  refine zcallL X hl hb hv ?_ kk
  have hp := zPre (av := .inr (.inr a) :: as) X
  have e0 : (Sum.inr (Sum.inr a) :: as : List MV).map (zva ad) = Value.ref (ad a) :: as.map (zva ad) := by rw [List.map_cons, zva_pos ha]
  have hM := hC l D cA ad adV H.size
  rw [e0] at hp hM
  have hB := zCBL (mc' := mc') (ms' := ms') F.2.2.2.2.2.1 hk hd
  rw [hr] at hB
  exact va_runI (Ts := zgw) (own := "UnevenWaxLaw") (b := ad a) (As := as.map (zva ad)) (rest := st.map (zva ad)) ⟨F.1, F.2.1, F.2.2.1, F.2.2.2.2.1, F.2.2.2.2.2.1⟩ hM ⟨hB, hy, F.2.2.2.2.2.1 _ hin⟩ hp rfl (by rw [List.length_map]; exact hn) hl.1 (by rw [List.map_append, List.map_reverse, List.map_cons, zva_pos ha]) (lv_room (by have := zcats ad st; omega)) hdg hm
theorem zgrow1L {p : Program} {l : Launch} {e : Env} {s : State} {m : MethodId} {below : List Frame} {meth : Method} {c : Code} {D : va_G} {cA : Nat → ClassId} {ad adV : Nat → Nat} {b L : Nat} {xs : Nat → Int32} {H H1 : Heap} {locs : List Loc} {lsA : Array Slot} {E : va_E} {q cells' slots' pc' : Nat}
    (X : zWd D cA ad adV (fun q => s.heap.size ≤ q) s H locs h) (hl : lv_has lsA 4 (zlv ad ls)) (hb : ad 1012 = b) (hv : zvh h) (hs : zvs h ls st) (hk : (zk (h.2.2.2 + 1)).1 ≠ 99)
    (hP : va_P D vwCl (zws cA ad h ++ [(q, E)]) H1) (hD : va_D (fun q => s.heap.size ≤ q) (zws cA ad h ++ [(q, E)])) (hS : va_S (fun q => s.heap.size ≤ q) s.heap H1 locs) (hEE : zcell cA (zna ad (h.2.2.2 + 1) q) (zNw h) (h.2.2.2 + 1) = E)
    (kk : JL (p, l, e, s, m, below, meth, c, D, cA, adV, b, L, xs) cells' slots' pc' ls (.inr (.inr (h.2.2.2 + 1)) :: st) (zNw h)) :
    W p l e room_1 s m #[Value.ref b] below meth c H1 locs cells' slots' (lw_Z below #[Value.ref b] s) (F0 m pc' lsA (.ref q :: st.map (zva ad))) := by
  have hlt : h.2.2.2 + 1 < 205 := zk_lt hk
  have had : ∀ i, i ≤ h.2.2.2 ∨ 1000 ≤ i → zna ad (h.2.2.2 + 1) q i = ad i := fun i hi => if_neg (by omega)
  have hq : zna ad (h.2.2.2 + 1) q (h.2.2.2 + 1) = q := if_pos rfl
  have len : (zws cA ad h).length = h.2.2.2 := zws_len
  have lst : (zws cA ad h ++ [(q, E)])[h.2.2.2]? = some (q, E) := by
    rw [List.getElem?_append_right (by omega), len, Nat.sub_self]
    rfl
  have X' : zWd D cA (zna ad (h.2.2.2 + 1) q) adV (fun q => s.heap.size ≤ q) s H1 locs (zNw h) := by
    refine X.grow (m := 1) hv rfl (fun b b1 b2 => ⟨zNi (by omega), zNl (by omega), zNr (by omega)⟩) had ?_ hS ?_ ?_ ?_
    · intro k x hx
      exact hP k x (by rw [List.getElem?_append_left (List.getElem?_eq_some_iff.mp hx).1]; exact hx)
    · intro b b1 b2
      rw [show b = h.2.2.2 + 1 by omega, hq, hEE]
      exact hP h.2.2.2 _ lst
    · intro b b1 b2
      rw [show b = h.2.2.2 + 1 by omega, hq]
      exact hD.2 h.2.2.2 _ lst
    · intro b b' b1 b2 b3 b4 e1
      rw [show b = h.2.2.2 + 1 by omega, hq] at e1
      by_cases z : b' = h.2.2.2 + 1
      · omega
      · rw [had b' (by omega)] at e1
        have o := zws_at (cA := cA) (ad := ad) (h := h) (a := b') b3 (by omega)
        have o' : (zws cA ad h ++ [(q, E)])[b' - 1]? = some (ad b', zcell cA ad h b') := by
          rw [List.getElem?_append_left (by rw [len]; omega)]
          exact o
        have := hD.1 h.2.2.2 (b' - 1) _ _ lst o' e1
        omega
  have k2 := kk _ H1 locs lsA X' (zlv_ext had hs.2 hl) ((had 1012 (Or.inr (by omega))).trans hb)
  rw [List.map_cons, zva_pos (by omega), hq, zmap_ext had hs.1] at k2
  exact k2
theorem L_new {idx cx : Nat} (F : LF E) (hdg : decode code pc = .ok (.new idx, 3)) (hc : cx < 12) (hcl : Cond.classLink "UnevenWaxLaw" idx (zcn cx) ∈ zgw) (hin : Cond.instantiable (zcn cx) (zN cx) ∈ zgw) (hini : Cond.initialized (zcn cx) ∈ zgw) (hk : (zk (h.2.2.2 + 1)).1 = cx) (hv : zvh h) (hs : zvs h ls st) (hm : cells + 1 ≤ 600000 ∧ slots + zN cx ≤ 7302250)
    (kk : JL E (cells + 1) (slots + zN cx) (pc + 3) ls (.inr (.inr (h.2.2.2 + 1)) :: st) (zNw h)) : JL E cells slots pc ls st h := by
  obtain ⟨p, l, e, s, m, below, meth, c, D, cA, adV, b, L, xs⟩ := E
  intro ad H locs lsA X hl hb
  refine va_new (ci := cx) (fs := (List.range (zN cx)).map (fun k => zfv ad (zNw h) (h.2.2.2 + 1) k (zty cx k))) (C := zcn cx) (T := zT cx) (N := zN cx) F.1 F.2.1 F.2.2.2.2.2.1 (zlay_in cx hc) (zty cx) (zty_ok cx hc) F.2.2.2.2.1 (F.2.2.2.2.2.1 _ hcl) (F.2.2.2.2.2.1 _ hin) (F.2.2.2.2.2.1 _ hini) X.2.2.2.2.1 X.2.2.1 X.2.2.2.1 X.2.1 X.1 (zcl_at cx hc) (fun j hj => ?_) hm.1 hm.2 hdg (fun q H1 q1 q2 q3 => ?_)
  · unfold vp_V
    rw [List.getD_eq_getElem?_getD, List.getElem?_map, List.getElem?_range hj]
    show defaultValue (zty cx j) = zfv ad (zNw h) (h.2.2.2 + 1) j (zty cx j)
    have z1 : (zNw h).1 (h.2.2.2 + 1) = fun _ => 0 := if_pos rfl
    have z2 : (zNw h).2.1 (h.2.2.2 + 1) = fun _ => 0 := if_pos rfl
    have z3 : (zNw h).2.2.1 (h.2.2.2 + 1) = fun _ => 0 := if_pos rfl
    unfold zfv
    rw [z1, z2, z3]
    rcases zty_k cx hc j hj with t | t | t | t
    · revert t
      cases zty cx j <;> intro t <;> first | rfl | cases t
    · rw [t]; rfl
    · rw [t]; rfl
    · rw [t]; rfl
  · refine zgrow1L X hl hb hv hs (by omega) q1 q2 q3 ?_ kk
    rw [zcell_obj hk hc]
    clear hm kk hdg
    congr 2
    refine List.map_congr_left (fun k hk => ?_)
    have z3 : (zNw h).2.2.1 (h.2.2.2 + 1) = fun _ => 0 := if_pos rfl
    unfold zfv
    rw [z3]
    have hkN := List.mem_range.mp hk
    rcases zty_k cx hc k hkN with t | t | t | t
    · revert t
      cases zty cx k <;> intro t <;> first | rfl | cases t
    · rw [t]
    · rw [t]
    · rw [t]
end JLs
