/-! ===== THE MINI HEAP: cells by number; ints, longs, references apart; the kind of each number is fixed ===== -/
abbrev MV : Type := Int32 ⊕ Int64 ⊕ Nat
abbrev MH : Type := (Nat → Nat → Int32) × (Nat → Nat → Int64) × (Nat → Nat → Nat) × Nat
abbrev MM : Type := MethodName × ByteArray × Nat × Option FieldType
def zkT : List (Nat × Nat) := [(99, 0), (10, 15), (6, 8), (20, 400), (2, 5), (20, 8), (20, 48), (20, 8), (20, 8), (5, 7), (20, 20), (20, 20), (20, 40), (20, 40), (20, 40), (1, 2), (2, 5), (20, 8), (20, 48), (20, 8), (20, 8), (30, 4), (5, 7), (20, 20), (20, 20), (20, 40), (20, 40), (20, 40), (5, 7), (20, 20), (20, 20), (20, 40), (20, 40), (20, 40), (5, 7), (20, 20), (20, 20), (20, 40), (20, 40), (20, 40), (5, 7), (20, 20), (20, 20), (20, 40), (20, 40), (20, 40), (31, 2), (32, 4), (8, 16), (20, 8), (20, 8), (20, 8), (20, 8), (20, 8), (20, 8), (20, 8), (20, 40), (20, 40), (4, 5), (20, 40), (20, 40), (20, 8), (9, 16), (20, 4), (20, 5), (33, 5), (20, 4), (20, 4), (20, 4), (20, 4), (20, 4), (33, 5), (20, 4), (20, 4), (20, 4), (20, 4), (20, 4), (0, 6), (20, 2), (20, 2), (33, 2), (20, 7), (20, 7), (33, 13), (20, 4), (20, 4), (20, 4), (20, 4), (20, 4), (20, 4), (20, 4), (20, 4), (20, 4), (20, 4), (20, 4), (20, 4), (20, 4), (3, 2), (21, 361), (3, 2), (21, 361), (3, 2), (21, 361), (7, 4), (21, 40), (7, 4), (21, 40), (7, 4), (21, 40), (7, 4), (21, 40), (11, 56), (20, 2166), (22, 2), (20, 400), (20, 236), (20, 8), (20, 8), (20, 8), (20, 8), (20, 8), (20, 8), (20, 64), (20, 8), (20, 40), (22, 40), (20, 40), (20, 4), (20, 20), (20, 20), (20, 5), (20, 5), (20, 11600), (20, 40), (20, 5), (20, 5), (20, 128), (20, 128), (20, 128), (22, 40), (20, 4), (20, 4), (21, 160), (1, 2), (2, 5), (20, 8), (20, 48), (20, 8), (20, 8), (30, 4), (5, 7), (20, 20), (20, 20), (20, 40), (20, 40), (20, 40), (5, 7), (20, 20), (20, 20), (20, 40), (20, 40), (20, 40), (5, 7), (20, 20), (20, 20), (20, 40), (20, 40), (20, 40), (5, 7), (20, 20), (20, 20), (20, 40), (20, 40), (20, 40), (1, 2), (2, 5), (20, 8), (20, 48), (20, 8), (20, 8), (30, 4), (5, 7), (20, 20), (20, 20), (20, 40), (20, 40), (20, 40), (5, 7), (20, 20), (20, 20), (20, 40), (20, 40), (20, 40), (5, 7), (20, 20), (20, 20), (20, 40), (20, 40), (20, 40), (5, 7), (20, 20), (20, 20), (20, 40), (20, 40), (20, 40)]
def zk (i : Nat) : Nat × Nat := zkT.getD i (99, 0)
def zty (c k : Nat) : FieldType := match c with
  | 0 => tyX0 k | 1 => tyX1 k | 2 => tyX2 k | 3 => tyX3 k | 4 => tyX4 k | 5 => tyX5 k | 6 => tyX6 k | 7 => tyX7 k | 8 => tyX8 k | 9 => tyX9 k | 10 => tyX10 k | _ => tyX11 k
def zrf (ad : Nat → Nat) (r : Nat) : Option Nat := if r = 0 then none else some (ad r)
def zfv (ad : Nat → Nat) (h : MH) (a k : Nat) (ty : FieldType) : Value := match ty with
  | .int => .int (h.1 a k)
  | .boolean => .int (h.1 a k)
  | .long => .long (h.2.1 a k)
  | _ => va_rf (zrf ad (h.2.2.1 a k))
def zcell (cA : Nat → ClassId) (ad : Nat → Nat) (h : MH) (a : Nat) : va_E :=
  if (zk a).1 < 20 then .inr ((zk a).1, (List.range (zk a).2).map (fun k => zfv ad h a k (zty (zk a).1 k)))
  else if (zk a).1 = 21 then .inl (cA 21, (zk a).2, .inr (.inl (h.2.1 a)))
  else if (zk a).1 = 20 then .inl (cA 20, (zk a).2, .inl (h.1 a))
  else if (zk a).1 = 22 then .inl (cA 22, (zk a).2, .inl (h.1 a))
  else .inl (cA (zk a).1, (zk a).2, .inr (.inr (.inr (.inr (fun j => zrf ad (h.2.2.1 a j))))))
def zws (cA : Nat → ClassId) (ad : Nat → Nat) (h : MH) : va_W := (List.range h.2.2.2).map (fun i => (ad (i + 1), zcell cA ad h (i + 1)))
def ztys (cA : Nat → ClassId) : List (ClassId × FieldType) := [(cA 20, .int), (cA 21, .long), (cA 22, .boolean), (cA 30, .object "UnevenWax$Plan"), (cA 31, .object "UnevenWax$Book"), (cA 32, .object "UnevenWax$Row"), (cA 33, .array .int)]
def zva (ad : Nat → Nat) (v : MV) : Value := match v with
  | .inl x => .int x
  | .inr (.inl x) => .long x
  | .inr (.inr r) => va_rf (zrf ad r)
def zlv (ad : Nat → Nat) (ls : List (Option MV)) : List (Nat × Value) := (List.range ls.length).filterMap (fun i => (ls.getD i none).map (fun v => (i, zva ad v)))
theorem zlv_mem {ad : Nat → Nat} {ls : List (Option MV)} {q : Nat × Value} : q ∈ zlv ad ls ↔ ∃ v : MV, ls[q.1]? = some (some v) ∧ q.2 = zva ad v := by
  unfold zlv
  rw [List.mem_filterMap]
  constructor
  · rintro ⟨i, hi, h⟩
    rw [List.mem_range] at hi
    rw [Option.map_eq_some_iff] at h
    obtain ⟨v, h1, rfl⟩ := h
    refine ⟨v, ?_, rfl⟩
    show ls[i]? = _
    rw [List.getD_eq_getElem?_getD, List.getElem?_eq_getElem hi] at h1
    rw [List.getElem?_eq_getElem hi]
    exact congrArg some h1
  · rintro ⟨v, h1, h2⟩
    have hi := (List.getElem?_eq_some_iff.mp h1).1
    refine ⟨q.1, List.mem_range.mpr hi, ?_⟩
    rw [List.getD_eq_getElem?_getD, h1]
    show some (q.1, zva ad v) = some q
    rw [← h2]
theorem zlv_get {ad : Nat → Nat} {ls : List (Option MV)} {lsA : Array Slot} {nL i : Nat} {v : MV} (h : lv_has lsA nL (zlv ad ls)) (hi : ls[i]? = some (some v)) : lsA[i]? = some (.val (zva ad v)) := h.2.2 (i, zva ad v) (zlv_mem.mpr ⟨v, hi, rfl⟩)
theorem zws_at {cA : Nat → ClassId} {ad : Nat → Nat} {h : MH} {a : Nat} (h1 : 0 < a) (h2 : a ≤ h.2.2.2) : (zws cA ad h)[a - 1]? = some (ad a, zcell cA ad h a) := by
  unfold zws
  rw [List.getElem?_map, List.getElem?_range (by omega)]
  show some (ad (a - 1 + 1), zcell cA ad h (a - 1 + 1)) = _
  rw [show a - 1 + 1 = a by omega]
theorem zws_len {cA : Nat → ClassId} {ad : Nat → Nat} {h : MH} : (zws cA ad h).length = h.2.2.2 := by
  unfold zws
  rw [List.length_map, List.length_range]
theorem zcell_congr {cA : Nat → ClassId} {ad : Nat → Nat} {h h' : MH} {a : Nat} (e : h'.1 a = h.1 a ∧ h'.2.1 a = h.2.1 a ∧ h'.2.2.1 a = h.2.2.1 a) : zcell cA ad h' a = zcell cA ad h a := by
  have hf : ∀ k ty, zfv ad h' a k ty = zfv ad h a k ty := by
    intro k ty
    unfold zfv
    rw [e.1, e.2.1, e.2.2]
  unfold zcell
  rw [e.1, e.2.1, e.2.2]
  simp only [hf]
/-- a heap that differs from another in one cell alone -/
def zag (a : Nat) (h h' : MH) : Prop := (∀ b, b ≠ a → h'.1 b = h.1 b ∧ h'.2.1 b = h.2.1 b ∧ h'.2.2.1 b = h.2.2.1 b) ∧ h'.2.2.2 = h.2.2.2
theorem zws_set {cA : Nat → ClassId} {ad : Nat → Nat} {h h' : MH} {a : Nat} (e : zag a h h') (h1 : 0 < a) (h2 : a ≤ h.2.2.2) : zws cA ad h' = (zws cA ad h).set (a - 1) (ad a, zcell cA ad h' a) := by
  apply List.ext_getElem?
  intro i
  by_cases hi : i < h.2.2.2
  · by_cases hia : i = a - 1
    · subst hia
      rw [List.getElem?_set_self (by rw [zws_len]; exact hi), zws_at h1 (by rw [e.2]; exact h2)]
    · rw [List.getElem?_set_ne (Ne.symm hia)]
      have q1 := zws_at (cA := cA) (ad := ad) (h := h') (a := i + 1) (by omega) (by rw [e.2]; omega)
      have q2 := zws_at (cA := cA) (ad := ad) (h := h) (a := i + 1) (by omega) (by omega)
      rw [Nat.add_sub_cancel] at q1 q2
      rw [q1, q2, zcell_congr (e.1 (i + 1) (by omega))]
  · rw [List.getElem?_eq_none (by rw [zws_len, e.2]; omega), List.getElem?_eq_none (by rw [List.length_set, zws_len]; omega)]
def zsI (h : MH) (a j : Nat) (v : Int32) : MH := (fun b => if b = a then upd (h.1 a) j v else h.1 b, h.2)
def zsL (h : MH) (a j : Nat) (v : Int64) : MH := (h.1, fun b => if b = a then vp_updL (h.2.1 a) j v else h.2.1 b, h.2.2)
def zsR (h : MH) (a j : Nat) (v : Nat) : MH := (h.1, h.2.1, fun b => if b = a then va_up (h.2.2.1 a) j v else h.2.2.1 b, h.2.2.2)
theorem zag_I (h : MH) (a j : Nat) (v : Int32) : zag a h (zsI h a j v) := ⟨fun b hb => ⟨if_neg hb, rfl, rfl⟩, rfl⟩
theorem zag_L (h : MH) (a j : Nat) (v : Int64) : zag a h (zsL h a j v) := ⟨fun b hb => ⟨rfl, if_neg hb, rfl⟩, rfl⟩
theorem zag_R (h : MH) (a j : Nat) (v : Nat) : zag a h (zsR h a j v) := ⟨fun b hb => ⟨rfl, rfl, if_neg hb⟩, rfl⟩
/-- an array's contents are another array's, in a part -/
def zcI (h : MH) (a b sp dp n : Nat) : MH := (fun c => if c = b then va_cpy (h.1 a) (h.1 b) sp dp n else h.1 c, h.2)
theorem zag_C (h : MH) (a b sp dp n : Nat) : zag b h (zcI h a b sp dp n) := ⟨fun c hc => ⟨if_neg hc, rfl, rfl⟩, rfl⟩
/-- one cell more -/
def zgr (h : MH) (n : Nat) : MH := (fun b => if h.2.2.2 < b then fun _ => 0 else h.1 b, fun b => if h.2.2.2 < b then fun _ => 0 else h.2.1 b, fun b => if h.2.2.2 < b then fun _ => 0 else h.2.2.1 b, h.2.2.2 + n)
theorem zmap_set {α : Type} {n k : Nat} {f g : Nat → α} (hk : k < n) (hj : ∀ j, j ≠ k → g j = f j) : (List.range n).map g = ((List.range n).map f).set k (g k) := by
  apply List.ext_getElem?
  intro i
  by_cases hi : i < n
  · by_cases hik : i = k
    · subst hik
      rw [List.getElem?_set_self (by rw [List.length_map, List.length_range]; exact hi), List.getElem?_map, List.getElem?_range hi]
      rfl
    · rw [List.getElem?_set_ne (Ne.symm hik), List.getElem?_map, List.getElem?_map, List.getElem?_range hi]
      show some _ = some _
      rw [hj i hik]
  · rw [List.getElem?_eq_none (by rw [List.length_map, List.length_range]; omega), List.getElem?_eq_none (by rw [List.length_set, List.length_map, List.length_range]; omega)]
/-! ===== the words, the room, what holds of the tables beside them ===== -/
def va_AOA (t : FieldType) (U : State) : Prop := (Cond.arrayOver (.array t)).before #[] U = true
def zgw : List Cond := lw_tbl.filter goodWord
def zwd (M : MM) : List Cond := Cond.code M.1 M.2.1 M.2.2.1 M.2.2.2 :: zgw
def zrm (d mc ms : Nat) : Room := { frames := d, cells := mc, slots := ms, locals := 60 * d }
def zns : List (String × Nat × MethodName) := [("UnevenWax", 11, yX6_init), ("UnevenWax", 18, yX2_init), ("UnevenWax", 25, yX5_init), ("UnevenWax", 49, yX8_init), ("UnevenWax", 60, yX4_init), ("UnevenWax", 67, yX9_init), ("UnevenWax", 74, yX0_init), ("UnevenWax", 81, yX3_init), ("UnevenWax", 92, yX7_init), ("UnevenWax$Book", 11, yX2_init), ("UnevenWax$Book", 24, yX5_init)]
def zsx : List (String × Nat × String) := [("UnevenWax$Reader", 42, "candle"), ("UnevenWax$Reader", 56, "wax"), ("UnevenWax$Reader", 67, "draught"), ("UnevenWax$Reader", 88, "first"), ("UnevenWax$Reader", 86, "ends"), ("UnevenWax$Reader", 99, "and"), ("UnevenWax$Reader", 111, "light"), ("UnevenWax$Reader", 113, "both"), ("UnevenWax$Reader", 115, "out"), ("UnevenWax$Reader", 117, "join"), ("UnevenWax$Reader", 119, "bell"), ("UnevenWaxModel", 121, " candle wax draught first ends and light both out join bell ")]
def zbytes : List (List Int32) := [[99, 97, 110, 100, 108, 101], [119, 97, 120], [100, 114, 97, 117, 103, 104, 116], [102, 105, 114, 115, 116], [101, 110, 100, 115], [97, 110, 100], [108, 105, 103, 104, 116], [98, 111, 116, 104], [111, 117, 116], [106, 111, 105, 110], [98, 101, 108, 108], [32, 99, 97, 110, 100, 108, 101, 32, 119, 97, 120, 32, 100, 114, 97, 117, 103, 104, 116, 32, 102, 105, 114, 115, 116, 32, 101, 110, 100, 115, 32, 97, 110, 100, 32, 108, 105, 103, 104, 116, 32, 98, 111, 116, 104, 32, 111, 117, 116, 32, 106, 111, 105, 110, 32, 98, 101, 108, 108, 32]]
def zlens : List Nat := [6, 3, 7, 5, 4, 3, 5, 4, 3, 4, 4, 60]
/-- what no list of words says of a state: links among nest mates, arrays of references, the String constants (numbers 1000 and on) -/
def zEv (ad adV : Nat → Nat) (A : Nat → Prop) (U : State) (H : Heap) : Prop :=
  (∀ q ∈ zns, va_Nw (.methodLinkNest q.1 q.2.1 q.2.2 "UnevenWax") U) ∧ (va_AO "UnevenWax$Plan" U ∧ va_AO "UnevenWax$Book" U ∧ va_AO "UnevenWax$Row" U ∧ va_AOA .int U) ∧
  (∀ (i : Nat) (q : String × Nat × String), zsx[i]? = some q → vk_R q.1 q.2.1 q.2.2 (ad (1000 + i)) U) ∧ vk_S 12 zlens zbytes (fun i => ad (1000 + i)) adV A U H ∧
  va_Z "java/lang/String" "COMPACT_STRINGS" "Z" (.int 1) A U H ∧ va_Zq "jdk/internal/util/Preconditions" "SIOOBE_FORMATTER" "Ljava/util/function/BiFunction;" A U H
