/-! ===== the law, from its entry ===== -/
def ltm (i : Nat) : Term := .string (zsx.getD i ("", 0, "")).1 (zsx.getD i ("", 0, "")).2.1
theorem nz_ns : ∀ q ∈ zns, Cond.methodLinkNest q.1 q.2.1 q.2.2 "UnevenWax" ∈ lw_tbl := by decide +kernel
theorem nz_sx : ∀ i, i < 12 → Cond.stringRef (zsx.getD i ("", 0, "")).1 (zsx.getD i ("", 0, "")).2.1 (zsx.getD i ("", 0, "")).2.2 ∈ lw_tbl := by decide +kernel
theorem nz_ar : Cond.arrayClass .int ∈ lw_tbl ∧ Cond.arrayClass .long ∈ lw_tbl ∧ Cond.arrayClass .boolean ∈ lw_tbl ∧ Cond.arrayOver (.object "UnevenWax$Plan") ∈ lw_tbl ∧ Cond.arrayOver (.object "UnevenWax$Book") ∈ lw_tbl ∧ Cond.arrayOver (.object "UnevenWax$Row") ∈ lw_tbl ∧ Cond.arrayOver (.array .int) ∈ lw_tbl := by decide +kernel
theorem nz_st : Cond.laysStatic "java/lang/String" "COMPACT_STRINGS" "Z" ∈ lw_tbl ∧ Cond.initialized "java/lang/String" ∈ lw_tbl ∧ Cond.laysStatic "jdk/internal/util/Preconditions" "SIOOBE_FORMATTER" "Ljava/util/function/BiFunction;" ∈ lw_tbl ∧ Cond.initialized "jdk/internal/util/Preconditions" ∈ lw_tbl := by decide +kernel
def nzF : List Cond := flatC (Jvm.Cond.and given_1 narrow_1)
theorem nz_e1 : ∀ i, i < 12 → Cond.exactly (ltm i) "java/lang/String" ∈ nzF ∧ Cond.eq (.field (ltm i) "java/lang/String" "coder" "B") (.int 0) ∈ nzF ∧ Cond.arrayOf (.field (ltm i) "java/lang/String" "value" "[B") .byte ∈ nzF ∧ Cond.eq (.length (.field (ltm i) "java/lang/String" "value" "[B")) (.int (Int32.ofNat (zlens.getD i 0))) ∈ nzF := by decide +kernel
theorem nz_e2 : ∀ i, i < 12 → ∀ j, j < zlens.getD i 0 → Cond.eq (.elem (.field (ltm i) "java/lang/String" "value" "[B") (.int (Int32.ofNat j))) (.int ((zbytes.getD i []).getD j 0)) ∈ nzF := by decide +kernel
def nzP : List (Nat × Nat) := [(0, 1), (0, 2), (1, 2), (0, 4), (1, 4), (2, 4), (0, 3), (1, 3), (2, 3), (4, 3), (0, 6), (1, 6), (2, 6), (4, 6), (3, 6), (0, 7), (1, 7), (2, 7), (4, 7), (3, 7), (6, 7), (0, 8), (1, 8), (2, 8), (4, 8), (3, 8), (6, 8), (7, 8), (0, 9), (1, 9), (2, 9), (4, 9), (3, 9), (6, 9), (7, 9), (8, 9), (0, 10), (1, 10), (2, 10), (4, 10), (3, 10), (6, 10), (7, 10), (8, 10), (9, 10), (0, 5), (1, 5), (2, 5), (4, 5), (3, 5), (6, 5), (7, 5), (8, 5), (9, 5), (10, 5), (0, 11), (1, 11), (2, 11), (4, 11), (3, 11), (6, 11), (7, 11), (8, 11), (9, 11), (10, 11), (5, 11)]
def nzN (c : Cond) : Bool := match c with
  | .not (.eq (.string _ _) (.string _ _)) => true
  | _ => false
theorem nz_p : nzF.filter nzN = nzP.map (fun q => Cond.not (Cond.eq (ltm q.1) (ltm q.2))) := by decide +kernel
def nzH (i j : Nat) : Bool := nzP.any (fun q => Nat.beq q.1 i && Nat.beq q.2 j)
theorem nzH_in {i j : Nat} (h : nzH i j = true) : (i, j) ∈ nzP := by
  obtain ⟨q, h1, h2⟩ := List.any_eq_true.mp h
  obtain ⟨h3, h4⟩ := Bool.and_eq_true_iff.mp h2
  have e : q = (i, j) := Prod.ext (Nat.eq_of_beq_eq_true h3) (Nat.eq_of_beq_eq_true h4)
  rw [← e]
  exact h1
theorem nz_pb : (List.range 12).all (fun i => (List.range 12).all (fun j => Nat.beq i j || (nzH i j || nzH j i))) = true := by decide +kernel
theorem nz_p3 (i : Nat) (hi : i < 12) (j : Nat) (hj : j < 12) (hij : i ≠ j) : (i, j) ∈ nzP ∨ (j, i) ∈ nzP := by
  have t := List.all_eq_true.mp (List.all_eq_true.mp nz_pb i (List.mem_range.mpr hi)) j (List.mem_range.mpr hj)
  rcases Bool.or_eq_true_iff.mp t with h | h
  · exact absurd (Nat.eq_of_beq_eq_true h) hij
  · exact (Bool.or_eq_true_iff.mp h).imp nzH_in nzH_in
theorem nz_p4 {q : Nat × Nat} (h : q ∈ nzP) : Cond.not (Cond.eq (ltm q.1) (ltm q.2)) ∈ nzF := by
  have h1 : Cond.not (Cond.eq (ltm q.1) (ltm q.2)) ∈ nzF.filter nzN := by
    rw [nz_p]
    exact List.mem_map.mpr ⟨q, h, rfl⟩
  exact (List.mem_filter.mp h1).1
theorem nz_e4 : Cond.eq (.static "java/lang/String" "COMPACT_STRINGS" "Z") (.int 1) ∈ nzF ∧ Cond.isRef (.static "jdk/internal/util/Preconditions" "SIOOBE_FORMATTER" "Ljava/util/function/BiFunction;") ∈ nzF := by decide +kernel
theorem nz_le : ∀ i, i < 12 → zlens.getD i 0 < 2 ^ 31 := by decide +kernel
theorem zsx_at {i : Nat} {q : String × Nat × String} (h : zsx[i]? = some q) : i < 12 ∧ zsx.getD i ("", 0, "") = q := by
  have hl := (List.getElem?_eq_some_iff.mp h).1
  exact ⟨hl, by rw [List.getD_eq_getElem?_getD, h]; rfl⟩
theorem ltys_at {s : State} {cA : Nat → ClassId} (h0 : ArrOfT s (cA 20) .int ∧ va_RA s (cA 20) .int) (h1 : ArrOfT s (cA 21) .long ∧ va_RA s (cA 21) .long) (h2 : ArrOfT s (cA 22) .boolean ∧ va_RA s (cA 22) .boolean) (h3 : ArrOfT s (cA 30) (.object "UnevenWax$Plan") ∧ va_RA s (cA 30) (.object "UnevenWax$Plan")) (h4 : ArrOfT s (cA 31) (.object "UnevenWax$Book") ∧ va_RA s (cA 31) (.object "UnevenWax$Book")) (h5 : ArrOfT s (cA 32) (.object "UnevenWax$Row") ∧ va_RA s (cA 32) (.object "UnevenWax$Row")) (h6 : ArrOfT s (cA 33) (.array .int) ∧ va_RA s (cA 33) (.array .int)) : ∀ (k : Nat) (q : ClassId × FieldType), (ztys cA)[k]? = some q → ArrOfT s q.1 q.2 ∧ va_RA s q.1 q.2 := by
  intro k q hq
  match k, hq with
  | 0, hq => cases hq; exact h0
  | 1, hq => cases hq; exact h1
  | 2, hq => cases hq; exact h2
  | 3, hq => cases hq; exact h3
  | 4, hq => cases hq; exact h4
  | 5, hq => cases hq; exact h5
  | 6, hq => cases hq; exact h6
  | k + 7, hq => simp [ztys] at hq
theorem larr {s : State} {A : Array Value} {ty : FieldType} (h : (Cond.arrayClass ty).before A s = true) : ∃ c : ClassId, ArrOfT s c ty ∧ s.vm.findClass ("[" ++ ty.toString) = some c := by
  obtain ⟨c, k, comp, h1, h2, h3⟩ := Cond.arrayClass_spec h
  exact ⟨c, fun n z => ⟨fun k h => (by cases h), k, h2, comp, h3⟩, h1⟩
theorem lobj {s : State} {A : Array Value} {C : String} (h : (Cond.arrayOver (.object C)).before A s = true) : ∃ c : ClassId, ArrOfT s c (.object C) ∧ va_RA s c (.object C) := by
  obtain ⟨comp, c, k, h1, h2, h3, h4, h5⟩ := Cond.arrayOver_spec h
  exact ⟨c, fun n z => ⟨fun k h => (by cases h), k, h3, comp, h4⟩, k, comp, h3, h4, h1, h5⟩
theorem larr2 {s : State} {A : Array Value} {t : FieldType} (h : (Cond.arrayOver (.array t)).before A s = true) : ∃ c : ClassId, ArrOfT s c (.array t) ∧ va_RA s c (.array t) := by
  obtain ⟨comp, c, k, h1, h2, h3, h4⟩ := Cond.arrayOver_specA h
  exact ⟨c, fun n z => ⟨fun k h => (by cases h), k, h2, comp, h3⟩, h4⟩
theorem whole_start {p : Program} {e : Env} {s : State} {m : MethodId} {below : List Frame} {meth : Method} {c : Code} (l : Launch) {b L : Nat} {xs : Nat → Int32} (hL : L ≤ 3072) (C0 : lw_At p s m meth c b L xs) : W p l e room_1 s m #[Value.ref b] below meth c s.heap [] 0 0 (lw_Z below #[Value.ref b] s) (entryFrame m ([Value.ref b] : List Value).toArray 4) := by
  obtain ⟨hx, hb, hr, hml, hown, hts, hX, hbl, hlocks, hgv⟩ := id C0
  have hg : ∀ w ∈ zgw, w.before #[Value.ref b] s = true := fun w hw => hts w (List.mem_filter.mp hw).1
  have hf : ∀ w ∈ nzF, w.before #[Value.ref b] s = true := flat_of_before _ hgv
  have hkn : ∀ c : Nat, ∃ q : ClassId × (Nat → Nat), c < 12 → u_Kn s (zcn c) (zT c) (zN c) q.1 q.2 := by
    intro c
    by_cases hc : c < 12
    · obtain ⟨cC, iS, h⟩ := u_known (ws := zgw) (n := zN c) hg (zlay_in c hc) (hg _ (zinst' c hc))
      exact ⟨(cC, iS), fun _ => h⟩
    · exact ⟨(0, fun _ => 0), fun h => absurd h hc⟩
  obtain ⟨dq, hdq⟩ := Classical.axiomOfChoice hkn
  obtain ⟨w1, w2, w3, w4, w5, w6, w7⟩ := nz_ar
  obtain ⟨c0, a0⟩ := larr (hts _ w1)
  obtain ⟨c1, a1⟩ := larr (hts _ w2)
  obtain ⟨c2, a2⟩ := larr (hts _ w3)
  obtain ⟨c3, a3⟩ := lobj (hts _ w4)
  obtain ⟨c4, a4⟩ := lobj (hts _ w5)
  obtain ⟨c5, a5⟩ := lobj (hts _ w6)
  obtain ⟨c6, a6⟩ := larr2 (hts _ w7)
  obtain ⟨cA, hcA⟩ : ∃ cA : Nat → ClassId, ∀ (k : Nat) (q : ClassId × FieldType), (ztys cA)[k]? = some q → ArrOfT s q.1 q.2 ∧ va_RA s q.1 q.2 :=
    ⟨fun n => if n = 20 then c0 else if n = 21 then c1 else if n = 22 then c2 else if n = 30 then c3 else if n = 31 then c4 else if n = 32 then c5 else c6, ltys_at a0 a1 a2 a3 a4 a5 a6⟩
  have hAn : ∀ a : Nat, a < s.heap.size → ¬ (fun q : Nat => s.heap.size ≤ q) a := fun a h => Nat.not_le.mpr h
  obtain ⟨adK, adV, hS, hev⟩ := vk_Sof (args := #[Value.ref b]) (s := s) (N := 12) (tm := ltm) (len := zlens) (byt := zbytes) (A := fun q : Nat => s.heap.size ≤ q) nz_le (fun i hi => hf _ (nz_e1 i hi).1) (fun i hi => hf _ (nz_e1 i hi).2.1) (fun i hi => hf _ (nz_e1 i hi).2.2.1) (fun i hi => hf _ (nz_e1 i hi).2.2.2) (fun i hi j hj => hf _ (nz_e2 i hi j hj)) (fun i j hi hj hij => (nz_p3 i hi j hj hij).elim (fun h => Or.inl (hf _ (nz_p4 h))) (fun h => Or.inr (hf _ (nz_p4 h)))) hAn
  obtain ⟨ad, had, hb12⟩ : ∃ ad : Nat → Nat, (∀ i, i < 12 → ad (1000 + i) = adK i) ∧ ad 1012 = b :=
    ⟨fun i => if i = 1012 then b else adK (i - 1000), fun i hi => by show (if 1000 + i = 1012 then b else adK (1000 + i - 1000)) = adK i; rw [if_neg (by omega), Nat.add_sub_cancel_left], if_pos rfl⟩
  obtain ⟨t1, t2, t3, t4⟩ := nz_st
  have hEv : zEv ad adV (fun q : Nat => s.heap.size ≤ q) s s.heap := by
    refine ⟨fun q hq => va_Nw.of rfl (hts _ (nz_ns q hq)), ⟨va_AO.of (hts _ w4), va_AO.of (hts _ w5), va_AO.of (hts _ w6), hts _ w7⟩, fun i q hi => ?_, ⟨fun i hi => ?_, fun i j hi hj hij => ?_⟩, va_Zof (hts _ t1) (hts _ t2) (va_eqt (hf _ nz_e4.1)) hAn, va_Zqof (hts _ t3) (hts _ t4) (hf _ nz_e4.2) hAn⟩
    · obtain ⟨h12, hq⟩ := zsx_at hi
      have g1 := hts _ (nz_sx i h12)
      have g2 := hev i h12
      unfold ltm at g2
      rw [hq] at g1 g2
      rw [had i h12]
      exact vk_R.of g1 g2
    · dsimp only
      rw [had i hi]
      exact hS.1 i hi
    · dsimp only at hij
      rw [had i hi, had j hj] at hij
      exact hS.2 i j hi hj hij
  have F : LF (p, l, e, s, m, below, meth, c, (fun c => (dq c).1, fun c => (dq c).2), cA, adV, b, L, xs) := ⟨hx, hb, hml, hr, hown, hg, hX, hbl, hlocks⟩
  have hW : zWd (fun c => (dq c).1, fun c => (dq c).2) cA ad adV (fun q : Nat => s.heap.size ≤ q) s s.heap [] zH0 := by
    refine ⟨fun q h => h, va_S.rf, fun k q h => ?_, ⟨fun i j p q h => ?_, fun k q h => ?_⟩, ⟨fun k q hq => ?_, hcA⟩, hEv⟩
    · exact absurd h (by show ([] : va_W)[k]? ≠ some q; simp)
    · exact absurd h (by show ([] : va_W)[i]? ≠ some p; simp)
    · exact absurd h (by show ([] : va_W)[k]? ≠ some q; simp)
    · have hk : k < 12 := (List.getElem?_eq_some_iff.mp hq).1
      have hq2 := zcl_at k hk
      rw [hq] at hq2
      cases hq2
      exact hdq k hk
  have hl := lv_entry ([.ref b]) (n := 4) (Nat.le_of_ble_eq_true rfl)
  rw [lg_entry_eq]
  generalize (lg_sl ([.ref b]) ++ List.replicate (4 - (lg_sl ([.ref b])).length) Slot.unset).toArray = lsA at hl ⊢
  have hl : lv_has lsA 4 [(0, .ref b)] := hl
  have el : zlv ad [some (.inr (.inr 1012)), none, none, none] = [(0, .ref b)] := by
    show [(0, zva ad (.inr (.inr 1012)))] = [(0, Value.ref b)]
    rw [zva_pos (by decide), hb12]
  exact L_start F hL ad s.heap [] lsA hW (by rw [el]; exact hl) hb12
