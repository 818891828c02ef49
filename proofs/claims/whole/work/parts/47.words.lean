/-! ===== Reader.isWord ===== -/
def kStr : Prop := (∀ (j d : Nat) (h : MH) (Q : Option MV → MH → Prop), j < 12 → 10 ≤ d → Q (some (.inl (nI (zlens.getD j 0)))) h → Con mJ0_length_8abf5 d 0 0 [.inr (.inr (1000 + j))] h Q) ∧ (∀ (j i d : Nat) (h : MH) (Q : Option MV → MH → Prop), j < 12 → i < zlens.getD j 0 → 10 ≤ d → Q (some (.inl ((zbytes.getD j []).getD i 0))) h → Con mJ0_charAt_5068e d 0 0 [.inr (.inr (1000 + j)), .inl (nI i)] h Q)
theorem kWds_by : ∀ j, j < 11 → zlens.getD j 0 = (kWds.getD j []).length ∧ ∀ i, i < (kWds.getD j []).length → (zbytes.getD j []).getD i 0 = nI ((kWds.getD j []).getD i 0) ∧ (kWds.getD j []).getD i 0 < 256 := by decide +kernel
theorem kWl_at (f : Nat → Nat) (s e : Nat) {i : Nat} (h : i < e - s) : (kWl f s e).getD i 0 = f (s + i) := by
  unfold kWl
  rw [List.getD_eq_getElem?_getD, List.getElem?_map, List.getElem?_range h]
  rfl
theorem kWl_len (f : Nat → Nat) (s e : Nat) : (kWl f s e).length = e - s := by simp [kWl]
theorem kKey_of (f : Nat → Nat) {s e j : Nat} (hj : j < 11) : kKey f s e = j ↔ kWl f s e = kWds.getD j [] := by
  constructor
  · intro h
    have h1 : kKey f s e < kWds.length := by rw [h]; exact hj
    have h2 := List.getElem_idxOf (xs := kWds) (x := kWl f s e) h1
    rw [← h2]
    rw [List.getD_eq_getElem?_getD]
    have h3 : kWds.idxOf (kWl f s e) = j := h
    simp only [h3]
    rw [List.getElem?_eq_getElem (by exact hj)]
    rfl
  · intro h
    unfold kKey
    rw [h]
    have hall : ∀ j, j < 11 → kWds.idxOf (kWds.getD j []) = j := by decide +kernel
    exact hall j hj
theorem c_isw {f : Nat → Nat} {n : Nat} {t : TK} {h : MH} {d j : Nat} {Q : Option MV → MH → Prop} (hZ : kStr) (hr : zRf h) (hk : kC f n h) (hR : rC n t h) (hj : j < 11) (h15 : t.1 ≤ 15) (hse : t.2.1 ≤ t.2.2.1) (hen : t.2.2.1 ≤ n) (hkey : t.1 ≤ 11 → t.1 = kKey f t.2.1 t.2.2.1) (hd : 11 ≤ d) (kk : Q (some (.inl (if t.1 = j then nI 1 else nI 0))) h) : Con mX6_isWord d 0 0 [.inr (.inr 2), .inr (.inr (1000 + j))] h Q := by
  have h40 := hk.1
  obtain ⟨r1, r2, r3, r4, _⟩ := hR
  have hW := kWds_by j hj
  have hl9 : ∀ j, j < 11 → (kWds.getD j []).length ≤ 9 := by decide +kernel
  have hl9' := hl9 j hj
  have c1 : kCl t.1 ≤ 4 := by unfold kCl; split <;> (try split) <;> (try split) <;> (try split) <;> omega
  have hcl : kCl t.1 = 1 ↔ t.1 ≤ 11 := by
    unfold kCl
    by_cases q : t.1 ≤ 11
    · rw [if_pos q]; simp [q]
    · rw [if_neg q]
      constructor
      · intro z; split at z
        · omega
        · split at z
          · omega
          · split at z <;> omega
      · intro z; exact absurd z q
  refine t_X6_isWord (d1' := 10) hr (by omega) (fun _ => ⟨j, rfl, by omega⟩) (fun p => ?_) (fun p => ?_)
  · rw [r3, nI_eq (by omega) (by omega), hcl] at p
    rw [if_neg (by omega)] at kk
    exact kk
  rw [r3, nI_eq (by omega) (by omega), hcl] at p
  have hkj : t.1 = j ↔ kWl f t.2.1 t.2.2.1 = kWds.getD j [] := by rw [hkey p]; exact kKey_of f hj
  refine hZ.1 j 10 h _ (by omega) (by omega) ?_
  refine t_X6_isWord_21 (fun q => ?_) (fun q => ?_)
  · rw [r2, r4, pk_sub hse, hW.1, nI_eq (by omega) (by omega)] at q
    have L : ∀ m i, i + m = (kWds.getD j []).length → (∀ x, x < i → f (t.2.1 + x) = (kWds.getD j []).getD x 0) → J mX6_isWord d 0 0 Q 0 0 28 [some (.inr (.inr 2)), some (.inr (.inr (1000 + j))), some (.inl (nI i))] [] h := by
      intro m
      induction m with
      | zero =>
        intro i hi hall
        refine t_X6_isWord_28 (d1' := 10) (by omega) ⟨j, rfl, by omega⟩ ?_
        refine hZ.1 j 10 h _ (by omega) (by omega) ?_
        have hle : nI (zlens.getD j 0) ≤ nI i := by rw [hW.1]; exact nI_le (by omega) (by omega)
        refine t_X6_isWord_33 (d1' := 10) hr (by omega) (fun z => absurd hle z) (fun z => absurd hle z) (fun _ => ?_) (fun z => absurd hle z)
        rw [if_pos (hkj.mpr ?_)] at kk
        · exact kk
        · refine List.ext_getElem? (fun x => ?_)
          by_cases hx : x < t.2.2.1 - t.2.1
          · have e1 := kWl_at f t.2.1 t.2.2.1 hx
            have e2 := hall x (by omega)
            rw [List.getD_eq_getElem?_getD, List.getElem?_eq_getElem (by rw [kWl_len]; exact hx)] at e1
            rw [List.getD_eq_getElem?_getD, List.getElem?_eq_getElem (by omega)] at e2
            rw [List.getElem?_eq_getElem (by rw [kWl_len]; exact hx), List.getElem?_eq_getElem (by omega)]
            exact congrArg some (e1.trans e2)
          · rw [List.getElem?_eq_none (by rw [kWl_len]; omega), List.getElem?_eq_none (by omega)]
      | succ m ih =>
        intro i hi hall
        refine t_X6_isWord_28 (d1' := 10) (by omega) ⟨j, rfl, by omega⟩ ?_
        refine hZ.1 j 10 h _ (by omega) (by omega) ?_
        have hnle : ¬ nI (zlens.getD j 0) ≤ nI i := by rw [hW.1, nI_leI (by omega) (by omega)]; omega
        have hb := hW.2 i (by omega)
        have e5 : h.1 3 (h.1 2 4 + nI i).toNatClampNeg = nI (f (t.2.1 + i)) ∧ f (t.2.1 + i) < 256 := by
          rw [r4, nI_add, nI_clamp (by omega)]
          exact hk.2 _ (by omega)
        refine t_X6_isWord_33 (d1' := 10) hr (by omega) (fun _ => by rw [r4, nI_add]; exact vp_in_nI (by omega) (by omega)) (fun _ => ⟨j, rfl, by omega⟩) (fun z => absurd z hnle) (fun _ => ?_)
        refine hZ.2 j i 10 h _ (by omega) (by rw [hW.1]; omega) (by omega) ?_
        rw [e5.1, hb.1]
        have hb2 := hb.2
        have e52 := e5.2
        refine t_X6_isWord_52 (fun z => ?_) (fun z => ?_)
        · rw [nI_eq (by omega) (by omega)] at z
          rw [nI_add]
          refine ih (i + 1) (by omega) (fun x hx => ?_)
          by_cases ex : x = i
          · rw [ex]; exact z
          · exact hall x (by omega)
        · rw [nI_eq (by omega) (by omega)] at z
          rw [if_neg (fun w => z ?_)] at kk
          · exact kk
          · have := hkj.mp w
            rw [← this, kWl_at f _ _ (by omega)]
    exact L _ 0 (Nat.zero_add _) (fun x hx => absurd hx (Nat.not_lt_zero _))
  · rw [r2, r4, pk_sub hse, hW.1, nI_eq (by omega) (by omega)] at q
    rw [if_neg (fun w => q ?_)] at kk
    · exact kk
    · have := hkj.mp w
      rw [← this, kWl_len]
