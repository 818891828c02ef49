/-! ===== the class's image: both ways ===== -/
def zlim (o : Nat) : Nat := if o ≤ 142 then 142 else if o ≤ 173 then 173 else 204
theorem zR0_tb : (List.range 205).all (fun o => (List.range 60).all (fun k => zmu o k || !(zir o k) || decide (zR0 o k ≤ zlim o))) = true := by decide +kernel
theorem zir_60 {o k : Nat} (h : zir o k = true) (hm : zmu o k = false) : k < 60 := by
  rcases zk_ok o with ⟨c1, _⟩ | c | c | c | c | c
  · have hN : ∀ c, c < 12 → zN c ≤ 56 := by decide
    have := hN _ c1
    have hb : Nat.blt k (zN (zk o).1) = true := by
      unfold zir at h
      revert h c1
      generalize (zk o).1 = c
      intro h c1
      match c, c1 with
      | 0, _ => exact (Bool.and_eq_true_iff.mp h).1
      | 1, _ => exact (Bool.and_eq_true_iff.mp h).1
      | 2, _ => exact (Bool.and_eq_true_iff.mp h).1
      | 3, _ => exact (Bool.and_eq_true_iff.mp h).1
      | 4, _ => exact (Bool.and_eq_true_iff.mp h).1
      | 5, _ => exact (Bool.and_eq_true_iff.mp h).1
      | 6, _ => exact (Bool.and_eq_true_iff.mp h).1
      | 7, _ => exact (Bool.and_eq_true_iff.mp h).1
      | 8, _ => exact (Bool.and_eq_true_iff.mp h).1
      | 9, _ => exact (Bool.and_eq_true_iff.mp h).1
      | 10, _ => exact (Bool.and_eq_true_iff.mp h).1
      | 11, _ => exact (Bool.and_eq_true_iff.mp h).1
    have := Nat.blt_eq.mp hb
    omega
  · unfold zir at h; rw [c] at h; cases h
  · unfold zir at h; rw [c] at h; cases h
  · unfold zir at h; rw [c] at h; cases h
  · have hl : o < 205 := zk_lt (by omega)
    rcases zat_r c with q | q | q | q
    · unfold zir at h; rw [q] at h; have := Nat.blt_eq.mp h; omega
    · unfold zmu at hm; rw [q] at hm; cases hm
    · unfold zir at h; rw [q] at h; have := Nat.blt_eq.mp h; omega
    · unfold zir at h; rw [q] at h
      have h2 := Nat.blt_eq.mp h
      have hz : (List.range 205).all (fun o => decide ((zk o).1 = 33 → (zk o).2 ≤ 13)) = true := by decide +kernel
      have := of_decide_eq_true (List.all_eq_true.mp hz o (List.mem_range.mpr hl)) q
      omega
  · unfold zir at h; rw [c] at h; cases h
theorem zRf.vh {h : MH} (hr : zRf h) : zvh h := fun o k h1 h2 h3 => by
  cases hm : zmu o k with
  | true => exact (hr.2 o k h1 h2).2 hm h3
  | false =>
    rw [(hr.2 o k h1 h2).1 hm h3]
    have n := hr.1
    have k60 := zir_60 h3 hm
    have t := List.all_eq_true.mp (List.all_eq_true.mp zR0_tb o (List.mem_range.mpr (by omega))) k (List.mem_range.mpr k60)
    rw [hm, h3, Bool.false_or, Bool.not_true, Bool.false_or] at t
    have t2 := of_decide_eq_true t
    have : zlim o ≤ h.2.2.2 := by
      unfold zlim
      split
      · omega
      · split <;> omega
    omega
section IM
variable {B : BK} {h : MH} {d : Nat} {Q : Option MV → MH → Prop}
theorem o_imgS {i b : Nat} (hr : zRf h) (hA : bAt B h 15) (hB : bOK B) (hi : i < 2) (h0 : h.2.2.1 46 i = b) (hN : h.2.2.2 = 173 ∨ h.2.2.2 = 204) (hb : b = 143 ∨ b = 174) (hle : b + 30 ≤ h.2.2.2) (hd : 3 ≤ d) (kk : ∀ h', zRf h' → zF (fun a => a < b ∨ b + 30 < a) h h' → bAt B h' b → Q (some (.inl (nI 0))) h') : Con mX10_image d 31 751 [.inr (.inr 1), .inl (nI i)] h Q := by
  have hc : (0 : Nat) ≤ 31 ∧ (0 : Nat) ≤ 751 := by decide
  refine Con.intro (by decide) (Nat.le_of_ble_eq_true rfl) ?_
  have e0 : h.2.2.1 46 (nI i).toNatClampNeg = b := by rw [nI_clamp (by omega)]; exact h0
  refine bX10_image_0 hc (fun q => absurd q (nI_pos (by omega))) (fun _ => ?_)
  refine bX10_image_4 hc (fun _ => ?_) (fun q => absurd (nI_lt hi (by omega)) q)
  refine bX10_image_12 hr hc (vp_in_nI hi (by omega)) (fun _ => ?_) (fun q => by rw [e0] at q; omega)
  have zb := bZ_of hN hb hle
  refine bX10_image_34 (d' := d - 1) hr hc (vp_in_nI hi (by omega)) (by rw [e0]; exact (zb h rfl).1) (by omega) ?_
  rw [e0]
  exact c_btakI hr hB hA (by omega) zb (by omega) (fun h' r' f' a' => bX10_image_47 hc (kk h' r' f' a'))
/-- the heap with a new Book in it -/
def hIm (h : MH) (i : Nat) : MH := zsR (hX1 (zNw h)) 46 i (h.2.2.2 + 1)
theorem hIm_n (h : MH) (i : Nat) : (hIm h i).2.2.2 = h.2.2.2 + 31 := rfl
theorem hIm_o {i a : Nat} (ha : a ≤ h.2.2.2) (h46 : a ≠ 46) : (hIm h i).1 a = h.1 a ∧ (hIm h i).2.1 a = h.2.1 a ∧ (hIm h i).2.2.1 a = h.2.2.1 a := by
  have e1 : a ≠ h.2.2.2 + 1 := by omega
  have e2 : a ≤ (zNw h).2.2.2 := by rw [zNn]; omega
  have e3 : a < (zNw h).2.2.2 := by rw [zNn]; omega
  refine ⟨?_, ?_, ?_⟩
  · exact (iX1 e2).trans (zNi e1)
  · exact (lX1 e2).trans (zNl e1)
  · exact (zR_o _ _ _ h46).trans ((rX1 e3).trans (zNr e1))
theorem hIm_46 {i j : Nat} (hn : 46 ≤ h.2.2.2) : (hIm h i).2.2.1 46 j = if j = i then h.2.2.2 + 1 else h.2.2.1 46 j := by
  unfold hIm
  by_cases z : j = i
  · rw [z, if_pos rfl, zR_s]
  · rw [if_neg z, zR_k _ _ _ z, rX1 (by rw [zNn]; omega), zNr (by omega)]
theorem bk_use {n o k : Nat} {f : Nat → Nat → Nat} (hb : bkT n f = true) (ho : o < 31) (hk : k < 7) (hz : zir (n + o) k = true) : f (n + o) k = zR0 (n + o) k := by
  have t := List.all_eq_true.mp (List.all_eq_true.mp hb o (List.mem_range.mpr ho)) k (List.mem_range.mpr hk)
  rw [hz, Bool.not_true, Bool.false_or] at t
  exact Nat.eq_of_beq_eq_true t
theorem hIm_r {i : Nat} (hr : zRf h) (hN : h.2.2.2 = 142 ∨ h.2.2.2 = 173) : zRf (hIm h i) := by
  have en : (hIm h i).2.2.2 = h.2.2.2 + 31 := rfl
  refine ⟨by rw [en]; omega, fun o k h1 h2 => ?_⟩
  rw [en] at h2
  by_cases z : o ≤ h.2.2.2
  · by_cases y : o = 46
    · subst y
      refine ⟨fun q => (by cases q), fun q1 q2 => ?_⟩
      rw [hIm_46 (by omega), en]
      split
      · omega
      · have := (hr.2 46 k (by omega) z).2 q1 q2
        omega
    · rw [(hIm_o z y).2.2, en]
      refine ⟨(hr.2 o k h1 z).1, fun q1 q2 => ?_⟩
      have := (hr.2 o k h1 z).2 q1 q2
      omega
  · have hm : zmu o k = false := by
      have t : (List.range 62).all (fun j => Nat.beq (zk (143 + j)).1 1 || Nat.beq (zk (143 + j)).1 2 || Nat.beq (zk (143 + j)).1 5 || Nat.beq (zk (143 + j)).1 20 || Nat.beq (zk (143 + j)).1 30) = true := by decide +kernel
      have t2 := List.all_eq_true.mp t (o - 143) (List.mem_range.mpr (by omega))
      rw [show 143 + (o - 143) = o by omega] at t2
      simp only [Bool.or_eq_true, Nat.beq_eq] at t2
      unfold zmu
      rcases t2 with (((t2 | t2) | t2) | t2) | t2 <;> rw [t2] <;> rfl
    refine ⟨fun _ hz => ?_, fun q => (by rw [hm] at q; cases q)⟩
    have k60 := zir_60 hz hm
    have e1 : (hIm h i).2.2.1 o k = (hX1 (zNw h)).2.2.1 o k := by
      unfold hIm
      rw [zR_o _ _ _ (by omega)]
    rw [e1]
    have k7 : k < 7 := by
      rcases hN with hN | hN
      · have t := List.all_eq_true.mp zir_7 (o - 143) (List.mem_range.mpr (by omega))
        have t1 := List.all_eq_true.mp (Bool.and_eq_true_iff.mp t).1 k (List.mem_range.mpr k60)
        rw [show 143 + (o - 143) = o by omega, hz, Bool.not_true, Bool.false_or] at t1
        exact Nat.blt_eq.mp t1
      · have t := List.all_eq_true.mp zir_7 (o - 174) (List.mem_range.mpr (by omega))
        have t1 := List.all_eq_true.mp (Bool.and_eq_true_iff.mp t).2 k (List.mem_range.mpr k60)
        rw [show 174 + (o - 174) = o by omega, hz, Bool.not_true, Bool.false_or] at t1
        exact Nat.blt_eq.mp t1
    rcases h with ⟨ha, hb, hc, n⟩
    rcases hN with hN | hN
    · have hN' : n = 142 := hN
      subst hN'
      have z' : ¬ o ≤ 142 := z
      have h2' : o ≤ 142 + 31 := h2
      have := bk_use (bk142 ha hb hc) (o := o - 143) (k := k) (by omega) k7 (by rw [show 143 + (o - 143) = o by omega]; exact hz)
      rw [show 143 + (o - 143) = o by omega] at this
      exact this
    · have hN' : n = 173 := hN
      subst hN'
      have z' : ¬ o ≤ 173 := z
      have h2' : o ≤ 173 + 31 := h2
      have := bk_use (bk173 ha hb hc) (o := o - 174) (k := k) (by omega) k7 (by rw [show 174 + (o - 174) = o by omega]; exact hz)
      rw [show 174 + (o - 174) = o by omega] at this
      exact this
theorem o_imgN {i : Nat} (hr : zRf h) (hA : bAt B h 15) (hB : bOK B) (hi : i < 2) (h0 : h.2.2.1 46 i = 0) (hN : h.2.2.2 = 142 ∨ h.2.2.2 = 173) (hd : 4 ≤ d) (kk : ∀ h', zRf h' → zF (fun a => a ≤ h.2.2.2) (hIm h i) h' → bAt B h' (h.2.2.2 + 1) → Q (some (.inl (nI 0))) h') : Con mX10_image d 31 751 [.inr (.inr 1), .inl (nI i)] h Q := by
  have hc : (0 : Nat) ≤ 31 ∧ (0 : Nat) ≤ 751 := by decide
  have e0 : h.2.2.1 46 (nI i).toNatClampNeg = 0 := by rw [nI_clamp (by omega)]; exact h0
  have hv := hr.vh
  refine Con.intro (by decide) (Nat.le_of_ble_eq_true rfl) ?_
  refine bX10_image_0 hc (fun q => absurd q (nI_pos (by omega))) (fun _ => ?_)
  refine bX10_image_4 hc (fun _ => ?_) (fun q => absurd (nI_lt hi (by omega)) q)
  refine bX10_image_12 hr hc (vp_in_nI hi (by omega)) (fun q => absurd e0 q) (fun _ => ?_)
  refine bX10_image_21 hr hc ?_
  have hz : ∀ j, j < 31 → zk ((zNw h).2.2.2 + j) = zk (15 + j) := fun j hj => by
    have t : (List.range 31).all (fun j => decide (zk (143 + j) = zk (15 + j)) && decide (zk (174 + j) = zk (15 + j))) = true := by decide +kernel
    have t2 := Bool.and_eq_true_iff.mp (List.all_eq_true.mp t j (List.mem_range.mpr hj))
    rw [zNn]
    rcases hN with e | e
    · rw [e]; exact of_decide_eq_true t2.1
    · rw [e]; exact of_decide_eq_true t2.2
  have hz0 : (zk (h.2.2.2 + 1)).1 = 1 := congrArg Prod.fst (hz 0 (by omega))
  have L1 : zvl h.2.2.2 (.inr (.inr 1)) := Or.inl (by omega)
  have L46 : zvl h.2.2.2 (.inr (.inr 46)) := Or.inl (by omega)
  refine s_new (c := 1) dX10_image_26 (by decide) wK_10_30 wN_1 wZ_1 hz0 hv ⟨List.forall_mem_cons.mpr ⟨trivial, List.forall_mem_cons.mpr ⟨L46, fun _ q => absurd q List.not_mem_nil⟩⟩, zl_s L1 (zl_s trivial zl_0)⟩ (by decide) ?_
  refine s_dup (zat qX10_image 15 (by rfl)) rfl ?_
  have M1 : zvl (zNw h).2.2.2 (.inr (.inr 1)) := Or.inl (by rw [zNn]; omega)
  have M46 : zvl (zNw h).2.2.2 (.inr (.inr 46)) := Or.inl (by rw [zNn]; omega)
  have Mn : zvl (zNw h).2.2.2 (.inr (.inr (h.2.2.2 + 1))) := Or.inl (Nat.le_refl _)
  refine s_ctoI (N := mX1_init) (n := 0) (d' := d - 1) (mc' := 30) (ms' := 749) (as := []) (zat qX10_image 16 (by rfl)) ⟨⟨wL_10_32, wI_1, wC_1⟩, (by decide), Nat.le_of_ble_eq_true rfl⟩ wM_1 rfl rfl (by omega) rfl (Nat.le_of_ble_eq_true rfl) (by decide) (fun _ => ⟨List.forall_mem_cons.mpr ⟨Mn, List.forall_mem_cons.mpr ⟨trivial, List.forall_mem_cons.mpr ⟨M46, fun _ q => absurd q List.not_mem_nil⟩⟩⟩, zl_s M1 (zl_s trivial zl_0)⟩) (Nat.succ_pos _) (tX1 hz (Nat.succ_pos _) (zvh_N hv) (by omega) ?_)
  have en : (hX1 (zNw h)).2.2.2 = h.2.2.2 + 31 := rfl
  refine s_aast (kc := 31) (ci := 1) (a := 46) (v := h.2.2.2 + 1) (zat qX10_image 17 (by rfl)) (by decide) ⟨by omega, by rw [en]; omega, rfl⟩ (show vp_in (nI i) 2 from vp_in_nI hi (by omega)) ⟨by omega, by rw [en]; omega, hz0⟩ ?_
  rw [nI_clamp (by omega)]
  have hc2 : (0 + 1 + 30 : Nat) ≤ 31 ∧ (0 + zN 1 + 749 : Nat) ≤ 751 := by decide
  have r2 := hIm_r (i := i) hr hN
  show J mX10_image d 31 751 Q (0 + 1 + 30) (0 + zN 1 + 749) 34 _ [] (hIm h i)
  have e46 : (hIm h i).2.2.1 46 (nI i).toNatClampNeg = h.2.2.2 + 1 := by rw [nI_clamp (by omega), hIm_46 (by omega), if_pos rfl]
  have zb := bZ_of (N := (hIm h i).2.2.2) (b := h.2.2.2 + 1) (by rw [hIm_n]; omega) (by omega) (by rw [hIm_n]; omega)
  have hA2 : bAt B (hIm h i) 15 := hA.keep (fun k hk => (hIm_o (by omega) (by omega)).1)
  refine bX10_image_34 (d' := d - 1) r2 hc2 (vp_in_nI hi (by omega)) (by rw [e46]; exact (zb _ rfl).1) (by omega) ?_
  rw [e46]
  exact c_btakI r2 hB hA2 (by omega) zb (by omega) (fun h' r' f' a' => bX10_image_47 hc2 (kk h' r' (f'.weak (fun a q => by omega)) a'))
end IM
