/-! ===== ways in the class: mayTell ===== -/
theorem nx_or (a b : Nat) : nI a ||| nI b = nI (a ||| b) := by
  refine Int32.toBitVec_inj.mp ?_
  rw [Int32.toBitVec_or]
  show BitVec.ofNat 32 a ||| BitVec.ofNat 32 b = BitVec.ofNat 32 (a ||| b)
  exact BitVec.ofNat_or.symm
theorem wOr_one {x : Nat → Nat} {j : Nat} : ∀ {n : Nat}, (∀ c, c < n → c ≠ j → x c = 0) → wOr x n = if j < n then x j else 0
  | 0, _ => by rw [if_neg (by omega)]; rfl
  | n + 1, h => by
    show wOr x n ||| x n = _
    rw [wOr_one (fun c hc => h c (by omega))]
    by_cases z : j = n
    · rw [← z, if_neg (by omega), if_pos (by omega), Nat.zero_or]
    · rw [h n (by omega) (fun q => z q.symm), Nat.or_zero]
      by_cases y : j < n
      · rw [if_pos y, if_pos (by omega)]
      · rw [if_neg y, if_neg (by omega)]
theorem c_may {n : Nat} {out : Bool} {a : WN} {h : MH} {d more : Nat} {Q : Option MV → MH → Prop} (hr : zRf h) (hI : wI n a) (hw : wC n out a h) (hm : 0 < more) (hmb : more ≤ 400000) (k1 : Q (some (.inl (nI 1))) h) (k0 : (∀ k b, b ∈ wNd n out k a → b.2.2.2 b.1 ≠ a.2.2.2 a.1 + more) → Q (some (.inl (nI 0))) h) : Con mX9_mayTell d 0 0 [.inr (.inr 62), .inl (nI a.1), .inl (nI more)] h Q := by
  obtain ⟨w0, w1, w2⟩ := hw
  obtain ⟨wm, wx⟩ := w2 a.1 (Nat.le_refl _)
  have hn := hI.1
  have hl : a.1 ≤ 4 := by have := hI.2.1; omega
  refine u_X9_mayTell ?_
  have L : ∀ m c, c + m = n → J mX9_mayTell d 0 0 Q 0 0 8 [some (.inr (.inr 62)), some (.inl (nI a.1)), some (.inl (nI more)), some (.inl (nI (wSt c (a.2.1 a.1)))), some (.inl (nI (wOr (a.2.1 a.1) c))), some (.inl (nI c))] [] h := by
    intro m
    induction m with
    | zero =>
      intro c hc
      obtain rfl : c = n := by omega
      have bO : wOr (a.2.1 a.1) c < 2 ^ 20 := wOr_lt (fun k hk => by have := wI_x hI hk; omega)
      have bs : wSt c (a.2.1 a.1) ≤ c := fb_ct_le _ _
      refine u_X9_mayTell_8 hr ?_
      by_cases one : wSt c (a.2.1 a.1) = 1
      · obtain ⟨j, hj, hj0⟩ := fb_ct_pos.mp (show 0 < fb_ct (fun i => decide (0 < a.2.1 a.1 i)) c by rw [show fb_ct (fun i => decide (0 < a.2.1 a.1 i)) c = 1 from one]; decide)
        have ho : ∀ i, i < c → i ≠ j → a.2.1 a.1 i = 0 := fun i hi hij => Classical.byContradiction fun z => by
          have h1 := fb_ct_upd (fun i => decide (0 < a.2.1 a.1 i)) false hj
          rw [hj0, if_pos rfl, if_neg (by decide)] at h1
          have h2 : 0 < fb_ct (fun k => if k = j then false else decide (0 < a.2.1 a.1 k)) c := fb_ct_pos.mpr ⟨i, hi, by rw [if_neg hij]; exact decide_eq_true (by omega)⟩
          have h3 : fb_ct (fun i => decide (0 < a.2.1 a.1 i)) c = 1 := one
          omega
        have eO := wOr_one ho
        rw [if_pos hj] at eO
        have bx := wI_x hI hj
        rw [one, eO]
        have e2 : nI more * nI 2 = nI (more * 2) := pk_mul _ _
        by_cases q1 : more = a.2.1 a.1 j
        · simp (disch := omega) only [xle_t, xle_f, xlt_t, xlt_f, xeq_t, xeq_f, xle0_t, xle0_f, xlt0_f, x0lt_t, x0lt_f, x0le_t, xeq0_t, xeq0_f, xin, xem_f, xme_f, xlem_f, xlm_f, xml_t, xmle_t, nI_clamp, nI_add, pk_mul, pk_sub, zI_s, zI_k, zI_o, zL_s, zL_k, zL_o, zR_s, zR_k, zR_o, zIL, zIR, zIN, zLI, zLR, zLN, zRI, zRL, zRN, true_and, and_true, not_true_eq_false, not_false_eq_true, true_implies, false_implies, implies_true, forall_const, if_true, if_false, eq_self, false_and, and_false, implies_true, nI_l, ylle_t, ylle_f, xcl_t, xcl_f, w0]
          exact k1
        · by_cases q2 : more * 2 = a.2.1 a.1 j
          · simp (disch := omega) only [xle_t, xle_f, xlt_t, xlt_f, xeq_t, xeq_f, xle0_t, xle0_f, xlt0_f, x0lt_t, x0lt_f, x0le_t, xeq0_t, xeq0_f, xin, xem_f, xme_f, xlem_f, xlm_f, xml_t, xmle_t, nI_clamp, nI_add, pk_mul, pk_sub, zI_s, zI_k, zI_o, zL_s, zL_k, zL_o, zR_s, zR_k, zR_o, zIL, zIR, zIN, zLI, zLR, zLN, zRI, zRL, zRN, true_and, and_true, not_true_eq_false, not_false_eq_true, true_implies, false_implies, implies_true, forall_const, if_true, if_false, eq_self, false_and, and_false, implies_true, nI_l, ylle_t, ylle_f, xcl_t, xcl_f, w0]
            exact k1
          · simp (disch := omega) only [xle_t, xle_f, xlt_t, xlt_f, xeq_t, xeq_f, xle0_t, xle0_f, xlt0_f, x0lt_t, x0lt_f, x0le_t, xeq0_t, xeq0_f, xin, xem_f, xme_f, xlem_f, xlm_f, xml_t, xmle_t, nI_clamp, nI_add, pk_mul, pk_sub, zI_s, zI_k, zI_o, zL_s, zL_k, zL_o, zR_s, zR_k, zR_o, zIL, zIR, zIN, zLI, zLR, zLN, zRI, zRL, zRN, true_and, and_true, not_true_eq_false, not_false_eq_true, true_implies, false_implies, implies_true, forall_const, if_true, if_false, eq_self, false_and, and_false, implies_true, nI_l, ylle_t, ylle_f, xcl_t, xcl_f, w0]
            refine k0 (fun k b hb e => ?_)
            rcases wNd_one hI hj ho hb with q | q
            · omega
            · omega
      · have nt : (¬ nI (wSt c (a.2.1 a.1)) = nI 1) := fun q => one ((nI_eq (by omega) (by omega)).mp q)
        refine ⟨fun _ => ⟨fun q => absurd q nt, fun _ => ⟨fun _ => k1, fun q => k0 (fun k b hb e => q ?_)⟩⟩, fun q => absurd (by rw [w0]; exact nI_le (Nat.le_refl _) (by omega)) q⟩
        rcases Nat.eq_zero_or_pos (wOr (a.2.1 a.1) c) with z | z
        · have hz : ∀ i, i < c → a.2.1 a.1 i = 0 := fun i hi => by
            refine Nat.eq_of_testBit_eq (fun y => ?_)
            rw [Nat.zero_testBit]
            refine Bool.eq_false_iff.mpr (fun t => ?_)
            have := (wOr_bit (a.2.1 a.1) y c).mpr ⟨i, hi, t⟩
            rw [z, Nat.zero_testBit] at this
            cases this
          rw [wNd_nil hz k] at hb
          cases hb
        · obtain ⟨t, r, e1⟩ := odd_part _ z
          have tx : ∀ i, i < c → 2 ^ t ∣ a.2.1 a.1 i := wOr_dv.mp ⟨_, e1⟩
          have t8 : 8 - a.1 ≤ t := Classical.byContradiction fun y => by
            have d1 : 2 ^ (8 - a.1) ∣ wOr (a.2.1 a.1) c := wOr_dv.mpr (fun i hi => (hI.2.2.1 i hi).1)
            have d2 : 2 ^ (t + 1) ∣ wOr (a.2.1 a.1) c := Nat.dvd_trans (Nat.pow_dvd_pow 2 (by omega)) d1
            rw [e1, Nat.pow_succ] at d2
            have d3 := Nat.dvd_of_mul_dvd_mul_left (Nat.two_pow_pos t) d2
            omega
          have st4 := hI.2.1
          have t20 : t < 20 := Classical.byContradiction fun y => by
            have p1 : 2 ^ 20 ≤ 2 ^ t := Nat.pow_le_pow_right (by decide) (by omega)
            have p2 : 2 ^ t ≤ 2 ^ t * (2 * r + 1) := Nat.le_mul_of_pos_right _ (by omega)
            omega
          rw [low_I e1 (by omega)]
          have p31 : 2 ^ t < 2 ^ 31 := Nat.pow_lt_pow_right (by decide) (by omega)
          rw [pk_shrN p31 _ (wSt c (a.2.1 a.1)) (s_l _ (by omega)), Nat.pow_div (by omega) (by decide), pk_sub (Nat.two_pow_pos _), nx_and, Nat.and_two_pow_sub_one_eq_mod]
          obtain ⟨q', hq'⟩ := wNd_dv hI tx (by omega) hb
          have : more = 2 ^ (t - wSt c (a.2.1 a.1)) * q' := by omega
          rw [this, Nat.mul_mod_right]
          rfl
    | succ m ih =>
      intro c hc
      have hc' : c < n := by omega
      have ex := (wx c hc').1
      have bx := wI_x hI hc'
      have nx := ih (c + 1) (by omega)
      have s1 : wSt (c + 1) (a.2.1 a.1) = wSt c (a.2.1 a.1) + (if decide (0 < a.2.1 a.1 c) = true then 1 else 0) := rfl
      have s2 : wOr (a.2.1 a.1) (c + 1) = wOr (a.2.1 a.1) c ||| a.2.1 a.1 c := rfl
      rw [s1, s2] at nx
      refine u_X9_mayTell_8 hr ?_
      rcases Nat.eq_zero_or_pos (a.2.1 a.1 c) with x0 | x0
      · rw [decide_eq_false (by omega), if_neg (by decide), x0, Nat.or_zero, Nat.add_zero] at nx
        rw [x0] at ex
        simp (disch := omega) only [xle_t, xle_f, xlt_t, xlt_f, xeq_t, xeq_f, xle0_t, xle0_f, xlt0_f, x0lt_t, x0lt_f, x0le_t, xeq0_t, xeq0_f, xin, xem_f, xme_f, xlem_f, xlm_f, xml_t, xmle_t, nI_clamp, nI_add, pk_mul, pk_sub, zI_s, zI_k, zI_o, zL_s, zL_k, zL_o, zR_s, zR_k, zR_o, zIL, zIR, zIN, zLI, zLR, zLN, zRI, zRL, zRN, true_and, and_true, not_true_eq_false, not_false_eq_true, true_implies, false_implies, implies_true, forall_const, if_true, if_false, eq_self, false_and, and_false, implies_true, nI_l, ylle_t, ylle_f, xcl_t, xcl_f, w0, ex, zok66 hr]
        exact nx
      · rw [decide_eq_true x0, if_pos rfl] at nx
        simp (disch := omega) only [xle_t, xle_f, xlt_t, xlt_f, xeq_t, xeq_f, xle0_t, xle0_f, xlt0_f, x0lt_t, x0lt_f, x0le_t, xeq0_t, xeq0_f, xin, xem_f, xme_f, xlem_f, xlm_f, xml_t, xmle_t, nI_clamp, nI_add, pk_mul, pk_sub, zI_s, zI_k, zI_o, zL_s, zL_k, zL_o, zR_s, zR_k, zR_o, zIL, zIR, zIN, zLI, zLR, zLN, zRI, zRL, zRN, true_and, and_true, not_true_eq_false, not_false_eq_true, true_implies, false_implies, implies_true, forall_const, if_true, if_false, eq_self, false_and, and_false, implies_true, nI_l, ylle_t, ylle_f, xcl_t, xcl_f, w0, ex, zok66 hr, nx_or]
        exact nx
  exact L n 0 (by omega)
