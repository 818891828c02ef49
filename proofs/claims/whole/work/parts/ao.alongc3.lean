/-! ===== along, in the class: follow, go, all ===== -/
def aF (lv : Nat) (h h' : MH) : Prop := zF (fun a => (a ≤ 84 + lv ∨ 96 < a) ∧ a ≠ 102) h h'
theorem aAt.keep {X : AX} {lv : Nat} {h h' : MH} (hX : aOK X) (q : aAt X h) (f : aF lv h h') : aAt X h' := by
  have n2 := hX.1
  refine ⟨by rw [f.i ⟨by omega, by omega⟩]; exact q.1, fun i hi => ?_⟩
  obtain ⟨q1, q2, q3⟩ := q.2 i hi
  refine ⟨by rw [f.i ⟨by omega, by omega⟩]; exact q1, by rw [f.i ⟨by omega, by omega⟩]; exact q2, fun j hj => ?_⟩
  rw [f.i ⟨by omega, by omega⟩]
  exact q3 j hj
theorem aRw.keep {lv : Nat} {G : Nat → Nat} {h h' : MH} (hl : lv < 13) (q : aRw lv G h) (f : aF lv h h') : aRw lv G h' := fun p hp => by
  rw [f.i ⟨by omega, by omega⟩]
  exact q p hp
def aAny (l : List Nat) (i : Nat) : Bool := l.any (fun t => decide (t / 16 = i))
section AC
variable {X : AX}
theorem c_afo {m lv lit w now d : Nat} {G : Nat → Nat} {S0 : Nat → Bool} {h : MH} {Q : Option MV → MH → Prop} (hX : aOK X) (hlv : lv + (m + 1) = 12) (hI : aI X G lit now) (hw : w < 16) (hr : zRf h) (hA : aAt X h) (h77 : h.2.2.1 77 1 = 101) (hR : aRw lv G h) (hK : wKw S0 (h.2.1 102)) (hd : 3 ≤ d)
    (hgo : ∀ (G' : Nat → Nat) (lit' now' : Nat) (S' : Nat → Bool) (h' : MH) (Q' : Option MV → MH → Prop), aI X G' lit' now' → zRf h' → aAt X h' → h'.2.2.1 77 1 = 101 → aRw (lv + 1) G' h' → wKw S' (h'.2.1 102) → (∀ h'', zRf h'' → aF (lv + 1) h' h'' → wKw (fun i => S' i || aAny (aT X m G' lit' now') i) (h''.2.1 102) → Q' none h'') → Con mX0_go (d - 1) 0 0 [.inr (.inr 77), .inl (nI (lv + 1)), .inl (nI now'), .inl (nI lit')] h' Q')
    (kk : ∀ h', zRf h' → aF lv h h' → wKw (fun i => S0 i || aAny (aCh X (aT X m) G (lit ||| w) now) i) (h'.2.1 102) → Q none h') :
    Con mX0_follow d 0 0 [.inr (.inr 77), .inl (nI lv), .inl (nI now), .inl (nI (lit ||| w))] h Q := by
  obtain ⟨d64, n9, hG⟩ := aI_now hX hI
  have l16 := or16 hI.1 hw
  refine u_X0_follow (d1' := d - 1) hr (by omega) ?_
  refine c_pls hX hr hA (by omega) hR hG ?_
  refine u_X0_follow_5 (d1' := d - 1) hr (by omega) ?_
  rw [aM_bu' X G l16]
  have e0 := aE_lt (X := X) (G := G) (l := lit ||| w) (i := 0)
  have e1 := aE_lt (X := X) (G := G) (l := lit ||| w) (i := 1)
  cases hs : aS2 X G (lit ||| w) 2 with
  | none =>
    have z := aS2_n.mp hs
    rw [aCh_n hs] at kk
    have z0 := z 0 (by omega)
    have z1 := z 1 (by omega)
    simp (disch := omega) only [xle_t, xle_f, xlt_t, xlt_f, xeq_t, xeq_f, xle0_t, xle0_f, xlt0_f, x0lt_t, x0lt_f, x0le_t, xeq0_t, xeq0_f, xin, xem_f, xme_f, xlem_f, xlm_f, xml_t, xmle_t, nI_clamp, nI_add, pk_mul, pk_sub, zI_s, zI_k, zI_o, zL_s, zL_k, zL_o, zR_s, zR_k, zR_o, zIL, zIR, zIN, zLI, zLR, zLN, zRI, zRL, zRN, true_and, and_true, not_true_eq_false, not_false_eq_true, true_implies, false_implies, implies_true, forall_const, if_true, if_false, eq_self, false_and, and_false, implies_true, nI_l, ylle_t, ylle_f, xcl_t, xcl_f, z0, z1]
    refine kk h hr zF.rfl (fun i hi => ?_)
    rw [hK i hi]
    exact (Bool.or_false _).symm
  | some st =>
    rw [aCh_s hs] at kk
    obtain ⟨hI', _⟩ := aI_ch hX hI hw hs
    obtain ⟨_, n9', hG'⟩ := aI_now hX hI'
    have sb := aS2_b hX hs
    have nz : aE X G (lit ||| w) 0 + 4 * aE X G (lit ||| w) 1 ≠ 0 := fun q => by
      have : aS2 X G (lit ||| w) 2 = none := aS2_n.mpr (fun i hi => by rcases (show i = 0 ∨ i = 1 by omega) with rfl | rfl <;> omega)
      rw [this] at hs
      cases hs
    simp (disch := omega) only [xle_t, xle_f, xlt_t, xlt_f, xeq_t, xeq_f, xle0_t, xle0_f, xlt0_f, x0lt_t, x0lt_f, x0le_t, xeq0_t, xeq0_f, xin, xem_f, xme_f, xlem_f, xlm_f, xml_t, xmle_t, nI_clamp, nI_add, pk_mul, pk_sub, zI_s, zI_k, zI_o, zL_s, zL_k, zL_o, zR_s, zR_k, zR_o, zIL, zIR, zIN, zLI, zLR, zLN, zRI, zRL, zRN, true_and, and_true, not_true_eq_false, not_false_eq_true, true_implies, false_implies, implies_true, forall_const, if_true, if_false, eq_self, false_and, and_false, implies_true, nI_l, ylle_t, ylle_f, xcl_t, xcl_f]
    refine c_unx hX hI hw rfl hr hA (by omega) hR hG (by omega) ?_
    rw [hs]
    refine u_X0_follow_22 ?_
    show J mX0_follow d 0 0 Q 0 0 27 [some (.inr (.inr 77)), some (.inl (nI lv)), some (.inl (nI now)), some (.inl (nI (lit ||| w))), some (.inl (nI (aE X G (lit ||| w) 0 + 4 * aE X G (lit ||| w) 1))), some (.inl (nI st)), some (.inl (nI 0))] [] h
    have L : ∀ k q, q + k = 4 → ∀ h', zRf h' → aF lv h h' → h'.2.2.1 77 = h.2.2.1 77 → h'.2.1 102 = h.2.1 102 → (∀ j, j < q → h'.1 (84 + (lv + 1)) j = nI (aG X G (lit ||| w) st j)) → J mX0_follow d 0 0 Q 0 0 27 [some (.inr (.inr 77)), some (.inl (nI lv)), some (.inl (nI now)), some (.inl (nI (lit ||| w))), some (.inl (nI (aE X G (lit ||| w) 0 + 4 * aE X G (lit ||| w) 1))), some (.inl (nI st)), some (.inl (nI q))] [] h' := by
      intro k
      induction k with
      | zero =>
        intro q hq h' r' f' e77 e102 g'
        have z3 : zokO h' 101 3 := zo r' (by decide) rfl
        have em : h'.2.2.1 77 1 = 101 := by rw [e77]; exact h77
        refine u_X0_follow_27 (d1' := d - 1) (d2' := d - 1) (d3' := d - 1) r' (by omega) (by omega) (by omega) (by omega) ?_
        rw [em]
        simp (disch := omega) only [xle_t, xle_f, xlt_t, xlt_f, xeq_t, xeq_f, xle0_t, xle0_f, xlt0_f, x0lt_t, x0lt_f, x0le_t, xeq0_t, xeq0_f, xin, xem_f, xme_f, xlem_f, xlm_f, xml_t, xmle_t, nI_clamp, nI_add, pk_mul, pk_sub, zI_s, zI_k, zI_o, zL_s, zL_k, zL_o, zR_s, zR_k, zR_o, zIL, zIR, zIN, zLI, zLR, zLN, zRI, zRL, zRN, true_and, and_true, not_true_eq_false, not_false_eq_true, true_implies, false_implies, implies_true, forall_const, if_true, if_false, eq_self, false_and, and_false, implies_true, nI_l, ylle_t, ylle_f, xcl_t, xcl_f, pk_div, nI_shr6, lN_shl]
        refine ⟨z3, ?_⟩
        have K1 : wKw S0 (h'.2.1 102) := by rw [e102]; exact hK
        have K2 := wKw_add K1 (show (now + st) / 16 < 23104 by omega)
        refine hgo _ _ _ _ _ _ hI' r' ?_ em ?_ K2 (fun h2 r2 f2 K3 => ?_)
        · exact hA.keep hX (f'.trans (zF_L _ _ _ (by omega)))
        · intro j hj
          exact g' j (by omega)
        · refine u_X0_follow_99 (kk h2 r2 ?_ (fun i hi => ?_))
          · exact (f'.trans (zF_L _ _ _ (by omega))).trans (zF.weak f2 (fun a q => by omega))
          · rw [K3 i hi]
            show ((S0 i || decide (i = (now + st) / 16)) || _) = (S0 i || (decide ((now + st) / 16 = i) || _))
            rw [Bool.or_assoc]
            congr 2
            exact decide_eq_decide.mpr ⟨fun q => q.symm, fun q => q.symm⟩
      | succ k ih =>
        intro q hq h' r' f' e77 e102 g'
        have mq := aM_q _ e0 _ e1 q (by omega)
        rw [show (if q / 2 = 0 then aE X G (lit ||| w) 0 else aE X G (lit ||| w) 1) = aE X G (lit ||| w) (q / 2) by
          rcases (show q / 2 = 0 ∨ q / 2 = 1 by omega) with z | z
          · rw [if_pos z, z]
          · rw [if_neg (by omega), z]] at mq
        have eg : h'.1 (84 + lv) q = nI (G q) := by rw [f'.i ⟨by omega, by omega⟩]; exact hR q (by omega)
        have gq := hG q
        have nx : ∀ v, v = nI (aG X G (lit ||| w) st q) → J mX0_follow d 0 0 Q 0 0 27 [some (.inr (.inr 77)), some (.inl (nI lv)), some (.inl (nI now)), some (.inl (nI (lit ||| w))), some (.inl (nI (aE X G (lit ||| w) 0 + 4 * aE X G (lit ||| w) 1))), some (.inl (nI st)), some (.inl (nI (q + 1)))] [] (zsI h' (84 + (lv + 1)) q v) := fun v hv => by
          refine ih (q + 1) (by omega) _ r' (zF.trans f' (zF_I _ _ _ (by omega))) e77 e102 (fun j hj => ?_)
          by_cases y : j = q
          · rw [y, zI_s, hv]
          · rw [zI_k _ _ _ y]; exact g' j (by omega)
        refine u_X0_follow_27 (d1' := d - 1) (d2' := d - 1) (d3' := d - 1) r' (by omega) (by omega) (by omega) (by omega) ?_
        have m2 : aE X G (lit ||| w) (q / 2) / 2 ^ (q % 2) % 2 = 0 ∨ aE X G (lit ||| w) (q / 2) / 2 ^ (q % 2) % 2 = 1 := by omega
        rcases m2 with m2 | m2
        · rw [m2] at mq
          simp (disch := omega) only [xle_t, xle_f, xlt_t, xlt_f, xeq_t, xeq_f, xle0_t, xle0_f, xlt0_f, x0lt_t, x0lt_f, x0le_t, xeq0_t, xeq0_f, xin, xem_f, xme_f, xlem_f, xlm_f, xml_t, xmle_t, nI_clamp, nI_add, pk_mul, pk_sub, zI_s, zI_k, zI_o, zL_s, zL_k, zL_o, zR_s, zR_k, zR_o, zIL, zIR, zIN, zLI, zLR, zLN, zRI, zRL, zRN, true_and, and_true, not_true_eq_false, not_false_eq_true, true_implies, false_implies, implies_true, forall_const, if_true, if_false, eq_self, false_and, and_false, implies_true, nI_l, ylle_t, ylle_f, xcl_t, xcl_f, mq, eg, zok84 r']
          exact nx _ (by unfold aG; rw [if_neg (by omega)])
        · rw [m2] at mq
          simp (disch := omega) only [xle_t, xle_f, xlt_t, xlt_f, xeq_t, xeq_f, xle0_t, xle0_f, xlt0_f, x0lt_t, x0lt_f, x0le_t, xeq0_t, xeq0_f, xin, xem_f, xme_f, xlem_f, xlm_f, xml_t, xmle_t, nI_clamp, nI_add, pk_mul, pk_sub, zI_s, zI_k, zI_o, zL_s, zL_k, zL_o, zR_s, zR_k, zR_o, zIL, zIR, zIN, zLI, zLR, zLN, zRI, zRL, zRN, true_and, and_true, not_true_eq_false, not_false_eq_true, true_implies, false_implies, implies_true, forall_const, if_true, if_false, eq_self, false_and, and_false, implies_true, nI_l, ylle_t, ylle_f, xcl_t, xcl_f, mq, eg, zok84 r']
          exact nx _ (by unfold aG; rw [if_pos m2])
    exact L 4 0 (by omega) h hr zF.rfl rfl rfl (fun j hj => by omega)
theorem c_ago (hX : aOK X) : ∀ (m lv : Nat) (G : Nat → Nat) (lit now : Nat) (S0 : Nat → Bool) (h : MH) (d : Nat) (Q : Option MV → MH → Prop), lv + m = 12 → aI X G lit now → zRf h → aAt X h → h.2.2.1 77 1 = 101 → aRw lv G h → wKw S0 (h.2.1 102) → 2 * m + 4 ≤ d → (∀ h', zRf h' → aF lv h h' → wKw (fun i => S0 i || aAny (aT X m G lit now) i) (h'.2.1 102) → Q none h') → Con mX0_go d 0 0 [.inr (.inr 77), .inl (nI lv), .inl (nI now), .inl (nI lit)] h Q := by
  intro m
  induction m with
  | zero =>
    intro lv G lit now S0 h d Q hlv hI hr hA h77 hR hK hd kk
    refine u_X0_go (d1' := d - 1) hr (by omega) ?_
    simp (disch := omega) only [xle_t, xle_f, xlt_t, xlt_f, xeq_t, xeq_f, xle0_t, xle0_f, xlt0_f, x0lt_t, x0lt_f, x0le_t, xeq0_t, xeq0_f, xin, xem_f, xme_f, xlem_f, xlm_f, xml_t, xmle_t, nI_clamp, nI_add, pk_mul, pk_sub, zI_s, zI_k, zI_o, zL_s, zL_k, zL_o, zR_s, zR_k, zR_o, zIL, zIR, zIN, zLI, zLR, zLN, zRI, zRL, zRN, true_and, and_true, not_true_eq_false, not_false_eq_true, true_implies, false_implies, implies_true, forall_const, if_true, if_false, eq_self, false_and, and_false, implies_true, nI_l, ylle_t, ylle_f, xcl_t, xcl_f]
    refine kk h hr zF.rfl (fun i hi => ?_)
    rw [hK i hi]
    exact (Bool.or_false _).symm
  | succ m ihm =>
    intro lv G lit now S0 h d Q hlv hI hr hA h77 hR hK hd kk
    obtain ⟨d64, n9, hG⟩ := aI_now hX hI
    have l16 := hI.1
    refine u_X0_go (d1' := d - 1) hr (by omega) ?_
    simp (disch := omega) only [xle_t, xle_f, xlt_t, xlt_f, xeq_t, xeq_f, xle0_t, xle0_f, xlt0_f, x0lt_t, x0lt_f, x0le_t, xeq0_t, xeq0_f, xin, xem_f, xme_f, xlem_f, xlm_f, xml_t, xmle_t, nI_clamp, nI_add, pk_mul, pk_sub, zI_s, zI_k, zI_o, zL_s, zL_k, zL_o, zR_s, zR_k, zR_o, zIL, zIR, zIN, zLI, zLR, zLN, zRI, zRL, zRN, true_and, and_true, not_true_eq_false, not_false_eq_true, true_implies, false_implies, implies_true, forall_const, if_true, if_false, eq_self, false_and, and_false, implies_true, nI_l, ylle_t, ylle_f, xcl_t, xcl_f]
    refine c_pls hX hr hA (by omega) hR hG ?_
    refine u_X0_go_12 ?_
    have L : ∀ k w, w + k = 16 → ∀ (S : Nat → Bool) h', zRf h' → aF lv h h' → h'.2.2.1 77 = h.2.2.1 77 → wKw S (h'.2.1 102) → (∀ i, (S i || aAny ((List.range' w k).flatMap (aBr X (aT X m) G lit now)) i) = (S0 i || aAny (aT X (m + 1) G lit now) i)) → J mX0_go d 0 0 Q 0 0 21 [some (.inr (.inr 77)), some (.inl (nI lv)), some (.inl (nI now)), some (.inl (nI lit)), some (.inl (nI (aP X G) &&& (nI lit ^^^ (-(nI 1))))), some (.inl (nI w))] [] h' := by
      intro k
      induction k with
      | zero =>
        intro w hw S h' r' f' e77 K' ef
        refine u_X0_go_21 (d1' := d - 1) r' (by omega) ?_
        simp (disch := omega) only [xle_t, xle_f, xlt_t, xlt_f, xeq_t, xeq_f, xle0_t, xle0_f, xlt0_f, x0lt_t, x0lt_f, x0le_t, xeq0_t, xeq0_f, xin, xem_f, xme_f, xlem_f, xlm_f, xml_t, xmle_t, nI_clamp, nI_add, pk_mul, pk_sub, zI_s, zI_k, zI_o, zL_s, zL_k, zL_o, zR_s, zR_k, zR_o, zIL, zIR, zIN, zLI, zLR, zLN, zRI, zRL, zRN, true_and, and_true, not_true_eq_false, not_false_eq_true, true_implies, false_implies, implies_true, forall_const, if_true, if_false, eq_self, false_and, and_false, implies_true, nI_l, ylle_t, ylle_f, xcl_t, xcl_f]
        refine kk h' r' f' (fun i hi => ?_)
        rw [K' i hi]
        show S i = (S0 i || aAny (aT X (m + 1) G lit now) i)
        rw [← ef i]
        exact (Bool.or_false _).symm
      | succ k ih =>
        intro w hw S h' r' f' e77 K' ef
        have ok := aM_ok' X G l16 (show w < 16 by omega)
        have sp : ∀ i, aAny ((List.range' w (k + 1)).flatMap (aBr X (aT X m) G lit now)) i = (aAny (aBr X (aT X m) G lit now w) i || aAny ((List.range' (w + 1) k).flatMap (aBr X (aT X m) G lit now)) i) := fun i => by
          rw [List.range'_succ, List.flatMap_cons]
          exact List.any_append
        refine u_X0_go_21 (d1' := d - 1) r' (by omega) ?_
        by_cases z : aOk X G lit w = true
        · rw [eq_true z] at ok
          simp (disch := omega) only [xle_t, xle_f, xlt_t, xlt_f, xeq_t, xeq_f, xle0_t, xle0_f, xlt0_f, x0lt_t, x0lt_f, x0le_t, xeq0_t, xeq0_f, xin, xem_f, xme_f, xlem_f, xlm_f, xml_t, xmle_t, nI_clamp, nI_add, pk_mul, pk_sub, zI_s, zI_k, zI_o, zL_s, zL_k, zL_o, zR_s, zR_k, zR_o, zIL, zIR, zIN, zLI, zLR, zLN, zRI, zRL, zRN, true_and, and_true, not_true_eq_false, not_false_eq_true, true_implies, false_implies, implies_true, forall_const, if_true, if_false, eq_self, false_and, and_false, implies_true, nI_l, ylle_t, ylle_f, xcl_t, xcl_f, ok, nx_or]
          refine c_afo hX hlv hI (by omega) r' (hA.keep hX f') (by rw [e77]; exact h77) (hR.keep (by omega) f') K' (by omega) ?_ (fun h2 r2 f2 K2 => ?_)
          · intro G' lit' now' S' h2 Q' i2 r2 a2 e2 R2 K2 kq
            exact ihm (lv + 1) G' lit' now' S' h2 (d - 1 - 1) Q' (by omega) i2 r2 a2 e2 R2 K2 (by omega) kq
          · refine u_X0_go_48 ?_
            simp (disch := omega) only [xle_t, xle_f, xlt_t, xlt_f, xeq_t, xeq_f, xle0_t, xle0_f, xlt0_f, x0lt_t, x0lt_f, x0le_t, xeq0_t, xeq0_f, xin, xem_f, xme_f, xlem_f, xlm_f, xml_t, xmle_t, nI_clamp, nI_add, pk_mul, pk_sub, zI_s, zI_k, zI_o, zL_s, zL_k, zL_o, zR_s, zR_k, zR_o, zIL, zIR, zIN, zLI, zLR, zLN, zRI, zRL, zRN, true_and, and_true, not_true_eq_false, not_false_eq_true, true_implies, false_implies, implies_true, forall_const, if_true, if_false, eq_self, false_and, and_false, implies_true, nI_l, ylle_t, ylle_f, xcl_t, xcl_f]
            refine ih (w + 1) (by omega) _ h2 r2 (zF.trans f' f2) ?_ K2 (fun i => ?_)
            · rw [f2.r ⟨by omega, by omega⟩]
              exact e77
            · rw [← ef i, sp i, ← Bool.or_assoc, aBr_y z]
        · rw [eq_false z] at ok
          simp (disch := omega) only [xle_t, xle_f, xlt_t, xlt_f, xeq_t, xeq_f, xle0_t, xle0_f, xlt0_f, x0lt_t, x0lt_f, x0le_t, xeq0_t, xeq0_f, xin, xem_f, xme_f, xlem_f, xlm_f, xml_t, xmle_t, nI_clamp, nI_add, pk_mul, pk_sub, zI_s, zI_k, zI_o, zL_s, zL_k, zL_o, zR_s, zR_k, zR_o, zIL, zIR, zIN, zLI, zLR, zLN, zRI, zRL, zRN, true_and, and_true, not_true_eq_false, not_false_eq_true, true_implies, false_implies, implies_true, forall_const, if_true, if_false, eq_self, false_and, and_false, implies_true, nI_l, ylle_t, ylle_f, xcl_t, xcl_f, ok]
          refine ih (w + 1) (by omega) S h' r' f' e77 K' (fun i => ?_)
          rw [← ef i, sp i]
          have : aAny (aBr X (aT X m) G lit now w) i = false := by
            rw [aBr_n z]
            rfl
          rw [this, Bool.false_or]
    exact L 16 0 (by omega) S0 h hr zF.rfl rfl hK (fun i => rfl)
end AC
