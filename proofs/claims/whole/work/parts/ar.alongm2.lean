/-! ===== along, in the reference: all ways ===== -/
def mAny (l : List Nat) (t : Nat) : Bool := l.any (fun x => decide (x = t))
theorem aO_d {X : AX} {G : Nat → Nat} {lit w i : Nat} (h : ¬ aLv X G i = true) : aO1 X G lit w i = decide (aQ w i = 0) := if_neg h
theorem aO_l {X : AX} {G : Nat → Nat} {lit w i : Nat} (h : aLv X G i = true) : aO1 X G lit w i = decide (aQ w i &&& aQ lit i = 0) := if_pos h
def aOn (X : AX) (G : Nat → Nat) (lit w : Nat) : Nat → Bool
  | 0 => true
  | k + 1 => aOn X G lit w k && aO1 X G lit w k
section AM
variable {C : CE} {S : Nat}
theorem m_gl {k lit now d : Nat} {G : Nat → Nat} {S0 : Nat → Bool} {h : MH} {Q : Option MV → MH → Prop} {nx : (Nat → Nat) → Nat → Nat → List Nat} (hC : cOK C) (hS : S < 2 ^ C.1) (hN2 : wN S 8 ≤ 2) (hk : k ≤ 12) (hI : aI (aX C S 8) G lit now) (hr : zRf h) (hL : mLy C S h) (hR : mRw (aX C S 8) k G lit h) (hK : mTb S0 (h.1 132)) (hd : 4 ≤ d)
    (hgo : ∀ w st, w < 16 → aS2 (aX C S 8) G (lit ||| w) 2 = some st → ∀ (S' : Nat → Bool) (h' : MH) (Q' : Option MV → MH → Prop), zRf h' → mLy C S h' → mRw (aX C S 8) (k + 1) (aG (aX C S 8) G (lit ||| w) st) (lit ||| w) h' → mTb S' (h'.1 132) → (∀ h'', zRf h'' → mFl (k + 1) h' h'' → mTb (fun t => S' t || mAny (nx (aG (aX C S 8) G (lit ||| w) st) (lit ||| w) (now + st)) t) (h''.1 132) → Q' none h'') → Con mX11_goesAlong (d - 1) 0 0 [.inr (.inr 111), .inl (nI (k + 1)), .inl (nI (now + st))] h' Q')
    (kk : ∀ h', zRf h' → mFl k h h' → mTb (fun t => S0 t || mAny ((List.range' 0 16).flatMap (aBr (aX C S 8) nx G lit now)) t) (h'.1 132) → Q none h') :
    Con mX11_goesAlong d 0 0 [.inr (.inr 111), .inl (nI k), .inl (nI now)] h Q := by
  have hX := aX_ok hC hS hN2
  have n2 := hX.1
  have eX : (aX C S 8).1 = wN S 8 := rfl
  obtain ⟨_, n9, hG⟩ := aI_now hX hI
  have l16 := hI.1
  refine u_X11_goesAlong ?_
  have LW : ∀ m w, w + m = 16 → ∀ (S1 : Nat → Bool) h', zRf h' → mFl k h h' → mTb S1 (h'.1 132) → (∀ t, (S1 t || mAny ((List.range' w m).flatMap (aBr (aX C S 8) nx G lit now)) t) = (S0 t || mAny ((List.range' 0 16).flatMap (aBr (aX C S 8) nx G lit now)) t)) → ∀ u4 u5 u6 u7 u8 u9, J mX11_goesAlong d 0 0 Q 0 0 2 [some (.inr (.inr 111)), some (.inl (nI k)), some (.inl (nI now)), some (.inl (nI w)), u4, u5, u6, u7, u8, u9] [] h' := by
    intro m
    induction m with
    | zero =>
      intro w hw S1 h' r' f' K' ef u4 u5 u6 u7 u8 u9
      refine u_X11_goesAlong_2 ?_
      simp (disch := omega) only [xle_t, xle_f, xlt_t, xlt_f, xeq_t, xeq_f, xle0_t, xle0_f, xlt0_f, x0lt_t, x0lt_f, x0le_t, xeq0_t, xeq0_f, xin, xem_f, xme_f, xlem_f, xlm_f, xml_t, xmle_t, nI_clamp, nI_add, pk_mul, pk_sub, zI_s, zI_k, zI_o, zL_s, zL_k, zL_o, zR_s, zR_k, zR_o, zIL, zIR, zIN, zLI, zLR, zLN, zRI, zRL, zRN, true_and, and_true, not_true_eq_false, not_false_eq_true, true_implies, false_implies, implies_true, forall_const, if_true, if_false, eq_self, false_and, and_false, implies_true, nI_l, ylle_t, ylle_f, xcl_t, xcl_f]
      refine kk h' r' f' (fun t ht => ?_)
      rw [K' t ht]
      exact (Bool.or_false _).symm.trans (ef t)
    | succ m ihm =>
      intro w hw S1 h' r' f' K' ef u4 u5 u6 u7 u8 u9
      have w16 : w < 16 := by omega
      have sp : ∀ t, mAny ((List.range' w (m + 1)).flatMap (aBr (aX C S 8) nx G lit now)) t = (mAny (aBr (aX C S 8) nx G lit now w) t || mAny ((List.range' (w + 1) m).flatMap (aBr (aX C S 8) nx G lit now)) t) := fun t => by
        rw [List.range'_succ, List.flatMap_cons]
        exact List.any_append
      have hL' := hL.keep f'
      have hR' := hR.keep n2 f'
      have e38 : h'.1 111 38 = nI (wN S 8) := hL'.2.1
      -- nothing comes of it
      have none_ : aBr (aX C S 8) nx G lit now w = [] → ∀ u4 u5 u6 u7 u8 u9, J mX11_goesAlong d 0 0 Q 0 0 2 [some (.inr (.inr 111)), some (.inl (nI k)), some (.inl (nI now)), some (.inl (nI (w + 1))), u4, u5, u6, u7, u8, u9] [] h' := fun e => by
        refine ihm (w + 1) (by omega) S1 h' r' f' K' (fun t => ?_)
        rw [← ef t, sp t, e]
        show _ = (S1 t || (false || _))
        rw [Bool.false_or]
      refine u_X11_goesAlong_2 ?_
      simp (disch := omega) only [xle_t, xle_f, xlt_t, xlt_f, xeq_t, xeq_f, xle0_t, xle0_f, xlt0_f, x0lt_t, x0lt_f, x0le_t, xeq0_t, xeq0_f, xin, xem_f, xme_f, xlem_f, xlm_f, xml_t, xmle_t, nI_clamp, nI_add, pk_mul, pk_sub, zI_s, zI_k, zI_o, zL_s, zL_k, zL_o, zR_s, zR_k, zR_o, zIL, zIR, zIN, zLI, zLR, zLN, zRI, zRL, zRN, true_and, and_true, not_true_eq_false, not_false_eq_true, true_implies, false_implies, implies_true, forall_const, if_true, if_false, eq_self, false_and, and_false, implies_true, nI_l, ylle_t, ylle_f, xcl_t, xcl_f]
      have LI : ∀ n i, i + n = 2 → ∀ u7 u8 u9, J mX11_goesAlong d 0 0 Q 0 0 17 [some (.inr (.inr 111)), some (.inl (nI k)), some (.inl (nI now)), some (.inl (nI w)), some (.inl (bI (aOn (aX C S 8) G lit w i))), some (.inl (oI (aS2 (aX C S 8) G (lit ||| w) i))), some (.inl (nI i)), u7, u8, u9] [] h' := by
        intro n
        induction n with
        | zero =>
          intro i hi u7 u8 u9
          obtain rfl : i = 2 := by omega
          refine u_X11_goesAlong_17 (d1' := d - 1) r' (by omega) ?_
          have eo : aOn (aX C S 8) G lit w 2 = aOk (aX C S 8) G lit w := by
            show ((true && _) && _) = (_ && _)
            rw [Bool.true_and]
          rw [eo]
          cases ok : aOk (aX C S 8) G lit w with
          | false =>
            rw [show bI false = nI 0 from rfl]
            simp (disch := omega) only [xle_t, xle_f, xlt_t, xlt_f, xeq_t, xeq_f, xle0_t, xle0_f, xlt0_f, x0lt_t, x0lt_f, x0le_t, xeq0_t, xeq0_f, xin, xem_f, xme_f, xlem_f, xlm_f, xml_t, xmle_t, nI_clamp, nI_add, pk_mul, pk_sub, zI_s, zI_k, zI_o, zL_s, zL_k, zL_o, zR_s, zR_k, zR_o, zIL, zIR, zIN, zLI, zLR, zLN, zRI, zRL, zRN, true_and, and_true, not_true_eq_false, not_false_eq_true, true_implies, false_implies, implies_true, forall_const, if_true, if_false, eq_self, false_and, and_false, implies_true, nI_l, ylle_t, ylle_f, xcl_t, xcl_f]
            exact none_ (aBr_n (by rw [ok]; decide)) _ _ _ _ _ _
          | true =>
            rw [show bI true = nI 1 from rfl]
            cases hs : aS2 (aX C S 8) G (lit ||| w) 2 with
            | none =>
              rw [show oI none = -(nI 1) from rfl]
              simp (disch := omega) only [xle_t, xle_f, xlt_t, xlt_f, xeq_t, xeq_f, xle0_t, xle0_f, xlt0_f, x0lt_t, x0lt_f, x0le_t, xeq0_t, xeq0_f, xin, xem_f, xme_f, xlem_f, xlm_f, xml_t, xmle_t, nI_clamp, nI_add, pk_mul, pk_sub, zI_s, zI_k, zI_o, zL_s, zL_k, zL_o, zR_s, zR_k, zR_o, zIL, zIR, zIN, zLI, zLR, zLN, zRI, zRL, zRN, true_and, and_true, not_true_eq_false, not_false_eq_true, true_implies, false_implies, implies_true, forall_const, if_true, if_false, eq_self, false_and, and_false, implies_true, nI_l, ylle_t, ylle_f, xcl_t, xcl_f]
              exact none_ (by rw [aBr_y ok, aCh_n hs]) _ _ _ _ _ _
            | some st =>
              rw [show oI (some st) = nI st from rfl]
              have sb := aS2_b hX hs
              obtain ⟨hI', _⟩ := aI_ch hX hI w16 hs
              obtain ⟨_, n9', hG'⟩ := aI_now hX hI'
              simp (disch := omega) only [xle_t, xle_f, xlt_t, xlt_f, xeq_t, xeq_f, xle0_t, xle0_f, xlt0_f, x0lt_t, x0lt_f, x0le_t, xeq0_t, xeq0_f, xin, xem_f, xme_f, xlem_f, xlm_f, xml_t, xmle_t, nI_clamp, nI_add, pk_mul, pk_sub, zI_s, zI_k, zI_o, zL_s, zL_k, zL_o, zR_s, zR_k, zR_o, zIL, zIR, zIN, zLI, zLR, zLN, zRI, zRL, zRN, true_and, and_true, not_true_eq_false, not_false_eq_true, true_implies, false_implies, implies_true, forall_const, if_true, if_false, eq_self, false_and, and_false, implies_true, nI_l, ylle_t, ylle_f, xcl_t, xcl_f]
              have LC : ∀ n i, i + n = wN S 8 → ∀ h2, zRf h2 → mFl k h' h2 → h2.1 132 = h'.1 132 → (∀ j, j < i → h2.1 136 (2 * (k + 1) + j) = nI (aG (aX C S 8) G (lit ||| w) st (2 * j)) ∧ h2.1 137 (2 * (k + 1) + j) = nI (aG (aX C S 8) G (lit ||| w) st (2 * j + 1)) ∧ (aLv (aX C S 8) (aG (aX C S 8) G (lit ||| w) st) j = true → h2.1 138 (2 * (k + 1) + j) = nI (aQ (lit ||| w) j))) → ∀ u7 u8 u9, J mX11_goesAlong d 0 0 Q 0 0 191 [some (.inr (.inr 111)), some (.inl (nI k)), some (.inl (nI now)), some (.inl (nI w)), some (.inl (nI 1)), some (.inl (nI st)), some (.inl (nI i)), u7, u8, u9] [] h2 := by
                intro n
                induction n with
                | zero =>
                  intro i hi h2 r2 f2 e2 g2 u7 u8 u9
                  have e38' : h2.1 111 38 = nI (wN S 8) := (hL'.keep f2).2.1
                  have ef' : nI (now + st) - nI (now + st) / nI 32 * nI 32 = nI ((now + st) % 32) := pk_rem (by omega) (by decide) (by decide)
                  have eq' : nI (now + st) / nI 32 = nI ((now + st) / 32) := pk_div (by omega) (by decide) (by decide)
                  refine u_X11_goesAlong_191 (d1' := d - 1) (d2' := d - 1) r2 (by omega) (by omega) (by omega) ?_
                  simp only [nI_add, ef']
                  simp only [eq']
                  simp (disch := omega) only [xle_t, xle_f, xlt_t, xlt_f, xeq_t, xeq_f, xle0_t, xle0_f, xlt0_f, x0lt_t, x0lt_f, x0le_t, xeq0_t, xeq0_f, xin, xem_f, xme_f, xlem_f, xlm_f, xml_t, xmle_t, nI_clamp, nI_add, pk_mul, pk_sub, zI_s, zI_k, zI_o, zL_s, zL_k, zL_o, zR_s, zR_k, zR_o, zIL, zIR, zIN, zLI, zLR, zLN, zRI, zRL, zRN, true_and, and_true, not_true_eq_false, not_false_eq_true, true_implies, false_implies, implies_true, forall_const, if_true, if_false, eq_self, false_and, and_false, implies_true, nI_l, ylle_t, ylle_f, xcl_t, xcl_f, e38']
                  have K2 : mTb S1 (h2.1 132) := by rw [e2]; exact K'
                  have f3 : mFl k h' (zsI h2 132 ((now + st) / 32) (h2.1 132 ((now + st) / 32) ||| (nI 1 <<< (nI ((now + st) % 32) &&& 31)))) := ⟨f2.1.trans (zF_I _ _ _ (by omega)), fun j hj => by
                    rw [zI_o _ _ _ (by omega), zI_o _ _ _ (by omega), zI_o _ _ _ (by omega)]
                    exact f2.2 j hj⟩
                  refine hgo w st w16 hs _ _ _ r2 (hL'.keep f3) ?_ (mTb_add K2) (fun h4 r4 f4 K4 => ?_)
                  · intro j hj
                    rw [zI_o _ _ _ (by omega), zI_o _ _ _ (by omega), zI_o _ _ _ (by omega)]
                    exact g2 j (by have : j < wN S 8 := hj; omega)
                  · refine u_X11_goesAlong_352 ?_
                    simp (disch := omega) only [xle_t, xle_f, xlt_t, xlt_f, xeq_t, xeq_f, xle0_t, xle0_f, xlt0_f, x0lt_t, x0lt_f, x0le_t, xeq0_t, xeq0_f, xin, xem_f, xme_f, xlem_f, xlm_f, xml_t, xmle_t, nI_clamp, nI_add, pk_mul, pk_sub, zI_s, zI_k, zI_o, zL_s, zL_k, zL_o, zR_s, zR_k, zR_o, zIL, zIR, zIN, zLI, zLR, zLN, zRI, zRL, zRN, true_and, and_true, not_true_eq_false, not_false_eq_true, true_implies, false_implies, implies_true, forall_const, if_true, if_false, eq_self, false_and, and_false, implies_true, nI_l, ylle_t, ylle_f, xcl_t, xcl_f]
                    refine ihm (w + 1) (by omega) _ h4 r4 ((f'.trans f3).trans (f4.weak (by omega))) K4 (fun t => ?_) _ _ _ _ _ _
                    rw [← ef t, sp t]
                    have : aBr (aX C S 8) nx G lit now w = (now + st) :: nx (aG (aX C S 8) G (lit ||| w) st) (lit ||| w) (now + st) := by rw [aBr_y ok, aCh_s hs]
                    rw [this]
                    unfold wKu
                    show (((S1 t || decide (t = now + st)) || _) || _) = (S1 t || ((decide (now + st = t) || _) || _))
                    rw [Bool.or_assoc, Bool.or_assoc, Bool.or_assoc]
                    congr 2
                    exact decide_eq_decide.mpr ⟨fun q => q.symm, fun q => q.symm⟩
                | succ n ihn =>
                  intro i hi h2 r2 f2 e2 g2 u7 u8 u9
                  have i2 : i < 2 := by omega
                  have hiN : i < wN S 8 := by omega
                  have e38' : h2.1 111 38 = nI (wN S 8) := (hL'.keep f2).2.1
                  have hR2 := hR'.keep n2 f2
                  obtain ⟨r1, r3, r5⟩ := hR2 i hiN
                  have g0 := hG (2 * i)
                  have g1 := hG (2 * i + 1)
                  have gx : ∀ v0 v1 v3, v0 = nI (aG (aX C S 8) G (lit ||| w) st (2 * i)) → v1 = nI (aG (aX C S 8) G (lit ||| w) st (2 * i + 1)) → (aLv (aX C S 8) (aG (aX C S 8) G (lit ||| w) st) i = true → v3 = nI (aQ (lit ||| w) i)) → ∀ u7 u8 u9, J mX11_goesAlong d 0 0 Q 0 0 191 [some (.inr (.inr 111)), some (.inl (nI k)), some (.inl (nI now)), some (.inl (nI w)), some (.inl (nI 1)), some (.inl (nI st)), some (.inl (nI (i + 1))), u7, u8, u9] [] (zsI (zsI (zsI h2 136 (2 * k + 2 + i) v0) 137 (2 * k + 2 + i) v1) 138 (2 * k + 2 + i) v3) := fun v0 v1 v3 q0 q1 q3 => by
                    refine ihn (i + 1) (by omega) _ r2 ?_ ?_ (fun j hj => ?_)
                    · refine ⟨((f2.1.trans (zF_I _ _ _ (by omega))).trans (zF_I _ _ _ (by omega))).trans (zF_I _ _ _ (by omega)), fun j hj => ?_⟩
                      obtain ⟨y1, y2, y3⟩ := f2.2 j hj
                      refine ⟨?_, ?_, ?_⟩
                      · rw [zI_o _ _ _ (by omega), zI_o _ _ _ (by omega), zI_k _ _ _ (by omega)]; exact y1
                      · rw [zI_o _ _ _ (by omega), zI_k _ _ _ (by omega), zI_o _ _ _ (by omega)]; exact y2
                      · rw [zI_k _ _ _ (by omega), zI_o _ _ _ (by omega), zI_o _ _ _ (by omega)]; exact y3
                    · rw [zI_o _ _ _ (by omega), zI_o _ _ _ (by omega), zI_o _ _ _ (by omega)]
                      exact e2
                    · by_cases y : j = i
                      · rw [y, show 2 * (k + 1) + i = 2 * k + 2 + i by omega]
                        refine ⟨?_, ?_, fun q => ?_⟩
                        · rw [zI_o _ _ _ (by omega), zI_o _ _ _ (by omega), zI_s]; exact q0
                        · rw [zI_o _ _ _ (by omega), zI_s]; exact q1
                        · rw [zI_s]; exact q3 q
                      · obtain ⟨y1, y2, y3⟩ := g2 j (by omega)
                        refine ⟨?_, ?_, fun q => ?_⟩
                        · rw [zI_o _ _ _ (by omega), zI_o _ _ _ (by omega), zI_k _ _ _ (by omega)]; exact y1
                        · rw [zI_o _ _ _ (by omega), zI_k _ _ _ (by omega), zI_o _ _ _ (by omega)]; exact y2
                        · rw [zI_k _ _ _ (by omega), zI_o _ _ _ (by omega), zI_o _ _ _ (by omega)]; exact y3 q
                  refine u_X11_goesAlong_191 (d1' := d - 1) (d2' := d - 1) r2 (by omega) (by omega) (by omega) ?_
                  simp (disch := omega) only [xle_t, xle_f, xlt_t, xlt_f, xeq_t, xeq_f, xle0_t, xle0_f, xlt0_f, x0lt_t, x0lt_f, x0le_t, xeq0_t, xeq0_f, xin, xem_f, xme_f, xlem_f, xlm_f, xml_t, xmle_t, nI_clamp, nI_add, pk_mul, pk_sub, zI_s, zI_k, zI_o, zL_s, zL_k, zL_o, zR_s, zR_k, zR_o, zIL, zIR, zIN, zLI, zLR, zLN, zRI, zRL, zRN, true_and, and_true, not_true_eq_false, not_false_eq_true, true_implies, false_implies, implies_true, forall_const, if_true, if_false, eq_self, false_and, and_false, implies_true, nI_l, ylle_t, ylle_f, xcl_t, xcl_f, e38']
                  refine m_ibt r2 (hL'.keep f2) hC hS hN2 hI hR2 hk hiN (by omega) ?_
                  refine u_X11_goesAlong_207 r2 ?_
                  have z136 : zokA h2 136 20 (nI (2 * k + 2 + i)) = True := eq_true (zia r2 (n := 128) (by decide) rfl (vp_in_nI (by omega) (by omega)))
                  have z137 : ∀ v, zokA (zsI h2 136 (2 * k + 2 + i) v) 137 20 (nI (2 * k + 2 + i)) = True := fun v => eq_true (zia (zRf_I r2 _ _ _) (n := 128) (by decide) rfl (vp_in_nI (by omega) (by omega)))
                  have a0 := aG_0 (aX C S 8) G (lit ||| w) st i
                  have a1 := aG_1 (aX C S 8) G (lit ||| w) st i
                  cases lv : aLv (aX C S 8) G i with
                  | false =>
                    rw [aE_d (by rw [lv]; decide), if_neg (by decide)] at a0 a1
                    rw [show bI (!false) = nI 1 from rfl]
                    have dd : ¬ aLv (aX C S 8) (aG (aX C S 8) G (lit ||| w) st) i = true := fun q => by
                      rw [aLv_m (aG_le _ _ _ _ _) (aG_le _ _ _ _ _) q] at lv
                      cases lv
                    simp (disch := omega) only [xle_t, xle_f, xlt_t, xlt_f, xeq_t, xeq_f, xle0_t, xle0_f, xlt0_f, x0lt_t, x0lt_f, x0le_t, xeq0_t, xeq0_f, xin, xem_f, xme_f, xlem_f, xlm_f, xml_t, xmle_t, nI_clamp, nI_add, pk_mul, pk_sub, zI_s, zI_k, zI_o, zL_s, zL_k, zL_o, zR_s, zR_k, zR_o, zIL, zIR, zIN, zLI, zLR, zLN, zRI, zRL, zRN, true_and, and_true, not_true_eq_false, not_false_eq_true, true_implies, false_implies, implies_true, forall_const, if_true, if_false, eq_self, false_and, and_false, implies_true, nI_l, ylle_t, ylle_f, xcl_t, xcl_f, r1, r3, z136, z137, show (nI 0 &&& nI 1) = nI 0 from rfl]
                    exact gx _ _ _ (by rw [a0]) (by rw [a1]) (fun q => absurd q dd) _ _ _
                  | true =>
                    have e := r5 lv
                    have mh := aM_h1 w w16 i i2
                    have mo := aQ_e lit l16 w w16 i i2
                    rw [aE_l lv] at a0 a1
                    rw [show bI (!true) = nI 0 from rfl]
                    have ql := aQ_lt (lit ||| w) i
                    have m1 := aM_1 _ ql
                    have cq : aQ (lit ||| w) i = 0 ∨ aQ (lit ||| w) i = 1 ∨ aQ (lit ||| w) i = 2 ∨ aQ (lit ||| w) i = 3 := by omega
                    rcases cq with cq | cq | cq | cq <;> rw [cq] at m1 mo a0 a1
                    · rw [if_neg (by decide)] at a0 a1
                      simp (disch := omega) only [xle_t, xle_f, xlt_t, xlt_f, xeq_t, xeq_f, xle0_t, xle0_f, xlt0_f, x0lt_t, x0lt_f, x0le_t, xeq0_t, xeq0_f, xin, xem_f, xme_f, xlem_f, xlm_f, xml_t, xmle_t, nI_clamp, nI_add, pk_mul, pk_sub, zI_s, zI_k, zI_o, zL_s, zL_k, zL_o, zR_s, zR_k, zR_o, zIL, zIR, zIN, zLI, zLR, zLN, zRI, zRL, zRN, true_and, and_true, not_true_eq_false, not_false_eq_true, true_implies, false_implies, implies_true, forall_const, if_true, if_false, eq_self, false_and, and_false, implies_true, nI_l, ylle_t, ylle_f, xcl_t, xcl_f, e, mh, mo, m1, r1, r3, z136, z137]
                      exact gx _ _ _ (by rw [a0]) (by rw [a1]) (fun _ => by rw [cq]) _ _ _
                    · rw [if_pos (by decide)] at a0
                      rw [if_neg (by decide)] at a1
                      simp (disch := omega) only [xle_t, xle_f, xlt_t, xlt_f, xeq_t, xeq_f, xle0_t, xle0_f, xlt0_f, x0lt_t, x0lt_f, x0le_t, xeq0_t, xeq0_f, xin, xem_f, xme_f, xlem_f, xlm_f, xml_t, xmle_t, nI_clamp, nI_add, pk_mul, pk_sub, zI_s, zI_k, zI_o, zL_s, zL_k, zL_o, zR_s, zR_k, zR_o, zIL, zIR, zIN, zLI, zLR, zLN, zRI, zRL, zRN, true_and, and_true, not_true_eq_false, not_false_eq_true, true_implies, false_implies, implies_true, forall_const, if_true, if_false, eq_self, false_and, and_false, implies_true, nI_l, ylle_t, ylle_f, xcl_t, xcl_f, e, mh, mo, m1, r1, r3, z136, z137]
                      exact gx _ _ _ (by rw [a0]) (by rw [a1]) (fun _ => by rw [cq]) _ _ _
                    · rw [if_neg (by decide)] at a0
                      rw [if_pos (by decide)] at a1
                      simp (disch := omega) only [xle_t, xle_f, xlt_t, xlt_f, xeq_t, xeq_f, xle0_t, xle0_f, xlt0_f, x0lt_t, x0lt_f, x0le_t, xeq0_t, xeq0_f, xin, xem_f, xme_f, xlem_f, xlm_f, xml_t, xmle_t, nI_clamp, nI_add, pk_mul, pk_sub, zI_s, zI_k, zI_o, zL_s, zL_k, zL_o, zR_s, zR_k, zR_o, zIL, zIR, zIN, zLI, zLR, zLN, zRI, zRL, zRN, true_and, and_true, not_true_eq_false, not_false_eq_true, true_implies, false_implies, implies_true, forall_const, if_true, if_false, eq_self, false_and, and_false, implies_true, nI_l, ylle_t, ylle_f, xcl_t, xcl_f, e, mh, mo, m1, r1, r3, z136, z137]
                      exact gx _ _ _ (by rw [a0]) (by rw [a1]) (fun _ => by rw [cq]) _ _ _
                    · rw [if_pos (by decide)] at a0 a1
                      simp (disch := omega) only [xle_t, xle_f, xlt_t, xlt_f, xeq_t, xeq_f, xle0_t, xle0_f, xlt0_f, x0lt_t, x0lt_f, x0le_t, xeq0_t, xeq0_f, xin, xem_f, xme_f, xlem_f, xlm_f, xml_t, xmle_t, nI_clamp, nI_add, pk_mul, pk_sub, zI_s, zI_k, zI_o, zL_s, zL_k, zL_o, zR_s, zR_k, zR_o, zIL, zIR, zIN, zLI, zLR, zLN, zRI, zRL, zRN, true_and, and_true, not_true_eq_false, not_false_eq_true, true_implies, false_implies, implies_true, forall_const, if_true, if_false, eq_self, false_and, and_false, implies_true, nI_l, ylle_t, ylle_f, xcl_t, xcl_f, e, mh, mo, m1, r1, r3, z136, z137]
                      exact gx _ _ _ (by rw [a0]) (by rw [a1]) (fun _ => by rw [cq]) _ _ _
              exact LC (wN S 8) 0 (by omega) h' r' mFl.rfl rfl (fun j hj => by omega) _ _ _
        | succ n ihn =>
          intro i hi u7 u8 u9
          have i2 : i < 2 := by omega
          have mh := aM_h1 w w16 i i2
          have ql := aQ_lt w i
          have es : aS2 (aX C S 8) G (lit ||| w) (i + 1) = if aE (aX C S 8) G (lit ||| w) i = 0 then aS2 (aX C S 8) G (lit ||| w) i else some (aMn (aS2 (aX C S 8) G (lit ||| w) i) (aSp (aX C S 8) i (G (2 * i)) (G (2 * i + 1)) (aE (aX C S 8) G (lit ||| w) i))) := rfl
          have eo : aOn (aX C S 8) G lit w (i + 1) = (aOn (aX C S 8) G lit w i && aO1 (aX C S 8) G lit w i) := rfl
          have nx1 := ihn (i + 1) (by omega)
          -- a candle that is none, or has ended
          have dead : ¬ aLv (aX C S 8) G i = true → ∀ v, v = (if aQ w i = 0 then bI (aOn (aX C S 8) G lit w i) else nI 0) → ∀ u7 u8 u9, J mX11_goesAlong d 0 0 Q 0 0 17 [some (.inr (.inr 111)), some (.inl (nI k)), some (.inl (nI now)), some (.inl (nI w)), some (.inl v), some (.inl (oI (aS2 (aX C S 8) G (lit ||| w) i))), some (.inl (nI (i + 1))), u7, u8, u9] [] h' := fun dl v hv => by
            rw [es, eo, aE_d dl, if_pos rfl, aO_d dl] at nx1
            by_cases y : aQ w i = 0
            · rw [if_pos y] at hv
              rw [decide_eq_true y, Bool.and_true] at nx1
              rw [hv]
              exact nx1
            · rw [if_neg y] at hv
              rw [decide_eq_false y, Bool.and_false] at nx1
              rw [hv]
              exact nx1
          refine u_X11_goesAlong_17 (d1' := d - 1) r' (by omega) ?_
          rcases Nat.lt_or_ge i (wN S 8) with hiN | hiN
          · simp (disch := omega) only [xle_t, xle_f, xlt_t, xlt_f, xeq_t, xeq_f, xle0_t, xle0_f, xlt0_f, x0lt_t, x0lt_f, x0le_t, xeq0_t, xeq0_f, xin, xem_f, xme_f, xlem_f, xlm_f, xml_t, xmle_t, nI_clamp, nI_add, pk_mul, pk_sub, zI_s, zI_k, zI_o, zL_s, zL_k, zL_o, zR_s, zR_k, zR_o, zIL, zIR, zIN, zLI, zLR, zLN, zRI, zRL, zRN, true_and, and_true, not_true_eq_false, not_false_eq_true, true_implies, false_implies, implies_true, forall_const, if_true, if_false, eq_self, false_and, and_false, implies_true, nI_l, ylle_t, ylle_f, xcl_t, xcl_f, e38, mh]
            refine m_ibt r' hL' hC hS hN2 hI hR' hk hiN (by omega) ?_
            refine u_X11_goesAlong_49 (d1' := d - 1) (d2' := d - 1) (d3' := d - 1) r' (by omega) (by omega) (by omega) ?_
            obtain ⟨r1, r3, r5⟩ := hR' i hiN
            cases lv : aLv (aX C S 8) G i with
            | false =>
              have dl : ¬ aLv (aX C S 8) G i = true := by rw [lv]; decide
              rw [show bI (!false) = nI 1 from rfl]
              cases on : aOn (aX C S 8) G lit w i with
              | false =>
                rw [show bI false = nI 0 from rfl]
                simp (disch := omega) only [xle_t, xle_f, xlt_t, xlt_f, xeq_t, xeq_f, xle0_t, xle0_f, xlt0_f, x0lt_t, x0lt_f, x0le_t, xeq0_t, xeq0_f, xin, xem_f, xme_f, xlem_f, xlm_f, xml_t, xmle_t, nI_clamp, nI_add, pk_mul, pk_sub, zI_s, zI_k, zI_o, zL_s, zL_k, zL_o, zR_s, zR_k, zR_o, zIL, zIR, zIN, zLI, zLR, zLN, zRI, zRL, zRN, true_and, and_true, not_true_eq_false, not_false_eq_true, true_implies, false_implies, implies_true, forall_const, if_true, if_false, eq_self, false_and, and_false, implies_true, nI_l, ylle_t, ylle_f, xcl_t, xcl_f]
                exact dead dl _ (by rw [on, show bI false = nI 0 from rfl]; split <;> rfl) _ _ _
              | true =>
                rw [show bI true = nI 1 from rfl]
                by_cases y : aQ w i = 0
                · simp (disch := omega) only [xle_t, xle_f, xlt_t, xlt_f, xeq_t, xeq_f, xle0_t, xle0_f, xlt0_f, x0lt_t, x0lt_f, x0le_t, xeq0_t, xeq0_f, xin, xem_f, xme_f, xlem_f, xlm_f, xml_t, xmle_t, nI_clamp, nI_add, pk_mul, pk_sub, zI_s, zI_k, zI_o, zL_s, zL_k, zL_o, zR_s, zR_k, zR_o, zIL, zIR, zIN, zLI, zLR, zLN, zRI, zRL, zRN, true_and, and_true, not_true_eq_false, not_false_eq_true, true_implies, false_implies, implies_true, forall_const, if_true, if_false, eq_self, false_and, and_false, implies_true, nI_l, ylle_t, ylle_f, xcl_t, xcl_f, y]
                  exact dead dl _ (by rw [on, if_pos y]; rfl) _ _ _
                · simp (disch := omega) only [xle_t, xle_f, xlt_t, xlt_f, xeq_t, xeq_f, xle0_t, xle0_f, xlt0_f, x0lt_t, x0lt_f, x0le_t, xeq0_t, xeq0_f, xin, xem_f, xme_f, xlem_f, xlm_f, xml_t, xmle_t, nI_clamp, nI_add, pk_mul, pk_sub, zI_s, zI_k, zI_o, zL_s, zL_k, zL_o, zR_s, zR_k, zR_o, zIL, zIR, zIN, zLI, zLR, zLN, zRI, zRL, zRN, true_and, and_true, not_true_eq_false, not_false_eq_true, true_implies, false_implies, implies_true, forall_const, if_true, if_false, eq_self, false_and, and_false, implies_true, nI_l, ylle_t, ylle_f, xcl_t, xcl_f]
                  exact dead dl _ (by rw [if_neg y]) _ _ _
            | true =>
              have e := r5 lv
              have o := hL'.2.2 i hiN
              have mo := aQ_e lit l16 w w16 i i2
              have qo := aQ_lt (lit ||| w) i
              have ll := (aLv_i.mp lv).2
              have gb := hG (2 * i)
              have gb1 := hG (2 * i + 1)
              rw [es, eo, aE_l lv, aO_l lv] at nx1
              rw [show bI (!true) = nI 0 from rfl]
              -- what comes of the span
              have sp2 : ∀ v b1, v = bI b1 → b1 = (aOn (aX C S 8) G lit w i && decide (aQ w i &&& aQ lit i = 0)) → Con mX11_spanAlong (d - 1) 0 0 [.inr (.inr 111), .inl (nI (aMb S 8 i)), .inl (nI (G (2 * i))), .inl (nI (G (2 * i + 1))), .inl (nI (aQ (lit ||| w) i))] h' (zri fun (x : Int32) h'' => J mX11_goesAlong d 0 0 Q 0 0 143 [some (.inr (.inr 111)), some (.inl (nI k)), some (.inl (nI now)), some (.inl (nI w)), some (.inl v), some (.inl (oI (aS2 (aX C S 8) G (lit ||| w) i))), some (.inl (nI i)), some (.inl (nI (aQ w i))), some (.inl (nI (aQ lit i))), u9] [.inl x] h'') := fun v b1 hv hb => by
                refine m_spa r' hL'.1 hC hS hN2 hiN qo ll (by omega) ?_
                refine u_X11_goesAlong_143 ?_
                rw [← hb] at nx1
                rw [hv]
                by_cases z : aQ (lit ||| w) i = 0
                · rw [if_pos z]
                  rw [if_pos z] at nx1
                  simp (disch := omega) only [xle_t, xle_f, xlt_t, xlt_f, xeq_t, xeq_f, xle0_t, xle0_f, xlt0_f, x0lt_t, x0lt_f, x0le_t, xeq0_t, xeq0_f, xin, xem_f, xme_f, xlem_f, xlm_f, xml_t, xmle_t, nI_clamp, nI_add, pk_mul, pk_sub, zI_s, zI_k, zI_o, zL_s, zL_k, zL_o, zR_s, zR_k, zR_o, zIL, zIR, zIN, zLI, zLR, zLN, zRI, zRL, zRN, true_and, and_true, not_true_eq_false, not_false_eq_true, true_implies, false_implies, implies_true, forall_const, if_true, if_false, eq_self, false_and, and_false, implies_true, nI_l, ylle_t, ylle_f, xcl_t, xcl_f]
                  exact nx1 _ _ _
                · rw [if_neg z]
                  rw [if_neg z] at nx1
                  have sb : aSp (aX C S 8) i (G (2 * i)) (G (2 * i + 1)) (aQ (lit ||| w) i) ≤ 92160 := Nat.le_trans aS1_b (hX.2 i hiN).2.2.1
                  generalize aSp (aX C S 8) i (G (2 * i)) (G (2 * i + 1)) (aQ (lit ||| w) i) = u at nx1 sb ⊢
                  cases hs : aS2 (aX C S 8) G (lit ||| w) i with
                  | none =>
                    rw [hs] at nx1
                    rw [show oI none = -(nI 1) from rfl]
                    simp (disch := omega) only [xle_t, xle_f, xlt_t, xlt_f, xeq_t, xeq_f, xle0_t, xle0_f, xlt0_f, x0lt_t, x0lt_f, x0le_t, xeq0_t, xeq0_f, xin, xem_f, xme_f, xlem_f, xlm_f, xml_t, xmle_t, nI_clamp, nI_add, pk_mul, pk_sub, zI_s, zI_k, zI_o, zL_s, zL_k, zL_o, zR_s, zR_k, zR_o, zIL, zIR, zIN, zLI, zLR, zLN, zRI, zRL, zRN, true_and, and_true, not_true_eq_false, not_false_eq_true, true_implies, false_implies, implies_true, forall_const, if_true, if_false, eq_self, false_and, and_false, implies_true, nI_l, ylle_t, ylle_f, xcl_t, xcl_f]
                    exact nx1 _ _ _
                  | some s =>
                    have sb2 := aS2_b hX hs
                    rw [hs] at nx1
                    rw [show oI (some s) = nI s from rfl]
                    have e9 : oI (some (aMn (some s) u)) = nI (if u < s then u else s) := rfl
                    rw [e9] at nx1
                    rcases Nat.lt_or_ge u s with y | y
                    · rw [if_pos y] at nx1
                      simp (disch := omega) only [xle_t, xle_f, xlt_t, xlt_f, xeq_t, xeq_f, xle0_t, xle0_f, xlt0_f, x0lt_t, x0lt_f, x0le_t, xeq0_t, xeq0_f, xin, xem_f, xme_f, xlem_f, xlm_f, xml_t, xmle_t, nI_clamp, nI_add, pk_mul, pk_sub, zI_s, zI_k, zI_o, zL_s, zL_k, zL_o, zR_s, zR_k, zR_o, zIL, zIR, zIN, zLI, zLR, zLN, zRI, zRL, zRN, true_and, and_true, not_true_eq_false, not_false_eq_true, true_implies, false_implies, implies_true, forall_const, if_true, if_false, eq_self, false_and, and_false, implies_true, nI_l, ylle_t, ylle_f, xcl_t, xcl_f]
                      exact nx1 _ _ _
                    · rw [if_neg (by omega)] at nx1
                      simp (disch := omega) only [xle_t, xle_f, xlt_t, xlt_f, xeq_t, xeq_f, xle0_t, xle0_f, xlt0_f, x0lt_t, x0lt_f, x0le_t, xeq0_t, xeq0_f, xin, xem_f, xme_f, xlem_f, xlm_f, xml_t, xmle_t, nI_clamp, nI_add, pk_mul, pk_sub, zI_s, zI_k, zI_o, zL_s, zL_k, zL_o, zR_s, zR_k, zR_o, zIL, zIR, zIN, zLI, zLR, zLN, zRI, zRL, zRN, true_and, and_true, not_true_eq_false, not_false_eq_true, true_implies, false_implies, implies_true, forall_const, if_true, if_false, eq_self, false_and, and_false, implies_true, nI_l, ylle_t, ylle_f, xcl_t, xcl_f]
                      exact nx1 _ _ _
              cases on : aOn (aX C S 8) G lit w i with
              | false =>
                rw [on] at sp2
                rw [show bI false = nI 0 from rfl]
                simp (disch := omega) only [xle_t, xle_f, xlt_t, xlt_f, xeq_t, xeq_f, xle0_t, xle0_f, xlt0_f, x0lt_t, x0lt_f, x0le_t, xeq0_t, xeq0_f, xin, xem_f, xme_f, xlem_f, xlm_f, xml_t, xmle_t, nI_clamp, nI_add, pk_mul, pk_sub, zI_s, zI_k, zI_o, zL_s, zL_k, zL_o, zR_s, zR_k, zR_o, zIL, zIR, zIN, zLI, zLR, zLN, zRI, zRL, zRN, true_and, and_true, not_true_eq_false, not_false_eq_true, true_implies, false_implies, implies_true, forall_const, if_true, if_false, eq_self, false_and, and_false, implies_true, nI_l, ylle_t, ylle_f, xcl_t, xcl_f, e, o, r1, r3, mo]
                exact sp2 _ false rfl rfl
              | true =>
                rw [on] at sp2
                rw [show bI true = nI 1 from rfl]
                have na := nx_and (aQ w i) (aQ lit i)
                have nl : aQ w i &&& aQ lit i < 4 := Nat.and_lt_two_pow (n := 2) _ (aQ_lt lit i)
                by_cases y : aQ w i &&& aQ lit i = 0
                · simp (disch := omega) only [xle_t, xle_f, xlt_t, xlt_f, xeq_t, xeq_f, xle0_t, xle0_f, xlt0_f, x0lt_t, x0lt_f, x0le_t, xeq0_t, xeq0_f, xin, xem_f, xme_f, xlem_f, xlm_f, xml_t, xmle_t, nI_clamp, nI_add, pk_mul, pk_sub, zI_s, zI_k, zI_o, zL_s, zL_k, zL_o, zR_s, zR_k, zR_o, zIL, zIR, zIN, zLI, zLR, zLN, zRI, zRL, zRN, true_and, and_true, not_true_eq_false, not_false_eq_true, true_implies, false_implies, implies_true, forall_const, if_true, if_false, eq_self, false_and, and_false, implies_true, nI_l, ylle_t, ylle_f, xcl_t, xcl_f, e, o, r1, r3, mo, na, y]
                  exact sp2 _ true rfl (by rw [decide_eq_true y]; rfl)
                · simp (disch := omega) only [xle_t, xle_f, xlt_t, xlt_f, xeq_t, xeq_f, xle0_t, xle0_f, xlt0_f, x0lt_t, x0lt_f, x0le_t, xeq0_t, xeq0_f, xin, xem_f, xme_f, xlem_f, xlm_f, xml_t, xmle_t, nI_clamp, nI_add, pk_mul, pk_sub, zI_s, zI_k, zI_o, zL_s, zL_k, zL_o, zR_s, zR_k, zR_o, zIL, zIR, zIN, zLI, zLR, zLN, zRI, zRL, zRN, true_and, and_true, not_true_eq_false, not_false_eq_true, true_implies, false_implies, implies_true, forall_const, if_true, if_false, eq_self, false_and, and_false, implies_true, nI_l, ylle_t, ylle_f, xcl_t, xcl_f, e, o, r1, r3, mo, na]
                  exact sp2 _ false rfl (by rw [decide_eq_false y]; rfl)
          · have dl : ¬ aLv (aX C S 8) G i = true := fun q => by have : i < wN S 8 := (aLv_i.mp q).1; omega
            cases on : aOn (aX C S 8) G lit w i with
            | false =>
              rw [show bI false = nI 0 from rfl]
              simp (disch := omega) only [xle_t, xle_f, xlt_t, xlt_f, xeq_t, xeq_f, xle0_t, xle0_f, xlt0_f, x0lt_t, x0lt_f, x0le_t, xeq0_t, xeq0_f, xin, xem_f, xme_f, xlem_f, xlm_f, xml_t, xmle_t, nI_clamp, nI_add, pk_mul, pk_sub, zI_s, zI_k, zI_o, zL_s, zL_k, zL_o, zR_s, zR_k, zR_o, zIL, zIR, zIN, zLI, zLR, zLN, zRI, zRL, zRN, true_and, and_true, not_true_eq_false, not_false_eq_true, true_implies, false_implies, implies_true, forall_const, if_true, if_false, eq_self, false_and, and_false, implies_true, nI_l, ylle_t, ylle_f, xcl_t, xcl_f, e38, mh]
              exact dead dl _ (by rw [on, show bI false = nI 0 from rfl]; split <;> rfl) _ _ _
            | true =>
              rw [show bI true = nI 1 from rfl]
              by_cases y : aQ w i = 0
              · simp (disch := omega) only [xle_t, xle_f, xlt_t, xlt_f, xeq_t, xeq_f, xle0_t, xle0_f, xlt0_f, x0lt_t, x0lt_f, x0le_t, xeq0_t, xeq0_f, xin, xem_f, xme_f, xlem_f, xlm_f, xml_t, xmle_t, nI_clamp, nI_add, pk_mul, pk_sub, zI_s, zI_k, zI_o, zL_s, zL_k, zL_o, zR_s, zR_k, zR_o, zIL, zIR, zIN, zLI, zLR, zLN, zRI, zRL, zRN, true_and, and_true, not_true_eq_false, not_false_eq_true, true_implies, false_implies, implies_true, forall_const, if_true, if_false, eq_self, false_and, and_false, implies_true, nI_l, ylle_t, ylle_f, xcl_t, xcl_f, e38, mh, y]
                exact dead dl _ (by rw [on, if_pos y]; rfl) _ _ _
              · simp (disch := omega) only [xle_t, xle_f, xlt_t, xlt_f, xeq_t, xeq_f, xle0_t, xle0_f, xlt0_f, x0lt_t, x0lt_f, x0le_t, xeq0_t, xeq0_f, xin, xem_f, xme_f, xlem_f, xlm_f, xml_t, xmle_t, nI_clamp, nI_add, pk_mul, pk_sub, zI_s, zI_k, zI_o, zL_s, zL_k, zL_o, zR_s, zR_k, zR_o, zIL, zIR, zIN, zLI, zLR, zLN, zRI, zRL, zRN, true_and, and_true, not_true_eq_false, not_false_eq_true, true_implies, false_implies, implies_true, forall_const, if_true, if_false, eq_self, false_and, and_false, implies_true, nI_l, ylle_t, ylle_f, xcl_t, xcl_f, e38, mh]
                exact dead dl _ (by rw [if_neg y]) _ _ _
      exact LI 2 0 (by omega) _ _ _
  exact LW 16 0 (by omega) S0 h hr mFl.rfl hK (fun t => rfl) _ _ _ _ _ _
end AM
