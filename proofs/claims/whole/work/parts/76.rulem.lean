/-! ===== doesRules (reference) ===== -/
def mP (P : PL) (p lo n : Nat) (h : MH) : Prop := pIn P (h.1 112) (74 + 162 * p) ∧ h.1 111 28 = loI lo ∧ h.1 112 0 = nI n
theorem mP.keep {P : PL} {p lo n : Nat} {h h' : MH} (q : mP P p lo n h) (f : mF h h') : mP P p lo n h' := by
  unfold mP
  rw [f.1.i (by omega), f.2 28 (by omega)]
  exact q
theorem n_rules {P : PL} {n lo c p : Nat} {R : RS} {h : MH} {d : Nat} {Q : Option MV → MH → Prop} (hr : zRf h) (hp4 : p < 4) (hS : mS n R h) (hV : rV n R) (hp : mP P p lo n h) (hO : pOK P) (hc : c ≤ 8) (hbe : R.2.1.length + wg P c P.1 0 ≤ 40) (hli : R.2.2.2.2.1 + 2 * wg P c P.1 0 ≤ 1000) (hcl : rCl P c R) (hd : 3 ≤ d) (kk : ∀ h', zRf h' → mF h h' → mS n (rRules P n lo c P.1 0 R) h' → Q none h') : Con mX11_doesRules d 0 0 [.inr (.inr 111), .inl (nI p), .inl (pBy c)] h Q := by
  have h20 := hO.1
  have h40 := hO.2.1
  refine u_X11_doesRules (by omega) ?_
  rw [pk_mul]
  have A : ∀ (r : Nat), r < P.1 → ∀ (X : Nat → Nat → RS → Prop), (∀ (k : Nat) (R' : RS) (g : MH) (u5 u6 : Option MV), X 0 k R' → zRf g → mF h g → mS n R' g → rV n R' → J mX11_doesRules d 0 0 Q 0 0 8 [some (.inr (.inr 111)), some (.inl (nI p)), some (.inl (pBy c)), some (.inl (nI (162 * p))), some (.inl (nI (r + 1))), u5, u6] [] g) → (∀ m k R', X (m + 1) k R' → X m (k + 1) (if k = lo then R' else rAct n k (P.2.2.2.2 k) R')) → ∀ m k, k + m = P.2.2.2.1 r → ∀ (R' : RS) (g : MH), X m k R' → zRf g → mF h g → mS n R' g → rV n R' → R'.2.1.length + m ≤ 40 → R'.2.2.2.2.1 + 2 * m ≤ 1000 → (∀ k', k ≤ k' → k' < P.2.2.2.1 r → R'.2.2.1 k' = false) → J mX11_doesRules d 0 0 Q 0 0 112 [some (.inr (.inr 111)), some (.inl (nI p)), some (.inl (pBy c)), some (.inl (nI (162 * p))), some (.inl (nI r)), some (.inl (nI (P.2.2.2.1 r))), some (.inl (nI k))] [] g := by
    intro r hrr X hX0 hX m
    have hU := (hO.2.2.1 r hrr).2.1
    induction m with
    | zero =>
      intro k hk R' g x0 rg fg sg vg b1 b2 b3
      refine u_X11_doesRules_112 (d1' := 0) rg (by omega) ?_
      simp (disch := omega) only [xle_t, xle_f, xlt_t, xlt_f, xeq_t, xeq_f, xle0_t, xle0_f, xlt0_f, x0lt_t, x0lt_f, x0le_t, xeq0_t, xeq0_f, xin, xem_f, xme_f, xlem_f, xlm_f, xml_t, xmle_t, nI_clamp, nI_add, pk_mul, pk_sub, zI_s, zI_k, zI_o, zL_s, zL_k, zL_o, zR_s, zR_k, zR_o, zIL, zIR, zIN, zLI, zLR, zLN, zRI, zRL, zRN, true_and, and_true, not_true_eq_false, not_false_eq_true, true_implies, false_implies, implies_true, forall_const, if_true, if_false, eq_self, false_and, and_false, implies_true, nI_l, ylle_t, ylle_f, xcl_t, xcl_f]
      exact hX0 k R' g _ _ x0 rg fg sg vg
    | succ m ih =>
      intro k hk R' g x0 rg fg sg vg b1 b2 b3
      obtain ⟨p1, p2, p3⟩ := hp.keep fg
      have hx1 := hX m k R' x0
      refine u_X11_doesRules_112 (d1' := 2) rg (by omega) ?_
      have el := loI_eq (lo := lo) (k := k) (by omega)
      by_cases e : k = lo
      · rw [if_pos e] at hx1
        have el2 : (nI k = loI lo) = True := by rw [el]; exact eq_true e
        simp (disch := omega) only [xle_t, xle_f, xlt_t, xlt_f, xeq_t, xeq_f, xle0_t, xle0_f, xlt0_f, x0lt_t, x0lt_f, x0le_t, xeq0_t, xeq0_f, xin, xem_f, xme_f, xlem_f, xlm_f, xml_t, xmle_t, nI_clamp, nI_add, pk_mul, pk_sub, zI_s, zI_k, zI_o, zL_s, zL_k, zL_o, zR_s, zR_k, zR_o, zIL, zIR, zIN, zLI, zLR, zLN, zRI, zRL, zRN, true_and, and_true, not_true_eq_false, not_false_eq_true, true_implies, false_implies, implies_true, forall_const, if_true, if_false, eq_self, false_and, and_false, implies_true, nI_l, ylle_t, ylle_f, xcl_t, xcl_f, p2, el2]
        exact ih (k + 1) (by omega) R' g hx1 rg fg sg vg (by omega) (by omega) (fun k' h1 h2 => b3 k' (by omega) h2)
      · rw [if_neg e] at hx1
        have el2 : (nI k = loI lo) = False := by rw [el]; exact eq_false e
        have ea : g.1 112 (116 + 162 * p + k) = nI (((P.2.2.2.2 k).1 + 6) * 100 + 10 * (P.2.2.2.2 k).2.1 + (P.2.2.2.2 k).2.2) := by
          rw [show 116 + 162 * p + k = 74 + 162 * p + 42 + k by omega]
          exact p1.2.2.2 k (by omega)
        simp (disch := omega) only [xle_t, xle_f, xlt_t, xlt_f, xeq_t, xeq_f, xle0_t, xle0_f, xlt0_f, x0lt_t, x0lt_f, x0le_t, xeq0_t, xeq0_f, xin, xem_f, xme_f, xlem_f, xlm_f, xml_t, xmle_t, nI_clamp, nI_add, pk_mul, pk_sub, zI_s, zI_k, zI_o, zL_s, zL_k, zL_o, zR_s, zR_k, zR_o, zIL, zIR, zIN, zLI, zLR, zLN, zRI, zRL, zRN, true_and, and_true, not_true_eq_false, not_false_eq_true, true_implies, false_implies, implies_true, forall_const, if_true, if_false, eq_self, false_and, and_false, implies_true, nI_l, ylle_t, ylle_f, xcl_t, xcl_f, p2, el2, ea]
        obtain ⟨c1, c2, c3, c4, c5⟩ := rAct_b n k (P.2.2.2.2 k) R'
        refine n_actx (P := P) rg sg vg p3 hO (by omega) (by omega) (by omega) (b3 k (Nat.le_refl _) (by omega)) (by omega) (fun g2 r2 f2 s2 => ?_)
        refine u_X11_doesRules_146 ?_
        rw [nI_add]
        refine ih (k + 1) (by omega) _ _ hx1 r2 (fg.trans f2) s2 (rV_act vg) (by omega) (by omega) (fun k' h1 h2 => ?_)
        cases z : (rAct n k (P.2.2.2.2 k) R').2.2.1 k' with
        | false => rfl
        | true =>
          rcases c3 k' z with w | w
          · rw [b3 k' (by omega) h2] at w; cases w
          · omega
  have L : ∀ m r, r + m = P.1 → ∀ (R' : RS) (g : MH) (u5 u6 : Option MV), zRf g → mF h g → mS n R' g → rV n R' → R'.2.1.length + wg P c m r ≤ 40 → R'.2.2.2.2.1 + 2 * wg P c m r ≤ 1000 → (∀ s, r ≤ s → s < P.1 → P.2.2.1 s = c → ∀ k, pFr P s ≤ k → k < P.2.2.2.1 s → R'.2.2.1 k = false) → rRules P n lo c m r R' = rRules P n lo c P.1 0 R → J mX11_doesRules d 0 0 Q 0 0 8 [some (.inr (.inr 111)), some (.inl (nI p)), some (.inl (pBy c)), some (.inl (nI (162 * p))), some (.inl (nI r)), u5, u6] [] g := by
    intro m
    induction m with
    | zero =>
      intro r hrm R' g u5 u6 rg fg sg vg b1 b2 b3 e
      obtain ⟨p1, p2, p3⟩ := hp.keep fg
      refine u_X11_doesRules_8 rg ?_
      simp (disch := omega) only [xle_t, xle_f, xlt_t, xlt_f, xeq_t, xeq_f, xle0_t, xle0_f, xlt0_f, x0lt_t, x0lt_f, x0le_t, xeq0_t, xeq0_f, xin, xem_f, xme_f, xlem_f, xlm_f, xml_t, xmle_t, nI_clamp, nI_add, pk_mul, pk_sub, zI_s, zI_k, zI_o, zL_s, zL_k, zL_o, zR_s, zR_k, zR_o, zIL, zIR, zIN, zLI, zLR, zLN, zRI, zRL, zRN, true_and, and_true, not_true_eq_false, not_false_eq_true, true_implies, false_implies, implies_true, forall_const, if_true, if_false, eq_self, false_and, and_false, implies_true, nI_l, ylle_t, ylle_f, xcl_t, xcl_f, p1.1]
      have e' : R' = rRules P n lo c P.1 0 R := e
      rw [e'] at sg
      exact kk g rg fg sg
    | succ m ih =>
      intro r hrm R' g u5 u6 rg fg sg vg b1 b2 b3 e
      obtain ⟨p1, p2, p3⟩ := hp.keep fg
      obtain ⟨o1, o2, o3⟩ := hO.2.2.1 r (by omega)
      have e' : rRules P n lo c m (r + 1) (if P.2.2.1 r = c then rActs P n lo (P.2.2.2.1 r - pFr P r) (pFr P r) (rDone R' r) else R') = rRules P n lo c P.1 0 R := e
      have w' : wg P c (m + 1) r = (if P.2.2.1 r = c then pCnt P r else 0) + wg P c m (r + 1) := rfl
      refine u_X11_doesRules_8 rg ?_
      have eb : g.1 112 (76 + 162 * p + r) = pBy (P.2.2.1 r) := by
        rw [show 76 + 162 * p + r = 74 + 162 * p + 2 + r by omega]
        exact (p1.2.2.1 r (by omega)).1
      have ef : ∀ s, s < P.1 → g.1 112 (96 + 162 * p + s) = nI (pFr P s) := fun s hs => by
        rw [show 96 + 162 * p + s = 74 + 162 * p + 22 + s by omega]
        exact (p1.2.2.1 s hs).2
      have ea : g.1 112 (75 + 162 * p) = nI P.2.1 := by
        rw [show 75 + 162 * p = 74 + 162 * p + 1 by omega]
        exact p1.2.1
      have ef0 := ef r (by omega)
      have ebe := pBy_eq (b := P.2.2.1 r) (c := c) o1 hc
      by_cases z : P.2.2.1 r = c
      · rw [if_pos z] at e' w'
        have goal : J mX11_doesRules d 0 0 Q 0 0 112 [some (.inr (.inr 111)), some (.inl (nI p)), some (.inl (pBy c)), some (.inl (nI (162 * p))), some (.inl (nI r)), some (.inl (nI (P.2.2.2.1 r))), some (.inl (nI (pFr P r)))] [] (zsI g 111 29 ((g.1 111 29) ||| ((nI 1) <<< (nI r &&& 31)))) := by
          obtain ⟨q1, q2, q3, q4⟩ := rActs_b P n lo (P.2.2.2.1 r - pFr P r) (pFr P r) (rDone R' r)
          refine A r (by omega) (fun m' k' R2 => rActs P n lo m' k' R2 = rActs P n lo (P.2.2.2.1 r - pFr P r) (pFr P r) (rDone R' r)) (fun k' R2 g2 u5 u6 y r2 f2 s2 v2 => ?_) (fun m' k' R2 x => x) (P.2.2.2.1 r - pFr P r) (pFr P r) (by omega) (rDone R' r) _ rfl rg (fg.trans (mF_1 (by omega))) ?_ vg ?_ ?_ (fun k' h1 h2 => b3 r (Nat.le_refl _) (by omega) z k' h1 h2)
          · have y' : R2 = rActs P n lo (P.2.2.2.1 r - pFr P r) (pFr P r) (rDone R' r) := y
            have y2 : R2.2.1.length ≤ R'.2.1.length + pCnt P r := by rw [y']; exact q1
            have y3 : R2.2.2.2.2.1 ≤ R'.2.2.2.2.1 + 2 * pCnt P r := by rw [y']; exact q2
            refine ih (r + 1) (by omega) R2 g2 _ _ r2 f2 s2 v2 (by omega) (by omega) (fun s s1 s2 s3 k s4 s5 => ?_) ?_
            · cases w : R2.2.2.1 k with
              | false => rfl
              | true =>
                rw [y'] at w
                rcases q3 k w with x | x
                · have x' : R'.2.2.1 k = true := x
                  rw [b3 s (by omega) s2 s3 k s4 s5] at x'; cases x'
                · have := pFr_mono hO (show r < s by omega) (by omega)
                  omega
            · rw [y']; exact e'
          · obtain ⟨t1, t2, t3, t4, t5, t6, t7⟩ := sg.2
            refine ⟨sg.1.keep (fun a ha => zI_o _ _ _ (by omega)), ?_, fun k hk => ?_, ?_, fun k hk => ?_, ?_, ?_, ?_⟩
            · rw [zI_k _ _ _ (by omega)]; exact t1
            · rw [zI_o _ _ _ (by omega)]; exact t2 k hk
            · rw [zI_k _ _ _ (by omega)]; exact t3
            · rw [zI_o _ _ _ (by omega)]; exact t4 k hk
            · rw [zI_s, t5]; rfl
            · rw [zI_k _ _ _ (by omega)]; exact t6
            · rw [zI_k _ _ _ (by omega)]; exact t7
          · show R'.2.1.length + _ ≤ 40
            unfold pCnt at w'
            omega
          · show R'.2.2.2.2.1 + _ ≤ 1000
            unfold pCnt at w'
            omega
        by_cases r1 : r + 1 < P.1
        · have ef1 : g.1 112 (96 + 162 * p + r + 1) = nI (P.2.2.2.1 r) := by
            rw [Nat.add_assoc, ef (r + 1) r1, pFr_s]
          simp (disch := omega) only [xle_t, xle_f, xlt_t, xlt_f, xeq_t, xeq_f, xle0_t, xle0_f, xlt0_f, x0lt_t, x0lt_f, x0le_t, xeq0_t, xeq0_f, xin, xem_f, xme_f, xlem_f, xlm_f, xml_t, xmle_t, nI_clamp, nI_add, pk_mul, pk_sub, zI_s, zI_k, zI_o, zL_s, zL_k, zL_o, zR_s, zR_k, zR_o, zIL, zIR, zIN, zLI, zLR, zLN, zRI, zRL, zRN, true_and, and_true, not_true_eq_false, not_false_eq_true, true_implies, false_implies, implies_true, forall_const, if_true, if_false, eq_self, false_and, and_false, implies_true, nI_l, ylle_t, ylle_f, xcl_t, xcl_f, p1.1, eb, ebe, z, ef1, ef0]
          exact goal
        · have eA : P.2.1 = P.2.2.2.1 r := by
            have := hO.2.2.2.1
            rw [show P.1 = r + 1 by omega, pFr_s] at this
            exact this
          rw [eA] at ea
          simp (disch := omega) only [xle_t, xle_f, xlt_t, xlt_f, xeq_t, xeq_f, xle0_t, xle0_f, xlt0_f, x0lt_t, x0lt_f, x0le_t, xeq0_t, xeq0_f, xin, xem_f, xme_f, xlem_f, xlm_f, xml_t, xmle_t, nI_clamp, nI_add, pk_mul, pk_sub, zI_s, zI_k, zI_o, zL_s, zL_k, zL_o, zR_s, zR_k, zR_o, zIL, zIR, zIN, zLI, zLR, zLN, zRI, zRL, zRN, true_and, and_true, not_true_eq_false, not_false_eq_true, true_implies, false_implies, implies_true, forall_const, if_true, if_false, eq_self, false_and, and_false, implies_true, nI_l, ylle_t, ylle_f, xcl_t, xcl_f, p1.1, eb, ebe, z, ea, ef0]
          exact goal
      · rw [if_neg z] at e' w'
        have ebz : (pBy (P.2.2.1 r) = pBy c) = False := by rw [ebe]; exact eq_false z
        simp (disch := omega) only [xle_t, xle_f, xlt_t, xlt_f, xeq_t, xeq_f, xle0_t, xle0_f, xlt0_f, x0lt_t, x0lt_f, x0le_t, xeq0_t, xeq0_f, xin, xem_f, xme_f, xlem_f, xlm_f, xml_t, xmle_t, nI_clamp, nI_add, pk_mul, pk_sub, zI_s, zI_k, zI_o, zL_s, zL_k, zL_o, zR_s, zR_k, zR_o, zIL, zIR, zIN, zLI, zLR, zLN, zRI, zRL, zRN, true_and, and_true, not_true_eq_false, not_false_eq_true, true_implies, false_implies, implies_true, forall_const, if_true, if_false, eq_self, false_and, and_false, implies_true, nI_l, ylle_t, ylle_f, xcl_t, xcl_f, p1.1, eb, ebz]
        exact ih (r + 1) (by omega) R' g _ _ rg fg sg vg (by omega) (by omega) (fun s s1 => b3 s (by omega)) e'
  exact L P.1 0 (by omega) R h none none hr mF.rfl hS hV hbe hli (fun s _ s2 s3 => hcl s s2 s3) rfl
