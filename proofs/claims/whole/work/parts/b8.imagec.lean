/-! ===== the class's image ===== -/
theorem c_btakI {B : BK} {h : MH} {d b : Nat} {Q : Option MV → MH → Prop} (hr : zRf h) (hB : bOK B) (hA : bAt B h 15) (hb : 60 < b) (hz : ∀ h' : MH, h'.2.2.2 = h.2.2.2 → bZ h' b) (hd : 2 ≤ d) (kk : ∀ h', zRf h' → zF (fun a => a < b ∨ b + 30 < a) h h' → bAt B h' b → Q none h') : Con mX1_takeFrom d 0 0 [.inr (.inr b), .inr (.inr 15)] h Q := by
  have z0 := hz h rfl
  refine u_X1_takeFrom (d1' := 1) hr (by omega) ⟨z0.1, zo hr (by decide) rfl, ?_⟩
  refine u_X2_takeFrom hr (by omega) ⟨zo hr (by decide) rfl, z0.2.1, ?_⟩
  have qa := cT_at (a := b + 1) hA.1 hB.1 (by omega)
  have fa := cT_f h 16 (a := b + 1) (n1 := 8) (n2 := 48) (n3 := 8) (n4 := 8)
  have ra : zRf (zT5 h (b + 1) 16 8 48 8 8) := hr
  show J mX1_takeFrom d 0 0 Q 0 0 11 _ [] (zT5 h (b + 1) 16 8 48 8 8)
  generalize zT5 h (b + 1) 16 8 48 8 8 = h3 at qa fa ra
  refine u_X1_takeFrom_11 ?_
  have zp : ∀ p, p < 4 → (zk (22 + 6 * p)).1 = 5 := by decide
  have L : ∀ m p, p + m = 4 → ∀ g : MH, zRf g → zF (fun a => a < b ∨ b + 30 < a) h g → cAt B.1 g (b + 1) → (∀ q, q < p → pAt (B.2 q) g (b + 7 + 6 * q)) → J mX1_takeFrom d 0 0 Q 0 0 13 [some (.inr (.inr b)), some (.inr (.inr 15)), some (.inl (nI p))] [] g := by
    intro m
    induction m with
    | zero =>
      intro p hp g rg fg cg pg
      obtain rfl : p = 4 := by omega
      refine u_X1_takeFrom_13 (d1' := 0) rg (by omega) ?_
      simp (disch := omega) only [xle_t, xle_f, xlt_t, xlt_f, xeq_t, xeq_f, xle0_t, xle0_f, xlt0_f, x0lt_t, x0lt_f, x0le_t, xeq0_t, xeq0_f, xin, xem_f, xme_f, xlem_f, xlm_f, xml_t, xmle_t, nI_clamp, nI_add, pk_mul, pk_sub, zI_s, zI_k, zI_o, zL_s, zL_k, zL_o, zR_s, zR_k, zR_o, zIL, zIR, zIN, zLI, zLR, zLN, zRI, zRL, zRN, true_and, and_true, not_true_eq_false, not_false_eq_true, true_implies, false_implies, implies_true, forall_const, if_true, if_false, eq_self, false_and, and_false, implies_true, nI_l, ylle_t, ylle_f, xcl_t, xcl_f]
      exact kk g rg fg ⟨cg, pg⟩
    | succ m ih =>
      intro p hp g rg fg cg pg
      have zg := hz g fg.2
      have zb := zg.1
      have z15 : zokO g 15 1 := zo rg (by decide) rfl
      refine u_X1_takeFrom_13 (d1' := 1) rg (by omega) ?_
      simp (disch := omega) only [xle_t, xle_f, xlt_t, xlt_f, xeq_t, xeq_f, xle0_t, xle0_f, xlt0_f, x0lt_t, x0lt_f, x0le_t, xeq0_t, xeq0_f, xin, xem_f, xme_f, xlem_f, xlm_f, xml_t, xmle_t, nI_clamp, nI_add, pk_mul, pk_sub, zI_s, zI_k, zI_o, zL_s, zL_k, zL_o, zR_s, zR_k, zR_o, zIL, zIR, zIN, zLI, zLR, zLN, zRI, zRL, zRN, true_and, and_true, not_true_eq_false, not_false_eq_true, true_implies, false_implies, implies_true, forall_const, if_true, if_false, eq_self, false_and, and_false, implies_true, nI_l, ylle_t, ylle_f, xcl_t, xcl_f, zb, z15]
      rw [show 15 + 6 + 1 + 6 * p = 22 + 6 * p by omega, show b + 6 + 1 + 6 * p = b + 7 + 6 * p by omega]
      refine u_X5_takeFrom rg (by omega) ⟨zo rg (by omega) (zp p (by omega)), zg.2.2 p (by omega), ?_⟩
      have qb : pAt (B.2 p) g (22 + 6 * p) := by
        have := hA.2 p (by omega)
        rw [show 15 + 7 + 6 * p = 22 + 6 * p by omega] at this
        exact this.keep (fun k hk => fg.i (by omega))
      have qp := pT_at (a := b + 7 + 6 * p) qb (hB.2 p (by omega)) (by omega)
      have fp := pT_f g (22 + 6 * p) (a := b + 7 + 6 * p)
      have rp : zRf (zT6 g (b + 7 + 6 * p) (22 + 6 * p)) := rg
      show J mX1_takeFrom d 0 0 Q 0 0 33 _ [] (zT6 g (b + 7 + 6 * p) (22 + 6 * p))
      generalize zT6 g (b + 7 + 6 * p) (22 + 6 * p) = g2 at qp fp rp
      refine u_X1_takeFrom_33 ?_
      rw [nI_add]
      refine ih (p + 1) (by omega) g2 rp (fg.trans (fp.weak (fun a q => by omega))) (cg.keep (fun k hk => fp.i (by omega))) (fun q hq => ?_)
      by_cases y : q = p
      · rw [y]; exact qp
      · exact (pg q (by omega)).keep (fun k hk => fp.i (by omega))
  exact L 4 0 (by omega) h3 ra (fa.weak (fun a q => by omega)) qa (fun q hq => by omega)
theorem bZ_of {N b : Nat} (hN : N = 173 ∨ N = 204) (hb : b = 143 ∨ b = 174) (hle : b + 30 ≤ N) : ∀ h' : MH, h'.2.2.2 = N → bZ h' b := fun h' e => by
  have z : ∀ a c, 0 < a → a ≤ N → (zk a).1 = c → zokO h' a c := fun a c q1 q2 q3 => ⟨q1, by rw [e]; exact q2, q3⟩
  rcases hb with rfl | rfl
  · exact ⟨z _ _ (by omega) (by omega) (by decide), z _ _ (by omega) (by omega) (by decide), fun p hp => z _ _ (by omega) (by omega) ((by decide : ∀ p, p < 4 → (zk (143 + 7 + 6 * p)).1 = 5) p hp)⟩
  · exact ⟨z _ _ (by omega) (by omega) (by decide), z _ _ (by omega) (by omega) (by decide), fun p hp => z _ _ (by omega) (by omega) ((by decide : ∀ p, p < 4 → (zk (174 + 7 + 6 * p)).1 = 5) p hp)⟩
/-- the references of a new Book -/
def bkT (n : Nat) (f : Nat → Nat → Nat) : Bool := (List.range 31).all (fun o => (List.range 7).all (fun k => !(zir (n + o) k) || Nat.beq (f (n + o) k) (zR0 (n + o) k)))
theorem zir_7 : (List.range 31).all (fun o => (List.range 60).all (fun k => !(zir (143 + o) k) || Nat.blt k 7) && (List.range 60).all (fun k => !(zir (174 + o) k) || Nat.blt k 7)) = true := by decide +kernel
theorem bk142 (a : Nat → Nat → Int32) (b : Nat → Nat → Int64) (c : Nat → Nat → Nat) : bkT 143 (hX1 (zNw (a, b, c, 142))).2.2.1 = true := by rfl
theorem bk173 (a : Nat → Nat → Int32) (b : Nat → Nat → Int64) (c : Nat → Nat → Nat) : bkT 174 (hX1 (zNw (a, b, c, 173))).2.2.1 = true := by rfl
