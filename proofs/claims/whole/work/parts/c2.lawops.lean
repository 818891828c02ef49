/-! ===== the law: several instructions at once ===== -/
def lls (k : Nat) : List (Option MV) := [some (.inr (.inr 1012)), some (.inr (.inr 1)), some (.inr (.inr 111)), some (.inl (nI (6 * k)))]
section JLo
variable {E : LE} {cells slots pc k : Nat} {ls : List (Option MV)} {st : List MV} {h : MH} {S S' : SS}
theorem L_arg {T : List (Nat × Instr)} {n : Int} {j : Nat} (F : LF E) (q : zdc code T = true) (i : Nat) (h0 : T[i]? = some (pc, .aload_n 0)) (h1 : T[i + 1]? = some (pc + 1, .iload_n 3)) (h2 : T[i + 2]? = some (pc + 2, .iconst n)) (h3 : T[i + 3]? = some (pc + 3, .iadd)) (h4 : T[i + 4]? = some (pc + 4, .iaload)) (hn : Int32.ofInt n = nI j) (hj : 6 * k + j < lL E) (hL : lL E ≤ 3072) (kk : JL E cells slots (pc + 5) (lls k) (.inl (lX E (6 * k + j)) :: st) h) : JL E cells slots pc (lls k) st h := by
  refine L_aload_n F (zat q i h0) rfl ?_
  refine L_iload_n F (zat q _ h1) rfl ?_
  refine L_iconst F (zat q _ h2) ?_
  refine L_iadd F (zat q _ h3) ?_
  rw [hn, nI_add]
  refine L_iald F (zat q _ h4) (vp_in_nI hj (by omega)) ?_
  rw [nI_clamp (by omega)]
  exact kk
theorem L_bool {T : List (Nat × Instr)} {x : Int32} (F : LF E) (q : zdc code T = true) (i : Nat) (h0 : T[i]? = some (pc, .ifCond .eq 7)) (h1 : T[i + 1]? = some (pc + 3, .iconst 1)) (h2 : T[i + 2]? = some (pc + 4, .goto 4)) (h3 : T[i + 3]? = some (pc + 7, .iconst 0)) (kk : JL E cells slots (pc + 8) ls (.inl (bI (!(x == 0))) :: st) h) : JL E cells slots pc ls (.inl x :: st) h := by
  refine L_if_eq F (zat q i h0) (by omega) (fun z => ?_) (fun z => ?_)
  · rw [show ((pc : Int) + 7).toNat = pc + 7 by omega]
    refine L_iconst F (zat q _ h3) ?_
    rw [z] at kk
    exact kk
  · refine L_iconst F (zat q _ h1) ?_
    refine L_goto F (zat q _ h2) (by omega) ?_
    rw [show (((pc + 3 + 1 : Nat) : Int) + 4).toNat = pc + 8 by omega]
    have e : (!(x == 0)) = true := by simp [z]
    rw [e] at kk
    exact kk
theorem L_callC {N : MM} {idx n mc' ms' : Nat} {as : List MV} {r : MV} (F : LF E) (hdg : decode code pc = .ok (.invokevirtual idx, 3)) (hk : zLv "UnevenWaxLaw" idx n N) (hcn : zcn 10 = N.1.cls) (hn : as.length = n) (hm : cells + mc' ≤ 600000 ∧ slots + ms' ≤ 7302250) (hr : zRf h) (hC : sC S h) (hM : sM S h) (p : cOp N mc' ms' as S S' r)
    (kk : ∀ h', zRf h' → sO S' → sC S' h' → sM S h' → JL E (cells + mc') (slots + ms') (pc + 3) (lls k) [r] h') : JL E cells slots pc (lls k) (as.reverse ++ [.inr (.inr 1)]) h := by
  have hn142 := hr.n
  refine L_callV F hdg hk (d' := 1000) (Nat.le_refl _) hn (Nat.zero_le _) hm (fun _ => ⟨fun v hv => absurd hv (List.not_mem_nil), fun v hv => ?_⟩) (ci := 10) (by decide) hcn ⟨by decide, by omega, by decide +kernel⟩ (p h 1000 (fun r' h' => ∃ h2, h2 = h' ∧ r' = some r ∧ zRf h' ∧ sO S' ∧ sC S' h' ∧ sM S h') (by decide) hr hC hM (fun h' a1 a2 a3 a4 => ⟨h', rfl, rfl, a1, a2, a3, a4⟩)) (fun r' h' z => ?_)
  · rcases List.mem_cons.mp hv with e | hv
    · cases e; exact Or.inr (by decide)
    rcases List.mem_cons.mp hv with e | hv
    · cases e; exact Or.inl (by omega)
    rcases List.mem_cons.mp hv with e | hv
    · cases e; exact Or.inl (by omega)
    rcases List.mem_cons.mp hv with e | hv
    · cases e; trivial
    · cases hv
  · obtain ⟨_, _, rfl, a1, a2, a3, a4⟩ := z
    exact kk h' a1 a2 a3 a4
theorem L_callM {N : MM} {idx n : Nat} {as : List MV} {r r0 : MV} (F : LF E) (hdg : decode code pc = .ok (.invokevirtual idx, 3)) (hk : zLv "UnevenWaxLaw" idx n N) (hcn : zcn 11 = N.1.cls) (hn : as.length = n) (hm : cells + 0 ≤ 600000 ∧ slots + 0 ≤ 7302250) (hr : zRf h) (hC : sC S' h) (hM : sM S h) (p : mOp N as S S' r)
    (kk : ∀ h', zRf h' → sC S' h' → sM S' h' → JL E cells slots (pc + 3) (lls k) [r, r0] h') : JL E cells slots pc (lls k) (as.reverse ++ [.inr (.inr 111), r0]) h := by
  have hn142 := hr.n
  refine L_callV F hdg hk (d' := 1000) (Nat.le_refl _) hn (Nat.le_of_ble_eq_true rfl) hm (fun z => absurd rfl z) (ci := 11) (by decide) hcn ⟨by decide, by omega, by decide +kernel⟩ (p h 1000 (fun r' h' => r' = some r ∧ zRf h' ∧ sC S' h' ∧ sM S' h') (by decide) hr hC hM (fun h' a1 a2 a3 => ⟨rfl, a1, a2, a3⟩)) (fun r' h' z => ?_)
  obtain ⟨rfl, a1, a3, a4⟩ := z
  exact kk h' a1 a3 a4
theorem L_same {T : List (Nat × Instr)} {off : Int} {x : Int32} (F : LF E) (q : zdc code T = true) (i : Nat) (h0 : T[i]? = some (pc, .if_icmp .eq off)) (hp : (pc : Int) + off = 2190) (kk : JL E cells slots 2190 ls st h) : JL E cells slots pc ls (.inl x :: .inl x :: st) h := by
  refine L_icmp_eq F (zat q i h0) (by omega) (fun _ => ?_) (fun z => absurd rfl z)
  rw [hp]
  exact kk
theorem L_sameL {T : List (Nat × Instr)} {off : Int} {x : Int64} (F : LF E) (q : zdc code T = true) (i : Nat) (h0 : T[i]? = some (pc, .lcmp)) (h1 : T[i + 1]? = some (pc + 1, .ifCond .eq off)) (hp : ((pc + 1 : Nat) : Int) + off = 2190) (kk : JL E cells slots 2190 ls st h) : JL E cells slots pc ls (.inr (.inl x) :: .inr (.inl x) :: st) h := by
  refine L_lcmp F (zat q i h0) ?_
  have e : lg_cmp x x = 0 := by
    unfold lg_cmp
    rw [if_neg (by simp), if_pos rfl]
  rw [e]
  refine L_if_eq F (zat q _ h1) (by omega) (fun _ => ?_) (fun z => absurd rfl z)
  rw [hp]
  exact kk
def LK (E : LE) (cells slots k : Nat) : Prop := ∀ (S' : SS) (h' : MH), zRf h' → sO S' → sC S' h' → sM S' h' → JL E (cells + 31) (slots + 751) 2190 (lls k) [] h'
end JLo
