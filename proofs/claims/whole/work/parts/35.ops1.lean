/-! ===== length, meet, piece: the answers, both sides ===== -/
def zix (x : Int32) (n : Nat) : Option Nat := if x < 0 then none else if x.toNatClampNeg < n then some x.toNatClampNeg else none
theorem zix_s {x : Int32} {n c : Nat} (h : zix x n = some c) : c < n ∧ x = nI c := by
  unfold zix at h
  split at h
  · cases h
  · rename_i q
    split at h
    · rename_i q2
      obtain ⟨j, hj, rfl⟩ := nI_of q
      rw [nI_clamp hj] at h q2
      cases h
      exact ⟨q2, rfl⟩
    · cases h
theorem zix_n {n c : Nat} (h : c < n) (hn : n < 2 ^ 31) : zix (nI c) n = some c := by
  unfold zix
  rw [if_neg (nI_pos (by omega)), nI_clamp (by omega), if_pos h]
theorem zix_o {x : Int32} {n : Nat} (h : zix x n = none) (hn : n < 2 ^ 31) : ¬ ∃ c, c < n ∧ x = nI c := by
  rintro ⟨c, hc, rfl⟩
  rw [zix_n hc hn] at h
  cases h
theorem zix_lo {x : Int32} {n : Nat} (h : zix x n = none) (h0 : ¬ x < 0) (hn : n < 2 ^ 31) : nI n ≤ x := by
  obtain ⟨j, hj, rfl⟩ := nI_of h0
  refine nI_le ?_ hj
  rcases Nat.lt_or_ge j n with q | q
  · rw [zix_n q hn] at h; cases h
  · exact q
def fLen (C : CE) (x y : Int32) : Int32 := match zix x C.1 with
  | none => -(nI 2)
  | some c => match zix y (cS C c + 1) with
    | none => -(nI 3)
    | some s => nI (cTh C c s true)
def fMeet (C : CE) (x : Int32) : Int32 := match zix x C.1 with
  | none => -(nI 2)
  | some c => nI (cTh C c (cS C c / 2) false)
def fPiece (C : CE) (x y : Int32) (e : Bool) : Int32 := match zix x C.1 with
  | none => -(nI 2)
  | some c => match zix y (cS C c + 1) with
    | none => -(nI 3)
    | some s => rO (cnx C c e s (C.2.1 c) 0)
theorem o_length {C : CE} {h : MH} {d : Nat} {Q : Option MV → MH → Prop} (hr : zRf h) (hA : cAt C h 16) (hC : cOK C) (hd : 5 ≤ d) {x y : Int32} (kk : Q (some (.inl (fLen C x y))) h) : Con mX10_length d 0 0 [.inr (.inr 1), .inl x, .inl y] h Q := by
  have h8 := hC.1
  have ho : zokO h 16 2 := zo hr (by decide) rfl
  cases hx : zix x C.1 with
  | none =>
    have e : fLen C x y = -(nI 2) := by unfold fLen; rw [hx]
    rw [e] at kk
    refine t_X10_length (d1' := 0) hr (by omega) (by omega) (fun _ => kk) (fun _ _ => kk) (fun p q => ?_) (fun p q => ?_)
    · exact absurd (by rw [hA.1]; exact zix_lo hx p (by omega)) q
    · exact absurd (by rw [hA.1]; exact zix_lo hx p (by omega)) q
  | some c =>
    obtain ⟨hc, rfl⟩ := zix_s hx
    have hS := cS_le hC hc
    refine t_X10_length (d1' := 4) hr (by omega) (by omega) (fun p => absurd p (nI_pos (by omega))) (fun _ q => ?_) (fun _ _ p => ?_) (fun _ _ p => ?_)
    · rw [hA.1, nI_leI (by omega) (by omega)] at q; omega
    · have e : fLen C (nI c) y = -(nI 3) := by unfold fLen zix; simp only [if_pos p]; rw [show (if nI c < 0 then none else _) = zix (nI c) C.1 from rfl, hx]
      rw [e] at kk
      exact kk
    · refine c_sof hr hA ho hC hc (by omega) ?_
      obtain ⟨s, hs, rfl⟩ := nI_of p
      refine t_X10_length_29 (d1' := 4) (by omega) (fun _ => ho) (fun q => ?_) (fun q => ?_)
      · rw [nI_leI hs (by omega)] at q
        refine c_thou hr hA ho hC hc (by omega) (by omega) true (by decide) ?_
        refine t_X10_length_42 ?_
        have e : fLen C (nI c) (nI s) = nI (cTh C c s true) := by simp only [fLen, hx, zix_n (show s < cS C c + 1 by omega) (by omega)]
        rw [e] at kk
        exact kk
      · rw [nI_leI hs (by omega)] at q
        have e : fLen C (nI c) (nI s) = -(nI 3) := by
          have : zix (nI s) (cS C c + 1) = none := by
            unfold zix
            rw [if_neg (nI_pos hs), nI_clamp hs, if_neg (by omega)]
          unfold fLen
          rw [hx]
          show (match zix (nI s) (cS C c + 1) with | none => _ | some s => _) = _
          rw [this]
        rw [e] at kk
        exact kk
theorem o_meet {C : CE} {h : MH} {d : Nat} {Q : Option MV → MH → Prop} (hr : zRf h) (hA : cAt C h 16) (hC : cOK C) (hd : 5 ≤ d) {x : Int32} (kk : Q (some (.inl (fMeet C x))) h) : Con mX10_meet d 0 0 [.inr (.inr 1), .inl x] h Q := by
  have h8 := hC.1
  have ho : zokO h 16 2 := zo hr (by decide) rfl
  cases hx : zix x C.1 with
  | none =>
    have e : fMeet C x = -(nI 2) := by unfold fMeet; rw [hx]
    rw [e] at kk
    refine t_X10_meet (d1' := 0) hr (by omega) (by omega) (fun _ => kk) (fun _ _ => kk) (fun p q => ?_)
    exact absurd (by rw [hA.1]; exact zix_lo hx p (by omega)) q
  | some c =>
    obtain ⟨hc, rfl⟩ := zix_s hx
    have hS := cS_le hC hc
    refine t_X10_meet (d1' := 4) hr (by omega) (by omega) (fun p => absurd p (nI_pos (by omega))) (fun _ q => ?_) (fun _ _ => ?_)
    · rw [hA.1, nI_leI (by omega) (by omega)] at q; omega
    · refine c_sof hr hA ho hC hc (by omega) ?_
      refine t_X10_meet_26 (d1' := 4) (by omega) ho ?_
      rw [pk_div (by omega) (by omega) (by omega)]
      refine c_thou hr hA ho hC hc (by omega) (by omega) false (by decide) ?_
      refine t_X10_meet_32 ?_
      have e : fMeet C (nI c) = nI (cTh C c (cS C c / 2) false) := by unfold fMeet; rw [hx]
      rw [e] at kk
      exact kk
theorem o_piece {C : CE} {h : MH} {d : Nat} {Q : Option MV → MH → Prop} (hr : zRf h) (hA : cAt C h 16) (hC : cOK C) (hd : 5 ≤ d) {x y w : Int32} (e : Bool) (he : w = 0 ↔ e = false) (kk : Q (some (.inl (fPiece C x y e))) h) : Con mX10_piece d 0 0 [.inr (.inr 1), .inl x, .inl y, .inl w] h Q := by
  have h8 := hC.1
  have ho : zokO h 16 2 := zo hr (by decide) rfl
  cases hx : zix x C.1 with
  | none =>
    have e9 : fPiece C x y e = -(nI 2) := by unfold fPiece; rw [hx]
    rw [e9] at kk
    refine t_X10_piece (d1' := 0) hr (by omega) (by omega) (fun _ => kk) (fun _ _ => kk) (fun p q => ?_) (fun p q => ?_)
    · exact absurd (by rw [hA.1]; exact zix_lo hx p (by omega)) q
    · exact absurd (by rw [hA.1]; exact zix_lo hx p (by omega)) q
  | some c =>
    obtain ⟨hc, rfl⟩ := zix_s hx
    have hS := cS_le hC hc
    have hno : zix y (cS C c + 1) = none → Q (some (.inl (-(nI 3)))) h := by
      intro q
      have e9 : fPiece C (nI c) y e = -(nI 3) := by
        unfold fPiece
        rw [hx]
        show (match zix y (cS C c + 1) with | none => _ | some s => _) = _
        rw [q]
      rw [e9] at kk
      exact kk
    refine t_X10_piece (d1' := 4) hr (by omega) (by omega) (fun p => absurd p (nI_pos (by omega))) (fun _ q => ?_) (fun _ _ p => ?_) (fun _ _ p => ?_)
    · rw [hA.1, nI_leI (by omega) (by omega)] at q; omega
    · exact hno (by unfold zix; rw [if_pos p])
    · refine c_sof hr hA ho hC hc (by omega) ?_
      obtain ⟨s, hs, rfl⟩ := nI_of p
      refine t_X10_piece_32 (d1' := 4) (by omega) (fun _ => ho) (fun q => ?_) (fun q => ?_)
      · rw [nI_leI hs (by omega)] at q
        refine c_next hr hA ho hC hc (by omega) (by omega) e he ?_
        refine t_X10_piece_46 ?_
        have e9 : fPiece C (nI c) (nI s) e = rO (cnx C c e s (C.2.1 c) 0) := by simp only [fPiece, hx, zix_n (show s < cS C c + 1 by omega) (by omega)]
        rw [e9] at kk
        exact kk
      · rw [nI_leI hs (by omega)] at q
        exact hno (by unfold zix; rw [if_neg (nI_pos hs), nI_clamp hs, if_neg (by omega)])
