/-! ===== the operations that change the state ===== -/
section CH
variable {S : SS}
theorem offC.k {B : BK} {h h' : MH} (q : offC B h) (f : zF (fun a => 58 ≤ a ∧ a ≤ 61) h h') : offC B h' := q.keep (f.i (by omega)) (f.i (by omega)) (f.i (by omega))
theorem sC.caches {h h' : MH} (q : sC S h) (f : zF (fun a => (58 ≤ a ∧ a ≤ 61) ∨ (97 ≤ a ∧ a ≤ 102)) h h') : offC S.1 h' ∧ (wMk S.1.1 false 98 h' ∧ wMk S.1.1 true 100 h') ∧ aMk S.1.1 h' := ⟨q.2.2.2.2.2.1.k (f.weak (fun a q => by omega)), ⟨q.2.2.2.2.2.2.1.1.keep (f.i (by omega)) (f.l (by omega)), q.2.2.2.2.2.2.1.2.keep (f.i (by omega)) (f.l (by omega))⟩, q.2.2.2.2.2.2.2.keep (f.i (by omega)) (f.l (by omega))⟩
theorem p_feed (hO : sO S) (a b c d e : Int32) : cOp mX10_feed 0 0 [.inl a, .inl b, .inl c, .inl d, .inl e] S (S.1, tFeed S.2.1 a b c d e, S.2.2) (.inl (fFeed S.2.1)) ∧ mOp mX11_feed [.inl a, .inl b, .inl c, .inl d, .inl e] S (S.1, tFeed S.2.1 a b c d e, S.2.2) (.inl (fFeed S.2.1)) := by
  refine ⟨fun h n Q hd hr hc hm kk => o_feed hr hc.2.1 hO.2.1 (by omega) (fun h' r' f' t' => ?_), fun h n Q hd hr hc hm kk => n_feed hr hm.2.1 hO.2.1 (fun h' r' f' e13 e14 e28 t' => ?_)⟩
  · obtain ⟨q1, q2, q3, q4, q5, _, _, _⟩ := id hc
    obtain ⟨w1, w2, w3⟩ := hc.caches (f'.weak (fun a q => by omega))
    exact kk h' r' ⟨hO.1, tFeed_ok _ _ _ _ _ hO.2.1, hO.2.2⟩ ⟨q1.keep (fun k hk => f'.i (by omega)), t', by rw [f'.i (by omega)]; exact q3, q4.keep (f'.weak (fun a q => by omega)), q5.keep (f'.weak (fun a q => by omega)), w1, w2, w3⟩ (hm.k (f'.weak (fun a q => by omega)))
  · obtain ⟨q1, q2, q3, q4, q5, q6⟩ := hm
    exact kk h' r' (hc.mk (f'.weak (fun a q => by omega))) ⟨by rw [f'.i (by omega)]; exact q1, t', ⟨e13.trans q3.1, e14.trans q3.2⟩, q4.keep (f'.weak (fun a q => by omega)), fun i hi => by rw [f'.i (a := 113) (by omega), f'.i (a := 112) (by omega)]; exact q5 i hi, e28.trans q6⟩
theorem sC.rw {h h' : MH} {W : RW} (hc : sC S h) (f : zF (fun a => a < 48 ∨ (57 < a ∧ a < 103) ∨ 110 < a) h h') (w : rwC W h') : sC (S.1, S.2.1, S.2.2.1, W, S.2.2.2.2) h' := by
  obtain ⟨q1, q2, q3, q4, q5, _, _, _⟩ := id hc
  obtain ⟨w1, w2, w3⟩ := hc.caches (f.weak (fun a q => by omega))
  exact ⟨q1.keep (fun k hk => f.i (by omega)), q2.keep' (f.i (by omega)) (f.i (by omega)), by rw [f.i (by omega)]; exact q3, w, q5.keep (f.weak (fun a q => by omega)), w1, w2, w3⟩
theorem sM.rw {h h' : MH} {W : RW} (hm : sM S h) (f : zF (fun a => a ≤ 110 ∨ 142 < a ∨ a = 112 ∨ a = 113 ∨ a = 114) h h') (k5 : h'.1 111 5 = h.1 111 5) (k13 : h'.1 111 13 = h.1 111 13) (k14 : h'.1 111 14 = h.1 111 14) (k28 : h'.1 111 28 = h.1 111 28) (w : rwM W h') : sM (S.1, S.2.1, S.2.2.1, W, S.2.2.2.2) h' := by
  obtain ⟨q1, q2, q3, q4, q5, q6⟩ := hm
  refine ⟨by rw [f.i (by omega)]; exact q1, ⟨k5.trans q2.1, fun k hk => by rw [f.i (by omega)]; exact q2.2 k hk⟩, ⟨k13.trans q3.1, k14.trans q3.2⟩, w, fun i hi => by rw [f.i (a := 113) (by omega), f.i (a := 112) (by omega)]; exact q5 i hi, k28.trans q6⟩
theorem p_numbers (hO : sO S) (x y z : Int32) : cOp mX10_numbers 0 0 [.inl x, .inl y, .inl z] S (S.1, S.2.1, S.2.2.1, wNum S.2.2.2.1 x y z, S.2.2.2.2) (.inl (gNum x y z)) ∧ mOp mX11_numbers [.inl x, .inl y, .inl z] S (S.1, S.2.1, S.2.2.1, wNum S.2.2.2.1 x y z, S.2.2.2.2) (.inl (gNum x y z)) :=
  ⟨fun h n Q hd hr hc hm kk => o_num hr hc.2.2.2.1 (by omega) (fun h' r' f' w' => kk h' r' ⟨hO.1, hO.2.1, rwOK_num hO.2.2.1 _ _ _, hO.2.2.2⟩ (hc.rw (zF.weak f' (fun a q => by omega)) w') (hm.k (zF.weak f' (fun a q => by omega)))), fun h n Q hd hr hc hm kk => n_num hr hm.2.2.2.1 hO.2.2.1 (by omega) (fun h' r' f' w' => kk h' r' (hc.mk (f'.1.weak (fun a q => by omega))) (hm.rw (f'.1.weak (fun a q => by omega)) (f'.2 5 (by omega)) (f'.2 13 (by omega)) (f'.2 14 (by omega)) (f'.2 28 (by omega)) w'))⟩
theorem p_write (hO : sO S) (x y : Int32) (v : Int64) : cOp mX10_write 0 0 [.inl x, .inl y, .inr (.inl v)] S (S.1, S.2.1, S.2.2.1, wWri S.2.2.2.1 x y v, S.2.2.2.2) (.inr (.inl (gWri S.2.2.2.1 x y v))) ∧ mOp mX11_write [.inl x, .inl y, .inr (.inl v)] S (S.1, S.2.1, S.2.2.1, wWri S.2.2.2.1 x y v, S.2.2.2.2) (.inr (.inl (gWri S.2.2.2.1 x y v))) :=
  ⟨fun h n Q hd hr hc hm kk => o_wri hr hc.2.2.2.1 hO.2.2.1 (by omega) (fun h' r' f' w' => kk h' r' ⟨hO.1, hO.2.1, rwOK_wri hO.2.2.1 _ _ _, hO.2.2.2⟩ (hc.rw (zF.weak f' (fun a q => by omega)) w') (hm.k (zF.weak f' (fun a q => by omega)))), fun h n Q hd hr hc hm kk => n_wri hr hm.2.2.2.1 hO.2.2.1 (by omega) (fun h' r' f' w' => kk h' r' (hc.mk (f'.1.weak (fun a q => by omega))) (hm.rw (f'.1.weak (fun a q => by omega)) (f'.2 5 (by omega)) (f'.2 13 (by omega)) (f'.2 14 (by omega)) (f'.2 28 (by omega)) w'))⟩
theorem p_copy (hO : sO S) (x y : Int32) : cOp mX10_copy 0 0 [.inl x, .inl y] S (S.1, S.2.1, S.2.2.1, wCopy S.1 S.2.2.2.1 x y, S.2.2.2.2) (.inl (gCopy S.1 S.2.2.2.1 x y)) ∧ mOp mX11_copy [.inl x, .inl y] S (S.1, S.2.1, S.2.2.1, wCopy S.1 S.2.2.2.1 x y, S.2.2.2.2) (.inl (gCopy S.1 S.2.2.2.1 x y)) :=
  ⟨fun h n Q hd hr hc hm kk => o_copy hr hc.1 hO.1 hc.2.2.2.1 hO.2.2.1 (by omega) (fun h' r' f' w' => kk h' r' ⟨hO.1, hO.2.1, rwOK_copy hO.2.2.1 _ _, hO.2.2.2⟩ (hc.rw f' w') (hm.k (f'.weak (fun a q => by omega)))), fun h n Q hd hr hc hm kk => n_copy hr hm.1 hO.1 hm.2.2.2.2.2 hm.2.2.2.1 hO.2.2.1 (by omega) (fun h' r' f' k' w' => kk h' r' (hc.mk (f'.weak (fun a q => by omega))) (hm.rw f' (k' 5 (by omega)) (k' 13 (by omega)) (k' 14 (by omega)) (k' 28 (by omega)) w'))⟩
/-! cellar, plan -/
theorem neg30 (e : Nat) : -(nI 30) - nI e = -(nI (30 + e)) := by
  rw [← nI_add, Int32.neg_add]
theorem tCk {n : Nat} {h : MH} (hT : tC S.2.1 h) (hO : tOK S.2.1) (hn : n ≤ S.2.1.1) : kC S.2.1.2 n h := ⟨Nat.le_trans hn hO.1, fun k hk => ⟨hT.2 k (by omega), hO.2 k (by omega)⟩⟩
theorem tMk {n : Nat} {h : MH} (hT : tM S.2.1 h) (hO : tOK S.2.1) (hn : n ≤ S.2.1.1) : kM S.2.1.2 n h := ⟨Nat.le_trans hn hO.1, fun k hk => ⟨hT.2 k (by omega), hO.2 k (by omega)⟩⟩
/-- a number within the tape, or not -/
theorem rng_c (x : Int32) {T : Nat} (hT : T < 2 ^ 31) : (x < 0 ∨ ¬ x ≤ nI T) ∨ ∃ n, n ≤ T ∧ x = nI n := by
  by_cases c : x < 0
  · exact Or.inl (Or.inl c)
  · by_cases c2 : x ≤ nI T
    · obtain ⟨j, hj, rfl⟩ := nI_of c
      rw [nI_leI hj hT] at c2
      exact Or.inr ⟨j, c2, rfl⟩
    · exact Or.inl (Or.inr c2)
theorem rng_64 {x : Int32} {T : Nat} (hT : T < 2 ^ 31) (h : x < 0 ∨ ¬ x ≤ nI T) : (lN 0 ≤ x.toInt64 ∧ x.toInt64 ≤ (nI T).toInt64) = False := eq_false (fun ⟨q1, q2⟩ => by
  rw [wle, w64] at q1
  rw [wle, w64, w64] at q2
  have z : (lN 0).toInt = 0 := rfl
  rcases h with h | h
  · rw [Int32.lt_iff_toInt_lt] at h
    have : (0 : Int32).toInt = 0 := rfl
    omega
  · exact h (Int32.le_iff_toInt_le.mpr q2))
theorem n_cel3 {T : Nat} {x : Int32} {h : MH} {d : Nat} {Q : Option MV → MH → Prop} (hr : zRf h) (h5 : h.1 111 5 = nI T) (hT : T < 2 ^ 31) (hd : 1 ≤ d) (hx : x < 0 ∨ ¬ x ≤ nI T) (kk : Q (some (.inl (-(nI 3)))) (zsI h 111 0 (nI 0))) : Con mX11_cellar d 0 0 [.inr (.inr 111), .inl x] h Q := by
  refine u_X11_cellar (d1' := 0) hr (by omega) (by omega) ?_
  have e5 : (zsI h 111 0 (nI 0)).1 111 5 = nI T := (zI_k _ _ _ (by decide)).trans h5
  rw [e5]
  have f := rng_64 hT hx
  refine ⟨fun q1 => ⟨fun q2 => ?_, fun _ => kk⟩, fun _ => kk⟩
  exact (f.mp ⟨q1, q2⟩).elim
end CH
