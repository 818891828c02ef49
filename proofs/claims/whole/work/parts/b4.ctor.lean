/-! ===== constructors: the small ones ===== -/
theorem zlt0 (n k : Nat) (h : 0 < k) : n < n + k := Nat.lt_add_of_pos_right h
theorem zl_0 {P : MV → Prop} : ∀ v, some v ∈ ([] : List (Option MV)) → P v := fun _ q => absurd q List.not_mem_nil
theorem zl_n {P : MV → Prop} {ls : List (Option MV)} (h : ∀ v, some v ∈ ls → P v) : ∀ v, some v ∈ (none :: ls) → P v := fun v q => by
  rcases List.mem_cons.mp q with e | e
  · cases e
  · exact h v e
theorem zl_s {P : MV → Prop} {ls : List (Option MV)} {a : MV} (ha : P a) (h : ∀ v, some v ∈ ls → P v) : ∀ v, some v ∈ (some a :: ls) → P v := fun v q => by
  rcases List.mem_cons.mp q with e | e
  · cases e; exact ha
  · exact h v e
theorem zM2r {n : Nat} {h : MH} {b : Nat} (hb : b ≤ h.2.2.2) : (zM2 n h).2.2.1 b = h.2.2.1 b := by
  show (if b = h.2.2.2 + 1 then fun j => h.2.2.2 + 1 + 1 + j else if h.2.2.2 < b ∧ b ≤ h.2.2.2 + (1 + n) then fun _ => 0 else h.2.2.1 b) = _
  rw [if_neg (by omega), if_neg (by omega)]
theorem zvh_M {n : Nat} {h : MH} (hv : zvh h) (hk : zk (h.2.2.2 + 1) = (33, n)) : zvh (zM2 n h) := fun o k h1 h2 h3 => by
  have e2 : (zM2 n h).2.2.2 = h.2.2.2 + (1 + n) := rfl
  rw [e2] at h2 ⊢
  by_cases z : o ≤ h.2.2.2
  · rw [zM2r z]
    have := hv o k h1 z h3
    omega
  · show (if o = h.2.2.2 + 1 then fun j => h.2.2.2 + 1 + 1 + j else if h.2.2.2 < o ∧ o ≤ h.2.2.2 + (1 + n) then fun _ => 0 else h.2.2.1 o) k ≤ _
    by_cases y : o = h.2.2.2 + 1
    · rw [if_pos y]
      have hb : k < n := by
        unfold zir at h3
        rw [y, hk] at h3
        exact Nat.blt_eq.mp h3
      show h.2.2.2 + 1 + 1 + k ≤ _
      omega
    · rw [if_neg y, if_pos ⟨by omega, h2⟩]
      omega
section CT
variable {M : MM} {d mc ms : Nat} {Q : Option MV → MH → Prop} {cells slots pc : Nat} {ls : List (Option MV)} {st : List MV} {h : MH}
theorem zJs {v w : MV} (e : w = v) (k : J M d mc ms Q cells slots pc ls (v :: st) h) : J M d mc ms Q cells slots pc ls (w :: st) h := by
  rw [e]
  exact k
theorem s_ctor {N : MM} {idx d' mc' ms' a : Nat} (hdg : decode M.2.1 pc = .ok (.invokespecial idx, 3)) (hns : (M.1.cls, idx, N.1) ∈ zns) (hi : Cond.initialized N.1.cls ∈ zgw) (hc : Cond.code N.1 N.2.1 N.2.2.1 N.2.2.2 ∈ zgw) (hy2 : N.1.cls ≠ "java/lang/invoke/MethodHandle" ∧ N.1.cls ≠ "java/lang/invoke/VarHandle" ∧ (parseMethodDescriptor N.1.desc).map (fun d => d.parameters.length) = some 0) (hx : N.2.2.1 ≤ 41) (hin : Cond.instanceMethod N.1 ∈ zgw) (hy : N.1.name = "<init>") (hr : N.2.2.2 = none) (hd : d' + 1 ≤ d) (hs : st.length ≤ 4) (hm : cells + mc' ≤ mc ∧ slots + ms' ≤ ms) (hv : mc' ≠ 0 → zvs h ls st) (ha : 0 < a)
    (hC : Con N d' mc' ms' [.inr (.inr a)] h (zrv fun h' => J M d mc ms Q (cells + mc') (slots + ms') (pc + 3) ls st h')) : J M d mc ms Q cells slots pc ls (.inr (.inr a) :: st) h :=
  s_callN hdg hns hi hc hy2 hx hin hy hr hd hs hm hv ha hC (fun r h' hq => by
    match r, hq with
    | none, hq => exact hq
    | some _, hq => exact hq.elim)
theorem s_ctoI {N : MM} {idx n d' mc' ms' a : Nat} {as : List MV} (hdg : decode M.2.1 pc = .ok (.invokespecial idx, 3)) (hk : zLk M.1.cls idx n N) (hin : Cond.instanceMethod N.1 ∈ zgw) (hy : N.1.name = "<init>") (hr : N.2.2.2 = none) (hd : d' + 1 ≤ d) (hn : as.length = n) (hs : st.length ≤ 4) (hm : cells + mc' ≤ mc ∧ slots + ms' ≤ ms) (hv : mc' ≠ 0 → zvs h ls st) (ha : 0 < a)
    (hC : Con N d' mc' ms' (.inr (.inr a) :: as) h (zrv fun h' => J M d mc ms Q (cells + mc') (slots + ms') (pc + 3) ls st h')) : J M d mc ms Q cells slots pc ls (as.reverse ++ .inr (.inr a) :: st) h :=
  s_callI hdg hk hin hy hr hd hn hs hm hv ha hC (fun r h' hq => by
    match r, hq with
    | none, hq => exact hq
    | some _, hq => exact hq.elim)
end CT
theorem wO_2 : Cond.methodLink "UnevenWax$Cellar" 3 objectInit ∈ zgw := zin_gw (i := 178) (by decide +kernel) rfl
theorem wO_i : Cond.instanceMethod objectInit ∈ zgw := zin_gw (i := 136) (by decide +kernel) rfl
theorem wO_c : Cond.code objectInit ⟨#[0xb1]⟩ 1 none ∈ zgw := zin_gw (i := 137) (by decide +kernel) rfl
theorem wR_int : Cond.arrayClass .int ∈ zgw := zin_gw (i := 172) (by decide +kernel) rfl
theorem wO_5 : Cond.methodLink "UnevenWax$Plan" 3 objectInit ∈ zgw := zin_gw (i := 213) (by decide +kernel) rfl
theorem wO_6 : Cond.methodLink "UnevenWax$Reader" 3 objectInit ∈ zgw := zin_gw (i := 143) (by decide +kernel) rfl
theorem wO_8 : Cond.methodLink "UnevenWax$Run" 3 objectInit ∈ zgw := zin_gw (i := 274) (by decide +kernel) rfl
theorem wO_4 : Cond.methodLink "UnevenWax$Offs" 3 objectInit ∈ zgw := zin_gw (i := 343) (by decide +kernel) rfl
theorem wO_9 : Cond.methodLink "UnevenWax$Ways" 3 objectInit ∈ zgw := zin_gw (i := 369) (by decide +kernel) rfl
theorem wU_9 : Cond.classLink "UnevenWax$Ways" 18 "[[I" ∈ zgw := zin_gw (i := 370) (by decide +kernel) rfl
theorem wO_0 : Cond.methodLink "UnevenWax$Along" 5 objectInit ∈ zgw := zin_gw (i := 428) (by decide +kernel) rfl
theorem wU_0 : Cond.classLink "UnevenWax$Along" 18 "[[I" ∈ zgw := zin_gw (i := 429) (by decide +kernel) rfl
theorem wO_3 : Cond.methodLink "UnevenWax$Marks" 3 objectInit ∈ zgw := zin_gw (i := 454) (by decide +kernel) rfl
theorem wR_long : Cond.arrayClass .long ∈ zgw := zin_gw (i := 462) (by decide +kernel) rfl
theorem wO_7 : Cond.methodLink "UnevenWax$Row" 3 objectInit ∈ zgw := zin_gw (i := 467) (by decide +kernel) rfl
def hX2 (h : MH) : MH :=
  let g1 := zNw h
  let g2 := zsR g1 h.2.2.2 1 (h.2.2.2 + 1)
  let g3 := zNw g2
  let g4 := zsR g3 h.2.2.2 2 (h.2.2.2 + 2)
  let g5 := zNw g4
  let g6 := zsR g5 h.2.2.2 3 (h.2.2.2 + 3)
  let g7 := zNw g6
  let g8 := zsR g7 h.2.2.2 4 (h.2.2.2 + 4)
  g8
theorem nX2 (h : MH) : (hX2 h).2.2.2 = h.2.2.2 + 4 := rfl
theorem rX2 {h : MH} {b : Nat} (hb : b < h.2.2.2) : (hX2 h).2.2.1 b = h.2.2.1 b := ((zR_o _ _ _ (Nat.ne_of_lt hb)).trans ((zNr (Nat.ne_of_lt (Nat.lt_of_lt_of_le hb (Nat.le_add_right h.2.2.2 4)))).trans ((zR_o _ _ _ (Nat.ne_of_lt hb)).trans ((zNr (Nat.ne_of_lt (Nat.lt_of_lt_of_le hb (Nat.le_add_right h.2.2.2 3)))).trans ((zR_o _ _ _ (Nat.ne_of_lt hb)).trans ((zNr (Nat.ne_of_lt (Nat.lt_of_lt_of_le hb (Nat.le_add_right h.2.2.2 2)))).trans ((zR_o _ _ _ (Nat.ne_of_lt hb)).trans ((zNr (Nat.ne_of_lt (Nat.lt_of_lt_of_le hb (Nat.le_add_right h.2.2.2 1)))).trans rfl))))))))
theorem vX2 {h : MH} (hz : ∀ i, i < 5 → zk (h.2.2.2 + i) = zk (4 + i)) (hv : zvh h) : zvh (hX2 h) := (zvh_R (zvh_N (zvh_R (zvh_N (zvh_R (zvh_N (zvh_R (zvh_N hv) (Nat.add_le_add_left (Nat.le_of_ble_eq_true rfl : 1 ≤ 1) h.2.2.2))) (Nat.add_le_add_left (Nat.le_of_ble_eq_true rfl : 2 ≤ 2) h.2.2.2))) (Nat.add_le_add_left (Nat.le_of_ble_eq_true rfl : 3 ≤ 3) h.2.2.2))) (Nat.add_le_add_left (Nat.le_of_ble_eq_true rfl : 4 ≤ 4) h.2.2.2))
theorem tX2 {h : MH} {d : Nat} {Q : Option MV → MH → Prop} (hz : ∀ i, i < 5 → zk (h.2.2.2 + i) = zk (4 + i)) (h0 : 0 < h.2.2.2) (hv : zvh h) (hd : 1 ≤ d) (kk : Q none (hX2 h)) : Con mX2_init d 4 72 [.inr (.inr h.2.2.2)] h Q := by
  refine Con.intro (by decide) (Nat.le_of_ble_eq_true rfl) ?_
  refine s_aload_n (zat qX2_init 0 (by rfl)) rfl ?_
  refine s_objInit (zat qX2_init 1 (by rfl)) wO_2 wO_i wO_c (by omega) (Nat.le_of_ble_eq_true rfl) h0 ?_
  refine s_aload_n (zat qX2_init 2 (by rfl)) rfl ?_
  refine s_bipush (zat qX2_init 3 (by rfl)) ?_
  refine s_newi dX2_init_7 wR_int (by decide) (by decide) (Nat.le_of_ble_eq_true rfl) ((hz 1 (Nat.le_of_ble_eq_true rfl)).trans rfl) hv ⟨(List.forall_mem_cons.mpr ⟨Or.inl (Nat.le_add_right h.2.2.2 0), (fun _ q => absurd q List.not_mem_nil)⟩), (zl_s (Or.inl (Nat.le_add_right h.2.2.2 0)) zl_0)⟩ ⟨Nat.le_of_ble_eq_true rfl, Nat.le_of_ble_eq_true rfl⟩ ?_
  refine s_putf (o := 2) (c := 2) (k := 1) (zat qX2_init 4 (by rfl)) rfl (by rfl) (by rfl) (Or.inr ⟨rfl, rfl⟩) ⟨h0, (Nat.le_add_right h.2.2.2 1), (congrArg Prod.fst ((hz 0 (Nat.le_of_ble_eq_true rfl)).trans rfl))⟩ (fun q => absurd q (by decide)) ?_
  refine s_aload_n (zat qX2_init 5 (by rfl)) rfl ?_
  refine s_bipush (zat qX2_init 6 (by rfl)) ?_
  refine s_newi dX2_init_15 wR_int (by decide) (by decide) (Nat.le_of_ble_eq_true rfl) ((hz 2 (Nat.le_of_ble_eq_true rfl)).trans rfl) (zvh_R (zvh_N hv) (Nat.add_le_add_left (Nat.le_of_ble_eq_true rfl : 1 ≤ 1) h.2.2.2)) ⟨(List.forall_mem_cons.mpr ⟨Or.inl (Nat.le_add_right h.2.2.2 1), (fun _ q => absurd q List.not_mem_nil)⟩), (zl_s (Or.inl (Nat.le_add_right h.2.2.2 1)) zl_0)⟩ ⟨Nat.le_of_ble_eq_true rfl, Nat.le_of_ble_eq_true rfl⟩ ?_
  refine s_putf (o := 2) (c := 2) (k := 2) (zat qX2_init 7 (by rfl)) rfl (by rfl) (by rfl) (Or.inr ⟨rfl, rfl⟩) ⟨h0, (Nat.le_add_right h.2.2.2 2), (congrArg Prod.fst ((hz 0 (Nat.le_of_ble_eq_true rfl)).trans rfl))⟩ (fun q => absurd q (by decide)) ?_
  refine s_aload_n (zat qX2_init 8 (by rfl)) rfl ?_
  refine s_bipush (zat qX2_init 9 (by rfl)) ?_
  refine s_newi dX2_init_23 wR_int (by decide) (by decide) (Nat.le_of_ble_eq_true rfl) ((hz 3 (Nat.le_of_ble_eq_true rfl)).trans rfl) (zvh_R (zvh_N (zvh_R (zvh_N hv) (Nat.add_le_add_left (Nat.le_of_ble_eq_true rfl : 1 ≤ 1) h.2.2.2))) (Nat.add_le_add_left (Nat.le_of_ble_eq_true rfl : 2 ≤ 2) h.2.2.2)) ⟨(List.forall_mem_cons.mpr ⟨Or.inl (Nat.le_add_right h.2.2.2 2), (fun _ q => absurd q List.not_mem_nil)⟩), (zl_s (Or.inl (Nat.le_add_right h.2.2.2 2)) zl_0)⟩ ⟨Nat.le_of_ble_eq_true rfl, Nat.le_of_ble_eq_true rfl⟩ ?_
  refine s_putf (o := 2) (c := 2) (k := 3) (zat qX2_init 10 (by rfl)) rfl (by rfl) (by rfl) (Or.inr ⟨rfl, rfl⟩) ⟨h0, (Nat.le_add_right h.2.2.2 3), (congrArg Prod.fst ((hz 0 (Nat.le_of_ble_eq_true rfl)).trans rfl))⟩ (fun q => absurd q (by decide)) ?_
  refine s_aload_n (zat qX2_init 11 (by rfl)) rfl ?_
  refine s_bipush (zat qX2_init 12 (by rfl)) ?_
  refine s_newi dX2_init_31 wR_int (by decide) (by decide) (Nat.le_of_ble_eq_true rfl) ((hz 4 (Nat.le_of_ble_eq_true rfl)).trans rfl) (zvh_R (zvh_N (zvh_R (zvh_N (zvh_R (zvh_N hv) (Nat.add_le_add_left (Nat.le_of_ble_eq_true rfl : 1 ≤ 1) h.2.2.2))) (Nat.add_le_add_left (Nat.le_of_ble_eq_true rfl : 2 ≤ 2) h.2.2.2))) (Nat.add_le_add_left (Nat.le_of_ble_eq_true rfl : 3 ≤ 3) h.2.2.2)) ⟨(List.forall_mem_cons.mpr ⟨Or.inl (Nat.le_add_right h.2.2.2 3), (fun _ q => absurd q List.not_mem_nil)⟩), (zl_s (Or.inl (Nat.le_add_right h.2.2.2 3)) zl_0)⟩ ⟨Nat.le_of_ble_eq_true rfl, Nat.le_of_ble_eq_true rfl⟩ ?_
  refine s_putf (o := 2) (c := 2) (k := 4) (zat qX2_init 13 (by rfl)) rfl (by rfl) (by rfl) (Or.inr ⟨rfl, rfl⟩) ⟨h0, (Nat.le_add_right h.2.2.2 4), (congrArg Prod.fst ((hz 0 (Nat.le_of_ble_eq_true rfl)).trans rfl))⟩ (fun q => absurd q (by decide)) ?_
  exact J_vret (zat qX2_init 14 (by rfl)) rfl (Nat.le_refl _) (Nat.le_refl _) kk
def hX5 (h : MH) : MH :=
  let g1 := zNw h
  let g2 := zsR g1 h.2.2.2 2 (h.2.2.2 + 1)
  let g3 := zNw g2
  let g4 := zsR g3 h.2.2.2 3 (h.2.2.2 + 2)
  let g5 := zNw g4
  let g6 := zsR g5 h.2.2.2 4 (h.2.2.2 + 3)
  let g7 := zNw g6
  let g8 := zsR g7 h.2.2.2 5 (h.2.2.2 + 4)
  let g9 := zNw g8
  let g10 := zsR g9 h.2.2.2 6 (h.2.2.2 + 5)
  g10
theorem nX5 (h : MH) : (hX5 h).2.2.2 = h.2.2.2 + 5 := rfl
theorem rX5 {h : MH} {b : Nat} (hb : b < h.2.2.2) : (hX5 h).2.2.1 b = h.2.2.1 b := ((zR_o _ _ _ (Nat.ne_of_lt hb)).trans ((zNr (Nat.ne_of_lt (Nat.lt_of_lt_of_le hb (Nat.le_add_right h.2.2.2 5)))).trans ((zR_o _ _ _ (Nat.ne_of_lt hb)).trans ((zNr (Nat.ne_of_lt (Nat.lt_of_lt_of_le hb (Nat.le_add_right h.2.2.2 4)))).trans ((zR_o _ _ _ (Nat.ne_of_lt hb)).trans ((zNr (Nat.ne_of_lt (Nat.lt_of_lt_of_le hb (Nat.le_add_right h.2.2.2 3)))).trans ((zR_o _ _ _ (Nat.ne_of_lt hb)).trans ((zNr (Nat.ne_of_lt (Nat.lt_of_lt_of_le hb (Nat.le_add_right h.2.2.2 2)))).trans ((zR_o _ _ _ (Nat.ne_of_lt hb)).trans ((zNr (Nat.ne_of_lt (Nat.lt_of_lt_of_le hb (Nat.le_add_right h.2.2.2 1)))).trans rfl))))))))))
theorem vX5 {h : MH} (hz : ∀ i, i < 6 → zk (h.2.2.2 + i) = zk (9 + i)) (hv : zvh h) : zvh (hX5 h) := (zvh_R (zvh_N (zvh_R (zvh_N (zvh_R (zvh_N (zvh_R (zvh_N (zvh_R (zvh_N hv) (Nat.add_le_add_left (Nat.le_of_ble_eq_true rfl : 1 ≤ 1) h.2.2.2))) (Nat.add_le_add_left (Nat.le_of_ble_eq_true rfl : 2 ≤ 2) h.2.2.2))) (Nat.add_le_add_left (Nat.le_of_ble_eq_true rfl : 3 ≤ 3) h.2.2.2))) (Nat.add_le_add_left (Nat.le_of_ble_eq_true rfl : 4 ≤ 4) h.2.2.2))) (Nat.add_le_add_left (Nat.le_of_ble_eq_true rfl : 5 ≤ 5) h.2.2.2))
theorem tX5 {h : MH} {d : Nat} {Q : Option MV → MH → Prop} (hz : ∀ i, i < 6 → zk (h.2.2.2 + i) = zk (9 + i)) (h0 : 0 < h.2.2.2) (hv : zvh h) (hd : 1 ≤ d) (kk : Q none (hX5 h)) : Con mX5_init d 5 160 [.inr (.inr h.2.2.2)] h Q := by
  refine Con.intro (by decide) (Nat.le_of_ble_eq_true rfl) ?_
  refine s_aload_n (zat qX5_init 0 (by rfl)) rfl ?_
  refine s_objInit (zat qX5_init 1 (by rfl)) wO_5 wO_i wO_c (by omega) (Nat.le_of_ble_eq_true rfl) h0 ?_
  refine s_aload_n (zat qX5_init 2 (by rfl)) rfl ?_
  refine s_bipush (zat qX5_init 3 (by rfl)) ?_
  refine s_newi dX5_init_7 wR_int (by decide) (by decide) (Nat.le_of_ble_eq_true rfl) ((hz 1 (Nat.le_of_ble_eq_true rfl)).trans rfl) hv ⟨(List.forall_mem_cons.mpr ⟨Or.inl (Nat.le_add_right h.2.2.2 0), (fun _ q => absurd q List.not_mem_nil)⟩), (zl_s (Or.inl (Nat.le_add_right h.2.2.2 0)) zl_0)⟩ ⟨Nat.le_of_ble_eq_true rfl, Nat.le_of_ble_eq_true rfl⟩ ?_
  refine s_putf (o := 5) (c := 5) (k := 2) (zat qX5_init 4 (by rfl)) rfl (by rfl) (by rfl) (Or.inr ⟨rfl, rfl⟩) ⟨h0, (Nat.le_add_right h.2.2.2 1), (congrArg Prod.fst ((hz 0 (Nat.le_of_ble_eq_true rfl)).trans rfl))⟩ (fun q => absurd q (by decide)) ?_
  refine s_aload_n (zat qX5_init 5 (by rfl)) rfl ?_
  refine s_bipush (zat qX5_init 6 (by rfl)) ?_
  refine s_newi dX5_init_15 wR_int (by decide) (by decide) (Nat.le_of_ble_eq_true rfl) ((hz 2 (Nat.le_of_ble_eq_true rfl)).trans rfl) (zvh_R (zvh_N hv) (Nat.add_le_add_left (Nat.le_of_ble_eq_true rfl : 1 ≤ 1) h.2.2.2)) ⟨(List.forall_mem_cons.mpr ⟨Or.inl (Nat.le_add_right h.2.2.2 1), (fun _ q => absurd q List.not_mem_nil)⟩), (zl_s (Or.inl (Nat.le_add_right h.2.2.2 1)) zl_0)⟩ ⟨Nat.le_of_ble_eq_true rfl, Nat.le_of_ble_eq_true rfl⟩ ?_
  refine s_putf (o := 5) (c := 5) (k := 3) (zat qX5_init 7 (by rfl)) rfl (by rfl) (by rfl) (Or.inr ⟨rfl, rfl⟩) ⟨h0, (Nat.le_add_right h.2.2.2 2), (congrArg Prod.fst ((hz 0 (Nat.le_of_ble_eq_true rfl)).trans rfl))⟩ (fun q => absurd q (by decide)) ?_
  refine s_aload_n (zat qX5_init 8 (by rfl)) rfl ?_
  refine s_bipush (zat qX5_init 9 (by rfl)) ?_
  refine s_newi dX5_init_23 wR_int (by decide) (by decide) (Nat.le_of_ble_eq_true rfl) ((hz 3 (Nat.le_of_ble_eq_true rfl)).trans rfl) (zvh_R (zvh_N (zvh_R (zvh_N hv) (Nat.add_le_add_left (Nat.le_of_ble_eq_true rfl : 1 ≤ 1) h.2.2.2))) (Nat.add_le_add_left (Nat.le_of_ble_eq_true rfl : 2 ≤ 2) h.2.2.2)) ⟨(List.forall_mem_cons.mpr ⟨Or.inl (Nat.le_add_right h.2.2.2 2), (fun _ q => absurd q List.not_mem_nil)⟩), (zl_s (Or.inl (Nat.le_add_right h.2.2.2 2)) zl_0)⟩ ⟨Nat.le_of_ble_eq_true rfl, Nat.le_of_ble_eq_true rfl⟩ ?_
  refine s_putf (o := 5) (c := 5) (k := 4) (zat qX5_init 10 (by rfl)) rfl (by rfl) (by rfl) (Or.inr ⟨rfl, rfl⟩) ⟨h0, (Nat.le_add_right h.2.2.2 3), (congrArg Prod.fst ((hz 0 (Nat.le_of_ble_eq_true rfl)).trans rfl))⟩ (fun q => absurd q (by decide)) ?_
  refine s_aload_n (zat qX5_init 11 (by rfl)) rfl ?_
  refine s_bipush (zat qX5_init 12 (by rfl)) ?_
  refine s_newi dX5_init_31 wR_int (by decide) (by decide) (Nat.le_of_ble_eq_true rfl) ((hz 4 (Nat.le_of_ble_eq_true rfl)).trans rfl) (zvh_R (zvh_N (zvh_R (zvh_N (zvh_R (zvh_N hv) (Nat.add_le_add_left (Nat.le_of_ble_eq_true rfl : 1 ≤ 1) h.2.2.2))) (Nat.add_le_add_left (Nat.le_of_ble_eq_true rfl : 2 ≤ 2) h.2.2.2))) (Nat.add_le_add_left (Nat.le_of_ble_eq_true rfl : 3 ≤ 3) h.2.2.2)) ⟨(List.forall_mem_cons.mpr ⟨Or.inl (Nat.le_add_right h.2.2.2 3), (fun _ q => absurd q List.not_mem_nil)⟩), (zl_s (Or.inl (Nat.le_add_right h.2.2.2 3)) zl_0)⟩ ⟨Nat.le_of_ble_eq_true rfl, Nat.le_of_ble_eq_true rfl⟩ ?_
  refine s_putf (o := 5) (c := 5) (k := 5) (zat qX5_init 13 (by rfl)) rfl (by rfl) (by rfl) (Or.inr ⟨rfl, rfl⟩) ⟨h0, (Nat.le_add_right h.2.2.2 4), (congrArg Prod.fst ((hz 0 (Nat.le_of_ble_eq_true rfl)).trans rfl))⟩ (fun q => absurd q (by decide)) ?_
  refine s_aload_n (zat qX5_init 14 (by rfl)) rfl ?_
  refine s_bipush (zat qX5_init 15 (by rfl)) ?_
  refine s_newi dX5_init_39 wR_int (by decide) (by decide) (Nat.le_of_ble_eq_true rfl) ((hz 5 (Nat.le_of_ble_eq_true rfl)).trans rfl) (zvh_R (zvh_N (zvh_R (zvh_N (zvh_R (zvh_N (zvh_R (zvh_N hv) (Nat.add_le_add_left (Nat.le_of_ble_eq_true rfl : 1 ≤ 1) h.2.2.2))) (Nat.add_le_add_left (Nat.le_of_ble_eq_true rfl : 2 ≤ 2) h.2.2.2))) (Nat.add_le_add_left (Nat.le_of_ble_eq_true rfl : 3 ≤ 3) h.2.2.2))) (Nat.add_le_add_left (Nat.le_of_ble_eq_true rfl : 4 ≤ 4) h.2.2.2)) ⟨(List.forall_mem_cons.mpr ⟨Or.inl (Nat.le_add_right h.2.2.2 4), (fun _ q => absurd q List.not_mem_nil)⟩), (zl_s (Or.inl (Nat.le_add_right h.2.2.2 4)) zl_0)⟩ ⟨Nat.le_of_ble_eq_true rfl, Nat.le_of_ble_eq_true rfl⟩ ?_
  refine s_putf (o := 5) (c := 5) (k := 6) (zat qX5_init 16 (by rfl)) rfl (by rfl) (by rfl) (Or.inr ⟨rfl, rfl⟩) ⟨h0, (Nat.le_add_right h.2.2.2 5), (congrArg Prod.fst ((hz 0 (Nat.le_of_ble_eq_true rfl)).trans rfl))⟩ (fun q => absurd q (by decide)) ?_
  exact J_vret (zat qX5_init 17 (by rfl)) rfl (Nat.le_refl _) (Nat.le_refl _) kk
def hX6 (h : MH) : MH :=
  let g1 := zNw h
  let g2 := zsR g1 h.2.2.2 0 (h.2.2.2 + 1)
  let g3 := zsI g2 h.2.2.2 7 (-(nI 1))
  g3
theorem nX6 (h : MH) : (hX6 h).2.2.2 = h.2.2.2 + 1 := rfl
theorem rX6 {h : MH} {b : Nat} (hb : b < h.2.2.2) : (hX6 h).2.2.1 b = h.2.2.1 b := ((zR_o _ _ _ (Nat.ne_of_lt hb)).trans ((zNr (Nat.ne_of_lt (Nat.lt_of_lt_of_le hb (Nat.le_add_right h.2.2.2 1)))).trans rfl))
theorem vX6 {h : MH} (hz : ∀ i, i < 2 → zk (h.2.2.2 + i) = zk (2 + i)) (hv : zvh h) : zvh (hX6 h) := (zvh_I (zvh_R (zvh_N hv) (Nat.add_le_add_left (Nat.le_of_ble_eq_true rfl : 1 ≤ 1) h.2.2.2)))
theorem tX6 {h : MH} {d : Nat} {Q : Option MV → MH → Prop} (hz : ∀ i, i < 2 → zk (h.2.2.2 + i) = zk (2 + i)) (h0 : 0 < h.2.2.2) (hv : zvh h) (hd : 1 ≤ d) (kk : Q none (hX6 h)) : Con mX6_init d 1 400 [.inr (.inr h.2.2.2)] h Q := by
  refine Con.intro (by decide) (Nat.le_of_ble_eq_true rfl) ?_
  refine s_aload_n (zat qX6_init 0 (by rfl)) rfl ?_
  refine s_objInit (zat qX6_init 1 (by rfl)) wO_6 wO_i wO_c (by omega) (Nat.le_of_ble_eq_true rfl) h0 ?_
  refine s_aload_n (zat qX6_init 2 (by rfl)) rfl ?_
  refine s_sipush (zat qX6_init 3 (by rfl)) ?_
  refine s_newi dX6_init_8 wR_int (by decide) (by decide) (Nat.le_of_ble_eq_true rfl) ((hz 1 (Nat.le_of_ble_eq_true rfl)).trans rfl) hv ⟨(List.forall_mem_cons.mpr ⟨Or.inl (Nat.le_add_right h.2.2.2 0), (fun _ q => absurd q List.not_mem_nil)⟩), (zl_s (Or.inl (Nat.le_add_right h.2.2.2 0)) zl_0)⟩ ⟨Nat.le_of_ble_eq_true rfl, Nat.le_of_ble_eq_true rfl⟩ ?_
  refine s_putf (o := 6) (c := 6) (k := 0) (zat qX6_init 4 (by rfl)) rfl (by rfl) (by rfl) (Or.inr ⟨rfl, rfl⟩) ⟨h0, (Nat.le_add_right h.2.2.2 1), (congrArg Prod.fst ((hz 0 (Nat.le_of_ble_eq_true rfl)).trans rfl))⟩ (fun q => absurd q (by decide)) ?_
  refine s_aload_n (zat qX6_init 5 (by rfl)) rfl ?_
  refine s_iconst (zat qX6_init 6 (by rfl)) ?_
  refine s_putf (o := 6) (c := 6) (k := 7) (zat qX6_init 7 (by rfl)) rfl (by rfl) (by rfl) (Or.inl rfl) ⟨h0, (Nat.le_add_right h.2.2.2 1), (congrArg Prod.fst ((hz 0 (Nat.le_of_ble_eq_true rfl)).trans rfl))⟩ (fun q => absurd q (by decide)) ?_
  exact J_vret (zat qX6_init 8 (by rfl)) rfl (Nat.le_refl _) (Nat.le_refl _) kk
def hX8 (h : MH) : MH :=
  let g1 := zNw h
  let g2 := zsR g1 h.2.2.2 1 (h.2.2.2 + 1)
  let g3 := zNw g2
  let g4 := zsR g3 h.2.2.2 2 (h.2.2.2 + 2)
  let g5 := zNw g4
  let g6 := zsR g5 h.2.2.2 3 (h.2.2.2 + 3)
  let g7 := zNw g6
  let g8 := zsR g7 h.2.2.2 4 (h.2.2.2 + 4)
  let g9 := zNw g8
  let g10 := zsR g9 h.2.2.2 5 (h.2.2.2 + 5)
  let g11 := zNw g10
  let g12 := zsR g11 h.2.2.2 6 (h.2.2.2 + 6)
  let g13 := zNw g12
  let g14 := zsR g13 h.2.2.2 7 (h.2.2.2 + 7)
  let g15 := zNw g14
  let g16 := zsR g15 h.2.2.2 8 (h.2.2.2 + 8)
  g16
theorem nX8 (h : MH) : (hX8 h).2.2.2 = h.2.2.2 + 8 := rfl
theorem rX8 {h : MH} {b : Nat} (hb : b < h.2.2.2) : (hX8 h).2.2.1 b = h.2.2.1 b := ((zR_o _ _ _ (Nat.ne_of_lt hb)).trans ((zNr (Nat.ne_of_lt (Nat.lt_of_lt_of_le hb (Nat.le_add_right h.2.2.2 8)))).trans ((zR_o _ _ _ (Nat.ne_of_lt hb)).trans ((zNr (Nat.ne_of_lt (Nat.lt_of_lt_of_le hb (Nat.le_add_right h.2.2.2 7)))).trans ((zR_o _ _ _ (Nat.ne_of_lt hb)).trans ((zNr (Nat.ne_of_lt (Nat.lt_of_lt_of_le hb (Nat.le_add_right h.2.2.2 6)))).trans ((zR_o _ _ _ (Nat.ne_of_lt hb)).trans ((zNr (Nat.ne_of_lt (Nat.lt_of_lt_of_le hb (Nat.le_add_right h.2.2.2 5)))).trans ((zR_o _ _ _ (Nat.ne_of_lt hb)).trans ((zNr (Nat.ne_of_lt (Nat.lt_of_lt_of_le hb (Nat.le_add_right h.2.2.2 4)))).trans ((zR_o _ _ _ (Nat.ne_of_lt hb)).trans ((zNr (Nat.ne_of_lt (Nat.lt_of_lt_of_le hb (Nat.le_add_right h.2.2.2 3)))).trans ((zR_o _ _ _ (Nat.ne_of_lt hb)).trans ((zNr (Nat.ne_of_lt (Nat.lt_of_lt_of_le hb (Nat.le_add_right h.2.2.2 2)))).trans ((zR_o _ _ _ (Nat.ne_of_lt hb)).trans ((zNr (Nat.ne_of_lt (Nat.lt_of_lt_of_le hb (Nat.le_add_right h.2.2.2 1)))).trans rfl))))))))))))))))
theorem vX8 {h : MH} (hz : ∀ i, i < 9 → zk (h.2.2.2 + i) = zk (48 + i)) (hv : zvh h) : zvh (hX8 h) := (zvh_R (zvh_N (zvh_R (zvh_N (zvh_R (zvh_N (zvh_R (zvh_N (zvh_R (zvh_N (zvh_R (zvh_N (zvh_R (zvh_N (zvh_R (zvh_N hv) (Nat.add_le_add_left (Nat.le_of_ble_eq_true rfl : 1 ≤ 1) h.2.2.2))) (Nat.add_le_add_left (Nat.le_of_ble_eq_true rfl : 2 ≤ 2) h.2.2.2))) (Nat.add_le_add_left (Nat.le_of_ble_eq_true rfl : 3 ≤ 3) h.2.2.2))) (Nat.add_le_add_left (Nat.le_of_ble_eq_true rfl : 4 ≤ 4) h.2.2.2))) (Nat.add_le_add_left (Nat.le_of_ble_eq_true rfl : 5 ≤ 5) h.2.2.2))) (Nat.add_le_add_left (Nat.le_of_ble_eq_true rfl : 6 ≤ 6) h.2.2.2))) (Nat.add_le_add_left (Nat.le_of_ble_eq_true rfl : 7 ≤ 7) h.2.2.2))) (Nat.add_le_add_left (Nat.le_of_ble_eq_true rfl : 8 ≤ 8) h.2.2.2))
theorem tX8 {h : MH} {d : Nat} {Q : Option MV → MH → Prop} (hz : ∀ i, i < 9 → zk (h.2.2.2 + i) = zk (48 + i)) (h0 : 0 < h.2.2.2) (hv : zvh h) (hd : 1 ≤ d) (kk : Q none (hX8 h)) : Con mX8_init d 8 96 [.inr (.inr h.2.2.2)] h Q := by
  refine Con.intro (by decide) (Nat.le_of_ble_eq_true rfl) ?_
  refine s_aload_n (zat qX8_init 0 (by rfl)) rfl ?_
  refine s_objInit (zat qX8_init 1 (by rfl)) wO_8 wO_i wO_c (by omega) (Nat.le_of_ble_eq_true rfl) h0 ?_
  refine s_aload_n (zat qX8_init 2 (by rfl)) rfl ?_
  refine s_bipush (zat qX8_init 3 (by rfl)) ?_
  refine s_newi dX8_init_7 wR_int (by decide) (by decide) (Nat.le_of_ble_eq_true rfl) ((hz 1 (Nat.le_of_ble_eq_true rfl)).trans rfl) hv ⟨(List.forall_mem_cons.mpr ⟨Or.inl (Nat.le_add_right h.2.2.2 0), (fun _ q => absurd q List.not_mem_nil)⟩), (zl_s (Or.inl (Nat.le_add_right h.2.2.2 0)) zl_0)⟩ ⟨Nat.le_of_ble_eq_true rfl, Nat.le_of_ble_eq_true rfl⟩ ?_
  refine s_putf (o := 8) (c := 8) (k := 1) (zat qX8_init 4 (by rfl)) rfl (by rfl) (by rfl) (Or.inr ⟨rfl, rfl⟩) ⟨h0, (Nat.le_add_right h.2.2.2 1), (congrArg Prod.fst ((hz 0 (Nat.le_of_ble_eq_true rfl)).trans rfl))⟩ (fun q => absurd q (by decide)) ?_
  refine s_aload_n (zat qX8_init 5 (by rfl)) rfl ?_
  refine s_bipush (zat qX8_init 6 (by rfl)) ?_
  refine s_newi dX8_init_15 wR_int (by decide) (by decide) (Nat.le_of_ble_eq_true rfl) ((hz 2 (Nat.le_of_ble_eq_true rfl)).trans rfl) (zvh_R (zvh_N hv) (Nat.add_le_add_left (Nat.le_of_ble_eq_true rfl : 1 ≤ 1) h.2.2.2)) ⟨(List.forall_mem_cons.mpr ⟨Or.inl (Nat.le_add_right h.2.2.2 1), (fun _ q => absurd q List.not_mem_nil)⟩), (zl_s (Or.inl (Nat.le_add_right h.2.2.2 1)) zl_0)⟩ ⟨Nat.le_of_ble_eq_true rfl, Nat.le_of_ble_eq_true rfl⟩ ?_
  refine s_putf (o := 8) (c := 8) (k := 2) (zat qX8_init 7 (by rfl)) rfl (by rfl) (by rfl) (Or.inr ⟨rfl, rfl⟩) ⟨h0, (Nat.le_add_right h.2.2.2 2), (congrArg Prod.fst ((hz 0 (Nat.le_of_ble_eq_true rfl)).trans rfl))⟩ (fun q => absurd q (by decide)) ?_
  refine s_aload_n (zat qX8_init 8 (by rfl)) rfl ?_
  refine s_bipush (zat qX8_init 9 (by rfl)) ?_
  refine s_newi dX8_init_23 wR_int (by decide) (by decide) (Nat.le_of_ble_eq_true rfl) ((hz 3 (Nat.le_of_ble_eq_true rfl)).trans rfl) (zvh_R (zvh_N (zvh_R (zvh_N hv) (Nat.add_le_add_left (Nat.le_of_ble_eq_true rfl : 1 ≤ 1) h.2.2.2))) (Nat.add_le_add_left (Nat.le_of_ble_eq_true rfl : 2 ≤ 2) h.2.2.2)) ⟨(List.forall_mem_cons.mpr ⟨Or.inl (Nat.le_add_right h.2.2.2 2), (fun _ q => absurd q List.not_mem_nil)⟩), (zl_s (Or.inl (Nat.le_add_right h.2.2.2 2)) zl_0)⟩ ⟨Nat.le_of_ble_eq_true rfl, Nat.le_of_ble_eq_true rfl⟩ ?_
  refine s_putf (o := 8) (c := 8) (k := 3) (zat qX8_init 10 (by rfl)) rfl (by rfl) (by rfl) (Or.inr ⟨rfl, rfl⟩) ⟨h0, (Nat.le_add_right h.2.2.2 3), (congrArg Prod.fst ((hz 0 (Nat.le_of_ble_eq_true rfl)).trans rfl))⟩ (fun q => absurd q (by decide)) ?_
  refine s_aload_n (zat qX8_init 11 (by rfl)) rfl ?_
  refine s_bipush (zat qX8_init 12 (by rfl)) ?_
  refine s_newi dX8_init_31 wR_int (by decide) (by decide) (Nat.le_of_ble_eq_true rfl) ((hz 4 (Nat.le_of_ble_eq_true rfl)).trans rfl) (zvh_R (zvh_N (zvh_R (zvh_N (zvh_R (zvh_N hv) (Nat.add_le_add_left (Nat.le_of_ble_eq_true rfl : 1 ≤ 1) h.2.2.2))) (Nat.add_le_add_left (Nat.le_of_ble_eq_true rfl : 2 ≤ 2) h.2.2.2))) (Nat.add_le_add_left (Nat.le_of_ble_eq_true rfl : 3 ≤ 3) h.2.2.2)) ⟨(List.forall_mem_cons.mpr ⟨Or.inl (Nat.le_add_right h.2.2.2 3), (fun _ q => absurd q List.not_mem_nil)⟩), (zl_s (Or.inl (Nat.le_add_right h.2.2.2 3)) zl_0)⟩ ⟨Nat.le_of_ble_eq_true rfl, Nat.le_of_ble_eq_true rfl⟩ ?_
  refine s_putf (o := 8) (c := 8) (k := 4) (zat qX8_init 13 (by rfl)) rfl (by rfl) (by rfl) (Or.inr ⟨rfl, rfl⟩) ⟨h0, (Nat.le_add_right h.2.2.2 4), (congrArg Prod.fst ((hz 0 (Nat.le_of_ble_eq_true rfl)).trans rfl))⟩ (fun q => absurd q (by decide)) ?_
  refine s_aload_n (zat qX8_init 14 (by rfl)) rfl ?_
  refine s_bipush (zat qX8_init 15 (by rfl)) ?_
  refine s_newi dX8_init_39 wR_int (by decide) (by decide) (Nat.le_of_ble_eq_true rfl) ((hz 5 (Nat.le_of_ble_eq_true rfl)).trans rfl) (zvh_R (zvh_N (zvh_R (zvh_N (zvh_R (zvh_N (zvh_R (zvh_N hv) (Nat.add_le_add_left (Nat.le_of_ble_eq_true rfl : 1 ≤ 1) h.2.2.2))) (Nat.add_le_add_left (Nat.le_of_ble_eq_true rfl : 2 ≤ 2) h.2.2.2))) (Nat.add_le_add_left (Nat.le_of_ble_eq_true rfl : 3 ≤ 3) h.2.2.2))) (Nat.add_le_add_left (Nat.le_of_ble_eq_true rfl : 4 ≤ 4) h.2.2.2)) ⟨(List.forall_mem_cons.mpr ⟨Or.inl (Nat.le_add_right h.2.2.2 4), (fun _ q => absurd q List.not_mem_nil)⟩), (zl_s (Or.inl (Nat.le_add_right h.2.2.2 4)) zl_0)⟩ ⟨Nat.le_of_ble_eq_true rfl, Nat.le_of_ble_eq_true rfl⟩ ?_
  refine s_putf (o := 8) (c := 8) (k := 5) (zat qX8_init 16 (by rfl)) rfl (by rfl) (by rfl) (Or.inr ⟨rfl, rfl⟩) ⟨h0, (Nat.le_add_right h.2.2.2 5), (congrArg Prod.fst ((hz 0 (Nat.le_of_ble_eq_true rfl)).trans rfl))⟩ (fun q => absurd q (by decide)) ?_
  refine s_aload_n (zat qX8_init 17 (by rfl)) rfl ?_
  refine s_bipush (zat qX8_init 18 (by rfl)) ?_
  refine s_newi dX8_init_47 wR_int (by decide) (by decide) (Nat.le_of_ble_eq_true rfl) ((hz 6 (Nat.le_of_ble_eq_true rfl)).trans rfl) (zvh_R (zvh_N (zvh_R (zvh_N (zvh_R (zvh_N (zvh_R (zvh_N (zvh_R (zvh_N hv) (Nat.add_le_add_left (Nat.le_of_ble_eq_true rfl : 1 ≤ 1) h.2.2.2))) (Nat.add_le_add_left (Nat.le_of_ble_eq_true rfl : 2 ≤ 2) h.2.2.2))) (Nat.add_le_add_left (Nat.le_of_ble_eq_true rfl : 3 ≤ 3) h.2.2.2))) (Nat.add_le_add_left (Nat.le_of_ble_eq_true rfl : 4 ≤ 4) h.2.2.2))) (Nat.add_le_add_left (Nat.le_of_ble_eq_true rfl : 5 ≤ 5) h.2.2.2)) ⟨(List.forall_mem_cons.mpr ⟨Or.inl (Nat.le_add_right h.2.2.2 5), (fun _ q => absurd q List.not_mem_nil)⟩), (zl_s (Or.inl (Nat.le_add_right h.2.2.2 5)) zl_0)⟩ ⟨Nat.le_of_ble_eq_true rfl, Nat.le_of_ble_eq_true rfl⟩ ?_
  refine s_putf (o := 8) (c := 8) (k := 6) (zat qX8_init 19 (by rfl)) rfl (by rfl) (by rfl) (Or.inr ⟨rfl, rfl⟩) ⟨h0, (Nat.le_add_right h.2.2.2 6), (congrArg Prod.fst ((hz 0 (Nat.le_of_ble_eq_true rfl)).trans rfl))⟩ (fun q => absurd q (by decide)) ?_
  refine s_aload_n (zat qX8_init 20 (by rfl)) rfl ?_
  refine s_bipush (zat qX8_init 21 (by rfl)) ?_
  refine s_newi dX8_init_55 wR_int (by decide) (by decide) (Nat.le_of_ble_eq_true rfl) ((hz 7 (Nat.le_of_ble_eq_true rfl)).trans rfl) (zvh_R (zvh_N (zvh_R (zvh_N (zvh_R (zvh_N (zvh_R (zvh_N (zvh_R (zvh_N (zvh_R (zvh_N hv) (Nat.add_le_add_left (Nat.le_of_ble_eq_true rfl : 1 ≤ 1) h.2.2.2))) (Nat.add_le_add_left (Nat.le_of_ble_eq_true rfl : 2 ≤ 2) h.2.2.2))) (Nat.add_le_add_left (Nat.le_of_ble_eq_true rfl : 3 ≤ 3) h.2.2.2))) (Nat.add_le_add_left (Nat.le_of_ble_eq_true rfl : 4 ≤ 4) h.2.2.2))) (Nat.add_le_add_left (Nat.le_of_ble_eq_true rfl : 5 ≤ 5) h.2.2.2))) (Nat.add_le_add_left (Nat.le_of_ble_eq_true rfl : 6 ≤ 6) h.2.2.2)) ⟨(List.forall_mem_cons.mpr ⟨Or.inl (Nat.le_add_right h.2.2.2 6), (fun _ q => absurd q List.not_mem_nil)⟩), (zl_s (Or.inl (Nat.le_add_right h.2.2.2 6)) zl_0)⟩ ⟨Nat.le_of_ble_eq_true rfl, Nat.le_of_ble_eq_true rfl⟩ ?_
  refine s_putf (o := 8) (c := 8) (k := 7) (zat qX8_init 22 (by rfl)) rfl (by rfl) (by rfl) (Or.inr ⟨rfl, rfl⟩) ⟨h0, (Nat.le_add_right h.2.2.2 7), (congrArg Prod.fst ((hz 0 (Nat.le_of_ble_eq_true rfl)).trans rfl))⟩ (fun q => absurd q (by decide)) ?_
  refine s_aload_n (zat qX8_init 23 (by rfl)) rfl ?_
  refine s_bipush (zat qX8_init 24 (by rfl)) ?_
  refine s_newi dX8_init_63 wR_int (by decide) (by decide) (Nat.le_of_ble_eq_true rfl) ((hz 8 (Nat.le_of_ble_eq_true rfl)).trans rfl) (zvh_R (zvh_N (zvh_R (zvh_N (zvh_R (zvh_N (zvh_R (zvh_N (zvh_R (zvh_N (zvh_R (zvh_N (zvh_R (zvh_N hv) (Nat.add_le_add_left (Nat.le_of_ble_eq_true rfl : 1 ≤ 1) h.2.2.2))) (Nat.add_le_add_left (Nat.le_of_ble_eq_true rfl : 2 ≤ 2) h.2.2.2))) (Nat.add_le_add_left (Nat.le_of_ble_eq_true rfl : 3 ≤ 3) h.2.2.2))) (Nat.add_le_add_left (Nat.le_of_ble_eq_true rfl : 4 ≤ 4) h.2.2.2))) (Nat.add_le_add_left (Nat.le_of_ble_eq_true rfl : 5 ≤ 5) h.2.2.2))) (Nat.add_le_add_left (Nat.le_of_ble_eq_true rfl : 6 ≤ 6) h.2.2.2))) (Nat.add_le_add_left (Nat.le_of_ble_eq_true rfl : 7 ≤ 7) h.2.2.2)) ⟨(List.forall_mem_cons.mpr ⟨Or.inl (Nat.le_add_right h.2.2.2 7), (fun _ q => absurd q List.not_mem_nil)⟩), (zl_s (Or.inl (Nat.le_add_right h.2.2.2 7)) zl_0)⟩ ⟨Nat.le_of_ble_eq_true rfl, Nat.le_of_ble_eq_true rfl⟩ ?_
  refine s_putf (o := 8) (c := 8) (k := 8) (zat qX8_init 25 (by rfl)) rfl (by rfl) (by rfl) (Or.inr ⟨rfl, rfl⟩) ⟨h0, (Nat.le_add_right h.2.2.2 8), (congrArg Prod.fst ((hz 0 (Nat.le_of_ble_eq_true rfl)).trans rfl))⟩ (fun q => absurd q (by decide)) ?_
  exact J_vret (zat qX8_init 26 (by rfl)) rfl (Nat.le_refl _) (Nat.le_refl _) kk
def hX4 (h : MH) : MH :=
  let g1 := zsI h h.2.2.2 0 (-(nI 1))
  let g2 := zNw g1
  let g3 := zsR g2 h.2.2.2 2 (h.2.2.2 + 1)
  let g4 := zNw g3
  let g5 := zsR g4 h.2.2.2 3 (h.2.2.2 + 2)
  let g6 := zNw g5
  let g7 := zsR g6 h.2.2.2 4 (h.2.2.2 + 3)
  g7
theorem nX4 (h : MH) : (hX4 h).2.2.2 = h.2.2.2 + 3 := rfl
theorem rX4 {h : MH} {b : Nat} (hb : b < h.2.2.2) : (hX4 h).2.2.1 b = h.2.2.1 b := ((zR_o _ _ _ (Nat.ne_of_lt hb)).trans ((zNr (Nat.ne_of_lt (Nat.lt_of_lt_of_le hb (Nat.le_add_right h.2.2.2 3)))).trans ((zR_o _ _ _ (Nat.ne_of_lt hb)).trans ((zNr (Nat.ne_of_lt (Nat.lt_of_lt_of_le hb (Nat.le_add_right h.2.2.2 2)))).trans ((zR_o _ _ _ (Nat.ne_of_lt hb)).trans ((zNr (Nat.ne_of_lt (Nat.lt_of_lt_of_le hb (Nat.le_add_right h.2.2.2 1)))).trans rfl))))))
theorem vX4 {h : MH} (hz : ∀ i, i < 4 → zk (h.2.2.2 + i) = zk (58 + i)) (hv : zvh h) : zvh (hX4 h) := (zvh_R (zvh_N (zvh_R (zvh_N (zvh_R (zvh_N (zvh_I hv)) (Nat.add_le_add_left (Nat.le_of_ble_eq_true rfl : 1 ≤ 1) h.2.2.2))) (Nat.add_le_add_left (Nat.le_of_ble_eq_true rfl : 2 ≤ 2) h.2.2.2))) (Nat.add_le_add_left (Nat.le_of_ble_eq_true rfl : 3 ≤ 3) h.2.2.2))
theorem tX4 {h : MH} {d : Nat} {Q : Option MV → MH → Prop} (hz : ∀ i, i < 4 → zk (h.2.2.2 + i) = zk (58 + i)) (h0 : 0 < h.2.2.2) (hv : zvh h) (hd : 1 ≤ d) (kk : Q none (hX4 h)) : Con mX4_init d 3 88 [.inr (.inr h.2.2.2)] h Q := by
  refine Con.intro (by decide) (Nat.le_of_ble_eq_true rfl) ?_
  refine s_aload_n (zat qX4_init 0 (by rfl)) rfl ?_
  refine s_objInit (zat qX4_init 1 (by rfl)) wO_4 wO_i wO_c (by omega) (Nat.le_of_ble_eq_true rfl) h0 ?_
  refine s_aload_n (zat qX4_init 2 (by rfl)) rfl ?_
  refine s_iconst (zat qX4_init 3 (by rfl)) ?_
  refine s_putf (o := 4) (c := 4) (k := 0) (zat qX4_init 4 (by rfl)) rfl (by rfl) (by rfl) (Or.inl rfl) ⟨h0, (Nat.le_add_right h.2.2.2 0), (congrArg Prod.fst ((hz 0 (Nat.le_of_ble_eq_true rfl)).trans rfl))⟩ (fun q => absurd q (by decide)) ?_
  refine s_aload_n (zat qX4_init 5 (by rfl)) rfl ?_
  refine s_bipush (zat qX4_init 6 (by rfl)) ?_
  refine s_newi dX4_init_12 wR_int (by decide) (by decide) (Nat.le_of_ble_eq_true rfl) ((hz 1 (Nat.le_of_ble_eq_true rfl)).trans rfl) (zvh_I hv) ⟨(List.forall_mem_cons.mpr ⟨Or.inl (Nat.le_add_right h.2.2.2 0), (fun _ q => absurd q List.not_mem_nil)⟩), (zl_s (Or.inl (Nat.le_add_right h.2.2.2 0)) zl_0)⟩ ⟨Nat.le_of_ble_eq_true rfl, Nat.le_of_ble_eq_true rfl⟩ ?_
  refine s_putf (o := 4) (c := 4) (k := 2) (zat qX4_init 7 (by rfl)) rfl (by rfl) (by rfl) (Or.inr ⟨rfl, rfl⟩) ⟨h0, (Nat.le_add_right h.2.2.2 1), (congrArg Prod.fst ((hz 0 (Nat.le_of_ble_eq_true rfl)).trans rfl))⟩ (fun q => absurd q (by decide)) ?_
  refine s_aload_n (zat qX4_init 8 (by rfl)) rfl ?_
  refine s_bipush (zat qX4_init 9 (by rfl)) ?_
  refine s_newi dX4_init_20 wR_int (by decide) (by decide) (Nat.le_of_ble_eq_true rfl) ((hz 2 (Nat.le_of_ble_eq_true rfl)).trans rfl) (zvh_R (zvh_N (zvh_I hv)) (Nat.add_le_add_left (Nat.le_of_ble_eq_true rfl : 1 ≤ 1) h.2.2.2)) ⟨(List.forall_mem_cons.mpr ⟨Or.inl (Nat.le_add_right h.2.2.2 1), (fun _ q => absurd q List.not_mem_nil)⟩), (zl_s (Or.inl (Nat.le_add_right h.2.2.2 1)) zl_0)⟩ ⟨Nat.le_of_ble_eq_true rfl, Nat.le_of_ble_eq_true rfl⟩ ?_
  refine s_putf (o := 4) (c := 4) (k := 3) (zat qX4_init 10 (by rfl)) rfl (by rfl) (by rfl) (Or.inr ⟨rfl, rfl⟩) ⟨h0, (Nat.le_add_right h.2.2.2 2), (congrArg Prod.fst ((hz 0 (Nat.le_of_ble_eq_true rfl)).trans rfl))⟩ (fun q => absurd q (by decide)) ?_
  refine s_aload_n (zat qX4_init 11 (by rfl)) rfl ?_
  refine s_bipush (zat qX4_init 12 (by rfl)) ?_
  refine s_newi dX4_init_28 wR_int (by decide) (by decide) (Nat.le_of_ble_eq_true rfl) ((hz 3 (Nat.le_of_ble_eq_true rfl)).trans rfl) (zvh_R (zvh_N (zvh_R (zvh_N (zvh_I hv)) (Nat.add_le_add_left (Nat.le_of_ble_eq_true rfl : 1 ≤ 1) h.2.2.2))) (Nat.add_le_add_left (Nat.le_of_ble_eq_true rfl : 2 ≤ 2) h.2.2.2)) ⟨(List.forall_mem_cons.mpr ⟨Or.inl (Nat.le_add_right h.2.2.2 2), (fun _ q => absurd q List.not_mem_nil)⟩), (zl_s (Or.inl (Nat.le_add_right h.2.2.2 2)) zl_0)⟩ ⟨Nat.le_of_ble_eq_true rfl, Nat.le_of_ble_eq_true rfl⟩ ?_
  refine s_putf (o := 4) (c := 4) (k := 4) (zat qX4_init 13 (by rfl)) rfl (by rfl) (by rfl) (Or.inr ⟨rfl, rfl⟩) ⟨h0, (Nat.le_add_right h.2.2.2 3), (congrArg Prod.fst ((hz 0 (Nat.le_of_ble_eq_true rfl)).trans rfl))⟩ (fun q => absurd q (by decide)) ?_
  exact J_vret (zat qX4_init 14 (by rfl)) rfl (Nat.le_refl _) (Nat.le_refl _) kk
def hX9 (h : MH) : MH :=
  let g1 := zNw h
  let g2 := zsR g1 h.2.2.2 12 (h.2.2.2 + 1)
  let g3 := zNw g2
  let g4 := zsR g3 h.2.2.2 13 (h.2.2.2 + 2)
  let g5 := zM2 5 g4
  let g6 := zsR g5 h.2.2.2 14 (h.2.2.2 + 3)
  let g7 := zM2 5 g6
  let g8 := zsR g7 h.2.2.2 15 (h.2.2.2 + 9)
  g8
theorem nX9 (h : MH) : (hX9 h).2.2.2 = h.2.2.2 + 14 := rfl
theorem rX9 {h : MH} {b : Nat} (hb : b < h.2.2.2) : (hX9 h).2.2.1 b = h.2.2.1 b := ((zR_o _ _ _ (Nat.ne_of_lt hb)).trans ((zM2r (Nat.le_trans (Nat.le_of_lt hb) (Nat.le_add_right h.2.2.2 8))).trans ((zR_o _ _ _ (Nat.ne_of_lt hb)).trans ((zM2r (Nat.le_trans (Nat.le_of_lt hb) (Nat.le_add_right h.2.2.2 2))).trans ((zR_o _ _ _ (Nat.ne_of_lt hb)).trans ((zNr (Nat.ne_of_lt (Nat.lt_of_lt_of_le hb (Nat.le_add_right h.2.2.2 2)))).trans ((zR_o _ _ _ (Nat.ne_of_lt hb)).trans ((zNr (Nat.ne_of_lt (Nat.lt_of_lt_of_le hb (Nat.le_add_right h.2.2.2 1)))).trans rfl))))))))
theorem vX9 {h : MH} (hz : ∀ i, i < 15 → zk (h.2.2.2 + i) = zk (62 + i)) (hv : zvh h) : zvh (hX9 h) := (zvh_R (zvh_M (zvh_R (zvh_M (zvh_R (zvh_N (zvh_R (zvh_N hv) (Nat.add_le_add_left (Nat.le_of_ble_eq_true rfl : 1 ≤ 1) h.2.2.2))) (Nat.add_le_add_left (Nat.le_of_ble_eq_true rfl : 2 ≤ 2) h.2.2.2)) ((hz 3 (Nat.le_of_ble_eq_true rfl)).trans rfl)) (Nat.add_le_add_left (Nat.le_of_ble_eq_true rfl : 3 ≤ 8) h.2.2.2)) ((hz 9 (Nat.le_of_ble_eq_true rfl)).trans rfl)) (Nat.add_le_add_left (Nat.le_of_ble_eq_true rfl : 9 ≤ 14) h.2.2.2))
theorem tX9 {h : MH} {d : Nat} {Q : Option MV → MH → Prop} (hz : ∀ i, i < 15 → zk (h.2.2.2 + i) = zk (62 + i)) (h0 : 0 < h.2.2.2) (hv : zvh h) (hd : 1 ≤ d) (kk : Q none (hX9 h)) : Con mX9_init d 14 59 [.inr (.inr h.2.2.2)] h Q := by
  refine Con.intro (by decide) (Nat.le_of_ble_eq_true rfl) ?_
  refine s_aload_n (zat qX9_init 0 (by rfl)) rfl ?_
  refine s_objInit (zat qX9_init 1 (by rfl)) wO_9 wO_i wO_c (by omega) (Nat.le_of_ble_eq_true rfl) h0 ?_
  refine s_aload_n (zat qX9_init 2 (by rfl)) rfl ?_
  refine s_iconst (zat qX9_init 3 (by rfl)) ?_
  refine s_newi dX9_init_6 wR_int (by decide) (by decide) (Nat.le_of_ble_eq_true rfl) ((hz 1 (Nat.le_of_ble_eq_true rfl)).trans rfl) hv ⟨(List.forall_mem_cons.mpr ⟨Or.inl (Nat.le_add_right h.2.2.2 0), (fun _ q => absurd q List.not_mem_nil)⟩), (zl_s (Or.inl (Nat.le_add_right h.2.2.2 0)) zl_0)⟩ ⟨Nat.le_of_ble_eq_true rfl, Nat.le_of_ble_eq_true rfl⟩ ?_
  refine s_putf (o := 9) (c := 9) (k := 12) (zat qX9_init 4 (by rfl)) rfl (by rfl) (by rfl) (Or.inr ⟨rfl, rfl⟩) ⟨h0, (Nat.le_add_right h.2.2.2 1), (congrArg Prod.fst ((hz 0 (Nat.le_of_ble_eq_true rfl)).trans rfl))⟩ (fun q => absurd q (by decide)) ?_
  refine s_aload_n (zat qX9_init 5 (by rfl)) rfl ?_
  refine s_iconst (zat qX9_init 6 (by rfl)) ?_
  refine s_newi dX9_init_13 wR_int (by decide) (by decide) (Nat.le_of_ble_eq_true rfl) ((hz 2 (Nat.le_of_ble_eq_true rfl)).trans rfl) (zvh_R (zvh_N hv) (Nat.add_le_add_left (Nat.le_of_ble_eq_true rfl : 1 ≤ 1) h.2.2.2)) ⟨(List.forall_mem_cons.mpr ⟨Or.inl (Nat.le_add_right h.2.2.2 1), (fun _ q => absurd q List.not_mem_nil)⟩), (zl_s (Or.inl (Nat.le_add_right h.2.2.2 1)) zl_0)⟩ ⟨Nat.le_of_ble_eq_true rfl, Nat.le_of_ble_eq_true rfl⟩ ?_
  refine s_putf (o := 9) (c := 9) (k := 13) (zat qX9_init 7 (by rfl)) rfl (by rfl) (by rfl) (Or.inr ⟨rfl, rfl⟩) ⟨h0, (Nat.le_add_right h.2.2.2 2), (congrArg Prod.fst ((hz 0 (Nat.le_of_ble_eq_true rfl)).trans rfl))⟩ (fun q => absurd q (by decide)) ?_
  refine s_aload_n (zat qX9_init 8 (by rfl)) rfl ?_
  refine s_iconst (zat qX9_init 9 (by rfl)) ?_
  refine s_iconst (zat qX9_init 10 (by rfl)) ?_
  refine s_mna (n := 5) (k := 4) dX9_init_21 wU_9 wR_int (by decide) (by decide) ((hz 3 (Nat.le_of_ble_eq_true rfl)).trans rfl) (fun j hj => by show zk (h.2.2.2 + 2 + 2 + j) = _; rw [Nat.add_assoc, Nat.add_assoc]; exact (hz (2 + (2 + j)) (by omega)).trans ((by decide : ∀ j, j < 5 → zk (62 + (2 + (2 + j))) = (20, 4)) j hj)) (zvh_R (zvh_N (zvh_R (zvh_N hv) (Nat.add_le_add_left (Nat.le_of_ble_eq_true rfl : 1 ≤ 1) h.2.2.2))) (Nat.add_le_add_left (Nat.le_of_ble_eq_true rfl : 2 ≤ 2) h.2.2.2)) ⟨(List.forall_mem_cons.mpr ⟨Or.inl (Nat.le_add_right h.2.2.2 2), (fun _ q => absurd q List.not_mem_nil)⟩), (zl_s (Or.inl (Nat.le_add_right h.2.2.2 2)) zl_0)⟩ ⟨Nat.le_of_ble_eq_true rfl, Nat.le_of_ble_eq_true rfl⟩ ?_
  refine s_putf (o := 9) (c := 9) (k := 14) (zat qX9_init 11 (by rfl)) rfl (by rfl) (by rfl) (Or.inr ⟨rfl, rfl⟩) ⟨h0, (Nat.le_add_right h.2.2.2 8), (congrArg Prod.fst ((hz 0 (Nat.le_of_ble_eq_true rfl)).trans rfl))⟩ (fun q => absurd q (by decide)) ?_
  refine s_aload_n (zat qX9_init 12 (by rfl)) rfl ?_
  refine s_iconst (zat qX9_init 13 (by rfl)) ?_
  refine s_iconst (zat qX9_init 14 (by rfl)) ?_
  refine s_mna (n := 5) (k := 4) dX9_init_31 wU_9 wR_int (by decide) (by decide) ((hz 9 (Nat.le_of_ble_eq_true rfl)).trans rfl) (fun j hj => by show zk (h.2.2.2 + 8 + 2 + j) = _; rw [Nat.add_assoc, Nat.add_assoc]; exact (hz (8 + (2 + j)) (by omega)).trans ((by decide : ∀ j, j < 5 → zk (62 + (8 + (2 + j))) = (20, 4)) j hj)) (zvh_R (zvh_M (zvh_R (zvh_N (zvh_R (zvh_N hv) (Nat.add_le_add_left (Nat.le_of_ble_eq_true rfl : 1 ≤ 1) h.2.2.2))) (Nat.add_le_add_left (Nat.le_of_ble_eq_true rfl : 2 ≤ 2) h.2.2.2)) ((hz 3 (Nat.le_of_ble_eq_true rfl)).trans rfl)) (Nat.add_le_add_left (Nat.le_of_ble_eq_true rfl : 3 ≤ 8) h.2.2.2)) ⟨(List.forall_mem_cons.mpr ⟨Or.inl (Nat.le_add_right h.2.2.2 8), (fun _ q => absurd q List.not_mem_nil)⟩), (zl_s (Or.inl (Nat.le_add_right h.2.2.2 8)) zl_0)⟩ ⟨Nat.le_of_ble_eq_true rfl, Nat.le_of_ble_eq_true rfl⟩ ?_
  refine s_putf (o := 9) (c := 9) (k := 15) (zat qX9_init 15 (by rfl)) rfl (by rfl) (by rfl) (Or.inr ⟨rfl, rfl⟩) ⟨h0, (Nat.le_add_right h.2.2.2 14), (congrArg Prod.fst ((hz 0 (Nat.le_of_ble_eq_true rfl)).trans rfl))⟩ (fun q => absurd q (by decide)) ?_
  exact J_vret (zat qX9_init 16 (by rfl)) rfl (Nat.le_refl _) (Nat.le_refl _) kk
def hX0 (h : MH) : MH :=
  let g1 := zNw h
  let g2 := zsR g1 h.2.2.2 2 (h.2.2.2 + 1)
  let g3 := zNw g2
  let g4 := zsR g3 h.2.2.2 3 (h.2.2.2 + 2)
  let g5 := zM2 2 g4
  let g6 := zsR g5 h.2.2.2 4 (h.2.2.2 + 3)
  let g7 := zM2 13 g6
  let g8 := zsR g7 h.2.2.2 5 (h.2.2.2 + 6)
  g8
theorem nX0 (h : MH) : (hX0 h).2.2.2 = h.2.2.2 + 19 := rfl
theorem rX0 {h : MH} {b : Nat} (hb : b < h.2.2.2) : (hX0 h).2.2.1 b = h.2.2.1 b := ((zR_o _ _ _ (Nat.ne_of_lt hb)).trans ((zM2r (Nat.le_trans (Nat.le_of_lt hb) (Nat.le_add_right h.2.2.2 5))).trans ((zR_o _ _ _ (Nat.ne_of_lt hb)).trans ((zM2r (Nat.le_trans (Nat.le_of_lt hb) (Nat.le_add_right h.2.2.2 2))).trans ((zR_o _ _ _ (Nat.ne_of_lt hb)).trans ((zNr (Nat.ne_of_lt (Nat.lt_of_lt_of_le hb (Nat.le_add_right h.2.2.2 2)))).trans ((zR_o _ _ _ (Nat.ne_of_lt hb)).trans ((zNr (Nat.ne_of_lt (Nat.lt_of_lt_of_le hb (Nat.le_add_right h.2.2.2 1)))).trans rfl))))))))
theorem vX0 {h : MH} (hz : ∀ i, i < 20 → zk (h.2.2.2 + i) = zk (77 + i)) (hv : zvh h) : zvh (hX0 h) := (zvh_R (zvh_M (zvh_R (zvh_M (zvh_R (zvh_N (zvh_R (zvh_N hv) (Nat.add_le_add_left (Nat.le_of_ble_eq_true rfl : 1 ≤ 1) h.2.2.2))) (Nat.add_le_add_left (Nat.le_of_ble_eq_true rfl : 2 ≤ 2) h.2.2.2)) ((hz 3 (Nat.le_of_ble_eq_true rfl)).trans rfl)) (Nat.add_le_add_left (Nat.le_of_ble_eq_true rfl : 3 ≤ 5) h.2.2.2)) ((hz 6 (Nat.le_of_ble_eq_true rfl)).trans rfl)) (Nat.add_le_add_left (Nat.le_of_ble_eq_true rfl : 6 ≤ 19) h.2.2.2))
theorem tX0 {h : MH} {d : Nat} {Q : Option MV → MH → Prop} (hz : ∀ i, i < 20 → zk (h.2.2.2 + i) = zk (77 + i)) (h0 : 0 < h.2.2.2) (hv : zvh h) (hd : 1 ≤ d) (kk : Q none (hX0 h)) : Con mX0_init d 19 85 [.inr (.inr h.2.2.2)] h Q := by
  refine Con.intro (by decide) (Nat.le_of_ble_eq_true rfl) ?_
  refine s_aload_n (zat qX0_init 0 (by rfl)) rfl ?_
  refine s_objInit (zat qX0_init 1 (by rfl)) wO_0 wO_i wO_c (by omega) (Nat.le_of_ble_eq_true rfl) h0 ?_
  refine s_aload_n (zat qX0_init 2 (by rfl)) rfl ?_
  refine s_iconst (zat qX0_init 3 (by rfl)) ?_
  refine s_newi dX0_init_6 wR_int (by decide) (by decide) (Nat.le_of_ble_eq_true rfl) ((hz 1 (Nat.le_of_ble_eq_true rfl)).trans rfl) hv ⟨(List.forall_mem_cons.mpr ⟨Or.inl (Nat.le_add_right h.2.2.2 0), (fun _ q => absurd q List.not_mem_nil)⟩), (zl_s (Or.inl (Nat.le_add_right h.2.2.2 0)) zl_0)⟩ ⟨Nat.le_of_ble_eq_true rfl, Nat.le_of_ble_eq_true rfl⟩ ?_
  refine s_putf (o := 0) (c := 0) (k := 2) (zat qX0_init 4 (by rfl)) rfl (by rfl) (by rfl) (Or.inr ⟨rfl, rfl⟩) ⟨h0, (Nat.le_add_right h.2.2.2 1), (congrArg Prod.fst ((hz 0 (Nat.le_of_ble_eq_true rfl)).trans rfl))⟩ (fun q => absurd q (by decide)) ?_
  refine s_aload_n (zat qX0_init 5 (by rfl)) rfl ?_
  refine s_iconst (zat qX0_init 6 (by rfl)) ?_
  refine s_newi dX0_init_13 wR_int (by decide) (by decide) (Nat.le_of_ble_eq_true rfl) ((hz 2 (Nat.le_of_ble_eq_true rfl)).trans rfl) (zvh_R (zvh_N hv) (Nat.add_le_add_left (Nat.le_of_ble_eq_true rfl : 1 ≤ 1) h.2.2.2)) ⟨(List.forall_mem_cons.mpr ⟨Or.inl (Nat.le_add_right h.2.2.2 1), (fun _ q => absurd q List.not_mem_nil)⟩), (zl_s (Or.inl (Nat.le_add_right h.2.2.2 1)) zl_0)⟩ ⟨Nat.le_of_ble_eq_true rfl, Nat.le_of_ble_eq_true rfl⟩ ?_
  refine s_putf (o := 0) (c := 0) (k := 3) (zat qX0_init 7 (by rfl)) rfl (by rfl) (by rfl) (Or.inr ⟨rfl, rfl⟩) ⟨h0, (Nat.le_add_right h.2.2.2 2), (congrArg Prod.fst ((hz 0 (Nat.le_of_ble_eq_true rfl)).trans rfl))⟩ (fun q => absurd q (by decide)) ?_
  refine s_aload_n (zat qX0_init 8 (by rfl)) rfl ?_
  refine s_iconst (zat qX0_init 9 (by rfl)) ?_
  refine s_bipush (zat qX0_init 10 (by rfl)) ?_
  refine s_mna (n := 2) (k := 7) dX0_init_22 wU_0 wR_int (by decide) (by decide) ((hz 3 (Nat.le_of_ble_eq_true rfl)).trans rfl) (fun j hj => by show zk (h.2.2.2 + 2 + 2 + j) = _; rw [Nat.add_assoc, Nat.add_assoc]; exact (hz (2 + (2 + j)) (by omega)).trans ((by decide : ∀ j, j < 2 → zk (77 + (2 + (2 + j))) = (20, 7)) j hj)) (zvh_R (zvh_N (zvh_R (zvh_N hv) (Nat.add_le_add_left (Nat.le_of_ble_eq_true rfl : 1 ≤ 1) h.2.2.2))) (Nat.add_le_add_left (Nat.le_of_ble_eq_true rfl : 2 ≤ 2) h.2.2.2)) ⟨(List.forall_mem_cons.mpr ⟨Or.inl (Nat.le_add_right h.2.2.2 2), (fun _ q => absurd q List.not_mem_nil)⟩), (zl_s (Or.inl (Nat.le_add_right h.2.2.2 2)) zl_0)⟩ ⟨Nat.le_of_ble_eq_true rfl, Nat.le_of_ble_eq_true rfl⟩ ?_
  refine s_putf (o := 0) (c := 0) (k := 4) (zat qX0_init 11 (by rfl)) rfl (by rfl) (by rfl) (Or.inr ⟨rfl, rfl⟩) ⟨h0, (Nat.le_add_right h.2.2.2 5), (congrArg Prod.fst ((hz 0 (Nat.le_of_ble_eq_true rfl)).trans rfl))⟩ (fun q => absurd q (by decide)) ?_
  refine s_aload_n (zat qX0_init 12 (by rfl)) rfl ?_
  refine s_bipush (zat qX0_init 13 (by rfl)) ?_
  refine s_iconst (zat qX0_init 14 (by rfl)) ?_
  refine s_mna (n := 13) (k := 4) dX0_init_33 wU_0 wR_int (by decide) (by decide) ((hz 6 (Nat.le_of_ble_eq_true rfl)).trans rfl) (fun j hj => by show zk (h.2.2.2 + 5 + 2 + j) = _; rw [Nat.add_assoc, Nat.add_assoc]; exact (hz (5 + (2 + j)) (by omega)).trans ((by decide : ∀ j, j < 13 → zk (77 + (5 + (2 + j))) = (20, 4)) j hj)) (zvh_R (zvh_M (zvh_R (zvh_N (zvh_R (zvh_N hv) (Nat.add_le_add_left (Nat.le_of_ble_eq_true rfl : 1 ≤ 1) h.2.2.2))) (Nat.add_le_add_left (Nat.le_of_ble_eq_true rfl : 2 ≤ 2) h.2.2.2)) ((hz 3 (Nat.le_of_ble_eq_true rfl)).trans rfl)) (Nat.add_le_add_left (Nat.le_of_ble_eq_true rfl : 3 ≤ 5) h.2.2.2)) ⟨(List.forall_mem_cons.mpr ⟨Or.inl (Nat.le_add_right h.2.2.2 5), (fun _ q => absurd q List.not_mem_nil)⟩), (zl_s (Or.inl (Nat.le_add_right h.2.2.2 5)) zl_0)⟩ ⟨Nat.le_of_ble_eq_true rfl, Nat.le_of_ble_eq_true rfl⟩ ?_
  refine s_putf (o := 0) (c := 0) (k := 5) (zat qX0_init 15 (by rfl)) rfl (by rfl) (by rfl) (Or.inr ⟨rfl, rfl⟩) ⟨h0, (Nat.le_add_right h.2.2.2 19), (congrArg Prod.fst ((hz 0 (Nat.le_of_ble_eq_true rfl)).trans rfl))⟩ (fun q => absurd q (by decide)) ?_
  exact J_vret (zat qX0_init 16 (by rfl)) rfl (Nat.le_refl _) (Nat.le_refl _) kk
def hX3 (h : MH) : MH :=
  let g1 := zNw h
  let g2 := zsR g1 h.2.2.2 1 (h.2.2.2 + 1)
  g2
theorem nX3 (h : MH) : (hX3 h).2.2.2 = h.2.2.2 + 1 := rfl
theorem rX3 {h : MH} {b : Nat} (hb : b < h.2.2.2) : (hX3 h).2.2.1 b = h.2.2.1 b := ((zR_o _ _ _ (Nat.ne_of_lt hb)).trans ((zNr (Nat.ne_of_lt (Nat.lt_of_lt_of_le hb (Nat.le_add_right h.2.2.2 1)))).trans rfl))
theorem vX3 {h : MH} (hz : ∀ i, i < 2 → zk (h.2.2.2 + i) = zk (97 + i)) (hv : zvh h) : zvh (hX3 h) := (zvh_R (zvh_N hv) (Nat.add_le_add_left (Nat.le_of_ble_eq_true rfl : 1 ≤ 1) h.2.2.2))
theorem tX3 {h : MH} {d : Nat} {Q : Option MV → MH → Prop} (hz : ∀ i, i < 2 → zk (h.2.2.2 + i) = zk (97 + i)) (h0 : 0 < h.2.2.2) (hv : zvh h) (hd : 1 ≤ d) (kk : Q none (hX3 h)) : Con mX3_init d 1 361 [.inr (.inr h.2.2.2)] h Q := by
  refine Con.intro (by decide) (Nat.le_of_ble_eq_true rfl) ?_
  refine s_aload_n (zat qX3_init 0 (by rfl)) rfl ?_
  refine s_objInit (zat qX3_init 1 (by rfl)) wO_3 wO_i wO_c (by omega) (Nat.le_of_ble_eq_true rfl) h0 ?_
  refine s_aload_n (zat qX3_init 2 (by rfl)) rfl ?_
  refine s_sipush (zat qX3_init 3 (by rfl)) ?_
  refine s_newl dX3_init_8 wR_long (by decide) (by decide) (Nat.le_of_ble_eq_true rfl) ((hz 1 (Nat.le_of_ble_eq_true rfl)).trans rfl) hv ⟨(List.forall_mem_cons.mpr ⟨Or.inl (Nat.le_add_right h.2.2.2 0), (fun _ q => absurd q List.not_mem_nil)⟩), (zl_s (Or.inl (Nat.le_add_right h.2.2.2 0)) zl_0)⟩ ⟨Nat.le_of_ble_eq_true rfl, Nat.le_of_ble_eq_true rfl⟩ ?_
  refine s_putf (o := 3) (c := 3) (k := 1) (zat qX3_init 4 (by rfl)) rfl (by rfl) (by rfl) (Or.inr ⟨rfl, rfl⟩) ⟨h0, (Nat.le_add_right h.2.2.2 1), (congrArg Prod.fst ((hz 0 (Nat.le_of_ble_eq_true rfl)).trans rfl))⟩ (fun q => absurd q (by decide)) ?_
  exact J_vret (zat qX3_init 5 (by rfl)) rfl (Nat.le_refl _) (Nat.le_refl _) kk
def hX7 (h : MH) : MH :=
  let g1 := zNw h
  let g2 := zsR g1 h.2.2.2 3 (h.2.2.2 + 1)
  g2
theorem nX7 (h : MH) : (hX7 h).2.2.2 = h.2.2.2 + 1 := rfl
theorem rX7 {h : MH} {b : Nat} (hb : b < h.2.2.2) : (hX7 h).2.2.1 b = h.2.2.1 b := ((zR_o _ _ _ (Nat.ne_of_lt hb)).trans ((zNr (Nat.ne_of_lt (Nat.lt_of_lt_of_le hb (Nat.le_add_right h.2.2.2 1)))).trans rfl))
theorem vX7 {h : MH} (hz : ∀ i, i < 2 → zk (h.2.2.2 + i) = zk (103 + i)) (hv : zvh h) : zvh (hX7 h) := (zvh_R (zvh_N hv) (Nat.add_le_add_left (Nat.le_of_ble_eq_true rfl : 1 ≤ 1) h.2.2.2))
theorem tX7 {h : MH} {d : Nat} {Q : Option MV → MH → Prop} (hz : ∀ i, i < 2 → zk (h.2.2.2 + i) = zk (103 + i)) (h0 : 0 < h.2.2.2) (hv : zvh h) (hd : 1 ≤ d) (kk : Q none (hX7 h)) : Con mX7_init d 1 40 [.inr (.inr h.2.2.2)] h Q := by
  refine Con.intro (by decide) (Nat.le_of_ble_eq_true rfl) ?_
  refine s_aload_n (zat qX7_init 0 (by rfl)) rfl ?_
  refine s_objInit (zat qX7_init 1 (by rfl)) wO_7 wO_i wO_c (by omega) (Nat.le_of_ble_eq_true rfl) h0 ?_
  refine s_aload_n (zat qX7_init 2 (by rfl)) rfl ?_
  refine s_bipush (zat qX7_init 3 (by rfl)) ?_
  refine s_newl dX7_init_7 wR_long (by decide) (by decide) (Nat.le_of_ble_eq_true rfl) ((hz 1 (Nat.le_of_ble_eq_true rfl)).trans rfl) hv ⟨(List.forall_mem_cons.mpr ⟨Or.inl (Nat.le_add_right h.2.2.2 0), (fun _ q => absurd q List.not_mem_nil)⟩), (zl_s (Or.inl (Nat.le_add_right h.2.2.2 0)) zl_0)⟩ ⟨Nat.le_of_ble_eq_true rfl, Nat.le_of_ble_eq_true rfl⟩ ?_
  refine s_putf (o := 7) (c := 7) (k := 3) (zat qX7_init 4 (by rfl)) rfl (by rfl) (by rfl) (Or.inr ⟨rfl, rfl⟩) ⟨h0, (Nat.le_add_right h.2.2.2 1), (congrArg Prod.fst ((hz 0 (Nat.le_of_ble_eq_true rfl)).trans rfl))⟩ (fun q => absurd q (by decide)) ?_
  exact J_vret (zat qX7_init 5 (by rfl)) rfl (Nat.le_refl _) (Nat.le_refl _) kk
