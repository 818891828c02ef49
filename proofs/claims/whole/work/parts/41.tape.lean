/-! ===== the tape: feed ===== -/
abbrev TP : Type := Nat × (Nat → Nat)
def tOK (T : TP) : Prop := T.1 ≤ 400 ∧ ∀ k, k < T.1 → T.2 k < 256
def tC (T : TP) (h : MH) : Prop := h.1 1 0 = nI T.1 ∧ ∀ k, k < T.1 → h.1 3 k = nI (T.2 k)
def tM (T : TP) (h : MH) : Prop := h.1 111 5 = nI T.1 ∧ ∀ k, k < T.1 → h.1 114 k = nI (T.2 k)
def tAdd (T : TP) (b : Nat) : TP := (T.1 + 1, fun k => if k = T.1 then b else T.2 k)
def tF4 (T : TP) (v : Int32) : TP := tAdd (tAdd (tAdd (tAdd T (zby v 0)) (zby v 1)) (zby v 2)) (zby v 3)
def tFeed (T : TP) (a b c d e : Int32) : TP := if T.1 + 20 ≤ 400 then tF4 (tF4 (tF4 (tF4 (tF4 T a) b) c) d) e else T
def fFeed (T : TP) : Int32 := if T.1 + 20 ≤ 400 then nI (T.1 + 20) else -(nI 5)
theorem tAdd_ok {T : TP} {b : Nat} (h : tOK T) (h1 : T.1 < 400) (hb : b < 256) : tOK (tAdd T b) := by
  refine ⟨h1, fun k hk => ?_⟩
  show (if k = T.1 then b else T.2 k) < 256
  split
  · exact hb
  · exact h.2 k (by have : k < T.1 + 1 := hk; omega)
theorem tF4_ok {T : TP} {v : Int32} (h : tOK T) (h1 : T.1 + 4 ≤ 400) : tOK (tF4 T v) :=
  tAdd_ok (tAdd_ok (tAdd_ok (tAdd_ok h (by omega) (zby_lt _ _)) (by show T.1 + 1 < 400; omega) (zby_lt _ _)) (by show T.1 + 1 + 1 < 400; omega) (zby_lt _ _)) (by show T.1 + 1 + 1 + 1 < 400; omega) (zby_lt _ _)
theorem tFeed_ok {T : TP} (a b c d e : Int32) (h : tOK T) : tOK (tFeed T a b c d e) := by
  unfold tFeed
  split
  · rename_i q
    exact tF4_ok (tF4_ok (tF4_ok (tF4_ok (tF4_ok h (by omega)) (by show T.1 + 4 + 4 ≤ 400; omega)) (by show T.1 + 4 + 4 + 4 ≤ 400; omega)) (by show T.1 + 4 + 4 + 4 + 4 ≤ 400; omega)) (by show T.1 + 4 + 4 + 4 + 4 + 4 ≤ 400; omega)
  · exact h
theorem c_put1 {T : TP} {h : MH} {d : Nat} {Q : Option MV → MH → Prop} (hr : zRf h) (hT : tC T h) (h4 : T.1 < 400) {v : Int32} {j : Nat} (hj : j < 4) (kk : ∀ h', zRf h' → zF (fun a => a ≠ 1 ∧ a ≠ 3) h h' → tC (tAdd T (zby v j)) h' → J mX10_putBytes d 0 0 Q 0 0 3 [some (.inr (.inr 1)), some (.inl v), some (.inl (nI (24 - 8 * j) + -(nI 8)))] [] h') : J mX10_putBytes d 0 0 Q 0 0 3 [some (.inr (.inr 1)), some (.inl v), some (.inl (nI (24 - 8 * j)))] [] h := by
  have e1 := hT.1
  refine t_X10_putBytes_3 hr (fun _ _ => by rw [e1]; exact vp_in_nI h4 (by omega)) (fun p => absurd p (nI_pos (by omega))) (fun _ p => ?_) (fun _ _ => ?_)
  · rw [e1, nI_leI (by omega) (by omega)] at p; omega
  · rw [zby_c v hj, e1, nI_clamp (by omega)]
    refine kk _ hr ((zF_I _ _ _ (by omega)).trans (zF_I _ _ _ (by omega))) ⟨?_, fun k hk => ?_⟩
    · rw [zI_s, zI_o h _ _ (by decide), e1, nI_add]
      rfl
    · rw [zI_o _ _ _ (by decide)]
      show _ = nI (if k = T.1 then _ else _)
      by_cases q : k = T.1
      · rw [if_pos q, q, zI_s]
      · rw [if_neg q, zI_k _ _ _ q]
        exact hT.2 k (by have : k < T.1 + 1 := hk; omega)
theorem c_put {T : TP} {h : MH} {d : Nat} {Q : Option MV → MH → Prop} (hr : zRf h) (hT : tC T h) (h4 : T.1 + 4 ≤ 400) {v : Int32} (kk : ∀ h', zRf h' → zF (fun a => a ≠ 1 ∧ a ≠ 3) h h' → tC (tF4 T v) h' → Q none h') : Con mX10_putBytes d 0 0 [.inr (.inr 1), .inl v] h Q := by
  refine t_X10_putBytes ?_
  refine c_put1 (j := 0) hr hT (by omega) (by omega) (fun h1 r1 f1 t1 => ?_)
  rw [show nI (24 - 8 * 0) + -(nI 8) = nI (24 - 8 * 1) from rfl]
  refine c_put1 (j := 1) r1 t1 (by show T.1 + 1 < 400; omega) (by omega) (fun h2 r2 f2 t2 => ?_)
  rw [show nI (24 - 8 * 1) + -(nI 8) = nI (24 - 8 * 2) from rfl]
  refine c_put1 (j := 2) r2 t2 (by show T.1 + 1 + 1 < 400; omega) (by omega) (fun h3 r3 f3 t3 => ?_)
  rw [show nI (24 - 8 * 2) + -(nI 8) = nI (24 - 8 * 3) from rfl]
  refine c_put1 (j := 3) r3 t3 (by show T.1 + 1 + 1 + 1 < 400; omega) (by omega) (fun h5 r5 f5 t5 => ?_)
  refine t_X10_putBytes_3 r5 (fun p => absurd (show nI (24 - 8 * 3) + -(nI 8) < 0 by decide) p) (fun _ => ?_) (fun p => absurd (show nI (24 - 8 * 3) + -(nI 8) < 0 by decide) p) (fun p => absurd (show nI (24 - 8 * 3) + -(nI 8) < 0 by decide) p)
  exact kk h5 r5 (((f1.trans f2).trans f3).trans f5) t5
theorem o_feed {T : TP} {h : MH} {d : Nat} {Q : Option MV → MH → Prop} (hr : zRf h) (hT : tC T h) (hO : tOK T) (hd : 1 ≤ d) {v1 v2 v3 v4 v5 : Int32} (kk : ∀ h', zRf h' → zF (fun a => a ≠ 1 ∧ a ≠ 3) h h' → tC (tFeed T v1 v2 v3 v4 v5) h' → Q (some (.inl (fFeed T))) h') : Con mX10_feed d 0 0 [.inr (.inr 1), .inl v1, .inl v2, .inl v3, .inl v4, .inl v5] h Q := by
  have h4 := hO.1
  have e1 := hT.1
  refine t_X10_feed (d1' := 0) hr (by omega) (fun p => ?_) (fun p => ?_)
  · rw [e1, nI_add, nI_leI (by omega) (by omega)] at p
    have e2 : tFeed T v1 v2 v3 v4 v5 = tF4 (tF4 (tF4 (tF4 (tF4 T v1) v2) v3) v4) v5 := if_pos p
    have e3 : fFeed T = nI (T.1 + 20) := if_pos p
    rw [e2, e3] at kk
    refine c_put hr hT (by omega) (fun h1 r1 f1 t1 => ?_)
    refine t_X10_feed_21 (d1' := 0) r1 (by omega) ?_
    refine c_put r1 t1 (by show T.1 + 4 + 4 ≤ 400; omega) (fun h2 r2 f2 t2 => ?_)
    refine t_X10_feed_26 (d1' := 0) r2 (by omega) ?_
    refine c_put r2 t2 (by show T.1 + 4 + 4 + 4 ≤ 400; omega) (fun h3 r3 f3 t3 => ?_)
    refine t_X10_feed_31 (d1' := 0) r3 (by omega) ?_
    refine c_put r3 t3 (by show T.1 + 4 + 4 + 4 + 4 ≤ 400; omega) (fun h5 r5 f5 t5 => ?_)
    refine t_X10_feed_37 (d1' := 0) r5 (by omega) ?_
    refine c_put r5 t5 (by show T.1 + 4 + 4 + 4 + 4 + 4 ≤ 400; omega) (fun h6 r6 f6 t6 => ?_)
    refine t_X10_feed_43 r6 ?_
    have := kk h6 r6 ((((f1.trans f2).trans f3).trans f5).trans f6) t6
    rw [t6.1]
    exact this
  · rw [e1, nI_add, nI_leI (by omega) (by omega)] at p
    have e2 : tFeed T v1 v2 v3 v4 v5 = T := if_neg p
    have e3 : fFeed T = -(nI 5) := if_neg p
    rw [e2, e3] at kk
    exact kk h hr zF.rfl hT
/-- what the reference keeps while it works -/
def mK (h h' : MH) : Prop := zF (fun a => a ≤ 110 ∨ 142 < a ∨ a = 112 ∨ a = 113 ∨ a = 114 ∨ (140 ≤ a ∧ a ≤ 142)) h h' ∧ h'.1 111 5 = h.1 111 5 ∧ h'.1 111 13 = h.1 111 13 ∧ h'.1 111 14 = h.1 111 14 ∧ h'.1 111 28 = h.1 111 28
theorem mK.rfl {h : MH} : mK h h := ⟨zF.rfl, Eq.refl _, Eq.refl _, Eq.refl _, Eq.refl _⟩
theorem mK.trans {h h1 h2 : MH} (a : mK h h1) (b : mK h1 h2) : mK h h2 := ⟨a.1.trans b.1, b.2.1.trans a.2.1, b.2.2.1.trans a.2.2.1, b.2.2.2.1.trans a.2.2.2.1, b.2.2.2.2.trans a.2.2.2.2⟩
theorem mK_0 (h : MH) : mK h (zsI h 111 0 (nI 0)) := ⟨zF_I _ _ _ (by omega), zI_k _ _ _ (by decide), zI_k _ _ _ (by decide), zI_k _ _ _ (by decide), zI_k _ _ _ (by decide)⟩
/-- byte k of what is fed -/
def tB (v1 v2 v3 v4 v5 : Int32) (k : Nat) : Nat := zby (if k < 4 then v1 else if k < 8 then v2 else if k < 12 then v3 else if k < 16 then v4 else v5) (k % 4)
def tN (T : TP) (v1 v2 v3 v4 v5 : Int32) : Nat → TP
  | 0 => T
  | k + 1 => tAdd (tN T v1 v2 v3 v4 v5 k) (tB v1 v2 v3 v4 v5 k)
theorem tN_1 (T : TP) (v1 v2 v3 v4 v5 : Int32) : ∀ k, (tN T v1 v2 v3 v4 v5 k).1 = T.1 + k
  | 0 => rfl
  | k + 1 => by show (tN T v1 v2 v3 v4 v5 k).1 + 1 = _; rw [tN_1]; omega
theorem n_feed {T : TP} {h : MH} {d : Nat} {Q : Option MV → MH → Prop} (hr : zRf h) (hT : tM T h) (hO : tOK T) {v1 v2 v3 v4 v5 : Int32} (kk : ∀ h', zRf h' → zF (fun a => a ≠ 111 ∧ a ≠ 114) h h' → h'.1 111 13 = h.1 111 13 → h'.1 111 14 = h.1 111 14 → h'.1 111 28 = h.1 111 28 → tM (tFeed T v1 v2 v3 v4 v5) h' → Q (some (.inl (fFeed T))) h') : Con mX11_feed d 0 0 [.inr (.inr 111), .inl v1, .inl v2, .inl v3, .inl v4, .inl v5] h Q := by
  have h4 := hO.1
  have e1 : (zsI h 111 0 (nI 0)).1 111 5 = nI T.1 := (zI_k _ _ _ (by decide)).trans hT.1
  have hT' : tM T (zsI h 111 0 (nI 0)) := ⟨e1, hT.2⟩
  refine t_X11_feed hr (fun p => ?_) (fun p => ?_)
  · rw [e1, nI_add, nI_leI (by omega) (by omega)] at p
    have e2 : tFeed T v1 v2 v3 v4 v5 = tN T v1 v2 v3 v4 v5 20 := if_pos p
    have e3 : fFeed T = nI (T.1 + 20) := if_pos p
    rw [e2, e3] at kk
    have L : ∀ n i, i + n = 20 → ∀ (h1 : MH) (u : Option MV), zRf h1 → zF (fun a => a ≠ 111 ∧ a ≠ 114) h h1 → h1.1 111 13 = h.1 111 13 → h1.1 111 14 = h.1 111 14 → h1.1 111 28 = h.1 111 28 → tM (tN T v1 v2 v3 v4 v5 i) h1 → J mX11_feed d 0 0 Q 0 0 24 [some (.inr (.inr 111)), some (.inl v1), some (.inl v2), some (.inl v3), some (.inl v4), some (.inl v5), some (.inl (nI i)), u] [] h1 := by
      intro n
      induction n with
      | zero =>
        intro i hi h1 u r1 f1 a1 b1 c1 t1
        obtain rfl : i = 20 := by omega
        have hle : nI 20 ≤ nI 20 := by decide
        refine t_X11_feed_24 r1 (fun q => absurd hle q) (fun q => absurd hle q) (fun q => absurd hle q) (fun q => absurd hle q) (fun q => absurd hle q) (fun _ => ?_) (fun q => absurd hle q) (fun q => absurd hle q) (fun q => absurd hle q) (fun q => absurd hle q) (fun q => absurd hle q)
        have := kk h1 r1 f1 a1 b1 c1 t1
        rw [t1.1, tN_1]
        exact this
      | succ n ih =>
        intro i hi h1 u r1 f1 a1 b1 c1 t1
        have hL := tN_1 T v1 v2 v3 v4 v5 i
        have hv : vp_in (h1.1 111 5) 400 := by rw [t1.1]; exact vp_in_nI (by omega) (by omega)
        have hq : nI i - nI i / nI 4 * nI 4 = nI (i % 4) := pk_rem (by omega) (by omega) (by omega)
        have go : ∀ v : Int32, tB v1 v2 v3 v4 v5 i = zby v (i % 4) → J mX11_feed d 0 0 Q 0 0 24 [some (.inr (.inr 111)), some (.inl v1), some (.inl v2), some (.inl v3), some (.inl v4), some (.inl v5), some (.inl (nI i + nI 1)), some (.inl v)] [] (zsI (zsI h1 114 (h1.1 111 5).toNatClampNeg ((v >>> (((nI 24) - ((nI 8) * (nI i - nI i / (nI 4) * (nI 4)))) &&& 31)) &&& (nI 255))) 111 5 (((zsI h1 114 (h1.1 111 5).toNatClampNeg ((v >>> (((nI 24) - ((nI 8) * (nI i - nI i / (nI 4) * (nI 4)))) &&& 31)) &&& (nI 255))).1 111 5) + (nI 1))) := by
          intro v hb
          have e9 : ((v >>> (((nI 24) - ((nI 8) * (nI i - nI i / (nI 4) * (nI 4)))) &&& 31)) &&& (nI 255)) = nI (zby v (i % 4)) := by
            rw [hq]
            exact zby_m v (by omega)
          rw [e9, nI_add, t1.1, nI_clamp (by omega)]
          refine ih (i + 1) (by omega) _ _ r1 (f1.trans ((zF_I _ _ _ (by omega)).trans (zF_I _ _ _ (by omega)))) ?_ ?_ ?_ ⟨?_, fun k hk => ?_⟩
          · rw [zI_k _ _ _ (by decide), zI_o _ _ _ (by decide), a1]
          · rw [zI_k _ _ _ (by decide), zI_o _ _ _ (by decide), b1]
          · rw [zI_k _ _ _ (by decide), zI_o _ _ _ (by decide), c1]
          · rw [zI_s, zI_o _ _ _ (by decide), t1.1, nI_add]
            rfl
          · rw [zI_o _ _ _ (by decide)]
            show _ = nI (if k = (tN T v1 v2 v3 v4 v5 i).1 then _ else _)
            by_cases q : k = (tN T v1 v2 v3 v4 v5 i).1
            · rw [if_pos q, q, zI_s, hb]
            · rw [if_neg q, zI_k _ _ _ q]
              exact t1.2 k (by have : k < (tN T v1 v2 v3 v4 v5 i).1 + 1 := hk; omega)
        have l20 : ¬ nI 20 ≤ nI i := by rw [nI_leI (by omega) (by omega)]; omega
        refine t_X11_feed_24 r1 (fun _ _ _ _ _ => hv) (fun _ _ _ _ _ => hv) (fun _ _ _ _ => hv) (fun _ _ _ => hv) (fun _ _ => hv) (fun q => absurd q l20) (fun _ p1 p2 p3 p4 => ?_) (fun _ p1 p2 p3 p4 => ?_) (fun _ p1 p2 p3 => ?_) (fun _ p1 p2 => ?_) (fun _ p1 => ?_)
        · rw [nI_leI (by omega) (by omega)] at p1 p2 p3 p4
          refine go v5 ?_
          unfold tB
          rw [if_neg (by omega), if_neg (by omega), if_neg (by omega), if_neg (by omega)]
        · rw [nI_leI (by omega) (by omega)] at p1 p2 p3 p4
          refine go v4 ?_
          unfold tB
          rw [if_neg (by omega), if_neg (by omega), if_neg (by omega), if_pos (by omega)]
        · rw [nI_leI (by omega) (by omega)] at p1 p2 p3
          refine go v3 ?_
          unfold tB
          rw [if_neg (by omega), if_neg (by omega), if_pos (by omega)]
        · rw [nI_leI (by omega) (by omega)] at p1 p2
          refine go v2 ?_
          unfold tB
          rw [if_neg (by omega), if_pos (by omega)]
        · rw [nI_leI (by omega) (by omega)] at p1
          refine go v1 ?_
          unfold tB
          rw [if_pos (by omega)]
    exact L 20 0 (by omega) _ none hr (zF_I _ _ _ (by omega)) (zI_k _ _ _ (by decide)) (zI_k _ _ _ (by decide)) (zI_k _ _ _ (by decide)) hT'
  · rw [e1, nI_add, nI_leI (by omega) (by omega)] at p
    have e2 : tFeed T v1 v2 v3 v4 v5 = T := if_neg p
    have e3 : fFeed T = -(nI 5) := if_neg p
    rw [e2, e3] at kk
    exact kk _ hr (zF_I _ _ _ (by omega)) (zI_k _ _ _ (by decide)) (zI_k _ _ _ (by decide)) (zI_k _ _ _ (by decide)) hT'
