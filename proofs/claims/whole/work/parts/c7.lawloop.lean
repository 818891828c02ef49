/-! ===== the law's loop ===== -/
theorem dL_33 : decode code 33 = .ok (.tableswitch 2157 0 46 #[203, 266, 289, 322, 345, 378, 411, 434, 457, 516, 549, 582, 615, 658, 701, 724, 757, 790, 843, 886, 929, 962, 1005, 1064, 1123, 1182, 1241, 1300, 1359, 1428, 1497, 1556, 1605, 1664, 1697, 1730, 1773, 1806, 1829, 1862, 1905, 1938, 1981, 2055, 2088, 2111, 2134], 203) := by decide +kernel
def kLh : List (Nat × Instr) := [(18, .iload_n 3), (19, .aload_n 0), (20, .arraylength), (21, .bipush 6), (23, .isub), (24, .if_icmp .gt 2172), (27, .aload_n 0), (28, .iload_n 3), (29, .iaload), (30, .bipush 63), (32, .iand)]
theorem qLh : zdc code kLh = true := by decide +kernel
def kLe : List (Nat × Instr) := [(2190, .iinc 3 6), (2193, .goto (-2175)), (2196, .iconst 1), (2197, .ireturn)]
theorem qLe : zdc code kLe = true := by decide +kernel
theorem lr_lt {L i : Nat} (hL : L ≤ 3072) (hi : i ≤ 3078) : (nI L - (Int8.ofInt 6).toInt32 < nI i) ↔ L < i + 6 := by
  have e6 : (Int8.ofInt 6).toInt32 = nI 6 := rfl
  rw [e6, Int32.lt_iff_toInt_lt, pk_sub_toInt (by omega) (by omega), nI_toInt (by omega)]
  omega
section JLl
variable {E : LE} {cells slots k : Nat} {h : MH} {S : SS}
theorem L_body (F : LF E) (hO : sO S) (hr : zRf h) (hC : sC S h) (hM : sM S h) (hk : 6 * k + 6 ≤ lL E) (hL : lL E ≤ 3072) (hm : cells + 31 ≤ 600000 ∧ slots + 751 ≤ 7302250) (kk : LK E cells slots k) : JL E cells slots 27 (lls k) [] h := by
  refine L_aload_n F (zat qLh 6 (by rfl)) rfl ?_
  refine L_iload_n F (zat qLh 7 (by rfl)) rfl ?_
  refine L_iald F (zat qLh 8 (by rfl)) (vp_in_nI (by omega) (by omega)) ?_
  rw [nI_clamp (by omega)]
  refine L_bipush F (zat qLh 9 (by rfl)) ?_
  refine L_iand F (zat qLh 10 (by rfl)) ?_
  generalize lX E (6 * k) &&& (Int8.ofInt 63).toInt32 = x
  by_cases z : x.toInt < 0 ∨ 46 < x.toInt
  · exact L_tableOut F dL_33 z (tgt := 2190) (by decide) (L_wid (by omega) (by omega) (kk S h hr hO hC hM))
  · have ht : x.toInt.toNat < 47 := by omega
    have he : x.toInt = ((x.toInt.toNat : Nat) : Int) := by omega
    revert ht he
    generalize x.toInt.toNat = t
    intro ht e
    match t, ht, e with
    | 0, _, e => exact L_tableIn F dL_33 (by rw [e]; decide) (by rw [e]; decide) (off := 203) (tgt := 236) (by rw [e]; rfl) (by decide) (lc_0 F hO hr hC hM hk hL hm kk)
    | 1, _, e => exact L_tableIn F dL_33 (by rw [e]; decide) (by rw [e]; decide) (off := 266) (tgt := 299) (by rw [e]; rfl) (by decide) (lc_1 F hO hr hC hM hk hL hm kk)
    | 2, _, e => exact L_tableIn F dL_33 (by rw [e]; decide) (by rw [e]; decide) (off := 289) (tgt := 322) (by rw [e]; rfl) (by decide) (lc_2 F hO hr hC hM hk hL hm kk)
    | 3, _, e => exact L_tableIn F dL_33 (by rw [e]; decide) (by rw [e]; decide) (off := 322) (tgt := 355) (by rw [e]; rfl) (by decide) (lc_3 F hO hr hC hM hk hL hm kk)
    | 4, _, e => exact L_tableIn F dL_33 (by rw [e]; decide) (by rw [e]; decide) (off := 345) (tgt := 378) (by rw [e]; rfl) (by decide) (lc_4 F hO hr hC hM hk hL hm kk)
    | 5, _, e => exact L_tableIn F dL_33 (by rw [e]; decide) (by rw [e]; decide) (off := 378) (tgt := 411) (by rw [e]; rfl) (by decide) (lc_5 F hO hr hC hM hk hL hm kk)
    | 6, _, e => exact L_tableIn F dL_33 (by rw [e]; decide) (by rw [e]; decide) (off := 411) (tgt := 444) (by rw [e]; rfl) (by decide) (lc_6 F hO hr hC hM hk hL hm kk)
    | 7, _, e => exact L_tableIn F dL_33 (by rw [e]; decide) (by rw [e]; decide) (off := 434) (tgt := 467) (by rw [e]; rfl) (by decide) (lc_7 F hO hr hC hM hk hL hm kk)
    | 8, _, e => exact L_tableIn F dL_33 (by rw [e]; decide) (by rw [e]; decide) (off := 457) (tgt := 490) (by rw [e]; rfl) (by decide) (lc_8 F hO hr hC hM hk hL hm kk)
    | 9, _, e => exact L_tableIn F dL_33 (by rw [e]; decide) (by rw [e]; decide) (off := 516) (tgt := 549) (by rw [e]; rfl) (by decide) (lc_9 F hO hr hC hM hk hL hm kk)
    | 10, _, e => exact L_tableIn F dL_33 (by rw [e]; decide) (by rw [e]; decide) (off := 549) (tgt := 582) (by rw [e]; rfl) (by decide) (lc_10 F hO hr hC hM hk hL hm kk)
    | 11, _, e => exact L_tableIn F dL_33 (by rw [e]; decide) (by rw [e]; decide) (off := 582) (tgt := 615) (by rw [e]; rfl) (by decide) (lc_11 F hO hr hC hM hk hL hm kk)
    | 12, _, e => exact L_tableIn F dL_33 (by rw [e]; decide) (by rw [e]; decide) (off := 615) (tgt := 648) (by rw [e]; rfl) (by decide) (lc_12 F hO hr hC hM hk hL hm kk)
    | 13, _, e => exact L_tableIn F dL_33 (by rw [e]; decide) (by rw [e]; decide) (off := 658) (tgt := 691) (by rw [e]; rfl) (by decide) (lc_13 F hO hr hC hM hk hL hm kk)
    | 14, _, e => exact L_tableIn F dL_33 (by rw [e]; decide) (by rw [e]; decide) (off := 701) (tgt := 734) (by rw [e]; rfl) (by decide) (lc_14 F hO hr hC hM hk hL hm kk)
    | 15, _, e => exact L_tableIn F dL_33 (by rw [e]; decide) (by rw [e]; decide) (off := 724) (tgt := 757) (by rw [e]; rfl) (by decide) (lc_15 F hO hr hC hM hk hL hm kk)
    | 16, _, e => exact L_tableIn F dL_33 (by rw [e]; decide) (by rw [e]; decide) (off := 757) (tgt := 790) (by rw [e]; rfl) (by decide) (lc_16 F hO hr hC hM hk hL hm kk)
    | 17, _, e => exact L_tableIn F dL_33 (by rw [e]; decide) (by rw [e]; decide) (off := 790) (tgt := 823) (by rw [e]; rfl) (by decide) (lc_17 F hO hr hC hM hk hL hm kk)
    | 18, _, e => exact L_tableIn F dL_33 (by rw [e]; decide) (by rw [e]; decide) (off := 843) (tgt := 876) (by rw [e]; rfl) (by decide) (lc_18 F hO hr hC hM hk hL hm kk)
    | 19, _, e => exact L_tableIn F dL_33 (by rw [e]; decide) (by rw [e]; decide) (off := 886) (tgt := 919) (by rw [e]; rfl) (by decide) (lc_19 F hO hr hC hM hk hL hm kk)
    | 20, _, e => exact L_tableIn F dL_33 (by rw [e]; decide) (by rw [e]; decide) (off := 929) (tgt := 962) (by rw [e]; rfl) (by decide) (lc_20 F hO hr hC hM hk hL hm kk)
    | 21, _, e => exact L_tableIn F dL_33 (by rw [e]; decide) (by rw [e]; decide) (off := 962) (tgt := 995) (by rw [e]; rfl) (by decide) (lc_21 F hO hr hC hM hk hL hm kk)
    | 22, _, e => exact L_tableIn F dL_33 (by rw [e]; decide) (by rw [e]; decide) (off := 1005) (tgt := 1038) (by rw [e]; rfl) (by decide) (lc_22 F hO hr hC hM hk hL hm kk)
    | 23, _, e => exact L_tableIn F dL_33 (by rw [e]; decide) (by rw [e]; decide) (off := 1064) (tgt := 1097) (by rw [e]; rfl) (by decide) (lc_23 F hO hr hC hM hk hL hm kk)
    | 24, _, e => exact L_tableIn F dL_33 (by rw [e]; decide) (by rw [e]; decide) (off := 1123) (tgt := 1156) (by rw [e]; rfl) (by decide) (lc_24 F hO hr hC hM hk hL hm kk)
    | 25, _, e => exact L_tableIn F dL_33 (by rw [e]; decide) (by rw [e]; decide) (off := 1182) (tgt := 1215) (by rw [e]; rfl) (by decide) (lc_25 F hO hr hC hM hk hL hm kk)
    | 26, _, e => exact L_tableIn F dL_33 (by rw [e]; decide) (by rw [e]; decide) (off := 1241) (tgt := 1274) (by rw [e]; rfl) (by decide) (lc_26 F hO hr hC hM hk hL hm kk)
    | 27, _, e => exact L_tableIn F dL_33 (by rw [e]; decide) (by rw [e]; decide) (off := 1300) (tgt := 1333) (by rw [e]; rfl) (by decide) (lc_27 F hO hr hC hM hk hL hm kk)
    | 28, _, e => exact L_tableIn F dL_33 (by rw [e]; decide) (by rw [e]; decide) (off := 1359) (tgt := 1392) (by rw [e]; rfl) (by decide) (lc_28 F hO hr hC hM hk hL hm kk)
    | 29, _, e => exact L_tableIn F dL_33 (by rw [e]; decide) (by rw [e]; decide) (off := 1428) (tgt := 1461) (by rw [e]; rfl) (by decide) (lc_29 F hO hr hC hM hk hL hm kk)
    | 30, _, e => exact L_tableIn F dL_33 (by rw [e]; decide) (by rw [e]; decide) (off := 1497) (tgt := 1530) (by rw [e]; rfl) (by decide) (lc_30 F hO hr hC hM hk hL hm kk)
    | 31, _, e => exact L_tableIn F dL_33 (by rw [e]; decide) (by rw [e]; decide) (off := 1556) (tgt := 1589) (by rw [e]; rfl) (by decide) (lc_31 F hO hr hC hM hk hL hm kk)
    | 32, _, e => exact L_tableIn F dL_33 (by rw [e]; decide) (by rw [e]; decide) (off := 1605) (tgt := 1638) (by rw [e]; rfl) (by decide) (lc_32 F hO hr hC hM hk hL hm kk)
    | 33, _, e => exact L_tableIn F dL_33 (by rw [e]; decide) (by rw [e]; decide) (off := 1664) (tgt := 1697) (by rw [e]; rfl) (by decide) (lc_33 F hO hr hC hM hk hL hm kk)
    | 34, _, e => exact L_tableIn F dL_33 (by rw [e]; decide) (by rw [e]; decide) (off := 1697) (tgt := 1730) (by rw [e]; rfl) (by decide) (lc_34 F hO hr hC hM hk hL hm kk)
    | 35, _, e => exact L_tableIn F dL_33 (by rw [e]; decide) (by rw [e]; decide) (off := 1730) (tgt := 1763) (by rw [e]; rfl) (by decide) (lc_35 F hO hr hC hM hk hL hm kk)
    | 36, _, e => exact L_tableIn F dL_33 (by rw [e]; decide) (by rw [e]; decide) (off := 1773) (tgt := 1806) (by rw [e]; rfl) (by decide) (lc_36 F hO hr hC hM hk hL hm kk)
    | 37, _, e => exact L_tableIn F dL_33 (by rw [e]; decide) (by rw [e]; decide) (off := 1806) (tgt := 1839) (by rw [e]; rfl) (by decide) (lc_37 F hO hr hC hM hk hL hm kk)
    | 38, _, e => exact L_tableIn F dL_33 (by rw [e]; decide) (by rw [e]; decide) (off := 1829) (tgt := 1862) (by rw [e]; rfl) (by decide) (lc_38 F hO hr hC hM hk hL hm kk)
    | 39, _, e => exact L_tableIn F dL_33 (by rw [e]; decide) (by rw [e]; decide) (off := 1862) (tgt := 1895) (by rw [e]; rfl) (by decide) (lc_39 F hO hr hC hM hk hL hm kk)
    | 40, _, e => exact L_tableIn F dL_33 (by rw [e]; decide) (by rw [e]; decide) (off := 1905) (tgt := 1938) (by rw [e]; rfl) (by decide) (lc_40 F hO hr hC hM hk hL hm kk)
    | 41, _, e => exact L_tableIn F dL_33 (by rw [e]; decide) (by rw [e]; decide) (off := 1938) (tgt := 1971) (by rw [e]; rfl) (by decide) (lc_41 F hO hr hC hM hk hL hm kk)
    | 42, _, e => exact L_tableIn F dL_33 (by rw [e]; decide) (by rw [e]; decide) (off := 1981) (tgt := 2014) (by rw [e]; rfl) (by decide) (lc_42 F hO hr hC hM hk hL hm kk)
    | 43, _, e => exact L_tableIn F dL_33 (by rw [e]; decide) (by rw [e]; decide) (off := 2055) (tgt := 2088) (by rw [e]; rfl) (by decide) (lc_43 F hO hr hC hM hk hL hm kk)
    | 44, _, e => exact L_tableIn F dL_33 (by rw [e]; decide) (by rw [e]; decide) (off := 2088) (tgt := 2121) (by rw [e]; rfl) (by decide) (lc_44 F hO hr hC hM hk hL hm kk)
    | 45, _, e => exact L_tableIn F dL_33 (by rw [e]; decide) (by rw [e]; decide) (off := 2111) (tgt := 2144) (by rw [e]; rfl) (by decide) (lc_45 F hO hr hC hM hk hL hm kk)
    | 46, _, e => exact L_tableIn F dL_33 (by rw [e]; decide) (by rw [e]; decide) (off := 2134) (tgt := 2167) (by rw [e]; rfl) (by decide) (lc_46 F hO hr hC hM hk hL hm kk)
    | n + 47, hn, _ => exact absurd hn (by omega)
theorem L_loop (F : LF E) (hL : lL E ≤ 3072) : ∀ (n k : Nat) (h : MH) (S : SS), sO S → zRf h → sC S h → sM S h → lL E < 6 * k + 6 * n → k ≤ 512 → JL E (142 + 31 * k) (18496 + 751 * k) 18 (lls k) [] h := by
  intro n
  induction n with
  | zero =>
    intro k h S hO hr hC hM hn hk
    refine L_iload_n F (zat qLh 0 (by rfl)) rfl ?_
    refine L_aload_n F (zat qLh 1 (by rfl)) rfl ?_
    refine L_len F (zat qLh 2 (by rfl)) ?_
    refine L_bipush F (zat qLh 3 (by rfl)) ?_
    refine L_isub F (zat qLh 4 (by rfl)) ?_
    refine L_icmp_gt F (zat qLh 5 (by rfl)) (by decide) (fun _ => ?_) (fun z => absurd ((lr_lt hL (by omega)).mpr (by omega)) z)
    refine L_iconst F (zat qLe 2 (by rfl)) ?_
    exact L_ret F (zat qLe 3 (by rfl)) ⟨by omega, by omega⟩
  | succ n ih =>
    intro k h S hO hr hC hM hn hk
    refine L_iload_n F (zat qLh 0 (by rfl)) rfl ?_
    refine L_aload_n F (zat qLh 1 (by rfl)) rfl ?_
    refine L_len F (zat qLh 2 (by rfl)) ?_
    refine L_bipush F (zat qLh 3 (by rfl)) ?_
    refine L_isub F (zat qLh 4 (by rfl)) ?_
    refine L_icmp_gt F (zat qLh 5 (by rfl)) (by decide) (fun _ => ?_) (fun z => ?_)
    · refine L_iconst F (zat qLe 2 (by rfl)) ?_
      exact L_ret F (zat qLe 3 (by rfl)) ⟨by omega, by omega⟩
    · have hk6 : 6 * k + 6 ≤ lL E := Nat.not_lt.mp (fun y => z ((lr_lt hL (by omega)).mpr y))
      refine L_body F hO hr hC hM hk6 hL ⟨by omega, by omega⟩ (fun S' h' r' o' c' m' => ?_)
      refine L_iinc F (zat qLe 0 (by rfl)) (x := nI (6 * k)) rfl (by decide) ?_
      have e : zs1 (lls k) 3 (.inl (nI (6 * k) + Int32.ofInt 6)) = lls (k + 1) := by
        have e1 : nI (6 * k) + Int32.ofInt 6 = nI (6 * (k + 1)) := nI_add (6 * k) 6
        rw [e1]
        rfl
      rw [e]
      refine L_goto F (zat qLe 1 (by rfl)) (by decide) ?_
      have g := ih (k + 1) h' S' o' r' c' m' (by omega) (by omega)
      rw [show 142 + 31 * (k + 1) = 142 + 31 * k + 31 by omega, show 18496 + 751 * (k + 1) = 18496 + 751 * k + 751 by omega] at g
      exact g
end JLl
