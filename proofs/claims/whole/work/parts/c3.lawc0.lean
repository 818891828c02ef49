def kL0 : List (Nat × Instr) := [(236, .aload_n 1), (237, .aload_n 0), (238, .iload_n 3), (239, .iconst 1), (240, .iadd), (241, .iaload), (242, .aload_n 0), (243, .iload_n 3), (244, .iconst 2), (245, .iadd), (246, .iaload), (247, .aload_n 0), (248, .iload_n 3), (249, .iconst 3), (250, .iadd), (251, .iaload), (252, .aload_n 0), (253, .iload_n 3), (254, .iconst 4), (255, .iadd), (256, .iaload), (257, .aload_n 0), (258, .iload_n 3), (259, .iconst 5), (260, .iadd), (261, .iaload), (262, .invokevirtual 13), (265, .aload_n 2), (266, .aload_n 0), (267, .iload_n 3), (268, .iconst 1), (269, .iadd), (270, .iaload), (271, .aload_n 0), (272, .iload_n 3), (273, .iconst 2), (274, .iadd), (275, .iaload), (276, .aload_n 0), (277, .iload_n 3), (278, .iconst 3), (279, .iadd), (280, .iaload), (281, .aload_n 0), (282, .iload_n 3), (283, .iconst 4), (284, .iadd), (285, .iaload), (286, .aload_n 0), (287, .iload_n 3), (288, .iconst 5), (289, .iadd), (290, .iaload), (291, .invokevirtual 17), (294, .if_icmp .eq 1896), (297, .iconst 0), (298, .ireturn)]
theorem qL0 : zdc code kL0 = true := by decide +kernel
theorem lL_13 : zLv "UnevenWaxLaw" 13 5 mX10_feed := zLv_of 532 110 12 533 534 rfl (by decide +kernel) (by decide +kernel)
theorem lL_17 : zLv "UnevenWaxLaw" 17 5 mX11_feed := zLv_of 1450 121 185 1451 1452 rfl (by decide +kernel) (by decide +kernel)
theorem lc_0 {E : LE} {cells slots k : Nat} {h : MH} {S : SS} (F : LF E) (hO : sO S) (hr : zRf h) (hC : sC S h) (hM : sM S h) (hk : 6 * k + 6 ≤ lL E) (hL : lL E ≤ 3072) (hm : cells + 31 ≤ 600000 ∧ slots + 751 ≤ 7302250) (kk : LK E cells slots k) : JL E cells slots 236 (lls k) [] h := by
  obtain ⟨p1, p2⟩ := p_feed (S := S) (a := (lX E (6 * k + 1))) (b := (lX E (6 * k + 2))) (c := (lX E (6 * k + 3))) (d := (lX E (6 * k + 4))) (e := (lX E (6 * k + 5))) hO
  refine L_aload_n F (zat qL0 0 (by rfl)) rfl ?_
  refine L_arg F qL0 1 (by rfl) (by rfl) (by rfl) (by rfl) (by rfl) (j := 1) rfl (by omega) hL ?_
  refine L_arg F qL0 6 (by rfl) (by rfl) (by rfl) (by rfl) (by rfl) (j := 2) rfl (by omega) hL ?_
  refine L_arg F qL0 11 (by rfl) (by rfl) (by rfl) (by rfl) (by rfl) (j := 3) rfl (by omega) hL ?_
  refine L_arg F qL0 16 (by rfl) (by rfl) (by rfl) (by rfl) (by rfl) (j := 4) rfl (by omega) hL ?_
  refine L_arg F qL0 21 (by rfl) (by rfl) (by rfl) (by rfl) (by rfl) (j := 5) rfl (by omega) hL ?_
  refine L_callC F (zat qL0 26 (by rfl)) lL_13 rfl rfl (as := [.inl (lX E (6 * k + 1)), .inl (lX E (6 * k + 2)), .inl (lX E (6 * k + 3)), .inl (lX E (6 * k + 4)), .inl (lX E (6 * k + 5))]) ⟨by omega, by omega⟩ hr hC hM p1 (fun h1 r1 o1 c1 m1 => ?_)
  refine L_aload_n F (zat qL0 27 (by rfl)) rfl ?_
  refine L_arg F qL0 28 (by rfl) (by rfl) (by rfl) (by rfl) (by rfl) (j := 1) rfl (by omega) hL ?_
  refine L_arg F qL0 33 (by rfl) (by rfl) (by rfl) (by rfl) (by rfl) (j := 2) rfl (by omega) hL ?_
  refine L_arg F qL0 38 (by rfl) (by rfl) (by rfl) (by rfl) (by rfl) (j := 3) rfl (by omega) hL ?_
  refine L_arg F qL0 43 (by rfl) (by rfl) (by rfl) (by rfl) (by rfl) (j := 4) rfl (by omega) hL ?_
  refine L_arg F qL0 48 (by rfl) (by rfl) (by rfl) (by rfl) (by rfl) (j := 5) rfl (by omega) hL ?_
  refine L_callM F (zat qL0 53 (by rfl)) lL_17 rfl rfl (as := [.inl (lX E (6 * k + 1)), .inl (lX E (6 * k + 2)), .inl (lX E (6 * k + 3)), .inl (lX E (6 * k + 4)), .inl (lX E (6 * k + 5))]) ⟨by omega, by omega⟩ r1 c1 m1 p2 (fun h2 r2 c2 m2 => ?_)
  exact L_same F qL0 54 (by rfl) (by decide) (L_wid (by omega) (by omega) (kk _ h2 r2 o1 c2 m2))
def kL1 : List (Nat × Instr) := [(299, .aload_n 1), (300, .aload_n 0), (301, .iload_n 3), (302, .iconst 1), (303, .iadd), (304, .iaload), (305, .invokevirtual 18), (308, .aload_n 2), (309, .aload_n 0), (310, .iload_n 3), (311, .iconst 1), (312, .iadd), (313, .iaload), (314, .invokevirtual 22), (317, .if_icmp .eq 1873), (320, .iconst 0), (321, .ireturn)]
theorem qL1 : zdc code kL1 = true := by decide +kernel
theorem lL_18 : zLv "UnevenWaxLaw" 18 1 mX10_cellar := zLv_of 540 110 14 541 542 rfl (by decide +kernel) (by decide +kernel)
theorem lL_22 : zLv "UnevenWaxLaw" 22 1 mX11_cellar := zLv_of 1454 121 186 1455 1456 rfl (by decide +kernel) (by decide +kernel)
theorem lc_1 {E : LE} {cells slots k : Nat} {h : MH} {S : SS} (F : LF E) (hO : sO S) (hr : zRf h) (hC : sC S h) (hM : sM S h) (hk : 6 * k + 6 ≤ lL E) (hL : lL E ≤ 3072) (hm : cells + 31 ≤ 600000 ∧ slots + 751 ≤ 7302250) (kk : LK E cells slots k) : JL E cells slots 299 (lls k) [] h := by
  obtain ⟨S', r, p1, p2⟩ := p_cellar (S := S) (x := (lX E (6 * k + 1))) hO
  refine L_aload_n F (zat qL1 0 (by rfl)) rfl ?_
  refine L_arg F qL1 1 (by rfl) (by rfl) (by rfl) (by rfl) (by rfl) (j := 1) rfl (by omega) hL ?_
  refine L_callC F (zat qL1 6 (by rfl)) lL_18 rfl rfl (as := [.inl (lX E (6 * k + 1))]) ⟨by omega, by omega⟩ hr hC hM p1 (fun h1 r1 o1 c1 m1 => ?_)
  refine L_aload_n F (zat qL1 7 (by rfl)) rfl ?_
  refine L_arg F qL1 8 (by rfl) (by rfl) (by rfl) (by rfl) (by rfl) (j := 1) rfl (by omega) hL ?_
  refine L_callM F (zat qL1 13 (by rfl)) lL_22 rfl rfl (as := [.inl (lX E (6 * k + 1))]) ⟨by omega, by omega⟩ r1 c1 m1 p2 (fun h2 r2 c2 m2 => ?_)
  exact L_same F qL1 14 (by rfl) (by decide) (L_wid (by omega) (by omega) (kk _ h2 r2 o1 c2 m2))
def kL2 : List (Nat × Instr) := [(322, .aload_n 1), (323, .aload_n 0), (324, .iload_n 3), (325, .iconst 1), (326, .iadd), (327, .iaload), (328, .aload_n 0), (329, .iload_n 3), (330, .iconst 2), (331, .iadd), (332, .iaload), (333, .invokevirtual 23), (336, .aload_n 2), (337, .aload_n 0), (338, .iload_n 3), (339, .iconst 1), (340, .iadd), (341, .iaload), (342, .aload_n 0), (343, .iload_n 3), (344, .iconst 2), (345, .iadd), (346, .iaload), (347, .invokevirtual 27), (350, .if_icmp .eq 1840), (353, .iconst 0), (354, .ireturn)]
theorem qL2 : zdc code kL2 = true := by decide +kernel
theorem lL_23 : zLv "UnevenWaxLaw" 23 2 mX10_plan := zLv_of 671 110 45 672 673 rfl (by decide +kernel) (by decide +kernel)
theorem lL_27 : zLv "UnevenWaxLaw" 27 2 mX11_plan := zLv_of 1515 121 201 1516 1517 rfl (by decide +kernel) (by decide +kernel)
theorem lc_2 {E : LE} {cells slots k : Nat} {h : MH} {S : SS} (F : LF E) (hO : sO S) (hr : zRf h) (hC : sC S h) (hM : sM S h) (hk : 6 * k + 6 ≤ lL E) (hL : lL E ≤ 3072) (hm : cells + 31 ≤ 600000 ∧ slots + 751 ≤ 7302250) (kk : LK E cells slots k) : JL E cells slots 322 (lls k) [] h := by
  obtain ⟨S', r, p1, p2⟩ := p_plan (S := S) (x := (lX E (6 * k + 1))) (y := (lX E (6 * k + 2))) hO
  refine L_aload_n F (zat qL2 0 (by rfl)) rfl ?_
  refine L_arg F qL2 1 (by rfl) (by rfl) (by rfl) (by rfl) (by rfl) (j := 1) rfl (by omega) hL ?_
  refine L_arg F qL2 6 (by rfl) (by rfl) (by rfl) (by rfl) (by rfl) (j := 2) rfl (by omega) hL ?_
  refine L_callC F (zat qL2 11 (by rfl)) lL_23 rfl rfl (as := [.inl (lX E (6 * k + 1)), .inl (lX E (6 * k + 2))]) ⟨by omega, by omega⟩ hr hC hM p1 (fun h1 r1 o1 c1 m1 => ?_)
  refine L_aload_n F (zat qL2 12 (by rfl)) rfl ?_
  refine L_arg F qL2 13 (by rfl) (by rfl) (by rfl) (by rfl) (by rfl) (j := 1) rfl (by omega) hL ?_
  refine L_arg F qL2 18 (by rfl) (by rfl) (by rfl) (by rfl) (by rfl) (j := 2) rfl (by omega) hL ?_
  refine L_callM F (zat qL2 23 (by rfl)) lL_27 rfl rfl (as := [.inl (lX E (6 * k + 1)), .inl (lX E (6 * k + 2))]) ⟨by omega, by omega⟩ r1 c1 m1 p2 (fun h2 r2 c2 m2 => ?_)
  exact L_same F qL2 24 (by rfl) (by decide) (L_wid (by omega) (by omega) (kk _ h2 r2 o1 c2 m2))
def kL3 : List (Nat × Instr) := [(355, .aload_n 1), (356, .aload_n 0), (357, .iload_n 3), (358, .iconst 1), (359, .iadd), (360, .iaload), (361, .invokevirtual 28), (364, .aload_n 2), (365, .aload_n 0), (366, .iload_n 3), (367, .iconst 1), (368, .iadd), (369, .iaload), (370, .invokevirtual 31), (373, .if_icmp .eq 1817), (376, .iconst 0), (377, .ireturn)]
theorem qL3 : zdc code kL3 = true := by decide +kernel
theorem lL_28 : zLv "UnevenWaxLaw" 28 1 mX10_fault := zLv_of 719 110 55 720 721 rfl (by decide +kernel) (by decide +kernel)
theorem lL_31 : zLv "UnevenWaxLaw" 31 1 mX11_fault := zLv_of 1533 121 205 1534 1535 rfl (by decide +kernel) (by decide +kernel)
theorem lc_3 {E : LE} {cells slots k : Nat} {h : MH} {S : SS} (F : LF E) (hO : sO S) (hr : zRf h) (hC : sC S h) (hM : sM S h) (hk : 6 * k + 6 ≤ lL E) (hL : lL E ≤ 3072) (hm : cells + 31 ≤ 600000 ∧ slots + 751 ≤ 7302250) (kk : LK E cells slots k) : JL E cells slots 355 (lls k) [] h := by
  obtain ⟨p1, p2⟩ := p_fault (S := S) (x := (lX E (6 * k + 1))) hO
  refine L_aload_n F (zat qL3 0 (by rfl)) rfl ?_
  refine L_arg F qL3 1 (by rfl) (by rfl) (by rfl) (by rfl) (by rfl) (j := 1) rfl (by omega) hL ?_
  refine L_callC F (zat qL3 6 (by rfl)) lL_28 rfl rfl (as := [.inl (lX E (6 * k + 1))]) ⟨by omega, by omega⟩ hr hC hM p1 (fun h1 r1 o1 c1 m1 => ?_)
  refine L_aload_n F (zat qL3 7 (by rfl)) rfl ?_
  refine L_arg F qL3 8 (by rfl) (by rfl) (by rfl) (by rfl) (by rfl) (j := 1) rfl (by omega) hL ?_
  refine L_callM F (zat qL3 13 (by rfl)) lL_31 rfl rfl (as := [.inl (lX E (6 * k + 1))]) ⟨by omega, by omega⟩ r1 c1 m1 p2 (fun h2 r2 c2 m2 => ?_)
  exact L_same F qL3 14 (by rfl) (by decide) (L_wid (by omega) (by omega) (kk _ h2 r2 o1 c2 m2))
def kL4 : List (Nat × Instr) := [(378, .aload_n 1), (379, .aload_n 0), (380, .iload_n 3), (381, .iconst 1), (382, .iadd), (383, .iaload), (384, .aload_n 0), (385, .iload_n 3), (386, .iconst 2), (387, .iadd), (388, .iaload), (389, .invokevirtual 32), (392, .aload_n 2), (393, .aload_n 0), (394, .iload_n 3), (395, .iconst 1), (396, .iadd), (397, .iaload), (398, .aload_n 0), (399, .iload_n 3), (400, .iconst 2), (401, .iadd), (402, .iaload), (403, .invokevirtual 35), (406, .if_icmp .eq 1784), (409, .iconst 0), (410, .ireturn)]
theorem qL4 : zdc code kL4 = true := by decide +kernel
theorem lL_32 : zLv "UnevenWaxLaw" 32 2 mX10_candle := zLv_of 723 110 56 724 725 rfl (by decide +kernel) (by decide +kernel)
theorem lL_35 : zLv "UnevenWaxLaw" 35 2 mX11_candle := zLv_of 1537 121 206 1538 1539 rfl (by decide +kernel) (by decide +kernel)
theorem lc_4 {E : LE} {cells slots k : Nat} {h : MH} {S : SS} (F : LF E) (hO : sO S) (hr : zRf h) (hC : sC S h) (hM : sM S h) (hk : 6 * k + 6 ≤ lL E) (hL : lL E ≤ 3072) (hm : cells + 31 ≤ 600000 ∧ slots + 751 ≤ 7302250) (kk : LK E cells slots k) : JL E cells slots 378 (lls k) [] h := by
  obtain ⟨p1, p2⟩ := p_candle (S := S) (x := (lX E (6 * k + 1))) (y := (lX E (6 * k + 2))) hO
  refine L_aload_n F (zat qL4 0 (by rfl)) rfl ?_
  refine L_arg F qL4 1 (by rfl) (by rfl) (by rfl) (by rfl) (by rfl) (j := 1) rfl (by omega) hL ?_
  refine L_arg F qL4 6 (by rfl) (by rfl) (by rfl) (by rfl) (by rfl) (j := 2) rfl (by omega) hL ?_
  refine L_callC F (zat qL4 11 (by rfl)) lL_32 rfl rfl (as := [.inl (lX E (6 * k + 1)), .inl (lX E (6 * k + 2))]) ⟨by omega, by omega⟩ hr hC hM p1 (fun h1 r1 o1 c1 m1 => ?_)
  refine L_aload_n F (zat qL4 12 (by rfl)) rfl ?_
  refine L_arg F qL4 13 (by rfl) (by rfl) (by rfl) (by rfl) (by rfl) (j := 1) rfl (by omega) hL ?_
  refine L_arg F qL4 18 (by rfl) (by rfl) (by rfl) (by rfl) (by rfl) (j := 2) rfl (by omega) hL ?_
  refine L_callM F (zat qL4 23 (by rfl)) lL_35 rfl rfl (as := [.inl (lX E (6 * k + 1)), .inl (lX E (6 * k + 2))]) ⟨by omega, by omega⟩ r1 c1 m1 p2 (fun h2 r2 c2 m2 => ?_)
  exact L_same F qL4 24 (by rfl) (by decide) (L_wid (by omega) (by omega) (kk _ h2 r2 o1 c2 m2))
def kL5 : List (Nat × Instr) := [(411, .aload_n 1), (412, .aload_n 0), (413, .iload_n 3), (414, .iconst 1), (415, .iadd), (416, .iaload), (417, .aload_n 0), (418, .iload_n 3), (419, .iconst 2), (420, .iadd), (421, .iaload), (422, .invokevirtual 36), (425, .aload_n 2), (426, .aload_n 0), (427, .iload_n 3), (428, .iconst 1), (429, .iadd), (430, .iaload), (431, .aload_n 0), (432, .iload_n 3), (433, .iconst 2), (434, .iadd), (435, .iaload), (436, .invokevirtual 39), (439, .if_icmp .eq 1751), (442, .iconst 0), (443, .ireturn)]
theorem qL5 : zdc code kL5 = true := by decide +kernel
theorem lL_36 : zLv "UnevenWaxLaw" 36 2 mX10_length := zLv_of 741 110 60 742 743 rfl (by decide +kernel) (by decide +kernel)
theorem lL_39 : zLv "UnevenWaxLaw" 39 2 mX11_length := zLv_of 1553 121 210 1554 1555 rfl (by decide +kernel) (by decide +kernel)
theorem lc_5 {E : LE} {cells slots k : Nat} {h : MH} {S : SS} (F : LF E) (hO : sO S) (hr : zRf h) (hC : sC S h) (hM : sM S h) (hk : 6 * k + 6 ≤ lL E) (hL : lL E ≤ 3072) (hm : cells + 31 ≤ 600000 ∧ slots + 751 ≤ 7302250) (kk : LK E cells slots k) : JL E cells slots 411 (lls k) [] h := by
  obtain ⟨p1, p2⟩ := p_length (S := S) (x := (lX E (6 * k + 1))) (y := (lX E (6 * k + 2))) hO
  refine L_aload_n F (zat qL5 0 (by rfl)) rfl ?_
  refine L_arg F qL5 1 (by rfl) (by rfl) (by rfl) (by rfl) (by rfl) (j := 1) rfl (by omega) hL ?_
  refine L_arg F qL5 6 (by rfl) (by rfl) (by rfl) (by rfl) (by rfl) (j := 2) rfl (by omega) hL ?_
  refine L_callC F (zat qL5 11 (by rfl)) lL_36 rfl rfl (as := [.inl (lX E (6 * k + 1)), .inl (lX E (6 * k + 2))]) ⟨by omega, by omega⟩ hr hC hM p1 (fun h1 r1 o1 c1 m1 => ?_)
  refine L_aload_n F (zat qL5 12 (by rfl)) rfl ?_
  refine L_arg F qL5 13 (by rfl) (by rfl) (by rfl) (by rfl) (by rfl) (j := 1) rfl (by omega) hL ?_
  refine L_arg F qL5 18 (by rfl) (by rfl) (by rfl) (by rfl) (by rfl) (j := 2) rfl (by omega) hL ?_
  refine L_callM F (zat qL5 23 (by rfl)) lL_39 rfl rfl (as := [.inl (lX E (6 * k + 1)), .inl (lX E (6 * k + 2))]) ⟨by omega, by omega⟩ r1 c1 m1 p2 (fun h2 r2 c2 m2 => ?_)
  exact L_same F qL5 24 (by rfl) (by decide) (L_wid (by omega) (by omega) (kk _ h2 r2 o1 c2 m2))
def kL6 : List (Nat × Instr) := [(444, .aload_n 1), (445, .aload_n 0), (446, .iload_n 3), (447, .iconst 1), (448, .iadd), (449, .iaload), (450, .invokevirtual 40), (453, .aload_n 2), (454, .aload_n 0), (455, .iload_n 3), (456, .iconst 1), (457, .iadd), (458, .iaload), (459, .invokevirtual 43), (462, .if_icmp .eq 1728), (465, .iconst 0), (466, .ireturn)]
theorem qL6 : zdc code kL6 = true := by decide +kernel
theorem lL_40 : zLv "UnevenWaxLaw" 40 1 mX10_meet := zLv_of 753 110 63 754 755 rfl (by decide +kernel) (by decide +kernel)
theorem lL_43 : zLv "UnevenWaxLaw" 43 1 mX11_meet := zLv_of 1562 121 212 1563 1564 rfl (by decide +kernel) (by decide +kernel)
theorem lc_6 {E : LE} {cells slots k : Nat} {h : MH} {S : SS} (F : LF E) (hO : sO S) (hr : zRf h) (hC : sC S h) (hM : sM S h) (hk : 6 * k + 6 ≤ lL E) (hL : lL E ≤ 3072) (hm : cells + 31 ≤ 600000 ∧ slots + 751 ≤ 7302250) (kk : LK E cells slots k) : JL E cells slots 444 (lls k) [] h := by
  obtain ⟨p1, p2⟩ := p_meet (S := S) (x := (lX E (6 * k + 1))) hO
  refine L_aload_n F (zat qL6 0 (by rfl)) rfl ?_
  refine L_arg F qL6 1 (by rfl) (by rfl) (by rfl) (by rfl) (by rfl) (j := 1) rfl (by omega) hL ?_
  refine L_callC F (zat qL6 6 (by rfl)) lL_40 rfl rfl (as := [.inl (lX E (6 * k + 1))]) ⟨by omega, by omega⟩ hr hC hM p1 (fun h1 r1 o1 c1 m1 => ?_)
  refine L_aload_n F (zat qL6 7 (by rfl)) rfl ?_
  refine L_arg F qL6 8 (by rfl) (by rfl) (by rfl) (by rfl) (by rfl) (j := 1) rfl (by omega) hL ?_
  refine L_callM F (zat qL6 13 (by rfl)) lL_43 rfl rfl (as := [.inl (lX E (6 * k + 1))]) ⟨by omega, by omega⟩ r1 c1 m1 p2 (fun h2 r2 c2 m2 => ?_)
  exact L_same F qL6 14 (by rfl) (by decide) (L_wid (by omega) (by omega) (kk _ h2 r2 o1 c2 m2))
def kL7 : List (Nat × Instr) := [(467, .aload_n 1), (468, .aload_n 0), (469, .iload_n 3), (470, .iconst 1), (471, .iadd), (472, .iaload), (473, .invokevirtual 44), (476, .aload_n 2), (477, .aload_n 0), (478, .iload_n 3), (479, .iconst 1), (480, .iadd), (481, .iaload), (482, .invokevirtual 47), (485, .if_icmp .eq 1705), (488, .iconst 0), (489, .ireturn)]
theorem qL7 : zdc code kL7 = true := by decide +kernel
theorem lL_44 : zLv "UnevenWaxLaw" 44 1 mX10_halves := zLv_of 757 110 64 758 759 rfl (by decide +kernel) (by decide +kernel)
theorem lL_47 : zLv "UnevenWaxLaw" 47 1 mX11_halves := zLv_of 1566 121 213 1567 1568 rfl (by decide +kernel) (by decide +kernel)
theorem lc_7 {E : LE} {cells slots k : Nat} {h : MH} {S : SS} (F : LF E) (hO : sO S) (hr : zRf h) (hC : sC S h) (hM : sM S h) (hk : 6 * k + 6 ≤ lL E) (hL : lL E ≤ 3072) (hm : cells + 31 ≤ 600000 ∧ slots + 751 ≤ 7302250) (kk : LK E cells slots k) : JL E cells slots 467 (lls k) [] h := by
  obtain ⟨p1, p2⟩ := p_halves (S := S) (x := (lX E (6 * k + 1))) hO
  refine L_aload_n F (zat qL7 0 (by rfl)) rfl ?_
  refine L_arg F qL7 1 (by rfl) (by rfl) (by rfl) (by rfl) (by rfl) (j := 1) rfl (by omega) hL ?_
  refine L_callC F (zat qL7 6 (by rfl)) lL_44 rfl rfl (as := [.inl (lX E (6 * k + 1))]) ⟨by omega, by omega⟩ hr hC hM p1 (fun h1 r1 o1 c1 m1 => ?_)
  refine L_aload_n F (zat qL7 7 (by rfl)) rfl ?_
  refine L_arg F qL7 8 (by rfl) (by rfl) (by rfl) (by rfl) (by rfl) (j := 1) rfl (by omega) hL ?_
  refine L_callM F (zat qL7 13 (by rfl)) lL_47 rfl rfl (as := [.inl (lX E (6 * k + 1))]) ⟨by omega, by omega⟩ r1 c1 m1 p2 (fun h2 r2 c2 m2 => ?_)
  exact L_same F qL7 14 (by rfl) (by decide) (L_wid (by omega) (by omega) (kk _ h2 r2 o1 c2 m2))
def kL8 : List (Nat × Instr) := [(490, .aload_n 1), (491, .aload_n 0), (492, .iload_n 3), (493, .iconst 1), (494, .iadd), (495, .iaload), (496, .aload_n 0), (497, .iload_n 3), (498, .iconst 2), (499, .iadd), (500, .iaload), (501, .aload_n 0), (502, .iload_n 3), (503, .iconst 3), (504, .iadd), (505, .iaload), (506, .ifCond .eq 7), (509, .iconst 1), (510, .goto 4), (513, .iconst 0), (514, .invokevirtual 48), (517, .aload_n 2), (518, .aload_n 0), (519, .iload_n 3), (520, .iconst 1), (521, .iadd), (522, .iaload), (523, .aload_n 0), (524, .iload_n 3), (525, .iconst 2), (526, .iadd), (527, .iaload), (528, .aload_n 0), (529, .iload_n 3), (530, .iconst 3), (531, .iadd), (532, .iaload), (533, .ifCond .eq 7), (536, .iconst 1), (537, .goto 4), (540, .iconst 0), (541, .invokevirtual 52), (544, .if_icmp .eq 1646), (547, .iconst 0), (548, .ireturn)]
theorem qL8 : zdc code kL8 = true := by decide +kernel
theorem lL_48 : zLv "UnevenWaxLaw" 48 3 mX10_piece := zLv_of 763 110 65 764 765 rfl (by decide +kernel) (by decide +kernel)
theorem lL_52 : zLv "UnevenWaxLaw" 52 3 mX11_piece := zLv_of 1570 121 214 1571 1572 rfl (by decide +kernel) (by decide +kernel)
theorem lc_8 {E : LE} {cells slots k : Nat} {h : MH} {S : SS} (F : LF E) (hO : sO S) (hr : zRf h) (hC : sC S h) (hM : sM S h) (hk : 6 * k + 6 ≤ lL E) (hL : lL E ≤ 3072) (hm : cells + 31 ≤ 600000 ∧ slots + 751 ≤ 7302250) (kk : LK E cells slots k) : JL E cells slots 490 (lls k) [] h := by
  obtain ⟨p1, p2⟩ := p_piece (S := S) (x := (lX E (6 * k + 1))) (y := (lX E (6 * k + 2))) (e := !((lX E (6 * k + 3)) == 0)) hO
  refine L_aload_n F (zat qL8 0 (by rfl)) rfl ?_
  refine L_arg F qL8 1 (by rfl) (by rfl) (by rfl) (by rfl) (by rfl) (j := 1) rfl (by omega) hL ?_
  refine L_arg F qL8 6 (by rfl) (by rfl) (by rfl) (by rfl) (by rfl) (j := 2) rfl (by omega) hL ?_
  refine L_arg F qL8 11 (by rfl) (by rfl) (by rfl) (by rfl) (by rfl) (j := 3) rfl (by omega) hL ?_
  refine L_bool F qL8 16 (by rfl) (by rfl) (by rfl) (by rfl) ?_
  refine L_callC F (zat qL8 20 (by rfl)) lL_48 rfl rfl (as := [.inl (lX E (6 * k + 1)), .inl (lX E (6 * k + 2)), .inl (bI (!((lX E (6 * k + 3)) == 0)))]) ⟨by omega, by omega⟩ hr hC hM p1 (fun h1 r1 o1 c1 m1 => ?_)
  refine L_aload_n F (zat qL8 21 (by rfl)) rfl ?_
  refine L_arg F qL8 22 (by rfl) (by rfl) (by rfl) (by rfl) (by rfl) (j := 1) rfl (by omega) hL ?_
  refine L_arg F qL8 27 (by rfl) (by rfl) (by rfl) (by rfl) (by rfl) (j := 2) rfl (by omega) hL ?_
  refine L_arg F qL8 32 (by rfl) (by rfl) (by rfl) (by rfl) (by rfl) (j := 3) rfl (by omega) hL ?_
  refine L_bool F qL8 37 (by rfl) (by rfl) (by rfl) (by rfl) ?_
  refine L_callM F (zat qL8 41 (by rfl)) lL_52 rfl rfl (as := [.inl (lX E (6 * k + 1)), .inl (lX E (6 * k + 2)), .inl (bI (!((lX E (6 * k + 3)) == 0)))]) ⟨by omega, by omega⟩ r1 c1 m1 p2 (fun h2 r2 c2 m2 => ?_)
  exact L_same F qL8 42 (by rfl) (by decide) (L_wid (by omega) (by omega) (kk _ h2 r2 o1 c2 m2))
def kL9 : List (Nat × Instr) := [(549, .aload_n 1), (550, .aload_n 0), (551, .iload_n 3), (552, .iconst 1), (553, .iadd), (554, .iaload), (555, .aload_n 0), (556, .iload_n 3), (557, .iconst 2), (558, .iadd), (559, .iaload), (560, .invokevirtual 53), (563, .aload_n 2), (564, .aload_n 0), (565, .iload_n 3), (566, .iconst 1), (567, .iadd), (568, .iaload), (569, .aload_n 0), (570, .iload_n 3), (571, .iconst 2), (572, .iadd), (573, .iaload), (574, .invokevirtual 56), (577, .if_icmp .eq 1613), (580, .iconst 0), (581, .ireturn)]
theorem qL9 : zdc code kL9 = true := by decide +kernel
theorem lL_53 : zLv "UnevenWaxLaw" 53 2 mX10_run := zLv_of 768 110 66 769 770 rfl (by decide +kernel) (by decide +kernel)
theorem lL_56 : zLv "UnevenWaxLaw" 56 2 mX11_run := zLv_of 1574 121 215 1575 1576 rfl (by decide +kernel) (by decide +kernel)
theorem lc_9 {E : LE} {cells slots k : Nat} {h : MH} {S : SS} (F : LF E) (hO : sO S) (hr : zRf h) (hC : sC S h) (hM : sM S h) (hk : 6 * k + 6 ≤ lL E) (hL : lL E ≤ 3072) (hm : cells + 31 ≤ 600000 ∧ slots + 751 ≤ 7302250) (kk : LK E cells slots k) : JL E cells slots 549 (lls k) [] h := by
  obtain ⟨p1, p2⟩ := p_run (S := S) (x := (lX E (6 * k + 1))) (y := (lX E (6 * k + 2))) hO
  refine L_aload_n F (zat qL9 0 (by rfl)) rfl ?_
  refine L_arg F qL9 1 (by rfl) (by rfl) (by rfl) (by rfl) (by rfl) (j := 1) rfl (by omega) hL ?_
  refine L_arg F qL9 6 (by rfl) (by rfl) (by rfl) (by rfl) (by rfl) (j := 2) rfl (by omega) hL ?_
  refine L_callC F (zat qL9 11 (by rfl)) lL_53 rfl rfl (as := [.inl (lX E (6 * k + 1)), .inl (lX E (6 * k + 2))]) ⟨by omega, by omega⟩ hr hC hM p1 (fun h1 r1 o1 c1 m1 => ?_)
  refine L_aload_n F (zat qL9 12 (by rfl)) rfl ?_
  refine L_arg F qL9 13 (by rfl) (by rfl) (by rfl) (by rfl) (by rfl) (j := 1) rfl (by omega) hL ?_
  refine L_arg F qL9 18 (by rfl) (by rfl) (by rfl) (by rfl) (by rfl) (j := 2) rfl (by omega) hL ?_
  refine L_callM F (zat qL9 23 (by rfl)) lL_56 rfl rfl (as := [.inl (lX E (6 * k + 1)), .inl (lX E (6 * k + 2))]) ⟨by omega, by omega⟩ r1 c1 m1 p2 (fun h2 r2 c2 m2 => ?_)
  exact L_same F qL9 24 (by rfl) (by decide) (L_wid (by omega) (by omega) (kk _ h2 r2 o1 c2 m2))
def kL10 : List (Nat × Instr) := [(582, .aload_n 1), (583, .aload_n 0), (584, .iload_n 3), (585, .iconst 1), (586, .iadd), (587, .iaload), (588, .aload_n 0), (589, .iload_n 3), (590, .iconst 2), (591, .iadd), (592, .iaload), (593, .invokevirtual 57), (596, .aload_n 2), (597, .aload_n 0), (598, .iload_n 3), (599, .iconst 1), (600, .iadd), (601, .iaload), (602, .aload_n 0), (603, .iload_n 3), (604, .iconst 2), (605, .iadd), (606, .iaload), (607, .invokevirtual 60), (610, .if_icmp .eq 1580), (613, .iconst 0), (614, .ireturn)]
theorem qL10 : zdc code kL10 = true := by decide +kernel
theorem lL_57 : zLv "UnevenWaxLaw" 57 2 mX10_bell := zLv_of 846 110 84 847 848 rfl (by decide +kernel) (by decide +kernel)
theorem lL_60 : zLv "UnevenWaxLaw" 60 2 mX11_bell := zLv_of 1610 121 224 1611 1612 rfl (by decide +kernel) (by decide +kernel)
theorem lc_10 {E : LE} {cells slots k : Nat} {h : MH} {S : SS} (F : LF E) (hO : sO S) (hr : zRf h) (hC : sC S h) (hM : sM S h) (hk : 6 * k + 6 ≤ lL E) (hL : lL E ≤ 3072) (hm : cells + 31 ≤ 600000 ∧ slots + 751 ≤ 7302250) (kk : LK E cells slots k) : JL E cells slots 582 (lls k) [] h := by
  obtain ⟨p1, p2⟩ := p_bell (S := S) (x := (lX E (6 * k + 1))) (y := (lX E (6 * k + 2))) hO
  refine L_aload_n F (zat qL10 0 (by rfl)) rfl ?_
  refine L_arg F qL10 1 (by rfl) (by rfl) (by rfl) (by rfl) (by rfl) (j := 1) rfl (by omega) hL ?_
  refine L_arg F qL10 6 (by rfl) (by rfl) (by rfl) (by rfl) (by rfl) (j := 2) rfl (by omega) hL ?_
  refine L_callC F (zat qL10 11 (by rfl)) lL_57 rfl rfl (as := [.inl (lX E (6 * k + 1)), .inl (lX E (6 * k + 2))]) ⟨by omega, by omega⟩ hr hC hM p1 (fun h1 r1 o1 c1 m1 => ?_)
  refine L_aload_n F (zat qL10 12 (by rfl)) rfl ?_
  refine L_arg F qL10 13 (by rfl) (by rfl) (by rfl) (by rfl) (by rfl) (j := 1) rfl (by omega) hL ?_
  refine L_arg F qL10 18 (by rfl) (by rfl) (by rfl) (by rfl) (by rfl) (j := 2) rfl (by omega) hL ?_
  refine L_callM F (zat qL10 23 (by rfl)) lL_60 rfl rfl (as := [.inl (lX E (6 * k + 1)), .inl (lX E (6 * k + 2))]) ⟨by omega, by omega⟩ r1 c1 m1 p2 (fun h2 r2 c2 m2 => ?_)
  exact L_same F qL10 24 (by rfl) (by decide) (L_wid (by omega) (by omega) (kk _ h2 r2 o1 c2 m2))
def kL11 : List (Nat × Instr) := [(615, .aload_n 1), (616, .aload_n 0), (617, .iload_n 3), (618, .iconst 1), (619, .iadd), (620, .iaload), (621, .aload_n 0), (622, .iload_n 3), (623, .iconst 2), (624, .iadd), (625, .iaload), (626, .invokevirtual 61), (629, .aload_n 2), (630, .aload_n 0), (631, .iload_n 3), (632, .iconst 1), (633, .iadd), (634, .iaload), (635, .aload_n 0), (636, .iload_n 3), (637, .iconst 2), (638, .iadd), (639, .iaload), (640, .invokevirtual 64), (643, .if_icmp .eq 1547), (646, .iconst 0), (647, .ireturn)]
theorem qL11 : zdc code kL11 = true := by decide +kernel
theorem lL_61 : zLv "UnevenWaxLaw" 61 2 mX10_ends := zLv_of 854 110 86 855 856 rfl (by decide +kernel) (by decide +kernel)
theorem lL_64 : zLv "UnevenWaxLaw" 64 2 mX11_ends := zLv_of 1614 121 225 1615 1616 rfl (by decide +kernel) (by decide +kernel)
theorem lc_11 {E : LE} {cells slots k : Nat} {h : MH} {S : SS} (F : LF E) (hO : sO S) (hr : zRf h) (hC : sC S h) (hM : sM S h) (hk : 6 * k + 6 ≤ lL E) (hL : lL E ≤ 3072) (hm : cells + 31 ≤ 600000 ∧ slots + 751 ≤ 7302250) (kk : LK E cells slots k) : JL E cells slots 615 (lls k) [] h := by
  obtain ⟨p1, p2⟩ := p_ends (S := S) (x := (lX E (6 * k + 1))) (y := (lX E (6 * k + 2))) hO
  refine L_aload_n F (zat qL11 0 (by rfl)) rfl ?_
  refine L_arg F qL11 1 (by rfl) (by rfl) (by rfl) (by rfl) (by rfl) (j := 1) rfl (by omega) hL ?_
  refine L_arg F qL11 6 (by rfl) (by rfl) (by rfl) (by rfl) (by rfl) (j := 2) rfl (by omega) hL ?_
  refine L_callC F (zat qL11 11 (by rfl)) lL_61 rfl rfl (as := [.inl (lX E (6 * k + 1)), .inl (lX E (6 * k + 2))]) ⟨by omega, by omega⟩ hr hC hM p1 (fun h1 r1 o1 c1 m1 => ?_)
  refine L_aload_n F (zat qL11 12 (by rfl)) rfl ?_
  refine L_arg F qL11 13 (by rfl) (by rfl) (by rfl) (by rfl) (by rfl) (j := 1) rfl (by omega) hL ?_
  refine L_arg F qL11 18 (by rfl) (by rfl) (by rfl) (by rfl) (by rfl) (j := 2) rfl (by omega) hL ?_
  refine L_callM F (zat qL11 23 (by rfl)) lL_64 rfl rfl (as := [.inl (lX E (6 * k + 1)), .inl (lX E (6 * k + 2))]) ⟨by omega, by omega⟩ r1 c1 m1 p2 (fun h2 r2 c2 m2 => ?_)
  exact L_same F qL11 24 (by rfl) (by decide) (L_wid (by omega) (by omega) (kk _ h2 r2 o1 c2 m2))
