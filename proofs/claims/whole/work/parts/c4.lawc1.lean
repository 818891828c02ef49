def kL12 : List (Nat × Instr) := [(648, .aload_n 1), (649, .aload_n 0), (650, .iload_n 3), (651, .iconst 1), (652, .iadd), (653, .iaload), (654, .aload_n 0), (655, .iload_n 3), (656, .iconst 2), (657, .iadd), (658, .iaload), (659, .aload_n 0), (660, .iload_n 3), (661, .iconst 3), (662, .iadd), (663, .iaload), (664, .invokevirtual 65), (667, .aload_n 2), (668, .aload_n 0), (669, .iload_n 3), (670, .iconst 1), (671, .iadd), (672, .iaload), (673, .aload_n 0), (674, .iload_n 3), (675, .iconst 2), (676, .iadd), (677, .iaload), (678, .aload_n 0), (679, .iload_n 3), (680, .iconst 3), (681, .iadd), (682, .iaload), (683, .invokevirtual 69), (686, .if_icmp .eq 1504), (689, .iconst 0), (690, .ireturn)]
theorem qL12 : zdc code kL12 = true := by decide +kernel
theorem lL_65 : zLv "UnevenWaxLaw" 65 3 mX10_rest := zLv_of 858 110 87 859 860 rfl (by decide +kernel) (by decide +kernel)
theorem lL_69 : zLv "UnevenWaxLaw" 69 3 mX11_rest := zLv_of 1618 121 226 1619 1620 rfl (by decide +kernel) (by decide +kernel)
theorem lc_12 {E : LE} {cells slots k : Nat} {h : MH} {S : SS} (F : LF E) (hO : sO S) (hr : zRf h) (hC : sC S h) (hM : sM S h) (hk : 6 * k + 6 ≤ lL E) (hL : lL E ≤ 3072) (hm : cells + 31 ≤ 600000 ∧ slots + 751 ≤ 7302250) (kk : LK E cells slots k) : JL E cells slots 648 (lls k) [] h := by
  obtain ⟨p1, p2⟩ := p_rest (S := S) (x := (lX E (6 * k + 1))) (y := (lX E (6 * k + 2))) (t := (lX E (6 * k + 3))) hO
  refine L_aload_n F (zat qL12 0 (by rfl)) rfl ?_
  refine L_arg F qL12 1 (by rfl) (by rfl) (by rfl) (by rfl) (by rfl) (j := 1) rfl (by omega) hL ?_
  refine L_arg F qL12 6 (by rfl) (by rfl) (by rfl) (by rfl) (by rfl) (j := 2) rfl (by omega) hL ?_
  refine L_arg F qL12 11 (by rfl) (by rfl) (by rfl) (by rfl) (by rfl) (j := 3) rfl (by omega) hL ?_
  refine L_callC F (zat qL12 16 (by rfl)) lL_65 rfl rfl (as := [.inl (lX E (6 * k + 1)), .inl (lX E (6 * k + 2)), .inl (lX E (6 * k + 3))]) ⟨by omega, by omega⟩ hr hC hM p1 (fun h1 r1 o1 c1 m1 => ?_)
  refine L_aload_n F (zat qL12 17 (by rfl)) rfl ?_
  refine L_arg F qL12 18 (by rfl) (by rfl) (by rfl) (by rfl) (by rfl) (j := 1) rfl (by omega) hL ?_
  refine L_arg F qL12 23 (by rfl) (by rfl) (by rfl) (by rfl) (by rfl) (j := 2) rfl (by omega) hL ?_
  refine L_arg F qL12 28 (by rfl) (by rfl) (by rfl) (by rfl) (by rfl) (j := 3) rfl (by omega) hL ?_
  refine L_callM F (zat qL12 33 (by rfl)) lL_69 rfl rfl (as := [.inl (lX E (6 * k + 1)), .inl (lX E (6 * k + 2)), .inl (lX E (6 * k + 3))]) ⟨by omega, by omega⟩ r1 c1 m1 p2 (fun h2 r2 c2 m2 => ?_)
  exact L_same F qL12 34 (by rfl) (by decide) (L_wid (by omega) (by omega) (kk _ h2 r2 o1 c2 m2))
def kL13 : List (Nat × Instr) := [(691, .aload_n 1), (692, .aload_n 0), (693, .iload_n 3), (694, .iconst 1), (695, .iadd), (696, .iaload), (697, .aload_n 0), (698, .iload_n 3), (699, .iconst 2), (700, .iadd), (701, .iaload), (702, .aload_n 0), (703, .iload_n 3), (704, .iconst 3), (705, .iadd), (706, .iaload), (707, .invokevirtual 70), (710, .aload_n 2), (711, .aload_n 0), (712, .iload_n 3), (713, .iconst 1), (714, .iadd), (715, .iaload), (716, .aload_n 0), (717, .iload_n 3), (718, .iconst 2), (719, .iadd), (720, .iaload), (721, .aload_n 0), (722, .iload_n 3), (723, .iconst 3), (724, .iadd), (725, .iaload), (726, .invokevirtual 73), (729, .if_icmp .eq 1461), (732, .iconst 0), (733, .ireturn)]
theorem qL13 : zdc code kL13 = true := by decide +kernel
theorem lL_70 : zLv "UnevenWaxLaw" 70 3 mX10_flames := zLv_of 867 110 89 868 869 rfl (by decide +kernel) (by decide +kernel)
theorem lL_73 : zLv "UnevenWaxLaw" 73 3 mX11_flames := zLv_of 1626 121 228 1627 1628 rfl (by decide +kernel) (by decide +kernel)
theorem lc_13 {E : LE} {cells slots k : Nat} {h : MH} {S : SS} (F : LF E) (hO : sO S) (hr : zRf h) (hC : sC S h) (hM : sM S h) (hk : 6 * k + 6 ≤ lL E) (hL : lL E ≤ 3072) (hm : cells + 31 ≤ 600000 ∧ slots + 751 ≤ 7302250) (kk : LK E cells slots k) : JL E cells slots 691 (lls k) [] h := by
  obtain ⟨p1, p2⟩ := p_flames (S := S) (x := (lX E (6 * k + 1))) (y := (lX E (6 * k + 2))) (t := (lX E (6 * k + 3))) hO
  refine L_aload_n F (zat qL13 0 (by rfl)) rfl ?_
  refine L_arg F qL13 1 (by rfl) (by rfl) (by rfl) (by rfl) (by rfl) (j := 1) rfl (by omega) hL ?_
  refine L_arg F qL13 6 (by rfl) (by rfl) (by rfl) (by rfl) (by rfl) (j := 2) rfl (by omega) hL ?_
  refine L_arg F qL13 11 (by rfl) (by rfl) (by rfl) (by rfl) (by rfl) (j := 3) rfl (by omega) hL ?_
  refine L_callC F (zat qL13 16 (by rfl)) lL_70 rfl rfl (as := [.inl (lX E (6 * k + 1)), .inl (lX E (6 * k + 2)), .inl (lX E (6 * k + 3))]) ⟨by omega, by omega⟩ hr hC hM p1 (fun h1 r1 o1 c1 m1 => ?_)
  refine L_aload_n F (zat qL13 17 (by rfl)) rfl ?_
  refine L_arg F qL13 18 (by rfl) (by rfl) (by rfl) (by rfl) (by rfl) (j := 1) rfl (by omega) hL ?_
  refine L_arg F qL13 23 (by rfl) (by rfl) (by rfl) (by rfl) (by rfl) (j := 2) rfl (by omega) hL ?_
  refine L_arg F qL13 28 (by rfl) (by rfl) (by rfl) (by rfl) (by rfl) (j := 3) rfl (by omega) hL ?_
  refine L_callM F (zat qL13 33 (by rfl)) lL_73 rfl rfl (as := [.inl (lX E (6 * k + 1)), .inl (lX E (6 * k + 2)), .inl (lX E (6 * k + 3))]) ⟨by omega, by omega⟩ r1 c1 m1 p2 (fun h2 r2 c2 m2 => ?_)
  exact L_same F qL13 34 (by rfl) (by decide) (L_wid (by omega) (by omega) (kk _ h2 r2 o1 c2 m2))
def kL14 : List (Nat × Instr) := [(734, .aload_n 1), (735, .aload_n 0), (736, .iload_n 3), (737, .iconst 1), (738, .iadd), (739, .iaload), (740, .invokevirtual 74), (743, .aload_n 2), (744, .aload_n 0), (745, .iload_n 3), (746, .iconst 1), (747, .iadd), (748, .iaload), (749, .invokevirtual 77), (752, .if_icmp .eq 1438), (755, .iconst 0), (756, .ireturn)]
theorem qL14 : zdc code kL14 = true := by decide +kernel
theorem lL_74 : zLv "UnevenWaxLaw" 74 1 mX10_idle := zLv_of 871 110 90 872 873 rfl (by decide +kernel) (by decide +kernel)
theorem lL_77 : zLv "UnevenWaxLaw" 77 1 mX11_idle := zLv_of 1630 121 229 1631 1632 rfl (by decide +kernel) (by decide +kernel)
theorem lc_14 {E : LE} {cells slots k : Nat} {h : MH} {S : SS} (F : LF E) (hO : sO S) (hr : zRf h) (hC : sC S h) (hM : sM S h) (hk : 6 * k + 6 ≤ lL E) (hL : lL E ≤ 3072) (hm : cells + 31 ≤ 600000 ∧ slots + 751 ≤ 7302250) (kk : LK E cells slots k) : JL E cells slots 734 (lls k) [] h := by
  obtain ⟨p1, p2⟩ := p_idle (S := S) (x := (lX E (6 * k + 1))) hO
  refine L_aload_n F (zat qL14 0 (by rfl)) rfl ?_
  refine L_arg F qL14 1 (by rfl) (by rfl) (by rfl) (by rfl) (by rfl) (j := 1) rfl (by omega) hL ?_
  refine L_callC F (zat qL14 6 (by rfl)) lL_74 rfl rfl (as := [.inl (lX E (6 * k + 1))]) ⟨by omega, by omega⟩ hr hC hM p1 (fun h1 r1 o1 c1 m1 => ?_)
  refine L_aload_n F (zat qL14 7 (by rfl)) rfl ?_
  refine L_arg F qL14 8 (by rfl) (by rfl) (by rfl) (by rfl) (by rfl) (j := 1) rfl (by omega) hL ?_
  refine L_callM F (zat qL14 13 (by rfl)) lL_77 rfl rfl (as := [.inl (lX E (6 * k + 1))]) ⟨by omega, by omega⟩ r1 c1 m1 p2 (fun h2 r2 c2 m2 => ?_)
  exact L_same F qL14 14 (by rfl) (by decide) (L_wid (by omega) (by omega) (kk _ h2 r2 o1 c2 m2))
def kL15 : List (Nat × Instr) := [(757, .aload_n 1), (758, .aload_n 0), (759, .iload_n 3), (760, .iconst 1), (761, .iadd), (762, .iaload), (763, .aload_n 0), (764, .iload_n 3), (765, .iconst 2), (766, .iadd), (767, .iaload), (768, .invokevirtual 78), (771, .aload_n 2), (772, .aload_n 0), (773, .iload_n 3), (774, .iconst 1), (775, .iadd), (776, .iaload), (777, .aload_n 0), (778, .iload_n 3), (779, .iconst 2), (780, .iadd), (781, .iaload), (782, .invokevirtual 81), (785, .if_icmp .eq 1405), (788, .iconst 0), (789, .ireturn)]
theorem qL15 : zdc code kL15 = true := by decide +kernel
theorem lL_78 : zLv "UnevenWaxLaw" 78 2 mX10_vain := zLv_of 875 110 91 876 877 rfl (by decide +kernel) (by decide +kernel)
theorem lL_81 : zLv "UnevenWaxLaw" 81 2 mX11_vain := zLv_of 1634 121 230 1635 1636 rfl (by decide +kernel) (by decide +kernel)
theorem lc_15 {E : LE} {cells slots k : Nat} {h : MH} {S : SS} (F : LF E) (hO : sO S) (hr : zRf h) (hC : sC S h) (hM : sM S h) (hk : 6 * k + 6 ≤ lL E) (hL : lL E ≤ 3072) (hm : cells + 31 ≤ 600000 ∧ slots + 751 ≤ 7302250) (kk : LK E cells slots k) : JL E cells slots 757 (lls k) [] h := by
  obtain ⟨p1, p2⟩ := p_vain (S := S) (x := (lX E (6 * k + 1))) (y := (lX E (6 * k + 2))) hO
  refine L_aload_n F (zat qL15 0 (by rfl)) rfl ?_
  refine L_arg F qL15 1 (by rfl) (by rfl) (by rfl) (by rfl) (by rfl) (j := 1) rfl (by omega) hL ?_
  refine L_arg F qL15 6 (by rfl) (by rfl) (by rfl) (by rfl) (by rfl) (j := 2) rfl (by omega) hL ?_
  refine L_callC F (zat qL15 11 (by rfl)) lL_78 rfl rfl (as := [.inl (lX E (6 * k + 1)), .inl (lX E (6 * k + 2))]) ⟨by omega, by omega⟩ hr hC hM p1 (fun h1 r1 o1 c1 m1 => ?_)
  refine L_aload_n F (zat qL15 12 (by rfl)) rfl ?_
  refine L_arg F qL15 13 (by rfl) (by rfl) (by rfl) (by rfl) (by rfl) (j := 1) rfl (by omega) hL ?_
  refine L_arg F qL15 18 (by rfl) (by rfl) (by rfl) (by rfl) (by rfl) (j := 2) rfl (by omega) hL ?_
  refine L_callM F (zat qL15 23 (by rfl)) lL_81 rfl rfl (as := [.inl (lX E (6 * k + 1)), .inl (lX E (6 * k + 2))]) ⟨by omega, by omega⟩ r1 c1 m1 p2 (fun h2 r2 c2 m2 => ?_)
  exact L_same F qL15 24 (by rfl) (by decide) (L_wid (by omega) (by omega) (kk _ h2 r2 o1 c2 m2))
def kL16 : List (Nat × Instr) := [(790, .aload_n 1), (791, .aload_n 0), (792, .iload_n 3), (793, .iconst 1), (794, .iadd), (795, .iaload), (796, .aload_n 0), (797, .iload_n 3), (798, .iconst 2), (799, .iadd), (800, .iaload), (801, .invokevirtual 82), (804, .aload_n 2), (805, .aload_n 0), (806, .iload_n 3), (807, .iconst 1), (808, .iadd), (809, .iaload), (810, .aload_n 0), (811, .iload_n 3), (812, .iconst 2), (813, .iadd), (814, .iaload), (815, .invokevirtual 85), (818, .if_icmp .eq 1372), (821, .iconst 0), (822, .ireturn)]
theorem qL16 : zdc code kL16 = true := by decide +kernel
theorem lL_82 : zLv "UnevenWaxLaw" 82 2 mX10_spare := zLv_of 879 110 92 880 881 rfl (by decide +kernel) (by decide +kernel)
theorem lL_85 : zLv "UnevenWaxLaw" 85 2 mX11_spare := zLv_of 1638 121 231 1639 1640 rfl (by decide +kernel) (by decide +kernel)
theorem lc_16 {E : LE} {cells slots k : Nat} {h : MH} {S : SS} (F : LF E) (hO : sO S) (hr : zRf h) (hC : sC S h) (hM : sM S h) (hk : 6 * k + 6 ≤ lL E) (hL : lL E ≤ 3072) (hm : cells + 31 ≤ 600000 ∧ slots + 751 ≤ 7302250) (kk : LK E cells slots k) : JL E cells slots 790 (lls k) [] h := by
  obtain ⟨p1, p2⟩ := p_spare (S := S) (x := (lX E (6 * k + 1))) (y := (lX E (6 * k + 2))) hO
  refine L_aload_n F (zat qL16 0 (by rfl)) rfl ?_
  refine L_arg F qL16 1 (by rfl) (by rfl) (by rfl) (by rfl) (by rfl) (j := 1) rfl (by omega) hL ?_
  refine L_arg F qL16 6 (by rfl) (by rfl) (by rfl) (by rfl) (by rfl) (j := 2) rfl (by omega) hL ?_
  refine L_callC F (zat qL16 11 (by rfl)) lL_82 rfl rfl (as := [.inl (lX E (6 * k + 1)), .inl (lX E (6 * k + 2))]) ⟨by omega, by omega⟩ hr hC hM p1 (fun h1 r1 o1 c1 m1 => ?_)
  refine L_aload_n F (zat qL16 12 (by rfl)) rfl ?_
  refine L_arg F qL16 13 (by rfl) (by rfl) (by rfl) (by rfl) (by rfl) (j := 1) rfl (by omega) hL ?_
  refine L_arg F qL16 18 (by rfl) (by rfl) (by rfl) (by rfl) (by rfl) (j := 2) rfl (by omega) hL ?_
  refine L_callM F (zat qL16 23 (by rfl)) lL_85 rfl rfl (as := [.inl (lX E (6 * k + 1)), .inl (lX E (6 * k + 2))]) ⟨by omega, by omega⟩ r1 c1 m1 p2 (fun h2 r2 c2 m2 => ?_)
  exact L_same F qL16 24 (by rfl) (by decide) (L_wid (by omega) (by omega) (kk _ h2 r2 o1 c2 m2))
def kL17 : List (Nat × Instr) := [(823, .aload_n 1), (824, .aload_n 0), (825, .iload_n 3), (826, .iconst 1), (827, .iadd), (828, .iaload), (829, .aload_n 0), (830, .iload_n 3), (831, .iconst 2), (832, .iadd), (833, .iaload), (834, .aload_n 0), (835, .iload_n 3), (836, .iconst 3), (837, .iadd), (838, .iaload), (839, .aload_n 0), (840, .iload_n 3), (841, .iconst 4), (842, .iadd), (843, .iaload), (844, .invokevirtual 86), (847, .aload_n 2), (848, .aload_n 0), (849, .iload_n 3), (850, .iconst 1), (851, .iadd), (852, .iaload), (853, .aload_n 0), (854, .iload_n 3), (855, .iconst 2), (856, .iadd), (857, .iaload), (858, .aload_n 0), (859, .iload_n 3), (860, .iconst 3), (861, .iadd), (862, .iaload), (863, .aload_n 0), (864, .iload_n 3), (865, .iconst 4), (866, .iadd), (867, .iaload), (868, .invokevirtual 90), (871, .if_icmp .eq 1319), (874, .iconst 0), (875, .ireturn)]
theorem qL17 : zdc code kL17 = true := by decide +kernel
theorem lL_86 : zLv "UnevenWaxLaw" 86 4 mX10_would := zLv_of 892 110 95 893 894 rfl (by decide +kernel) (by decide +kernel)
theorem lL_90 : zLv "UnevenWaxLaw" 90 4 mX11_would := zLv_of 1650 121 234 1651 1652 rfl (by decide +kernel) (by decide +kernel)
theorem lc_17 {E : LE} {cells slots k : Nat} {h : MH} {S : SS} (F : LF E) (hO : sO S) (hr : zRf h) (hC : sC S h) (hM : sM S h) (hk : 6 * k + 6 ≤ lL E) (hL : lL E ≤ 3072) (hm : cells + 31 ≤ 600000 ∧ slots + 751 ≤ 7302250) (kk : LK E cells slots k) : JL E cells slots 823 (lls k) [] h := by
  obtain ⟨p1, p2⟩ := p_would (S := S) (x := (lX E (6 * k + 1))) (k := (lX E (6 * k + 2))) (y := (lX E (6 * k + 3))) (m := (lX E (6 * k + 4))) hO
  refine L_aload_n F (zat qL17 0 (by rfl)) rfl ?_
  refine L_arg F qL17 1 (by rfl) (by rfl) (by rfl) (by rfl) (by rfl) (j := 1) rfl (by omega) hL ?_
  refine L_arg F qL17 6 (by rfl) (by rfl) (by rfl) (by rfl) (by rfl) (j := 2) rfl (by omega) hL ?_
  refine L_arg F qL17 11 (by rfl) (by rfl) (by rfl) (by rfl) (by rfl) (j := 3) rfl (by omega) hL ?_
  refine L_arg F qL17 16 (by rfl) (by rfl) (by rfl) (by rfl) (by rfl) (j := 4) rfl (by omega) hL ?_
  refine L_callC F (zat qL17 21 (by rfl)) lL_86 rfl rfl (as := [.inl (lX E (6 * k + 1)), .inl (lX E (6 * k + 2)), .inl (lX E (6 * k + 3)), .inl (lX E (6 * k + 4))]) ⟨by omega, by omega⟩ hr hC hM p1 (fun h1 r1 o1 c1 m1 => ?_)
  refine L_aload_n F (zat qL17 22 (by rfl)) rfl ?_
  refine L_arg F qL17 23 (by rfl) (by rfl) (by rfl) (by rfl) (by rfl) (j := 1) rfl (by omega) hL ?_
  refine L_arg F qL17 28 (by rfl) (by rfl) (by rfl) (by rfl) (by rfl) (j := 2) rfl (by omega) hL ?_
  refine L_arg F qL17 33 (by rfl) (by rfl) (by rfl) (by rfl) (by rfl) (j := 3) rfl (by omega) hL ?_
  refine L_arg F qL17 38 (by rfl) (by rfl) (by rfl) (by rfl) (by rfl) (j := 4) rfl (by omega) hL ?_
  refine L_callM F (zat qL17 43 (by rfl)) lL_90 rfl rfl (as := [.inl (lX E (6 * k + 1)), .inl (lX E (6 * k + 2)), .inl (lX E (6 * k + 3)), .inl (lX E (6 * k + 4))]) ⟨by omega, by omega⟩ r1 c1 m1 p2 (fun h2 r2 c2 m2 => ?_)
  exact L_same F qL17 44 (by rfl) (by decide) (L_wid (by omega) (by omega) (kk _ h2 r2 o1 c2 m2))
def kL18 : List (Nat × Instr) := [(876, .aload_n 1), (877, .aload_n 0), (878, .iload_n 3), (879, .iconst 1), (880, .iadd), (881, .iaload), (882, .aload_n 0), (883, .iload_n 3), (884, .iconst 2), (885, .iadd), (886, .iaload), (887, .aload_n 0), (888, .iload_n 3), (889, .iconst 3), (890, .iadd), (891, .iaload), (892, .invokevirtual 91), (895, .aload_n 2), (896, .aload_n 0), (897, .iload_n 3), (898, .iconst 1), (899, .iadd), (900, .iaload), (901, .aload_n 0), (902, .iload_n 3), (903, .iconst 2), (904, .iadd), (905, .iaload), (906, .aload_n 0), (907, .iload_n 3), (908, .iconst 3), (909, .iadd), (910, .iaload), (911, .invokevirtual 94), (914, .if_icmp .eq 1276), (917, .iconst 0), (918, .ireturn)]
theorem qL18 : zdc code kL18 = true := by decide +kernel
theorem lL_91 : zLv "UnevenWaxLaw" 91 3 mX10_off := zLv_of 897 110 96 898 899 rfl (by decide +kernel) (by decide +kernel)
theorem lL_94 : zLv "UnevenWaxLaw" 94 3 mX11_off := zLv_of 1655 121 235 1656 1657 rfl (by decide +kernel) (by decide +kernel)
theorem lc_18 {E : LE} {cells slots k : Nat} {h : MH} {S : SS} (F : LF E) (hO : sO S) (hr : zRf h) (hC : sC S h) (hM : sM S h) (hk : 6 * k + 6 ≤ lL E) (hL : lL E ≤ 3072) (hm : cells + 31 ≤ 600000 ∧ slots + 751 ≤ 7302250) (kk : LK E cells slots k) : JL E cells slots 876 (lls k) [] h := by
  obtain ⟨p1, p2⟩ := p_off (S := S) (x := (lX E (6 * k + 1))) (k := (lX E (6 * k + 2))) (w := (lX E (6 * k + 3))) hO
  refine L_aload_n F (zat qL18 0 (by rfl)) rfl ?_
  refine L_arg F qL18 1 (by rfl) (by rfl) (by rfl) (by rfl) (by rfl) (j := 1) rfl (by omega) hL ?_
  refine L_arg F qL18 6 (by rfl) (by rfl) (by rfl) (by rfl) (by rfl) (j := 2) rfl (by omega) hL ?_
  refine L_arg F qL18 11 (by rfl) (by rfl) (by rfl) (by rfl) (by rfl) (j := 3) rfl (by omega) hL ?_
  refine L_callC F (zat qL18 16 (by rfl)) lL_91 rfl rfl (as := [.inl (lX E (6 * k + 1)), .inl (lX E (6 * k + 2)), .inl (lX E (6 * k + 3))]) ⟨by omega, by omega⟩ hr hC hM p1 (fun h1 r1 o1 c1 m1 => ?_)
  refine L_aload_n F (zat qL18 17 (by rfl)) rfl ?_
  refine L_arg F qL18 18 (by rfl) (by rfl) (by rfl) (by rfl) (by rfl) (j := 1) rfl (by omega) hL ?_
  refine L_arg F qL18 23 (by rfl) (by rfl) (by rfl) (by rfl) (by rfl) (j := 2) rfl (by omega) hL ?_
  refine L_arg F qL18 28 (by rfl) (by rfl) (by rfl) (by rfl) (by rfl) (j := 3) rfl (by omega) hL ?_
  refine L_callM F (zat qL18 33 (by rfl)) lL_94 rfl rfl (as := [.inl (lX E (6 * k + 1)), .inl (lX E (6 * k + 2)), .inl (lX E (6 * k + 3))]) ⟨by omega, by omega⟩ r1 c1 m1 p2 (fun h2 r2 c2 m2 => ?_)
  exact L_same F qL18 34 (by rfl) (by decide) (L_wid (by omega) (by omega) (kk _ h2 r2 o1 c2 m2))
def kL19 : List (Nat × Instr) := [(919, .aload_n 1), (920, .aload_n 0), (921, .iload_n 3), (922, .iconst 1), (923, .iadd), (924, .iaload), (925, .aload_n 0), (926, .iload_n 3), (927, .iconst 2), (928, .iadd), (929, .iaload), (930, .aload_n 0), (931, .iload_n 3), (932, .iconst 3), (933, .iadd), (934, .iaload), (935, .invokevirtual 95), (938, .aload_n 2), (939, .aload_n 0), (940, .iload_n 3), (941, .iconst 1), (942, .iadd), (943, .iaload), (944, .aload_n 0), (945, .iload_n 3), (946, .iconst 2), (947, .iadd), (948, .iaload), (949, .aload_n 0), (950, .iload_n 3), (951, .iconst 3), (952, .iadd), (953, .iaload), (954, .invokevirtual 98), (957, .if_icmp .eq 1233), (960, .iconst 0), (961, .ireturn)]
theorem qL19 : zdc code kL19 = true := by decide +kernel
theorem lL_95 : zLv "UnevenWaxLaw" 95 3 mX10_night := zLv_of 923 110 101 924 925 rfl (by decide +kernel) (by decide +kernel)
theorem lL_98 : zLv "UnevenWaxLaw" 98 3 mX11_night := zLv_of 1659 121 236 1660 1661 rfl (by decide +kernel) (by decide +kernel)
theorem lc_19 {E : LE} {cells slots k : Nat} {h : MH} {S : SS} (F : LF E) (hO : sO S) (hr : zRf h) (hC : sC S h) (hM : sM S h) (hk : 6 * k + 6 ≤ lL E) (hL : lL E ≤ 3072) (hm : cells + 31 ≤ 600000 ∧ slots + 751 ≤ 7302250) (kk : LK E cells slots k) : JL E cells slots 919 (lls k) [] h := by
  obtain ⟨p1, p2⟩ := p_night (S := S) (x := (lX E (6 * k + 1))) (s := (lX E (6 * k + 2))) (k := (lX E (6 * k + 3))) hO
  refine L_aload_n F (zat qL19 0 (by rfl)) rfl ?_
  refine L_arg F qL19 1 (by rfl) (by rfl) (by rfl) (by rfl) (by rfl) (j := 1) rfl (by omega) hL ?_
  refine L_arg F qL19 6 (by rfl) (by rfl) (by rfl) (by rfl) (by rfl) (j := 2) rfl (by omega) hL ?_
  refine L_arg F qL19 11 (by rfl) (by rfl) (by rfl) (by rfl) (by rfl) (j := 3) rfl (by omega) hL ?_
  refine L_callC F (zat qL19 16 (by rfl)) lL_95 rfl rfl (as := [.inl (lX E (6 * k + 1)), .inl (lX E (6 * k + 2)), .inl (lX E (6 * k + 3))]) ⟨by omega, by omega⟩ hr hC hM p1 (fun h1 r1 o1 c1 m1 => ?_)
  refine L_aload_n F (zat qL19 17 (by rfl)) rfl ?_
  refine L_arg F qL19 18 (by rfl) (by rfl) (by rfl) (by rfl) (by rfl) (j := 1) rfl (by omega) hL ?_
  refine L_arg F qL19 23 (by rfl) (by rfl) (by rfl) (by rfl) (by rfl) (j := 2) rfl (by omega) hL ?_
  refine L_arg F qL19 28 (by rfl) (by rfl) (by rfl) (by rfl) (by rfl) (j := 3) rfl (by omega) hL ?_
  refine L_callM F (zat qL19 33 (by rfl)) lL_98 rfl rfl (as := [.inl (lX E (6 * k + 1)), .inl (lX E (6 * k + 2)), .inl (lX E (6 * k + 3))]) ⟨by omega, by omega⟩ r1 c1 m1 p2 (fun h2 r2 c2 m2 => ?_)
  exact L_same F qL19 34 (by rfl) (by decide) (L_wid (by omega) (by omega) (kk _ h2 r2 o1 c2 m2))
def kL20 : List (Nat × Instr) := [(962, .aload_n 1), (963, .aload_n 0), (964, .iload_n 3), (965, .iconst 1), (966, .iadd), (967, .iaload), (968, .aload_n 0), (969, .iload_n 3), (970, .iconst 2), (971, .iadd), (972, .iaload), (973, .invokevirtual 99), (976, .aload_n 2), (977, .aload_n 0), (978, .iload_n 3), (979, .iconst 1), (980, .iadd), (981, .iaload), (982, .aload_n 0), (983, .iload_n 3), (984, .iconst 2), (985, .iadd), (986, .iaload), (987, .invokevirtual 102), (990, .if_icmp .eq 1200), (993, .iconst 0), (994, .ireturn)]
theorem qL20 : zdc code kL20 = true := by decide +kernel
theorem lL_99 : zLv "UnevenWaxLaw" 99 2 mX10_chime := zLv_of 928 110 102 929 930 rfl (by decide +kernel) (by decide +kernel)
theorem lL_102 : zLv "UnevenWaxLaw" 102 2 mX11_chime := zLv_of 1664 121 237 1665 1666 rfl (by decide +kernel) (by decide +kernel)
theorem lc_20 {E : LE} {cells slots k : Nat} {h : MH} {S : SS} (F : LF E) (hO : sO S) (hr : zRf h) (hC : sC S h) (hM : sM S h) (hk : 6 * k + 6 ≤ lL E) (hL : lL E ≤ 3072) (hm : cells + 31 ≤ 600000 ∧ slots + 751 ≤ 7302250) (kk : LK E cells slots k) : JL E cells slots 962 (lls k) [] h := by
  obtain ⟨p1, p2⟩ := p_chime (S := S) (x := (lX E (6 * k + 1))) (y := (lX E (6 * k + 2))) hO
  refine L_aload_n F (zat qL20 0 (by rfl)) rfl ?_
  refine L_arg F qL20 1 (by rfl) (by rfl) (by rfl) (by rfl) (by rfl) (j := 1) rfl (by omega) hL ?_
  refine L_arg F qL20 6 (by rfl) (by rfl) (by rfl) (by rfl) (by rfl) (j := 2) rfl (by omega) hL ?_
  refine L_callC F (zat qL20 11 (by rfl)) lL_99 rfl rfl (as := [.inl (lX E (6 * k + 1)), .inl (lX E (6 * k + 2))]) ⟨by omega, by omega⟩ hr hC hM p1 (fun h1 r1 o1 c1 m1 => ?_)
  refine L_aload_n F (zat qL20 12 (by rfl)) rfl ?_
  refine L_arg F qL20 13 (by rfl) (by rfl) (by rfl) (by rfl) (by rfl) (j := 1) rfl (by omega) hL ?_
  refine L_arg F qL20 18 (by rfl) (by rfl) (by rfl) (by rfl) (by rfl) (j := 2) rfl (by omega) hL ?_
  refine L_callM F (zat qL20 23 (by rfl)) lL_102 rfl rfl (as := [.inl (lX E (6 * k + 1)), .inl (lX E (6 * k + 2))]) ⟨by omega, by omega⟩ r1 c1 m1 p2 (fun h2 r2 c2 m2 => ?_)
  exact L_same F qL20 24 (by rfl) (by decide) (L_wid (by omega) (by omega) (kk _ h2 r2 o1 c2 m2))
def kL21 : List (Nat × Instr) := [(995, .aload_n 1), (996, .aload_n 0), (997, .iload_n 3), (998, .iconst 1), (999, .iadd), (1000, .iaload), (1001, .aload_n 0), (1002, .iload_n 3), (1003, .iconst 2), (1004, .iadd), (1005, .iaload), (1006, .aload_n 0), (1007, .iload_n 3), (1008, .iconst 3), (1009, .iadd), (1010, .iaload), (1011, .invokevirtual 103), (1014, .aload_n 2), (1015, .aload_n 0), (1016, .iload_n 3), (1017, .iconst 1), (1018, .iadd), (1019, .iaload), (1020, .aload_n 0), (1021, .iload_n 3), (1022, .iconst 2), (1023, .iadd), (1024, .iaload), (1025, .aload_n 0), (1026, .iload_n 3), (1027, .iconst 3), (1028, .iadd), (1029, .iaload), (1030, .invokevirtual 106), (1033, .if_icmp .eq 1157), (1036, .iconst 0), (1037, .ireturn)]
theorem qL21 : zdc code kL21 = true := by decide +kernel
theorem lL_103 : zLv "UnevenWaxLaw" 103 3 mX10_days := zLv_of 932 110 103 933 934 rfl (by decide +kernel) (by decide +kernel)
theorem lL_106 : zLv "UnevenWaxLaw" 106 3 mX11_days := zLv_of 1668 121 238 1669 1670 rfl (by decide +kernel) (by decide +kernel)
theorem lc_21 {E : LE} {cells slots k : Nat} {h : MH} {S : SS} (F : LF E) (hO : sO S) (hr : zRf h) (hC : sC S h) (hM : sM S h) (hk : 6 * k + 6 ≤ lL E) (hL : lL E ≤ 3072) (hm : cells + 31 ≤ 600000 ∧ slots + 751 ≤ 7302250) (kk : LK E cells slots k) : JL E cells slots 995 (lls k) [] h := by
  obtain ⟨p1, p2⟩ := p_days (S := S) (x := (lX E (6 * k + 1))) (y := (lX E (6 * k + 2))) (w := (lX E (6 * k + 3))) hO
  refine L_aload_n F (zat qL21 0 (by rfl)) rfl ?_
  refine L_arg F qL21 1 (by rfl) (by rfl) (by rfl) (by rfl) (by rfl) (j := 1) rfl (by omega) hL ?_
  refine L_arg F qL21 6 (by rfl) (by rfl) (by rfl) (by rfl) (by rfl) (j := 2) rfl (by omega) hL ?_
  refine L_arg F qL21 11 (by rfl) (by rfl) (by rfl) (by rfl) (by rfl) (j := 3) rfl (by omega) hL ?_
  refine L_callC F (zat qL21 16 (by rfl)) lL_103 rfl rfl (as := [.inl (lX E (6 * k + 1)), .inl (lX E (6 * k + 2)), .inl (lX E (6 * k + 3))]) ⟨by omega, by omega⟩ hr hC hM p1 (fun h1 r1 o1 c1 m1 => ?_)
  refine L_aload_n F (zat qL21 17 (by rfl)) rfl ?_
  refine L_arg F qL21 18 (by rfl) (by rfl) (by rfl) (by rfl) (by rfl) (j := 1) rfl (by omega) hL ?_
  refine L_arg F qL21 23 (by rfl) (by rfl) (by rfl) (by rfl) (by rfl) (j := 2) rfl (by omega) hL ?_
  refine L_arg F qL21 28 (by rfl) (by rfl) (by rfl) (by rfl) (by rfl) (j := 3) rfl (by omega) hL ?_
  refine L_callM F (zat qL21 33 (by rfl)) lL_106 rfl rfl (as := [.inl (lX E (6 * k + 1)), .inl (lX E (6 * k + 2)), .inl (lX E (6 * k + 3))]) ⟨by omega, by omega⟩ r1 c1 m1 p2 (fun h2 r2 c2 m2 => ?_)
  exact L_same F qL21 34 (by rfl) (by decide) (L_wid (by omega) (by omega) (kk _ h2 r2 o1 c2 m2))
def kL22 : List (Nat × Instr) := [(1038, .aload_n 1), (1039, .aload_n 0), (1040, .iload_n 3), (1041, .iconst 1), (1042, .iadd), (1043, .iaload), (1044, .aload_n 0), (1045, .iload_n 3), (1046, .iconst 2), (1047, .iadd), (1048, .iaload), (1049, .ifCond .eq 7), (1052, .iconst 1), (1053, .goto 4), (1056, .iconst 0), (1057, .aload_n 0), (1058, .iload_n 3), (1059, .iconst 3), (1060, .iadd), (1061, .iaload), (1062, .invokevirtual 107), (1065, .aload_n 2), (1066, .aload_n 0), (1067, .iload_n 3), (1068, .iconst 1), (1069, .iadd), (1070, .iaload), (1071, .aload_n 0), (1072, .iload_n 3), (1073, .iconst 2), (1074, .iadd), (1075, .iaload), (1076, .ifCond .eq 7), (1079, .iconst 1), (1080, .goto 4), (1083, .iconst 0), (1084, .aload_n 0), (1085, .iload_n 3), (1086, .iconst 3), (1087, .iadd), (1088, .iaload), (1089, .invokevirtual 111), (1092, .if_icmp .eq 1098), (1095, .iconst 0), (1096, .ireturn)]
theorem qL22 : zdc code kL22 = true := by decide +kernel
theorem lL_107 : zLv "UnevenWaxLaw" 107 3 mX10_can := zLv_of 936 110 104 937 938 rfl (by decide +kernel) (by decide +kernel)
theorem lL_111 : zLv "UnevenWaxLaw" 111 3 mX11_can := zLv_of 1673 121 239 1674 1675 rfl (by decide +kernel) (by decide +kernel)
theorem lc_22 {E : LE} {cells slots k : Nat} {h : MH} {S : SS} (F : LF E) (hO : sO S) (hr : zRf h) (hC : sC S h) (hM : sM S h) (hk : 6 * k + 6 ≤ lL E) (hL : lL E ≤ 3072) (hm : cells + 31 ≤ 600000 ∧ slots + 751 ≤ 7302250) (kk : LK E cells slots k) : JL E cells slots 1038 (lls k) [] h := by
  obtain ⟨p1, p2⟩ := p_can (S := S) (x := (lX E (6 * k + 1))) (out := !((lX E (6 * k + 2)) == 0)) (t := (lX E (6 * k + 3))) hO
  refine L_aload_n F (zat qL22 0 (by rfl)) rfl ?_
  refine L_arg F qL22 1 (by rfl) (by rfl) (by rfl) (by rfl) (by rfl) (j := 1) rfl (by omega) hL ?_
  refine L_arg F qL22 6 (by rfl) (by rfl) (by rfl) (by rfl) (by rfl) (j := 2) rfl (by omega) hL ?_
  refine L_bool F qL22 11 (by rfl) (by rfl) (by rfl) (by rfl) ?_
  refine L_arg F qL22 15 (by rfl) (by rfl) (by rfl) (by rfl) (by rfl) (j := 3) rfl (by omega) hL ?_
  refine L_callC F (zat qL22 20 (by rfl)) lL_107 rfl rfl (as := [.inl (lX E (6 * k + 1)), .inl (bI (!((lX E (6 * k + 2)) == 0))), .inl (lX E (6 * k + 3))]) ⟨by omega, by omega⟩ hr hC hM p1 (fun h1 r1 o1 c1 m1 => ?_)
  refine L_aload_n F (zat qL22 21 (by rfl)) rfl ?_
  refine L_arg F qL22 22 (by rfl) (by rfl) (by rfl) (by rfl) (by rfl) (j := 1) rfl (by omega) hL ?_
  refine L_arg F qL22 27 (by rfl) (by rfl) (by rfl) (by rfl) (by rfl) (j := 2) rfl (by omega) hL ?_
  refine L_bool F qL22 32 (by rfl) (by rfl) (by rfl) (by rfl) ?_
  refine L_arg F qL22 36 (by rfl) (by rfl) (by rfl) (by rfl) (by rfl) (j := 3) rfl (by omega) hL ?_
  refine L_callM F (zat qL22 41 (by rfl)) lL_111 rfl rfl (as := [.inl (lX E (6 * k + 1)), .inl (bI (!((lX E (6 * k + 2)) == 0))), .inl (lX E (6 * k + 3))]) ⟨by omega, by omega⟩ r1 c1 m1 p2 (fun h2 r2 c2 m2 => ?_)
  exact L_same F qL22 42 (by rfl) (by decide) (L_wid (by omega) (by omega) (kk _ h2 r2 o1 c2 m2))
def kL23 : List (Nat × Instr) := [(1097, .aload_n 1), (1098, .aload_n 0), (1099, .iload_n 3), (1100, .iconst 1), (1101, .iadd), (1102, .iaload), (1103, .aload_n 0), (1104, .iload_n 3), (1105, .iconst 2), (1106, .iadd), (1107, .iaload), (1108, .ifCond .eq 7), (1111, .iconst 1), (1112, .goto 4), (1115, .iconst 0), (1116, .aload_n 0), (1117, .iload_n 3), (1118, .iconst 3), (1119, .iadd), (1120, .iaload), (1121, .invokevirtual 112), (1124, .aload_n 2), (1125, .aload_n 0), (1126, .iload_n 3), (1127, .iconst 1), (1128, .iadd), (1129, .iaload), (1130, .aload_n 0), (1131, .iload_n 3), (1132, .iconst 2), (1133, .iadd), (1134, .iaload), (1135, .ifCond .eq 7), (1138, .iconst 1), (1139, .goto 4), (1142, .iconst 0), (1143, .aload_n 0), (1144, .iload_n 3), (1145, .iconst 3), (1146, .iadd), (1147, .iaload), (1148, .invokevirtual 115), (1151, .if_icmp .eq 1039), (1154, .iconst 0), (1155, .ireturn)]
theorem qL23 : zdc code kL23 = true := by decide +kernel
theorem lL_112 : zLv "UnevenWaxLaw" 112 3 mX10_time := zLv_of 1028 110 126 1029 1030 rfl (by decide +kernel) (by decide +kernel)
theorem lL_115 : zLv "UnevenWaxLaw" 115 3 mX11_time := zLv_of 1705 121 247 1706 1707 rfl (by decide +kernel) (by decide +kernel)
theorem lc_23 {E : LE} {cells slots k : Nat} {h : MH} {S : SS} (F : LF E) (hO : sO S) (hr : zRf h) (hC : sC S h) (hM : sM S h) (hk : 6 * k + 6 ≤ lL E) (hL : lL E ≤ 3072) (hm : cells + 31 ≤ 600000 ∧ slots + 751 ≤ 7302250) (kk : LK E cells slots k) : JL E cells slots 1097 (lls k) [] h := by
  obtain ⟨p1, p2⟩ := p_time (S := S) (x := (lX E (6 * k + 1))) (out := !((lX E (6 * k + 2)) == 0)) (k := (lX E (6 * k + 3))) hO
  refine L_aload_n F (zat qL23 0 (by rfl)) rfl ?_
  refine L_arg F qL23 1 (by rfl) (by rfl) (by rfl) (by rfl) (by rfl) (j := 1) rfl (by omega) hL ?_
  refine L_arg F qL23 6 (by rfl) (by rfl) (by rfl) (by rfl) (by rfl) (j := 2) rfl (by omega) hL ?_
  refine L_bool F qL23 11 (by rfl) (by rfl) (by rfl) (by rfl) ?_
  refine L_arg F qL23 15 (by rfl) (by rfl) (by rfl) (by rfl) (by rfl) (j := 3) rfl (by omega) hL ?_
  refine L_callC F (zat qL23 20 (by rfl)) lL_112 rfl rfl (as := [.inl (lX E (6 * k + 1)), .inl (bI (!((lX E (6 * k + 2)) == 0))), .inl (lX E (6 * k + 3))]) ⟨by omega, by omega⟩ hr hC hM p1 (fun h1 r1 o1 c1 m1 => ?_)
  refine L_aload_n F (zat qL23 21 (by rfl)) rfl ?_
  refine L_arg F qL23 22 (by rfl) (by rfl) (by rfl) (by rfl) (by rfl) (j := 1) rfl (by omega) hL ?_
  refine L_arg F qL23 27 (by rfl) (by rfl) (by rfl) (by rfl) (by rfl) (j := 2) rfl (by omega) hL ?_
  refine L_bool F qL23 32 (by rfl) (by rfl) (by rfl) (by rfl) ?_
  refine L_arg F qL23 36 (by rfl) (by rfl) (by rfl) (by rfl) (by rfl) (j := 3) rfl (by omega) hL ?_
  refine L_callM F (zat qL23 41 (by rfl)) lL_115 rfl rfl (as := [.inl (lX E (6 * k + 1)), .inl (bI (!((lX E (6 * k + 2)) == 0))), .inl (lX E (6 * k + 3))]) ⟨by omega, by omega⟩ r1 c1 m1 p2 (fun h2 r2 c2 m2 => ?_)
  exact L_same F qL23 42 (by rfl) (by decide) (L_wid (by omega) (by omega) (kk _ h2 r2 o1 c2 m2))
