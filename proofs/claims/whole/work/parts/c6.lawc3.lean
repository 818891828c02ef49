def kL36 : List (Nat × Instr) := [(1806, .aload_n 1), (1807, .aload_n 0), (1808, .iload_n 3), (1809, .iconst 1), (1810, .iadd), (1811, .iaload), (1812, .aload_n 0), (1813, .iload_n 3), (1814, .iconst 2), (1815, .iadd), (1816, .iaload), (1817, .invokevirtual 166), (1820, .aload_n 2), (1821, .aload_n 0), (1822, .iload_n 3), (1823, .iconst 1), (1824, .iadd), (1825, .iaload), (1826, .aload_n 0), (1827, .iload_n 3), (1828, .iconst 2), (1829, .iadd), (1830, .iaload), (1831, .invokevirtual 169), (1834, .if_icmp .eq 356), (1837, .iconst 0), (1838, .ireturn)]
theorem qL36 : zdc code kL36 = true := by decide +kernel
theorem lL_166 : zLv "UnevenWaxLaw" 166 2 mX10_fittest := zLv_of 1196 110 166 1197 1198 rfl (by decide +kernel) (by decide +kernel)
theorem lL_169 : zLv "UnevenWaxLaw" 169 2 mX11_fittest := zLv_of 1808 121 273 1809 1810 rfl (by decide +kernel) (by decide +kernel)
theorem lc_36 {E : LE} {cells slots k : Nat} {h : MH} {S : SS} (F : LF E) (hO : sO S) (hr : zRf h) (hC : sC S h) (hM : sM S h) (hk : 6 * k + 6 ≤ lL E) (hL : lL E ≤ 3072) (hm : cells + 31 ≤ 600000 ∧ slots + 751 ≤ 7302250) (kk : LK E cells slots k) : JL E cells slots 1806 (lls k) [] h := by
  obtain ⟨p1, p2⟩ := p_fittest (S := S) (x := (lX E (6 * k + 1))) (t := (lX E (6 * k + 2))) hO
  refine L_aload_n F (zat qL36 0 (by rfl)) rfl ?_
  refine L_arg F qL36 1 (by rfl) (by rfl) (by rfl) (by rfl) (by rfl) (j := 1) rfl (by omega) hL ?_
  refine L_arg F qL36 6 (by rfl) (by rfl) (by rfl) (by rfl) (by rfl) (j := 2) rfl (by omega) hL ?_
  refine L_callC F (zat qL36 11 (by rfl)) lL_166 rfl rfl (as := [.inl (lX E (6 * k + 1)), .inl (lX E (6 * k + 2))]) ⟨by omega, by omega⟩ hr hC hM p1 (fun h1 r1 o1 c1 m1 => ?_)
  refine L_aload_n F (zat qL36 12 (by rfl)) rfl ?_
  refine L_arg F qL36 13 (by rfl) (by rfl) (by rfl) (by rfl) (by rfl) (j := 1) rfl (by omega) hL ?_
  refine L_arg F qL36 18 (by rfl) (by rfl) (by rfl) (by rfl) (by rfl) (j := 2) rfl (by omega) hL ?_
  refine L_callM F (zat qL36 23 (by rfl)) lL_169 rfl rfl (as := [.inl (lX E (6 * k + 1)), .inl (lX E (6 * k + 2))]) ⟨by omega, by omega⟩ r1 c1 m1 p2 (fun h2 r2 c2 m2 => ?_)
  exact L_same F qL36 24 (by rfl) (by decide) (L_wid (by omega) (by omega) (kk _ h2 r2 o1 c2 m2))
def kL37 : List (Nat × Instr) := [(1839, .aload_n 1), (1840, .aload_n 0), (1841, .iload_n 3), (1842, .iconst 1), (1843, .iadd), (1844, .iaload), (1845, .invokevirtual 170), (1848, .aload_n 2), (1849, .aload_n 0), (1850, .iload_n 3), (1851, .iconst 1), (1852, .iadd), (1853, .iaload), (1854, .invokevirtual 173), (1857, .if_icmp .eq 333), (1860, .iconst 0), (1861, .ireturn)]
theorem qL37 : zdc code kL37 = true := by decide +kernel
theorem lL_170 : zLv "UnevenWaxLaw" 170 1 mX10_log := zLv_of 1200 110 167 1201 1202 rfl (by decide +kernel) (by decide +kernel)
theorem lL_173 : zLv "UnevenWaxLaw" 173 1 mX11_log := zLv_of 1812 121 274 1813 1814 rfl (by decide +kernel) (by decide +kernel)
theorem lc_37 {E : LE} {cells slots k : Nat} {h : MH} {S : SS} (F : LF E) (hO : sO S) (hr : zRf h) (hC : sC S h) (hM : sM S h) (hk : 6 * k + 6 ≤ lL E) (hL : lL E ≤ 3072) (hm : cells + 31 ≤ 600000 ∧ slots + 751 ≤ 7302250) (kk : LK E cells slots k) : JL E cells slots 1839 (lls k) [] h := by
  obtain ⟨p1, p2⟩ := p_log (S := S) (x := (lX E (6 * k + 1))) hO
  refine L_aload_n F (zat qL37 0 (by rfl)) rfl ?_
  refine L_arg F qL37 1 (by rfl) (by rfl) (by rfl) (by rfl) (by rfl) (j := 1) rfl (by omega) hL ?_
  refine L_callC F (zat qL37 6 (by rfl)) lL_170 rfl rfl (as := [.inl (lX E (6 * k + 1))]) ⟨by omega, by omega⟩ hr hC hM p1 (fun h1 r1 o1 c1 m1 => ?_)
  refine L_aload_n F (zat qL37 7 (by rfl)) rfl ?_
  refine L_arg F qL37 8 (by rfl) (by rfl) (by rfl) (by rfl) (by rfl) (j := 1) rfl (by omega) hL ?_
  refine L_callM F (zat qL37 13 (by rfl)) lL_173 rfl rfl (as := [.inl (lX E (6 * k + 1))]) ⟨by omega, by omega⟩ r1 c1 m1 p2 (fun h2 r2 c2 m2 => ?_)
  exact L_same F qL37 14 (by rfl) (by decide) (L_wid (by omega) (by omega) (kk _ h2 r2 o1 c2 m2))
def kL38 : List (Nat × Instr) := [(1862, .aload_n 1), (1863, .aload_n 0), (1864, .iload_n 3), (1865, .iconst 1), (1866, .iadd), (1867, .iaload), (1868, .aload_n 0), (1869, .iload_n 3), (1870, .iconst 2), (1871, .iadd), (1872, .iaload), (1873, .invokevirtual 174), (1876, .aload_n 2), (1877, .aload_n 0), (1878, .iload_n 3), (1879, .iconst 1), (1880, .iadd), (1881, .iaload), (1882, .aload_n 0), (1883, .iload_n 3), (1884, .iconst 2), (1885, .iadd), (1886, .iaload), (1887, .invokevirtual 177), (1890, .if_icmp .eq 300), (1893, .iconst 0), (1894, .ireturn)]
theorem qL38 : zdc code kL38 = true := by decide +kernel
theorem lL_174 : zLv "UnevenWaxLaw" 174 2 mX10_nearly := zLv_of 1213 110 170 1214 1215 rfl (by decide +kernel) (by decide +kernel)
theorem lL_177 : zLv "UnevenWaxLaw" 177 2 mX11_nearly := zLv_of 1824 121 277 1825 1826 rfl (by decide +kernel) (by decide +kernel)
theorem lc_38 {E : LE} {cells slots k : Nat} {h : MH} {S : SS} (F : LF E) (hO : sO S) (hr : zRf h) (hC : sC S h) (hM : sM S h) (hk : 6 * k + 6 ≤ lL E) (hL : lL E ≤ 3072) (hm : cells + 31 ≤ 600000 ∧ slots + 751 ≤ 7302250) (kk : LK E cells slots k) : JL E cells slots 1862 (lls k) [] h := by
  obtain ⟨p1, p2⟩ := p_nearly (S := S) (x := (lX E (6 * k + 1))) (t := (lX E (6 * k + 2))) hO
  refine L_aload_n F (zat qL38 0 (by rfl)) rfl ?_
  refine L_arg F qL38 1 (by rfl) (by rfl) (by rfl) (by rfl) (by rfl) (j := 1) rfl (by omega) hL ?_
  refine L_arg F qL38 6 (by rfl) (by rfl) (by rfl) (by rfl) (by rfl) (j := 2) rfl (by omega) hL ?_
  refine L_callC F (zat qL38 11 (by rfl)) lL_174 rfl rfl (as := [.inl (lX E (6 * k + 1)), .inl (lX E (6 * k + 2))]) ⟨by omega, by omega⟩ hr hC hM p1 (fun h1 r1 o1 c1 m1 => ?_)
  refine L_aload_n F (zat qL38 12 (by rfl)) rfl ?_
  refine L_arg F qL38 13 (by rfl) (by rfl) (by rfl) (by rfl) (by rfl) (j := 1) rfl (by omega) hL ?_
  refine L_arg F qL38 18 (by rfl) (by rfl) (by rfl) (by rfl) (by rfl) (j := 2) rfl (by omega) hL ?_
  refine L_callM F (zat qL38 23 (by rfl)) lL_177 rfl rfl (as := [.inl (lX E (6 * k + 1)), .inl (lX E (6 * k + 2))]) ⟨by omega, by omega⟩ r1 c1 m1 p2 (fun h2 r2 c2 m2 => ?_)
  exact L_same F qL38 24 (by rfl) (by decide) (L_wid (by omega) (by omega) (kk _ h2 r2 o1 c2 m2))
def kL39 : List (Nat × Instr) := [(1895, .aload_n 1), (1896, .aload_n 0), (1897, .iload_n 3), (1898, .iconst 1), (1899, .iadd), (1900, .iaload), (1901, .aload_n 0), (1902, .iload_n 3), (1903, .iconst 2), (1904, .iadd), (1905, .iaload), (1906, .aload_n 0), (1907, .iload_n 3), (1908, .iconst 3), (1909, .iadd), (1910, .iaload), (1911, .invokevirtual 178), (1914, .aload_n 2), (1915, .aload_n 0), (1916, .iload_n 3), (1917, .iconst 1), (1918, .iadd), (1919, .iaload), (1920, .aload_n 0), (1921, .iload_n 3), (1922, .iconst 2), (1923, .iadd), (1924, .iaload), (1925, .aload_n 0), (1926, .iload_n 3), (1927, .iconst 3), (1928, .iadd), (1929, .iaload), (1930, .invokevirtual 181), (1933, .if_icmp .eq 257), (1936, .iconst 0), (1937, .ireturn)]
theorem qL39 : zdc code kL39 = true := by decide +kernel
theorem lL_178 : zLv "UnevenWaxLaw" 178 3 mX10_missed := zLv_of 1217 110 171 1218 1219 rfl (by decide +kernel) (by decide +kernel)
theorem lL_181 : zLv "UnevenWaxLaw" 181 3 mX11_missed := zLv_of 1828 121 278 1829 1830 rfl (by decide +kernel) (by decide +kernel)
theorem lc_39 {E : LE} {cells slots k : Nat} {h : MH} {S : SS} (F : LF E) (hO : sO S) (hr : zRf h) (hC : sC S h) (hM : sM S h) (hk : 6 * k + 6 ≤ lL E) (hL : lL E ≤ 3072) (hm : cells + 31 ≤ 600000 ∧ slots + 751 ≤ 7302250) (kk : LK E cells slots k) : JL E cells slots 1895 (lls k) [] h := by
  obtain ⟨p1, p2⟩ := p_missed (S := S) (x := (lX E (6 * k + 1))) (y := (lX E (6 * k + 2))) (k := (lX E (6 * k + 3))) hO
  refine L_aload_n F (zat qL39 0 (by rfl)) rfl ?_
  refine L_arg F qL39 1 (by rfl) (by rfl) (by rfl) (by rfl) (by rfl) (j := 1) rfl (by omega) hL ?_
  refine L_arg F qL39 6 (by rfl) (by rfl) (by rfl) (by rfl) (by rfl) (j := 2) rfl (by omega) hL ?_
  refine L_arg F qL39 11 (by rfl) (by rfl) (by rfl) (by rfl) (by rfl) (j := 3) rfl (by omega) hL ?_
  refine L_callC F (zat qL39 16 (by rfl)) lL_178 rfl rfl (as := [.inl (lX E (6 * k + 1)), .inl (lX E (6 * k + 2)), .inl (lX E (6 * k + 3))]) ⟨by omega, by omega⟩ hr hC hM p1 (fun h1 r1 o1 c1 m1 => ?_)
  refine L_aload_n F (zat qL39 17 (by rfl)) rfl ?_
  refine L_arg F qL39 18 (by rfl) (by rfl) (by rfl) (by rfl) (by rfl) (j := 1) rfl (by omega) hL ?_
  refine L_arg F qL39 23 (by rfl) (by rfl) (by rfl) (by rfl) (by rfl) (j := 2) rfl (by omega) hL ?_
  refine L_arg F qL39 28 (by rfl) (by rfl) (by rfl) (by rfl) (by rfl) (j := 3) rfl (by omega) hL ?_
  refine L_callM F (zat qL39 33 (by rfl)) lL_181 rfl rfl (as := [.inl (lX E (6 * k + 1)), .inl (lX E (6 * k + 2)), .inl (lX E (6 * k + 3))]) ⟨by omega, by omega⟩ r1 c1 m1 p2 (fun h2 r2 c2 m2 => ?_)
  exact L_same F qL39 34 (by rfl) (by decide) (L_wid (by omega) (by omega) (kk _ h2 r2 o1 c2 m2))
def kL40 : List (Nat × Instr) := [(1938, .aload_n 1), (1939, .aload_n 0), (1940, .iload_n 3), (1941, .iconst 1), (1942, .iadd), (1943, .iaload), (1944, .aload_n 0), (1945, .iload_n 3), (1946, .iconst 2), (1947, .iadd), (1948, .iaload), (1949, .invokevirtual 182), (1952, .aload_n 2), (1953, .aload_n 0), (1954, .iload_n 3), (1955, .iconst 1), (1956, .iadd), (1957, .iaload), (1958, .aload_n 0), (1959, .iload_n 3), (1960, .iconst 2), (1961, .iadd), (1962, .iaload), (1963, .invokevirtual 185), (1966, .if_icmp .eq 224), (1969, .iconst 0), (1970, .ireturn)]
theorem qL40 : zdc code kL40 = true := by decide +kernel
theorem lL_182 : zLv "UnevenWaxLaw" 182 2 mX10_stolen := zLv_of 1221 110 172 1222 1223 rfl (by decide +kernel) (by decide +kernel)
theorem lL_185 : zLv "UnevenWaxLaw" 185 2 mX11_stolen := zLv_of 1832 121 279 1833 1834 rfl (by decide +kernel) (by decide +kernel)
theorem lc_40 {E : LE} {cells slots k : Nat} {h : MH} {S : SS} (F : LF E) (hO : sO S) (hr : zRf h) (hC : sC S h) (hM : sM S h) (hk : 6 * k + 6 ≤ lL E) (hL : lL E ≤ 3072) (hm : cells + 31 ≤ 600000 ∧ slots + 751 ≤ 7302250) (kk : LK E cells slots k) : JL E cells slots 1938 (lls k) [] h := by
  obtain ⟨p1, p2⟩ := p_stolen (S := S) (x := (lX E (6 * k + 1))) (y := (lX E (6 * k + 2))) hO
  refine L_aload_n F (zat qL40 0 (by rfl)) rfl ?_
  refine L_arg F qL40 1 (by rfl) (by rfl) (by rfl) (by rfl) (by rfl) (j := 1) rfl (by omega) hL ?_
  refine L_arg F qL40 6 (by rfl) (by rfl) (by rfl) (by rfl) (by rfl) (j := 2) rfl (by omega) hL ?_
  refine L_callC F (zat qL40 11 (by rfl)) lL_182 rfl rfl (as := [.inl (lX E (6 * k + 1)), .inl (lX E (6 * k + 2))]) ⟨by omega, by omega⟩ hr hC hM p1 (fun h1 r1 o1 c1 m1 => ?_)
  refine L_aload_n F (zat qL40 12 (by rfl)) rfl ?_
  refine L_arg F qL40 13 (by rfl) (by rfl) (by rfl) (by rfl) (by rfl) (j := 1) rfl (by omega) hL ?_
  refine L_arg F qL40 18 (by rfl) (by rfl) (by rfl) (by rfl) (by rfl) (j := 2) rfl (by omega) hL ?_
  refine L_callM F (zat qL40 23 (by rfl)) lL_185 rfl rfl (as := [.inl (lX E (6 * k + 1)), .inl (lX E (6 * k + 2))]) ⟨by omega, by omega⟩ r1 c1 m1 p2 (fun h2 r2 c2 m2 => ?_)
  exact L_same F qL40 24 (by rfl) (by decide) (L_wid (by omega) (by omega) (kk _ h2 r2 o1 c2 m2))
def kL41 : List (Nat × Instr) := [(1971, .aload_n 1), (1972, .aload_n 0), (1973, .iload_n 3), (1974, .iconst 1), (1975, .iadd), (1976, .iaload), (1977, .aload_n 0), (1978, .iload_n 3), (1979, .iconst 2), (1980, .iadd), (1981, .iaload), (1982, .aload_n 0), (1983, .iload_n 3), (1984, .iconst 3), (1985, .iadd), (1986, .iaload), (1987, .invokevirtual 186), (1990, .aload_n 2), (1991, .aload_n 0), (1992, .iload_n 3), (1993, .iconst 1), (1994, .iadd), (1995, .iaload), (1996, .aload_n 0), (1997, .iload_n 3), (1998, .iconst 2), (1999, .iadd), (2000, .iaload), (2001, .aload_n 0), (2002, .iload_n 3), (2003, .iconst 3), (2004, .iadd), (2005, .iaload), (2006, .invokevirtual 189), (2009, .if_icmp .eq 181), (2012, .iconst 0), (2013, .ireturn)]
theorem qL41 : zdc code kL41 = true := by decide +kernel
theorem lL_186 : zLv "UnevenWaxLaw" 186 3 mX10_numbers := zLv_of 1225 110 173 1226 1227 rfl (by decide +kernel) (by decide +kernel)
theorem lL_189 : zLv "UnevenWaxLaw" 189 3 mX11_numbers := zLv_of 1836 121 280 1837 1838 rfl (by decide +kernel) (by decide +kernel)
theorem lc_41 {E : LE} {cells slots k : Nat} {h : MH} {S : SS} (F : LF E) (hO : sO S) (hr : zRf h) (hC : sC S h) (hM : sM S h) (hk : 6 * k + 6 ≤ lL E) (hL : lL E ≤ 3072) (hm : cells + 31 ≤ 600000 ∧ slots + 751 ≤ 7302250) (kk : LK E cells slots k) : JL E cells slots 1971 (lls k) [] h := by
  obtain ⟨p1, p2⟩ := p_numbers (S := S) (x := (lX E (6 * k + 1))) (y := (lX E (6 * k + 2))) (z := (lX E (6 * k + 3))) hO
  refine L_aload_n F (zat qL41 0 (by rfl)) rfl ?_
  refine L_arg F qL41 1 (by rfl) (by rfl) (by rfl) (by rfl) (by rfl) (j := 1) rfl (by omega) hL ?_
  refine L_arg F qL41 6 (by rfl) (by rfl) (by rfl) (by rfl) (by rfl) (j := 2) rfl (by omega) hL ?_
  refine L_arg F qL41 11 (by rfl) (by rfl) (by rfl) (by rfl) (by rfl) (j := 3) rfl (by omega) hL ?_
  refine L_callC F (zat qL41 16 (by rfl)) lL_186 rfl rfl (as := [.inl (lX E (6 * k + 1)), .inl (lX E (6 * k + 2)), .inl (lX E (6 * k + 3))]) ⟨by omega, by omega⟩ hr hC hM p1 (fun h1 r1 o1 c1 m1 => ?_)
  refine L_aload_n F (zat qL41 17 (by rfl)) rfl ?_
  refine L_arg F qL41 18 (by rfl) (by rfl) (by rfl) (by rfl) (by rfl) (j := 1) rfl (by omega) hL ?_
  refine L_arg F qL41 23 (by rfl) (by rfl) (by rfl) (by rfl) (by rfl) (j := 2) rfl (by omega) hL ?_
  refine L_arg F qL41 28 (by rfl) (by rfl) (by rfl) (by rfl) (by rfl) (j := 3) rfl (by omega) hL ?_
  refine L_callM F (zat qL41 33 (by rfl)) lL_189 rfl rfl (as := [.inl (lX E (6 * k + 1)), .inl (lX E (6 * k + 2)), .inl (lX E (6 * k + 3))]) ⟨by omega, by omega⟩ r1 c1 m1 p2 (fun h2 r2 c2 m2 => ?_)
  exact L_same F qL41 34 (by rfl) (by decide) (L_wid (by omega) (by omega) (kk _ h2 r2 o1 c2 m2))
def kL42 : List (Nat × Instr) := [(2014, .aload_n 1), (2015, .aload_n 0), (2016, .iload_n 3), (2017, .iconst 1), (2018, .iadd), (2019, .iaload), (2020, .aload_n 0), (2021, .iload_n 3), (2022, .iconst 2), (2023, .iadd), (2024, .iaload), (2025, .aload_n 0), (2026, .iload_n 3), (2027, .iconst 3), (2028, .iadd), (2029, .iaload), (2030, .i2l), (2031, .bipush 32), (2033, .lshl), (2034, .aload_n 0), (2035, .iload_n 3), (2036, .iconst 4), (2037, .iadd), (2038, .iaload), (2039, .i2l), (2040, .ldc2_w 190), (2043, .land), (2044, .lor), (2045, .invokevirtual 192), (2048, .aload_n 2), (2049, .aload_n 0), (2050, .iload_n 3), (2051, .iconst 1), (2052, .iadd), (2053, .iaload), (2054, .aload_n 0), (2055, .iload_n 3), (2056, .iconst 2), (2057, .iadd), (2058, .iaload), (2059, .aload_n 0), (2060, .iload_n 3), (2061, .iconst 3), (2062, .iadd), (2063, .iaload), (2064, .i2l), (2065, .bipush 32), (2067, .lshl), (2068, .aload_n 0), (2069, .iload_n 3), (2070, .iconst 4), (2071, .iadd), (2072, .iaload), (2073, .i2l), (2074, .ldc2_w 190), (2077, .land), (2078, .lor), (2079, .invokevirtual 196), (2082, .lcmp), (2083, .ifCond .eq 107), (2086, .iconst 0), (2087, .ireturn)]
theorem qL42 : zdc code kL42 = true := by decide +kernel
theorem lL_192 : zLv "UnevenWaxLaw" 192 3 mX10_write := zLv_of 1233 110 175 1234 1235 rfl (by decide +kernel) (by decide +kernel)
theorem lL_196 : zLv "UnevenWaxLaw" 196 3 mX11_write := zLv_of 1841 121 281 1842 1843 rfl (by decide +kernel) (by decide +kernel)
theorem lc_42 {E : LE} {cells slots k : Nat} {h : MH} {S : SS} (F : LF E) (hO : sO S) (hr : zRf h) (hC : sC S h) (hM : sM S h) (hk : 6 * k + 6 ≤ lL E) (hL : lL E ≤ 3072) (hm : cells + 31 ≤ 600000 ∧ slots + 751 ≤ 7302250) (kk : LK E cells slots k) : JL E cells slots 2014 (lls k) [] h := by
  obtain ⟨p1, p2⟩ := p_write (S := S) (x := (lX E (6 * k + 1))) (y := (lX E (6 * k + 2))) (v := ((((lX E (6 * k + 3)).toInt64) <<< ((Int8.ofInt 32).toInt32.toInt64 &&& 63)) ||| (((lX E (6 * k + 4)).toInt64) &&& 4294967295))) hO
  refine L_aload_n F (zat qL42 0 (by rfl)) rfl ?_
  refine L_arg F qL42 1 (by rfl) (by rfl) (by rfl) (by rfl) (by rfl) (j := 1) rfl (by omega) hL ?_
  refine L_arg F qL42 6 (by rfl) (by rfl) (by rfl) (by rfl) (by rfl) (j := 2) rfl (by omega) hL ?_
  refine L_arg F qL42 11 (by rfl) (by rfl) (by rfl) (by rfl) (by rfl) (j := 3) rfl (by omega) hL ?_
  refine L_i2l F (zat qL42 16 (by rfl)) ?_
  refine L_bipush F (zat qL42 17 (by rfl)) ?_
  refine L_lshl F (zat qL42 18 (by rfl)) ?_
  refine L_arg F qL42 19 (by rfl) (by rfl) (by rfl) (by rfl) (by rfl) (j := 4) rfl (by omega) hL ?_
  refine L_i2l F (zat qL42 24 (by rfl)) ?_
  refine L_ldc2 F (zat qL42 25 (by rfl)) (j := 1867) (v := 4294967295) (by decide +kernel) ?_
  refine L_land F (zat qL42 26 (by rfl)) ?_
  refine L_lor F (zat qL42 27 (by rfl)) ?_
  refine L_callC F (zat qL42 28 (by rfl)) lL_192 rfl rfl (as := [.inl (lX E (6 * k + 1)), .inl (lX E (6 * k + 2)), .inr (.inl ((((lX E (6 * k + 3)).toInt64) <<< ((Int8.ofInt 32).toInt32.toInt64 &&& 63)) ||| (((lX E (6 * k + 4)).toInt64) &&& 4294967295)))]) ⟨by omega, by omega⟩ hr hC hM p1 (fun h1 r1 o1 c1 m1 => ?_)
  refine L_aload_n F (zat qL42 29 (by rfl)) rfl ?_
  refine L_arg F qL42 30 (by rfl) (by rfl) (by rfl) (by rfl) (by rfl) (j := 1) rfl (by omega) hL ?_
  refine L_arg F qL42 35 (by rfl) (by rfl) (by rfl) (by rfl) (by rfl) (j := 2) rfl (by omega) hL ?_
  refine L_arg F qL42 40 (by rfl) (by rfl) (by rfl) (by rfl) (by rfl) (j := 3) rfl (by omega) hL ?_
  refine L_i2l F (zat qL42 45 (by rfl)) ?_
  refine L_bipush F (zat qL42 46 (by rfl)) ?_
  refine L_lshl F (zat qL42 47 (by rfl)) ?_
  refine L_arg F qL42 48 (by rfl) (by rfl) (by rfl) (by rfl) (by rfl) (j := 4) rfl (by omega) hL ?_
  refine L_i2l F (zat qL42 53 (by rfl)) ?_
  refine L_ldc2 F (zat qL42 54 (by rfl)) (j := 1867) (v := 4294967295) (by decide +kernel) ?_
  refine L_land F (zat qL42 55 (by rfl)) ?_
  refine L_lor F (zat qL42 56 (by rfl)) ?_
  refine L_callM F (zat qL42 57 (by rfl)) lL_196 rfl rfl (as := [.inl (lX E (6 * k + 1)), .inl (lX E (6 * k + 2)), .inr (.inl ((((lX E (6 * k + 3)).toInt64) <<< ((Int8.ofInt 32).toInt32.toInt64 &&& 63)) ||| (((lX E (6 * k + 4)).toInt64) &&& 4294967295)))]) ⟨by omega, by omega⟩ r1 c1 m1 p2 (fun h2 r2 c2 m2 => ?_)
  exact L_sameL F qL42 58 (by rfl) (by rfl) (by decide) (L_wid (by omega) (by omega) (kk _ h2 r2 o1 c2 m2))
def kL43 : List (Nat × Instr) := [(2088, .aload_n 1), (2089, .aload_n 0), (2090, .iload_n 3), (2091, .iconst 1), (2092, .iadd), (2093, .iaload), (2094, .aload_n 0), (2095, .iload_n 3), (2096, .iconst 2), (2097, .iadd), (2098, .iaload), (2099, .invokevirtual 197), (2102, .aload_n 2), (2103, .aload_n 0), (2104, .iload_n 3), (2105, .iconst 1), (2106, .iadd), (2107, .iaload), (2108, .aload_n 0), (2109, .iload_n 3), (2110, .iconst 2), (2111, .iadd), (2112, .iaload), (2113, .invokevirtual 200), (2116, .if_icmp .eq 74), (2119, .iconst 0), (2120, .ireturn)]
theorem qL43 : zdc code kL43 = true := by decide +kernel
theorem lL_197 : zLv "UnevenWaxLaw" 197 2 mX10_copy := zLv_of 1248 110 178 1249 1250 rfl (by decide +kernel) (by decide +kernel)
theorem lL_200 : zLv "UnevenWaxLaw" 200 2 mX11_copy := zLv_of 1851 121 283 1852 1853 rfl (by decide +kernel) (by decide +kernel)
theorem lc_43 {E : LE} {cells slots k : Nat} {h : MH} {S : SS} (F : LF E) (hO : sO S) (hr : zRf h) (hC : sC S h) (hM : sM S h) (hk : 6 * k + 6 ≤ lL E) (hL : lL E ≤ 3072) (hm : cells + 31 ≤ 600000 ∧ slots + 751 ≤ 7302250) (kk : LK E cells slots k) : JL E cells slots 2088 (lls k) [] h := by
  obtain ⟨p1, p2⟩ := p_copy (S := S) (x := (lX E (6 * k + 1))) (y := (lX E (6 * k + 2))) hO
  refine L_aload_n F (zat qL43 0 (by rfl)) rfl ?_
  refine L_arg F qL43 1 (by rfl) (by rfl) (by rfl) (by rfl) (by rfl) (j := 1) rfl (by omega) hL ?_
  refine L_arg F qL43 6 (by rfl) (by rfl) (by rfl) (by rfl) (by rfl) (j := 2) rfl (by omega) hL ?_
  refine L_callC F (zat qL43 11 (by rfl)) lL_197 rfl rfl (as := [.inl (lX E (6 * k + 1)), .inl (lX E (6 * k + 2))]) ⟨by omega, by omega⟩ hr hC hM p1 (fun h1 r1 o1 c1 m1 => ?_)
  refine L_aload_n F (zat qL43 12 (by rfl)) rfl ?_
  refine L_arg F qL43 13 (by rfl) (by rfl) (by rfl) (by rfl) (by rfl) (j := 1) rfl (by omega) hL ?_
  refine L_arg F qL43 18 (by rfl) (by rfl) (by rfl) (by rfl) (by rfl) (j := 2) rfl (by omega) hL ?_
  refine L_callM F (zat qL43 23 (by rfl)) lL_200 rfl rfl (as := [.inl (lX E (6 * k + 1)), .inl (lX E (6 * k + 2))]) ⟨by omega, by omega⟩ r1 c1 m1 p2 (fun h2 r2 c2 m2 => ?_)
  exact L_same F qL43 24 (by rfl) (by decide) (L_wid (by omega) (by omega) (kk _ h2 r2 o1 c2 m2))
def kL44 : List (Nat × Instr) := [(2121, .aload_n 1), (2122, .aload_n 0), (2123, .iload_n 3), (2124, .iconst 1), (2125, .iadd), (2126, .iaload), (2127, .invokevirtual 201), (2130, .aload_n 2), (2131, .aload_n 0), (2132, .iload_n 3), (2133, .iconst 1), (2134, .iadd), (2135, .iaload), (2136, .invokevirtual 204), (2139, .if_icmp .eq 51), (2142, .iconst 0), (2143, .ireturn)]
theorem qL44 : zdc code kL44 = true := by decide +kernel
theorem lL_201 : zLv "UnevenWaxLaw" 201 1 mX10_image := zLv_of 1252 110 179 1253 1254 rfl (by decide +kernel) (by decide +kernel)
theorem lL_204 : zLv "UnevenWaxLaw" 204 1 mX11_image := zLv_of 1855 121 284 1856 1857 rfl (by decide +kernel) (by decide +kernel)
theorem lc_44 {E : LE} {cells slots k : Nat} {h : MH} {S : SS} (F : LF E) (hO : sO S) (hr : zRf h) (hC : sC S h) (hM : sM S h) (hk : 6 * k + 6 ≤ lL E) (hL : lL E ≤ 3072) (hm : cells + 31 ≤ 600000 ∧ slots + 751 ≤ 7302250) (kk : LK E cells slots k) : JL E cells slots 2121 (lls k) [] h := by
  obtain ⟨S', r, p1, p2⟩ := p_image (S := S) (x := (lX E (6 * k + 1))) hO
  refine L_aload_n F (zat qL44 0 (by rfl)) rfl ?_
  refine L_arg F qL44 1 (by rfl) (by rfl) (by rfl) (by rfl) (by rfl) (j := 1) rfl (by omega) hL ?_
  refine L_callC F (zat qL44 6 (by rfl)) lL_201 rfl rfl (as := [.inl (lX E (6 * k + 1))]) ⟨by omega, by omega⟩ hr hC hM p1 (fun h1 r1 o1 c1 m1 => ?_)
  refine L_aload_n F (zat qL44 7 (by rfl)) rfl ?_
  refine L_arg F qL44 8 (by rfl) (by rfl) (by rfl) (by rfl) (by rfl) (j := 1) rfl (by omega) hL ?_
  refine L_callM F (zat qL44 13 (by rfl)) lL_204 rfl rfl (as := [.inl (lX E (6 * k + 1))]) ⟨by omega, by omega⟩ r1 c1 m1 p2 (fun h2 r2 c2 m2 => ?_)
  exact L_same F qL44 14 (by rfl) (by decide) (L_wid (by omega) (by omega) (kk _ h2 r2 o1 c2 m2))
def kL45 : List (Nat × Instr) := [(2144, .aload_n 1), (2145, .aload_n 0), (2146, .iload_n 3), (2147, .iconst 1), (2148, .iadd), (2149, .iaload), (2150, .invokevirtual 205), (2153, .aload_n 2), (2154, .aload_n 0), (2155, .iload_n 3), (2156, .iconst 1), (2157, .iadd), (2158, .iaload), (2159, .invokevirtual 208), (2162, .if_icmp .eq 28), (2165, .iconst 0), (2166, .ireturn)]
theorem qL45 : zdc code kL45 = true := by decide +kernel
theorem lL_205 : zLv "UnevenWaxLaw" 205 1 mX10_restore := zLv_of 1262 110 181 1263 1264 rfl (by decide +kernel) (by decide +kernel)
theorem lL_208 : zLv "UnevenWaxLaw" 208 1 mX11_restore := zLv_of 1859 121 285 1860 1861 rfl (by decide +kernel) (by decide +kernel)
theorem lc_45 {E : LE} {cells slots k : Nat} {h : MH} {S : SS} (F : LF E) (hO : sO S) (hr : zRf h) (hC : sC S h) (hM : sM S h) (hk : 6 * k + 6 ≤ lL E) (hL : lL E ≤ 3072) (hm : cells + 31 ≤ 600000 ∧ slots + 751 ≤ 7302250) (kk : LK E cells slots k) : JL E cells slots 2144 (lls k) [] h := by
  obtain ⟨S', r, p1, p2⟩ := p_restore (S := S) (x := (lX E (6 * k + 1))) hO
  refine L_aload_n F (zat qL45 0 (by rfl)) rfl ?_
  refine L_arg F qL45 1 (by rfl) (by rfl) (by rfl) (by rfl) (by rfl) (j := 1) rfl (by omega) hL ?_
  refine L_callC F (zat qL45 6 (by rfl)) lL_205 rfl rfl (as := [.inl (lX E (6 * k + 1))]) ⟨by omega, by omega⟩ hr hC hM p1 (fun h1 r1 o1 c1 m1 => ?_)
  refine L_aload_n F (zat qL45 7 (by rfl)) rfl ?_
  refine L_arg F qL45 8 (by rfl) (by rfl) (by rfl) (by rfl) (by rfl) (j := 1) rfl (by omega) hL ?_
  refine L_callM F (zat qL45 13 (by rfl)) lL_208 rfl rfl (as := [.inl (lX E (6 * k + 1))]) ⟨by omega, by omega⟩ r1 c1 m1 p2 (fun h2 r2 c2 m2 => ?_)
  exact L_same F qL45 14 (by rfl) (by decide) (L_wid (by omega) (by omega) (kk _ h2 r2 o1 c2 m2))
def kL46 : List (Nat × Instr) := [(2167, .aload_n 1), (2168, .aload_n 0), (2169, .iload_n 3), (2170, .iconst 1), (2171, .iadd), (2172, .iaload), (2173, .invokevirtual 209), (2176, .aload_n 2), (2177, .aload_n 0), (2178, .iload_n 3), (2179, .iconst 1), (2180, .iadd), (2181, .iaload), (2182, .invokevirtual 212), (2185, .if_icmp .eq 5), (2188, .iconst 0), (2189, .ireturn)]
theorem qL46 : zdc code kL46 = true := by decide +kernel
theorem lL_209 : zLv "UnevenWaxLaw" 209 1 mX10_count := zLv_of 1266 110 182 1267 1268 rfl (by decide +kernel) (by decide +kernel)
theorem lL_212 : zLv "UnevenWaxLaw" 212 1 mX11_count := zLv_of 1863 121 286 1864 1865 rfl (by decide +kernel) (by decide +kernel)
theorem lc_46 {E : LE} {cells slots k : Nat} {h : MH} {S : SS} (F : LF E) (hO : sO S) (hr : zRf h) (hC : sC S h) (hM : sM S h) (hk : 6 * k + 6 ≤ lL E) (hL : lL E ≤ 3072) (hm : cells + 31 ≤ 600000 ∧ slots + 751 ≤ 7302250) (kk : LK E cells slots k) : JL E cells slots 2167 (lls k) [] h := by
  obtain ⟨p1, p2⟩ := p_count (S := S) (x := (lX E (6 * k + 1))) hO
  refine L_aload_n F (zat qL46 0 (by rfl)) rfl ?_
  refine L_arg F qL46 1 (by rfl) (by rfl) (by rfl) (by rfl) (by rfl) (j := 1) rfl (by omega) hL ?_
  refine L_callC F (zat qL46 6 (by rfl)) lL_209 rfl rfl (as := [.inl (lX E (6 * k + 1))]) ⟨by omega, by omega⟩ hr hC hM p1 (fun h1 r1 o1 c1 m1 => ?_)
  refine L_aload_n F (zat qL46 7 (by rfl)) rfl ?_
  refine L_arg F qL46 8 (by rfl) (by rfl) (by rfl) (by rfl) (by rfl) (j := 1) rfl (by omega) hL ?_
  refine L_callM F (zat qL46 13 (by rfl)) lL_212 rfl rfl (as := [.inl (lX E (6 * k + 1))]) ⟨by omega, by omega⟩ r1 c1 m1 p2 (fun h2 r2 c2 m2 => ?_)
  exact L_same F qL46 14 (by rfl) (by decide) (L_wid (by omega) (by omega) (kk _ h2 r2 o1 c2 m2))
