section
theorem fvM_list (L : List Value) (h : L.length = 93) : fvM (fun i => L.getD i .null) = L := by
  apply List.ext_getElem?
  intro i
  simp only [fvM, List.getElem?_map]
  by_cases hi : i < 93
  · simp [hi, List.getElem?_eq_getElem (h ▸ hi)]
  · simp [hi, h]

theorem mw_1863 : (Jvm.Cond.methodLink "GalleyforgeModel" (1 : Nat) ({ cls := "java/lang/Object", name := "<init>", desc := "()V" } : Jvm.MethodName)) ∈ gt := gt_at 1998 (by decide +kernel) (by decide +kernel)
theorem mw_1869 : (Jvm.Cond.fieldLink "GalleyforgeModel" (16 : Nat) "GalleyforgeModel" "patternSize" "[I") ∈ gt := gt_at 2004 (by decide +kernel) (by decide +kernel)
theorem mw_1870 : (Jvm.Cond.fieldLink "GalleyforgeModel" (19 : Nat) "GalleyforgeModel" "patternText" "[I") ∈ gt := gt_at 2005 (by decide +kernel) (by decide +kernel)
theorem mw_1871 : (Jvm.Cond.fieldLink "GalleyforgeModel" (22 : Nat) "GalleyforgeModel" "patternGap" "[I") ∈ gt := gt_at 2006 (by decide +kernel) (by decide +kernel)
theorem mw_1872 : (Jvm.Cond.fieldLink "GalleyforgeModel" (25 : Nat) "GalleyforgeModel" "patternLevel" "[I") ∈ gt := gt_at 2007 (by decide +kernel) (by decide +kernel)
theorem mw_1878 : (Jvm.Cond.fieldLink "GalleyforgeModel" (40 : Nat) "GalleyforgeModel" "sizes" "[I") ∈ gt := gt_at 2013 (by decide +kernel) (by decide +kernel)
theorem mw_1879 : (Jvm.Cond.fieldLink "GalleyforgeModel" (43 : Nat) "GalleyforgeModel" "letters" "[I") ∈ gt := gt_at 2014 (by decide +kernel) (by decide +kernel)
theorem mw_1880 : (Jvm.Cond.fieldLink "GalleyforgeModel" (46 : Nat) "GalleyforgeModel" "refersTo" "[I") ∈ gt := gt_at 2015 (by decide +kernel) (by decide +kernel)
theorem mw_1881 : (Jvm.Cond.fieldLink "GalleyforgeModel" (49 : Nat) "GalleyforgeModel" "has" "[I") ∈ gt := gt_at 2016 (by decide +kernel) (by decide +kernel)
theorem mw_1883 : (Jvm.Cond.fieldLink "GalleyforgeModel" (55 : Nat) "GalleyforgeModel" "leasts" "[I") ∈ gt := gt_at 2018 (by decide +kernel) (by decide +kernel)
theorem mw_1884 : (Jvm.Cond.fieldLink "GalleyforgeModel" (58 : Nat) "GalleyforgeModel" "bests" "[I") ∈ gt := gt_at 2019 (by decide +kernel) (by decide +kernel)
theorem mw_1891 : (Jvm.Cond.fieldLink "GalleyforgeModel" (70 : Nat) "GalleyforgeModel" "columnLeast" "[I") ∈ gt := gt_at 2026 (by decide +kernel) (by decide +kernel)
theorem mw_1892 : (Jvm.Cond.fieldLink "GalleyforgeModel" (73 : Nat) "GalleyforgeModel" "columnBest" "[I") ∈ gt := gt_at 2027 (by decide +kernel) (by decide +kernel)
theorem mw_1893 : (Jvm.Cond.fieldLink "GalleyforgeModel" (76 : Nat) "GalleyforgeModel" "columnWide" "[I") ∈ gt := gt_at 2028 (by decide +kernel) (by decide +kernel)
theorem mw_1895 : (Jvm.Cond.fieldLink "GalleyforgeModel" (79 : Nat) "GalleyforgeModel" "endWord" "[I") ∈ gt := gt_at 2030 (by decide +kernel) (by decide +kernel)
theorem mw_1896 : (Jvm.Cond.fieldLink "GalleyforgeModel" (82 : Nat) "GalleyforgeModel" "endGap" "[I") ∈ gt := gt_at 2031 (by decide +kernel) (by decide +kernel)
theorem mw_1897 : (Jvm.Cond.fieldLink "GalleyforgeModel" (85 : Nat) "GalleyforgeModel" "endWidth" "[I") ∈ gt := gt_at 2032 (by decide +kernel) (by decide +kernel)
theorem mw_1898 : (Jvm.Cond.fieldLink "GalleyforgeModel" (88 : Nat) "GalleyforgeModel" "endWords" "[I") ∈ gt := gt_at 2033 (by decide +kernel) (by decide +kernel)
theorem mw_1899 : (Jvm.Cond.fieldLink "GalleyforgeModel" (91 : Nat) "GalleyforgeModel" "least" "[J") ∈ gt := gt_at 2034 (by decide +kernel) (by decide +kernel)
theorem mw_1900 : (Jvm.Cond.fieldLink "GalleyforgeModel" (95 : Nat) "GalleyforgeModel" "fewest" "[I") ∈ gt := gt_at 2035 (by decide +kernel) (by decide +kernel)
theorem mw_1901 : (Jvm.Cond.fieldLink "GalleyforgeModel" (98 : Nat) "GalleyforgeModel" "nextEnd" "[I") ∈ gt := gt_at 2036 (by decide +kernel) (by decide +kernel)
theorem mw_1904 : (Jvm.Cond.fieldLink "GalleyforgeModel" (101 : Nat) "GalleyforgeModel" "lineCount" "[I") ∈ gt := gt_at 2039 (by decide +kernel) (by decide +kernel)
theorem mw_1905 : (Jvm.Cond.fieldLink "GalleyforgeModel" (104 : Nat) "GalleyforgeModel" "lineDemerits" "[J") ∈ gt := gt_at 2040 (by decide +kernel) (by decide +kernel)
theorem mw_1906 : (Jvm.Cond.fieldLink "GalleyforgeModel" (107 : Nat) "GalleyforgeModel" "endCount" "[I") ∈ gt := gt_at 2041 (by decide +kernel) (by decide +kernel)
theorem mw_1907 : (Jvm.Cond.fieldLink "GalleyforgeModel" (110 : Nat) "GalleyforgeModel" "lineEnds" "[I") ∈ gt := gt_at 2042 (by decide +kernel) (by decide +kernel)
theorem mw_1908 : (Jvm.Cond.fieldLink "GalleyforgeModel" (113 : Nat) "GalleyforgeModel" "lineGaps" "[I") ∈ gt := gt_at 2043 (by decide +kernel) (by decide +kernel)
theorem mw_1909 : (Jvm.Cond.fieldLink "GalleyforgeModel" (116 : Nat) "GalleyforgeModel" "lineClasses" "[I") ∈ gt := gt_at 2044 (by decide +kernel) (by decide +kernel)
theorem mw_1910 : (Jvm.Cond.fieldLink "GalleyforgeModel" (119 : Nat) "GalleyforgeModel" "wordLine" "[I") ∈ gt := gt_at 2045 (by decide +kernel) (by decide +kernel)
theorem mw_1913 : (Jvm.Cond.fieldLink "GalleyforgeModel" (125 : Nat) "GalleyforgeModel" "rowBlock" "[I") ∈ gt := gt_at 2048 (by decide +kernel) (by decide +kernel)
theorem mw_1914 : (Jvm.Cond.fieldLink "GalleyforgeModel" (128 : Nat) "GalleyforgeModel" "rowIndex" "[I") ∈ gt := gt_at 2049 (by decide +kernel) (by decide +kernel)
theorem mw_1915 : (Jvm.Cond.fieldLink "GalleyforgeModel" (131 : Nat) "GalleyforgeModel" "rowHigh" "[I") ∈ gt := gt_at 2050 (by decide +kernel) (by decide +kernel)
theorem mw_1916 : (Jvm.Cond.fieldLink "GalleyforgeModel" (134 : Nat) "GalleyforgeModel" "rowNotes" "[I") ∈ gt := gt_at 2051 (by decide +kernel) (by decide +kernel)
theorem mw_1917 : (Jvm.Cond.fieldLink "GalleyforgeModel" (137 : Nat) "GalleyforgeModel" "rowLastNote" "[I") ∈ gt := gt_at 2052 (by decide +kernel) (by decide +kernel)
theorem mw_1918 : (Jvm.Cond.fieldLink "GalleyforgeModel" (140 : Nat) "GalleyforgeModel" "isBreakBehind" "[Z") ∈ gt := gt_at 2053 (by decide +kernel) (by decide +kernel)
theorem mw_1919 : (Jvm.Cond.fieldLink "GalleyforgeModel" (144 : Nat) "GalleyforgeModel" "firstRow" "[I") ∈ gt := gt_at 2054 (by decide +kernel) (by decide +kernel)
theorem mw_1920 : (Jvm.Cond.fieldLink "GalleyforgeModel" (147 : Nat) "GalleyforgeModel" "rowCount" "[I") ∈ gt := gt_at 2055 (by decide +kernel) (by decide +kernel)
theorem mw_1922 : (Jvm.Cond.fieldLink "GalleyforgeModel" (150 : Nat) "GalleyforgeModel" "figureAt" "[I") ∈ gt := gt_at 2057 (by decide +kernel) (by decide +kernel)
theorem mw_1923 : (Jvm.Cond.fieldLink "GalleyforgeModel" (153 : Nat) "GalleyforgeModel" "figureRow" "[I") ∈ gt := gt_at 2058 (by decide +kernel) (by decide +kernel)
theorem mw_1942 : (Jvm.Cond.fieldLink "GalleyforgeModel" (183 : Nat) "GalleyforgeModel" "oneWay" "[I") ∈ gt := gt_at 2077 (by decide +kernel) (by decide +kernel)
theorem mw_1943 : (Jvm.Cond.fieldLink "GalleyforgeModel" (186 : Nat) "GalleyforgeModel" "otherWay" "[I") ∈ gt := gt_at 2078 (by decide +kernel) (by decide +kernel)
theorem mw_1949 : (Jvm.Cond.fieldLink "GalleyforgeModel" (189 : Nat) "GalleyforgeModel" "pageRow" "[I") ∈ gt := gt_at 2084 (by decide +kernel) (by decide +kernel)
theorem mw_1950 : (Jvm.Cond.fieldLink "GalleyforgeModel" (192 : Nat) "GalleyforgeModel" "pageRows" "[I") ∈ gt := gt_at 2085 (by decide +kernel) (by decide +kernel)
theorem mw_1951 : (Jvm.Cond.fieldLink "GalleyforgeModel" (195 : Nat) "GalleyforgeModel" "notesOn" "[I") ∈ gt := gt_at 2086 (by decide +kernel) (by decide +kernel)
theorem mw_1952 : (Jvm.Cond.fieldLink "GalleyforgeModel" (198 : Nat) "GalleyforgeModel" "usedOn" "[I") ∈ gt := gt_at 2087 (by decide +kernel) (by decide +kernel)
theorem mw_1953 : (Jvm.Cond.fieldLink "GalleyforgeModel" (201 : Nat) "GalleyforgeModel" "rowPage" "[I") ∈ gt := gt_at 2088 (by decide +kernel) (by decide +kernel)
theorem mw_1955 : (Jvm.Cond.fieldLink "GalleyforgeModel" (207 : Nat) "GalleyforgeModel" "standsHow" "[I") ∈ gt := gt_at 2090 (by decide +kernel) (by decide +kernel)
theorem dX12_init_0 : decode cX12_init 0 = .ok (.aload_n 0, 1) := by decide +kernel
theorem dX12_init_1 : decode cX12_init 1 = .ok (.invokespecial 1, 3) := by decide +kernel
theorem dX12_init_4 : decode cX12_init 4 = .ok (.aload_n 0, 1) := by decide +kernel
theorem dX12_init_5 : decode cX12_init 5 = .ok (.bipush 6, 2) := by decide +kernel
theorem dX12_init_7 : decode cX12_init 7 = .ok (.newarray .int, 2) := by decide +kernel
theorem dX12_init_9 : decode cX12_init 9 = .ok (.putfield 7, 3) := by decide +kernel
theorem dX12_init_12 : decode cX12_init 12 = .ok (.aload_n 0, 1) := by decide +kernel
theorem dX12_init_13 : decode cX12_init 13 = .ok (.iconst 5, 1) := by decide +kernel
theorem dX12_init_14 : decode cX12_init 14 = .ok (.newarray .int, 2) := by decide +kernel
theorem dX12_init_16 : decode cX12_init 16 = .ok (.putfield 13, 3) := by decide +kernel
theorem dX12_init_19 : decode cX12_init 19 = .ok (.aload_n 0, 1) := by decide +kernel
theorem dX12_init_20 : decode cX12_init 20 = .ok (.bipush 8, 2) := by decide +kernel
theorem dX12_init_22 : decode cX12_init 22 = .ok (.newarray .int, 2) := by decide +kernel
theorem dX12_init_24 : decode cX12_init 24 = .ok (.putfield 16, 3) := by decide +kernel
theorem dX12_init_27 : decode cX12_init 27 = .ok (.aload_n 0, 1) := by decide +kernel
theorem dX12_init_28 : decode cX12_init 28 = .ok (.bipush 24, 2) := by decide +kernel
theorem dX12_init_30 : decode cX12_init 30 = .ok (.newarray .int, 2) := by decide +kernel
theorem dX12_init_32 : decode cX12_init 32 = .ok (.putfield 19, 3) := by decide +kernel
theorem dX12_init_35 : decode cX12_init 35 = .ok (.aload_n 0, 1) := by decide +kernel
theorem dX12_init_36 : decode cX12_init 36 = .ok (.bipush 8, 2) := by decide +kernel
theorem dX12_init_38 : decode cX12_init 38 = .ok (.newarray .int, 2) := by decide +kernel
theorem dX12_init_40 : decode cX12_init 40 = .ok (.putfield 22, 3) := by decide +kernel
theorem dX12_init_43 : decode cX12_init 43 = .ok (.aload_n 0, 1) := by decide +kernel
theorem dX12_init_44 : decode cX12_init 44 = .ok (.bipush 8, 2) := by decide +kernel
theorem dX12_init_46 : decode cX12_init 46 = .ok (.newarray .int, 2) := by decide +kernel
theorem dX12_init_48 : decode cX12_init 48 = .ok (.putfield 25, 3) := by decide +kernel
theorem dX12_init_51 : decode cX12_init 51 = .ok (.aload_n 0, 1) := by decide +kernel
theorem dX12_init_52 : decode cX12_init 52 = .ok (.bipush 16, 2) := by decide +kernel
theorem dX12_init_54 : decode cX12_init 54 = .ok (.newarray .int, 2) := by decide +kernel
theorem dX12_init_56 : decode cX12_init 56 = .ok (.putfield 28, 3) := by decide +kernel
theorem dX12_init_59 : decode cX12_init 59 = .ok (.aload_n 0, 1) := by decide +kernel
theorem dX12_init_60 : decode cX12_init 60 = .ok (.bipush 16, 2) := by decide +kernel
theorem dX12_init_62 : decode cX12_init 62 = .ok (.newarray .int, 2) := by decide +kernel
theorem dX12_init_64 : decode cX12_init 64 = .ok (.putfield 31, 3) := by decide +kernel
theorem dX12_init_67 : decode cX12_init 67 = .ok (.aload_n 0, 1) := by decide +kernel
theorem dX12_init_68 : decode cX12_init 68 = .ok (.bipush 112, 2) := by decide +kernel
theorem dX12_init_70 : decode cX12_init 70 = .ok (.newarray .int, 2) := by decide +kernel
theorem dX12_init_72 : decode cX12_init 72 = .ok (.putfield 34, 3) := by decide +kernel
theorem dX12_init_75 : decode cX12_init 75 = .ok (.aload_n 0, 1) := by decide +kernel
theorem dX12_init_76 : decode cX12_init 76 = .ok (.bipush 16, 2) := by decide +kernel
theorem dX12_init_78 : decode cX12_init 78 = .ok (.newarray .int, 2) := by decide +kernel
theorem dX12_init_80 : decode cX12_init 80 = .ok (.putfield 37, 3) := by decide +kernel
theorem dX12_init_83 : decode cX12_init 83 = .ok (.aload_n 0, 1) := by decide +kernel
theorem dX12_init_84 : decode cX12_init 84 = .ok (.sipush 192, 3) := by decide +kernel
theorem dX12_init_87 : decode cX12_init 87 = .ok (.newarray .int, 2) := by decide +kernel
theorem dX12_init_89 : decode cX12_init 89 = .ok (.putfield 40, 3) := by decide +kernel
theorem dX12_init_92 : decode cX12_init 92 = .ok (.aload_n 0, 1) := by decide +kernel
theorem dX12_init_93 : decode cX12_init 93 = .ok (.sipush 1152, 3) := by decide +kernel
theorem dX12_init_96 : decode cX12_init 96 = .ok (.newarray .int, 2) := by decide +kernel
theorem dX12_init_98 : decode cX12_init 98 = .ok (.putfield 43, 3) := by decide +kernel
theorem dX12_init_101 : decode cX12_init 101 = .ok (.aload_n 0, 1) := by decide +kernel
theorem dX12_init_102 : decode cX12_init 102 = .ok (.sipush 192, 3) := by decide +kernel
theorem dX12_init_105 : decode cX12_init 105 = .ok (.newarray .int, 2) := by decide +kernel
theorem dX12_init_107 : decode cX12_init 107 = .ok (.putfield 46, 3) := by decide +kernel
theorem dX12_init_110 : decode cX12_init 110 = .ok (.aload_n 0, 1) := by decide +kernel
theorem dX12_init_111 : decode cX12_init 111 = .ok (.sipush 960, 3) := by decide +kernel
theorem dX12_init_114 : decode cX12_init 114 = .ok (.newarray .int, 2) := by decide +kernel
theorem dX12_init_116 : decode cX12_init 116 = .ok (.putfield 49, 3) := by decide +kernel
theorem dX12_init_119 : decode cX12_init 119 = .ok (.aload_n 0, 1) := by decide +kernel
theorem dX12_init_120 : decode cX12_init 120 = .ok (.sipush 192, 3) := by decide +kernel
theorem dX12_init_123 : decode cX12_init 123 = .ok (.newarray .int, 2) := by decide +kernel
theorem dX12_init_125 : decode cX12_init 125 = .ok (.putfield 52, 3) := by decide +kernel
theorem dX12_init_128 : decode cX12_init 128 = .ok (.aload_n 0, 1) := by decide +kernel
theorem dX12_init_129 : decode cX12_init 129 = .ok (.sipush 192, 3) := by decide +kernel
theorem dX12_init_132 : decode cX12_init 132 = .ok (.newarray .int, 2) := by decide +kernel
theorem dX12_init_134 : decode cX12_init 134 = .ok (.putfield 55, 3) := by decide +kernel
theorem dX12_init_137 : decode cX12_init 137 = .ok (.aload_n 0, 1) := by decide +kernel
theorem dX12_init_138 : decode cX12_init 138 = .ok (.sipush 192, 3) := by decide +kernel
theorem dX12_init_141 : decode cX12_init 141 = .ok (.newarray .int, 2) := by decide +kernel
theorem dX12_init_143 : decode cX12_init 143 = .ok (.putfield 58, 3) := by decide +kernel
theorem dX12_init_146 : decode cX12_init 146 = .ok (.aload_n 0, 1) := by decide +kernel
theorem dX12_init_147 : decode cX12_init 147 = .ok (.iconst 5, 1) := by decide +kernel
theorem dX12_init_148 : decode cX12_init 148 = .ok (.newarray .int, 2) := by decide +kernel
theorem dX12_init_150 : decode cX12_init 150 = .ok (.putfield 61, 3) := by decide +kernel
theorem dX12_init_153 : decode cX12_init 153 = .ok (.aload_n 0, 1) := by decide +kernel
theorem dX12_init_154 : decode cX12_init 154 = .ok (.iconst 5, 1) := by decide +kernel
theorem dX12_init_155 : decode cX12_init 155 = .ok (.newarray .int, 2) := by decide +kernel
theorem dX12_init_157 : decode cX12_init 157 = .ok (.putfield 64, 3) := by decide +kernel
theorem dX12_init_160 : decode cX12_init 160 = .ok (.aload_n 0, 1) := by decide +kernel
theorem dX12_init_161 : decode cX12_init 161 = .ok (.bipush 8, 2) := by decide +kernel
theorem dX12_init_163 : decode cX12_init 163 = .ok (.newarray .int, 2) := by decide +kernel
theorem dX12_init_165 : decode cX12_init 165 = .ok (.putfield 67, 3) := by decide +kernel
theorem dX12_init_168 : decode cX12_init 168 = .ok (.aload_n 0, 1) := by decide +kernel
theorem dX12_init_169 : decode cX12_init 169 = .ok (.iconst 3, 1) := by decide +kernel
theorem dX12_init_170 : decode cX12_init 170 = .ok (.newarray .int, 2) := by decide +kernel
theorem dX12_init_172 : decode cX12_init 172 = .ok (.putfield 70, 3) := by decide +kernel
theorem dX12_init_175 : decode cX12_init 175 = .ok (.aload_n 0, 1) := by decide +kernel
theorem dX12_init_176 : decode cX12_init 176 = .ok (.iconst 3, 1) := by decide +kernel
theorem dX12_init_177 : decode cX12_init 177 = .ok (.newarray .int, 2) := by decide +kernel
theorem dX12_init_179 : decode cX12_init 179 = .ok (.putfield 73, 3) := by decide +kernel
theorem dX12_init_182 : decode cX12_init 182 = .ok (.aload_n 0, 1) := by decide +kernel
theorem dX12_init_183 : decode cX12_init 183 = .ok (.iconst 3, 1) := by decide +kernel
theorem dX12_init_184 : decode cX12_init 184 = .ok (.newarray .int, 2) := by decide +kernel
theorem dX12_init_186 : decode cX12_init 186 = .ok (.putfield 76, 3) := by decide +kernel
theorem dX12_init_189 : decode cX12_init 189 = .ok (.aload_n 0, 1) := by decide +kernel
theorem dX12_init_190 : decode cX12_init 190 = .ok (.bipush 49, 2) := by decide +kernel
theorem dX12_init_192 : decode cX12_init 192 = .ok (.newarray .int, 2) := by decide +kernel
theorem dX12_init_194 : decode cX12_init 194 = .ok (.putfield 79, 3) := by decide +kernel
theorem dX12_init_197 : decode cX12_init 197 = .ok (.aload_n 0, 1) := by decide +kernel
theorem dX12_init_198 : decode cX12_init 198 = .ok (.bipush 49, 2) := by decide +kernel
theorem dX12_init_200 : decode cX12_init 200 = .ok (.newarray .int, 2) := by decide +kernel
theorem dX12_init_202 : decode cX12_init 202 = .ok (.putfield 82, 3) := by decide +kernel
theorem dX12_init_205 : decode cX12_init 205 = .ok (.aload_n 0, 1) := by decide +kernel
theorem dX12_init_206 : decode cX12_init 206 = .ok (.bipush 49, 2) := by decide +kernel
theorem dX12_init_208 : decode cX12_init 208 = .ok (.newarray .int, 2) := by decide +kernel
theorem dX12_init_210 : decode cX12_init 210 = .ok (.putfield 85, 3) := by decide +kernel
theorem dX12_init_213 : decode cX12_init 213 = .ok (.aload_n 0, 1) := by decide +kernel
theorem dX12_init_214 : decode cX12_init 214 = .ok (.bipush 49, 2) := by decide +kernel
theorem dX12_init_216 : decode cX12_init 216 = .ok (.newarray .int, 2) := by decide +kernel
theorem dX12_init_218 : decode cX12_init 218 = .ok (.putfield 88, 3) := by decide +kernel
theorem dX12_init_221 : decode cX12_init 221 = .ok (.aload_n 0, 1) := by decide +kernel
theorem dX12_init_222 : decode cX12_init 222 = .ok (.sipush 980, 3) := by decide +kernel
theorem dX12_init_225 : decode cX12_init 225 = .ok (.newarray .long, 2) := by decide +kernel
theorem dX12_init_227 : decode cX12_init 227 = .ok (.putfield 91, 3) := by decide +kernel
theorem dX12_init_230 : decode cX12_init 230 = .ok (.aload_n 0, 1) := by decide +kernel
theorem dX12_init_231 : decode cX12_init 231 = .ok (.sipush 980, 3) := by decide +kernel
theorem dX12_init_234 : decode cX12_init 234 = .ok (.newarray .int, 2) := by decide +kernel
theorem dX12_init_236 : decode cX12_init 236 = .ok (.putfield 95, 3) := by decide +kernel
theorem dX12_init_239 : decode cX12_init 239 = .ok (.aload_n 0, 1) := by decide +kernel
theorem dX12_init_240 : decode cX12_init 240 = .ok (.sipush 980, 3) := by decide +kernel
theorem dX12_init_243 : decode cX12_init 243 = .ok (.newarray .int, 2) := by decide +kernel
theorem dX12_init_245 : decode cX12_init 245 = .ok (.putfield 98, 3) := by decide +kernel
theorem dX12_init_248 : decode cX12_init 248 = .ok (.aload_n 0, 1) := by decide +kernel
theorem dX12_init_249 : decode cX12_init 249 = .ok (.bipush 16, 2) := by decide +kernel
theorem dX12_init_251 : decode cX12_init 251 = .ok (.newarray .int, 2) := by decide +kernel
theorem dX12_init_253 : decode cX12_init 253 = .ok (.putfield 101, 3) := by decide +kernel
theorem dX12_init_256 : decode cX12_init 256 = .ok (.aload_n 0, 1) := by decide +kernel
theorem dX12_init_257 : decode cX12_init 257 = .ok (.bipush 16, 2) := by decide +kernel
theorem dX12_init_259 : decode cX12_init 259 = .ok (.newarray .long, 2) := by decide +kernel
theorem dX12_init_261 : decode cX12_init 261 = .ok (.putfield 104, 3) := by decide +kernel
theorem dX12_init_264 : decode cX12_init 264 = .ok (.aload_n 0, 1) := by decide +kernel
theorem dX12_init_265 : decode cX12_init 265 = .ok (.bipush 16, 2) := by decide +kernel
theorem dX12_init_267 : decode cX12_init 267 = .ok (.newarray .int, 2) := by decide +kernel
theorem dX12_init_269 : decode cX12_init 269 = .ok (.putfield 107, 3) := by decide +kernel
theorem dX12_init_272 : decode cX12_init 272 = .ok (.aload_n 0, 1) := by decide +kernel
theorem dX12_init_273 : decode cX12_init 273 = .ok (.sipush 768, 3) := by decide +kernel
theorem dX12_init_276 : decode cX12_init 276 = .ok (.newarray .int, 2) := by decide +kernel
theorem dX12_init_278 : decode cX12_init 278 = .ok (.putfield 110, 3) := by decide +kernel
theorem dX12_init_281 : decode cX12_init 281 = .ok (.aload_n 0, 1) := by decide +kernel
theorem dX12_init_282 : decode cX12_init 282 = .ok (.sipush 768, 3) := by decide +kernel
theorem dX12_init_285 : decode cX12_init 285 = .ok (.newarray .int, 2) := by decide +kernel
theorem dX12_init_287 : decode cX12_init 287 = .ok (.putfield 113, 3) := by decide +kernel
theorem dX12_init_290 : decode cX12_init 290 = .ok (.aload_n 0, 1) := by decide +kernel
theorem dX12_init_291 : decode cX12_init 291 = .ok (.sipush 768, 3) := by decide +kernel
theorem dX12_init_294 : decode cX12_init 294 = .ok (.newarray .int, 2) := by decide +kernel
theorem dX12_init_296 : decode cX12_init 296 = .ok (.putfield 116, 3) := by decide +kernel
theorem dX12_init_299 : decode cX12_init 299 = .ok (.aload_n 0, 1) := by decide +kernel
theorem dX12_init_300 : decode cX12_init 300 = .ok (.sipush 192, 3) := by decide +kernel
theorem dX12_init_303 : decode cX12_init 303 = .ok (.newarray .int, 2) := by decide +kernel
theorem dX12_init_305 : decode cX12_init 305 = .ok (.putfield 119, 3) := by decide +kernel
theorem dX12_init_308 : decode cX12_init 308 = .ok (.aload_n 0, 1) := by decide +kernel
theorem dX12_init_309 : decode cX12_init 309 = .ok (.bipush 6, 2) := by decide +kernel
theorem dX12_init_311 : decode cX12_init 311 = .ok (.newarray .int, 2) := by decide +kernel
theorem dX12_init_313 : decode cX12_init 313 = .ok (.putfield 122, 3) := by decide +kernel
theorem dX12_init_316 : decode cX12_init 316 = .ok (.aload_n 0, 1) := by decide +kernel
theorem dX12_init_317 : decode cX12_init 317 = .ok (.sipush 768, 3) := by decide +kernel
theorem dX12_init_320 : decode cX12_init 320 = .ok (.newarray .int, 2) := by decide +kernel
theorem dX12_init_322 : decode cX12_init 322 = .ok (.putfield 125, 3) := by decide +kernel
theorem dX12_init_325 : decode cX12_init 325 = .ok (.aload_n 0, 1) := by decide +kernel
theorem dX12_init_326 : decode cX12_init 326 = .ok (.sipush 768, 3) := by decide +kernel
theorem dX12_init_329 : decode cX12_init 329 = .ok (.newarray .int, 2) := by decide +kernel
theorem dX12_init_331 : decode cX12_init 331 = .ok (.putfield 128, 3) := by decide +kernel
theorem dX12_init_334 : decode cX12_init 334 = .ok (.aload_n 0, 1) := by decide +kernel
theorem dX12_init_335 : decode cX12_init 335 = .ok (.sipush 768, 3) := by decide +kernel
theorem dX12_init_338 : decode cX12_init 338 = .ok (.newarray .int, 2) := by decide +kernel
theorem dX12_init_340 : decode cX12_init 340 = .ok (.putfield 131, 3) := by decide +kernel
theorem dX12_init_343 : decode cX12_init 343 = .ok (.aload_n 0, 1) := by decide +kernel
theorem dX12_init_344 : decode cX12_init 344 = .ok (.sipush 768, 3) := by decide +kernel
theorem dX12_init_347 : decode cX12_init 347 = .ok (.newarray .int, 2) := by decide +kernel
theorem dX12_init_349 : decode cX12_init 349 = .ok (.putfield 134, 3) := by decide +kernel
theorem dX12_init_352 : decode cX12_init 352 = .ok (.aload_n 0, 1) := by decide +kernel
theorem dX12_init_353 : decode cX12_init 353 = .ok (.sipush 768, 3) := by decide +kernel
theorem dX12_init_356 : decode cX12_init 356 = .ok (.newarray .int, 2) := by decide +kernel
theorem dX12_init_358 : decode cX12_init 358 = .ok (.putfield 137, 3) := by decide +kernel
theorem dX12_init_361 : decode cX12_init 361 = .ok (.aload_n 0, 1) := by decide +kernel
theorem dX12_init_362 : decode cX12_init 362 = .ok (.sipush 768, 3) := by decide +kernel
theorem dX12_init_365 : decode cX12_init 365 = .ok (.newarray .boolean, 2) := by decide +kernel
theorem dX12_init_367 : decode cX12_init 367 = .ok (.putfield 140, 3) := by decide +kernel
theorem dX12_init_370 : decode cX12_init 370 = .ok (.aload_n 0, 1) := by decide +kernel
theorem dX12_init_371 : decode cX12_init 371 = .ok (.bipush 16, 2) := by decide +kernel
theorem dX12_init_373 : decode cX12_init 373 = .ok (.newarray .int, 2) := by decide +kernel
theorem dX12_init_375 : decode cX12_init 375 = .ok (.putfield 144, 3) := by decide +kernel
theorem dX12_init_378 : decode cX12_init 378 = .ok (.aload_n 0, 1) := by decide +kernel
theorem dX12_init_379 : decode cX12_init 379 = .ok (.bipush 16, 2) := by decide +kernel
theorem dX12_init_381 : decode cX12_init 381 = .ok (.newarray .int, 2) := by decide +kernel
theorem dX12_init_383 : decode cX12_init 383 = .ok (.putfield 147, 3) := by decide +kernel
theorem dX12_init_386 : decode cX12_init 386 = .ok (.aload_n 0, 1) := by decide +kernel
theorem dX12_init_387 : decode cX12_init 387 = .ok (.iconst 5, 1) := by decide +kernel
theorem dX12_init_388 : decode cX12_init 388 = .ok (.newarray .int, 2) := by decide +kernel
theorem dX12_init_390 : decode cX12_init 390 = .ok (.putfield 150, 3) := by decide +kernel
theorem dX12_init_393 : decode cX12_init 393 = .ok (.aload_n 0, 1) := by decide +kernel
theorem dX12_init_394 : decode cX12_init 394 = .ok (.iconst 5, 1) := by decide +kernel
theorem dX12_init_395 : decode cX12_init 395 = .ok (.newarray .int, 2) := by decide +kernel
theorem dX12_init_397 : decode cX12_init 397 = .ok (.putfield 153, 3) := by decide +kernel
theorem dX12_init_400 : decode cX12_init 400 = .ok (.aload_n 0, 1) := by decide +kernel
theorem dX12_init_401 : decode cX12_init 401 = .ok (.sipush 16000, 3) := by decide +kernel
theorem dX12_init_404 : decode cX12_init 404 = .ok (.newarray .int, 2) := by decide +kernel
theorem dX12_init_406 : decode cX12_init 406 = .ok (.putfield 156, 3) := by decide +kernel
theorem dX12_init_409 : decode cX12_init 409 = .ok (.aload_n 0, 1) := by decide +kernel
theorem dX12_init_410 : decode cX12_init 410 = .ok (.sipush 16000, 3) := by decide +kernel
theorem dX12_init_413 : decode cX12_init 413 = .ok (.newarray .int, 2) := by decide +kernel
theorem dX12_init_415 : decode cX12_init 415 = .ok (.putfield 159, 3) := by decide +kernel
theorem dX12_init_418 : decode cX12_init 418 = .ok (.aload_n 0, 1) := by decide +kernel
theorem dX12_init_419 : decode cX12_init 419 = .ok (.sipush 16000, 3) := by decide +kernel
theorem dX12_init_422 : decode cX12_init 422 = .ok (.newarray .int, 2) := by decide +kernel
theorem dX12_init_424 : decode cX12_init 424 = .ok (.putfield 162, 3) := by decide +kernel
theorem dX12_init_427 : decode cX12_init 427 = .ok (.aload_n 0, 1) := by decide +kernel
theorem dX12_init_428 : decode cX12_init 428 = .ok (.sipush 16000, 3) := by decide +kernel
theorem dX12_init_431 : decode cX12_init 431 = .ok (.newarray .int, 2) := by decide +kernel
theorem dX12_init_433 : decode cX12_init 433 = .ok (.putfield 165, 3) := by decide +kernel
theorem dX12_init_436 : decode cX12_init 436 = .ok (.aload_n 0, 1) := by decide +kernel
theorem dX12_init_437 : decode cX12_init 437 = .ok (.sipush 16000, 3) := by decide +kernel
theorem dX12_init_440 : decode cX12_init 440 = .ok (.newarray .int, 2) := by decide +kernel
theorem dX12_init_442 : decode cX12_init 442 = .ok (.putfield 168, 3) := by decide +kernel
theorem dX12_init_445 : decode cX12_init 445 = .ok (.aload_n 0, 1) := by decide +kernel
theorem dX12_init_446 : decode cX12_init 446 = .ok (.sipush 16000, 3) := by decide +kernel
theorem dX12_init_449 : decode cX12_init 449 = .ok (.newarray .int, 2) := by decide +kernel
theorem dX12_init_451 : decode cX12_init 451 = .ok (.putfield 171, 3) := by decide +kernel
theorem dX12_init_454 : decode cX12_init 454 = .ok (.aload_n 0, 1) := by decide +kernel
theorem dX12_init_455 : decode cX12_init 455 = .ok (.sipush 16000, 3) := by decide +kernel
theorem dX12_init_458 : decode cX12_init 458 = .ok (.newarray .int, 2) := by decide +kernel
theorem dX12_init_460 : decode cX12_init 460 = .ok (.putfield 174, 3) := by decide +kernel
theorem dX12_init_463 : decode cX12_init 463 = .ok (.aload_n 0, 1) := by decide +kernel
theorem dX12_init_464 : decode cX12_init 464 = .ok (.sipush 16000, 3) := by decide +kernel
theorem dX12_init_467 : decode cX12_init 467 = .ok (.newarray .int, 2) := by decide +kernel
theorem dX12_init_469 : decode cX12_init 469 = .ok (.putfield 177, 3) := by decide +kernel
theorem dX12_init_472 : decode cX12_init 472 = .ok (.aload_n 0, 1) := by decide +kernel
theorem dX12_init_473 : decode cX12_init 473 = .ok (.sipush 769, 3) := by decide +kernel
theorem dX12_init_476 : decode cX12_init 476 = .ok (.newarray .int, 2) := by decide +kernel
theorem dX12_init_478 : decode cX12_init 478 = .ok (.putfield 180, 3) := by decide +kernel
theorem dX12_init_481 : decode cX12_init 481 = .ok (.aload_n 0, 1) := by decide +kernel
theorem dX12_init_482 : decode cX12_init 482 = .ok (.sipush 1024, 3) := by decide +kernel
theorem dX12_init_485 : decode cX12_init 485 = .ok (.newarray .int, 2) := by decide +kernel
theorem dX12_init_487 : decode cX12_init 487 = .ok (.putfield 183, 3) := by decide +kernel
theorem dX12_init_490 : decode cX12_init 490 = .ok (.aload_n 0, 1) := by decide +kernel
theorem dX12_init_491 : decode cX12_init 491 = .ok (.sipush 1024, 3) := by decide +kernel
theorem dX12_init_494 : decode cX12_init 494 = .ok (.newarray .int, 2) := by decide +kernel
theorem dX12_init_496 : decode cX12_init 496 = .ok (.putfield 186, 3) := by decide +kernel
theorem dX12_init_499 : decode cX12_init 499 = .ok (.aload_n 0, 1) := by decide +kernel
theorem dX12_init_500 : decode cX12_init 500 = .ok (.sipush 1024, 3) := by decide +kernel
theorem dX12_init_503 : decode cX12_init 503 = .ok (.newarray .int, 2) := by decide +kernel
theorem dX12_init_505 : decode cX12_init 505 = .ok (.putfield 189, 3) := by decide +kernel
theorem dX12_init_508 : decode cX12_init 508 = .ok (.aload_n 0, 1) := by decide +kernel
theorem dX12_init_509 : decode cX12_init 509 = .ok (.sipush 1024, 3) := by decide +kernel
theorem dX12_init_512 : decode cX12_init 512 = .ok (.newarray .int, 2) := by decide +kernel
theorem dX12_init_514 : decode cX12_init 514 = .ok (.putfield 192, 3) := by decide +kernel
theorem dX12_init_517 : decode cX12_init 517 = .ok (.aload_n 0, 1) := by decide +kernel
theorem dX12_init_518 : decode cX12_init 518 = .ok (.sipush 1024, 3) := by decide +kernel
theorem dX12_init_521 : decode cX12_init 521 = .ok (.newarray .int, 2) := by decide +kernel
theorem dX12_init_523 : decode cX12_init 523 = .ok (.putfield 195, 3) := by decide +kernel
theorem dX12_init_526 : decode cX12_init 526 = .ok (.aload_n 0, 1) := by decide +kernel
theorem dX12_init_527 : decode cX12_init 527 = .ok (.sipush 1024, 3) := by decide +kernel
theorem dX12_init_530 : decode cX12_init 530 = .ok (.newarray .int, 2) := by decide +kernel
theorem dX12_init_532 : decode cX12_init 532 = .ok (.putfield 198, 3) := by decide +kernel
theorem dX12_init_535 : decode cX12_init 535 = .ok (.aload_n 0, 1) := by decide +kernel
theorem dX12_init_536 : decode cX12_init 536 = .ok (.sipush 768, 3) := by decide +kernel
theorem dX12_init_539 : decode cX12_init 539 = .ok (.newarray .int, 2) := by decide +kernel
theorem dX12_init_541 : decode cX12_init 541 = .ok (.putfield 201, 3) := by decide +kernel
theorem dX12_init_544 : decode cX12_init 544 = .ok (.aload_n 0, 1) := by decide +kernel
theorem dX12_init_545 : decode cX12_init 545 = .ok (.iconst 5, 1) := by decide +kernel
theorem dX12_init_546 : decode cX12_init 546 = .ok (.newarray .int, 2) := by decide +kernel
theorem dX12_init_548 : decode cX12_init 548 = .ok (.putfield 204, 3) := by decide +kernel
theorem dX12_init_551 : decode cX12_init 551 = .ok (.aload_n 0, 1) := by decide +kernel
theorem dX12_init_552 : decode cX12_init 552 = .ok (.iconst 5, 1) := by decide +kernel
theorem dX12_init_553 : decode cX12_init 553 = .ok (.newarray .int, 2) := by decide +kernel
theorem dX12_init_555 : decode cX12_init 555 = .ok (.putfield 207, 3) := by decide +kernel
theorem dX12_init_558 : decode cX12_init 558 = .ok (.aload_n 0, 1) := by decide +kernel
theorem dX12_init_559 : decode cX12_init 559 = .ok (.sipush 800, 3) := by decide +kernel
theorem dX12_init_562 : decode cX12_init 562 = .ok (.newarray .int, 2) := by decide +kernel
theorem dX12_init_564 : decode cX12_init 564 = .ok (.putfield 210, 3) := by decide +kernel
theorem dX12_init_567 : decode cX12_init 567 = .ok (.aload_n 0, 1) := by decide +kernel
theorem dX12_init_568 : decode cX12_init 568 = .ok (.bipush 60, 2) := by decide +kernel
theorem dX12_init_570 : decode cX12_init 570 = .ok (.putfield 213, 3) := by decide +kernel
theorem dX12_init_573 : decode cX12_init 573 = .ok (.aload_n 0, 1) := by decide +kernel
theorem dX12_init_574 : decode cX12_init 574 = .ok (.bipush 12, 2) := by decide +kernel
theorem dX12_init_576 : decode cX12_init 576 = .ok (.putfield 217, 3) := by decide +kernel
theorem dX12_init_579 : decode cX12_init 579 = .ok (.iconst 0, 1) := by decide +kernel
theorem dX12_init_580 : decode cX12_init 580 = .ok (.istore_n 1, 1) := by decide +kernel
theorem dX12_init_581 : decode cX12_init 581 = .ok (.iload_n 1, 1) := by decide +kernel
theorem dX12_init_582 : decode cX12_init 582 = .ok (.bipush 16, 2) := by decide +kernel
theorem dX12_init_584 : decode cX12_init 584 = .ok (.if_icmp .ge 16, 3) := by decide +kernel
theorem dX12_init_587 : decode cX12_init 587 = .ok (.aload_n 0, 1) := by decide +kernel
theorem dX12_init_588 : decode cX12_init 588 = .ok (.getfield 28, 3) := by decide +kernel
theorem dX12_init_591 : decode cX12_init 591 = .ok (.iload_n 1, 1) := by decide +kernel
theorem dX12_init_592 : decode cX12_init 592 = .ok (.iload_n 1, 1) := by decide +kernel
theorem dX12_init_593 : decode cX12_init 593 = .ok (.iastore, 1) := by decide +kernel
theorem dX12_init_594 : decode cX12_init 594 = .ok (.iinc 1 1, 3) := by decide +kernel
theorem dX12_init_597 : decode cX12_init 597 = .ok (.goto (-16), 3) := by decide +kernel
theorem dX12_init_600 : decode cX12_init 600 = .ok (.iconst 0, 1) := by decide +kernel
theorem dX12_init_601 : decode cX12_init 601 = .ok (.istore_n 1, 1) := by decide +kernel
theorem dX12_init_602 : decode cX12_init 602 = .ok (.iload_n 1, 1) := by decide +kernel
theorem dX12_init_603 : decode cX12_init 603 = .ok (.iconst 5, 1) := by decide +kernel
theorem dX12_init_604 : decode cX12_init 604 = .ok (.if_icmp .ge 16, 3) := by decide +kernel
theorem dX12_init_607 : decode cX12_init 607 = .ok (.aload_n 0, 1) := by decide +kernel
theorem dX12_init_608 : decode cX12_init 608 = .ok (.getfield 13, 3) := by decide +kernel
theorem dX12_init_611 : decode cX12_init 611 = .ok (.iload_n 1, 1) := by decide +kernel
theorem dX12_init_612 : decode cX12_init 612 = .ok (.iconst (-1), 1) := by decide +kernel
theorem dX12_init_613 : decode cX12_init 613 = .ok (.iastore, 1) := by decide +kernel
theorem dX12_init_614 : decode cX12_init 614 = .ok (.iinc 1 1, 3) := by decide +kernel
theorem dX12_init_617 : decode cX12_init 617 = .ok (.goto (-15), 3) := by decide +kernel
theorem dX12_init_620 : decode cX12_init 620 = .ok (.aload_n 0, 1) := by decide +kernel
theorem dX12_init_621 : decode cX12_init 621 = .ok (.iconst (-1), 1) := by decide +kernel
theorem dX12_init_622 : decode cX12_init 622 = .ok (.putfield 220, 3) := by decide +kernel
theorem dX12_init_625 : decode cX12_init 625 = .ok (.return_, 1) := by decide +kernel
set_option maxHeartbeats 4000000 in
set_option maxRecDepth 100000 in
theorem m_init (l : Launch) (dC : Nat → ClassId) (dI : Nat → Nat → Nat) (k : Nat → ClassId) (mo : Nat) : Ct l dC dI k yX12_init (.code yX12_init cX12_init 2 none) ({ frames := 1, cells := 67, slots := 150145, locals := 12 } : Room) [.ref mo] [(mo, .inr (10, [.int 0, .int 0, .null, .null, .int 0, .null, .null, .null, .null, .int 0, .null, .null, .null, .null, .null, .null, .null, .null, .null, .null, .null, .int 0, .null, .null, .int 0, .int 0, .null, .null, .null, .null, .int 0, .null, .null, .null, .null, .null, .null, .null, .int 0, .int 0, .null, .null, .null, .null, .null, .null, .null, .null, .int 0, .null, .null, .null, .null, .null, .null, .null, .null, .int 0, .null, .null, .int 0, .int 0, .int 0, .int 0, .int 0, .int 0, .int 0, .int 0, .int 0, .null, .null, .null, .null, .null, .null, .null, .null, .null, .null, .null, .int 0, .int 0, .int 0, .int 0, .int 0, .null, .null, .null, .null, .null, .null, .null, .null]))] (fun r w => (∃ (V1 : Nat → Value) (aSp : Nat) (aDr : Nat) (aSt : Nat) (aKi : Nat) (aSy : Nat) (aWc : Nat) (aSn : Nat) (aFk : Nat) (aFh : Nat) (aKe : Nat) (aDg : Nat) (aNr : Nat) (aNw : Nat) (aNl : Nat) (aNc : Nat) (aNp : Nat) (aNq : Nat) (aNs : Nat) (aNn : Nat) (aRn : Nat) (aSo : Nat) (aHi : Nat) (gd : Nat → Int32) (gs : Nat → Int32), (∀ j, j < 5 → gd j = -1) ∧ gs 0 = 0 ∧ V1 2 = .ref aSp ∧ V1 3 = .ref aDr ∧ V1 10 = .ref aSt ∧ V1 11 = .ref aKi ∧ V1 12 = .ref aSy ∧ V1 13 = .ref aWc ∧ V1 18 = .ref aSn ∧ V1 22 = .ref aFk ∧ V1 23 = .ref aFh ∧ V1 26 = .ref aKe ∧ V1 47 = .ref aDg ∧ V1 69 = .ref aNr ∧ V1 70 = .ref aNw ∧ V1 71 = .ref aNl ∧ V1 72 = .ref aNc ∧ V1 73 = .ref aNp ∧ V1 74 = .ref aNq ∧ V1 75 = .ref aNs ∧ V1 76 = .ref aNn ∧ V1 77 = .ref aRn ∧ V1 90 = .ref aSo ∧ V1 92 = .ref aHi ∧ V1 1 = .int 0 ∧ V1 4 = .int 0 ∧ V1 9 = .int 0 ∧ V1 21 = .int 0 ∧ V1 24 = .int 60 ∧ V1 25 = .int 12 ∧ V1 80 = .int (-1) ∧ r = none ∧ w = [(mo, .inr (10, fvM V1)), (aSp, .inl (k 0, 6, .inl (fun _ => 0))), (aDr, .inl (k 0, 5, .inl gd)), (aSt, .inl (k 0, 16, .inl gs)), (aKi, .inl (k 0, 16, .inl (fun _ => 0))), (aSy, .inl (k 0, 112, .inl (fun _ => 0))), (aWc, .inl (k 0, 16, .inl (fun _ => 0))), (aSn, .inl (k 0, 192, .inl (fun _ => 0))), (aFk, .inl (k 0, 5, .inl (fun _ => 0))), (aFh, .inl (k 0, 5, .inl (fun _ => 0))), (aKe, .inl (k 0, 8, .inl (fun _ => 0))), (aDg, .inl (k 0, 6, .inl (fun _ => 0))), (aNr, .inl (k 0, 16000, .inl (fun _ => 0))), (aNw, .inl (k 0, 16000, .inl (fun _ => 0))), (aNl, .inl (k 0, 16000, .inl (fun _ => 0))), (aNc, .inl (k 0, 16000, .inl (fun _ => 0))), (aNp, .inl (k 0, 16000, .inl (fun _ => 0))), (aNq, .inl (k 0, 16000, .inl (fun _ => 0))), (aNs, .inl (k 0, 16000, .inl (fun _ => 0))), (aNn, .inl (k 0, 16000, .inl (fun _ => 0))), (aRn, .inl (k 0, 769, .inl (fun _ => 0))), (aSo, .inl (k 0, 5, .inl (fun _ => 0))), (aHi, .inl (k 0, 800, .inl (fun _ => 0)))])) := by
  sorry

end
