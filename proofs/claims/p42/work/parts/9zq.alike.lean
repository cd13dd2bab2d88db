section
theorem vdem_in {T : Nat → Int → Int → Int → Int} {v pl : Int} (hK : TK T) : -2000000001 ≤ v_demerits T v pl ∧ v_demerits T v pl ≤ 2003356800 := by
  have := LDz_in (v := v) (dg := dgN T v) (i := pl) hK
  unfold v_demerits
  split <;> omega

theorem mw_0 : (Jvm.Cond.initialized "GalleyforgeLaw") ∈ gt := gt_at 70 (by decide +kernel) (by decide +kernel)
theorem mw_1266 : (Jvm.Cond.methodLink "GalleyforgeLaw" (183 : Nat) ({ cls := "GalleyforgeLaw", name := "count", desc := "(LGalleyforge;I)I" } : Jvm.MethodName)) ∈ gt := gt_at 1336 (by decide +kernel) (by decide +kernel)
theorem mw_1267 : (Jvm.Cond.static ({ cls := "GalleyforgeLaw", name := "count", desc := "(LGalleyforge;I)I" } : Jvm.MethodName)) ∈ gt := gt_at 1337 (by decide +kernel) (by decide +kernel)
theorem mw_1268 : (Jvm.Cond.codeWith ({ cls := "GalleyforgeLaw", name := "count", desc := "(LGalleyforge;I)I" } : Jvm.MethodName) method_15_code (3 : Nat) (Option.some Jvm.ClassFile.FieldType.int) [((0 : Nat), (5 : Nat), (6 : Nat), (13 : Nat))]) ∈ gt := gt_at 1338 (by decide +kernel) (by decide +kernel)
theorem mw_1280 : (Jvm.Cond.methodLink "GalleyforgeLaw" (188 : Nat) ({ cls := "GalleyforgeLaw", name := "number", desc := "(LGalleyforge;II)I" } : Jvm.MethodName)) ∈ gt := gt_at 1350 (by decide +kernel) (by decide +kernel)
theorem mw_1281 : (Jvm.Cond.static ({ cls := "GalleyforgeLaw", name := "number", desc := "(LGalleyforge;II)I" } : Jvm.MethodName)) ∈ gt := gt_at 1351 (by decide +kernel) (by decide +kernel)
theorem mw_1282 : (Jvm.Cond.codeWith ({ cls := "GalleyforgeLaw", name := "number", desc := "(LGalleyforge;II)I" } : Jvm.MethodName) method_17_code (4 : Nat) (Option.some Jvm.ClassFile.FieldType.int) [((0 : Nat), (6 : Nat), (7 : Nat), (13 : Nat))]) ∈ gt := gt_at 1352 (by decide +kernel) (by decide +kernel)
theorem mw_1309 : (Jvm.Cond.methodLink "GalleyforgeLaw" (190 : Nat) ({ cls := "GalleyforgeLaw", name := "wide", desc := "(LGalleyforge;II)I" } : Jvm.MethodName)) ∈ gt := gt_at 1379 (by decide +kernel) (by decide +kernel)
theorem mw_1310 : (Jvm.Cond.static ({ cls := "GalleyforgeLaw", name := "wide", desc := "(LGalleyforge;II)I" } : Jvm.MethodName)) ∈ gt := gt_at 1380 (by decide +kernel) (by decide +kernel)
theorem mw_1311 : (Jvm.Cond.codeWith ({ cls := "GalleyforgeLaw", name := "wide", desc := "(LGalleyforge;II)I" } : Jvm.MethodName) method_18_code (4 : Nat) (Option.some Jvm.ClassFile.FieldType.int) [((0 : Nat), (6 : Nat), (7 : Nat), (13 : Nat))]) ∈ gt := gt_at 1381 (by decide +kernel) (by decide +kernel)
theorem mw_1348 : (Jvm.Cond.methodLink "GalleyforgeLaw" (193 : Nat) ({ cls := "GalleyforgeLaw", name := "high", desc := "(LGalleyforge;II)I" } : Jvm.MethodName)) ∈ gt := gt_at 1418 (by decide +kernel) (by decide +kernel)
theorem mw_1349 : (Jvm.Cond.static ({ cls := "GalleyforgeLaw", name := "high", desc := "(LGalleyforge;II)I" } : Jvm.MethodName)) ∈ gt := gt_at 1419 (by decide +kernel) (by decide +kernel)
theorem mw_1350 : (Jvm.Cond.codeWith ({ cls := "GalleyforgeLaw", name := "high", desc := "(LGalleyforge;II)I" } : Jvm.MethodName) method_19_code (4 : Nat) (Option.some Jvm.ClassFile.FieldType.int) [((0 : Nat), (6 : Nat), (7 : Nat), (13 : Nat))]) ∈ gt := gt_at 1420 (by decide +kernel) (by decide +kernel)
theorem mw_1360 : (Jvm.Cond.methodLink "GalleyforgeLaw" (196 : Nat) ({ cls := "GalleyforgeLaw", name := "lines", desc := "(LGalleyforge;II)I" } : Jvm.MethodName)) ∈ gt := gt_at 1430 (by decide +kernel) (by decide +kernel)
theorem mw_1361 : (Jvm.Cond.static ({ cls := "GalleyforgeLaw", name := "lines", desc := "(LGalleyforge;II)I" } : Jvm.MethodName)) ∈ gt := gt_at 1431 (by decide +kernel) (by decide +kernel)
theorem mw_1362 : (Jvm.Cond.codeWith ({ cls := "GalleyforgeLaw", name := "lines", desc := "(LGalleyforge;II)I" } : Jvm.MethodName) method_20_code (4 : Nat) (Option.some Jvm.ClassFile.FieldType.int) [((0 : Nat), (6 : Nat), (7 : Nat), (13 : Nat))]) ∈ gt := gt_at 1432 (by decide +kernel) (by decide +kernel)
theorem mw_1694 : (Jvm.Cond.methodLink "GalleyforgeLaw" (203 : Nat) ({ cls := "GalleyforgeLaw", name := "demerits", desc := "(LGalleyforge;II)J" } : Jvm.MethodName)) ∈ gt := gt_at 1764 (by decide +kernel) (by decide +kernel)
theorem mw_1695 : (Jvm.Cond.static ({ cls := "GalleyforgeLaw", name := "demerits", desc := "(LGalleyforge;II)J" } : Jvm.MethodName)) ∈ gt := gt_at 1765 (by decide +kernel) (by decide +kernel)
theorem mw_1696 : (Jvm.Cond.codeWith ({ cls := "GalleyforgeLaw", name := "demerits", desc := "(LGalleyforge;II)J" } : Jvm.MethodName) method_23_code (4 : Nat) (Option.some Jvm.ClassFile.FieldType.long) [((0 : Nat), (6 : Nat), (7 : Nat), (13 : Nat))]) ∈ gt := gt_at 1766 (by decide +kernel) (by decide +kernel)
theorem mw_1721 : (Jvm.Cond.methodLink "GalleyforgeLaw" (209 : Nat) ({ cls := "GalleyforgeLaw", name := "pages", desc := "(LGalleyforge;I)I" } : Jvm.MethodName)) ∈ gt := gt_at 1791 (by decide +kernel) (by decide +kernel)
theorem mw_1722 : (Jvm.Cond.static ({ cls := "GalleyforgeLaw", name := "pages", desc := "(LGalleyforge;I)I" } : Jvm.MethodName)) ∈ gt := gt_at 1792 (by decide +kernel) (by decide +kernel)
theorem mw_1723 : (Jvm.Cond.codeWith ({ cls := "GalleyforgeLaw", name := "pages", desc := "(LGalleyforge;I)I" } : Jvm.MethodName) method_25_code (3 : Nat) (Option.some Jvm.ClassFile.FieldType.int) [((0 : Nat), (5 : Nat), (6 : Nat), (13 : Nat))]) ∈ gt := gt_at 1793 (by decide +kernel) (by decide +kernel)
theorem mw_1728 : (Jvm.Cond.methodLink "GalleyforgeLaw" (211 : Nat) ({ cls := "GalleyforgeLaw", name := "cost", desc := "(LGalleyforge;I)I" } : Jvm.MethodName)) ∈ gt := gt_at 1798 (by decide +kernel) (by decide +kernel)
theorem mw_1729 : (Jvm.Cond.static ({ cls := "GalleyforgeLaw", name := "cost", desc := "(LGalleyforge;I)I" } : Jvm.MethodName)) ∈ gt := gt_at 1799 (by decide +kernel) (by decide +kernel)
theorem mw_1730 : (Jvm.Cond.codeWith ({ cls := "GalleyforgeLaw", name := "cost", desc := "(LGalleyforge;I)I" } : Jvm.MethodName) method_26_code (3 : Nat) (Option.some Jvm.ClassFile.FieldType.int) [((0 : Nat), (5 : Nat), (6 : Nat), (13 : Nat))]) ∈ gt := gt_at 1800 (by decide +kernel) (by decide +kernel)
theorem mw_1742 : (Jvm.Cond.methodLink "GalleyforgeLaw" (215 : Nat) ({ cls := "GalleyforgeLaw", name := "rounds", desc := "(LGalleyforge;I)I" } : Jvm.MethodName)) ∈ gt := gt_at 1812 (by decide +kernel) (by decide +kernel)
theorem mw_1743 : (Jvm.Cond.static ({ cls := "GalleyforgeLaw", name := "rounds", desc := "(LGalleyforge;I)I" } : Jvm.MethodName)) ∈ gt := gt_at 1813 (by decide +kernel) (by decide +kernel)
theorem mw_1744 : (Jvm.Cond.codeWith ({ cls := "GalleyforgeLaw", name := "rounds", desc := "(LGalleyforge;I)I" } : Jvm.MethodName) method_28_code (3 : Nat) (Option.some Jvm.ClassFile.FieldType.int) [((0 : Nat), (5 : Nat), (6 : Nat), (13 : Nat))]) ∈ gt := gt_at 1814 (by decide +kernel) (by decide +kernel)
theorem mw_1749 : (Jvm.Cond.methodLink "GalleyforgeLaw" (217 : Nat) ({ cls := "GalleyforgeLaw", name := "settled", desc := "(LGalleyforge;I)I" } : Jvm.MethodName)) ∈ gt := gt_at 1819 (by decide +kernel) (by decide +kernel)
theorem mw_1750 : (Jvm.Cond.static ({ cls := "GalleyforgeLaw", name := "settled", desc := "(LGalleyforge;I)I" } : Jvm.MethodName)) ∈ gt := gt_at 1820 (by decide +kernel) (by decide +kernel)
theorem mw_1751 : (Jvm.Cond.codeWith ({ cls := "GalleyforgeLaw", name := "settled", desc := "(LGalleyforge;I)I" } : Jvm.MethodName) method_29_code (3 : Nat) (Option.some Jvm.ClassFile.FieldType.int) [((0 : Nat), (13 : Nat), (14 : Nat), (13 : Nat))]) ∈ gt := gt_at 1821 (by decide +kernel) (by decide +kernel)
theorem mw_1791 : (Jvm.Cond.methodLink "GalleyforgeLaw" (226 : Nat) ({ cls := "GalleyforgeLaw", name := "whereIs", desc := "(LGalleyforge;III)I" } : Jvm.MethodName)) ∈ gt := gt_at 1861 (by decide +kernel) (by decide +kernel)
theorem mw_1792 : (Jvm.Cond.static ({ cls := "GalleyforgeLaw", name := "whereIs", desc := "(LGalleyforge;III)I" } : Jvm.MethodName)) ∈ gt := gt_at 1862 (by decide +kernel) (by decide +kernel)
theorem mw_1793 : (Jvm.Cond.codeWith ({ cls := "GalleyforgeLaw", name := "whereIs", desc := "(LGalleyforge;III)I" } : Jvm.MethodName) method_33_code (5 : Nat) (Option.some Jvm.ClassFile.FieldType.int) [((0 : Nat), (7 : Nat), (8 : Nat), (13 : Nat))]) ∈ gt := gt_at 1863 (by decide +kernel) (by decide +kernel)
theorem mw_1799 : (Jvm.Cond.methodLink "GalleyforgeLaw" (228 : Nat) ({ cls := "GalleyforgeLaw", name := "figureAt", desc := "(LGalleyforge;II)I" } : Jvm.MethodName)) ∈ gt := gt_at 1869 (by decide +kernel) (by decide +kernel)
theorem mw_1800 : (Jvm.Cond.static ({ cls := "GalleyforgeLaw", name := "figureAt", desc := "(LGalleyforge;II)I" } : Jvm.MethodName)) ∈ gt := gt_at 1870 (by decide +kernel) (by decide +kernel)
theorem mw_1801 : (Jvm.Cond.codeWith ({ cls := "GalleyforgeLaw", name := "figureAt", desc := "(LGalleyforge;II)I" } : Jvm.MethodName) method_34_code (4 : Nat) (Option.some Jvm.ClassFile.FieldType.int) [((0 : Nat), (6 : Nat), (7 : Nat), (13 : Nat))]) ∈ gt := gt_at 1871 (by decide +kernel) (by decide +kernel)
theorem mw_1807 : (Jvm.Cond.methodLink "GalleyforgeLaw" (230 : Nat) ({ cls := "GalleyforgeLaw", name := "label", desc := "(LGalleyforge;II)I" } : Jvm.MethodName)) ∈ gt := gt_at 1877 (by decide +kernel) (by decide +kernel)
theorem mw_1808 : (Jvm.Cond.static ({ cls := "GalleyforgeLaw", name := "label", desc := "(LGalleyforge;II)I" } : Jvm.MethodName)) ∈ gt := gt_at 1878 (by decide +kernel) (by decide +kernel)
theorem mw_1809 : (Jvm.Cond.codeWith ({ cls := "GalleyforgeLaw", name := "label", desc := "(LGalleyforge;II)I" } : Jvm.MethodName) method_35_code (4 : Nat) (Option.some Jvm.ClassFile.FieldType.int) [((0 : Nat), (6 : Nat), (7 : Nat), (13 : Nat))]) ∈ gt := gt_at 1879 (by decide +kernel) (by decide +kernel)
theorem mw_1815 : (Jvm.Cond.methodLink "GalleyforgeLaw" (233 : Nat) ({ cls := "GalleyforgeLaw", name := "contents", desc := "(LGalleyforge;II)I" } : Jvm.MethodName)) ∈ gt := gt_at 1885 (by decide +kernel) (by decide +kernel)
theorem mw_1816 : (Jvm.Cond.static ({ cls := "GalleyforgeLaw", name := "contents", desc := "(LGalleyforge;II)I" } : Jvm.MethodName)) ∈ gt := gt_at 1886 (by decide +kernel) (by decide +kernel)
theorem mw_1817 : (Jvm.Cond.codeWith ({ cls := "GalleyforgeLaw", name := "contents", desc := "(LGalleyforge;II)I" } : Jvm.MethodName) method_36_code (4 : Nat) (Option.some Jvm.ClassFile.FieldType.int) [((0 : Nat), (6 : Nat), (7 : Nat), (13 : Nat))]) ∈ gt := gt_at 1887 (by decide +kernel) (by decide +kernel)
theorem mw_1827 : (Jvm.Cond.methodLink "GalleyforgeLaw" (236 : Nat) ({ cls := "GalleyforgeLaw", name := "term", desc := "(LGalleyforge;II)I" } : Jvm.MethodName)) ∈ gt := gt_at 1897 (by decide +kernel) (by decide +kernel)
theorem mw_1828 : (Jvm.Cond.static ({ cls := "GalleyforgeLaw", name := "term", desc := "(LGalleyforge;II)I" } : Jvm.MethodName)) ∈ gt := gt_at 1898 (by decide +kernel) (by decide +kernel)
theorem mw_1829 : (Jvm.Cond.codeWith ({ cls := "GalleyforgeLaw", name := "term", desc := "(LGalleyforge;II)I" } : Jvm.MethodName) method_37_code (4 : Nat) (Option.some Jvm.ClassFile.FieldType.int) [((0 : Nat), (6 : Nat), (7 : Nat), (13 : Nat))]) ∈ gt := gt_at 1899 (by decide +kernel) (by decide +kernel)
theorem mw_1843 : (Jvm.Cond.methodLink "GalleyforgeLaw" (239 : Nat) ({ cls := "GalleyforgeLaw", name := "range", desc := "(LGalleyforge;III)I" } : Jvm.MethodName)) ∈ gt := gt_at 1913 (by decide +kernel) (by decide +kernel)
theorem mw_1844 : (Jvm.Cond.static ({ cls := "GalleyforgeLaw", name := "range", desc := "(LGalleyforge;III)I" } : Jvm.MethodName)) ∈ gt := gt_at 1914 (by decide +kernel) (by decide +kernel)
theorem mw_1845 : (Jvm.Cond.codeWith ({ cls := "GalleyforgeLaw", name := "range", desc := "(LGalleyforge;III)I" } : Jvm.MethodName) method_38_code (5 : Nat) (Option.some Jvm.ClassFile.FieldType.int) [((0 : Nat), (7 : Nat), (8 : Nat), (13 : Nat))]) ∈ gt := gt_at 1915 (by decide +kernel) (by decide +kernel)
theorem mw_1870 : (Jvm.Cond.methodLink "GalleyforgeLaw" (245 : Nat) ({ cls := "Galleyforge", name := "blocks", desc := "()I" } : Jvm.MethodName)) ∈ gt := gt_at 1940 (by decide +kernel) (by decide +kernel)
theorem mw_1871 : (Jvm.Cond.instanceMethod ({ cls := "Galleyforge", name := "blocks", desc := "()I" } : Jvm.MethodName)) ∈ gt := gt_at 1941 (by decide +kernel) (by decide +kernel)
theorem mw_1872 : (Jvm.Cond.selects "Galleyforge" ({ cls := "Galleyforge", name := "blocks", desc := "()I" } : Jvm.MethodName) ({ cls := "Galleyforge", name := "blocks", desc := "()I" } : Jvm.MethodName)) ∈ gt := gt_at 1942 (by decide +kernel) (by decide +kernel)
theorem mw_1873 : (Jvm.Cond.code ({ cls := "Galleyforge", name := "blocks", desc := "()I" } : Jvm.MethodName) prog_1_method_16_code (1 : Nat) (Option.some Jvm.ClassFile.FieldType.int)) ∈ gt := gt_at 1943 (by decide +kernel) (by decide +kernel)
theorem mV_X11_blocks : mV yX11_blocks cX11_blocks 1 (some .int) 0 := ⟨⟨mw_1873, mw_1, by decide, by decide, by decide +kernel⟩, mw_1871, mw_1872⟩
theorem mW_L_contents : mW yL_contents cL_contents 4 (some .int) [((0 : Nat), (6 : Nat), (7 : Nat), (13 : Nat))] 3 := ⟨⟨mw_1817, mw_0, by decide, by decide, by decide +kernel⟩, mw_1816⟩
theorem mW_L_cost : mW yL_cost cL_cost 3 (some .int) [((0 : Nat), (5 : Nat), (6 : Nat), (13 : Nat))] 2 := ⟨⟨mw_1730, mw_0, by decide, by decide, by decide +kernel⟩, mw_1729⟩
theorem mW_L_count : mW yL_count cL_count 3 (some .int) [((0 : Nat), (5 : Nat), (6 : Nat), (13 : Nat))] 2 := ⟨⟨mw_1268, mw_0, by decide, by decide, by decide +kernel⟩, mw_1267⟩
theorem mW_L_demerits : mW yL_demerits cL_demerits 4 (some .long) [((0 : Nat), (6 : Nat), (7 : Nat), (13 : Nat))] 3 := ⟨⟨mw_1696, mw_0, by decide, by decide, by decide +kernel⟩, mw_1695⟩
theorem mW_L_figureAt : mW yL_figureAt cL_figureAt 4 (some .int) [((0 : Nat), (6 : Nat), (7 : Nat), (13 : Nat))] 3 := ⟨⟨mw_1801, mw_0, by decide, by decide, by decide +kernel⟩, mw_1800⟩
theorem mW_L_high : mW yL_high cL_high 4 (some .int) [((0 : Nat), (6 : Nat), (7 : Nat), (13 : Nat))] 3 := ⟨⟨mw_1350, mw_0, by decide, by decide, by decide +kernel⟩, mw_1349⟩
theorem mW_L_label : mW yL_label cL_label 4 (some .int) [((0 : Nat), (6 : Nat), (7 : Nat), (13 : Nat))] 3 := ⟨⟨mw_1809, mw_0, by decide, by decide, by decide +kernel⟩, mw_1808⟩
theorem mW_L_lines : mW yL_lines cL_lines 4 (some .int) [((0 : Nat), (6 : Nat), (7 : Nat), (13 : Nat))] 3 := ⟨⟨mw_1362, mw_0, by decide, by decide, by decide +kernel⟩, mw_1361⟩
theorem mW_L_number : mW yL_number cL_number 4 (some .int) [((0 : Nat), (6 : Nat), (7 : Nat), (13 : Nat))] 3 := ⟨⟨mw_1282, mw_0, by decide, by decide, by decide +kernel⟩, mw_1281⟩
theorem mW_L_pages : mW yL_pages cL_pages 3 (some .int) [((0 : Nat), (5 : Nat), (6 : Nat), (13 : Nat))] 2 := ⟨⟨mw_1723, mw_0, by decide, by decide, by decide +kernel⟩, mw_1722⟩
theorem mW_L_range : mW yL_range cL_range 5 (some .int) [((0 : Nat), (7 : Nat), (8 : Nat), (13 : Nat))] 4 := ⟨⟨mw_1845, mw_0, by decide, by decide, by decide +kernel⟩, mw_1844⟩
theorem mW_L_rounds : mW yL_rounds cL_rounds 3 (some .int) [((0 : Nat), (5 : Nat), (6 : Nat), (13 : Nat))] 2 := ⟨⟨mw_1744, mw_0, by decide, by decide, by decide +kernel⟩, mw_1743⟩
theorem mW_L_settled : mW yL_settled cL_settled 3 (some .int) [((0 : Nat), (13 : Nat), (14 : Nat), (13 : Nat))] 2 := ⟨⟨mw_1751, mw_0, by decide, by decide, by decide +kernel⟩, mw_1750⟩
theorem mW_L_term : mW yL_term cL_term 4 (some .int) [((0 : Nat), (6 : Nat), (7 : Nat), (13 : Nat))] 3 := ⟨⟨mw_1829, mw_0, by decide, by decide, by decide +kernel⟩, mw_1828⟩
theorem mW_L_whereIs : mW yL_whereIs cL_whereIs 5 (some .int) [((0 : Nat), (7 : Nat), (8 : Nat), (13 : Nat))] 4 := ⟨⟨mw_1793, mw_0, by decide, by decide, by decide +kernel⟩, mw_1792⟩
theorem mW_L_wide : mW yL_wide cL_wide 4 (some .int) [((0 : Nat), (6 : Nat), (7 : Nat), (13 : Nat))] 3 := ⟨⟨mw_1311, mw_0, by decide, by decide, by decide +kernel⟩, mw_1310⟩
theorem dL_alike_0 : decode cL_alike 0 = .ok (.iload_n 2, 1) := by decide +kernel
theorem dL_alike_1 : decode cL_alike 1 = .ok (.iconst 2, 1) := by decide +kernel
theorem dL_alike_2 : decode cL_alike 2 = .ok (.irem, 1) := by decide +kernel
theorem dL_alike_3 : decode cL_alike 3 = .ok (.istore_n 3, 1) := by decide +kernel
theorem dL_alike_4 : decode cL_alike 4 = .ok (.aload_n 0, 1) := by decide +kernel
theorem dL_alike_5 : decode cL_alike 5 = .ok (.invokevirtual 245, 3) := by decide +kernel
theorem dL_alike_8 : decode cL_alike 8 = .ok (.aload_n 1, 1) := by decide +kernel
theorem dL_alike_9 : decode cL_alike 9 = .ok (.invokevirtual 245, 3) := by decide +kernel
theorem dL_alike_12 : decode cL_alike 12 = .ok (.if_icmp .ne 160, 3) := by decide +kernel
theorem dL_alike_15 : decode cL_alike 15 = .ok (.aload_n 0, 1) := by decide +kernel
theorem dL_alike_16 : decode cL_alike 16 = .ok (.iload_n 3, 1) := by decide +kernel
theorem dL_alike_17 : decode cL_alike 17 = .ok (.invokestatic 209, 3) := by decide +kernel
theorem dL_alike_20 : decode cL_alike 20 = .ok (.aload_n 1, 1) := by decide +kernel
theorem dL_alike_21 : decode cL_alike 21 = .ok (.iload_n 3, 1) := by decide +kernel
theorem dL_alike_22 : decode cL_alike 22 = .ok (.invokestatic 209, 3) := by decide +kernel
theorem dL_alike_25 : decode cL_alike 25 = .ok (.if_icmp .ne 147, 3) := by decide +kernel
theorem dL_alike_28 : decode cL_alike 28 = .ok (.aload_n 0, 1) := by decide +kernel
theorem dL_alike_29 : decode cL_alike 29 = .ok (.iload_n 3, 1) := by decide +kernel
theorem dL_alike_30 : decode cL_alike 30 = .ok (.invokestatic 211, 3) := by decide +kernel
theorem dL_alike_33 : decode cL_alike 33 = .ok (.aload_n 1, 1) := by decide +kernel
theorem dL_alike_34 : decode cL_alike 34 = .ok (.iload_n 3, 1) := by decide +kernel
theorem dL_alike_35 : decode cL_alike 35 = .ok (.invokestatic 211, 3) := by decide +kernel
theorem dL_alike_38 : decode cL_alike 38 = .ok (.if_icmp .ne 134, 3) := by decide +kernel
theorem dL_alike_41 : decode cL_alike 41 = .ok (.aload_n 0, 1) := by decide +kernel
theorem dL_alike_42 : decode cL_alike 42 = .ok (.iload_n 3, 1) := by decide +kernel
theorem dL_alike_43 : decode cL_alike 43 = .ok (.invokestatic 215, 3) := by decide +kernel
theorem dL_alike_46 : decode cL_alike 46 = .ok (.aload_n 1, 1) := by decide +kernel
theorem dL_alike_47 : decode cL_alike 47 = .ok (.iload_n 3, 1) := by decide +kernel
theorem dL_alike_48 : decode cL_alike 48 = .ok (.invokestatic 215, 3) := by decide +kernel
theorem dL_alike_51 : decode cL_alike 51 = .ok (.if_icmp .ne 121, 3) := by decide +kernel
theorem dL_alike_54 : decode cL_alike 54 = .ok (.aload_n 0, 1) := by decide +kernel
theorem dL_alike_55 : decode cL_alike 55 = .ok (.iload_n 3, 1) := by decide +kernel
theorem dL_alike_56 : decode cL_alike 56 = .ok (.invokestatic 217, 3) := by decide +kernel
theorem dL_alike_59 : decode cL_alike 59 = .ok (.aload_n 1, 1) := by decide +kernel
theorem dL_alike_60 : decode cL_alike 60 = .ok (.iload_n 3, 1) := by decide +kernel
theorem dL_alike_61 : decode cL_alike 61 = .ok (.invokestatic 217, 3) := by decide +kernel
theorem dL_alike_64 : decode cL_alike 64 = .ok (.if_icmp .ne 108, 3) := by decide +kernel
theorem dL_alike_67 : decode cL_alike 67 = .ok (.aload_n 0, 1) := by decide +kernel
theorem dL_alike_68 : decode cL_alike 68 = .ok (.iload_n 3, 1) := by decide +kernel
theorem dL_alike_69 : decode cL_alike 69 = .ok (.iload_n 2, 1) := by decide +kernel
theorem dL_alike_70 : decode cL_alike 70 = .ok (.bipush 6, 2) := by decide +kernel
theorem dL_alike_72 : decode cL_alike 72 = .ok (.irem, 1) := by decide +kernel
theorem dL_alike_73 : decode cL_alike 73 = .ok (.invokestatic 230, 3) := by decide +kernel
theorem dL_alike_76 : decode cL_alike 76 = .ok (.aload_n 1, 1) := by decide +kernel
theorem dL_alike_77 : decode cL_alike 77 = .ok (.iload_n 3, 1) := by decide +kernel
theorem dL_alike_78 : decode cL_alike 78 = .ok (.iload_n 2, 1) := by decide +kernel
theorem dL_alike_79 : decode cL_alike 79 = .ok (.bipush 6, 2) := by decide +kernel
theorem dL_alike_81 : decode cL_alike 81 = .ok (.irem, 1) := by decide +kernel
theorem dL_alike_82 : decode cL_alike 82 = .ok (.invokestatic 230, 3) := by decide +kernel
theorem dL_alike_85 : decode cL_alike 85 = .ok (.if_icmp .ne 87, 3) := by decide +kernel
theorem dL_alike_88 : decode cL_alike 88 = .ok (.aload_n 0, 1) := by decide +kernel
theorem dL_alike_89 : decode cL_alike 89 = .ok (.iload_n 3, 1) := by decide +kernel
theorem dL_alike_90 : decode cL_alike 90 = .ok (.iload_n 2, 1) := by decide +kernel
theorem dL_alike_91 : decode cL_alike 91 = .ok (.iconst 3, 1) := by decide +kernel
theorem dL_alike_92 : decode cL_alike 92 = .ok (.irem, 1) := by decide +kernel
theorem dL_alike_93 : decode cL_alike 93 = .ok (.invokestatic 236, 3) := by decide +kernel
theorem dL_alike_96 : decode cL_alike 96 = .ok (.aload_n 1, 1) := by decide +kernel
theorem dL_alike_97 : decode cL_alike 97 = .ok (.iload_n 3, 1) := by decide +kernel
theorem dL_alike_98 : decode cL_alike 98 = .ok (.iload_n 2, 1) := by decide +kernel
theorem dL_alike_99 : decode cL_alike 99 = .ok (.iconst 3, 1) := by decide +kernel
theorem dL_alike_100 : decode cL_alike 100 = .ok (.irem, 1) := by decide +kernel
theorem dL_alike_101 : decode cL_alike 101 = .ok (.invokestatic 236, 3) := by decide +kernel
theorem dL_alike_104 : decode cL_alike 104 = .ok (.if_icmp .ne 68, 3) := by decide +kernel
theorem dL_alike_107 : decode cL_alike 107 = .ok (.aload_n 0, 1) := by decide +kernel
theorem dL_alike_108 : decode cL_alike 108 = .ok (.iload_n 3, 1) := by decide +kernel
theorem dL_alike_109 : decode cL_alike 109 = .ok (.iload_n 2, 1) := by decide +kernel
theorem dL_alike_110 : decode cL_alike 110 = .ok (.bipush 8, 2) := by decide +kernel
theorem dL_alike_112 : decode cL_alike 112 = .ok (.irem, 1) := by decide +kernel
theorem dL_alike_113 : decode cL_alike 113 = .ok (.iconst 0, 1) := by decide +kernel
theorem dL_alike_114 : decode cL_alike 114 = .ok (.invokestatic 239, 3) := by decide +kernel
theorem dL_alike_117 : decode cL_alike 117 = .ok (.aload_n 1, 1) := by decide +kernel
theorem dL_alike_118 : decode cL_alike 118 = .ok (.iload_n 3, 1) := by decide +kernel
theorem dL_alike_119 : decode cL_alike 119 = .ok (.iload_n 2, 1) := by decide +kernel
theorem dL_alike_120 : decode cL_alike 120 = .ok (.bipush 8, 2) := by decide +kernel
theorem dL_alike_122 : decode cL_alike 122 = .ok (.irem, 1) := by decide +kernel
theorem dL_alike_123 : decode cL_alike 123 = .ok (.iconst 0, 1) := by decide +kernel
theorem dL_alike_124 : decode cL_alike 124 = .ok (.invokestatic 239, 3) := by decide +kernel
theorem dL_alike_127 : decode cL_alike 127 = .ok (.if_icmp .ne 45, 3) := by decide +kernel
theorem dL_alike_130 : decode cL_alike 130 = .ok (.aload_n 0, 1) := by decide +kernel
theorem dL_alike_131 : decode cL_alike 131 = .ok (.iload_n 3, 1) := by decide +kernel
theorem dL_alike_132 : decode cL_alike 132 = .ok (.iload_n 2, 1) := by decide +kernel
theorem dL_alike_133 : decode cL_alike 133 = .ok (.iconst 5, 1) := by decide +kernel
theorem dL_alike_134 : decode cL_alike 134 = .ok (.irem, 1) := by decide +kernel
theorem dL_alike_135 : decode cL_alike 135 = .ok (.invokestatic 228, 3) := by decide +kernel
theorem dL_alike_138 : decode cL_alike 138 = .ok (.aload_n 1, 1) := by decide +kernel
theorem dL_alike_139 : decode cL_alike 139 = .ok (.iload_n 3, 1) := by decide +kernel
theorem dL_alike_140 : decode cL_alike 140 = .ok (.iload_n 2, 1) := by decide +kernel
theorem dL_alike_141 : decode cL_alike 141 = .ok (.iconst 5, 1) := by decide +kernel
theorem dL_alike_142 : decode cL_alike 142 = .ok (.irem, 1) := by decide +kernel
theorem dL_alike_143 : decode cL_alike 143 = .ok (.invokestatic 228, 3) := by decide +kernel
theorem dL_alike_146 : decode cL_alike 146 = .ok (.if_icmp .ne 26, 3) := by decide +kernel
theorem dL_alike_149 : decode cL_alike 149 = .ok (.aload_n 0, 1) := by decide +kernel
theorem dL_alike_150 : decode cL_alike 150 = .ok (.iload_n 3, 1) := by decide +kernel
theorem dL_alike_151 : decode cL_alike 151 = .ok (.iload_n 2, 1) := by decide +kernel
theorem dL_alike_152 : decode cL_alike 152 = .ok (.iconst 3, 1) := by decide +kernel
theorem dL_alike_153 : decode cL_alike 153 = .ok (.irem, 1) := by decide +kernel
theorem dL_alike_154 : decode cL_alike 154 = .ok (.invokestatic 233, 3) := by decide +kernel
theorem dL_alike_157 : decode cL_alike 157 = .ok (.aload_n 1, 1) := by decide +kernel
theorem dL_alike_158 : decode cL_alike 158 = .ok (.iload_n 3, 1) := by decide +kernel
theorem dL_alike_159 : decode cL_alike 159 = .ok (.iload_n 2, 1) := by decide +kernel
theorem dL_alike_160 : decode cL_alike 160 = .ok (.iconst 3, 1) := by decide +kernel
theorem dL_alike_161 : decode cL_alike 161 = .ok (.irem, 1) := by decide +kernel
theorem dL_alike_162 : decode cL_alike 162 = .ok (.invokestatic 233, 3) := by decide +kernel
theorem dL_alike_165 : decode cL_alike 165 = .ok (.if_icmp .ne 7, 3) := by decide +kernel
theorem dL_alike_168 : decode cL_alike 168 = .ok (.iconst 1, 1) := by decide +kernel
theorem dL_alike_169 : decode cL_alike 169 = .ok (.goto 4, 3) := by decide +kernel
theorem dL_alike_173 : decode cL_alike 173 = .ok (.istore 4, 2) := by decide +kernel
theorem dL_alike_175 : decode cL_alike 175 = .ok (.iconst 0, 1) := by decide +kernel
theorem dL_alike_176 : decode cL_alike 176 = .ok (.istore 5, 2) := by decide +kernel
theorem dL_alike_178 : decode cL_alike 178 = .ok (.iload 5, 2) := by decide +kernel
theorem dL_alike_180 : decode cL_alike 180 = .ok (.aload_n 0, 1) := by decide +kernel
theorem dL_alike_181 : decode cL_alike 181 = .ok (.invokevirtual 245, 3) := by decide +kernel
theorem dL_alike_184 : decode cL_alike 184 = .ok (.if_icmp .ge 153, 3) := by decide +kernel
theorem dL_alike_187 : decode cL_alike 187 = .ok (.iload 4, 2) := by decide +kernel
theorem dL_alike_189 : decode cL_alike 189 = .ok (.ifCond .eq 148, 3) := by decide +kernel
theorem dL_alike_192 : decode cL_alike 192 = .ok (.aload_n 0, 1) := by decide +kernel
theorem dL_alike_193 : decode cL_alike 193 = .ok (.iload 5, 2) := by decide +kernel
theorem dL_alike_195 : decode cL_alike 195 = .ok (.invokestatic 183, 3) := by decide +kernel
theorem dL_alike_198 : decode cL_alike 198 = .ok (.aload_n 1, 1) := by decide +kernel
theorem dL_alike_199 : decode cL_alike 199 = .ok (.iload 5, 2) := by decide +kernel
theorem dL_alike_201 : decode cL_alike 201 = .ok (.invokestatic 183, 3) := by decide +kernel
theorem dL_alike_204 : decode cL_alike 204 = .ok (.if_icmp .ne 124, 3) := by decide +kernel
theorem dL_alike_207 : decode cL_alike 207 = .ok (.aload_n 0, 1) := by decide +kernel
theorem dL_alike_208 : decode cL_alike 208 = .ok (.iload_n 3, 1) := by decide +kernel
theorem dL_alike_209 : decode cL_alike 209 = .ok (.iload 5, 2) := by decide +kernel
theorem dL_alike_211 : decode cL_alike 211 = .ok (.invokestatic 196, 3) := by decide +kernel
theorem dL_alike_214 : decode cL_alike 214 = .ok (.aload_n 1, 1) := by decide +kernel
theorem dL_alike_215 : decode cL_alike 215 = .ok (.iload_n 3, 1) := by decide +kernel
theorem dL_alike_216 : decode cL_alike 216 = .ok (.iload 5, 2) := by decide +kernel
theorem dL_alike_218 : decode cL_alike 218 = .ok (.invokestatic 196, 3) := by decide +kernel
theorem dL_alike_221 : decode cL_alike 221 = .ok (.if_icmp .ne 107, 3) := by decide +kernel
theorem dL_alike_224 : decode cL_alike 224 = .ok (.aload_n 0, 1) := by decide +kernel
theorem dL_alike_225 : decode cL_alike 225 = .ok (.iload_n 3, 1) := by decide +kernel
theorem dL_alike_226 : decode cL_alike 226 = .ok (.iload 5, 2) := by decide +kernel
theorem dL_alike_228 : decode cL_alike 228 = .ok (.invokestatic 203, 3) := by decide +kernel
theorem dL_alike_231 : decode cL_alike 231 = .ok (.aload_n 1, 1) := by decide +kernel
theorem dL_alike_232 : decode cL_alike 232 = .ok (.iload_n 3, 1) := by decide +kernel
theorem dL_alike_233 : decode cL_alike 233 = .ok (.iload 5, 2) := by decide +kernel
theorem dL_alike_235 : decode cL_alike 235 = .ok (.invokestatic 203, 3) := by decide +kernel
theorem dL_alike_238 : decode cL_alike 238 = .ok (.lcmp, 1) := by decide +kernel
theorem dL_alike_239 : decode cL_alike 239 = .ok (.ifCond .ne 89, 3) := by decide +kernel
theorem dL_alike_242 : decode cL_alike 242 = .ok (.aload_n 0, 1) := by decide +kernel
theorem dL_alike_243 : decode cL_alike 243 = .ok (.iload_n 3, 1) := by decide +kernel
theorem dL_alike_244 : decode cL_alike 244 = .ok (.iload 5, 2) := by decide +kernel
theorem dL_alike_246 : decode cL_alike 246 = .ok (.invokestatic 188, 3) := by decide +kernel
theorem dL_alike_249 : decode cL_alike 249 = .ok (.aload_n 1, 1) := by decide +kernel
theorem dL_alike_250 : decode cL_alike 250 = .ok (.iload_n 3, 1) := by decide +kernel
theorem dL_alike_251 : decode cL_alike 251 = .ok (.iload 5, 2) := by decide +kernel
theorem dL_alike_253 : decode cL_alike 253 = .ok (.invokestatic 188, 3) := by decide +kernel
theorem dL_alike_256 : decode cL_alike 256 = .ok (.if_icmp .ne 72, 3) := by decide +kernel
theorem dL_alike_259 : decode cL_alike 259 = .ok (.aload_n 0, 1) := by decide +kernel
theorem dL_alike_260 : decode cL_alike 260 = .ok (.iload 5, 2) := by decide +kernel
theorem dL_alike_262 : decode cL_alike 262 = .ok (.iload_n 2, 1) := by decide +kernel
theorem dL_alike_263 : decode cL_alike 263 = .ok (.iconst 3, 1) := by decide +kernel
theorem dL_alike_264 : decode cL_alike 264 = .ok (.irem, 1) := by decide +kernel
theorem dL_alike_265 : decode cL_alike 265 = .ok (.invokestatic 190, 3) := by decide +kernel
theorem dL_alike_268 : decode cL_alike 268 = .ok (.aload_n 1, 1) := by decide +kernel
theorem dL_alike_269 : decode cL_alike 269 = .ok (.iload 5, 2) := by decide +kernel
theorem dL_alike_271 : decode cL_alike 271 = .ok (.iload_n 2, 1) := by decide +kernel
theorem dL_alike_272 : decode cL_alike 272 = .ok (.iconst 3, 1) := by decide +kernel
theorem dL_alike_273 : decode cL_alike 273 = .ok (.irem, 1) := by decide +kernel
theorem dL_alike_274 : decode cL_alike 274 = .ok (.invokestatic 190, 3) := by decide +kernel
theorem dL_alike_277 : decode cL_alike 277 = .ok (.if_icmp .ne 51, 3) := by decide +kernel
theorem dL_alike_280 : decode cL_alike 280 = .ok (.aload_n 0, 1) := by decide +kernel
theorem dL_alike_281 : decode cL_alike 281 = .ok (.iload 5, 2) := by decide +kernel
theorem dL_alike_283 : decode cL_alike 283 = .ok (.iload_n 2, 1) := by decide +kernel
theorem dL_alike_284 : decode cL_alike 284 = .ok (.iconst 4, 1) := by decide +kernel
theorem dL_alike_285 : decode cL_alike 285 = .ok (.irem, 1) := by decide +kernel
theorem dL_alike_286 : decode cL_alike 286 = .ok (.invokestatic 193, 3) := by decide +kernel
theorem dL_alike_289 : decode cL_alike 289 = .ok (.aload_n 1, 1) := by decide +kernel
theorem dL_alike_290 : decode cL_alike 290 = .ok (.iload 5, 2) := by decide +kernel
theorem dL_alike_292 : decode cL_alike 292 = .ok (.iload_n 2, 1) := by decide +kernel
theorem dL_alike_293 : decode cL_alike 293 = .ok (.iconst 4, 1) := by decide +kernel
theorem dL_alike_294 : decode cL_alike 294 = .ok (.irem, 1) := by decide +kernel
theorem dL_alike_295 : decode cL_alike 295 = .ok (.invokestatic 193, 3) := by decide +kernel
theorem dL_alike_298 : decode cL_alike 298 = .ok (.if_icmp .ne 30, 3) := by decide +kernel
theorem dL_alike_301 : decode cL_alike 301 = .ok (.aload_n 0, 1) := by decide +kernel
theorem dL_alike_302 : decode cL_alike 302 = .ok (.iload_n 3, 1) := by decide +kernel
theorem dL_alike_303 : decode cL_alike 303 = .ok (.iload 5, 2) := by decide +kernel
theorem dL_alike_305 : decode cL_alike 305 = .ok (.iload_n 2, 1) := by decide +kernel
theorem dL_alike_306 : decode cL_alike 306 = .ok (.iconst 4, 1) := by decide +kernel
theorem dL_alike_307 : decode cL_alike 307 = .ok (.irem, 1) := by decide +kernel
theorem dL_alike_308 : decode cL_alike 308 = .ok (.invokestatic 226, 3) := by decide +kernel
theorem dL_alike_311 : decode cL_alike 311 = .ok (.aload_n 1, 1) := by decide +kernel
theorem dL_alike_312 : decode cL_alike 312 = .ok (.iload_n 3, 1) := by decide +kernel
theorem dL_alike_313 : decode cL_alike 313 = .ok (.iload 5, 2) := by decide +kernel
theorem dL_alike_315 : decode cL_alike 315 = .ok (.iload_n 2, 1) := by decide +kernel
theorem dL_alike_316 : decode cL_alike 316 = .ok (.iconst 4, 1) := by decide +kernel
theorem dL_alike_317 : decode cL_alike 317 = .ok (.irem, 1) := by decide +kernel
theorem dL_alike_318 : decode cL_alike 318 = .ok (.invokestatic 226, 3) := by decide +kernel
theorem dL_alike_321 : decode cL_alike 321 = .ok (.if_icmp .ne 7, 3) := by decide +kernel
theorem dL_alike_324 : decode cL_alike 324 = .ok (.iconst 1, 1) := by decide +kernel
theorem dL_alike_325 : decode cL_alike 325 = .ok (.goto 4, 3) := by decide +kernel
theorem dL_alike_329 : decode cL_alike 329 = .ok (.istore 4, 2) := by decide +kernel
theorem dL_alike_331 : decode cL_alike 331 = .ok (.iinc 5 1, 3) := by decide +kernel
theorem dL_alike_334 : decode cL_alike 334 = .ok (.goto (-156), 3) := by decide +kernel
theorem dL_alike_337 : decode cL_alike 337 = .ok (.iload 4, 2) := by decide +kernel
theorem dL_alike_339 : decode cL_alike 339 = .ok (.ireturn, 1) := by decide +kernel
set_option maxHeartbeats 4000000 in
set_option maxRecDepth 100000 in
theorem g_alike (l : Launch) (dC : Nat → ClassId) (dI : Nat → Nat → Nat) (k : Nat → ClassId) (hl0 : l.stackTraces = false) (T : Nat → Int → Int → Int → Int) (K : Nat → Int → Int) (qa : Nat) (cp : Nat) (qb : Nat) (cq : Nat) (tl : va_W) (xx : Int) (hP2 : P2 dI k T K qa cp T K qb cq tl) (hQ : OKT T K) (hx9 : 0 ≤ xx ∧ xx ≤ 2147483647) : Kn l dC dI k yL_alike (.code yL_alike cL_alike 6 (some .boolean)) ({ frames := 11, cells := (((131072 - cp) + (131072 - cq)) + 400), slots := ((12 * ((131072 - cp) + (131072 - cq))) + 2400), locals := 255 } : Room) [.ref qa, .ref qb, .int (iI xx)] ([] ++ tl) (fun r w gc gs => (∃ (cp2 : Nat) (cq2 : Nat) (tl2 : va_W), (P2 dI k T K qa cp2 T K qb cq2 tl2) ∧ (cp ≤ cp2 ∧ cp2 ≤ 131072) ∧ (cq ≤ cq2 ∧ cq2 ≤ 131072) ∧ r = some (.int (iI 1)) ∧ w = ([] ++ tl2) ∧ gc = (((cp2 - cp) + (cq2 - cq)) + 400) ∧ gs = ((12 * ((cp2 - cp) + (cq2 - cq))) + 2400))) := by
  refine kn_of (by decide) (Nat.le_of_ble_eq_true rfl) ?_
  intro p e s m args below meth c H locs B hr hnm ls hl
  have hx := B.1.1
  have hb := B.1.2.1
  have hl : lv_has ls 6 [(0, .ref qa), (1, .ref qb), (2, .int (iI xx))] := hl
  have hcp9 := P2_cp hP2
  have hn0 := TK_nb hQ.1
  refine lv_iload_n hx hb dL_alike_0 rfl (lv_at hl 2 rfl) ?_
  refine lv_iconst (v := iI 2) hx hb dL_alike_1 (by decide) ?_
  refine y_rem hx hb (a := xx) (b := 2) (by omega) (by omega) dL_alike_2 ?_
  refine lv_istore_n (lv' := [(3, .int (iI (xx % 2))), (0, .ref qa), (1, .ref qb), (2, .int (iI xx))]) hx hb dL_alike_3 rfl hl (by decide) rfl (fun ls hl => ?_)
  refine lv_aload_n hx hb dL_alike_4 rfl (lv_at hl 1 rfl) ?_
  have B := bd_swap (a := []) (b := []) (d := tl) (bd_to rfl B)
  obtain ⟨k_1, hk_1⟩ := pk_at (hs := []) (P2_go1 hP2).choose_spec
  refine k_V (rest := []) (wc := ([] ++ tl)) (wr := []) (g1_blocks l dC dI k T K qa cp T K qb cq tl hP2 hQ) B mV_X11_blocks mw_1870 hl (q0 := k_1) (ci := 11) hk_1 rfl rfl ⟨Nat.le_of_ble_eq_true rfl, Nat.le_of_ble_eq_true rfl⟩ (Nat.le_of_ble_eq_true rfl) rfl dL_alike_5 ⟨by dsimp only; omega, by dsimp only; omega⟩ (fun r w gc gs H locs hp B => ?_)
  obtain ⟨cp2_2, tl2_3, z_4, z_5, rfl, hw9, rfl, rfl⟩ := hp
  rw [hw9] at B; clear hw9
  have B := bd_to (ws' := ([] ++ tl2_3)) rfl B
  have hP2 : P2 dI k T K qa cp2_2 T K qb cq tl2_3 := z_4
  refine W.widen (k := (((cp2_2 - cp) + (cq - cq)) + 1)) (n := ((12 * ((cp2_2 - cp) + (cq - cq))) + 6)) (by omega) (by omega) ?_
  refine lv_aload_n hx hb dL_alike_8 rfl (lv_at hl 2 rfl) ?_
  have B := bd_swap (a := []) (b := []) (d := tl2_3) (bd_to rfl B)
  obtain ⟨k_6, hk_6⟩ := pk_at (hs := []) (P2_go2 hP2).choose_spec
  refine k_V (rest := [.int (iI (T 0 0 0 0))]) (wc := ([] ++ tl2_3)) (wr := []) (g2_blocks l dC dI k T K qa cp2_2 T K qb cq tl2_3 z_4 hQ) B mV_X11_blocks mw_1870 hl (q0 := k_6) (ci := 11) hk_6 rfl rfl ⟨Nat.le_of_ble_eq_true rfl, Nat.le_of_ble_eq_true rfl⟩ (Nat.le_of_ble_eq_true rfl) rfl dL_alike_9 ⟨by dsimp only; omega, by dsimp only; omega⟩ (fun r w gc gs H locs hp B => ?_)
  obtain ⟨cq2_7, tl2_8, z_9, z_10, rfl, hw9, rfl, rfl⟩ := hp
  rw [hw9] at B; clear hw9
  have B := bd_to (ws' := ([] ++ tl2_8)) rfl B
  have hP2 : P2 dI k T K qa cp2_2 T K qb cq2_7 tl2_8 := z_9
  refine W.widen (k := (((cp2_2 - cp) + (cq2_7 - cq)) + 2)) (n := ((12 * ((cp2_2 - cp) + (cq2_7 - cq))) + 12)) (by omega) (by omega) ?_
  refine lv_icmp_ne (tgt := 172) hx hb dL_alike_12 (by decide) (fun c9 => absurd rfl c9) (fun _ => ?_)
  refine lv_aload_n hx hb dL_alike_15 rfl (lv_at hl 1 rfl) ?_
  refine lv_iload_n hx hb dL_alike_16 rfl (lv_at hl 0 rfl) ?_
  have B := bd_swap (a := []) (b := []) (d := tl2_8) (bd_to rfl B)
  refine k_W (rest := []) (wc := ([] ++ tl2_8)) (wr := []) (g1_pages l dC dI k hl0 T K qa cp2_2 T K qb cq2_7 tl2_8 (xx % 2) z_9 hQ (by omega)) B mW_L_pages mw_1721 hl ⟨Nat.le_of_ble_eq_true rfl, Nat.le_of_ble_eq_true rfl⟩ (Nat.le_of_ble_eq_true rfl) rfl dL_alike_17 ⟨by dsimp only; omega, by dsimp only; omega⟩ (fun r w gc gs H locs hp B => ?_)
  obtain ⟨cp2_11, tl2_12, z_13, z_14, rfl, hw9, rfl, rfl⟩ := hp
  rw [hw9] at B; clear hw9
  have B := bd_to (ws' := ([] ++ tl2_12)) rfl B
  have hP2 : P2 dI k T K qa cp2_11 T K qb cq2_7 tl2_12 := z_13
  refine W.widen (k := (((cp2_11 - cp) + (cq2_7 - cq)) + 3)) (n := ((12 * ((cp2_11 - cp) + (cq2_7 - cq))) + 18)) (by omega) (by omega) ?_
  refine lv_aload_n hx hb dL_alike_20 rfl (lv_at hl 2 rfl) ?_
  refine lv_iload_n hx hb dL_alike_21 rfl (lv_at hl 0 rfl) ?_
  have B := bd_swap (a := []) (b := []) (d := tl2_12) (bd_to rfl B)
  refine k_W (rest := [.int (iI (v_pages T (xx % 2)))]) (wc := ([] ++ tl2_12)) (wr := []) (g2_pages l dC dI k hl0 T K qa cp2_11 T K qb cq2_7 tl2_12 (xx % 2) z_13 hQ (by omega)) B mW_L_pages mw_1721 hl ⟨Nat.le_of_ble_eq_true rfl, Nat.le_of_ble_eq_true rfl⟩ (Nat.le_of_ble_eq_true rfl) rfl dL_alike_22 ⟨by dsimp only; omega, by dsimp only; omega⟩ (fun r w gc gs H locs hp B => ?_)
  obtain ⟨cq2_15, tl2_16, z_17, z_18, rfl, hw9, rfl, rfl⟩ := hp
  rw [hw9] at B; clear hw9
  have B := bd_to (ws' := ([] ++ tl2_16)) rfl B
  have hP2 : P2 dI k T K qa cp2_11 T K qb cq2_15 tl2_16 := z_17
  refine W.widen (k := (((cp2_11 - cp) + (cq2_15 - cq)) + 4)) (n := ((12 * ((cp2_11 - cp) + (cq2_15 - cq))) + 24)) (by omega) (by omega) ?_
  refine lv_icmp_ne (tgt := 172) hx hb dL_alike_25 (by decide) (fun c9 => absurd rfl c9) (fun _ => ?_)
  refine lv_aload_n hx hb dL_alike_28 rfl (lv_at hl 1 rfl) ?_
  refine lv_iload_n hx hb dL_alike_29 rfl (lv_at hl 0 rfl) ?_
  have B := bd_swap (a := []) (b := []) (d := tl2_16) (bd_to rfl B)
  refine k_W (rest := []) (wc := ([] ++ tl2_16)) (wr := []) (g1_cost l dC dI k hl0 T K qa cp2_11 T K qb cq2_15 tl2_16 (xx % 2) z_17 hQ (by omega)) B mW_L_cost mw_1728 hl ⟨Nat.le_of_ble_eq_true rfl, Nat.le_of_ble_eq_true rfl⟩ (Nat.le_of_ble_eq_true rfl) rfl dL_alike_30 ⟨by dsimp only; omega, by dsimp only; omega⟩ (fun r w gc gs H locs hp B => ?_)
  obtain ⟨cp2_19, tl2_20, z_21, z_22, rfl, hw9, rfl, rfl⟩ := hp
  rw [hw9] at B; clear hw9
  have B := bd_to (ws' := ([] ++ tl2_20)) rfl B
  have hP2 : P2 dI k T K qa cp2_19 T K qb cq2_15 tl2_20 := z_21
  refine W.widen (k := (((cp2_19 - cp) + (cq2_15 - cq)) + 5)) (n := ((12 * ((cp2_19 - cp) + (cq2_15 - cq))) + 30)) (by omega) (by omega) ?_
  refine lv_aload_n hx hb dL_alike_33 rfl (lv_at hl 2 rfl) ?_
  refine lv_iload_n hx hb dL_alike_34 rfl (lv_at hl 0 rfl) ?_
  have B := bd_swap (a := []) (b := []) (d := tl2_20) (bd_to rfl B)
  refine k_W (rest := [.int (iI (v_cost T (xx % 2)))]) (wc := ([] ++ tl2_20)) (wr := []) (g2_cost l dC dI k hl0 T K qa cp2_19 T K qb cq2_15 tl2_20 (xx % 2) z_21 hQ (by omega)) B mW_L_cost mw_1728 hl ⟨Nat.le_of_ble_eq_true rfl, Nat.le_of_ble_eq_true rfl⟩ (Nat.le_of_ble_eq_true rfl) rfl dL_alike_35 ⟨by dsimp only; omega, by dsimp only; omega⟩ (fun r w gc gs H locs hp B => ?_)
  obtain ⟨cq2_23, tl2_24, z_25, z_26, rfl, hw9, rfl, rfl⟩ := hp
  rw [hw9] at B; clear hw9
  have B := bd_to (ws' := ([] ++ tl2_24)) rfl B
  have hP2 : P2 dI k T K qa cp2_19 T K qb cq2_23 tl2_24 := z_25
  refine W.widen (k := (((cp2_19 - cp) + (cq2_23 - cq)) + 6)) (n := ((12 * ((cp2_19 - cp) + (cq2_23 - cq))) + 36)) (by omega) (by omega) ?_
  refine lv_icmp_ne (tgt := 172) hx hb dL_alike_38 (by decide) (fun c9 => absurd rfl c9) (fun _ => ?_)
  refine lv_aload_n hx hb dL_alike_41 rfl (lv_at hl 1 rfl) ?_
  refine lv_iload_n hx hb dL_alike_42 rfl (lv_at hl 0 rfl) ?_
  have B := bd_swap (a := []) (b := []) (d := tl2_24) (bd_to rfl B)
  refine k_W (rest := []) (wc := ([] ++ tl2_24)) (wr := []) (g1_rounds l dC dI k hl0 T K qa cp2_19 T K qb cq2_23 tl2_24 (xx % 2) z_25 hQ (by omega)) B mW_L_rounds mw_1742 hl ⟨Nat.le_of_ble_eq_true rfl, Nat.le_of_ble_eq_true rfl⟩ (Nat.le_of_ble_eq_true rfl) rfl dL_alike_43 ⟨by dsimp only; omega, by dsimp only; omega⟩ (fun r w gc gs H locs hp B => ?_)
  obtain ⟨cp2_27, tl2_28, z_29, z_30, rfl, hw9, rfl, rfl⟩ := hp
  rw [hw9] at B; clear hw9
  have B := bd_to (ws' := ([] ++ tl2_28)) rfl B
  have hP2 : P2 dI k T K qa cp2_27 T K qb cq2_23 tl2_28 := z_29
  refine W.widen (k := (((cp2_27 - cp) + (cq2_23 - cq)) + 7)) (n := ((12 * ((cp2_27 - cp) + (cq2_23 - cq))) + 42)) (by omega) (by omega) ?_
  refine lv_aload_n hx hb dL_alike_46 rfl (lv_at hl 2 rfl) ?_
  refine lv_iload_n hx hb dL_alike_47 rfl (lv_at hl 0 rfl) ?_
  have B := bd_swap (a := []) (b := []) (d := tl2_28) (bd_to rfl B)
  refine k_W (rest := [.int (iI (v_rounds T (xx % 2)))]) (wc := ([] ++ tl2_28)) (wr := []) (g2_rounds l dC dI k hl0 T K qa cp2_27 T K qb cq2_23 tl2_28 (xx % 2) z_29 hQ (by omega)) B mW_L_rounds mw_1742 hl ⟨Nat.le_of_ble_eq_true rfl, Nat.le_of_ble_eq_true rfl⟩ (Nat.le_of_ble_eq_true rfl) rfl dL_alike_48 ⟨by dsimp only; omega, by dsimp only; omega⟩ (fun r w gc gs H locs hp B => ?_)
  obtain ⟨cq2_31, tl2_32, z_33, z_34, rfl, hw9, rfl, rfl⟩ := hp
  rw [hw9] at B; clear hw9
  have B := bd_to (ws' := ([] ++ tl2_32)) rfl B
  have hP2 : P2 dI k T K qa cp2_27 T K qb cq2_31 tl2_32 := z_33
  refine W.widen (k := (((cp2_27 - cp) + (cq2_31 - cq)) + 8)) (n := ((12 * ((cp2_27 - cp) + (cq2_31 - cq))) + 48)) (by omega) (by omega) ?_
  refine lv_icmp_ne (tgt := 172) hx hb dL_alike_51 (by decide) (fun c9 => absurd rfl c9) (fun _ => ?_)
  refine lv_aload_n hx hb dL_alike_54 rfl (lv_at hl 1 rfl) ?_
  refine lv_iload_n hx hb dL_alike_55 rfl (lv_at hl 0 rfl) ?_
  have B := bd_swap (a := []) (b := []) (d := tl2_32) (bd_to rfl B)
  refine k_W (rest := []) (wc := ([] ++ tl2_32)) (wr := []) (g1_settled l dC dI k hl0 T K qa cp2_27 T K qb cq2_31 tl2_32 (xx % 2) z_33 hQ (by omega)) B mW_L_settled mw_1749 hl ⟨Nat.le_of_ble_eq_true rfl, Nat.le_of_ble_eq_true rfl⟩ (Nat.le_of_ble_eq_true rfl) rfl dL_alike_56 ⟨by dsimp only; omega, by dsimp only; omega⟩ (fun r w gc gs H locs hp B => ?_)
  obtain ⟨cp2_35, tl2_36, z_37, z_38, rfl, hw9, rfl, rfl⟩ := hp
  rw [hw9] at B; clear hw9
  have B := bd_to (ws' := ([] ++ tl2_36)) rfl B
  have hP2 : P2 dI k T K qa cp2_35 T K qb cq2_31 tl2_36 := z_37
  refine W.widen (k := (((cp2_35 - cp) + (cq2_31 - cq)) + 9)) (n := ((12 * ((cp2_35 - cp) + (cq2_31 - cq))) + 54)) (by omega) (by omega) ?_
  refine lv_aload_n hx hb dL_alike_59 rfl (lv_at hl 2 rfl) ?_
  refine lv_iload_n hx hb dL_alike_60 rfl (lv_at hl 0 rfl) ?_
  have B := bd_swap (a := []) (b := []) (d := tl2_36) (bd_to rfl B)
  refine k_W (rest := [.int (iI (v_settled T (xx % 2)))]) (wc := ([] ++ tl2_36)) (wr := []) (g2_settled l dC dI k hl0 T K qa cp2_35 T K qb cq2_31 tl2_36 (xx % 2) z_37 hQ (by omega)) B mW_L_settled mw_1749 hl ⟨Nat.le_of_ble_eq_true rfl, Nat.le_of_ble_eq_true rfl⟩ (Nat.le_of_ble_eq_true rfl) rfl dL_alike_61 ⟨by dsimp only; omega, by dsimp only; omega⟩ (fun r w gc gs H locs hp B => ?_)
  obtain ⟨cq2_39, tl2_40, z_41, z_42, rfl, hw9, rfl, rfl⟩ := hp
  rw [hw9] at B; clear hw9
  have B := bd_to (ws' := ([] ++ tl2_40)) rfl B
  have hP2 : P2 dI k T K qa cp2_35 T K qb cq2_39 tl2_40 := z_41
  refine W.widen (k := (((cp2_35 - cp) + (cq2_39 - cq)) + 10)) (n := ((12 * ((cp2_35 - cp) + (cq2_39 - cq))) + 60)) (by omega) (by omega) ?_
  refine lv_icmp_ne (tgt := 172) hx hb dL_alike_64 (by decide) (fun c9 => absurd rfl c9) (fun _ => ?_)
  refine lv_aload_n hx hb dL_alike_67 rfl (lv_at hl 1 rfl) ?_
  refine lv_iload_n hx hb dL_alike_68 rfl (lv_at hl 0 rfl) ?_
  refine lv_iload_n hx hb dL_alike_69 rfl (lv_at hl 3 rfl) ?_
  refine lv_bipush (v := iI 6) hx hb dL_alike_70 (by decide) ?_
  refine y_rem hx hb (a := xx) (b := 6) (by omega) (by omega) dL_alike_72 ?_
  have B := bd_swap (a := []) (b := []) (d := tl2_40) (bd_to rfl B)
  refine k_W (rest := []) (wc := ([] ++ tl2_40)) (wr := []) (g1_label l dC dI k hl0 T K qa cp2_35 T K qb cq2_39 tl2_40 (xx % 2) (xx % 6) z_41 hQ (by omega) (by omega)) B mW_L_label mw_1807 hl ⟨Nat.le_of_ble_eq_true rfl, Nat.le_of_ble_eq_true rfl⟩ (Nat.le_of_ble_eq_true rfl) rfl dL_alike_73 ⟨by dsimp only; omega, by dsimp only; omega⟩ (fun r w gc gs H locs hp B => ?_)
  obtain ⟨cp2_43, tl2_44, z_45, z_46, rfl, hw9, rfl, rfl⟩ := hp
  rw [hw9] at B; clear hw9
  have B := bd_to (ws' := ([] ++ tl2_44)) rfl B
  have hP2 : P2 dI k T K qa cp2_43 T K qb cq2_39 tl2_44 := z_45
  refine W.widen (k := (((cp2_43 - cp) + (cq2_39 - cq)) + 11)) (n := ((12 * ((cp2_43 - cp) + (cq2_39 - cq))) + 66)) (by omega) (by omega) ?_
  refine lv_aload_n hx hb dL_alike_76 rfl (lv_at hl 2 rfl) ?_
  refine lv_iload_n hx hb dL_alike_77 rfl (lv_at hl 0 rfl) ?_
  refine lv_iload_n hx hb dL_alike_78 rfl (lv_at hl 3 rfl) ?_
  refine lv_bipush (v := iI 6) hx hb dL_alike_79 (by decide) ?_
  refine y_rem hx hb (a := xx) (b := 6) (by omega) (by omega) dL_alike_81 ?_
  have B := bd_swap (a := []) (b := []) (d := tl2_44) (bd_to rfl B)
  refine k_W (rest := [.int (iI (v_label T (xx % 2) (xx % 6)))]) (wc := ([] ++ tl2_44)) (wr := []) (g2_label l dC dI k hl0 T K qa cp2_43 T K qb cq2_39 tl2_44 (xx % 2) (xx % 6) z_45 hQ (by omega) (by omega)) B mW_L_label mw_1807 hl ⟨Nat.le_of_ble_eq_true rfl, Nat.le_of_ble_eq_true rfl⟩ (Nat.le_of_ble_eq_true rfl) rfl dL_alike_82 ⟨by dsimp only; omega, by dsimp only; omega⟩ (fun r w gc gs H locs hp B => ?_)
  obtain ⟨cq2_47, tl2_48, z_49, z_50, rfl, hw9, rfl, rfl⟩ := hp
  rw [hw9] at B; clear hw9
  have B := bd_to (ws' := ([] ++ tl2_48)) rfl B
  have hP2 : P2 dI k T K qa cp2_43 T K qb cq2_47 tl2_48 := z_49
  refine W.widen (k := (((cp2_43 - cp) + (cq2_47 - cq)) + 12)) (n := ((12 * ((cp2_43 - cp) + (cq2_47 - cq))) + 72)) (by omega) (by omega) ?_
  refine lv_icmp_ne (tgt := 172) hx hb dL_alike_85 (by decide) (fun c9 => absurd rfl c9) (fun _ => ?_)
  refine lv_aload_n hx hb dL_alike_88 rfl (lv_at hl 1 rfl) ?_
  refine lv_iload_n hx hb dL_alike_89 rfl (lv_at hl 0 rfl) ?_
  refine lv_iload_n hx hb dL_alike_90 rfl (lv_at hl 3 rfl) ?_
  refine lv_iconst (v := iI 3) hx hb dL_alike_91 (by decide) ?_
  refine y_rem hx hb (a := xx) (b := 3) (by omega) (by omega) dL_alike_92 ?_
  have B := bd_swap (a := []) (b := []) (d := tl2_48) (bd_to rfl B)
  refine k_W (rest := []) (wc := ([] ++ tl2_48)) (wr := []) (g1_term l dC dI k hl0 T K qa cp2_43 T K qb cq2_47 tl2_48 (xx % 2) (xx % 3) z_49 hQ (by omega) (by omega)) B mW_L_term mw_1827 hl ⟨Nat.le_of_ble_eq_true rfl, Nat.le_of_ble_eq_true rfl⟩ (Nat.le_of_ble_eq_true rfl) rfl dL_alike_93 ⟨by dsimp only; omega, by dsimp only; omega⟩ (fun r w gc gs H locs hp B => ?_)
  obtain ⟨cp2_51, tl2_52, z_53, z_54, rfl, hw9, rfl, rfl⟩ := hp
  rw [hw9] at B; clear hw9
  have B := bd_to (ws' := ([] ++ tl2_52)) rfl B
  have hP2 : P2 dI k T K qa cp2_51 T K qb cq2_47 tl2_52 := z_53
  refine W.widen (k := (((cp2_51 - cp) + (cq2_47 - cq)) + 13)) (n := ((12 * ((cp2_51 - cp) + (cq2_47 - cq))) + 78)) (by omega) (by omega) ?_
  refine lv_aload_n hx hb dL_alike_96 rfl (lv_at hl 2 rfl) ?_
  refine lv_iload_n hx hb dL_alike_97 rfl (lv_at hl 0 rfl) ?_
  refine lv_iload_n hx hb dL_alike_98 rfl (lv_at hl 3 rfl) ?_
  refine lv_iconst (v := iI 3) hx hb dL_alike_99 (by decide) ?_
  refine y_rem hx hb (a := xx) (b := 3) (by omega) (by omega) dL_alike_100 ?_
  have B := bd_swap (a := []) (b := []) (d := tl2_52) (bd_to rfl B)
  refine k_W (rest := [.int (iI (v_term T (xx % 2) (xx % 3)))]) (wc := ([] ++ tl2_52)) (wr := []) (g2_term l dC dI k hl0 T K qa cp2_51 T K qb cq2_47 tl2_52 (xx % 2) (xx % 3) z_53 hQ (by omega) (by omega)) B mW_L_term mw_1827 hl ⟨Nat.le_of_ble_eq_true rfl, Nat.le_of_ble_eq_true rfl⟩ (Nat.le_of_ble_eq_true rfl) rfl dL_alike_101 ⟨by dsimp only; omega, by dsimp only; omega⟩ (fun r w gc gs H locs hp B => ?_)
  obtain ⟨cq2_55, tl2_56, z_57, z_58, rfl, hw9, rfl, rfl⟩ := hp
  rw [hw9] at B; clear hw9
  have B := bd_to (ws' := ([] ++ tl2_56)) rfl B
  have hP2 : P2 dI k T K qa cp2_51 T K qb cq2_55 tl2_56 := z_57
  refine W.widen (k := (((cp2_51 - cp) + (cq2_55 - cq)) + 14)) (n := ((12 * ((cp2_51 - cp) + (cq2_55 - cq))) + 84)) (by omega) (by omega) ?_
  refine lv_icmp_ne (tgt := 172) hx hb dL_alike_104 (by decide) (fun c9 => absurd rfl c9) (fun _ => ?_)
  refine lv_aload_n hx hb dL_alike_107 rfl (lv_at hl 1 rfl) ?_
  refine lv_iload_n hx hb dL_alike_108 rfl (lv_at hl 0 rfl) ?_
  refine lv_iload_n hx hb dL_alike_109 rfl (lv_at hl 3 rfl) ?_
  refine lv_bipush (v := iI 8) hx hb dL_alike_110 (by decide) ?_
  refine y_rem hx hb (a := xx) (b := 8) (by omega) (by omega) dL_alike_112 ?_
  refine lv_iconst (v := iI 0) hx hb dL_alike_113 (by decide) ?_
  have B := bd_swap (a := []) (b := []) (d := tl2_56) (bd_to rfl B)
  refine k_W (rest := []) (wc := ([] ++ tl2_56)) (wr := []) (g1_range l dC dI k hl0 T K qa cp2_51 T K qb cq2_55 tl2_56 (xx % 2) (xx % 8) 0 z_57 hQ (by omega) (by omega) (by omega)) B mW_L_range mw_1843 hl ⟨Nat.le_of_ble_eq_true rfl, Nat.le_of_ble_eq_true rfl⟩ (Nat.le_of_ble_eq_true rfl) rfl dL_alike_114 ⟨by dsimp only; omega, by dsimp only; omega⟩ (fun r w gc gs H locs hp B => ?_)
  obtain ⟨cp2_59, tl2_60, z_61, z_62, rfl, hw9, rfl, rfl⟩ := hp
  rw [hw9] at B; clear hw9
  have B := bd_to (ws' := ([] ++ tl2_60)) rfl B
  have hP2 : P2 dI k T K qa cp2_59 T K qb cq2_55 tl2_60 := z_61
  refine W.widen (k := (((cp2_59 - cp) + (cq2_55 - cq)) + 15)) (n := ((12 * ((cp2_59 - cp) + (cq2_55 - cq))) + 90)) (by omega) (by omega) ?_
  refine lv_aload_n hx hb dL_alike_117 rfl (lv_at hl 2 rfl) ?_
  refine lv_iload_n hx hb dL_alike_118 rfl (lv_at hl 0 rfl) ?_
  refine lv_iload_n hx hb dL_alike_119 rfl (lv_at hl 3 rfl) ?_
  refine lv_bipush (v := iI 8) hx hb dL_alike_120 (by decide) ?_
  refine y_rem hx hb (a := xx) (b := 8) (by omega) (by omega) dL_alike_122 ?_
  refine lv_iconst (v := iI 0) hx hb dL_alike_123 (by decide) ?_
  have B := bd_swap (a := []) (b := []) (d := tl2_60) (bd_to rfl B)
  refine k_W (rest := [.int (iI (v_range T (xx % 2) (xx % 8) 0))]) (wc := ([] ++ tl2_60)) (wr := []) (g2_range l dC dI k hl0 T K qa cp2_59 T K qb cq2_55 tl2_60 (xx % 2) (xx % 8) 0 z_61 hQ (by omega) (by omega) (by omega)) B mW_L_range mw_1843 hl ⟨Nat.le_of_ble_eq_true rfl, Nat.le_of_ble_eq_true rfl⟩ (Nat.le_of_ble_eq_true rfl) rfl dL_alike_124 ⟨by dsimp only; omega, by dsimp only; omega⟩ (fun r w gc gs H locs hp B => ?_)
  obtain ⟨cq2_63, tl2_64, z_65, z_66, rfl, hw9, rfl, rfl⟩ := hp
  rw [hw9] at B; clear hw9
  have B := bd_to (ws' := ([] ++ tl2_64)) rfl B
  have hP2 : P2 dI k T K qa cp2_59 T K qb cq2_63 tl2_64 := z_65
  refine W.widen (k := (((cp2_59 - cp) + (cq2_63 - cq)) + 16)) (n := ((12 * ((cp2_59 - cp) + (cq2_63 - cq))) + 96)) (by omega) (by omega) ?_
  refine lv_icmp_ne (tgt := 172) hx hb dL_alike_127 (by decide) (fun c9 => absurd rfl c9) (fun _ => ?_)
  refine lv_aload_n hx hb dL_alike_130 rfl (lv_at hl 1 rfl) ?_
  refine lv_iload_n hx hb dL_alike_131 rfl (lv_at hl 0 rfl) ?_
  refine lv_iload_n hx hb dL_alike_132 rfl (lv_at hl 3 rfl) ?_
  refine lv_iconst (v := iI 5) hx hb dL_alike_133 (by decide) ?_
  refine y_rem hx hb (a := xx) (b := 5) (by omega) (by omega) dL_alike_134 ?_
  have B := bd_swap (a := []) (b := []) (d := tl2_64) (bd_to rfl B)
  refine k_W (rest := []) (wc := ([] ++ tl2_64)) (wr := []) (g1_figureAt l dC dI k hl0 T K qa cp2_59 T K qb cq2_63 tl2_64 (xx % 2) (xx % 5) z_65 hQ (by omega) (by omega)) B mW_L_figureAt mw_1799 hl ⟨Nat.le_of_ble_eq_true rfl, Nat.le_of_ble_eq_true rfl⟩ (Nat.le_of_ble_eq_true rfl) rfl dL_alike_135 ⟨by dsimp only; omega, by dsimp only; omega⟩ (fun r w gc gs H locs hp B => ?_)
  obtain ⟨cp2_67, tl2_68, z_69, z_70, rfl, hw9, rfl, rfl⟩ := hp
  rw [hw9] at B; clear hw9
  have B := bd_to (ws' := ([] ++ tl2_68)) rfl B
  have hP2 : P2 dI k T K qa cp2_67 T K qb cq2_63 tl2_68 := z_69
  refine W.widen (k := (((cp2_67 - cp) + (cq2_63 - cq)) + 17)) (n := ((12 * ((cp2_67 - cp) + (cq2_63 - cq))) + 102)) (by omega) (by omega) ?_
  refine lv_aload_n hx hb dL_alike_138 rfl (lv_at hl 2 rfl) ?_
  refine lv_iload_n hx hb dL_alike_139 rfl (lv_at hl 0 rfl) ?_
  refine lv_iload_n hx hb dL_alike_140 rfl (lv_at hl 3 rfl) ?_
  refine lv_iconst (v := iI 5) hx hb dL_alike_141 (by decide) ?_
  refine y_rem hx hb (a := xx) (b := 5) (by omega) (by omega) dL_alike_142 ?_
  have B := bd_swap (a := []) (b := []) (d := tl2_68) (bd_to rfl B)
  refine k_W (rest := [.int (iI (v_figureAt T (xx % 2) (xx % 5)))]) (wc := ([] ++ tl2_68)) (wr := []) (g2_figureAt l dC dI k hl0 T K qa cp2_67 T K qb cq2_63 tl2_68 (xx % 2) (xx % 5) z_69 hQ (by omega) (by omega)) B mW_L_figureAt mw_1799 hl ⟨Nat.le_of_ble_eq_true rfl, Nat.le_of_ble_eq_true rfl⟩ (Nat.le_of_ble_eq_true rfl) rfl dL_alike_143 ⟨by dsimp only; omega, by dsimp only; omega⟩ (fun r w gc gs H locs hp B => ?_)
  obtain ⟨cq2_71, tl2_72, z_73, z_74, rfl, hw9, rfl, rfl⟩ := hp
  rw [hw9] at B; clear hw9
  have B := bd_to (ws' := ([] ++ tl2_72)) rfl B
  have hP2 : P2 dI k T K qa cp2_67 T K qb cq2_71 tl2_72 := z_73
  refine W.widen (k := (((cp2_67 - cp) + (cq2_71 - cq)) + 18)) (n := ((12 * ((cp2_67 - cp) + (cq2_71 - cq))) + 108)) (by omega) (by omega) ?_
  refine lv_icmp_ne (tgt := 172) hx hb dL_alike_146 (by decide) (fun c9 => absurd rfl c9) (fun _ => ?_)
  refine lv_aload_n hx hb dL_alike_149 rfl (lv_at hl 1 rfl) ?_
  refine lv_iload_n hx hb dL_alike_150 rfl (lv_at hl 0 rfl) ?_
  refine lv_iload_n hx hb dL_alike_151 rfl (lv_at hl 3 rfl) ?_
  refine lv_iconst (v := iI 3) hx hb dL_alike_152 (by decide) ?_
  refine y_rem hx hb (a := xx) (b := 3) (by omega) (by omega) dL_alike_153 ?_
  have B := bd_swap (a := []) (b := []) (d := tl2_72) (bd_to rfl B)
  refine k_W (rest := []) (wc := ([] ++ tl2_72)) (wr := []) (g1_contents l dC dI k hl0 T K qa cp2_67 T K qb cq2_71 tl2_72 (xx % 2) (xx % 3) z_73 hQ (by omega) (by omega)) B mW_L_contents mw_1815 hl ⟨Nat.le_of_ble_eq_true rfl, Nat.le_of_ble_eq_true rfl⟩ (Nat.le_of_ble_eq_true rfl) rfl dL_alike_154 ⟨by dsimp only; omega, by dsimp only; omega⟩ (fun r w gc gs H locs hp B => ?_)
  obtain ⟨cp2_75, tl2_76, z_77, z_78, rfl, hw9, rfl, rfl⟩ := hp
  rw [hw9] at B; clear hw9
  have B := bd_to (ws' := ([] ++ tl2_76)) rfl B
  have hP2 : P2 dI k T K qa cp2_75 T K qb cq2_71 tl2_76 := z_77
  refine W.widen (k := (((cp2_75 - cp) + (cq2_71 - cq)) + 19)) (n := ((12 * ((cp2_75 - cp) + (cq2_71 - cq))) + 114)) (by omega) (by omega) ?_
  refine lv_aload_n hx hb dL_alike_157 rfl (lv_at hl 2 rfl) ?_
  refine lv_iload_n hx hb dL_alike_158 rfl (lv_at hl 0 rfl) ?_
  refine lv_iload_n hx hb dL_alike_159 rfl (lv_at hl 3 rfl) ?_
  refine lv_iconst (v := iI 3) hx hb dL_alike_160 (by decide) ?_
  refine y_rem hx hb (a := xx) (b := 3) (by omega) (by omega) dL_alike_161 ?_
  have B := bd_swap (a := []) (b := []) (d := tl2_76) (bd_to rfl B)
  refine k_W (rest := [.int (iI (v_contents T (xx % 2) (xx % 3)))]) (wc := ([] ++ tl2_76)) (wr := []) (g2_contents l dC dI k hl0 T K qa cp2_75 T K qb cq2_71 tl2_76 (xx % 2) (xx % 3) z_77 hQ (by omega) (by omega)) B mW_L_contents mw_1815 hl ⟨Nat.le_of_ble_eq_true rfl, Nat.le_of_ble_eq_true rfl⟩ (Nat.le_of_ble_eq_true rfl) rfl dL_alike_162 ⟨by dsimp only; omega, by dsimp only; omega⟩ (fun r w gc gs H locs hp B => ?_)
  obtain ⟨cq2_79, tl2_80, z_81, z_82, rfl, hw9, rfl, rfl⟩ := hp
  rw [hw9] at B; clear hw9
  have B := bd_to (ws' := ([] ++ tl2_80)) rfl B
  have hP2 : P2 dI k T K qa cp2_75 T K qb cq2_79 tl2_80 := z_81
  refine W.widen (k := (((cp2_75 - cp) + (cq2_79 - cq)) + 20)) (n := ((12 * ((cp2_75 - cp) + (cq2_79 - cq))) + 120)) (by omega) (by omega) ?_
  refine lv_icmp_ne (tgt := 172) hx hb dL_alike_165 (by decide) (fun c9 => absurd rfl c9) (fun _ => ?_)
  refine lv_iconst (v := iI 1) hx hb dL_alike_168 (by decide) ?_
  refine lv_goto (tgt := 173) hx hb dL_alike_169 (by decide) ?_
  refine lv_istore (lv' := [(4, .int (iI 1)), (3, .int (iI (xx % 2))), (0, .ref qa), (1, .ref qb), (2, .int (iI xx))]) hx hb dL_alike_173 hl (by decide) rfl (fun ls hl => ?_)
  refine lv_iconst (v := iI 0) hx hb dL_alike_175 (by decide) ?_
  refine lv_istore (lv' := [(5, .int (iI 0)), (4, .int (iI 1)), (3, .int (iI (xx % 2))), (0, .ref qa), (1, .ref qb), (2, .int (iI xx))]) hx hb dL_alike_176 hl (by decide) rfl (fun ls hl => ?_)
  refine W.widen (k := (((cp2_75 - cp) + (cq2_79 - cq)) + (21 + 15 * Int.toNat 0))) (n := ((12 * ((cp2_75 - cp) + (cq2_79 - cq))) + (126 + 90 * Int.toNat 0))) (by omega) (by omega) ?_
  refine k_loopG (σ := Int × Nat × Nat × va_W) B (fun g9 : Int × Nat × Nat × va_W => (0 ≤ g9.1 ∧ g9.1 ≤ T 0 0 0 0) ∧ (P2 dI k T K qa g9.2.1 T K qb g9.2.2.1 g9.2.2.2) ∧ (cp ≤ g9.2.1 ∧ g9.2.1 ≤ 131072) ∧ (cq ≤ g9.2.2.1 ∧ g9.2.2.1 ≤ 131072)) (fun g9 : Int × Nat × Nat × va_W => (T 0 0 0 0 - g9.1).toNat) (fun g9 : Int × Nat × Nat × va_W => [(5, .int (iI g9.1)), (4, .int (iI 1)), (3, .int (iI (xx % 2))), (0, .ref qa), (1, .ref qb), (2, .int (iI xx))]) (fun g9 : Int × Nat × Nat × va_W => ([] ++ g9.2.2.2)) (fun g9 : Int × Nat × Nat × va_W => (((g9.2.1 - cp) + (g9.2.2.1 - cq)) + (21 + 15 * Int.toNat g9.1))) (fun g9 : Int × Nat × Nat × va_W => ((12 * ((g9.2.1 - cp) + (g9.2.2.1 - cq))) + (126 + 90 * Int.toNat g9.1))) ?_ (0, cp2_75, cq2_79, tl2_80) ⟨(show 0 ≤ 0 ∧ 0 ≤ T 0 0 0 0 from (by omega)), (show P2 dI k T K qa cp2_75 T K qb cq2_79 tl2_80 from hP2), (show cp ≤ cp2_75 ∧ cp2_75 ≤ 131072 from (by omega)), (show cq ≤ cq2_79 ∧ cq2_79 ≤ 131072 from (by omega))⟩ ls H locs (lv_sub hl [0, 1, 2, 3, 4, 5] rfl) (bd_to rfl B)
  clear hl B
  rintro ⟨kk, cp3, cq3, tl3⟩ ⟨hk, hP2, hc1, hc2⟩ ih_83 ls H locs hl B
  have hk : 0 ≤ kk ∧ kk ≤ T 0 0 0 0 := hk
  have hP2 : P2 dI k T K qa cp3 T K qb cq3 tl3 := hP2
  have hc1 : cp ≤ cp3 ∧ cp3 ≤ 131072 := hc1
  have hc2 : cq ≤ cq3 ∧ cq3 ≤ 131072 := hc2
  show W p l e _ s m args below meth c H locs (((cp3 - cp) + (cq3 - cq)) + (21 + 15 * Int.toNat kk)) ((12 * ((cp3 - cp) + (cq3 - cq))) + (126 + 90 * Int.toNat kk)) _ _
  have hl : lv_has ls 6 [(5, .int (iI kk)), (4, .int (iI 1)), (3, .int (iI (xx % 2))), (0, .ref qa), (1, .ref qb), (2, .int (iI xx))] := hl
  have B := bd_to (ws' := ([] ++ tl3)) rfl B
  refine lv_iload hx hb dL_alike_178 (lv_at hl 0 rfl) ?_
  refine lv_aload_n hx hb dL_alike_180 rfl (lv_at hl 3 rfl) ?_
  have B := bd_swap (a := []) (b := []) (d := tl3) (bd_to rfl B)
  obtain ⟨k_84, hk_84⟩ := pk_at (hs := []) (P2_go1 hP2).choose_spec
  refine k_V (rest := [.int (iI kk)]) (wc := ([] ++ tl3)) (wr := []) (g1_blocks l dC dI k T K qa cp3 T K qb cq3 tl3 hP2 hQ) B mV_X11_blocks mw_1870 hl (q0 := k_84) (ci := 11) hk_84 rfl rfl ⟨Nat.le_of_ble_eq_true rfl, Nat.le_of_ble_eq_true rfl⟩ (Nat.le_of_ble_eq_true rfl) rfl dL_alike_181 ⟨by dsimp only; omega, by dsimp only; omega⟩ (fun r w gc gs H locs hp B => ?_)
  obtain ⟨cp2_85, tl2_86, z_87, z_88, rfl, hw9, rfl, rfl⟩ := hp
  rw [hw9] at B; clear hw9
  have B := bd_to (ws' := ([] ++ tl2_86)) rfl B
  have hP2 : P2 dI k T K qa cp2_85 T K qb cq3 tl2_86 := z_87
  refine W.widen (k := (((cp2_85 - cp) + (cq3 - cq)) + (21 + 15 * Int.toNat kk + 1))) (n := ((12 * ((cp2_85 - cp) + (cq3 - cq))) + (126 + 90 * Int.toNat kk + 6))) (by omega) (by omega) ?_
  refine lv_icmp_ge (tgt := 337) hx hb dL_alike_184 (by decide) (fun c_89 => ?_) (fun c_89 => ?_)
  · have zc_89 : (T 0 0 0 0) ≤ kk := jle (a := (T 0 0 0 0)) (b := kk) (by omega) (by omega) c_89
    refine lv_iload hx hb dL_alike_337 (lv_at hl 1 rfl) ?_
    exact k_zret B hr (by omega) (⟨cp2_85, cq3, tl2_86, hP2, (by omega), hc2, rfl, rfl, rfl, rfl⟩) ⟨(by first | omega | (dsimp only; omega)), (by first | omega | (dsimp only; omega))⟩ ⟨(by first | omega | (dsimp only; omega)), (by first | omega | (dsimp only; omega))⟩ dL_alike_339
  · have zc_89 : kk < (T 0 0 0 0) := jnle (a := (T 0 0 0 0)) (b := kk) (by omega) (by omega) c_89
    refine lv_iload hx hb dL_alike_187 (lv_at hl 1 rfl) ?_
    refine lv_if_eq (tgt := 337) hx hb dL_alike_189 (by decide) (fun c9 => absurd c9 (by decide)) (fun _ => ?_)
    refine lv_aload_n hx hb dL_alike_192 rfl (lv_at hl 3 rfl) ?_
    refine lv_iload hx hb dL_alike_193 (lv_at hl 0 rfl) ?_
    have B := bd_swap (a := []) (b := []) (d := tl2_86) (bd_to rfl B)
    refine k_W (rest := []) (wc := ([] ++ tl2_86)) (wr := []) (g1_count l dC dI k hl0 T K qa cp2_85 T K qb cq3 tl2_86 kk z_87 hQ (by omega)) B mW_L_count mw_1266 hl ⟨Nat.le_of_ble_eq_true rfl, Nat.le_of_ble_eq_true rfl⟩ (Nat.le_of_ble_eq_true rfl) rfl dL_alike_195 ⟨by dsimp only; omega, by dsimp only; omega⟩ (fun r w gc gs H locs hp B => ?_)
    obtain ⟨cp2_90, tl2_91, z_92, z_93, rfl, hw9, rfl, rfl⟩ := hp
    rw [hw9] at B; clear hw9
    have B := bd_to (ws' := ([] ++ tl2_91)) rfl B
    have hP2 : P2 dI k T K qa cp2_90 T K qb cq3 tl2_91 := z_92
    refine W.widen (k := (((cp2_90 - cp) + (cq3 - cq)) + (21 + 15 * Int.toNat kk + 2))) (n := ((12 * ((cp2_90 - cp) + (cq3 - cq))) + (126 + 90 * Int.toNat kk + 12))) (by omega) (by omega) ?_
    refine lv_aload_n hx hb dL_alike_198 rfl (lv_at hl 4 rfl) ?_
    refine lv_iload hx hb dL_alike_199 (lv_at hl 0 rfl) ?_
    have B := bd_swap (a := []) (b := []) (d := tl2_91) (bd_to rfl B)
    refine k_W (rest := [.int (iI (v_count T kk))]) (wc := ([] ++ tl2_91)) (wr := []) (g2_count l dC dI k hl0 T K qa cp2_90 T K qb cq3 tl2_91 kk z_92 hQ (by omega)) B mW_L_count mw_1266 hl ⟨Nat.le_of_ble_eq_true rfl, Nat.le_of_ble_eq_true rfl⟩ (Nat.le_of_ble_eq_true rfl) rfl dL_alike_201 ⟨by dsimp only; omega, by dsimp only; omega⟩ (fun r w gc gs H locs hp B => ?_)
    obtain ⟨cq2_94, tl2_95, z_96, z_97, rfl, hw9, rfl, rfl⟩ := hp
    rw [hw9] at B; clear hw9
    have B := bd_to (ws' := ([] ++ tl2_95)) rfl B
    have hP2 : P2 dI k T K qa cp2_90 T K qb cq2_94 tl2_95 := z_96
    refine W.widen (k := (((cp2_90 - cp) + (cq2_94 - cq)) + (21 + 15 * Int.toNat kk + 3))) (n := ((12 * ((cp2_90 - cp) + (cq2_94 - cq))) + (126 + 90 * Int.toNat kk + 18))) (by omega) (by omega) ?_
    refine lv_icmp_ne (tgt := 328) hx hb dL_alike_204 (by decide) (fun c9 => absurd rfl c9) (fun _ => ?_)
    refine lv_aload_n hx hb dL_alike_207 rfl (lv_at hl 3 rfl) ?_
    refine lv_iload_n hx hb dL_alike_208 rfl (lv_at hl 2 rfl) ?_
    refine lv_iload hx hb dL_alike_209 (lv_at hl 0 rfl) ?_
    have B := bd_swap (a := []) (b := []) (d := tl2_95) (bd_to rfl B)
    refine k_W (rest := []) (wc := ([] ++ tl2_95)) (wr := []) (g1_lines l dC dI k hl0 T K qa cp2_90 T K qb cq2_94 tl2_95 (xx % 2) kk z_96 hQ (by omega) (by omega)) B mW_L_lines mw_1360 hl ⟨Nat.le_of_ble_eq_true rfl, Nat.le_of_ble_eq_true rfl⟩ (Nat.le_of_ble_eq_true rfl) rfl dL_alike_211 ⟨by dsimp only; omega, by dsimp only; omega⟩ (fun r w gc gs H locs hp B => ?_)
    obtain ⟨cp2_98, tl2_99, z_100, z_101, rfl, hw9, rfl, rfl⟩ := hp
    rw [hw9] at B; clear hw9
    have B := bd_to (ws' := ([] ++ tl2_99)) rfl B
    have hP2 : P2 dI k T K qa cp2_98 T K qb cq2_94 tl2_99 := z_100
    refine W.widen (k := (((cp2_98 - cp) + (cq2_94 - cq)) + (21 + 15 * Int.toNat kk + 4))) (n := ((12 * ((cp2_98 - cp) + (cq2_94 - cq))) + (126 + 90 * Int.toNat kk + 24))) (by omega) (by omega) ?_
    refine lv_aload_n hx hb dL_alike_214 rfl (lv_at hl 4 rfl) ?_
    refine lv_iload_n hx hb dL_alike_215 rfl (lv_at hl 2 rfl) ?_
    refine lv_iload hx hb dL_alike_216 (lv_at hl 0 rfl) ?_
    have B := bd_swap (a := []) (b := []) (d := tl2_99) (bd_to rfl B)
    refine k_W (rest := [.int (iI (v_lines T (xx % 2) kk))]) (wc := ([] ++ tl2_99)) (wr := []) (g2_lines l dC dI k hl0 T K qa cp2_98 T K qb cq2_94 tl2_99 (xx % 2) kk z_100 hQ (by omega) (by omega)) B mW_L_lines mw_1360 hl ⟨Nat.le_of_ble_eq_true rfl, Nat.le_of_ble_eq_true rfl⟩ (Nat.le_of_ble_eq_true rfl) rfl dL_alike_218 ⟨by dsimp only; omega, by dsimp only; omega⟩ (fun r w gc gs H locs hp B => ?_)
    obtain ⟨cq2_102, tl2_103, z_104, z_105, rfl, hw9, rfl, rfl⟩ := hp
    rw [hw9] at B; clear hw9
    have B := bd_to (ws' := ([] ++ tl2_103)) rfl B
    have hP2 : P2 dI k T K qa cp2_98 T K qb cq2_102 tl2_103 := z_104
    refine W.widen (k := (((cp2_98 - cp) + (cq2_102 - cq)) + (21 + 15 * Int.toNat kk + 5))) (n := ((12 * ((cp2_98 - cp) + (cq2_102 - cq))) + (126 + 90 * Int.toNat kk + 30))) (by omega) (by omega) ?_
    refine lv_icmp_ne (tgt := 328) hx hb dL_alike_221 (by decide) (fun c9 => absurd rfl c9) (fun _ => ?_)
    refine lv_aload_n hx hb dL_alike_224 rfl (lv_at hl 3 rfl) ?_
    refine lv_iload_n hx hb dL_alike_225 rfl (lv_at hl 2 rfl) ?_
    refine lv_iload hx hb dL_alike_226 (lv_at hl 0 rfl) ?_
    have B := bd_swap (a := []) (b := []) (d := tl2_103) (bd_to rfl B)
    refine k_W (rest := []) (wc := ([] ++ tl2_103)) (wr := []) (g1_demerits l dC dI k hl0 T K qa cp2_98 T K qb cq2_102 tl2_103 (xx % 2) kk z_104 hQ (by omega) (by omega)) B mW_L_demerits mw_1694 hl ⟨Nat.le_of_ble_eq_true rfl, Nat.le_of_ble_eq_true rfl⟩ (Nat.le_of_ble_eq_true rfl) rfl dL_alike_228 ⟨by dsimp only; omega, by dsimp only; omega⟩ (fun r w gc gs H locs hp B => ?_)
    obtain ⟨cp2_106, tl2_107, z_108, z_109, rfl, hw9, rfl, rfl⟩ := hp
    rw [hw9] at B; clear hw9
    have B := bd_to (ws' := ([] ++ tl2_107)) rfl B
    have hP2 : P2 dI k T K qa cp2_106 T K qb cq2_102 tl2_107 := z_108
    refine W.widen (k := (((cp2_106 - cp) + (cq2_102 - cq)) + (21 + 15 * Int.toNat kk + 6))) (n := ((12 * ((cp2_106 - cp) + (cq2_102 - cq))) + (126 + 90 * Int.toNat kk + 36))) (by omega) (by omega) ?_
    refine lv_aload_n hx hb dL_alike_231 rfl (lv_at hl 4 rfl) ?_
    refine lv_iload_n hx hb dL_alike_232 rfl (lv_at hl 2 rfl) ?_
    refine lv_iload hx hb dL_alike_233 (lv_at hl 0 rfl) ?_
    have B := bd_swap (a := []) (b := []) (d := tl2_107) (bd_to rfl B)
    refine k_W (rest := [.long (lI (v_demerits T (xx % 2) kk))]) (wc := ([] ++ tl2_107)) (wr := []) (g2_demerits l dC dI k hl0 T K qa cp2_106 T K qb cq2_102 tl2_107 (xx % 2) kk z_108 hQ (by omega) (by omega)) B mW_L_demerits mw_1694 hl ⟨Nat.le_of_ble_eq_true rfl, Nat.le_of_ble_eq_true rfl⟩ (Nat.le_of_ble_eq_true rfl) rfl dL_alike_235 ⟨by dsimp only; omega, by dsimp only; omega⟩ (fun r w gc gs H locs hp B => ?_)
    obtain ⟨cq2_110, tl2_111, z_112, z_113, rfl, hw9, rfl, rfl⟩ := hp
    rw [hw9] at B; clear hw9
    have B := bd_to (ws' := ([] ++ tl2_111)) rfl B
    have hP2 : P2 dI k T K qa cp2_106 T K qb cq2_110 tl2_111 := z_112
    refine W.widen (k := (((cp2_106 - cp) + (cq2_110 - cq)) + (21 + 15 * Int.toNat kk + 7))) (n := ((12 * ((cp2_106 - cp) + (cq2_110 - cq))) + (126 + 90 * Int.toNat kk + 42))) (by omega) (by omega) ?_
    have z_114 : -2000000001 ≤ (v_demerits T (xx % 2) kk) ∧ (v_demerits T (xx % 2) kk) ≤ 2003356800 := vdem_in hQ.1
    refine y_lcmp B (a := (v_demerits T (xx % 2) kk)) (b := (v_demerits T (xx % 2) kk)) (by omega) (by omega) dL_alike_238 ?_
    refine lv_seti (y := iI 0) (congrArg iI (show cmpZ (v_demerits T (xx % 2) kk) (v_demerits T (xx % 2) kk) = 0 from cmpZ_s)) ?_
    refine lv_if_ne (tgt := 328) hx hb dL_alike_239 (by decide) (fun c9 => absurd c9 (by decide)) (fun _ => ?_)
    refine lv_aload_n hx hb dL_alike_242 rfl (lv_at hl 3 rfl) ?_
    refine lv_iload_n hx hb dL_alike_243 rfl (lv_at hl 2 rfl) ?_
    refine lv_iload hx hb dL_alike_244 (lv_at hl 0 rfl) ?_
    have B := bd_swap (a := []) (b := []) (d := tl2_111) (bd_to rfl B)
    refine k_W (rest := []) (wc := ([] ++ tl2_111)) (wr := []) (g1_number l dC dI k hl0 T K qa cp2_106 T K qb cq2_110 tl2_111 (xx % 2) kk z_112 hQ (by omega) (by omega)) B mW_L_number mw_1280 hl ⟨Nat.le_of_ble_eq_true rfl, Nat.le_of_ble_eq_true rfl⟩ (Nat.le_of_ble_eq_true rfl) rfl dL_alike_246 ⟨by dsimp only; omega, by dsimp only; omega⟩ (fun r w gc gs H locs hp B => ?_)
    obtain ⟨cp2_115, tl2_116, z_117, z_118, rfl, hw9, rfl, rfl⟩ := hp
    rw [hw9] at B; clear hw9
    have B := bd_to (ws' := ([] ++ tl2_116)) rfl B
    have hP2 : P2 dI k T K qa cp2_115 T K qb cq2_110 tl2_116 := z_117
    refine W.widen (k := (((cp2_115 - cp) + (cq2_110 - cq)) + (21 + 15 * Int.toNat kk + 8))) (n := ((12 * ((cp2_115 - cp) + (cq2_110 - cq))) + (126 + 90 * Int.toNat kk + 48))) (by omega) (by omega) ?_
    refine lv_aload_n hx hb dL_alike_249 rfl (lv_at hl 4 rfl) ?_
    refine lv_iload_n hx hb dL_alike_250 rfl (lv_at hl 2 rfl) ?_
    refine lv_iload hx hb dL_alike_251 (lv_at hl 0 rfl) ?_
    have B := bd_swap (a := []) (b := []) (d := tl2_116) (bd_to rfl B)
    refine k_W (rest := [.int (iI (v_number T (xx % 2) kk))]) (wc := ([] ++ tl2_116)) (wr := []) (g2_number l dC dI k hl0 T K qa cp2_115 T K qb cq2_110 tl2_116 (xx % 2) kk z_117 hQ (by omega) (by omega)) B mW_L_number mw_1280 hl ⟨Nat.le_of_ble_eq_true rfl, Nat.le_of_ble_eq_true rfl⟩ (Nat.le_of_ble_eq_true rfl) rfl dL_alike_253 ⟨by dsimp only; omega, by dsimp only; omega⟩ (fun r w gc gs H locs hp B => ?_)
    obtain ⟨cq2_119, tl2_120, z_121, z_122, rfl, hw9, rfl, rfl⟩ := hp
    rw [hw9] at B; clear hw9
    have B := bd_to (ws' := ([] ++ tl2_120)) rfl B
    have hP2 : P2 dI k T K qa cp2_115 T K qb cq2_119 tl2_120 := z_121
    refine W.widen (k := (((cp2_115 - cp) + (cq2_119 - cq)) + (21 + 15 * Int.toNat kk + 9))) (n := ((12 * ((cp2_115 - cp) + (cq2_119 - cq))) + (126 + 90 * Int.toNat kk + 54))) (by omega) (by omega) ?_
    refine lv_icmp_ne (tgt := 328) hx hb dL_alike_256 (by decide) (fun c9 => absurd rfl c9) (fun _ => ?_)
    refine lv_aload_n hx hb dL_alike_259 rfl (lv_at hl 3 rfl) ?_
    refine lv_iload hx hb dL_alike_260 (lv_at hl 0 rfl) ?_
    refine lv_iload_n hx hb dL_alike_262 rfl (lv_at hl 5 rfl) ?_
    refine lv_iconst (v := iI 3) hx hb dL_alike_263 (by decide) ?_
    refine y_rem hx hb (a := xx) (b := 3) (by omega) (by omega) dL_alike_264 ?_
    have B := bd_swap (a := []) (b := []) (d := tl2_120) (bd_to rfl B)
    refine k_W (rest := []) (wc := ([] ++ tl2_120)) (wr := []) (g1_wide l dC dI k hl0 T K qa cp2_115 T K qb cq2_119 tl2_120 kk (xx % 3) z_121 hQ (by omega) (by omega)) B mW_L_wide mw_1309 hl ⟨Nat.le_of_ble_eq_true rfl, Nat.le_of_ble_eq_true rfl⟩ (Nat.le_of_ble_eq_true rfl) rfl dL_alike_265 ⟨by dsimp only; omega, by dsimp only; omega⟩ (fun r w gc gs H locs hp B => ?_)
    obtain ⟨cp2_123, tl2_124, z_125, z_126, rfl, hw9, rfl, rfl⟩ := hp
    rw [hw9] at B; clear hw9
    have B := bd_to (ws' := ([] ++ tl2_124)) rfl B
    have hP2 : P2 dI k T K qa cp2_123 T K qb cq2_119 tl2_124 := z_125
    refine W.widen (k := (((cp2_123 - cp) + (cq2_119 - cq)) + (21 + 15 * Int.toNat kk + 10))) (n := ((12 * ((cp2_123 - cp) + (cq2_119 - cq))) + (126 + 90 * Int.toNat kk + 60))) (by omega) (by omega) ?_
    refine lv_aload_n hx hb dL_alike_268 rfl (lv_at hl 4 rfl) ?_
    refine lv_iload hx hb dL_alike_269 (lv_at hl 0 rfl) ?_
    refine lv_iload_n hx hb dL_alike_271 rfl (lv_at hl 5 rfl) ?_
    refine lv_iconst (v := iI 3) hx hb dL_alike_272 (by decide) ?_
    refine y_rem hx hb (a := xx) (b := 3) (by omega) (by omega) dL_alike_273 ?_
    have B := bd_swap (a := []) (b := []) (d := tl2_124) (bd_to rfl B)
    refine k_W (rest := [.int (iI (v_wide T kk (xx % 3)))]) (wc := ([] ++ tl2_124)) (wr := []) (g2_wide l dC dI k hl0 T K qa cp2_123 T K qb cq2_119 tl2_124 kk (xx % 3) z_125 hQ (by omega) (by omega)) B mW_L_wide mw_1309 hl ⟨Nat.le_of_ble_eq_true rfl, Nat.le_of_ble_eq_true rfl⟩ (Nat.le_of_ble_eq_true rfl) rfl dL_alike_274 ⟨by dsimp only; omega, by dsimp only; omega⟩ (fun r w gc gs H locs hp B => ?_)
    obtain ⟨cq2_127, tl2_128, z_129, z_130, rfl, hw9, rfl, rfl⟩ := hp
    rw [hw9] at B; clear hw9
    have B := bd_to (ws' := ([] ++ tl2_128)) rfl B
    have hP2 : P2 dI k T K qa cp2_123 T K qb cq2_127 tl2_128 := z_129
    refine W.widen (k := (((cp2_123 - cp) + (cq2_127 - cq)) + (21 + 15 * Int.toNat kk + 11))) (n := ((12 * ((cp2_123 - cp) + (cq2_127 - cq))) + (126 + 90 * Int.toNat kk + 66))) (by omega) (by omega) ?_
    refine lv_icmp_ne (tgt := 328) hx hb dL_alike_277 (by decide) (fun c9 => absurd rfl c9) (fun _ => ?_)
    refine lv_aload_n hx hb dL_alike_280 rfl (lv_at hl 3 rfl) ?_
    refine lv_iload hx hb dL_alike_281 (lv_at hl 0 rfl) ?_
    refine lv_iload_n hx hb dL_alike_283 rfl (lv_at hl 5 rfl) ?_
    refine lv_iconst (v := iI 4) hx hb dL_alike_284 (by decide) ?_
    refine y_rem hx hb (a := xx) (b := 4) (by omega) (by omega) dL_alike_285 ?_
    have B := bd_swap (a := []) (b := []) (d := tl2_128) (bd_to rfl B)
    refine k_W (rest := []) (wc := ([] ++ tl2_128)) (wr := []) (g1_high l dC dI k hl0 T K qa cp2_123 T K qb cq2_127 tl2_128 kk (xx % 4) z_129 hQ (by omega) (by omega)) B mW_L_high mw_1348 hl ⟨Nat.le_of_ble_eq_true rfl, Nat.le_of_ble_eq_true rfl⟩ (Nat.le_of_ble_eq_true rfl) rfl dL_alike_286 ⟨by dsimp only; omega, by dsimp only; omega⟩ (fun r w gc gs H locs hp B => ?_)
    obtain ⟨cp2_131, tl2_132, z_133, z_134, rfl, hw9, rfl, rfl⟩ := hp
    rw [hw9] at B; clear hw9
    have B := bd_to (ws' := ([] ++ tl2_132)) rfl B
    have hP2 : P2 dI k T K qa cp2_131 T K qb cq2_127 tl2_132 := z_133
    refine W.widen (k := (((cp2_131 - cp) + (cq2_127 - cq)) + (21 + 15 * Int.toNat kk + 12))) (n := ((12 * ((cp2_131 - cp) + (cq2_127 - cq))) + (126 + 90 * Int.toNat kk + 72))) (by omega) (by omega) ?_
    refine lv_aload_n hx hb dL_alike_289 rfl (lv_at hl 4 rfl) ?_
    refine lv_iload hx hb dL_alike_290 (lv_at hl 0 rfl) ?_
    refine lv_iload_n hx hb dL_alike_292 rfl (lv_at hl 5 rfl) ?_
    refine lv_iconst (v := iI 4) hx hb dL_alike_293 (by decide) ?_
    refine y_rem hx hb (a := xx) (b := 4) (by omega) (by omega) dL_alike_294 ?_
    have B := bd_swap (a := []) (b := []) (d := tl2_132) (bd_to rfl B)
    refine k_W (rest := [.int (iI (v_high T kk (xx % 4)))]) (wc := ([] ++ tl2_132)) (wr := []) (g2_high l dC dI k hl0 T K qa cp2_131 T K qb cq2_127 tl2_132 kk (xx % 4) z_133 hQ (by omega) (by omega)) B mW_L_high mw_1348 hl ⟨Nat.le_of_ble_eq_true rfl, Nat.le_of_ble_eq_true rfl⟩ (Nat.le_of_ble_eq_true rfl) rfl dL_alike_295 ⟨by dsimp only; omega, by dsimp only; omega⟩ (fun r w gc gs H locs hp B => ?_)
    obtain ⟨cq2_135, tl2_136, z_137, z_138, rfl, hw9, rfl, rfl⟩ := hp
    rw [hw9] at B; clear hw9
    have B := bd_to (ws' := ([] ++ tl2_136)) rfl B
    have hP2 : P2 dI k T K qa cp2_131 T K qb cq2_135 tl2_136 := z_137
    refine W.widen (k := (((cp2_131 - cp) + (cq2_135 - cq)) + (21 + 15 * Int.toNat kk + 13))) (n := ((12 * ((cp2_131 - cp) + (cq2_135 - cq))) + (126 + 90 * Int.toNat kk + 78))) (by omega) (by omega) ?_
    refine lv_icmp_ne (tgt := 328) hx hb dL_alike_298 (by decide) (fun c9 => absurd rfl c9) (fun _ => ?_)
    refine lv_aload_n hx hb dL_alike_301 rfl (lv_at hl 3 rfl) ?_
    refine lv_iload_n hx hb dL_alike_302 rfl (lv_at hl 2 rfl) ?_
    refine lv_iload hx hb dL_alike_303 (lv_at hl 0 rfl) ?_
    refine lv_iload_n hx hb dL_alike_305 rfl (lv_at hl 5 rfl) ?_
    refine lv_iconst (v := iI 4) hx hb dL_alike_306 (by decide) ?_
    refine y_rem hx hb (a := xx) (b := 4) (by omega) (by omega) dL_alike_307 ?_
    have B := bd_swap (a := []) (b := []) (d := tl2_136) (bd_to rfl B)
    refine k_W (rest := []) (wc := ([] ++ tl2_136)) (wr := []) (g1_whereIs l dC dI k hl0 T K qa cp2_131 T K qb cq2_135 tl2_136 (xx % 2) kk (xx % 4) z_137 hQ (by omega) (by omega) (by omega)) B mW_L_whereIs mw_1791 hl ⟨Nat.le_of_ble_eq_true rfl, Nat.le_of_ble_eq_true rfl⟩ (Nat.le_of_ble_eq_true rfl) rfl dL_alike_308 ⟨by dsimp only; omega, by dsimp only; omega⟩ (fun r w gc gs H locs hp B => ?_)
    obtain ⟨cp2_139, tl2_140, z_141, z_142, rfl, hw9, rfl, rfl⟩ := hp
    rw [hw9] at B; clear hw9
    have B := bd_to (ws' := ([] ++ tl2_140)) rfl B
    have hP2 : P2 dI k T K qa cp2_139 T K qb cq2_135 tl2_140 := z_141
    refine W.widen (k := (((cp2_139 - cp) + (cq2_135 - cq)) + (21 + 15 * Int.toNat kk + 14))) (n := ((12 * ((cp2_139 - cp) + (cq2_135 - cq))) + (126 + 90 * Int.toNat kk + 84))) (by omega) (by omega) ?_
    refine lv_aload_n hx hb dL_alike_311 rfl (lv_at hl 4 rfl) ?_
    refine lv_iload_n hx hb dL_alike_312 rfl (lv_at hl 2 rfl) ?_
    refine lv_iload hx hb dL_alike_313 (lv_at hl 0 rfl) ?_
    refine lv_iload_n hx hb dL_alike_315 rfl (lv_at hl 5 rfl) ?_
    refine lv_iconst (v := iI 4) hx hb dL_alike_316 (by decide) ?_
    refine y_rem hx hb (a := xx) (b := 4) (by omega) (by omega) dL_alike_317 ?_
    have B := bd_swap (a := []) (b := []) (d := tl2_140) (bd_to rfl B)
    refine k_W (rest := [.int (iI (v_whereIs T (xx % 2) kk (xx % 4)))]) (wc := ([] ++ tl2_140)) (wr := []) (g2_whereIs l dC dI k hl0 T K qa cp2_139 T K qb cq2_135 tl2_140 (xx % 2) kk (xx % 4) z_141 hQ (by omega) (by omega) (by omega)) B mW_L_whereIs mw_1791 hl ⟨Nat.le_of_ble_eq_true rfl, Nat.le_of_ble_eq_true rfl⟩ (Nat.le_of_ble_eq_true rfl) rfl dL_alike_318 ⟨by dsimp only; omega, by dsimp only; omega⟩ (fun r w gc gs H locs hp B => ?_)
    obtain ⟨cq2_143, tl2_144, z_145, z_146, rfl, hw9, rfl, rfl⟩ := hp
    rw [hw9] at B; clear hw9
    have B := bd_to (ws' := ([] ++ tl2_144)) rfl B
    have hP2 : P2 dI k T K qa cp2_139 T K qb cq2_143 tl2_144 := z_145
    refine W.widen (k := (((cp2_139 - cp) + (cq2_143 - cq)) + (21 + 15 * Int.toNat kk + 15))) (n := ((12 * ((cp2_139 - cp) + (cq2_143 - cq))) + (126 + 90 * Int.toNat kk + 90))) (by omega) (by omega) ?_
    refine lv_icmp_ne (tgt := 328) hx hb dL_alike_321 (by decide) (fun c9 => absurd rfl c9) (fun _ => ?_)
    refine lv_iconst (v := iI 1) hx hb dL_alike_324 (by decide) ?_
    refine lv_goto (tgt := 329) hx hb dL_alike_325 (by decide) ?_
    refine lv_istore (lv' := [(4, .int (iI 1)), (5, .int (iI kk)), (3, .int (iI (xx % 2))), (0, .ref qa), (1, .ref qb), (2, .int (iI xx))]) hx hb dL_alike_329 hl (by decide) rfl (fun ls hl => ?_)
    refine lv_iinc (v := iI (kk + 1)) (lv' := [(5, .int (iI (kk + 1))), (4, .int (iI 1)), (3, .int (iI (xx % 2))), (0, .ref qa), (1, .ref qb), (2, .int (iI xx))]) hx hb dL_alike_331 hl (k := 1) rfl (iI_add _ _) (by decide) rfl (fun ls hl => ?_)
    refine lv_goto (tgt := 178) hx hb dL_alike_334 (by decide) ?_
    refine W.widen (k := (((cp2_139 - cp) + (cq2_143 - cq)) + (21 + 15 * Int.toNat (kk + 1)))) (n := ((12 * ((cp2_139 - cp) + (cq2_143 - cq))) + (126 + 90 * Int.toNat (kk + 1)))) (by omega) (by omega) ?_
    exact ih_83 ((kk + 1), cp2_139, cq2_143, tl2_144) ⟨(show 0 ≤ (kk + 1) ∧ (kk + 1) ≤ T 0 0 0 0 from (by omega)), (show P2 dI k T K qa cp2_139 T K qb cq2_143 tl2_144 from hP2), (show cp ≤ cp2_139 ∧ cp2_139 ≤ 131072 from (by omega)), (show cq ≤ cq2_143 ∧ cq2_143 ≤ 131072 from (by omega))⟩ (by first | omega | (dsimp only; omega)) _ _ _ (lv_sub hl [0, 1, 2, 3, 4, 5] rfl) (bd_to rfl B)

end
