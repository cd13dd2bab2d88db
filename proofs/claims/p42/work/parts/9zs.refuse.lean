section
section RFL
variable {T : Nat → Int → Int → Int → Int} {M : Nat → Int → Int} {v ix : Int} {f : Int → Int}
theorem haF_ix : ∀ (n : Nat) (q a : Int), haF T v ix n q a ≠ -1 → a ≤ ix ∧ ix < a + n
  | 0, _, _, h => absurd rfl h
  | n + 1, q, a, h => by
    simp only [haF] at h
    split at h
    · split at h
      · omega
      · have := haF_ix n (q + 1) (a + 1) h
        omega
    · have := haF_ix n (q + 1) a h
      omega
theorem haZ_out (hK : TK T) (h : ix < 0 ∨ 16 ≤ ix) : haZ T v ix = -1 := by
  have hn := TK_nb hK
  by_cases e : haZ T v ix = -1
  · exact e
  · have := haF_ix (Int.toNat (T 0 0 0 0)) 0 0 e
    omega
theorem taF_le {t : Int} : ∀ n : Nat, (0 ≤ taF T M t n ∧ taF T M t n ≤ n) ∧ (0 ≤ t → t < n → taF T M t n ≤ (n : Int) - 1)
  | 0 => by simp only [taF]; omega
  | n + 1 => by
    have ih := taF_le (t := t) n
    simp only [taF]
    split
    · rename_i g
      refine ⟨by omega, fun h1 h2 => ?_⟩
      have hne : (n : Int) ≠ t := by
        intro e
        rw [e] at g
        omega
      have := ih.2 h1 (by omega)
      omega
    · omega
theorem tmF_at : ∀ (n : Nat) (t : Int), 0 ≤ t → t + n ≤ 8 → tmF T M ix n t ≠ -1 → 0 ≤ ix ∧ ix ≤ 7
  | 0, _, _, _, h => absurd rfl h
  | n + 1, t, h1, h2, h => by
    simp only [tmF] at h
    split at h
    · rename_i g
      have := taF_le (T := T) (M := M) (t := t) 8
      omega
    · exact tmF_at n (t + 1) (by omega) (by omega) h
theorem tmF_out (h : ix < 0 ∨ 8 ≤ ix) : tmF T M ix 8 0 = -1 := by
  by_cases e : tmF T M ix 8 0 = -1
  · exact e
  · have := tmF_at 8 0 (by omega) (by omega) e
    omega
theorem rgF_out (h : ix < 0) : ∀ (n : Nat) (p a fi : Int), 0 ≤ a → rgF f ix n p a fi = -1
  | 0, _, _, _, _ => rfl
  | n + 1, p, a, fi, ha => by
    simp only [rgF]
    split
    · exact rgF_out h n _ _ _ ha
    · split
      · rw [if_neg (by omega)]
        exact rgF_out h n _ _ _ (by omega)
      · exact rgF_out h n _ _ _ ha
theorem rgZ_out {n : Int} (h : ix < 0) : rgZ f ix n = -1 := rgF_out h _ _ _ _ (by omega)
end RFL

theorem mw_498 : (Jvm.Cond.methodLink "GalleyforgeLaw" (139 : Nat) ({ cls := "GalleyforgeLaw", name := "spells", desc := "(LGalleyforge;I)I" } : Jvm.MethodName)) ∈ gt := gt_at 568 (by decide +kernel) (by decide +kernel)
theorem mw_499 : (Jvm.Cond.static ({ cls := "GalleyforgeLaw", name := "spells", desc := "(LGalleyforge;I)I" } : Jvm.MethodName)) ∈ gt := gt_at 569 (by decide +kernel) (by decide +kernel)
theorem mw_500 : (Jvm.Cond.codeWith ({ cls := "GalleyforgeLaw", name := "spells", desc := "(LGalleyforge;I)I" } : Jvm.MethodName) method_2_code (3 : Nat) (Option.some Jvm.ClassFile.FieldType.int) [((0 : Nat), (5 : Nat), (6 : Nat), (13 : Nat)), ((0 : Nat), (5 : Nat), (10 : Nat), (16 : Nat))]) ∈ gt := gt_at 570 (by decide +kernel) (by decide +kernel)
theorem mw_595 : (Jvm.Cond.methodLink "GalleyforgeLaw" (145 : Nat) ({ cls := "GalleyforgeLaw", name := "marks", desc := "(LGalleyforge;II)I" } : Jvm.MethodName)) ∈ gt := gt_at 665 (by decide +kernel) (by decide +kernel)
theorem mw_596 : (Jvm.Cond.static ({ cls := "GalleyforgeLaw", name := "marks", desc := "(LGalleyforge;II)I" } : Jvm.MethodName)) ∈ gt := gt_at 666 (by decide +kernel) (by decide +kernel)
theorem mw_597 : (Jvm.Cond.codeWith ({ cls := "GalleyforgeLaw", name := "marks", desc := "(LGalleyforge;II)I" } : Jvm.MethodName) method_3_code (4 : Nat) (Option.some Jvm.ClassFile.FieldType.int) [((0 : Nat), (6 : Nat), (7 : Nat), (13 : Nat)), ((0 : Nat), (6 : Nat), (11 : Nat), (23 : Nat))]) ∈ gt := gt_at 667 (by decide +kernel) (by decide +kernel)
theorem mw_628 : (Jvm.Cond.methodLink "GalleyforgeLaw" (149 : Nat) ({ cls := "GalleyforgeLaw", name := "patterns", desc := "(LGalleyforge;II)I" } : Jvm.MethodName)) ∈ gt := gt_at 698 (by decide +kernel) (by decide +kernel)
theorem mw_629 : (Jvm.Cond.static ({ cls := "GalleyforgeLaw", name := "patterns", desc := "(LGalleyforge;II)I" } : Jvm.MethodName)) ∈ gt := gt_at 699 (by decide +kernel) (by decide +kernel)
theorem mw_630 : (Jvm.Cond.codeWith ({ cls := "GalleyforgeLaw", name := "patterns", desc := "(LGalleyforge;II)I" } : Jvm.MethodName) method_4_code (4 : Nat) (Option.some Jvm.ClassFile.FieldType.int) [((0 : Nat), (6 : Nat), (7 : Nat), (23 : Nat)), ((0 : Nat), (6 : Nat), (11 : Nat), (16 : Nat))]) ∈ gt := gt_at 700 (by decide +kernel) (by decide +kernel)
theorem mw_777 : (Jvm.Cond.methodLink "GalleyforgeLaw" (152 : Nat) ({ cls := "GalleyforgeLaw", name := "words", desc := "(LGalleyforge;II)I" } : Jvm.MethodName)) ∈ gt := gt_at 847 (by decide +kernel) (by decide +kernel)
theorem mw_778 : (Jvm.Cond.static ({ cls := "GalleyforgeLaw", name := "words", desc := "(LGalleyforge;II)I" } : Jvm.MethodName)) ∈ gt := gt_at 848 (by decide +kernel) (by decide +kernel)
theorem mw_779 : (Jvm.Cond.codeWith ({ cls := "GalleyforgeLaw", name := "words", desc := "(LGalleyforge;II)I" } : Jvm.MethodName) method_5_code (4 : Nat) (Option.some Jvm.ClassFile.FieldType.int) [((0 : Nat), (6 : Nat), (7 : Nat), (13 : Nat)), ((0 : Nat), (6 : Nat), (11 : Nat), (16 : Nat))]) ∈ gt := gt_at 849 (by decide +kernel) (by decide +kernel)
theorem mw_1090 : (Jvm.Cond.methodLink "GalleyforgeLaw" (154 : Nat) ({ cls := "GalleyforgeLaw", name := "refers", desc := "(LGalleyforge;III)I" } : Jvm.MethodName)) ∈ gt := gt_at 1160 (by decide +kernel) (by decide +kernel)
theorem mw_1091 : (Jvm.Cond.static ({ cls := "GalleyforgeLaw", name := "refers", desc := "(LGalleyforge;III)I" } : Jvm.MethodName)) ∈ gt := gt_at 1161 (by decide +kernel) (by decide +kernel)
theorem mw_1092 : (Jvm.Cond.codeWith ({ cls := "GalleyforgeLaw", name := "refers", desc := "(LGalleyforge;III)I" } : Jvm.MethodName) method_6_code (5 : Nat) (Option.some Jvm.ClassFile.FieldType.int) [((0 : Nat), (7 : Nat), (8 : Nat), (13 : Nat)), ((0 : Nat), (7 : Nat), (13 : Nat), (16 : Nat))]) ∈ gt := gt_at 1162 (by decide +kernel) (by decide +kernel)
theorem mw_1101 : (Jvm.Cond.methodLink "GalleyforgeLaw" (158 : Nat) ({ cls := "GalleyforgeLaw", name := "takes", desc := "(LGalleyforge;II)I" } : Jvm.MethodName)) ∈ gt := gt_at 1171 (by decide +kernel) (by decide +kernel)
theorem mw_1102 : (Jvm.Cond.static ({ cls := "GalleyforgeLaw", name := "takes", desc := "(LGalleyforge;II)I" } : Jvm.MethodName)) ∈ gt := gt_at 1172 (by decide +kernel) (by decide +kernel)
theorem mw_1103 : (Jvm.Cond.codeWith ({ cls := "GalleyforgeLaw", name := "takes", desc := "(LGalleyforge;II)I" } : Jvm.MethodName) method_7_code (4 : Nat) (Option.some Jvm.ClassFile.FieldType.int) [((0 : Nat), (6 : Nat), (7 : Nat), (13 : Nat))]) ∈ gt := gt_at 1173 (by decide +kernel) (by decide +kernel)
theorem mw_1120 : (Jvm.Cond.methodLink "GalleyforgeLaw" (161 : Nat) ({ cls := "GalleyforgeLaw", name := "blocks", desc := "(LGalleyforge;II)I" } : Jvm.MethodName)) ∈ gt := gt_at 1190 (by decide +kernel) (by decide +kernel)
theorem mw_1121 : (Jvm.Cond.static ({ cls := "GalleyforgeLaw", name := "blocks", desc := "(LGalleyforge;II)I" } : Jvm.MethodName)) ∈ gt := gt_at 1191 (by decide +kernel) (by decide +kernel)
theorem mw_1122 : (Jvm.Cond.codeWith ({ cls := "GalleyforgeLaw", name := "blocks", desc := "(LGalleyforge;II)I" } : Jvm.MethodName) method_8_code (4 : Nat) (Option.some Jvm.ClassFile.FieldType.int) [((0 : Nat), (6 : Nat), (7 : Nat), (13 : Nat)), ((0 : Nat), (6 : Nat), (11 : Nat), (23 : Nat)), ((0 : Nat), (6 : Nat), (15 : Nat), (16 : Nat))]) ∈ gt := gt_at 1192 (by decide +kernel) (by decide +kernel)
theorem mw_1197 : (Jvm.Cond.methodLink "GalleyforgeLaw" (164 : Nat) ({ cls := "GalleyforgeLaw", name := "removes", desc := "(LGalleyforge;I)I" } : Jvm.MethodName)) ∈ gt := gt_at 1267 (by decide +kernel) (by decide +kernel)
theorem mw_1198 : (Jvm.Cond.static ({ cls := "GalleyforgeLaw", name := "removes", desc := "(LGalleyforge;I)I" } : Jvm.MethodName)) ∈ gt := gt_at 1268 (by decide +kernel) (by decide +kernel)
theorem mw_1199 : (Jvm.Cond.codeWith ({ cls := "GalleyforgeLaw", name := "removes", desc := "(LGalleyforge;I)I" } : Jvm.MethodName) method_9_code (3 : Nat) (Option.some Jvm.ClassFile.FieldType.int) [((0 : Nat), (5 : Nat), (6 : Nat), (13 : Nat))]) ∈ gt := gt_at 1269 (by decide +kernel) (by decide +kernel)
theorem mw_1204 : (Jvm.Cond.methodLink "GalleyforgeLaw" (167 : Nat) ({ cls := "GalleyforgeLaw", name := "styles", desc := "(LGalleyforge;III)I" } : Jvm.MethodName)) ∈ gt := gt_at 1274 (by decide +kernel) (by decide +kernel)
theorem mw_1205 : (Jvm.Cond.static ({ cls := "GalleyforgeLaw", name := "styles", desc := "(LGalleyforge;III)I" } : Jvm.MethodName)) ∈ gt := gt_at 1275 (by decide +kernel) (by decide +kernel)
theorem mw_1206 : (Jvm.Cond.codeWith ({ cls := "GalleyforgeLaw", name := "styles", desc := "(LGalleyforge;III)I" } : Jvm.MethodName) method_10_code (5 : Nat) (Option.some Jvm.ClassFile.FieldType.int) [((0 : Nat), (7 : Nat), (8 : Nat), (13 : Nat)), ((0 : Nat), (7 : Nat), (13 : Nat), (23 : Nat))]) ∈ gt := gt_at 1276 (by decide +kernel) (by decide +kernel)
theorem mw_1219 : (Jvm.Cond.methodLink "GalleyforgeLaw" (170 : Nat) ({ cls := "GalleyforgeLaw", name := "cells", desc := "(LGalleyforge;IIIIII)I" } : Jvm.MethodName)) ∈ gt := gt_at 1289 (by decide +kernel) (by decide +kernel)
theorem mw_1220 : (Jvm.Cond.static ({ cls := "GalleyforgeLaw", name := "cells", desc := "(LGalleyforge;IIIIII)I" } : Jvm.MethodName)) ∈ gt := gt_at 1290 (by decide +kernel) (by decide +kernel)
theorem mw_1221 : (Jvm.Cond.codeWith ({ cls := "GalleyforgeLaw", name := "cells", desc := "(LGalleyforge;IIIIII)I" } : Jvm.MethodName) method_11_code (8 : Nat) (Option.some Jvm.ClassFile.FieldType.int) [((0 : Nat), (13 : Nat), (14 : Nat), (13 : Nat)), ((0 : Nat), (13 : Nat), (19 : Nat), (23 : Nat)), ((0 : Nat), (13 : Nat), (24 : Nat), (16 : Nat))]) ∈ gt := gt_at 1291 (by decide +kernel) (by decide +kernel)
theorem mw_1237 : (Jvm.Cond.methodLink "GalleyforgeLaw" (174 : Nat) ({ cls := "GalleyforgeLaw", name := "figures", desc := "(LGalleyforge;II)I" } : Jvm.MethodName)) ∈ gt := gt_at 1307 (by decide +kernel) (by decide +kernel)
theorem mw_1238 : (Jvm.Cond.static ({ cls := "GalleyforgeLaw", name := "figures", desc := "(LGalleyforge;II)I" } : Jvm.MethodName)) ∈ gt := gt_at 1308 (by decide +kernel) (by decide +kernel)
theorem mw_1239 : (Jvm.Cond.codeWith ({ cls := "GalleyforgeLaw", name := "figures", desc := "(LGalleyforge;II)I" } : Jvm.MethodName) method_12_code (4 : Nat) (Option.some Jvm.ClassFile.FieldType.int) [((0 : Nat), (6 : Nat), (7 : Nat), (23 : Nat)), ((0 : Nat), (6 : Nat), (11 : Nat), (16 : Nat))]) ∈ gt := gt_at 1309 (by decide +kernel) (by decide +kernel)
theorem mw_1246 : (Jvm.Cond.methodLink "GalleyforgeLaw" (177 : Nat) ({ cls := "GalleyforgeLaw", name := "papers", desc := "(LGalleyforge;II)I" } : Jvm.MethodName)) ∈ gt := gt_at 1316 (by decide +kernel) (by decide +kernel)
theorem mw_1247 : (Jvm.Cond.static ({ cls := "GalleyforgeLaw", name := "papers", desc := "(LGalleyforge;II)I" } : Jvm.MethodName)) ∈ gt := gt_at 1317 (by decide +kernel) (by decide +kernel)
theorem mw_1248 : (Jvm.Cond.codeWith ({ cls := "GalleyforgeLaw", name := "papers", desc := "(LGalleyforge;II)I" } : Jvm.MethodName) method_13_code (4 : Nat) (Option.some Jvm.ClassFile.FieldType.int) [((0 : Nat), (6 : Nat), (7 : Nat), (23 : Nat))]) ∈ gt := gt_at 1318 (by decide +kernel) (by decide +kernel)
theorem mw_1254 : (Jvm.Cond.methodLink "GalleyforgeLaw" (180 : Nat) ({ cls := "GalleyforgeLaw", name := "keys", desc := "(LGalleyforge;II)I" } : Jvm.MethodName)) ∈ gt := gt_at 1324 (by decide +kernel) (by decide +kernel)
theorem mw_1255 : (Jvm.Cond.static ({ cls := "GalleyforgeLaw", name := "keys", desc := "(LGalleyforge;II)I" } : Jvm.MethodName)) ∈ gt := gt_at 1325 (by decide +kernel) (by decide +kernel)
theorem mw_1256 : (Jvm.Cond.codeWith ({ cls := "GalleyforgeLaw", name := "keys", desc := "(LGalleyforge;II)I" } : Jvm.MethodName) method_14_code (4 : Nat) (Option.some Jvm.ClassFile.FieldType.int) [((0 : Nat), (6 : Nat), (7 : Nat), (13 : Nat)), ((0 : Nat), (6 : Nat), (11 : Nat), (23 : Nat))]) ∈ gt := gt_at 1326 (by decide +kernel) (by decide +kernel)
theorem mw_1273 : (Jvm.Cond.methodLink "GalleyforgeLaw" (186 : Nat) ({ cls := "GalleyforgeLaw", name := "gaps", desc := "(LGalleyforge;II)I" } : Jvm.MethodName)) ∈ gt := gt_at 1343 (by decide +kernel) (by decide +kernel)
theorem mw_1274 : (Jvm.Cond.static ({ cls := "GalleyforgeLaw", name := "gaps", desc := "(LGalleyforge;II)I" } : Jvm.MethodName)) ∈ gt := gt_at 1344 (by decide +kernel) (by decide +kernel)
theorem mw_1275 : (Jvm.Cond.codeWith ({ cls := "GalleyforgeLaw", name := "gaps", desc := "(LGalleyforge;II)I" } : Jvm.MethodName) method_16_code (4 : Nat) (Option.some Jvm.ClassFile.FieldType.int) [((0 : Nat), (6 : Nat), (7 : Nat), (13 : Nat))]) ∈ gt := gt_at 1345 (by decide +kernel) (by decide +kernel)
theorem mw_1675 : (Jvm.Cond.methodLink "GalleyforgeLaw" (198 : Nat) ({ cls := "GalleyforgeLaw", name := "lineEnd", desc := "(LGalleyforge;III)I" } : Jvm.MethodName)) ∈ gt := gt_at 1745 (by decide +kernel) (by decide +kernel)
theorem mw_1676 : (Jvm.Cond.static ({ cls := "GalleyforgeLaw", name := "lineEnd", desc := "(LGalleyforge;III)I" } : Jvm.MethodName)) ∈ gt := gt_at 1746 (by decide +kernel) (by decide +kernel)
theorem mw_1677 : (Jvm.Cond.codeWith ({ cls := "GalleyforgeLaw", name := "lineEnd", desc := "(LGalleyforge;III)I" } : Jvm.MethodName) method_21_code (5 : Nat) (Option.some Jvm.ClassFile.FieldType.int) [((0 : Nat), (7 : Nat), (8 : Nat), (13 : Nat))]) ∈ gt := gt_at 1747 (by decide +kernel) (by decide +kernel)
theorem mw_1687 : (Jvm.Cond.methodLink "GalleyforgeLaw" (200 : Nat) ({ cls := "GalleyforgeLaw", name := "tight", desc := "(LGalleyforge;III)I" } : Jvm.MethodName)) ∈ gt := gt_at 1757 (by decide +kernel) (by decide +kernel)
theorem mw_1688 : (Jvm.Cond.static ({ cls := "GalleyforgeLaw", name := "tight", desc := "(LGalleyforge;III)I" } : Jvm.MethodName)) ∈ gt := gt_at 1758 (by decide +kernel) (by decide +kernel)
theorem mw_1689 : (Jvm.Cond.codeWith ({ cls := "GalleyforgeLaw", name := "tight", desc := "(LGalleyforge;III)I" } : Jvm.MethodName) method_22_code (5 : Nat) (Option.some Jvm.ClassFile.FieldType.int) [((0 : Nat), (7 : Nat), (8 : Nat), (13 : Nat))]) ∈ gt := gt_at 1759 (by decide +kernel) (by decide +kernel)
theorem mw_1702 : (Jvm.Cond.methodLink "GalleyforgeLaw" (206 : Nat) ({ cls := "GalleyforgeLaw", name := "byAll", desc := "(LGalleyforge;II)J" } : Jvm.MethodName)) ∈ gt := gt_at 1772 (by decide +kernel) (by decide +kernel)
theorem mw_1703 : (Jvm.Cond.static ({ cls := "GalleyforgeLaw", name := "byAll", desc := "(LGalleyforge;II)J" } : Jvm.MethodName)) ∈ gt := gt_at 1773 (by decide +kernel) (by decide +kernel)
theorem mw_1704 : (Jvm.Cond.codeWith ({ cls := "GalleyforgeLaw", name := "byAll", desc := "(LGalleyforge;II)J" } : Jvm.MethodName) method_24_code (4 : Nat) (Option.some Jvm.ClassFile.FieldType.long) [((0 : Nat), (6 : Nat), (7 : Nat), (13 : Nat))]) ∈ gt := gt_at 1774 (by decide +kernel) (by decide +kernel)
theorem mw_1735 : (Jvm.Cond.methodLink "GalleyforgeLaw" (213 : Nat) ({ cls := "GalleyforgeLaw", name := "costAnew", desc := "(LGalleyforge;I)I" } : Jvm.MethodName)) ∈ gt := gt_at 1805 (by decide +kernel) (by decide +kernel)
theorem mw_1736 : (Jvm.Cond.static ({ cls := "GalleyforgeLaw", name := "costAnew", desc := "(LGalleyforge;I)I" } : Jvm.MethodName)) ∈ gt := gt_at 1806 (by decide +kernel) (by decide +kernel)
theorem mw_1737 : (Jvm.Cond.codeWith ({ cls := "GalleyforgeLaw", name := "costAnew", desc := "(LGalleyforge;I)I" } : Jvm.MethodName) method_27_code (3 : Nat) (Option.some Jvm.ClassFile.FieldType.int) [((0 : Nat), (5 : Nat), (6 : Nat), (13 : Nat))]) ∈ gt := gt_at 1807 (by decide +kernel) (by decide +kernel)
theorem mw_1756 : (Jvm.Cond.methodLink "GalleyforgeLaw" (220 : Nat) ({ cls := "GalleyforgeLaw", name := "on", desc := "(LGalleyforge;III)I" } : Jvm.MethodName)) ∈ gt := gt_at 1826 (by decide +kernel) (by decide +kernel)
theorem mw_1757 : (Jvm.Cond.static ({ cls := "GalleyforgeLaw", name := "on", desc := "(LGalleyforge;III)I" } : Jvm.MethodName)) ∈ gt := gt_at 1827 (by decide +kernel) (by decide +kernel)
theorem mw_1758 : (Jvm.Cond.codeWith ({ cls := "GalleyforgeLaw", name := "on", desc := "(LGalleyforge;III)I" } : Jvm.MethodName) method_30_code (5 : Nat) (Option.some Jvm.ClassFile.FieldType.int) [((0 : Nat), (7 : Nat), (8 : Nat), (13 : Nat))]) ∈ gt := gt_at 1828 (by decide +kernel) (by decide +kernel)
theorem mw_1768 : (Jvm.Cond.methodLink "GalleyforgeLaw" (222 : Nat) ({ cls := "GalleyforgeLaw", name := "head", desc := "(LGalleyforge;II)I" } : Jvm.MethodName)) ∈ gt := gt_at 1838 (by decide +kernel) (by decide +kernel)
theorem mw_1769 : (Jvm.Cond.static ({ cls := "GalleyforgeLaw", name := "head", desc := "(LGalleyforge;II)I" } : Jvm.MethodName)) ∈ gt := gt_at 1839 (by decide +kernel) (by decide +kernel)
theorem mw_1770 : (Jvm.Cond.codeWith ({ cls := "GalleyforgeLaw", name := "head", desc := "(LGalleyforge;II)I" } : Jvm.MethodName) method_31_code (4 : Nat) (Option.some Jvm.ClassFile.FieldType.int) [((0 : Nat), (6 : Nat), (7 : Nat), (13 : Nat))]) ∈ gt := gt_at 1840 (by decide +kernel) (by decide +kernel)
theorem mw_1784 : (Jvm.Cond.methodLink "GalleyforgeLaw" (224 : Nat) ({ cls := "GalleyforgeLaw", name := "textAt", desc := "(LGalleyforge;III)I" } : Jvm.MethodName)) ∈ gt := gt_at 1854 (by decide +kernel) (by decide +kernel)
theorem mw_1785 : (Jvm.Cond.static ({ cls := "GalleyforgeLaw", name := "textAt", desc := "(LGalleyforge;III)I" } : Jvm.MethodName)) ∈ gt := gt_at 1855 (by decide +kernel) (by decide +kernel)
theorem mw_1786 : (Jvm.Cond.codeWith ({ cls := "GalleyforgeLaw", name := "textAt", desc := "(LGalleyforge;III)I" } : Jvm.MethodName) method_32_code (5 : Nat) (Option.some Jvm.ClassFile.FieldType.int) [((0 : Nat), (7 : Nat), (8 : Nat), (13 : Nat))]) ∈ gt := gt_at 1856 (by decide +kernel) (by decide +kernel)
theorem mW_L_blocks : mW yL_blocks cL_blocks 4 (some .int) [((0 : Nat), (6 : Nat), (7 : Nat), (13 : Nat)), ((0 : Nat), (6 : Nat), (11 : Nat), (23 : Nat)), ((0 : Nat), (6 : Nat), (15 : Nat), (16 : Nat))] 3 := ⟨⟨mw_1122, mw_0, by decide, by decide, by decide +kernel⟩, mw_1121⟩
theorem mW_L_byAll : mW yL_byAll cL_byAll 4 (some .long) [((0 : Nat), (6 : Nat), (7 : Nat), (13 : Nat))] 3 := ⟨⟨mw_1704, mw_0, by decide, by decide, by decide +kernel⟩, mw_1703⟩
theorem mW_L_cells : mW yL_cells cL_cells 8 (some .int) [((0 : Nat), (13 : Nat), (14 : Nat), (13 : Nat)), ((0 : Nat), (13 : Nat), (19 : Nat), (23 : Nat)), ((0 : Nat), (13 : Nat), (24 : Nat), (16 : Nat))] 7 := ⟨⟨mw_1221, mw_0, by decide, by decide, by decide +kernel⟩, mw_1220⟩
theorem mW_L_costAnew : mW yL_costAnew cL_costAnew 3 (some .int) [((0 : Nat), (5 : Nat), (6 : Nat), (13 : Nat))] 2 := ⟨⟨mw_1737, mw_0, by decide, by decide, by decide +kernel⟩, mw_1736⟩
theorem mW_L_figures : mW yL_figures cL_figures 4 (some .int) [((0 : Nat), (6 : Nat), (7 : Nat), (23 : Nat)), ((0 : Nat), (6 : Nat), (11 : Nat), (16 : Nat))] 3 := ⟨⟨mw_1239, mw_0, by decide, by decide, by decide +kernel⟩, mw_1238⟩
theorem mW_L_gaps : mW yL_gaps cL_gaps 4 (some .int) [((0 : Nat), (6 : Nat), (7 : Nat), (13 : Nat))] 3 := ⟨⟨mw_1275, mw_0, by decide, by decide, by decide +kernel⟩, mw_1274⟩
theorem mW_L_head : mW yL_head cL_head 4 (some .int) [((0 : Nat), (6 : Nat), (7 : Nat), (13 : Nat))] 3 := ⟨⟨mw_1770, mw_0, by decide, by decide, by decide +kernel⟩, mw_1769⟩
theorem mW_L_keys : mW yL_keys cL_keys 4 (some .int) [((0 : Nat), (6 : Nat), (7 : Nat), (13 : Nat)), ((0 : Nat), (6 : Nat), (11 : Nat), (23 : Nat))] 3 := ⟨⟨mw_1256, mw_0, by decide, by decide, by decide +kernel⟩, mw_1255⟩
theorem mW_L_lineEnd : mW yL_lineEnd cL_lineEnd 5 (some .int) [((0 : Nat), (7 : Nat), (8 : Nat), (13 : Nat))] 4 := ⟨⟨mw_1677, mw_0, by decide, by decide, by decide +kernel⟩, mw_1676⟩
theorem mW_L_marks : mW yL_marks cL_marks 4 (some .int) [((0 : Nat), (6 : Nat), (7 : Nat), (13 : Nat)), ((0 : Nat), (6 : Nat), (11 : Nat), (23 : Nat))] 3 := ⟨⟨mw_597, mw_0, by decide, by decide, by decide +kernel⟩, mw_596⟩
theorem mW_L_on : mW yL_on cL_on 5 (some .int) [((0 : Nat), (7 : Nat), (8 : Nat), (13 : Nat))] 4 := ⟨⟨mw_1758, mw_0, by decide, by decide, by decide +kernel⟩, mw_1757⟩
theorem mW_L_papers : mW yL_papers cL_papers 4 (some .int) [((0 : Nat), (6 : Nat), (7 : Nat), (23 : Nat))] 3 := ⟨⟨mw_1248, mw_0, by decide, by decide, by decide +kernel⟩, mw_1247⟩
theorem mW_L_patterns : mW yL_patterns cL_patterns 4 (some .int) [((0 : Nat), (6 : Nat), (7 : Nat), (23 : Nat)), ((0 : Nat), (6 : Nat), (11 : Nat), (16 : Nat))] 3 := ⟨⟨mw_630, mw_0, by decide, by decide, by decide +kernel⟩, mw_629⟩
theorem mW_L_refers : mW yL_refers cL_refers 5 (some .int) [((0 : Nat), (7 : Nat), (8 : Nat), (13 : Nat)), ((0 : Nat), (7 : Nat), (13 : Nat), (16 : Nat))] 4 := ⟨⟨mw_1092, mw_0, by decide, by decide, by decide +kernel⟩, mw_1091⟩
theorem mW_L_removes : mW yL_removes cL_removes 3 (some .int) [((0 : Nat), (5 : Nat), (6 : Nat), (13 : Nat))] 2 := ⟨⟨mw_1199, mw_0, by decide, by decide, by decide +kernel⟩, mw_1198⟩
theorem mW_L_spells : mW yL_spells cL_spells 3 (some .int) [((0 : Nat), (5 : Nat), (6 : Nat), (13 : Nat)), ((0 : Nat), (5 : Nat), (10 : Nat), (16 : Nat))] 2 := ⟨⟨mw_500, mw_0, by decide, by decide, by decide +kernel⟩, mw_499⟩
theorem mW_L_styles : mW yL_styles cL_styles 5 (some .int) [((0 : Nat), (7 : Nat), (8 : Nat), (13 : Nat)), ((0 : Nat), (7 : Nat), (13 : Nat), (23 : Nat))] 4 := ⟨⟨mw_1206, mw_0, by decide, by decide, by decide +kernel⟩, mw_1205⟩
theorem mW_L_takes : mW yL_takes cL_takes 4 (some .int) [((0 : Nat), (6 : Nat), (7 : Nat), (13 : Nat))] 3 := ⟨⟨mw_1103, mw_0, by decide, by decide, by decide +kernel⟩, mw_1102⟩
theorem mW_L_textAt : mW yL_textAt cL_textAt 5 (some .int) [((0 : Nat), (7 : Nat), (8 : Nat), (13 : Nat))] 4 := ⟨⟨mw_1786, mw_0, by decide, by decide, by decide +kernel⟩, mw_1785⟩
theorem mW_L_tight : mW yL_tight cL_tight 5 (some .int) [((0 : Nat), (7 : Nat), (8 : Nat), (13 : Nat))] 4 := ⟨⟨mw_1689, mw_0, by decide, by decide, by decide +kernel⟩, mw_1688⟩
theorem mW_L_words : mW yL_words cL_words 4 (some .int) [((0 : Nat), (6 : Nat), (7 : Nat), (13 : Nat)), ((0 : Nat), (6 : Nat), (11 : Nat), (16 : Nat))] 3 := ⟨⟨mw_779, mw_0, by decide, by decide, by decide +kernel⟩, mw_778⟩
theorem dL_refuses_0 : decode cL_refuses 0 = .ok (.iload_n 2, 1) := by decide +kernel
theorem dL_refuses_1 : decode cL_refuses 1 = .ok (.iconst 2, 1) := by decide +kernel
theorem dL_refuses_2 : decode cL_refuses 2 = .ok (.irem, 1) := by decide +kernel
theorem dL_refuses_3 : decode cL_refuses 3 = .ok (.ifCond .ne 7, 3) := by decide +kernel
theorem dL_refuses_10 : decode cL_refuses 10 = .ok (.iconst 0, 1) := by decide +kernel
theorem dL_refuses_11 : decode cL_refuses 11 = .ok (.istore_n 3, 1) := by decide +kernel
theorem dL_refuses_12 : decode cL_refuses 12 = .ok (.iload_n 3, 1) := by decide +kernel
theorem dL_refuses_13 : decode cL_refuses 13 = .ok (.ifCond .eq 12, 3) := by decide +kernel
theorem dL_refuses_25 : decode cL_refuses 25 = .ok (.iconst 2, 1) := by decide +kernel
theorem dL_refuses_26 : decode cL_refuses 26 = .ok (.iload_n 2, 1) := by decide +kernel
theorem dL_refuses_27 : decode cL_refuses 27 = .ok (.bipush 50, 2) := by decide +kernel
theorem dL_refuses_29 : decode cL_refuses 29 = .ok (.irem, 1) := by decide +kernel
theorem dL_refuses_30 : decode cL_refuses 30 = .ok (.iadd, 1) := by decide +kernel
theorem dL_refuses_31 : decode cL_refuses 31 = .ok (.istore 4, 2) := by decide +kernel
theorem dL_refuses_33 : decode cL_refuses 33 = .ok (.iload_n 3, 1) := by decide +kernel
theorem dL_refuses_34 : decode cL_refuses 34 = .ok (.ifCond .eq 12, 3) := by decide +kernel
theorem dL_refuses_46 : decode cL_refuses 46 = .ok (.aload_n 1, 1) := by decide +kernel
theorem dL_refuses_47 : decode cL_refuses 47 = .ok (.iconst 0, 1) := by decide +kernel
theorem dL_refuses_48 : decode cL_refuses 48 = .ok (.iaload, 1) := by decide +kernel
theorem dL_refuses_49 : decode cL_refuses 49 = .ok (.iload_n 2, 1) := by decide +kernel
theorem dL_refuses_50 : decode cL_refuses 50 = .ok (.bipush 50, 2) := by decide +kernel
theorem dL_refuses_52 : decode cL_refuses 52 = .ok (.irem, 1) := by decide +kernel
theorem dL_refuses_53 : decode cL_refuses 53 = .ok (.iadd, 1) := by decide +kernel
theorem dL_refuses_54 : decode cL_refuses 54 = .ok (.istore 5, 2) := by decide +kernel
theorem dL_refuses_56 : decode cL_refuses 56 = .ok (.iload_n 3, 1) := by decide +kernel
theorem dL_refuses_57 : decode cL_refuses 57 = .ok (.ifCond .eq 12, 3) := by decide +kernel
theorem dL_refuses_69 : decode cL_refuses 69 = .ok (.aload_n 1, 1) := by decide +kernel
theorem dL_refuses_70 : decode cL_refuses 70 = .ok (.iconst 2, 1) := by decide +kernel
theorem dL_refuses_71 : decode cL_refuses 71 = .ok (.iaload, 1) := by decide +kernel
theorem dL_refuses_72 : decode cL_refuses 72 = .ok (.iload_n 2, 1) := by decide +kernel
theorem dL_refuses_73 : decode cL_refuses 73 = .ok (.bipush 50, 2) := by decide +kernel
theorem dL_refuses_75 : decode cL_refuses 75 = .ok (.irem, 1) := by decide +kernel
theorem dL_refuses_76 : decode cL_refuses 76 = .ok (.iadd, 1) := by decide +kernel
theorem dL_refuses_77 : decode cL_refuses 77 = .ok (.istore 6, 2) := by decide +kernel
theorem dL_refuses_79 : decode cL_refuses 79 = .ok (.aload_n 0, 1) := by decide +kernel
theorem dL_refuses_80 : decode cL_refuses 80 = .ok (.iload_n 3, 1) := by decide +kernel
theorem dL_refuses_81 : decode cL_refuses 81 = .ok (.ifCond .eq 9, 3) := by decide +kernel
theorem dL_refuses_90 : decode cL_refuses 90 = .ok (.iconst 4, 1) := by decide +kernel
theorem dL_refuses_91 : decode cL_refuses 91 = .ok (.iload_n 2, 1) := by decide +kernel
theorem dL_refuses_92 : decode cL_refuses 92 = .ok (.iadd, 1) := by decide +kernel
theorem dL_refuses_93 : decode cL_refuses 93 = .ok (.invokestatic 139, 3) := by decide +kernel
theorem dL_refuses_96 : decode cL_refuses 96 = .ok (.ldc 15, 2) := by decide +kernel
theorem dL_refuses_98 : decode cL_refuses 98 = .ok (.if_icmp .ne 536, 3) := by decide +kernel
theorem dL_refuses_121 : decode cL_refuses 121 = .ok (.aload_n 0, 1) := by decide +kernel
theorem dL_refuses_122 : decode cL_refuses 122 = .ok (.iload_n 3, 1) := by decide +kernel
theorem dL_refuses_123 : decode cL_refuses 123 = .ok (.ifCond .eq 9, 3) := by decide +kernel
theorem dL_refuses_132 : decode cL_refuses 132 = .ok (.iconst 5, 1) := by decide +kernel
theorem dL_refuses_133 : decode cL_refuses 133 = .ok (.iload_n 2, 1) := by decide +kernel
theorem dL_refuses_134 : decode cL_refuses 134 = .ok (.iadd, 1) := by decide +kernel
theorem dL_refuses_135 : decode cL_refuses 135 = .ok (.iconst 0, 1) := by decide +kernel
theorem dL_refuses_136 : decode cL_refuses 136 = .ok (.invokestatic 145, 3) := by decide +kernel
theorem dL_refuses_139 : decode cL_refuses 139 = .ok (.ldc 15, 2) := by decide +kernel
theorem dL_refuses_141 : decode cL_refuses 141 = .ok (.if_icmp .ne 493, 3) := by decide +kernel
theorem dL_refuses_144 : decode cL_refuses 144 = .ok (.aload_n 0, 1) := by decide +kernel
theorem dL_refuses_145 : decode cL_refuses 145 = .ok (.iconst 0, 1) := by decide +kernel
theorem dL_refuses_146 : decode cL_refuses 146 = .ok (.iload_n 3, 1) := by decide +kernel
theorem dL_refuses_147 : decode cL_refuses 147 = .ok (.ifCond .eq 7, 3) := by decide +kernel
theorem dL_refuses_154 : decode cL_refuses 154 = .ok (.bipush 6, 2) := by decide +kernel
theorem dL_refuses_156 : decode cL_refuses 156 = .ok (.iload_n 2, 1) := by decide +kernel
theorem dL_refuses_157 : decode cL_refuses 157 = .ok (.iadd, 1) := by decide +kernel
theorem dL_refuses_158 : decode cL_refuses 158 = .ok (.invokestatic 145, 3) := by decide +kernel
theorem dL_refuses_161 : decode cL_refuses 161 = .ok (.ldc 25, 2) := by decide +kernel
theorem dL_refuses_163 : decode cL_refuses 163 = .ok (.if_icmp .ne 471, 3) := by decide +kernel
theorem dL_refuses_166 : decode cL_refuses 166 = .ok (.aload_n 0, 1) := by decide +kernel
theorem dL_refuses_167 : decode cL_refuses 167 = .ok (.iconst 1, 1) := by decide +kernel
theorem dL_refuses_168 : decode cL_refuses 168 = .ok (.iload_n 3, 1) := by decide +kernel
theorem dL_refuses_169 : decode cL_refuses 169 = .ok (.ifCond .eq 10, 3) := by decide +kernel
theorem dL_refuses_179 : decode cL_refuses 179 = .ok (.aload_n 1, 1) := by decide +kernel
theorem dL_refuses_180 : decode cL_refuses 180 = .ok (.iconst 2, 1) := by decide +kernel
theorem dL_refuses_181 : decode cL_refuses 181 = .ok (.iaload, 1) := by decide +kernel
theorem dL_refuses_182 : decode cL_refuses 182 = .ok (.iload_n 2, 1) := by decide +kernel
theorem dL_refuses_183 : decode cL_refuses 183 = .ok (.iadd, 1) := by decide +kernel
theorem dL_refuses_184 : decode cL_refuses 184 = .ok (.invokestatic 145, 3) := by decide +kernel
theorem dL_refuses_187 : decode cL_refuses 187 = .ok (.ldc 25, 2) := by decide +kernel
theorem dL_refuses_189 : decode cL_refuses 189 = .ok (.if_icmp .ne 445, 3) := by decide +kernel
theorem dL_refuses_192 : decode cL_refuses 192 = .ok (.aload_n 0, 1) := by decide +kernel
theorem dL_refuses_193 : decode cL_refuses 193 = .ok (.iconst 2, 1) := by decide +kernel
theorem dL_refuses_194 : decode cL_refuses 194 = .ok (.iload_n 3, 1) := by decide +kernel
theorem dL_refuses_195 : decode cL_refuses 195 = .ok (.ifCond .eq 10, 3) := by decide +kernel
theorem dL_refuses_205 : decode cL_refuses 205 = .ok (.bipush 6, 2) := by decide +kernel
theorem dL_refuses_207 : decode cL_refuses 207 = .ok (.iload_n 2, 1) := by decide +kernel
theorem dL_refuses_208 : decode cL_refuses 208 = .ok (.iadd, 1) := by decide +kernel
theorem dL_refuses_209 : decode cL_refuses 209 = .ok (.invokestatic 145, 3) := by decide +kernel
theorem dL_refuses_212 : decode cL_refuses 212 = .ok (.ldc 25, 2) := by decide +kernel
theorem dL_refuses_214 : decode cL_refuses 214 = .ok (.if_icmp .ne 420, 3) := by decide +kernel
theorem dL_refuses_217 : decode cL_refuses 217 = .ok (.aload_n 0, 1) := by decide +kernel
theorem dL_refuses_218 : decode cL_refuses 218 = .ok (.iconst 3, 1) := by decide +kernel
theorem dL_refuses_219 : decode cL_refuses 219 = .ok (.bipush 8, 2) := by decide +kernel
theorem dL_refuses_221 : decode cL_refuses 221 = .ok (.iload_n 2, 1) := by decide +kernel
theorem dL_refuses_222 : decode cL_refuses 222 = .ok (.iadd, 1) := by decide +kernel
theorem dL_refuses_223 : decode cL_refuses 223 = .ok (.invokestatic 145, 3) := by decide +kernel
theorem dL_refuses_226 : decode cL_refuses 226 = .ok (.ldc 25, 2) := by decide +kernel
theorem dL_refuses_228 : decode cL_refuses 228 = .ok (.if_icmp .ne 406, 3) := by decide +kernel
theorem dL_refuses_231 : decode cL_refuses 231 = .ok (.aload_n 0, 1) := by decide +kernel
theorem dL_refuses_232 : decode cL_refuses 232 = .ok (.iconst 4, 1) := by decide +kernel
theorem dL_refuses_233 : decode cL_refuses 233 = .ok (.iconst 2, 1) := by decide +kernel
theorem dL_refuses_234 : decode cL_refuses 234 = .ok (.iload_n 2, 1) := by decide +kernel
theorem dL_refuses_235 : decode cL_refuses 235 = .ok (.iadd, 1) := by decide +kernel
theorem dL_refuses_236 : decode cL_refuses 236 = .ok (.invokestatic 145, 3) := by decide +kernel
theorem dL_refuses_239 : decode cL_refuses 239 = .ok (.ldc 25, 2) := by decide +kernel
theorem dL_refuses_241 : decode cL_refuses 241 = .ok (.if_icmp .ne 393, 3) := by decide +kernel
theorem dL_refuses_244 : decode cL_refuses 244 = .ok (.aload_n 0, 1) := by decide +kernel
theorem dL_refuses_245 : decode cL_refuses 245 = .ok (.iload_n 3, 1) := by decide +kernel
theorem dL_refuses_246 : decode cL_refuses 246 = .ok (.ifCond .eq 9, 3) := by decide +kernel
theorem dL_refuses_255 : decode cL_refuses 255 = .ok (.aload_n 1, 1) := by decide +kernel
theorem dL_refuses_256 : decode cL_refuses 256 = .ok (.iconst 1, 1) := by decide +kernel
theorem dL_refuses_257 : decode cL_refuses 257 = .ok (.iaload, 1) := by decide +kernel
theorem dL_refuses_258 : decode cL_refuses 258 = .ok (.iconst 1, 1) := by decide +kernel
theorem dL_refuses_259 : decode cL_refuses 259 = .ok (.iadd, 1) := by decide +kernel
theorem dL_refuses_260 : decode cL_refuses 260 = .ok (.iload_n 2, 1) := by decide +kernel
theorem dL_refuses_261 : decode cL_refuses 261 = .ok (.iadd, 1) := by decide +kernel
theorem dL_refuses_262 : decode cL_refuses 262 = .ok (.iconst 1, 1) := by decide +kernel
theorem dL_refuses_263 : decode cL_refuses 263 = .ok (.invokestatic 149, 3) := by decide +kernel
theorem dL_refuses_266 : decode cL_refuses 266 = .ok (.ldc 25, 2) := by decide +kernel
theorem dL_refuses_268 : decode cL_refuses 268 = .ok (.if_icmp .ne 366, 3) := by decide +kernel
theorem dL_refuses_271 : decode cL_refuses 271 = .ok (.aload_n 0, 1) := by decide +kernel
theorem dL_refuses_272 : decode cL_refuses 272 = .ok (.iconst 0, 1) := by decide +kernel
theorem dL_refuses_273 : decode cL_refuses 273 = .ok (.iload_n 3, 1) := by decide +kernel
theorem dL_refuses_274 : decode cL_refuses 274 = .ok (.ifCond .eq 8, 3) := by decide +kernel
theorem dL_refuses_282 : decode cL_refuses 282 = .ok (.bipush 6, 2) := by decide +kernel
theorem dL_refuses_284 : decode cL_refuses 284 = .ok (.iload_n 2, 1) := by decide +kernel
theorem dL_refuses_285 : decode cL_refuses 285 = .ok (.iadd, 1) := by decide +kernel
theorem dL_refuses_286 : decode cL_refuses 286 = .ok (.invokestatic 149, 3) := by decide +kernel
theorem dL_refuses_289 : decode cL_refuses 289 = .ok (.ldc 25, 2) := by decide +kernel
theorem dL_refuses_291 : decode cL_refuses 291 = .ok (.if_icmp .ne 343, 3) := by decide +kernel
theorem dL_refuses_326 : decode cL_refuses 326 = .ok (.aload_n 0, 1) := by decide +kernel
theorem dL_refuses_327 : decode cL_refuses 327 = .ok (.iload 5, 2) := by decide +kernel
theorem dL_refuses_329 : decode cL_refuses 329 = .ok (.iconst 0, 1) := by decide +kernel
theorem dL_refuses_330 : decode cL_refuses 330 = .ok (.invokestatic 152, 3) := by decide +kernel
theorem dL_refuses_333 : decode cL_refuses 333 = .ok (.ldc 15, 2) := by decide +kernel
theorem dL_refuses_335 : decode cL_refuses 335 = .ok (.if_icmp .ne 299, 3) := by decide +kernel
theorem dL_refuses_338 : decode cL_refuses 338 = .ok (.aload_n 0, 1) := by decide +kernel
theorem dL_refuses_339 : decode cL_refuses 339 = .ok (.iload 5, 2) := by decide +kernel
theorem dL_refuses_341 : decode cL_refuses 341 = .ok (.iconst 0, 1) := by decide +kernel
theorem dL_refuses_342 : decode cL_refuses 342 = .ok (.iconst 0, 1) := by decide +kernel
theorem dL_refuses_343 : decode cL_refuses 343 = .ok (.invokestatic 154, 3) := by decide +kernel
theorem dL_refuses_346 : decode cL_refuses 346 = .ok (.ldc 15, 2) := by decide +kernel
theorem dL_refuses_348 : decode cL_refuses 348 = .ok (.if_icmp .ne 286, 3) := by decide +kernel
theorem dL_refuses_351 : decode cL_refuses 351 = .ok (.aload_n 0, 1) := by decide +kernel
theorem dL_refuses_352 : decode cL_refuses 352 = .ok (.iload 5, 2) := by decide +kernel
theorem dL_refuses_354 : decode cL_refuses 354 = .ok (.iconst 0, 1) := by decide +kernel
theorem dL_refuses_355 : decode cL_refuses 355 = .ok (.invokestatic 158, 3) := by decide +kernel
theorem dL_refuses_358 : decode cL_refuses 358 = .ok (.ldc 15, 2) := by decide +kernel
theorem dL_refuses_360 : decode cL_refuses 360 = .ok (.if_icmp .ne 274, 3) := by decide +kernel
theorem dL_refuses_363 : decode cL_refuses 363 = .ok (.aload_n 0, 1) := by decide +kernel
theorem dL_refuses_364 : decode cL_refuses 364 = .ok (.iload_n 3, 1) := by decide +kernel
theorem dL_refuses_365 : decode cL_refuses 365 = .ok (.ifCond .eq 9, 3) := by decide +kernel
theorem dL_refuses_374 : decode cL_refuses 374 = .ok (.aload_n 1, 1) := by decide +kernel
theorem dL_refuses_375 : decode cL_refuses 375 = .ok (.iconst 0, 1) := by decide +kernel
theorem dL_refuses_376 : decode cL_refuses 376 = .ok (.iaload, 1) := by decide +kernel
theorem dL_refuses_377 : decode cL_refuses 377 = .ok (.iconst 1, 1) := by decide +kernel
theorem dL_refuses_378 : decode cL_refuses 378 = .ok (.iadd, 1) := by decide +kernel
theorem dL_refuses_379 : decode cL_refuses 379 = .ok (.iload_n 2, 1) := by decide +kernel
theorem dL_refuses_380 : decode cL_refuses 380 = .ok (.iadd, 1) := by decide +kernel
theorem dL_refuses_381 : decode cL_refuses 381 = .ok (.iconst 0, 1) := by decide +kernel
theorem dL_refuses_382 : decode cL_refuses 382 = .ok (.invokestatic 161, 3) := by decide +kernel
theorem dL_refuses_385 : decode cL_refuses 385 = .ok (.ldc 15, 2) := by decide +kernel
theorem dL_refuses_387 : decode cL_refuses 387 = .ok (.if_icmp .ne 247, 3) := by decide +kernel
theorem dL_refuses_390 : decode cL_refuses 390 = .ok (.aload_n 0, 1) := by decide +kernel
theorem dL_refuses_391 : decode cL_refuses 391 = .ok (.iconst 0, 1) := by decide +kernel
theorem dL_refuses_392 : decode cL_refuses 392 = .ok (.iload_n 3, 1) := by decide +kernel
theorem dL_refuses_393 : decode cL_refuses 393 = .ok (.ifCond .eq 9, 3) := by decide +kernel
theorem dL_refuses_402 : decode cL_refuses 402 = .ok (.bipush 7, 2) := by decide +kernel
theorem dL_refuses_404 : decode cL_refuses 404 = .ok (.iload_n 2, 1) := by decide +kernel
theorem dL_refuses_405 : decode cL_refuses 405 = .ok (.iadd, 1) := by decide +kernel
theorem dL_refuses_406 : decode cL_refuses 406 = .ok (.invokestatic 161, 3) := by decide +kernel
theorem dL_refuses_409 : decode cL_refuses 409 = .ok (.ldc 25, 2) := by decide +kernel
theorem dL_refuses_411 : decode cL_refuses 411 = .ok (.if_icmp .ne 223, 3) := by decide +kernel
theorem dL_refuses_433 : decode cL_refuses 433 = .ok (.aload_n 0, 1) := by decide +kernel
theorem dL_refuses_434 : decode cL_refuses 434 = .ok (.iload 5, 2) := by decide +kernel
theorem dL_refuses_436 : decode cL_refuses 436 = .ok (.invokestatic 164, 3) := by decide +kernel
theorem dL_refuses_439 : decode cL_refuses 439 = .ok (.ldc 15, 2) := by decide +kernel
theorem dL_refuses_441 : decode cL_refuses 441 = .ok (.if_icmp .ne 193, 3) := by decide +kernel
theorem dL_refuses_444 : decode cL_refuses 444 = .ok (.aload_n 0, 1) := by decide +kernel
theorem dL_refuses_445 : decode cL_refuses 445 = .ok (.iload 5, 2) := by decide +kernel
theorem dL_refuses_447 : decode cL_refuses 447 = .ok (.iconst 0, 1) := by decide +kernel
theorem dL_refuses_448 : decode cL_refuses 448 = .ok (.iconst 0, 1) := by decide +kernel
theorem dL_refuses_449 : decode cL_refuses 449 = .ok (.invokestatic 167, 3) := by decide +kernel
theorem dL_refuses_452 : decode cL_refuses 452 = .ok (.ldc 15, 2) := by decide +kernel
theorem dL_refuses_454 : decode cL_refuses 454 = .ok (.if_icmp .ne 180, 3) := by decide +kernel
theorem dL_refuses_457 : decode cL_refuses 457 = .ok (.aload_n 0, 1) := by decide +kernel
theorem dL_refuses_458 : decode cL_refuses 458 = .ok (.iload 5, 2) := by decide +kernel
theorem dL_refuses_460 : decode cL_refuses 460 = .ok (.bipush 9, 2) := by decide +kernel
theorem dL_refuses_462 : decode cL_refuses 462 = .ok (.iconst 0, 1) := by decide +kernel
theorem dL_refuses_463 : decode cL_refuses 463 = .ok (.iconst 1, 1) := by decide +kernel
theorem dL_refuses_464 : decode cL_refuses 464 = .ok (.iconst 0, 1) := by decide +kernel
theorem dL_refuses_465 : decode cL_refuses 465 = .ok (.iconst 0, 1) := by decide +kernel
theorem dL_refuses_466 : decode cL_refuses 466 = .ok (.invokestatic 170, 3) := by decide +kernel
theorem dL_refuses_469 : decode cL_refuses 469 = .ok (.ldc 15, 2) := by decide +kernel
theorem dL_refuses_471 : decode cL_refuses 471 = .ok (.if_icmp .ne 163, 3) := by decide +kernel
theorem dL_refuses_474 : decode cL_refuses 474 = .ok (.aload_n 0, 1) := by decide +kernel
theorem dL_refuses_475 : decode cL_refuses 475 = .ok (.iload 4, 2) := by decide +kernel
theorem dL_refuses_477 : decode cL_refuses 477 = .ok (.iconst 1, 1) := by decide +kernel
theorem dL_refuses_478 : decode cL_refuses 478 = .ok (.invokestatic 174, 3) := by decide +kernel
theorem dL_refuses_481 : decode cL_refuses 481 = .ok (.ldc 25, 2) := by decide +kernel
theorem dL_refuses_483 : decode cL_refuses 483 = .ok (.if_icmp .ne 151, 3) := by decide +kernel
theorem dL_refuses_486 : decode cL_refuses 486 = .ok (.aload_n 0, 1) := by decide +kernel
theorem dL_refuses_487 : decode cL_refuses 487 = .ok (.iconst 0, 1) := by decide +kernel
theorem dL_refuses_488 : decode cL_refuses 488 = .ok (.iload_n 3, 1) := by decide +kernel
theorem dL_refuses_489 : decode cL_refuses 489 = .ok (.ifCond .eq 8, 3) := by decide +kernel
theorem dL_refuses_497 : decode cL_refuses 497 = .ok (.bipush 41, 2) := by decide +kernel
theorem dL_refuses_499 : decode cL_refuses 499 = .ok (.iload_n 2, 1) := by decide +kernel
theorem dL_refuses_500 : decode cL_refuses 500 = .ok (.iadd, 1) := by decide +kernel
theorem dL_refuses_501 : decode cL_refuses 501 = .ok (.invokestatic 174, 3) := by decide +kernel
theorem dL_refuses_504 : decode cL_refuses 504 = .ok (.ldc 25, 2) := by decide +kernel
theorem dL_refuses_506 : decode cL_refuses 506 = .ok (.if_icmp .ne 128, 3) := by decide +kernel
theorem dL_refuses_527 : decode cL_refuses 527 = .ok (.aload_n 0, 1) := by decide +kernel
theorem dL_refuses_528 : decode cL_refuses 528 = .ok (.iload_n 3, 1) := by decide +kernel
theorem dL_refuses_529 : decode cL_refuses 529 = .ok (.ifCond .eq 10, 3) := by decide +kernel
theorem dL_refuses_539 : decode cL_refuses 539 = .ok (.bipush 121, 2) := by decide +kernel
theorem dL_refuses_541 : decode cL_refuses 541 = .ok (.iload_n 2, 1) := by decide +kernel
theorem dL_refuses_542 : decode cL_refuses 542 = .ok (.iadd, 1) := by decide +kernel
theorem dL_refuses_543 : decode cL_refuses 543 = .ok (.bipush 12, 2) := by decide +kernel
theorem dL_refuses_545 : decode cL_refuses 545 = .ok (.invokestatic 177, 3) := by decide +kernel
theorem dL_refuses_548 : decode cL_refuses 548 = .ok (.ldc 25, 2) := by decide +kernel
theorem dL_refuses_550 : decode cL_refuses 550 = .ok (.if_icmp .ne 84, 3) := by decide +kernel
theorem dL_refuses_553 : decode cL_refuses 553 = .ok (.aload_n 0, 1) := by decide +kernel
theorem dL_refuses_554 : decode cL_refuses 554 = .ok (.bipush 60, 2) := by decide +kernel
theorem dL_refuses_556 : decode cL_refuses 556 = .ok (.iload_n 3, 1) := by decide +kernel
theorem dL_refuses_557 : decode cL_refuses 557 = .ok (.ifCond .eq 9, 3) := by decide +kernel
theorem dL_refuses_566 : decode cL_refuses 566 = .ok (.bipush 41, 2) := by decide +kernel
theorem dL_refuses_568 : decode cL_refuses 568 = .ok (.iload_n 2, 1) := by decide +kernel
theorem dL_refuses_569 : decode cL_refuses 569 = .ok (.iadd, 1) := by decide +kernel
theorem dL_refuses_570 : decode cL_refuses 570 = .ok (.invokestatic 177, 3) := by decide +kernel
theorem dL_refuses_573 : decode cL_refuses 573 = .ok (.ldc 25, 2) := by decide +kernel
theorem dL_refuses_575 : decode cL_refuses 575 = .ok (.if_icmp .ne 59, 3) := by decide +kernel
theorem dL_refuses_578 : decode cL_refuses 578 = .ok (.aload_n 0, 1) := by decide +kernel
theorem dL_refuses_579 : decode cL_refuses 579 = .ok (.iload_n 3, 1) := by decide +kernel
theorem dL_refuses_580 : decode cL_refuses 580 = .ok (.ifCond .eq 9, 3) := by decide +kernel
theorem dL_refuses_589 : decode cL_refuses 589 = .ok (.bipush 8, 2) := by decide +kernel
theorem dL_refuses_591 : decode cL_refuses 591 = .ok (.iload_n 2, 1) := by decide +kernel
theorem dL_refuses_592 : decode cL_refuses 592 = .ok (.iadd, 1) := by decide +kernel
theorem dL_refuses_593 : decode cL_refuses 593 = .ok (.iconst 0, 1) := by decide +kernel
theorem dL_refuses_594 : decode cL_refuses 594 = .ok (.invokestatic 180, 3) := by decide +kernel
theorem dL_refuses_597 : decode cL_refuses 597 = .ok (.ldc 15, 2) := by decide +kernel
theorem dL_refuses_599 : decode cL_refuses 599 = .ok (.if_icmp .ne 35, 3) := by decide +kernel
theorem dL_refuses_602 : decode cL_refuses 602 = .ok (.aload_n 0, 1) := by decide +kernel
theorem dL_refuses_603 : decode cL_refuses 603 = .ok (.iload_n 2, 1) := by decide +kernel
theorem dL_refuses_604 : decode cL_refuses 604 = .ok (.bipush 8, 2) := by decide +kernel
theorem dL_refuses_606 : decode cL_refuses 606 = .ok (.irem, 1) := by decide +kernel
theorem dL_refuses_607 : decode cL_refuses 607 = .ok (.iload_n 3, 1) := by decide +kernel
theorem dL_refuses_608 : decode cL_refuses 608 = .ok (.ifCond .eq 9, 3) := by decide +kernel
theorem dL_refuses_617 : decode cL_refuses 617 = .ok (.sipush 1000, 3) := by decide +kernel
theorem dL_refuses_620 : decode cL_refuses 620 = .ok (.iload_n 2, 1) := by decide +kernel
theorem dL_refuses_621 : decode cL_refuses 621 = .ok (.iadd, 1) := by decide +kernel
theorem dL_refuses_622 : decode cL_refuses 622 = .ok (.invokestatic 180, 3) := by decide +kernel
theorem dL_refuses_625 : decode cL_refuses 625 = .ok (.ldc 25, 2) := by decide +kernel
theorem dL_refuses_627 : decode cL_refuses 627 = .ok (.if_icmp .ne 7, 3) := by decide +kernel
theorem dL_refuses_630 : decode cL_refuses 630 = .ok (.iconst 1, 1) := by decide +kernel
theorem dL_refuses_631 : decode cL_refuses 631 = .ok (.goto 4, 3) := by decide +kernel
theorem dL_refuses_635 : decode cL_refuses 635 = .ok (.istore 7, 2) := by decide +kernel
theorem dL_refuses_637 : decode cL_refuses 637 = .ok (.iload 7, 2) := by decide +kernel
theorem dL_refuses_639 : decode cL_refuses 639 = .ok (.ifCond .eq 442, 3) := by decide +kernel
theorem dL_refuses_642 : decode cL_refuses 642 = .ok (.aload_n 0, 1) := by decide +kernel
theorem dL_refuses_643 : decode cL_refuses 643 = .ok (.iload 5, 2) := by decide +kernel
theorem dL_refuses_645 : decode cL_refuses 645 = .ok (.invokestatic 183, 3) := by decide +kernel
theorem dL_refuses_648 : decode cL_refuses 648 = .ok (.ldc 15, 2) := by decide +kernel
theorem dL_refuses_650 : decode cL_refuses 650 = .ok (.if_icmp .ne 431, 3) := by decide +kernel
theorem dL_refuses_653 : decode cL_refuses 653 = .ok (.aload_n 0, 1) := by decide +kernel
theorem dL_refuses_654 : decode cL_refuses 654 = .ok (.iload 5, 2) := by decide +kernel
theorem dL_refuses_656 : decode cL_refuses 656 = .ok (.iconst 0, 1) := by decide +kernel
theorem dL_refuses_657 : decode cL_refuses 657 = .ok (.invokestatic 186, 3) := by decide +kernel
theorem dL_refuses_660 : decode cL_refuses 660 = .ok (.ldc 15, 2) := by decide +kernel
theorem dL_refuses_662 : decode cL_refuses 662 = .ok (.if_icmp .ne 419, 3) := by decide +kernel
theorem dL_refuses_665 : decode cL_refuses 665 = .ok (.aload_n 0, 1) := by decide +kernel
theorem dL_refuses_666 : decode cL_refuses 666 = .ok (.iload 4, 2) := by decide +kernel
theorem dL_refuses_668 : decode cL_refuses 668 = .ok (.iconst 0, 1) := by decide +kernel
theorem dL_refuses_669 : decode cL_refuses 669 = .ok (.invokestatic 188, 3) := by decide +kernel
theorem dL_refuses_672 : decode cL_refuses 672 = .ok (.ldc 15, 2) := by decide +kernel
theorem dL_refuses_674 : decode cL_refuses 674 = .ok (.if_icmp .ne 407, 3) := by decide +kernel
theorem dL_refuses_677 : decode cL_refuses 677 = .ok (.aload_n 0, 1) := by decide +kernel
theorem dL_refuses_678 : decode cL_refuses 678 = .ok (.iconst 0, 1) := by decide +kernel
theorem dL_refuses_679 : decode cL_refuses 679 = .ok (.iload 5, 2) := by decide +kernel
theorem dL_refuses_681 : decode cL_refuses 681 = .ok (.invokestatic 188, 3) := by decide +kernel
theorem dL_refuses_684 : decode cL_refuses 684 = .ok (.ldc 15, 2) := by decide +kernel
theorem dL_refuses_686 : decode cL_refuses 686 = .ok (.if_icmp .ne 395, 3) := by decide +kernel
theorem dL_refuses_689 : decode cL_refuses 689 = .ok (.aload_n 0, 1) := by decide +kernel
theorem dL_refuses_690 : decode cL_refuses 690 = .ok (.iload 5, 2) := by decide +kernel
theorem dL_refuses_692 : decode cL_refuses 692 = .ok (.iconst 0, 1) := by decide +kernel
theorem dL_refuses_693 : decode cL_refuses 693 = .ok (.invokestatic 190, 3) := by decide +kernel
theorem dL_refuses_696 : decode cL_refuses 696 = .ok (.ldc 15, 2) := by decide +kernel
theorem dL_refuses_698 : decode cL_refuses 698 = .ok (.if_icmp .ne 383, 3) := by decide +kernel
theorem dL_refuses_701 : decode cL_refuses 701 = .ok (.aload_n 0, 1) := by decide +kernel
theorem dL_refuses_702 : decode cL_refuses 702 = .ok (.iload 5, 2) := by decide +kernel
theorem dL_refuses_704 : decode cL_refuses 704 = .ok (.iconst 0, 1) := by decide +kernel
theorem dL_refuses_705 : decode cL_refuses 705 = .ok (.invokestatic 193, 3) := by decide +kernel
theorem dL_refuses_708 : decode cL_refuses 708 = .ok (.ldc 15, 2) := by decide +kernel
theorem dL_refuses_710 : decode cL_refuses 710 = .ok (.if_icmp .ne 371, 3) := by decide +kernel
theorem dL_refuses_713 : decode cL_refuses 713 = .ok (.aload_n 0, 1) := by decide +kernel
theorem dL_refuses_714 : decode cL_refuses 714 = .ok (.iload 4, 2) := by decide +kernel
theorem dL_refuses_716 : decode cL_refuses 716 = .ok (.iconst 0, 1) := by decide +kernel
theorem dL_refuses_717 : decode cL_refuses 717 = .ok (.invokestatic 196, 3) := by decide +kernel
theorem dL_refuses_720 : decode cL_refuses 720 = .ok (.ldc 15, 2) := by decide +kernel
theorem dL_refuses_722 : decode cL_refuses 722 = .ok (.if_icmp .ne 359, 3) := by decide +kernel
theorem dL_refuses_725 : decode cL_refuses 725 = .ok (.aload_n 0, 1) := by decide +kernel
theorem dL_refuses_726 : decode cL_refuses 726 = .ok (.iconst 0, 1) := by decide +kernel
theorem dL_refuses_727 : decode cL_refuses 727 = .ok (.iload 5, 2) := by decide +kernel
theorem dL_refuses_729 : decode cL_refuses 729 = .ok (.invokestatic 196, 3) := by decide +kernel
theorem dL_refuses_732 : decode cL_refuses 732 = .ok (.ldc 15, 2) := by decide +kernel
theorem dL_refuses_734 : decode cL_refuses 734 = .ok (.if_icmp .ne 347, 3) := by decide +kernel
theorem dL_refuses_737 : decode cL_refuses 737 = .ok (.aload_n 0, 1) := by decide +kernel
theorem dL_refuses_738 : decode cL_refuses 738 = .ok (.iconst 0, 1) := by decide +kernel
theorem dL_refuses_739 : decode cL_refuses 739 = .ok (.iload 5, 2) := by decide +kernel
theorem dL_refuses_741 : decode cL_refuses 741 = .ok (.iconst 0, 1) := by decide +kernel
theorem dL_refuses_742 : decode cL_refuses 742 = .ok (.invokestatic 198, 3) := by decide +kernel
theorem dL_refuses_745 : decode cL_refuses 745 = .ok (.ldc 15, 2) := by decide +kernel
theorem dL_refuses_747 : decode cL_refuses 747 = .ok (.if_icmp .ne 334, 3) := by decide +kernel
theorem dL_refuses_750 : decode cL_refuses 750 = .ok (.aload_n 0, 1) := by decide +kernel
theorem dL_refuses_751 : decode cL_refuses 751 = .ok (.iload 4, 2) := by decide +kernel
theorem dL_refuses_753 : decode cL_refuses 753 = .ok (.iconst 0, 1) := by decide +kernel
theorem dL_refuses_754 : decode cL_refuses 754 = .ok (.iconst 0, 1) := by decide +kernel
theorem dL_refuses_755 : decode cL_refuses 755 = .ok (.invokestatic 200, 3) := by decide +kernel
theorem dL_refuses_758 : decode cL_refuses 758 = .ok (.ldc 15, 2) := by decide +kernel
theorem dL_refuses_760 : decode cL_refuses 760 = .ok (.if_icmp .ne 321, 3) := by decide +kernel
theorem dL_refuses_763 : decode cL_refuses 763 = .ok (.aload_n 0, 1) := by decide +kernel
theorem dL_refuses_764 : decode cL_refuses 764 = .ok (.iconst 0, 1) := by decide +kernel
theorem dL_refuses_765 : decode cL_refuses 765 = .ok (.iload 5, 2) := by decide +kernel
theorem dL_refuses_767 : decode cL_refuses 767 = .ok (.invokestatic 203, 3) := by decide +kernel
theorem dL_refuses_770 : decode cL_refuses 770 = .ok (.ldc2_w 89, 3) := by decide +kernel
theorem dL_refuses_773 : decode cL_refuses 773 = .ok (.lcmp, 1) := by decide +kernel
theorem dL_refuses_774 : decode cL_refuses 774 = .ok (.ifCond .ne 307, 3) := by decide +kernel
theorem dL_refuses_777 : decode cL_refuses 777 = .ok (.aload_n 0, 1) := by decide +kernel
theorem dL_refuses_778 : decode cL_refuses 778 = .ok (.iload 4, 2) := by decide +kernel
theorem dL_refuses_780 : decode cL_refuses 780 = .ok (.iconst 0, 1) := by decide +kernel
theorem dL_refuses_781 : decode cL_refuses 781 = .ok (.invokestatic 206, 3) := by decide +kernel
theorem dL_refuses_784 : decode cL_refuses 784 = .ok (.ldc2_w 89, 3) := by decide +kernel
theorem dL_refuses_787 : decode cL_refuses 787 = .ok (.lcmp, 1) := by decide +kernel
theorem dL_refuses_788 : decode cL_refuses 788 = .ok (.ifCond .ne 293, 3) := by decide +kernel
theorem dL_refuses_791 : decode cL_refuses 791 = .ok (.aload_n 0, 1) := by decide +kernel
theorem dL_refuses_792 : decode cL_refuses 792 = .ok (.iload 4, 2) := by decide +kernel
theorem dL_refuses_794 : decode cL_refuses 794 = .ok (.invokestatic 209, 3) := by decide +kernel
theorem dL_refuses_797 : decode cL_refuses 797 = .ok (.ldc 15, 2) := by decide +kernel
theorem dL_refuses_799 : decode cL_refuses 799 = .ok (.if_icmp .ne 282, 3) := by decide +kernel
theorem dL_refuses_802 : decode cL_refuses 802 = .ok (.aload_n 0, 1) := by decide +kernel
theorem dL_refuses_803 : decode cL_refuses 803 = .ok (.iload 4, 2) := by decide +kernel
theorem dL_refuses_805 : decode cL_refuses 805 = .ok (.invokestatic 211, 3) := by decide +kernel
theorem dL_refuses_808 : decode cL_refuses 808 = .ok (.ldc 15, 2) := by decide +kernel
theorem dL_refuses_810 : decode cL_refuses 810 = .ok (.if_icmp .ne 271, 3) := by decide +kernel
theorem dL_refuses_813 : decode cL_refuses 813 = .ok (.aload_n 0, 1) := by decide +kernel
theorem dL_refuses_814 : decode cL_refuses 814 = .ok (.iload 4, 2) := by decide +kernel
theorem dL_refuses_816 : decode cL_refuses 816 = .ok (.invokestatic 213, 3) := by decide +kernel
theorem dL_refuses_819 : decode cL_refuses 819 = .ok (.ldc 15, 2) := by decide +kernel
theorem dL_refuses_821 : decode cL_refuses 821 = .ok (.if_icmp .ne 260, 3) := by decide +kernel
theorem dL_refuses_824 : decode cL_refuses 824 = .ok (.aload_n 0, 1) := by decide +kernel
theorem dL_refuses_825 : decode cL_refuses 825 = .ok (.iload 4, 2) := by decide +kernel
theorem dL_refuses_827 : decode cL_refuses 827 = .ok (.invokestatic 215, 3) := by decide +kernel
theorem dL_refuses_830 : decode cL_refuses 830 = .ok (.ldc 15, 2) := by decide +kernel
theorem dL_refuses_832 : decode cL_refuses 832 = .ok (.if_icmp .ne 249, 3) := by decide +kernel
theorem dL_refuses_835 : decode cL_refuses 835 = .ok (.aload_n 0, 1) := by decide +kernel
theorem dL_refuses_836 : decode cL_refuses 836 = .ok (.iload 4, 2) := by decide +kernel
theorem dL_refuses_838 : decode cL_refuses 838 = .ok (.invokestatic 217, 3) := by decide +kernel
theorem dL_refuses_841 : decode cL_refuses 841 = .ok (.ldc 15, 2) := by decide +kernel
theorem dL_refuses_843 : decode cL_refuses 843 = .ok (.if_icmp .ne 238, 3) := by decide +kernel
theorem dL_refuses_846 : decode cL_refuses 846 = .ok (.aload_n 0, 1) := by decide +kernel
theorem dL_refuses_847 : decode cL_refuses 847 = .ok (.iconst 0, 1) := by decide +kernel
theorem dL_refuses_848 : decode cL_refuses 848 = .ok (.iload_n 3, 1) := by decide +kernel
theorem dL_refuses_849 : decode cL_refuses 849 = .ok (.ifCond .eq 8, 3) := by decide +kernel
theorem dL_refuses_857 : decode cL_refuses 857 = .ok (.aload_n 0, 1) := by decide +kernel
theorem dL_refuses_858 : decode cL_refuses 858 = .ok (.iconst 0, 1) := by decide +kernel
theorem dL_refuses_859 : decode cL_refuses 859 = .ok (.invokestatic 209, 3) := by decide +kernel
theorem dL_refuses_862 : decode cL_refuses 862 = .ok (.iconst 1, 1) := by decide +kernel
theorem dL_refuses_863 : decode cL_refuses 863 = .ok (.iadd, 1) := by decide +kernel
theorem dL_refuses_864 : decode cL_refuses 864 = .ok (.iload_n 2, 1) := by decide +kernel
theorem dL_refuses_865 : decode cL_refuses 865 = .ok (.iadd, 1) := by decide +kernel
theorem dL_refuses_866 : decode cL_refuses 866 = .ok (.iconst 0, 1) := by decide +kernel
theorem dL_refuses_867 : decode cL_refuses 867 = .ok (.invokestatic 220, 3) := by decide +kernel
theorem dL_refuses_870 : decode cL_refuses 870 = .ok (.ldc 15, 2) := by decide +kernel
theorem dL_refuses_872 : decode cL_refuses 872 = .ok (.if_icmp .ne 209, 3) := by decide +kernel
theorem dL_refuses_875 : decode cL_refuses 875 = .ok (.aload_n 0, 1) := by decide +kernel
theorem dL_refuses_876 : decode cL_refuses 876 = .ok (.iload 4, 2) := by decide +kernel
theorem dL_refuses_878 : decode cL_refuses 878 = .ok (.iconst 1, 1) := by decide +kernel
theorem dL_refuses_879 : decode cL_refuses 879 = .ok (.invokestatic 222, 3) := by decide +kernel
theorem dL_refuses_882 : decode cL_refuses 882 = .ok (.ldc 15, 2) := by decide +kernel
theorem dL_refuses_884 : decode cL_refuses 884 = .ok (.if_icmp .ne 197, 3) := by decide +kernel
theorem dL_refuses_887 : decode cL_refuses 887 = .ok (.aload_n 0, 1) := by decide +kernel
theorem dL_refuses_888 : decode cL_refuses 888 = .ok (.iconst 1, 1) := by decide +kernel
theorem dL_refuses_889 : decode cL_refuses 889 = .ok (.iload_n 2, 1) := by decide +kernel
theorem dL_refuses_890 : decode cL_refuses 890 = .ok (.ineg, 1) := by decide +kernel
theorem dL_refuses_891 : decode cL_refuses 891 = .ok (.invokestatic 222, 3) := by decide +kernel
theorem dL_refuses_894 : decode cL_refuses 894 = .ok (.ldc 15, 2) := by decide +kernel
theorem dL_refuses_896 : decode cL_refuses 896 = .ok (.if_icmp .ne 185, 3) := by decide +kernel
theorem dL_refuses_899 : decode cL_refuses 899 = .ok (.aload_n 0, 1) := by decide +kernel
theorem dL_refuses_900 : decode cL_refuses 900 = .ok (.iconst 0, 1) := by decide +kernel
theorem dL_refuses_901 : decode cL_refuses 901 = .ok (.iconst 0, 1) := by decide +kernel
theorem dL_refuses_902 : decode cL_refuses 902 = .ok (.iconst 0, 1) := by decide +kernel
theorem dL_refuses_903 : decode cL_refuses 903 = .ok (.invokestatic 224, 3) := by decide +kernel
theorem dL_refuses_906 : decode cL_refuses 906 = .ok (.ldc 15, 2) := by decide +kernel
theorem dL_refuses_908 : decode cL_refuses 908 = .ok (.if_icmp .ne 173, 3) := by decide +kernel
theorem dL_refuses_911 : decode cL_refuses 911 = .ok (.aload_n 0, 1) := by decide +kernel
theorem dL_refuses_912 : decode cL_refuses 912 = .ok (.iload 4, 2) := by decide +kernel
theorem dL_refuses_914 : decode cL_refuses 914 = .ok (.iconst 0, 1) := by decide +kernel
theorem dL_refuses_915 : decode cL_refuses 915 = .ok (.iconst 0, 1) := by decide +kernel
theorem dL_refuses_916 : decode cL_refuses 916 = .ok (.invokestatic 226, 3) := by decide +kernel
theorem dL_refuses_919 : decode cL_refuses 919 = .ok (.ldc 15, 2) := by decide +kernel
theorem dL_refuses_921 : decode cL_refuses 921 = .ok (.if_icmp .ne 160, 3) := by decide +kernel
theorem dL_refuses_924 : decode cL_refuses 924 = .ok (.aload_n 0, 1) := by decide +kernel
theorem dL_refuses_925 : decode cL_refuses 925 = .ok (.iconst 0, 1) := by decide +kernel
theorem dL_refuses_926 : decode cL_refuses 926 = .ok (.iload 5, 2) := by decide +kernel
theorem dL_refuses_928 : decode cL_refuses 928 = .ok (.iconst 0, 1) := by decide +kernel
theorem dL_refuses_929 : decode cL_refuses 929 = .ok (.invokestatic 226, 3) := by decide +kernel
theorem dL_refuses_932 : decode cL_refuses 932 = .ok (.ldc 15, 2) := by decide +kernel
theorem dL_refuses_934 : decode cL_refuses 934 = .ok (.if_icmp .ne 147, 3) := by decide +kernel
theorem dL_refuses_937 : decode cL_refuses 937 = .ok (.aload_n 0, 1) := by decide +kernel
theorem dL_refuses_938 : decode cL_refuses 938 = .ok (.iconst 0, 1) := by decide +kernel
theorem dL_refuses_939 : decode cL_refuses 939 = .ok (.iload 6, 2) := by decide +kernel
theorem dL_refuses_941 : decode cL_refuses 941 = .ok (.invokestatic 228, 3) := by decide +kernel
theorem dL_refuses_944 : decode cL_refuses 944 = .ok (.ldc 15, 2) := by decide +kernel
theorem dL_refuses_946 : decode cL_refuses 946 = .ok (.if_icmp .ne 135, 3) := by decide +kernel
theorem dL_refuses_949 : decode cL_refuses 949 = .ok (.aload_n 0, 1) := by decide +kernel
theorem dL_refuses_950 : decode cL_refuses 950 = .ok (.iconst 0, 1) := by decide +kernel
theorem dL_refuses_951 : decode cL_refuses 951 = .ok (.iload_n 3, 1) := by decide +kernel
theorem dL_refuses_952 : decode cL_refuses 952 = .ok (.ifCond .eq 9, 3) := by decide +kernel
theorem dL_refuses_961 : decode cL_refuses 961 = .ok (.bipush 6, 2) := by decide +kernel
theorem dL_refuses_963 : decode cL_refuses 963 = .ok (.iload_n 2, 1) := by decide +kernel
theorem dL_refuses_964 : decode cL_refuses 964 = .ok (.iadd, 1) := by decide +kernel
theorem dL_refuses_965 : decode cL_refuses 965 = .ok (.invokestatic 230, 3) := by decide +kernel
theorem dL_refuses_968 : decode cL_refuses 968 = .ok (.ldc 15, 2) := by decide +kernel
theorem dL_refuses_970 : decode cL_refuses 970 = .ok (.if_icmp .ne 111, 3) := by decide +kernel
theorem dL_refuses_973 : decode cL_refuses 973 = .ok (.aload_n 0, 1) := by decide +kernel
theorem dL_refuses_974 : decode cL_refuses 974 = .ok (.iload 4, 2) := by decide +kernel
theorem dL_refuses_976 : decode cL_refuses 976 = .ok (.iconst 0, 1) := by decide +kernel
theorem dL_refuses_977 : decode cL_refuses 977 = .ok (.invokestatic 230, 3) := by decide +kernel
theorem dL_refuses_980 : decode cL_refuses 980 = .ok (.ldc 15, 2) := by decide +kernel
theorem dL_refuses_982 : decode cL_refuses 982 = .ok (.if_icmp .ne 99, 3) := by decide +kernel
theorem dL_refuses_985 : decode cL_refuses 985 = .ok (.aload_n 0, 1) := by decide +kernel
theorem dL_refuses_986 : decode cL_refuses 986 = .ok (.iconst 0, 1) := by decide +kernel
theorem dL_refuses_987 : decode cL_refuses 987 = .ok (.iload_n 3, 1) := by decide +kernel
theorem dL_refuses_988 : decode cL_refuses 988 = .ok (.ifCond .eq 9, 3) := by decide +kernel
theorem dL_refuses_997 : decode cL_refuses 997 = .ok (.bipush 16, 2) := by decide +kernel
theorem dL_refuses_999 : decode cL_refuses 999 = .ok (.iload_n 2, 1) := by decide +kernel
theorem dL_refuses_1000 : decode cL_refuses 1000 = .ok (.iadd, 1) := by decide +kernel
theorem dL_refuses_1001 : decode cL_refuses 1001 = .ok (.invokestatic 233, 3) := by decide +kernel
theorem dL_refuses_1004 : decode cL_refuses 1004 = .ok (.ldc 15, 2) := by decide +kernel
theorem dL_refuses_1006 : decode cL_refuses 1006 = .ok (.if_icmp .ne 75, 3) := by decide +kernel
theorem dL_refuses_1009 : decode cL_refuses 1009 = .ok (.aload_n 0, 1) := by decide +kernel
theorem dL_refuses_1010 : decode cL_refuses 1010 = .ok (.iload 4, 2) := by decide +kernel
theorem dL_refuses_1012 : decode cL_refuses 1012 = .ok (.iconst 0, 1) := by decide +kernel
theorem dL_refuses_1013 : decode cL_refuses 1013 = .ok (.invokestatic 236, 3) := by decide +kernel
theorem dL_refuses_1016 : decode cL_refuses 1016 = .ok (.ldc 15, 2) := by decide +kernel
theorem dL_refuses_1018 : decode cL_refuses 1018 = .ok (.if_icmp .ne 63, 3) := by decide +kernel
theorem dL_refuses_1021 : decode cL_refuses 1021 = .ok (.aload_n 0, 1) := by decide +kernel
theorem dL_refuses_1022 : decode cL_refuses 1022 = .ok (.iconst 0, 1) := by decide +kernel
theorem dL_refuses_1023 : decode cL_refuses 1023 = .ok (.iload_n 3, 1) := by decide +kernel
theorem dL_refuses_1024 : decode cL_refuses 1024 = .ok (.ifCond .eq 9, 3) := by decide +kernel
theorem dL_refuses_1033 : decode cL_refuses 1033 = .ok (.bipush 8, 2) := by decide +kernel
theorem dL_refuses_1035 : decode cL_refuses 1035 = .ok (.iload_n 2, 1) := by decide +kernel
theorem dL_refuses_1036 : decode cL_refuses 1036 = .ok (.iadd, 1) := by decide +kernel
theorem dL_refuses_1037 : decode cL_refuses 1037 = .ok (.invokestatic 236, 3) := by decide +kernel
theorem dL_refuses_1040 : decode cL_refuses 1040 = .ok (.ldc 15, 2) := by decide +kernel
theorem dL_refuses_1042 : decode cL_refuses 1042 = .ok (.if_icmp .ne 39, 3) := by decide +kernel
theorem dL_refuses_1045 : decode cL_refuses 1045 = .ok (.aload_n 0, 1) := by decide +kernel
theorem dL_refuses_1046 : decode cL_refuses 1046 = .ok (.iconst 0, 1) := by decide +kernel
theorem dL_refuses_1047 : decode cL_refuses 1047 = .ok (.iload_n 2, 1) := by decide +kernel
theorem dL_refuses_1048 : decode cL_refuses 1048 = .ok (.bipush 8, 2) := by decide +kernel
theorem dL_refuses_1050 : decode cL_refuses 1050 = .ok (.irem, 1) := by decide +kernel
theorem dL_refuses_1051 : decode cL_refuses 1051 = .ok (.iconst (-1), 1) := by decide +kernel
theorem dL_refuses_1052 : decode cL_refuses 1052 = .ok (.iload_n 2, 1) := by decide +kernel
theorem dL_refuses_1053 : decode cL_refuses 1053 = .ok (.isub, 1) := by decide +kernel
theorem dL_refuses_1054 : decode cL_refuses 1054 = .ok (.invokestatic 239, 3) := by decide +kernel
theorem dL_refuses_1057 : decode cL_refuses 1057 = .ok (.ldc 15, 2) := by decide +kernel
theorem dL_refuses_1059 : decode cL_refuses 1059 = .ok (.if_icmp .ne 22, 3) := by decide +kernel
theorem dL_refuses_1062 : decode cL_refuses 1062 = .ok (.aload_n 0, 1) := by decide +kernel
theorem dL_refuses_1063 : decode cL_refuses 1063 = .ok (.iconst 0, 1) := by decide +kernel
theorem dL_refuses_1064 : decode cL_refuses 1064 = .ok (.bipush 8, 2) := by decide +kernel
theorem dL_refuses_1066 : decode cL_refuses 1066 = .ok (.iload_n 2, 1) := by decide +kernel
theorem dL_refuses_1067 : decode cL_refuses 1067 = .ok (.iadd, 1) := by decide +kernel
theorem dL_refuses_1068 : decode cL_refuses 1068 = .ok (.iconst 0, 1) := by decide +kernel
theorem dL_refuses_1069 : decode cL_refuses 1069 = .ok (.invokestatic 239, 3) := by decide +kernel
theorem dL_refuses_1072 : decode cL_refuses 1072 = .ok (.ldc 15, 2) := by decide +kernel
theorem dL_refuses_1074 : decode cL_refuses 1074 = .ok (.if_icmp .ne 7, 3) := by decide +kernel
theorem dL_refuses_1077 : decode cL_refuses 1077 = .ok (.iconst 1, 1) := by decide +kernel
theorem dL_refuses_1078 : decode cL_refuses 1078 = .ok (.goto 4, 3) := by decide +kernel
theorem dL_refuses_1082 : decode cL_refuses 1082 = .ok (.istore 7, 2) := by decide +kernel
theorem dL_refuses_1084 : decode cL_refuses 1084 = .ok (.iload 7, 2) := by decide +kernel
theorem dL_refuses_1086 : decode cL_refuses 1086 = .ok (.ifCond .eq 303, 3) := by decide +kernel
theorem dL_refuses_1089 : decode cL_refuses 1089 = .ok (.aload_n 1, 1) := by decide +kernel
theorem dL_refuses_1090 : decode cL_refuses 1090 = .ok (.iconst 0, 1) := by decide +kernel
theorem dL_refuses_1091 : decode cL_refuses 1091 = .ok (.iaload, 1) := by decide +kernel
theorem dL_refuses_1092 : decode cL_refuses 1092 = .ok (.ifCond .le 297, 3) := by decide +kernel
theorem dL_refuses_1095 : decode cL_refuses 1095 = .ok (.iload_n 2, 1) := by decide +kernel
theorem dL_refuses_1096 : decode cL_refuses 1096 = .ok (.bipush 50, 2) := by decide +kernel
theorem dL_refuses_1098 : decode cL_refuses 1098 = .ok (.idiv, 1) := by decide +kernel
theorem dL_refuses_1099 : decode cL_refuses 1099 = .ok (.aload_n 1, 1) := by decide +kernel
theorem dL_refuses_1100 : decode cL_refuses 1100 = .ok (.iconst 0, 1) := by decide +kernel
theorem dL_refuses_1101 : decode cL_refuses 1101 = .ok (.iaload, 1) := by decide +kernel
theorem dL_refuses_1102 : decode cL_refuses 1102 = .ok (.irem, 1) := by decide +kernel
theorem dL_refuses_1103 : decode cL_refuses 1103 = .ok (.istore 8, 2) := by decide +kernel
theorem dL_refuses_1105 : decode cL_refuses 1105 = .ok (.aload_n 0, 1) := by decide +kernel
theorem dL_refuses_1106 : decode cL_refuses 1106 = .ok (.iload 8, 2) := by decide +kernel
theorem dL_refuses_1108 : decode cL_refuses 1108 = .ok (.invokestatic 183, 3) := by decide +kernel
theorem dL_refuses_1111 : decode cL_refuses 1111 = .ok (.istore 9, 2) := by decide +kernel
theorem dL_refuses_1113 : decode cL_refuses 1113 = .ok (.aload_n 0, 1) := by decide +kernel
theorem dL_refuses_1114 : decode cL_refuses 1114 = .ok (.iconst 0, 1) := by decide +kernel
theorem dL_refuses_1115 : decode cL_refuses 1115 = .ok (.iload 8, 2) := by decide +kernel
theorem dL_refuses_1117 : decode cL_refuses 1117 = .ok (.invokestatic 196, 3) := by decide +kernel
theorem dL_refuses_1120 : decode cL_refuses 1120 = .ok (.istore 10, 2) := by decide +kernel
theorem dL_refuses_1122 : decode cL_refuses 1122 = .ok (.aload_n 0, 1) := by decide +kernel
theorem dL_refuses_1123 : decode cL_refuses 1123 = .ok (.iload 8, 2) := by decide +kernel
theorem dL_refuses_1125 : decode cL_refuses 1125 = .ok (.iload_n 3, 1) := by decide +kernel
theorem dL_refuses_1126 : decode cL_refuses 1126 = .ok (.ifCond .eq 9, 3) := by decide +kernel
theorem dL_refuses_1135 : decode cL_refuses 1135 = .ok (.iload 9, 2) := by decide +kernel
theorem dL_refuses_1137 : decode cL_refuses 1137 = .ok (.iconst 1, 1) := by decide +kernel
theorem dL_refuses_1138 : decode cL_refuses 1138 = .ok (.iadd, 1) := by decide +kernel
theorem dL_refuses_1139 : decode cL_refuses 1139 = .ok (.iload_n 2, 1) := by decide +kernel
theorem dL_refuses_1140 : decode cL_refuses 1140 = .ok (.iadd, 1) := by decide +kernel
theorem dL_refuses_1141 : decode cL_refuses 1141 = .ok (.iconst 0, 1) := by decide +kernel
theorem dL_refuses_1142 : decode cL_refuses 1142 = .ok (.invokestatic 154, 3) := by decide +kernel
theorem dL_refuses_1145 : decode cL_refuses 1145 = .ok (.ldc 15, 2) := by decide +kernel
theorem dL_refuses_1147 : decode cL_refuses 1147 = .ok (.if_icmp .ne 239, 3) := by decide +kernel
theorem dL_refuses_1150 : decode cL_refuses 1150 = .ok (.aload_n 0, 1) := by decide +kernel
theorem dL_refuses_1151 : decode cL_refuses 1151 = .ok (.iload 8, 2) := by decide +kernel
theorem dL_refuses_1153 : decode cL_refuses 1153 = .ok (.iload 9, 2) := by decide +kernel
theorem dL_refuses_1155 : decode cL_refuses 1155 = .ok (.iload_n 2, 1) := by decide +kernel
theorem dL_refuses_1156 : decode cL_refuses 1156 = .ok (.iadd, 1) := by decide +kernel
theorem dL_refuses_1157 : decode cL_refuses 1157 = .ok (.invokestatic 158, 3) := by decide +kernel
theorem dL_refuses_1160 : decode cL_refuses 1160 = .ok (.ldc 15, 2) := by decide +kernel
theorem dL_refuses_1162 : decode cL_refuses 1162 = .ok (.if_icmp .ne 224, 3) := by decide +kernel
theorem dL_refuses_1165 : decode cL_refuses 1165 = .ok (.aload_n 0, 1) := by decide +kernel
theorem dL_refuses_1166 : decode cL_refuses 1166 = .ok (.iload 8, 2) := by decide +kernel
theorem dL_refuses_1168 : decode cL_refuses 1168 = .ok (.iconst (-1), 1) := by decide +kernel
theorem dL_refuses_1169 : decode cL_refuses 1169 = .ok (.iload_n 2, 1) := by decide +kernel
theorem dL_refuses_1170 : decode cL_refuses 1170 = .ok (.isub, 1) := by decide +kernel
theorem dL_refuses_1171 : decode cL_refuses 1171 = .ok (.invokestatic 186, 3) := by decide +kernel
theorem dL_refuses_1174 : decode cL_refuses 1174 = .ok (.ldc 15, 2) := by decide +kernel
theorem dL_refuses_1176 : decode cL_refuses 1176 = .ok (.if_icmp .ne 210, 3) := by decide +kernel
theorem dL_refuses_1179 : decode cL_refuses 1179 = .ok (.aload_n 0, 1) := by decide +kernel
theorem dL_refuses_1180 : decode cL_refuses 1180 = .ok (.iload 8, 2) := by decide +kernel
theorem dL_refuses_1182 : decode cL_refuses 1182 = .ok (.iload_n 3, 1) := by decide +kernel
theorem dL_refuses_1183 : decode cL_refuses 1183 = .ok (.ifCond .eq 9, 3) := by decide +kernel
theorem dL_refuses_1192 : decode cL_refuses 1192 = .ok (.bipush 7, 2) := by decide +kernel
theorem dL_refuses_1194 : decode cL_refuses 1194 = .ok (.iload_n 2, 1) := by decide +kernel
theorem dL_refuses_1195 : decode cL_refuses 1195 = .ok (.iadd, 1) := by decide +kernel
theorem dL_refuses_1196 : decode cL_refuses 1196 = .ok (.iconst 0, 1) := by decide +kernel
theorem dL_refuses_1197 : decode cL_refuses 1197 = .ok (.invokestatic 167, 3) := by decide +kernel
theorem dL_refuses_1200 : decode cL_refuses 1200 = .ok (.ldc 15, 2) := by decide +kernel
theorem dL_refuses_1202 : decode cL_refuses 1202 = .ok (.if_icmp .ne 184, 3) := by decide +kernel
theorem dL_refuses_1205 : decode cL_refuses 1205 = .ok (.aload_n 0, 1) := by decide +kernel
theorem dL_refuses_1206 : decode cL_refuses 1206 = .ok (.iload 8, 2) := by decide +kernel
theorem dL_refuses_1208 : decode cL_refuses 1208 = .ok (.iload_n 2, 1) := by decide +kernel
theorem dL_refuses_1209 : decode cL_refuses 1209 = .ok (.bipush 7, 2) := by decide +kernel
theorem dL_refuses_1211 : decode cL_refuses 1211 = .ok (.irem, 1) := by decide +kernel
theorem dL_refuses_1212 : decode cL_refuses 1212 = .ok (.iload_n 3, 1) := by decide +kernel
theorem dL_refuses_1213 : decode cL_refuses 1213 = .ok (.ifCond .eq 10, 3) := by decide +kernel
theorem dL_refuses_1223 : decode cL_refuses 1223 = .ok (.bipush 31, 2) := by decide +kernel
theorem dL_refuses_1225 : decode cL_refuses 1225 = .ok (.iload_n 2, 1) := by decide +kernel
theorem dL_refuses_1226 : decode cL_refuses 1226 = .ok (.iadd, 1) := by decide +kernel
theorem dL_refuses_1227 : decode cL_refuses 1227 = .ok (.invokestatic 167, 3) := by decide +kernel
theorem dL_refuses_1230 : decode cL_refuses 1230 = .ok (.ldc 25, 2) := by decide +kernel
theorem dL_refuses_1232 : decode cL_refuses 1232 = .ok (.if_icmp .ne 154, 3) := by decide +kernel
theorem dL_refuses_1235 : decode cL_refuses 1235 = .ok (.aload_n 0, 1) := by decide +kernel
theorem dL_refuses_1236 : decode cL_refuses 1236 = .ok (.iload 8, 2) := by decide +kernel
theorem dL_refuses_1238 : decode cL_refuses 1238 = .ok (.iconst 4, 1) := by decide +kernel
theorem dL_refuses_1239 : decode cL_refuses 1239 = .ok (.iload_n 2, 1) := by decide +kernel
theorem dL_refuses_1240 : decode cL_refuses 1240 = .ok (.iadd, 1) := by decide +kernel
theorem dL_refuses_1241 : decode cL_refuses 1241 = .ok (.iconst 0, 1) := by decide +kernel
theorem dL_refuses_1242 : decode cL_refuses 1242 = .ok (.iconst 1, 1) := by decide +kernel
theorem dL_refuses_1243 : decode cL_refuses 1243 = .ok (.iconst 0, 1) := by decide +kernel
theorem dL_refuses_1244 : decode cL_refuses 1244 = .ok (.iconst 0, 1) := by decide +kernel
theorem dL_refuses_1245 : decode cL_refuses 1245 = .ok (.invokestatic 170, 3) := by decide +kernel
theorem dL_refuses_1248 : decode cL_refuses 1248 = .ok (.ldc 25, 2) := by decide +kernel
theorem dL_refuses_1250 : decode cL_refuses 1250 = .ok (.if_icmp .ne 136, 3) := by decide +kernel
theorem dL_refuses_1253 : decode cL_refuses 1253 = .ok (.aload_n 0, 1) := by decide +kernel
theorem dL_refuses_1254 : decode cL_refuses 1254 = .ok (.iload 8, 2) := by decide +kernel
theorem dL_refuses_1256 : decode cL_refuses 1256 = .ok (.iconst 0, 1) := by decide +kernel
theorem dL_refuses_1257 : decode cL_refuses 1257 = .ok (.iconst 0, 1) := by decide +kernel
theorem dL_refuses_1258 : decode cL_refuses 1258 = .ok (.iconst 1, 1) := by decide +kernel
theorem dL_refuses_1259 : decode cL_refuses 1259 = .ok (.iconst 5, 1) := by decide +kernel
theorem dL_refuses_1260 : decode cL_refuses 1260 = .ok (.iconst 4, 1) := by decide +kernel
theorem dL_refuses_1261 : decode cL_refuses 1261 = .ok (.invokestatic 170, 3) := by decide +kernel
theorem dL_refuses_1264 : decode cL_refuses 1264 = .ok (.ldc 25, 2) := by decide +kernel
theorem dL_refuses_1266 : decode cL_refuses 1266 = .ok (.if_icmp .ne 120, 3) := by decide +kernel
theorem dL_refuses_1269 : decode cL_refuses 1269 = .ok (.aload_n 0, 1) := by decide +kernel
theorem dL_refuses_1270 : decode cL_refuses 1270 = .ok (.iconst 0, 1) := by decide +kernel
theorem dL_refuses_1271 : decode cL_refuses 1271 = .ok (.iload 8, 2) := by decide +kernel
theorem dL_refuses_1273 : decode cL_refuses 1273 = .ok (.iload 10, 2) := by decide +kernel
theorem dL_refuses_1275 : decode cL_refuses 1275 = .ok (.iload_n 2, 1) := by decide +kernel
theorem dL_refuses_1276 : decode cL_refuses 1276 = .ok (.iadd, 1) := by decide +kernel
theorem dL_refuses_1277 : decode cL_refuses 1277 = .ok (.invokestatic 198, 3) := by decide +kernel
theorem dL_refuses_1280 : decode cL_refuses 1280 = .ok (.ldc 15, 2) := by decide +kernel
theorem dL_refuses_1282 : decode cL_refuses 1282 = .ok (.if_icmp .ne 104, 3) := by decide +kernel
theorem dL_refuses_1285 : decode cL_refuses 1285 = .ok (.aload_n 0, 1) := by decide +kernel
theorem dL_refuses_1286 : decode cL_refuses 1286 = .ok (.iconst 0, 1) := by decide +kernel
theorem dL_refuses_1287 : decode cL_refuses 1287 = .ok (.iload 8, 2) := by decide +kernel
theorem dL_refuses_1289 : decode cL_refuses 1289 = .ok (.iconst (-1), 1) := by decide +kernel
theorem dL_refuses_1290 : decode cL_refuses 1290 = .ok (.iload_n 2, 1) := by decide +kernel
theorem dL_refuses_1291 : decode cL_refuses 1291 = .ok (.isub, 1) := by decide +kernel
theorem dL_refuses_1292 : decode cL_refuses 1292 = .ok (.invokestatic 200, 3) := by decide +kernel
theorem dL_refuses_1295 : decode cL_refuses 1295 = .ok (.ldc 15, 2) := by decide +kernel
theorem dL_refuses_1297 : decode cL_refuses 1297 = .ok (.if_icmp .ne 89, 3) := by decide +kernel
theorem dL_refuses_1300 : decode cL_refuses 1300 = .ok (.aload_n 0, 1) := by decide +kernel
theorem dL_refuses_1301 : decode cL_refuses 1301 = .ok (.iload 8, 2) := by decide +kernel
theorem dL_refuses_1303 : decode cL_refuses 1303 = .ok (.iconst 3, 1) := by decide +kernel
theorem dL_refuses_1304 : decode cL_refuses 1304 = .ok (.iload_n 2, 1) := by decide +kernel
theorem dL_refuses_1305 : decode cL_refuses 1305 = .ok (.iadd, 1) := by decide +kernel
theorem dL_refuses_1306 : decode cL_refuses 1306 = .ok (.invokestatic 190, 3) := by decide +kernel
theorem dL_refuses_1309 : decode cL_refuses 1309 = .ok (.ldc 15, 2) := by decide +kernel
theorem dL_refuses_1311 : decode cL_refuses 1311 = .ok (.if_icmp .ne 75, 3) := by decide +kernel
theorem dL_refuses_1314 : decode cL_refuses 1314 = .ok (.aload_n 0, 1) := by decide +kernel
theorem dL_refuses_1315 : decode cL_refuses 1315 = .ok (.iload 8, 2) := by decide +kernel
theorem dL_refuses_1317 : decode cL_refuses 1317 = .ok (.iconst 4, 1) := by decide +kernel
theorem dL_refuses_1318 : decode cL_refuses 1318 = .ok (.iload_n 2, 1) := by decide +kernel
theorem dL_refuses_1319 : decode cL_refuses 1319 = .ok (.iadd, 1) := by decide +kernel
theorem dL_refuses_1320 : decode cL_refuses 1320 = .ok (.invokestatic 193, 3) := by decide +kernel
theorem dL_refuses_1323 : decode cL_refuses 1323 = .ok (.ldc 15, 2) := by decide +kernel
theorem dL_refuses_1325 : decode cL_refuses 1325 = .ok (.if_icmp .ne 61, 3) := by decide +kernel
theorem dL_refuses_1328 : decode cL_refuses 1328 = .ok (.aload_n 1, 1) := by decide +kernel
theorem dL_refuses_1329 : decode cL_refuses 1329 = .ok (.iconst 1, 1) := by decide +kernel
theorem dL_refuses_1330 : decode cL_refuses 1330 = .ok (.iaload, 1) := by decide +kernel
theorem dL_refuses_1331 : decode cL_refuses 1331 = .ok (.ifCond .gt 15, 3) := by decide +kernel
theorem dL_refuses_1334 : decode cL_refuses 1334 = .ok (.aload_n 0, 1) := by decide +kernel
theorem dL_refuses_1335 : decode cL_refuses 1335 = .ok (.iload 8, 2) := by decide +kernel
theorem dL_refuses_1337 : decode cL_refuses 1337 = .ok (.iconst 0, 1) := by decide +kernel
theorem dL_refuses_1338 : decode cL_refuses 1338 = .ok (.invokestatic 152, 3) := by decide +kernel
theorem dL_refuses_1341 : decode cL_refuses 1341 = .ok (.ldc 18, 2) := by decide +kernel
theorem dL_refuses_1343 : decode cL_refuses 1343 = .ok (.if_icmp .ne 43, 3) := by decide +kernel
theorem dL_refuses_1346 : decode cL_refuses 1346 = .ok (.iload 9, 2) := by decide +kernel
theorem dL_refuses_1348 : decode cL_refuses 1348 = .ok (.bipush 12, 2) := by decide +kernel
theorem dL_refuses_1350 : decode cL_refuses 1350 = .ok (.if_icmp .lt 16, 3) := by decide +kernel
theorem dL_refuses_1353 : decode cL_refuses 1353 = .ok (.aload_n 0, 1) := by decide +kernel
theorem dL_refuses_1354 : decode cL_refuses 1354 = .ok (.iload 8, 2) := by decide +kernel
theorem dL_refuses_1356 : decode cL_refuses 1356 = .ok (.iconst 0, 1) := by decide +kernel
theorem dL_refuses_1357 : decode cL_refuses 1357 = .ok (.iconst 0, 1) := by decide +kernel
theorem dL_refuses_1358 : decode cL_refuses 1358 = .ok (.invokestatic 154, 3) := by decide +kernel
theorem dL_refuses_1361 : decode cL_refuses 1361 = .ok (.ldc 18, 2) := by decide +kernel
theorem dL_refuses_1363 : decode cL_refuses 1363 = .ok (.if_icmp .ne 23, 3) := by decide +kernel
theorem dL_refuses_1366 : decode cL_refuses 1366 = .ok (.aload_n 0, 1) := by decide +kernel
theorem dL_refuses_1367 : decode cL_refuses 1367 = .ok (.iconst 1, 1) := by decide +kernel
theorem dL_refuses_1368 : decode cL_refuses 1368 = .ok (.iload 8, 2) := by decide +kernel
theorem dL_refuses_1370 : decode cL_refuses 1370 = .ok (.iload 9, 2) := by decide +kernel
theorem dL_refuses_1372 : decode cL_refuses 1372 = .ok (.iload_n 2, 1) := by decide +kernel
theorem dL_refuses_1373 : decode cL_refuses 1373 = .ok (.iadd, 1) := by decide +kernel
theorem dL_refuses_1374 : decode cL_refuses 1374 = .ok (.invokestatic 226, 3) := by decide +kernel
theorem dL_refuses_1377 : decode cL_refuses 1377 = .ok (.ldc 15, 2) := by decide +kernel
theorem dL_refuses_1379 : decode cL_refuses 1379 = .ok (.if_icmp .ne 7, 3) := by decide +kernel
theorem dL_refuses_1382 : decode cL_refuses 1382 = .ok (.iconst 1, 1) := by decide +kernel
theorem dL_refuses_1383 : decode cL_refuses 1383 = .ok (.goto 4, 3) := by decide +kernel
theorem dL_refuses_1387 : decode cL_refuses 1387 = .ok (.istore 7, 2) := by decide +kernel
theorem dL_refuses_1389 : decode cL_refuses 1389 = .ok (.iload 7, 2) := by decide +kernel
theorem dL_refuses_1391 : decode cL_refuses 1391 = .ok (.ireturn, 1) := by decide +kernel
set_option maxHeartbeats 4000000 in
set_option maxRecDepth 100000 in
theorem w_refuses_c1314_14 (l : Launch) (dC : Nat → ClassId) (dI : Nat → Nat → Nat) (k : Nat → ClassId) (hl0 : l.stackTraces = false) (T : Nat → Int → Int → Int → Int) (K : Nat → Int → Int) (qa : Nat) (cp : Nat) (tl : va_W) (na : Nat) (nf : Int → Int) (xx : Int) (cpS : Nat) (tlS : va_W) (hc0 : 512 ≤ cp ∧ cp ≤ 131072) (hPS : PS dI k T K qa cpS tlS) (hQ : OKT T K) (hx9 : 0 ≤ xx ∧ xx < 9973) (hn9 : nf 0 = T 0 0 0 0 ∧ nf 1 = K 0 0 ∧ nf 2 = T 12 0 0 0 ∧ nf 3 = T 18 0 0 0) (hcS : cp ≤ cpS ∧ cpS ≤ 131072) (zc_543 : 0 < (T 0 0 0 0)) (z_544 : 0 ≤ ((xx / 50) % (T 0 0 0 0)) ∧ ((xx / 50) % (T 0 0 0 0)) < (T 0 0 0 0)) (z_545 : 0 ≤ T 3 ((xx / 50) % (T 0 0 0 0)) 0 0 ∧ T 3 ((xx / 50) % (T 0 0 0 0)) 0 0 ≤ 12) (z_550 : 0 ≤ ((xx / 50) % (T 0 0 0 0)) ∧ ((xx / 50) % (T 0 0 0 0)) < T 0 0 0 0) (z_556 : 0 ≤ LCz T 0 (dgN T 0) ((xx / 50) % (T 0 0 0 0)) ∧ LCz T 0 (dgN T 0) ((xx / 50) % (T 0 0 0 0)) ≤ 48) {p : Program} {e : Env} {s : State} {m : MethodId} {args : Array Value} {below : List Frame} {meth : Method} {c : Code} {H : Heap} {locs : List Loc} {ls : Array Slot} (B : bd p s m args meth c cL_refuses 11 yL_refuses.cls dC dI k (va_A ([(na, .inl (k 0, 4, .inl (fun i9 : Nat => iI (nf i9))))] ++ tl) s.heap.size) ([(na, .inl (k 0, 4, .inl (fun i9 : Nat => iI (nf i9))))] ++ tlS) H locs) (hr : meth.sig.returnType = (some .boolean)) (hl : lv_has ls 11 [(10, .int (iI (LCz T 0 (dgN T 0) ((xx / 50) % (T 0 0 0 0))))), (9, .int (iI (T 3 ((xx / 50) % (T 0 0 0 0)) 0 0))), (8, .int (iI ((xx / 50) % (T 0 0 0 0)))), (7, .int (iI 1)), (6, .int (iI ((T 12 0 0 0) + (xx % 50)))), (5, .int (iI ((T 0 0 0 0) + (xx % 50)))), (4, .int (iI (2 + (xx % 50)))), (3, .int (iI 0)), (0, .ref qa), (1, .ref na), (2, .int (iI xx))]) : W p l e ({ frames := 16, cells := ((131072 - cp) + 129), slots := ((12 * (131072 - cp)) + 1266), locals := 495 } : Room) s m args below meth c H locs ((cpS - cp) + 119) ((12 * (cpS - cp)) + 1134) (MQ below (Qk dC dI ([(na, .inl (k 0, 4, .inl (fun i9 : Nat => iI (nf i9))))] ++ tl) s.heap.size (fun r w gc gs => (∃ (cp2 : Nat) (tl2 : va_W), (PS dI k T K qa cp2 tl2) ∧ (cp ≤ cp2 ∧ cp2 ≤ 131072) ∧ r = some (.int (iI 1)) ∧ w = ([(na, .inl (k 0, 4, .inl (fun i9 : Nat => iI (nf i9))))] ++ tl2) ∧ gc = ((cp2 - cp) + 129) ∧ gs = ((12 * (cp2 - cp)) + 1266)))) args s ({ frames := 16, cells := ((131072 - cp) + 129), slots := ((12 * (131072 - cp)) + 1266), locals := 495 } : Room).cells ({ frames := 16, cells := ((131072 - cp) + 129), slots := ((12 * (131072 - cp)) + 1266), locals := 495 } : Room).slots (va_A ([(na, .inl (k 0, 4, .inl (fun i9 : Nat => iI (nf i9))))] ++ tl) s.heap.size)) (F0 m 1314 ls []) := by
  have hx := B.1.1
  have hb := B.1.2.1
  have hcp9 := PS_cp hPS
  have hn0 := TK_nb hQ.1
  have hk0 := hQ.2.1.1
  have hf0 := TK_fc hQ.1
  have hp0 := TK_np hQ.1
  have hm0 : lmZ 0 = 1 := rfl
  have hm1 : lmZ 1 = 0 := rfl
  have hm2 : lmZ 2 = 0 := rfl
  have hm3 : lmZ 3 = 0 := rfl
  have hm4 : lmZ 4 = 0 := rfl
  have hm5 : mmZ T 0 = 5 := rfl
  have hm6 : mmZ T 1 = T 12 0 0 0 - 1 := rfl
  have hm7 : mmZ T 2 = 5 := rfl
  have hm8 : mmZ T 3 = 7 := rfl
  have hm9 : mmZ T 4 = 1 := rfl
  refine lv_aload_n hx hb dL_refuses_1314 rfl (lv_at hl 8 rfl) ?_
  refine lv_iload hx hb dL_refuses_1315 (lv_at hl 2 rfl) ?_
  refine lv_iconst (v := iI 4) hx hb dL_refuses_1317 (by decide) ?_
  refine lv_iload_n hx hb dL_refuses_1318 rfl (lv_at hl 10 rfl) ?_
  refine y_add hx hb dL_refuses_1319 ?_
  have z_667 : 0 ≤ rcT T ((xx / 50) % (T 0 0 0 0)) ∧ rcT T ((xx / 50) % (T 0 0 0 0)) ≤ 4 := rcZ_in 12 (Nat.le_refl _)
  have B := bd_swap (a := []) (b := [(na, .inl (k 0, 4, .inl (fun i9 : Nat => iI (nf i9))))]) (d := tlS) (bd_to rfl B)
  refine k_W (rest := []) (wc := ([] ++ tlS)) (wr := [(na, .inl (k 0, 4, .inl (fun i9 : Nat => iI (nf i9))))]) (w_high l dC dI k hl0 T K qa cpS tlS ((xx / 50) % (T 0 0 0 0)) (4 + xx) hPS hQ (by omega) (by omega)) B mW_L_high mw_1348 hl ⟨Nat.le_of_ble_eq_true rfl, Nat.le_of_ble_eq_true rfl⟩ (Nat.le_of_ble_eq_true rfl) rfl dL_refuses_1320 ⟨by dsimp only; omega, by dsimp only; omega⟩ (fun r w gc gs H locs hp B => ?_)
  rcases hp with ⟨cp2_668, tl2_669, z_670, z_671, z_672, rfl, hw9, rfl, rfl⟩ | ⟨cp2_673, tl2_674, z_675, z_676, z_677, rfl, hw9, rfl, rfl⟩
  · skip
    rw [hw9] at B; clear hw9
    have B := bd_to (ws' := ([(na, .inl (k 0, 4, .inl (fun i9 : Nat => iI (nf i9))))] ++ tl2_669)) rfl B
    have hPS : PS dI k T K qa cp2_668 tl2_669 := z_670
    exfalso; omega
  · skip
    rw [hw9] at B; clear hw9
    have B := bd_to (ws' := ([(na, .inl (k 0, 4, .inl (fun i9 : Nat => iI (nf i9))))] ++ tl2_674)) rfl B
    have hPS : PS dI k T K qa cp2_673 tl2_674 := z_675
    refine W.widen (k := ((cp2_673 - cp) + 120)) (n := ((12 * (cp2_673 - cp)) + 1140)) (by omega) (by omega) ?_
    refine lv_ldc (v := (-2000000001)) hx hb B.1.2.2.2.1 (B.1.2.2.2.2.1 _ mw_593) dL_refuses_1323 ?_
    refine lv_seti (y := iI (-2000000001)) (by decide) ?_
    refine lv_icmp_ne (tgt := 1386) hx hb dL_refuses_1325 (by decide) (fun c9 => absurd c9 (by decide)) (fun _ => ?_)
    refine k_joinG (σ := Nat × va_W) B 1346 (fun g9 : Nat × va_W => (PS dI k T K qa g9.1 g9.2) ∧ (cp ≤ g9.1 ∧ g9.1 ≤ 131072)) (fun g9 : Nat × va_W => [(10, .int (iI (LCz T 0 (dgN T 0) ((xx / 50) % (T 0 0 0 0))))), (9, .int (iI (T 3 ((xx / 50) % (T 0 0 0 0)) 0 0))), (8, .int (iI ((xx / 50) % (T 0 0 0 0)))), (7, .int (iI 1)), (6, .int (iI ((T 12 0 0 0) + (xx % 50)))), (5, .int (iI ((T 0 0 0 0) + (xx % 50)))), (4, .int (iI (2 + (xx % 50)))), (3, .int (iI 0)), (0, .ref qa), (1, .ref na), (2, .int (iI xx))]) (fun g9 : Nat × va_W => ([(na, .inl (k 0, 4, .inl (fun i9 : Nat => iI (nf i9))))] ++ g9.2)) (fun g9 : Nat × va_W => ((g9.1 - cp) + 124)) (fun g9 : Nat × va_W => ((12 * (g9.1 - cp)) + 1200)) (fun g9 : Nat × va_W => []) ?_ (fun J_678 => ?_)
    · clear hl B
      rintro ⟨cpE, tlE⟩ ⟨hPS, hcE⟩ ls H locs hl B
      have hPS : PS dI k T K qa cpE tlE := hPS
      have hcE : cp ≤ cpE ∧ cpE ≤ 131072 := hcE
      show W p l e _ s m args below meth c H locs (((cpE - cp) + 124)) (((12 * (cpE - cp)) + 1200)) _ _
      have hl : lv_has ls 11 [(10, .int (iI (LCz T 0 (dgN T 0) ((xx / 50) % (T 0 0 0 0))))), (9, .int (iI (T 3 ((xx / 50) % (T 0 0 0 0)) 0 0))), (8, .int (iI ((xx / 50) % (T 0 0 0 0)))), (7, .int (iI 1)), (6, .int (iI ((T 12 0 0 0) + (xx % 50)))), (5, .int (iI ((T 0 0 0 0) + (xx % 50)))), (4, .int (iI (2 + (xx % 50)))), (3, .int (iI 0)), (0, .ref qa), (1, .ref na), (2, .int (iI xx))] := hl
      have B := bd_to (ws' := ([(na, .inl (k 0, 4, .inl (fun i9 : Nat => iI (nf i9))))] ++ tlE)) rfl B
      refine k_joinG (σ := Nat × va_W) B 1366 (fun g9 : Nat × va_W => (PS dI k T K qa g9.1 g9.2) ∧ (cp ≤ g9.1 ∧ g9.1 ≤ 131072)) (fun g9 : Nat × va_W => [(10, .int (iI (LCz T 0 (dgN T 0) ((xx / 50) % (T 0 0 0 0))))), (9, .int (iI (T 3 ((xx / 50) % (T 0 0 0 0)) 0 0))), (8, .int (iI ((xx / 50) % (T 0 0 0 0)))), (7, .int (iI 1)), (6, .int (iI ((T 12 0 0 0) + (xx % 50)))), (5, .int (iI ((T 0 0 0 0) + (xx % 50)))), (4, .int (iI (2 + (xx % 50)))), (3, .int (iI 0)), (0, .ref qa), (1, .ref na), (2, .int (iI xx))]) (fun g9 : Nat × va_W => ([(na, .inl (k 0, 4, .inl (fun i9 : Nat => iI (nf i9))))] ++ g9.2)) (fun g9 : Nat × va_W => ((g9.1 - cp) + 128)) (fun g9 : Nat × va_W => ((12 * (g9.1 - cp)) + 1260)) (fun g9 : Nat × va_W => []) ?_ (fun J_679 => ?_)
      · clear hl B
        rintro ⟨cpF, tlF⟩ ⟨hPS, hcF⟩ ls H locs hl B
        have hPS : PS dI k T K qa cpF tlF := hPS
        have hcF : cp ≤ cpF ∧ cpF ≤ 131072 := hcF
        show W p l e _ s m args below meth c H locs (((cpF - cp) + 128)) (((12 * (cpF - cp)) + 1260)) _ _
        have hl : lv_has ls 11 [(10, .int (iI (LCz T 0 (dgN T 0) ((xx / 50) % (T 0 0 0 0))))), (9, .int (iI (T 3 ((xx / 50) % (T 0 0 0 0)) 0 0))), (8, .int (iI ((xx / 50) % (T 0 0 0 0)))), (7, .int (iI 1)), (6, .int (iI ((T 12 0 0 0) + (xx % 50)))), (5, .int (iI ((T 0 0 0 0) + (xx % 50)))), (4, .int (iI (2 + (xx % 50)))), (3, .int (iI 0)), (0, .ref qa), (1, .ref na), (2, .int (iI xx))] := hl
        have B := bd_to (ws' := ([(na, .inl (k 0, 4, .inl (fun i9 : Nat => iI (nf i9))))] ++ tlF)) rfl B
        refine lv_aload_n hx hb dL_refuses_1366 rfl (lv_at hl 8 rfl) ?_
        refine lv_iconst (v := iI 1) hx hb dL_refuses_1367 (by decide) ?_
        refine lv_iload hx hb dL_refuses_1368 (lv_at hl 2 rfl) ?_
        refine lv_iload hx hb dL_refuses_1370 (lv_at hl 1 rfl) ?_
        refine lv_iload_n hx hb dL_refuses_1372 rfl (lv_at hl 10 rfl) ?_
        refine y_add hx hb dL_refuses_1373 ?_
        have B := bd_swap (a := []) (b := [(na, .inl (k 0, 4, .inl (fun i9 : Nat => iI (nf i9))))]) (d := tlF) (bd_to rfl B)
        refine k_W (rest := []) (wc := ([] ++ tlF)) (wr := [(na, .inl (k 0, 4, .inl (fun i9 : Nat => iI (nf i9))))]) (w_whereIs l dC dI k hl0 T K qa cpF tlF 1 ((xx / 50) % (T 0 0 0 0)) ((T 3 ((xx / 50) % (T 0 0 0 0)) 0 0) + xx) hPS hQ (by omega) (by omega) (by omega)) B mW_L_whereIs mw_1791 hl ⟨Nat.le_of_ble_eq_true rfl, Nat.le_of_ble_eq_true rfl⟩ (Nat.le_of_ble_eq_true rfl) rfl dL_refuses_1374 ⟨by dsimp only; omega, by dsimp only; omega⟩ (fun r w gc gs H locs hp B => ?_)
        rcases hp with ⟨cp2_680, tl2_681, z_682, z_683, z_684, rfl, hw9, rfl, rfl⟩ | ⟨cp2_685, tl2_686, z_687, z_688, z_689, rfl, hw9, rfl, rfl⟩
        · skip
          rw [hw9] at B; clear hw9
          have B := bd_to (ws' := ([(na, .inl (k 0, 4, .inl (fun i9 : Nat => iI (nf i9))))] ++ tl2_681)) rfl B
          have hPS : PS dI k T K qa cp2_680 tl2_681 := z_682
          exfalso; omega
        · skip
          rw [hw9] at B; clear hw9
          have B := bd_to (ws' := ([(na, .inl (k 0, 4, .inl (fun i9 : Nat => iI (nf i9))))] ++ tl2_686)) rfl B
          have hPS : PS dI k T K qa cp2_685 tl2_686 := z_687
          refine W.widen (k := ((cp2_685 - cp) + 129)) (n := ((12 * (cp2_685 - cp)) + 1266)) (by omega) (by omega) ?_
          refine lv_ldc (v := (-2000000001)) hx hb B.1.2.2.2.1 (B.1.2.2.2.2.1 _ mw_593) dL_refuses_1377 ?_
          refine lv_seti (y := iI (-2000000001)) (by decide) ?_
          refine lv_icmp_ne (tgt := 1386) hx hb dL_refuses_1379 (by decide) (fun c9 => absurd c9 (by decide)) (fun _ => ?_)
          refine lv_iconst (v := iI 1) hx hb dL_refuses_1382 (by decide) ?_
          refine lv_goto (tgt := 1387) hx hb dL_refuses_1383 (by decide) ?_
          refine lv_istore (lv' := [(7, .int (iI 1)), (10, .int (iI (LCz T 0 (dgN T 0) ((xx / 50) % (T 0 0 0 0))))), (9, .int (iI (T 3 ((xx / 50) % (T 0 0 0 0)) 0 0))), (8, .int (iI ((xx / 50) % (T 0 0 0 0)))), (6, .int (iI ((T 12 0 0 0) + (xx % 50)))), (5, .int (iI ((T 0 0 0 0) + (xx % 50)))), (4, .int (iI (2 + (xx % 50)))), (3, .int (iI 0)), (0, .ref qa), (1, .ref na), (2, .int (iI xx))]) hx hb dL_refuses_1387 hl (by decide) rfl (fun ls hl => ?_)
          refine lv_iload hx hb dL_refuses_1389 (lv_at hl 0 rfl) ?_
          exact k_zret B hr (by omega) (⟨cp2_685, tl2_686, z_687, (by omega), rfl, rfl, rfl, rfl⟩) ⟨(by first | omega | (dsimp only; omega)), (by first | omega | (dsimp only; omega))⟩ ⟨(by first | omega | (dsimp only; omega)), (by first | omega | (dsimp only; omega))⟩ dL_refuses_1391
      refine lv_iload hx hb dL_refuses_1346 (lv_at hl 1 rfl) ?_
      refine lv_bipush (v := iI 12) hx hb dL_refuses_1348 (by decide) ?_
      refine lv_icmp_lt (tgt := 1366) hx hb dL_refuses_1350 (by decide) (fun c_690 => ?_) (fun c_690 => ?_)
      · have zc_690 : (T 3 ((xx / 50) % (T 0 0 0 0)) 0 0) < 12 := jlt (a := (T 3 ((xx / 50) % (T 0 0 0 0)) 0 0)) (b := 12) (by omega) (by omega) c_690
        refine W.widen (k := ((cpE - cp) + 128)) (n := ((12 * (cpE - cp)) + 1260)) (by omega) (by omega) ?_
        exact J_679 (cpE, tlE) ⟨(show PS dI k T K qa cpE tlE from hPS), (show cp ≤ cpE ∧ cpE ≤ 131072 from hcE)⟩ _ _ _ (lv_sub hl [0, 1, 2, 3, 4, 5, 6, 7, 8, 9, 10] rfl) (bd_to rfl B)
      · have zc_690 : 12 ≤ (T 3 ((xx / 50) % (T 0 0 0 0)) 0 0) := jnlt (a := (T 3 ((xx / 50) % (T 0 0 0 0)) 0 0)) (b := 12) (by omega) (by omega) c_690
        refine lv_aload_n hx hb dL_refuses_1353 rfl (lv_at hl 8 rfl) ?_
        refine lv_iload hx hb dL_refuses_1354 (lv_at hl 2 rfl) ?_
        refine lv_iconst (v := iI 0) hx hb dL_refuses_1356 (by decide) ?_
        refine lv_iconst (v := iI 0) hx hb dL_refuses_1357 (by decide) ?_
        have B := bd_swap (a := []) (b := [(na, .inl (k 0, 4, .inl (fun i9 : Nat => iI (nf i9))))]) (d := tlE) (bd_to rfl B)
        refine k_W (rest := []) (wc := ([] ++ tlE)) (wr := [(na, .inl (k 0, 4, .inl (fun i9 : Nat => iI (nf i9))))]) (w_refers l dC dI k hl0 T K qa cpE tlE ((xx / 50) % (T 0 0 0 0)) 0 0 hPS hQ (by omega) (by omega) (by omega)) B mW_L_refers mw_1090 hl ⟨Nat.le_of_ble_eq_true rfl, Nat.le_of_ble_eq_true rfl⟩ (Nat.le_of_ble_eq_true rfl) rfl dL_refuses_1358 ⟨by dsimp only; omega, by dsimp only; omega⟩ (fun r w gc gs H locs hp B => ?_)
        rcases hp with ⟨tl2_691, z_692, z_693, rfl, hw9, rfl, rfl⟩ | ⟨tl2_694, z_695, z_696, rfl, hw9, rfl, rfl⟩ | ⟨tl2_697, z_698, z_699, rfl, hw9, rfl, rfl⟩
        · skip
          rw [hw9] at B; clear hw9
          have B := bd_to (ws' := ([(na, .inl (k 0, 4, .inl (fun i9 : Nat => iI (nf i9))))] ++ tl2_691)) rfl B
          have hPS : PS dI k (puT T ((xx / 50) % (T 0 0 0 0)) 0 0 (fun _ : Int => (0 : Int)) 0 (K 2) (gsZ T (fun _ : Int => (0 : Int)) ((0 : Nat) : Int))) (KKn (K 0 0) (K 1) (fun _ : Int => (-1))) qa cpE tl2_691 := z_692
          exfalso; omega
        · skip
          rw [hw9] at B; clear hw9
          have B := bd_to (ws' := ([(na, .inl (k 0, 4, .inl (fun i9 : Nat => iI (nf i9))))] ++ tl2_694)) rfl B
          have hPS : PS dI k T K qa cpE tl2_694 := z_695
          exfalso; omega
        · skip
          rw [hw9] at B; clear hw9
          have B := bd_to (ws' := ([(na, .inl (k 0, 4, .inl (fun i9 : Nat => iI (nf i9))))] ++ tl2_697)) rfl B
          have hPS : PS dI k T K qa cpE tl2_697 := z_698
          refine W.widen (k := ((cpE - cp) + 128)) (n := ((12 * (cpE - cp)) + 1260)) (by omega) (by omega) ?_
          refine lv_ldc (v := (-2000000003)) hx hb B.1.2.2.2.1 (B.1.2.2.2.2.1 _ mw_594) dL_refuses_1361 ?_
          refine lv_seti (y := iI (-2000000003)) (by decide) ?_
          refine lv_icmp_ne (tgt := 1386) hx hb dL_refuses_1363 (by decide) (fun c9 => absurd c9 (by decide)) (fun _ => ?_)
          refine W.widen (k := ((cpE - cp) + 128)) (n := ((12 * (cpE - cp)) + 1260)) (by omega) (by omega) ?_
          exact J_679 (cpE, tl2_697) ⟨(show PS dI k T K qa cpE tl2_697 from hPS), (show cp ≤ cpE ∧ cpE ≤ 131072 from hcE)⟩ _ _ _ (lv_sub hl [0, 1, 2, 3, 4, 5, 6, 7, 8, 9, 10] rfl) (bd_to rfl B)
    refine lv_aload_n hx hb dL_refuses_1328 rfl (lv_at hl 9 rfl) ?_
    refine lv_iconst (v := iI 1) hx hb dL_refuses_1329 (by decide) ?_
    refine x_iald' (f := nf) (z := 1) B 0 rfl (by omega) dL_refuses_1330 ?_
    refine lv_seti (y := iI (K 0 0)) (congrArg iI (show nf 1 = K 0 0 from hn9.2.1)) ?_
    refine lv_if_gt (tgt := 1346) hx hb dL_refuses_1331 (by decide) (fun c_700 => ?_) (fun c_700 => ?_)
    · have zc_700 : 0 < (K 0 0) := jlt (a := 0) (b := (K 0 0)) (by omega) (by omega) c_700
      refine k_joinG (σ := Nat × va_W) B 1366 (fun g9 : Nat × va_W => (PS dI k T K qa g9.1 g9.2) ∧ (cp ≤ g9.1 ∧ g9.1 ≤ 131072)) (fun g9 : Nat × va_W => [(10, .int (iI (LCz T 0 (dgN T 0) ((xx / 50) % (T 0 0 0 0))))), (9, .int (iI (T 3 ((xx / 50) % (T 0 0 0 0)) 0 0))), (8, .int (iI ((xx / 50) % (T 0 0 0 0)))), (7, .int (iI 1)), (6, .int (iI ((T 12 0 0 0) + (xx % 50)))), (5, .int (iI ((T 0 0 0 0) + (xx % 50)))), (4, .int (iI (2 + (xx % 50)))), (3, .int (iI 0)), (0, .ref qa), (1, .ref na), (2, .int (iI xx))]) (fun g9 : Nat × va_W => ([(na, .inl (k 0, 4, .inl (fun i9 : Nat => iI (nf i9))))] ++ g9.2)) (fun g9 : Nat × va_W => ((g9.1 - cp) + 128)) (fun g9 : Nat × va_W => ((12 * (g9.1 - cp)) + 1260)) (fun g9 : Nat × va_W => []) ?_ (fun J_701 => ?_)
      · clear hl B
        rintro ⟨cpF, tlF⟩ ⟨hPS, hcF⟩ ls H locs hl B
        have hPS : PS dI k T K qa cpF tlF := hPS
        have hcF : cp ≤ cpF ∧ cpF ≤ 131072 := hcF
        show W p l e _ s m args below meth c H locs (((cpF - cp) + 128)) (((12 * (cpF - cp)) + 1260)) _ _
        have hl : lv_has ls 11 [(10, .int (iI (LCz T 0 (dgN T 0) ((xx / 50) % (T 0 0 0 0))))), (9, .int (iI (T 3 ((xx / 50) % (T 0 0 0 0)) 0 0))), (8, .int (iI ((xx / 50) % (T 0 0 0 0)))), (7, .int (iI 1)), (6, .int (iI ((T 12 0 0 0) + (xx % 50)))), (5, .int (iI ((T 0 0 0 0) + (xx % 50)))), (4, .int (iI (2 + (xx % 50)))), (3, .int (iI 0)), (0, .ref qa), (1, .ref na), (2, .int (iI xx))] := hl
        have B := bd_to (ws' := ([(na, .inl (k 0, 4, .inl (fun i9 : Nat => iI (nf i9))))] ++ tlF)) rfl B
        refine lv_aload_n hx hb dL_refuses_1366 rfl (lv_at hl 8 rfl) ?_
        refine lv_iconst (v := iI 1) hx hb dL_refuses_1367 (by decide) ?_
        refine lv_iload hx hb dL_refuses_1368 (lv_at hl 2 rfl) ?_
        refine lv_iload hx hb dL_refuses_1370 (lv_at hl 1 rfl) ?_
        refine lv_iload_n hx hb dL_refuses_1372 rfl (lv_at hl 10 rfl) ?_
        refine y_add hx hb dL_refuses_1373 ?_
        have B := bd_swap (a := []) (b := [(na, .inl (k 0, 4, .inl (fun i9 : Nat => iI (nf i9))))]) (d := tlF) (bd_to rfl B)
        refine k_W (rest := []) (wc := ([] ++ tlF)) (wr := [(na, .inl (k 0, 4, .inl (fun i9 : Nat => iI (nf i9))))]) (w_whereIs l dC dI k hl0 T K qa cpF tlF 1 ((xx / 50) % (T 0 0 0 0)) ((T 3 ((xx / 50) % (T 0 0 0 0)) 0 0) + xx) hPS hQ (by omega) (by omega) (by omega)) B mW_L_whereIs mw_1791 hl ⟨Nat.le_of_ble_eq_true rfl, Nat.le_of_ble_eq_true rfl⟩ (Nat.le_of_ble_eq_true rfl) rfl dL_refuses_1374 ⟨by dsimp only; omega, by dsimp only; omega⟩ (fun r w gc gs H locs hp B => ?_)
        rcases hp with ⟨cp2_702, tl2_703, z_704, z_705, z_706, rfl, hw9, rfl, rfl⟩ | ⟨cp2_707, tl2_708, z_709, z_710, z_711, rfl, hw9, rfl, rfl⟩
        · skip
          rw [hw9] at B; clear hw9
          have B := bd_to (ws' := ([(na, .inl (k 0, 4, .inl (fun i9 : Nat => iI (nf i9))))] ++ tl2_703)) rfl B
          have hPS : PS dI k T K qa cp2_702 tl2_703 := z_704
          exfalso; omega
        · skip
          rw [hw9] at B; clear hw9
          have B := bd_to (ws' := ([(na, .inl (k 0, 4, .inl (fun i9 : Nat => iI (nf i9))))] ++ tl2_708)) rfl B
          have hPS : PS dI k T K qa cp2_707 tl2_708 := z_709
          refine W.widen (k := ((cp2_707 - cp) + 129)) (n := ((12 * (cp2_707 - cp)) + 1266)) (by omega) (by omega) ?_
          refine lv_ldc (v := (-2000000001)) hx hb B.1.2.2.2.1 (B.1.2.2.2.2.1 _ mw_593) dL_refuses_1377 ?_
          refine lv_seti (y := iI (-2000000001)) (by decide) ?_
          refine lv_icmp_ne (tgt := 1386) hx hb dL_refuses_1379 (by decide) (fun c9 => absurd c9 (by decide)) (fun _ => ?_)
          refine lv_iconst (v := iI 1) hx hb dL_refuses_1382 (by decide) ?_
          refine lv_goto (tgt := 1387) hx hb dL_refuses_1383 (by decide) ?_
          refine lv_istore (lv' := [(7, .int (iI 1)), (10, .int (iI (LCz T 0 (dgN T 0) ((xx / 50) % (T 0 0 0 0))))), (9, .int (iI (T 3 ((xx / 50) % (T 0 0 0 0)) 0 0))), (8, .int (iI ((xx / 50) % (T 0 0 0 0)))), (6, .int (iI ((T 12 0 0 0) + (xx % 50)))), (5, .int (iI ((T 0 0 0 0) + (xx % 50)))), (4, .int (iI (2 + (xx % 50)))), (3, .int (iI 0)), (0, .ref qa), (1, .ref na), (2, .int (iI xx))]) hx hb dL_refuses_1387 hl (by decide) rfl (fun ls hl => ?_)
          refine lv_iload hx hb dL_refuses_1389 (lv_at hl 0 rfl) ?_
          exact k_zret B hr (by omega) (⟨cp2_707, tl2_708, z_709, (by omega), rfl, rfl, rfl, rfl⟩) ⟨(by first | omega | (dsimp only; omega)), (by first | omega | (dsimp only; omega))⟩ ⟨(by first | omega | (dsimp only; omega)), (by first | omega | (dsimp only; omega))⟩ dL_refuses_1391
      refine W.widen (k := ((cp2_673 - cp) + 124)) (n := ((12 * (cp2_673 - cp)) + 1200)) (by omega) (by omega) ?_
      exact J_678 (cp2_673, tl2_674) ⟨(show PS dI k T K qa cp2_673 tl2_674 from hPS), (show cp ≤ cp2_673 ∧ cp2_673 ≤ 131072 from (by omega))⟩ _ _ _ (lv_sub hl [0, 1, 2, 3, 4, 5, 6, 7, 8, 9, 10] rfl) (bd_to rfl B)
    · have zc_700 : (K 0 0) ≤ 0 := jnlt (a := 0) (b := (K 0 0)) (by omega) (by omega) c_700
      refine lv_aload_n hx hb dL_refuses_1334 rfl (lv_at hl 8 rfl) ?_
      refine lv_iload hx hb dL_refuses_1335 (lv_at hl 2 rfl) ?_
      refine lv_iconst (v := iI 0) hx hb dL_refuses_1337 (by decide) ?_
      have B := bd_swap (a := []) (b := [(na, .inl (k 0, 4, .inl (fun i9 : Nat => iI (nf i9))))]) (d := tl2_674) (bd_to rfl B)
      refine k_W (rest := []) (wc := ([] ++ tl2_674)) (wr := [(na, .inl (k 0, 4, .inl (fun i9 : Nat => iI (nf i9))))]) (w_words l dC dI k hl0 T K qa cp2_673 tl2_674 ((xx / 50) % (T 0 0 0 0)) 0 z_675 hQ (by omega) (by omega)) B mW_L_words mw_777 hl ⟨Nat.le_of_ble_eq_true rfl, Nat.le_of_ble_eq_true rfl⟩ (Nat.le_of_ble_eq_true rfl) rfl dL_refuses_1338 ⟨by dsimp only; omega, by dsimp only; omega⟩ (fun r w gc gs H locs hp B => ?_)
      rcases hp with ⟨tl2_712, z_713, z_714, rfl, hw9, rfl, rfl⟩ | ⟨tl2_715, z_716, z_717, rfl, hw9, rfl, rfl⟩ | ⟨tl2_718, z_719, z_720, rfl, hw9, rfl, rfl⟩
      · skip
        rw [hw9] at B; clear hw9
        have B := bd_to (ws' := ([(na, .inl (k 0, 4, .inl (fun i9 : Nat => iI (nf i9))))] ++ tl2_712)) rfl B
        have hPS : PS dI k (puT T ((xx / 50) % (T 0 0 0 0)) 0 (Int.toNat (K 0 0)) (spF K) (-1) (K 2) (gsZ T (spF K) ((Int.toNat (K 0 0) : Nat) : Int))) (KKn 0 (K 1) (fun _ : Int => (-1))) qa cp2_673 tl2_712 := z_713
        exfalso; omega
      · skip
        rw [hw9] at B; clear hw9
        have B := bd_to (ws' := ([(na, .inl (k 0, 4, .inl (fun i9 : Nat => iI (nf i9))))] ++ tl2_715)) rfl B
        have hPS : PS dI k T K qa cp2_673 tl2_715 := z_716
        exfalso; omega
      · skip
        rw [hw9] at B; clear hw9
        have B := bd_to (ws' := ([(na, .inl (k 0, 4, .inl (fun i9 : Nat => iI (nf i9))))] ++ tl2_718)) rfl B
        have hPS : PS dI k T K qa cp2_673 tl2_718 := z_719
        refine W.widen (k := ((cp2_673 - cp) + 124)) (n := ((12 * (cp2_673 - cp)) + 1200)) (by omega) (by omega) ?_
        refine lv_ldc (v := (-2000000003)) hx hb B.1.2.2.2.1 (B.1.2.2.2.2.1 _ mw_594) dL_refuses_1341 ?_
        refine lv_seti (y := iI (-2000000003)) (by decide) ?_
        refine lv_icmp_ne (tgt := 1386) hx hb dL_refuses_1343 (by decide) (fun c9 => absurd c9 (by decide)) (fun _ => ?_)
        refine k_joinG (σ := Nat × va_W) B 1366 (fun g9 : Nat × va_W => (PS dI k T K qa g9.1 g9.2) ∧ (cp ≤ g9.1 ∧ g9.1 ≤ 131072)) (fun g9 : Nat × va_W => [(10, .int (iI (LCz T 0 (dgN T 0) ((xx / 50) % (T 0 0 0 0))))), (9, .int (iI (T 3 ((xx / 50) % (T 0 0 0 0)) 0 0))), (8, .int (iI ((xx / 50) % (T 0 0 0 0)))), (7, .int (iI 1)), (6, .int (iI ((T 12 0 0 0) + (xx % 50)))), (5, .int (iI ((T 0 0 0 0) + (xx % 50)))), (4, .int (iI (2 + (xx % 50)))), (3, .int (iI 0)), (0, .ref qa), (1, .ref na), (2, .int (iI xx))]) (fun g9 : Nat × va_W => ([(na, .inl (k 0, 4, .inl (fun i9 : Nat => iI (nf i9))))] ++ g9.2)) (fun g9 : Nat × va_W => ((g9.1 - cp) + 128)) (fun g9 : Nat × va_W => ((12 * (g9.1 - cp)) + 1260)) (fun g9 : Nat × va_W => []) ?_ (fun J_721 => ?_)
        · clear hl B
          rintro ⟨cpF, tlF⟩ ⟨hPS, hcF⟩ ls H locs hl B
          have hPS : PS dI k T K qa cpF tlF := hPS
          have hcF : cp ≤ cpF ∧ cpF ≤ 131072 := hcF
          show W p l e _ s m args below meth c H locs (((cpF - cp) + 128)) (((12 * (cpF - cp)) + 1260)) _ _
          have hl : lv_has ls 11 [(10, .int (iI (LCz T 0 (dgN T 0) ((xx / 50) % (T 0 0 0 0))))), (9, .int (iI (T 3 ((xx / 50) % (T 0 0 0 0)) 0 0))), (8, .int (iI ((xx / 50) % (T 0 0 0 0)))), (7, .int (iI 1)), (6, .int (iI ((T 12 0 0 0) + (xx % 50)))), (5, .int (iI ((T 0 0 0 0) + (xx % 50)))), (4, .int (iI (2 + (xx % 50)))), (3, .int (iI 0)), (0, .ref qa), (1, .ref na), (2, .int (iI xx))] := hl
          have B := bd_to (ws' := ([(na, .inl (k 0, 4, .inl (fun i9 : Nat => iI (nf i9))))] ++ tlF)) rfl B
          refine lv_aload_n hx hb dL_refuses_1366 rfl (lv_at hl 8 rfl) ?_
          refine lv_iconst (v := iI 1) hx hb dL_refuses_1367 (by decide) ?_
          refine lv_iload hx hb dL_refuses_1368 (lv_at hl 2 rfl) ?_
          refine lv_iload hx hb dL_refuses_1370 (lv_at hl 1 rfl) ?_
          refine lv_iload_n hx hb dL_refuses_1372 rfl (lv_at hl 10 rfl) ?_
          refine y_add hx hb dL_refuses_1373 ?_
          have B := bd_swap (a := []) (b := [(na, .inl (k 0, 4, .inl (fun i9 : Nat => iI (nf i9))))]) (d := tlF) (bd_to rfl B)
          refine k_W (rest := []) (wc := ([] ++ tlF)) (wr := [(na, .inl (k 0, 4, .inl (fun i9 : Nat => iI (nf i9))))]) (w_whereIs l dC dI k hl0 T K qa cpF tlF 1 ((xx / 50) % (T 0 0 0 0)) ((T 3 ((xx / 50) % (T 0 0 0 0)) 0 0) + xx) hPS hQ (by omega) (by omega) (by omega)) B mW_L_whereIs mw_1791 hl ⟨Nat.le_of_ble_eq_true rfl, Nat.le_of_ble_eq_true rfl⟩ (Nat.le_of_ble_eq_true rfl) rfl dL_refuses_1374 ⟨by dsimp only; omega, by dsimp only; omega⟩ (fun r w gc gs H locs hp B => ?_)
          rcases hp with ⟨cp2_722, tl2_723, z_724, z_725, z_726, rfl, hw9, rfl, rfl⟩ | ⟨cp2_727, tl2_728, z_729, z_730, z_731, rfl, hw9, rfl, rfl⟩
          · skip
            rw [hw9] at B; clear hw9
            have B := bd_to (ws' := ([(na, .inl (k 0, 4, .inl (fun i9 : Nat => iI (nf i9))))] ++ tl2_723)) rfl B
            have hPS : PS dI k T K qa cp2_722 tl2_723 := z_724
            exfalso; omega
          · skip
            rw [hw9] at B; clear hw9
            have B := bd_to (ws' := ([(na, .inl (k 0, 4, .inl (fun i9 : Nat => iI (nf i9))))] ++ tl2_728)) rfl B
            have hPS : PS dI k T K qa cp2_727 tl2_728 := z_729
            refine W.widen (k := ((cp2_727 - cp) + 129)) (n := ((12 * (cp2_727 - cp)) + 1266)) (by omega) (by omega) ?_
            refine lv_ldc (v := (-2000000001)) hx hb B.1.2.2.2.1 (B.1.2.2.2.2.1 _ mw_593) dL_refuses_1377 ?_
            refine lv_seti (y := iI (-2000000001)) (by decide) ?_
            refine lv_icmp_ne (tgt := 1386) hx hb dL_refuses_1379 (by decide) (fun c9 => absurd c9 (by decide)) (fun _ => ?_)
            refine lv_iconst (v := iI 1) hx hb dL_refuses_1382 (by decide) ?_
            refine lv_goto (tgt := 1387) hx hb dL_refuses_1383 (by decide) ?_
            refine lv_istore (lv' := [(7, .int (iI 1)), (10, .int (iI (LCz T 0 (dgN T 0) ((xx / 50) % (T 0 0 0 0))))), (9, .int (iI (T 3 ((xx / 50) % (T 0 0 0 0)) 0 0))), (8, .int (iI ((xx / 50) % (T 0 0 0 0)))), (6, .int (iI ((T 12 0 0 0) + (xx % 50)))), (5, .int (iI ((T 0 0 0 0) + (xx % 50)))), (4, .int (iI (2 + (xx % 50)))), (3, .int (iI 0)), (0, .ref qa), (1, .ref na), (2, .int (iI xx))]) hx hb dL_refuses_1387 hl (by decide) rfl (fun ls hl => ?_)
            refine lv_iload hx hb dL_refuses_1389 (lv_at hl 0 rfl) ?_
            exact k_zret B hr (by omega) (⟨cp2_727, tl2_728, z_729, (by omega), rfl, rfl, rfl, rfl⟩) ⟨(by first | omega | (dsimp only; omega)), (by first | omega | (dsimp only; omega))⟩ ⟨(by first | omega | (dsimp only; omega)), (by first | omega | (dsimp only; omega))⟩ dL_refuses_1391
        refine W.widen (k := ((cp2_673 - cp) + 124)) (n := ((12 * (cp2_673 - cp)) + 1200)) (by omega) (by omega) ?_
        exact J_678 (cp2_673, tl2_718) ⟨(show PS dI k T K qa cp2_673 tl2_718 from hPS), (show cp ≤ cp2_673 ∧ cp2_673 ≤ 131072 from (by omega))⟩ _ _ _ (lv_sub hl [0, 1, 2, 3, 4, 5, 6, 7, 8, 9, 10] rfl) (bd_to rfl B)

set_option maxHeartbeats 4000000 in
set_option maxRecDepth 100000 in
theorem w_refuses_c1235_13 (l : Launch) (dC : Nat → ClassId) (dI : Nat → Nat → Nat) (k : Nat → ClassId) (hl0 : l.stackTraces = false) (T : Nat → Int → Int → Int → Int) (K : Nat → Int → Int) (qa : Nat) (cp : Nat) (tl : va_W) (na : Nat) (nf : Int → Int) (xx : Int) (cpS : Nat) (tlS : va_W) (hc0 : 512 ≤ cp ∧ cp ≤ 131072) (hPS : PS dI k T K qa cpS tlS) (hQ : OKT T K) (hx9 : 0 ≤ xx ∧ xx < 9973) (hn9 : nf 0 = T 0 0 0 0 ∧ nf 1 = K 0 0 ∧ nf 2 = T 12 0 0 0 ∧ nf 3 = T 18 0 0 0) (hcS : cp ≤ cpS ∧ cpS ≤ 131072) (zc_543 : 0 < (T 0 0 0 0)) (z_544 : 0 ≤ ((xx / 50) % (T 0 0 0 0)) ∧ ((xx / 50) % (T 0 0 0 0)) < (T 0 0 0 0)) (z_545 : 0 ≤ T 3 ((xx / 50) % (T 0 0 0 0)) 0 0 ∧ T 3 ((xx / 50) % (T 0 0 0 0)) 0 0 ≤ 12) (z_550 : 0 ≤ ((xx / 50) % (T 0 0 0 0)) ∧ ((xx / 50) % (T 0 0 0 0)) < T 0 0 0 0) (z_556 : 0 ≤ LCz T 0 (dgN T 0) ((xx / 50) % (T 0 0 0 0)) ∧ LCz T 0 (dgN T 0) ((xx / 50) % (T 0 0 0 0)) ≤ 48) {p : Program} {e : Env} {s : State} {m : MethodId} {args : Array Value} {below : List Frame} {meth : Method} {c : Code} {H : Heap} {locs : List Loc} {ls : Array Slot} (B : bd p s m args meth c cL_refuses 11 yL_refuses.cls dC dI k (va_A ([(na, .inl (k 0, 4, .inl (fun i9 : Nat => iI (nf i9))))] ++ tl) s.heap.size) ([(na, .inl (k 0, 4, .inl (fun i9 : Nat => iI (nf i9))))] ++ tlS) H locs) (hr : meth.sig.returnType = (some .boolean)) (hl : lv_has ls 11 [(10, .int (iI (LCz T 0 (dgN T 0) ((xx / 50) % (T 0 0 0 0))))), (9, .int (iI (T 3 ((xx / 50) % (T 0 0 0 0)) 0 0))), (8, .int (iI ((xx / 50) % (T 0 0 0 0)))), (7, .int (iI 1)), (6, .int (iI ((T 12 0 0 0) + (xx % 50)))), (5, .int (iI ((T 0 0 0 0) + (xx % 50)))), (4, .int (iI (2 + (xx % 50)))), (3, .int (iI 0)), (0, .ref qa), (1, .ref na), (2, .int (iI xx))]) : W p l e ({ frames := 16, cells := ((131072 - cp) + 129), slots := ((12 * (131072 - cp)) + 1266), locals := 495 } : Room) s m args below meth c H locs ((cpS - cp) + 114) ((12 * (cpS - cp)) + 1104) (MQ below (Qk dC dI ([(na, .inl (k 0, 4, .inl (fun i9 : Nat => iI (nf i9))))] ++ tl) s.heap.size (fun r w gc gs => (∃ (cp2 : Nat) (tl2 : va_W), (PS dI k T K qa cp2 tl2) ∧ (cp ≤ cp2 ∧ cp2 ≤ 131072) ∧ r = some (.int (iI 1)) ∧ w = ([(na, .inl (k 0, 4, .inl (fun i9 : Nat => iI (nf i9))))] ++ tl2) ∧ gc = ((cp2 - cp) + 129) ∧ gs = ((12 * (cp2 - cp)) + 1266)))) args s ({ frames := 16, cells := ((131072 - cp) + 129), slots := ((12 * (131072 - cp)) + 1266), locals := 495 } : Room).cells ({ frames := 16, cells := ((131072 - cp) + 129), slots := ((12 * (131072 - cp)) + 1266), locals := 495 } : Room).slots (va_A ([(na, .inl (k 0, 4, .inl (fun i9 : Nat => iI (nf i9))))] ++ tl) s.heap.size)) (F0 m 1235 ls []) := by
  have hx := B.1.1
  have hb := B.1.2.1
  have hcp9 := PS_cp hPS
  have hn0 := TK_nb hQ.1
  have hk0 := hQ.2.1.1
  have hf0 := TK_fc hQ.1
  have hp0 := TK_np hQ.1
  have hm0 : lmZ 0 = 1 := rfl
  have hm1 : lmZ 1 = 0 := rfl
  have hm2 : lmZ 2 = 0 := rfl
  have hm3 : lmZ 3 = 0 := rfl
  have hm4 : lmZ 4 = 0 := rfl
  have hm5 : mmZ T 0 = 5 := rfl
  have hm6 : mmZ T 1 = T 12 0 0 0 - 1 := rfl
  have hm7 : mmZ T 2 = 5 := rfl
  have hm8 : mmZ T 3 = 7 := rfl
  have hm9 : mmZ T 4 = 1 := rfl
  refine lv_aload_n hx hb dL_refuses_1235 rfl (lv_at hl 8 rfl) ?_
  refine lv_iload hx hb dL_refuses_1236 (lv_at hl 2 rfl) ?_
  refine lv_iconst (v := iI 4) hx hb dL_refuses_1238 (by decide) ?_
  refine lv_iload_n hx hb dL_refuses_1239 rfl (lv_at hl 10 rfl) ?_
  refine y_add hx hb dL_refuses_1240 ?_
  refine lv_iconst (v := iI 0) hx hb dL_refuses_1241 (by decide) ?_
  refine lv_iconst (v := iI 1) hx hb dL_refuses_1242 (by decide) ?_
  refine lv_iconst (v := iI 0) hx hb dL_refuses_1243 (by decide) ?_
  refine lv_iconst (v := iI 0) hx hb dL_refuses_1244 (by decide) ?_
  have B := bd_swap (a := []) (b := [(na, .inl (k 0, 4, .inl (fun i9 : Nat => iI (nf i9))))]) (d := tlS) (bd_to rfl B)
  refine k_W (rest := []) (wc := ([] ++ tlS)) (wr := [(na, .inl (k 0, 4, .inl (fun i9 : Nat => iI (nf i9))))]) (w_cells l dC dI k hl0 T K qa cpS tlS ((xx / 50) % (T 0 0 0 0)) (4 + xx) 0 1 0 0 hPS hQ (by omega) (by omega) (by omega) (by omega) (by omega) (by omega)) B mW_L_cells mw_1219 hl ⟨Nat.le_of_ble_eq_true rfl, Nat.le_of_ble_eq_true rfl⟩ (Nat.le_of_ble_eq_true rfl) rfl dL_refuses_1245 ⟨by dsimp only; omega, by dsimp only; omega⟩ (fun r w gc gs H locs hp B => ?_)
  rcases hp with ⟨tl2_612, z_613, z_614, rfl, hw9, rfl, rfl⟩ | ⟨tl2_615, z_616, z_617, rfl, hw9, rfl, rfl⟩ | ⟨tl2_618, z_619, z_620, rfl, hw9, rfl, rfl⟩ | ⟨tl2_621, z_622, z_623, rfl, hw9, rfl, rfl⟩
  · skip
    rw [hw9] at B; clear hw9
    have B := bd_to (ws' := ([(na, .inl (k 0, 4, .inl (fun i9 : Nat => iI (nf i9))))] ++ tl2_612)) rfl B
    have hPS : PS dI k (teT T ((xx / 50) % (T 0 0 0 0)) (((4 + xx) * 3) + 0) 1 0 0) K qa cpS tl2_612 := z_613
    exfalso; omega
  · skip
    rw [hw9] at B; clear hw9
    have B := bd_to (ws' := ([(na, .inl (k 0, 4, .inl (fun i9 : Nat => iI (nf i9))))] ++ tl2_615)) rfl B
    have hPS : PS dI k T K qa cpS tl2_615 := z_616
    exfalso; omega
  · skip
    rw [hw9] at B; clear hw9
    have B := bd_to (ws' := ([(na, .inl (k 0, 4, .inl (fun i9 : Nat => iI (nf i9))))] ++ tl2_618)) rfl B
    have hPS : PS dI k T K qa cpS tl2_618 := z_619
    refine W.widen (k := ((cpS - cp) + 115)) (n := ((12 * (cpS - cp)) + 1110)) (by omega) (by omega) ?_
    refine lv_ldc (v := (-2000000002)) hx hb B.1.2.2.2.1 (B.1.2.2.2.2.1 _ mw_627) dL_refuses_1248 ?_
    refine lv_seti (y := iI (-2000000002)) (by decide) ?_
    refine lv_icmp_ne (tgt := 1386) hx hb dL_refuses_1250 (by decide) (fun c9 => absurd c9 (by decide)) (fun _ => ?_)
    refine lv_aload_n hx hb dL_refuses_1253 rfl (lv_at hl 8 rfl) ?_
    refine lv_iload hx hb dL_refuses_1254 (lv_at hl 2 rfl) ?_
    refine lv_iconst (v := iI 0) hx hb dL_refuses_1256 (by decide) ?_
    refine lv_iconst (v := iI 0) hx hb dL_refuses_1257 (by decide) ?_
    refine lv_iconst (v := iI 1) hx hb dL_refuses_1258 (by decide) ?_
    refine lv_iconst (v := iI 5) hx hb dL_refuses_1259 (by decide) ?_
    refine lv_iconst (v := iI 4) hx hb dL_refuses_1260 (by decide) ?_
    have B := bd_swap (a := []) (b := [(na, .inl (k 0, 4, .inl (fun i9 : Nat => iI (nf i9))))]) (d := tl2_618) (bd_to rfl B)
    refine k_W (rest := []) (wc := ([] ++ tl2_618)) (wr := [(na, .inl (k 0, 4, .inl (fun i9 : Nat => iI (nf i9))))]) (w_cells l dC dI k hl0 T K qa cpS tl2_618 ((xx / 50) % (T 0 0 0 0)) 0 0 1 5 4 z_619 hQ (by omega) (by omega) (by omega) (by omega) (by omega) (by omega)) B mW_L_cells mw_1219 hl ⟨Nat.le_of_ble_eq_true rfl, Nat.le_of_ble_eq_true rfl⟩ (Nat.le_of_ble_eq_true rfl) rfl dL_refuses_1261 ⟨by dsimp only; omega, by dsimp only; omega⟩ (fun r w gc gs H locs hp B => ?_)
    rcases hp with ⟨tl2_624, z_625, z_626, rfl, hw9, rfl, rfl⟩ | ⟨tl2_627, z_628, z_629, rfl, hw9, rfl, rfl⟩ | ⟨tl2_630, z_631, z_632, rfl, hw9, rfl, rfl⟩ | ⟨tl2_633, z_634, z_635, rfl, hw9, rfl, rfl⟩
    · skip
      rw [hw9] at B; clear hw9
      have B := bd_to (ws' := ([(na, .inl (k 0, 4, .inl (fun i9 : Nat => iI (nf i9))))] ++ tl2_624)) rfl B
      have hPS : PS dI k (teT T ((xx / 50) % (T 0 0 0 0)) ((0 * 3) + 0) 1 5 4) K qa cpS tl2_624 := z_625
      exfalso; omega
    · skip
      rw [hw9] at B; clear hw9
      have B := bd_to (ws' := ([(na, .inl (k 0, 4, .inl (fun i9 : Nat => iI (nf i9))))] ++ tl2_627)) rfl B
      have hPS : PS dI k T K qa cpS tl2_627 := z_628
      exfalso; omega
    · skip
      rw [hw9] at B; clear hw9
      have B := bd_to (ws' := ([(na, .inl (k 0, 4, .inl (fun i9 : Nat => iI (nf i9))))] ++ tl2_630)) rfl B
      have hPS : PS dI k T K qa cpS tl2_630 := z_631
      refine W.widen (k := ((cpS - cp) + 116)) (n := ((12 * (cpS - cp)) + 1116)) (by omega) (by omega) ?_
      refine lv_ldc (v := (-2000000002)) hx hb B.1.2.2.2.1 (B.1.2.2.2.2.1 _ mw_627) dL_refuses_1264 ?_
      refine lv_seti (y := iI (-2000000002)) (by decide) ?_
      refine lv_icmp_ne (tgt := 1386) hx hb dL_refuses_1266 (by decide) (fun c9 => absurd c9 (by decide)) (fun _ => ?_)
      refine lv_aload_n hx hb dL_refuses_1269 rfl (lv_at hl 8 rfl) ?_
      refine lv_iconst (v := iI 0) hx hb dL_refuses_1270 (by decide) ?_
      refine lv_iload hx hb dL_refuses_1271 (lv_at hl 2 rfl) ?_
      refine lv_iload hx hb dL_refuses_1273 (lv_at hl 0 rfl) ?_
      refine lv_iload_n hx hb dL_refuses_1275 rfl (lv_at hl 10 rfl) ?_
      refine y_add hx hb dL_refuses_1276 ?_
      have B := bd_swap (a := []) (b := [(na, .inl (k 0, 4, .inl (fun i9 : Nat => iI (nf i9))))]) (d := tl2_630) (bd_to rfl B)
      refine k_W (rest := []) (wc := ([] ++ tl2_630)) (wr := [(na, .inl (k 0, 4, .inl (fun i9 : Nat => iI (nf i9))))]) (w_lineEnd l dC dI k hl0 T K qa cpS tl2_630 0 ((xx / 50) % (T 0 0 0 0)) ((LCz T 0 (dgN T 0) ((xx / 50) % (T 0 0 0 0))) + xx) z_631 hQ (by omega) (by omega) (by omega)) B mW_L_lineEnd mw_1675 hl ⟨Nat.le_of_ble_eq_true rfl, Nat.le_of_ble_eq_true rfl⟩ (Nat.le_of_ble_eq_true rfl) rfl dL_refuses_1277 ⟨by dsimp only; omega, by dsimp only; omega⟩ (fun r w gc gs H locs hp B => ?_)
      rcases hp with ⟨cp2_636, tl2_637, z_638, z_639, z_640, rfl, hw9, rfl, rfl⟩ | ⟨cp2_641, tl2_642, z_643, z_644, z_645, rfl, hw9, rfl, rfl⟩
      · skip
        rw [hw9] at B; clear hw9
        have B := bd_to (ws' := ([(na, .inl (k 0, 4, .inl (fun i9 : Nat => iI (nf i9))))] ++ tl2_637)) rfl B
        have hPS : PS dI k T K qa cp2_636 tl2_637 := z_638
        exfalso; omega
      · skip
        rw [hw9] at B; clear hw9
        have B := bd_to (ws' := ([(na, .inl (k 0, 4, .inl (fun i9 : Nat => iI (nf i9))))] ++ tl2_642)) rfl B
        have hPS : PS dI k T K qa cp2_641 tl2_642 := z_643
        refine W.widen (k := ((cp2_641 - cp) + 117)) (n := ((12 * (cp2_641 - cp)) + 1122)) (by omega) (by omega) ?_
        refine lv_ldc (v := (-2000000001)) hx hb B.1.2.2.2.1 (B.1.2.2.2.2.1 _ mw_593) dL_refuses_1280 ?_
        refine lv_seti (y := iI (-2000000001)) (by decide) ?_
        refine lv_icmp_ne (tgt := 1386) hx hb dL_refuses_1282 (by decide) (fun c9 => absurd c9 (by decide)) (fun _ => ?_)
        refine lv_aload_n hx hb dL_refuses_1285 rfl (lv_at hl 8 rfl) ?_
        refine lv_iconst (v := iI 0) hx hb dL_refuses_1286 (by decide) ?_
        refine lv_iload hx hb dL_refuses_1287 (lv_at hl 2 rfl) ?_
        refine lv_iconst (v := iI (-1)) hx hb dL_refuses_1289 (by decide) ?_
        refine lv_iload_n hx hb dL_refuses_1290 rfl (lv_at hl 10 rfl) ?_
        refine y_sub hx hb dL_refuses_1291 ?_
        have B := bd_swap (a := []) (b := [(na, .inl (k 0, 4, .inl (fun i9 : Nat => iI (nf i9))))]) (d := tl2_642) (bd_to rfl B)
        refine k_W (rest := []) (wc := ([] ++ tl2_642)) (wr := [(na, .inl (k 0, 4, .inl (fun i9 : Nat => iI (nf i9))))]) (w_tight l dC dI k hl0 T K qa cp2_641 tl2_642 0 ((xx / 50) % (T 0 0 0 0)) ((-1) - xx) z_643 hQ (by omega) (by omega) (by omega)) B mW_L_tight mw_1687 hl ⟨Nat.le_of_ble_eq_true rfl, Nat.le_of_ble_eq_true rfl⟩ (Nat.le_of_ble_eq_true rfl) rfl dL_refuses_1292 ⟨by dsimp only; omega, by dsimp only; omega⟩ (fun r w gc gs H locs hp B => ?_)
        rcases hp with ⟨cp2_646, tl2_647, z_648, z_649, z_650, rfl, hw9, rfl, rfl⟩ | ⟨cp2_651, tl2_652, z_653, z_654, z_655, rfl, hw9, rfl, rfl⟩
        · skip
          rw [hw9] at B; clear hw9
          have B := bd_to (ws' := ([(na, .inl (k 0, 4, .inl (fun i9 : Nat => iI (nf i9))))] ++ tl2_647)) rfl B
          have hPS : PS dI k T K qa cp2_646 tl2_647 := z_648
          exfalso; omega
        · skip
          rw [hw9] at B; clear hw9
          have B := bd_to (ws' := ([(na, .inl (k 0, 4, .inl (fun i9 : Nat => iI (nf i9))))] ++ tl2_652)) rfl B
          have hPS : PS dI k T K qa cp2_651 tl2_652 := z_653
          refine W.widen (k := ((cp2_651 - cp) + 118)) (n := ((12 * (cp2_651 - cp)) + 1128)) (by omega) (by omega) ?_
          refine lv_ldc (v := (-2000000001)) hx hb B.1.2.2.2.1 (B.1.2.2.2.2.1 _ mw_593) dL_refuses_1295 ?_
          refine lv_seti (y := iI (-2000000001)) (by decide) ?_
          refine lv_icmp_ne (tgt := 1386) hx hb dL_refuses_1297 (by decide) (fun c9 => absurd c9 (by decide)) (fun _ => ?_)
          refine lv_aload_n hx hb dL_refuses_1300 rfl (lv_at hl 8 rfl) ?_
          refine lv_iload hx hb dL_refuses_1301 (lv_at hl 2 rfl) ?_
          refine lv_iconst (v := iI 3) hx hb dL_refuses_1303 (by decide) ?_
          refine lv_iload_n hx hb dL_refuses_1304 rfl (lv_at hl 10 rfl) ?_
          refine y_add hx hb dL_refuses_1305 ?_
          have z_656 : 0 ≤ ccZ (fun j9 : Int => T 9 ((xx / 50) % (T 0 0 0 0)) j9 0) 12 ∧ ccZ (fun j9 : Int => T 9 ((xx / 50) % (T 0 0 0 0)) j9 0) 12 ≤ 3 := ccZ_in (fun c => TK_spc hQ.1 _ c) 12
          have B := bd_swap (a := []) (b := [(na, .inl (k 0, 4, .inl (fun i9 : Nat => iI (nf i9))))]) (d := tl2_652) (bd_to rfl B)
          refine k_W (rest := []) (wc := ([] ++ tl2_652)) (wr := [(na, .inl (k 0, 4, .inl (fun i9 : Nat => iI (nf i9))))]) (w_wide l dC dI k hl0 T K qa cp2_651 tl2_652 ((xx / 50) % (T 0 0 0 0)) (3 + xx) z_653 hQ (by omega) (by omega)) B mW_L_wide mw_1309 hl ⟨Nat.le_of_ble_eq_true rfl, Nat.le_of_ble_eq_true rfl⟩ (Nat.le_of_ble_eq_true rfl) rfl dL_refuses_1306 ⟨by dsimp only; omega, by dsimp only; omega⟩ (fun r w gc gs H locs hp B => ?_)
          rcases hp with ⟨cp2_657, tl2_658, z_659, z_660, z_661, rfl, hw9, rfl, rfl⟩ | ⟨cp2_662, tl2_663, z_664, z_665, z_666, rfl, hw9, rfl, rfl⟩
          · skip
            rw [hw9] at B; clear hw9
            have B := bd_to (ws' := ([(na, .inl (k 0, 4, .inl (fun i9 : Nat => iI (nf i9))))] ++ tl2_658)) rfl B
            have hPS : PS dI k T K qa cp2_657 tl2_658 := z_659
            exfalso; omega
          · skip
            rw [hw9] at B; clear hw9
            have B := bd_to (ws' := ([(na, .inl (k 0, 4, .inl (fun i9 : Nat => iI (nf i9))))] ++ tl2_663)) rfl B
            have hPS : PS dI k T K qa cp2_662 tl2_663 := z_664
            refine W.widen (k := ((cp2_662 - cp) + 119)) (n := ((12 * (cp2_662 - cp)) + 1134)) (by omega) (by omega) ?_
            refine lv_ldc (v := (-2000000001)) hx hb B.1.2.2.2.1 (B.1.2.2.2.2.1 _ mw_593) dL_refuses_1309 ?_
            refine lv_seti (y := iI (-2000000001)) (by decide) ?_
            refine lv_icmp_ne (tgt := 1386) hx hb dL_refuses_1311 (by decide) (fun c9 => absurd c9 (by decide)) (fun _ => ?_)
            exact w_refuses_c1314_14 l dC dI k hl0 T K qa cp tl na nf xx cp2_662 tl2_663 (by omega) hPS hQ hx9 hn9 (by omega) zc_543 z_544 z_545 z_550 z_556 (bd_to rfl B) hr hl
    · skip
      rw [hw9] at B; clear hw9
      have B := bd_to (ws' := ([(na, .inl (k 0, 4, .inl (fun i9 : Nat => iI (nf i9))))] ++ tl2_633)) rfl B
      have hPS : PS dI k T K qa cpS tl2_633 := z_634
      exfalso; omega
  · skip
    rw [hw9] at B; clear hw9
    have B := bd_to (ws' := ([(na, .inl (k 0, 4, .inl (fun i9 : Nat => iI (nf i9))))] ++ tl2_621)) rfl B
    have hPS : PS dI k T K qa cpS tl2_621 := z_622
    exfalso; omega

set_option maxHeartbeats 4000000 in
set_option maxRecDepth 100000 in
theorem w_refuses_c1077_12 (l : Launch) (dC : Nat → ClassId) (dI : Nat → Nat → Nat) (k : Nat → ClassId) (hl0 : l.stackTraces = false) (T : Nat → Int → Int → Int → Int) (K : Nat → Int → Int) (qa : Nat) (cp : Nat) (tl : va_W) (na : Nat) (nf : Int → Int) (xx : Int) (cpS : Nat) (tlS : va_W) (hc0 : 512 ≤ cp ∧ cp ≤ 131072) (hPS : PS dI k T K qa cpS tlS) (hQ : OKT T K) (hx9 : 0 ≤ xx ∧ xx < 9973) (hn9 : nf 0 = T 0 0 0 0 ∧ nf 1 = K 0 0 ∧ nf 2 = T 12 0 0 0 ∧ nf 3 = T 18 0 0 0) (hcS : cp ≤ cpS ∧ cpS ≤ 131072) {p : Program} {e : Env} {s : State} {m : MethodId} {args : Array Value} {below : List Frame} {meth : Method} {c : Code} {H : Heap} {locs : List Loc} {ls : Array Slot} (B : bd p s m args meth c cL_refuses 11 yL_refuses.cls dC dI k (va_A ([(na, .inl (k 0, 4, .inl (fun i9 : Nat => iI (nf i9))))] ++ tl) s.heap.size) ([(na, .inl (k 0, 4, .inl (fun i9 : Nat => iI (nf i9))))] ++ tlS) H locs) (hr : meth.sig.returnType = (some .boolean)) (hl : lv_has ls 11 [(7, .int (iI 1)), (6, .int (iI ((T 12 0 0 0) + (xx % 50)))), (5, .int (iI ((T 0 0 0 0) + (xx % 50)))), (4, .int (iI (2 + (xx % 50)))), (3, .int (iI 0)), (0, .ref qa), (1, .ref na), (2, .int (iI xx))]) : W p l e ({ frames := 16, cells := ((131072 - cp) + 129), slots := ((12 * (131072 - cp)) + 1266), locals := 495 } : Room) s m args below meth c H locs ((cpS - cp) + 104) ((12 * (cpS - cp)) + 974) (MQ below (Qk dC dI ([(na, .inl (k 0, 4, .inl (fun i9 : Nat => iI (nf i9))))] ++ tl) s.heap.size (fun r w gc gs => (∃ (cp2 : Nat) (tl2 : va_W), (PS dI k T K qa cp2 tl2) ∧ (cp ≤ cp2 ∧ cp2 ≤ 131072) ∧ r = some (.int (iI 1)) ∧ w = ([(na, .inl (k 0, 4, .inl (fun i9 : Nat => iI (nf i9))))] ++ tl2) ∧ gc = ((cp2 - cp) + 129) ∧ gs = ((12 * (cp2 - cp)) + 1266)))) args s ({ frames := 16, cells := ((131072 - cp) + 129), slots := ((12 * (131072 - cp)) + 1266), locals := 495 } : Room).cells ({ frames := 16, cells := ((131072 - cp) + 129), slots := ((12 * (131072 - cp)) + 1266), locals := 495 } : Room).slots (va_A ([(na, .inl (k 0, 4, .inl (fun i9 : Nat => iI (nf i9))))] ++ tl) s.heap.size)) (F0 m 1077 ls []) := by
  have hx := B.1.1
  have hb := B.1.2.1
  have hcp9 := PS_cp hPS
  have hn0 := TK_nb hQ.1
  have hk0 := hQ.2.1.1
  have hf0 := TK_fc hQ.1
  have hp0 := TK_np hQ.1
  have hm0 : lmZ 0 = 1 := rfl
  have hm1 : lmZ 1 = 0 := rfl
  have hm2 : lmZ 2 = 0 := rfl
  have hm3 : lmZ 3 = 0 := rfl
  have hm4 : lmZ 4 = 0 := rfl
  have hm5 : mmZ T 0 = 5 := rfl
  have hm6 : mmZ T 1 = T 12 0 0 0 - 1 := rfl
  have hm7 : mmZ T 2 = 5 := rfl
  have hm8 : mmZ T 3 = 7 := rfl
  have hm9 : mmZ T 4 = 1 := rfl
  refine lv_iconst (v := iI 1) hx hb dL_refuses_1077 (by decide) ?_
  refine lv_goto (tgt := 1082) hx hb dL_refuses_1078 (by decide) ?_
  refine lv_istore (lv' := [(7, .int (iI 1)), (6, .int (iI ((T 12 0 0 0) + (xx % 50)))), (5, .int (iI ((T 0 0 0 0) + (xx % 50)))), (4, .int (iI (2 + (xx % 50)))), (3, .int (iI 0)), (0, .ref qa), (1, .ref na), (2, .int (iI xx))]) hx hb dL_refuses_1082 hl (by decide) rfl (fun ls hl => ?_)
  refine lv_iload hx hb dL_refuses_1084 (lv_at hl 0 rfl) ?_
  refine lv_if_eq (tgt := 1389) hx hb dL_refuses_1086 (by decide) (fun c9 => absurd c9 (by decide)) (fun _ => ?_)
  refine lv_aload_n hx hb dL_refuses_1089 rfl (lv_at hl 6 rfl) ?_
  refine lv_iconst (v := iI 0) hx hb dL_refuses_1090 (by decide) ?_
  refine x_iald' (f := nf) (z := 0) B 0 rfl (by omega) dL_refuses_1091 ?_
  refine lv_seti (y := iI (T 0 0 0 0)) (congrArg iI (show nf 0 = T 0 0 0 0 from hn9.1)) ?_
  refine lv_if_le (tgt := 1389) hx hb dL_refuses_1092 (by decide) (fun c_543 => ?_) (fun c_543 => ?_)
  · have zc_543 : (T 0 0 0 0) ≤ 0 := jle (a := (T 0 0 0 0)) (b := 0) (by omega) (by omega) c_543
    refine lv_iload hx hb dL_refuses_1389 (lv_at hl 0 rfl) ?_
    exact k_zret B hr (by omega) (⟨cpS, tlS, hPS, hcS, rfl, rfl, rfl, rfl⟩) ⟨(by first | omega | (dsimp only; omega)), (by first | omega | (dsimp only; omega))⟩ ⟨(by first | omega | (dsimp only; omega)), (by first | omega | (dsimp only; omega))⟩ dL_refuses_1391
  · have zc_543 : 0 < (T 0 0 0 0) := jnle (a := (T 0 0 0 0)) (b := 0) (by omega) (by omega) c_543
    refine lv_iload_n hx hb dL_refuses_1095 rfl (lv_at hl 7 rfl) ?_
    refine lv_bipush (v := iI 50) hx hb dL_refuses_1096 (by decide) ?_
    refine y_div hx hb (a := xx) (b := 50) (by omega) (by omega) dL_refuses_1098 ?_
    refine lv_aload_n hx hb dL_refuses_1099 rfl (lv_at hl 6 rfl) ?_
    refine lv_iconst (v := iI 0) hx hb dL_refuses_1100 (by decide) ?_
    refine x_iald' (f := nf) (z := 0) B 0 rfl (by omega) dL_refuses_1101 ?_
    refine lv_seti (y := iI (T 0 0 0 0)) (congrArg iI (show nf 0 = T 0 0 0 0 from hn9.1)) ?_
    refine y_rem hx hb (a := (xx / 50)) (b := (T 0 0 0 0)) (by omega) (by omega) dL_refuses_1102 ?_
    have z_544 : 0 ≤ ((xx / 50) % (T 0 0 0 0)) ∧ ((xx / 50) % (T 0 0 0 0)) < (T 0 0 0 0) := ⟨Int.emod_nonneg _ (by omega), Int.emod_lt_of_pos _ (by omega)⟩
    refine lv_istore (lv' := [(8, .int (iI ((xx / 50) % (T 0 0 0 0)))), (7, .int (iI 1)), (6, .int (iI ((T 12 0 0 0) + (xx % 50)))), (5, .int (iI ((T 0 0 0 0) + (xx % 50)))), (4, .int (iI (2 + (xx % 50)))), (3, .int (iI 0)), (0, .ref qa), (1, .ref na), (2, .int (iI xx))]) hx hb dL_refuses_1103 hl (by decide) rfl (fun ls hl => ?_)
    refine lv_aload_n hx hb dL_refuses_1105 rfl (lv_at hl 6 rfl) ?_
    refine lv_iload hx hb dL_refuses_1106 (lv_at hl 0 rfl) ?_
    have z_545 : 0 ≤ T 3 ((xx / 50) % (T 0 0 0 0)) 0 0 ∧ T 3 ((xx / 50) % (T 0 0 0 0)) 0 0 ≤ 12 := TK_nw hQ.1 _
    have B := bd_swap (a := []) (b := [(na, .inl (k 0, 4, .inl (fun i9 : Nat => iI (nf i9))))]) (d := tlS) (bd_to rfl B)
    refine k_W (rest := []) (wc := ([] ++ tlS)) (wr := [(na, .inl (k 0, 4, .inl (fun i9 : Nat => iI (nf i9))))]) (w_count l dC dI k hl0 T K qa cpS tlS ((xx / 50) % (T 0 0 0 0)) hPS hQ (by omega)) B mW_L_count mw_1266 hl ⟨Nat.le_of_ble_eq_true rfl, Nat.le_of_ble_eq_true rfl⟩ (Nat.le_of_ble_eq_true rfl) rfl dL_refuses_1108 ⟨by dsimp only; omega, by dsimp only; omega⟩ (fun r w gc gs H locs hp B => ?_)
    rcases hp with ⟨cp2_546, tl2_547, z_548, z_549, z_550, rfl, hw9, rfl, rfl⟩ | ⟨cp2_551, tl2_552, z_553, z_554, z_555, rfl, hw9, rfl, rfl⟩
    · skip
      rw [hw9] at B; clear hw9
      have B := bd_to (ws' := ([(na, .inl (k 0, 4, .inl (fun i9 : Nat => iI (nf i9))))] ++ tl2_547)) rfl B
      have hPS : PS dI k T K qa cp2_546 tl2_547 := z_548
      refine W.widen (k := ((cp2_546 - cp) + 105)) (n := ((12 * (cp2_546 - cp)) + 980)) (by omega) (by omega) ?_
      refine lv_istore (lv' := [(9, .int (iI (T 3 ((xx / 50) % (T 0 0 0 0)) 0 0))), (8, .int (iI ((xx / 50) % (T 0 0 0 0)))), (7, .int (iI 1)), (6, .int (iI ((T 12 0 0 0) + (xx % 50)))), (5, .int (iI ((T 0 0 0 0) + (xx % 50)))), (4, .int (iI (2 + (xx % 50)))), (3, .int (iI 0)), (0, .ref qa), (1, .ref na), (2, .int (iI xx))]) hx hb dL_refuses_1111 hl (by decide) rfl (fun ls hl => ?_)
      refine lv_aload_n hx hb dL_refuses_1113 rfl (lv_at hl 7 rfl) ?_
      refine lv_iconst (v := iI 0) hx hb dL_refuses_1114 (by decide) ?_
      refine lv_iload hx hb dL_refuses_1115 (lv_at hl 1 rfl) ?_
      have z_556 : 0 ≤ LCz T 0 (dgN T 0) ((xx / 50) % (T 0 0 0 0)) ∧ LCz T 0 (dgN T 0) ((xx / 50) % (T 0 0 0 0)) ≤ 48 := (LCz_in (i := ((xx / 50) % (T 0 0 0 0))) (v := 0) (dg := dgN T 0) hQ.1).1
      have B := bd_swap (a := []) (b := [(na, .inl (k 0, 4, .inl (fun i9 : Nat => iI (nf i9))))]) (d := tl2_547) (bd_to rfl B)
      refine k_W (rest := []) (wc := ([] ++ tl2_547)) (wr := [(na, .inl (k 0, 4, .inl (fun i9 : Nat => iI (nf i9))))]) (w_lines l dC dI k hl0 T K qa cp2_546 tl2_547 0 ((xx / 50) % (T 0 0 0 0)) z_548 hQ (by omega) (by omega)) B mW_L_lines mw_1360 hl ⟨Nat.le_of_ble_eq_true rfl, Nat.le_of_ble_eq_true rfl⟩ (Nat.le_of_ble_eq_true rfl) rfl dL_refuses_1117 ⟨by dsimp only; omega, by dsimp only; omega⟩ (fun r w gc gs H locs hp B => ?_)
      rcases hp with ⟨cp2_557, tl2_558, z_559, z_560, z_561, rfl, hw9, rfl, rfl⟩ | ⟨cp2_562, tl2_563, z_564, z_565, z_566, rfl, hw9, rfl, rfl⟩
      · skip
        rw [hw9] at B; clear hw9
        have B := bd_to (ws' := ([(na, .inl (k 0, 4, .inl (fun i9 : Nat => iI (nf i9))))] ++ tl2_558)) rfl B
        have hPS : PS dI k T K qa cp2_557 tl2_558 := z_559
        refine W.widen (k := ((cp2_557 - cp) + 106)) (n := ((12 * (cp2_557 - cp)) + 986)) (by omega) (by omega) ?_
        refine lv_istore (lv' := [(10, .int (iI (LCz T 0 (dgN T 0) ((xx / 50) % (T 0 0 0 0))))), (9, .int (iI (T 3 ((xx / 50) % (T 0 0 0 0)) 0 0))), (8, .int (iI ((xx / 50) % (T 0 0 0 0)))), (7, .int (iI 1)), (6, .int (iI ((T 12 0 0 0) + (xx % 50)))), (5, .int (iI ((T 0 0 0 0) + (xx % 50)))), (4, .int (iI (2 + (xx % 50)))), (3, .int (iI 0)), (0, .ref qa), (1, .ref na), (2, .int (iI xx))]) hx hb dL_refuses_1120 hl (by decide) rfl (fun ls hl => ?_)
        refine lv_aload_n hx hb dL_refuses_1122 rfl (lv_at hl 8 rfl) ?_
        refine lv_iload hx hb dL_refuses_1123 (lv_at hl 2 rfl) ?_
        refine lv_iload_n hx hb dL_refuses_1125 rfl (lv_at hl 7 rfl) ?_
        refine lv_if_eq (tgt := 1135) hx hb dL_refuses_1126 (by decide) (fun _ => ?_) (fun c9 => absurd (by decide) c9)
        refine lv_iload hx hb dL_refuses_1135 (lv_at hl 1 rfl) ?_
        refine lv_iconst (v := iI 1) hx hb dL_refuses_1137 (by decide) ?_
        refine y_add hx hb dL_refuses_1138 ?_
        refine lv_iload_n hx hb dL_refuses_1139 rfl (lv_at hl 10 rfl) ?_
        refine y_add hx hb dL_refuses_1140 ?_
        refine lv_iconst (v := iI 0) hx hb dL_refuses_1141 (by decide) ?_
        have B := bd_swap (a := []) (b := [(na, .inl (k 0, 4, .inl (fun i9 : Nat => iI (nf i9))))]) (d := tl2_558) (bd_to rfl B)
        refine k_W (rest := []) (wc := ([] ++ tl2_558)) (wr := [(na, .inl (k 0, 4, .inl (fun i9 : Nat => iI (nf i9))))]) (w_refers l dC dI k hl0 T K qa cp2_557 tl2_558 ((xx / 50) % (T 0 0 0 0)) (((T 3 ((xx / 50) % (T 0 0 0 0)) 0 0) + 1) + xx) 0 z_559 hQ (by omega) (by omega) (by omega)) B mW_L_refers mw_1090 hl ⟨Nat.le_of_ble_eq_true rfl, Nat.le_of_ble_eq_true rfl⟩ (Nat.le_of_ble_eq_true rfl) rfl dL_refuses_1142 ⟨by dsimp only; omega, by dsimp only; omega⟩ (fun r w gc gs H locs hp B => ?_)
        rcases hp with ⟨tl2_567, z_568, z_569, rfl, hw9, rfl, rfl⟩ | ⟨tl2_570, z_571, z_572, rfl, hw9, rfl, rfl⟩ | ⟨tl2_573, z_574, z_575, rfl, hw9, rfl, rfl⟩
        · skip
          rw [hw9] at B; clear hw9
          have B := bd_to (ws' := ([(na, .inl (k 0, 4, .inl (fun i9 : Nat => iI (nf i9))))] ++ tl2_567)) rfl B
          have hPS : PS dI k (puT T ((xx / 50) % (T 0 0 0 0)) (((T 3 ((xx / 50) % (T 0 0 0 0)) 0 0) + 1) + xx) 0 (fun _ : Int => (0 : Int)) 0 (K 2) (gsZ T (fun _ : Int => (0 : Int)) ((0 : Nat) : Int))) (KKn (K 0 0) (K 1) (fun _ : Int => (-1))) qa cp2_557 tl2_567 := z_568
          exfalso; omega
        · skip
          rw [hw9] at B; clear hw9
          have B := bd_to (ws' := ([(na, .inl (k 0, 4, .inl (fun i9 : Nat => iI (nf i9))))] ++ tl2_570)) rfl B
          have hPS : PS dI k T K qa cp2_557 tl2_570 := z_571
          refine W.widen (k := ((cp2_557 - cp) + 110)) (n := ((12 * (cp2_557 - cp)) + 1046)) (by omega) (by omega) ?_
          refine lv_ldc (v := (-2000000001)) hx hb B.1.2.2.2.1 (B.1.2.2.2.2.1 _ mw_593) dL_refuses_1145 ?_
          refine lv_seti (y := iI (-2000000001)) (by decide) ?_
          refine lv_icmp_ne (tgt := 1386) hx hb dL_refuses_1147 (by decide) (fun c9 => absurd c9 (by decide)) (fun _ => ?_)
          refine lv_aload_n hx hb dL_refuses_1150 rfl (lv_at hl 8 rfl) ?_
          refine lv_iload hx hb dL_refuses_1151 (lv_at hl 2 rfl) ?_
          refine lv_iload hx hb dL_refuses_1153 (lv_at hl 1 rfl) ?_
          refine lv_iload_n hx hb dL_refuses_1155 rfl (lv_at hl 10 rfl) ?_
          refine y_add hx hb dL_refuses_1156 ?_
          have B := bd_swap (a := []) (b := [(na, .inl (k 0, 4, .inl (fun i9 : Nat => iI (nf i9))))]) (d := tl2_570) (bd_to rfl B)
          refine k_W (rest := []) (wc := ([] ++ tl2_570)) (wr := [(na, .inl (k 0, 4, .inl (fun i9 : Nat => iI (nf i9))))]) (w_takes l dC dI k hl0 T K qa cp2_557 tl2_570 ((xx / 50) % (T 0 0 0 0)) ((T 3 ((xx / 50) % (T 0 0 0 0)) 0 0) + xx) z_571 hQ (by omega) (by omega)) B mW_L_takes mw_1101 hl ⟨Nat.le_of_ble_eq_true rfl, Nat.le_of_ble_eq_true rfl⟩ (Nat.le_of_ble_eq_true rfl) rfl dL_refuses_1157 ⟨by dsimp only; omega, by dsimp only; omega⟩ (fun r w gc gs H locs hp B => ?_)
          rcases hp with ⟨tl2_576, z_577, z_578, rfl, hw9, rfl, rfl⟩ | ⟨tl2_579, z_580, z_581, rfl, hw9, rfl, rfl⟩
          · skip
            rw [hw9] at B; clear hw9
            have B := bd_to (ws' := ([(na, .inl (k 0, 4, .inl (fun i9 : Nat => iI (nf i9))))] ++ tl2_576)) rfl B
            have hPS : PS dI k (tkT T ((xx / 50) % (T 0 0 0 0)) ((T 3 ((xx / 50) % (T 0 0 0 0)) 0 0) + xx)) K qa cp2_557 tl2_576 := z_577
            exfalso; omega
          · skip
            rw [hw9] at B; clear hw9
            have B := bd_to (ws' := ([(na, .inl (k 0, 4, .inl (fun i9 : Nat => iI (nf i9))))] ++ tl2_579)) rfl B
            have hPS : PS dI k T K qa cp2_557 tl2_579 := z_580
            refine W.widen (k := ((cp2_557 - cp) + 111)) (n := ((12 * (cp2_557 - cp)) + 1086)) (by omega) (by omega) ?_
            refine lv_ldc (v := (-2000000001)) hx hb B.1.2.2.2.1 (B.1.2.2.2.2.1 _ mw_593) dL_refuses_1160 ?_
            refine lv_seti (y := iI (-2000000001)) (by decide) ?_
            refine lv_icmp_ne (tgt := 1386) hx hb dL_refuses_1162 (by decide) (fun c9 => absurd c9 (by decide)) (fun _ => ?_)
            refine lv_aload_n hx hb dL_refuses_1165 rfl (lv_at hl 8 rfl) ?_
            refine lv_iload hx hb dL_refuses_1166 (lv_at hl 2 rfl) ?_
            refine lv_iconst (v := iI (-1)) hx hb dL_refuses_1168 (by decide) ?_
            refine lv_iload_n hx hb dL_refuses_1169 rfl (lv_at hl 10 rfl) ?_
            refine y_sub hx hb dL_refuses_1170 ?_
            have B := bd_swap (a := []) (b := [(na, .inl (k 0, 4, .inl (fun i9 : Nat => iI (nf i9))))]) (d := tl2_579) (bd_to rfl B)
            refine k_W (rest := []) (wc := ([] ++ tl2_579)) (wr := [(na, .inl (k 0, 4, .inl (fun i9 : Nat => iI (nf i9))))]) (w_gaps l dC dI k hl0 T K qa cp2_557 tl2_579 ((xx / 50) % (T 0 0 0 0)) ((-1) - xx) z_580 hQ (by omega) (by omega)) B mW_L_gaps mw_1273 hl ⟨Nat.le_of_ble_eq_true rfl, Nat.le_of_ble_eq_true rfl⟩ (Nat.le_of_ble_eq_true rfl) rfl dL_refuses_1171 ⟨by dsimp only; omega, by dsimp only; omega⟩ (fun r w gc gs H locs hp B => ?_)
            rcases hp with ⟨cp2_582, tl2_583, z_584, z_585, z_586, rfl, hw9, rfl, rfl⟩ | ⟨cp2_587, tl2_588, z_589, z_590, z_591, rfl, hw9, rfl, rfl⟩
            · skip
              rw [hw9] at B; clear hw9
              have B := bd_to (ws' := ([(na, .inl (k 0, 4, .inl (fun i9 : Nat => iI (nf i9))))] ++ tl2_583)) rfl B
              have hPS : PS dI k T K qa cp2_582 tl2_583 := z_584
              exfalso; omega
            · skip
              rw [hw9] at B; clear hw9
              have B := bd_to (ws' := ([(na, .inl (k 0, 4, .inl (fun i9 : Nat => iI (nf i9))))] ++ tl2_588)) rfl B
              have hPS : PS dI k T K qa cp2_587 tl2_588 := z_589
              refine W.widen (k := ((cp2_587 - cp) + 112)) (n := ((12 * (cp2_587 - cp)) + 1092)) (by omega) (by omega) ?_
              refine lv_ldc (v := (-2000000001)) hx hb B.1.2.2.2.1 (B.1.2.2.2.2.1 _ mw_593) dL_refuses_1174 ?_
              refine lv_seti (y := iI (-2000000001)) (by decide) ?_
              refine lv_icmp_ne (tgt := 1386) hx hb dL_refuses_1176 (by decide) (fun c9 => absurd c9 (by decide)) (fun _ => ?_)
              refine lv_aload_n hx hb dL_refuses_1179 rfl (lv_at hl 8 rfl) ?_
              refine lv_iload hx hb dL_refuses_1180 (lv_at hl 2 rfl) ?_
              refine lv_iload_n hx hb dL_refuses_1182 rfl (lv_at hl 7 rfl) ?_
              refine lv_if_eq (tgt := 1192) hx hb dL_refuses_1183 (by decide) (fun _ => ?_) (fun c9 => absurd (by decide) c9)
              refine lv_bipush (v := iI 7) hx hb dL_refuses_1192 (by decide) ?_
              refine lv_iload_n hx hb dL_refuses_1194 rfl (lv_at hl 10 rfl) ?_
              refine y_add hx hb dL_refuses_1195 ?_
              refine lv_iconst (v := iI 0) hx hb dL_refuses_1196 (by decide) ?_
              have z_592 : (-1 ≤ lsZ (7 + xx) ∧ lsZ (7 + xx) ≤ 1) ∧ 1 ≤ msZ (7 + xx) ∧ msZ (7 + xx) ≤ 30 := ⟨lsZ_in, msZ_in⟩
              have B := bd_swap (a := []) (b := [(na, .inl (k 0, 4, .inl (fun i9 : Nat => iI (nf i9))))]) (d := tl2_588) (bd_to rfl B)
              refine k_W (rest := []) (wc := ([] ++ tl2_588)) (wr := [(na, .inl (k 0, 4, .inl (fun i9 : Nat => iI (nf i9))))]) (w_styles l dC dI k hl0 T K qa cp2_587 tl2_588 ((xx / 50) % (T 0 0 0 0)) (7 + xx) 0 z_589 hQ (by omega) (by omega) (by omega)) B mW_L_styles mw_1204 hl ⟨Nat.le_of_ble_eq_true rfl, Nat.le_of_ble_eq_true rfl⟩ (Nat.le_of_ble_eq_true rfl) rfl dL_refuses_1197 ⟨by dsimp only; omega, by dsimp only; omega⟩ (fun r w gc gs H locs hp B => ?_)
              rcases hp with ⟨tl2_593, z_594, z_595, rfl, hw9, rfl, rfl⟩ | ⟨tl2_596, z_597, z_598, rfl, hw9, rfl, rfl⟩ | ⟨tl2_599, z_600, z_601, rfl, hw9, rfl, rfl⟩
              · skip
                rw [hw9] at B; clear hw9
                have B := bd_to (ws' := ([(na, .inl (k 0, 4, .inl (fun i9 : Nat => iI (nf i9))))] ++ tl2_593)) rfl B
                have hPS : PS dI k (stT T ((xx / 50) % (T 0 0 0 0)) (7 + xx) 0) K qa cp2_587 tl2_593 := z_594
                exfalso; omega
              · skip
                rw [hw9] at B; clear hw9
                have B := bd_to (ws' := ([(na, .inl (k 0, 4, .inl (fun i9 : Nat => iI (nf i9))))] ++ tl2_596)) rfl B
                have hPS : PS dI k T K qa cp2_587 tl2_596 := z_597
                refine W.widen (k := ((cp2_587 - cp) + 113)) (n := ((12 * (cp2_587 - cp)) + 1098)) (by omega) (by omega) ?_
                refine lv_ldc (v := (-2000000001)) hx hb B.1.2.2.2.1 (B.1.2.2.2.2.1 _ mw_593) dL_refuses_1200 ?_
                refine lv_seti (y := iI (-2000000001)) (by decide) ?_
                refine lv_icmp_ne (tgt := 1386) hx hb dL_refuses_1202 (by decide) (fun c9 => absurd c9 (by decide)) (fun _ => ?_)
                refine lv_aload_n hx hb dL_refuses_1205 rfl (lv_at hl 8 rfl) ?_
                refine lv_iload hx hb dL_refuses_1206 (lv_at hl 2 rfl) ?_
                refine lv_iload_n hx hb dL_refuses_1208 rfl (lv_at hl 10 rfl) ?_
                refine lv_bipush (v := iI 7) hx hb dL_refuses_1209 (by decide) ?_
                refine y_rem hx hb (a := xx) (b := 7) (by omega) (by omega) dL_refuses_1211 ?_
                refine lv_iload_n hx hb dL_refuses_1212 rfl (lv_at hl 7 rfl) ?_
                refine lv_if_eq (tgt := 1223) hx hb dL_refuses_1213 (by decide) (fun _ => ?_) (fun c9 => absurd (by decide) c9)
                refine lv_bipush (v := iI 31) hx hb dL_refuses_1223 (by decide) ?_
                refine lv_iload_n hx hb dL_refuses_1225 rfl (lv_at hl 10 rfl) ?_
                refine y_add hx hb dL_refuses_1226 ?_
                have z_602 : (-1 ≤ lsZ (xx % 7) ∧ lsZ (xx % 7) ≤ 1) ∧ 1 ≤ msZ (xx % 7) ∧ msZ (xx % 7) ≤ 30 := ⟨lsZ_in, msZ_in⟩
                have B := bd_swap (a := []) (b := [(na, .inl (k 0, 4, .inl (fun i9 : Nat => iI (nf i9))))]) (d := tl2_596) (bd_to rfl B)
                refine k_W (rest := []) (wc := ([] ++ tl2_596)) (wr := [(na, .inl (k 0, 4, .inl (fun i9 : Nat => iI (nf i9))))]) (w_styles l dC dI k hl0 T K qa cp2_587 tl2_596 ((xx / 50) % (T 0 0 0 0)) (xx % 7) (31 + xx) z_597 hQ (by omega) (by omega) (by omega)) B mW_L_styles mw_1204 hl ⟨Nat.le_of_ble_eq_true rfl, Nat.le_of_ble_eq_true rfl⟩ (Nat.le_of_ble_eq_true rfl) rfl dL_refuses_1227 ⟨by dsimp only; omega, by dsimp only; omega⟩ (fun r w gc gs H locs hp B => ?_)
                rcases hp with ⟨tl2_603, z_604, z_605, rfl, hw9, rfl, rfl⟩ | ⟨tl2_606, z_607, z_608, rfl, hw9, rfl, rfl⟩ | ⟨tl2_609, z_610, z_611, rfl, hw9, rfl, rfl⟩
                · skip
                  rw [hw9] at B; clear hw9
                  have B := bd_to (ws' := ([(na, .inl (k 0, 4, .inl (fun i9 : Nat => iI (nf i9))))] ++ tl2_603)) rfl B
                  have hPS : PS dI k (stT T ((xx / 50) % (T 0 0 0 0)) (xx % 7) (31 + xx)) K qa cp2_587 tl2_603 := z_604
                  exfalso; omega
                · skip
                  rw [hw9] at B; clear hw9
                  have B := bd_to (ws' := ([(na, .inl (k 0, 4, .inl (fun i9 : Nat => iI (nf i9))))] ++ tl2_606)) rfl B
                  have hPS : PS dI k T K qa cp2_587 tl2_606 := z_607
                  exfalso; omega
                · skip
                  rw [hw9] at B; clear hw9
                  have B := bd_to (ws' := ([(na, .inl (k 0, 4, .inl (fun i9 : Nat => iI (nf i9))))] ++ tl2_609)) rfl B
                  have hPS : PS dI k T K qa cp2_587 tl2_609 := z_610
                  refine W.widen (k := ((cp2_587 - cp) + 114)) (n := ((12 * (cp2_587 - cp)) + 1104)) (by omega) (by omega) ?_
                  refine lv_ldc (v := (-2000000002)) hx hb B.1.2.2.2.1 (B.1.2.2.2.2.1 _ mw_627) dL_refuses_1230 ?_
                  refine lv_seti (y := iI (-2000000002)) (by decide) ?_
                  refine lv_icmp_ne (tgt := 1386) hx hb dL_refuses_1232 (by decide) (fun c9 => absurd c9 (by decide)) (fun _ => ?_)
                  exact w_refuses_c1235_13 l dC dI k hl0 T K qa cp tl na nf xx cp2_587 tl2_609 (by omega) hPS hQ hx9 hn9 (by omega) zc_543 z_544 z_545 z_550 z_556 (bd_to rfl B) hr hl
              · skip
                rw [hw9] at B; clear hw9
                have B := bd_to (ws' := ([(na, .inl (k 0, 4, .inl (fun i9 : Nat => iI (nf i9))))] ++ tl2_599)) rfl B
                have hPS : PS dI k T K qa cp2_587 tl2_599 := z_600
                exfalso; omega
        · skip
          rw [hw9] at B; clear hw9
          have B := bd_to (ws' := ([(na, .inl (k 0, 4, .inl (fun i9 : Nat => iI (nf i9))))] ++ tl2_573)) rfl B
          have hPS : PS dI k T K qa cp2_557 tl2_573 := z_574
          exfalso; omega
      · skip
        rw [hw9] at B; clear hw9
        have B := bd_to (ws' := ([(na, .inl (k 0, 4, .inl (fun i9 : Nat => iI (nf i9))))] ++ tl2_563)) rfl B
        have hPS : PS dI k T K qa cp2_562 tl2_563 := z_564
        exfalso; omega
    · skip
      rw [hw9] at B; clear hw9
      have B := bd_to (ws' := ([(na, .inl (k 0, 4, .inl (fun i9 : Nat => iI (nf i9))))] ++ tl2_552)) rfl B
      have hPS : PS dI k T K qa cp2_551 tl2_552 := z_553
      exfalso; omega

set_option maxHeartbeats 4000000 in
set_option maxRecDepth 100000 in
theorem w_refuses_c985_11 (l : Launch) (dC : Nat → ClassId) (dI : Nat → Nat → Nat) (k : Nat → ClassId) (hl0 : l.stackTraces = false) (T : Nat → Int → Int → Int → Int) (K : Nat → Int → Int) (qa : Nat) (cp : Nat) (tl : va_W) (na : Nat) (nf : Int → Int) (xx : Int) (cpS : Nat) (tlS : va_W) (hc0 : 512 ≤ cp ∧ cp ≤ 131072) (hPS : PS dI k T K qa cpS tlS) (hQ : OKT T K) (hx9 : 0 ≤ xx ∧ xx < 9973) (hn9 : nf 0 = T 0 0 0 0 ∧ nf 1 = K 0 0 ∧ nf 2 = T 12 0 0 0 ∧ nf 3 = T 18 0 0 0) (hcS : cp ≤ cpS ∧ cpS ≤ 131072) {p : Program} {e : Env} {s : State} {m : MethodId} {args : Array Value} {below : List Frame} {meth : Method} {c : Code} {H : Heap} {locs : List Loc} {ls : Array Slot} (B : bd p s m args meth c cL_refuses 11 yL_refuses.cls dC dI k (va_A ([(na, .inl (k 0, 4, .inl (fun i9 : Nat => iI (nf i9))))] ++ tl) s.heap.size) ([(na, .inl (k 0, 4, .inl (fun i9 : Nat => iI (nf i9))))] ++ tlS) H locs) (hr : meth.sig.returnType = (some .boolean)) (hl : lv_has ls 11 [(7, .int (iI 1)), (6, .int (iI ((T 12 0 0 0) + (xx % 50)))), (5, .int (iI ((T 0 0 0 0) + (xx % 50)))), (4, .int (iI (2 + (xx % 50)))), (3, .int (iI 0)), (0, .ref qa), (1, .ref na), (2, .int (iI xx))]) : W p l e ({ frames := 16, cells := ((131072 - cp) + 129), slots := ((12 * (131072 - cp)) + 1266), locals := 495 } : Room) s m args below meth c H locs ((cpS - cp) + 99) ((12 * (cpS - cp)) + 944) (MQ below (Qk dC dI ([(na, .inl (k 0, 4, .inl (fun i9 : Nat => iI (nf i9))))] ++ tl) s.heap.size (fun r w gc gs => (∃ (cp2 : Nat) (tl2 : va_W), (PS dI k T K qa cp2 tl2) ∧ (cp ≤ cp2 ∧ cp2 ≤ 131072) ∧ r = some (.int (iI 1)) ∧ w = ([(na, .inl (k 0, 4, .inl (fun i9 : Nat => iI (nf i9))))] ++ tl2) ∧ gc = ((cp2 - cp) + 129) ∧ gs = ((12 * (cp2 - cp)) + 1266)))) args s ({ frames := 16, cells := ((131072 - cp) + 129), slots := ((12 * (131072 - cp)) + 1266), locals := 495 } : Room).cells ({ frames := 16, cells := ((131072 - cp) + 129), slots := ((12 * (131072 - cp)) + 1266), locals := 495 } : Room).slots (va_A ([(na, .inl (k 0, 4, .inl (fun i9 : Nat => iI (nf i9))))] ++ tl) s.heap.size)) (F0 m 985 ls []) := by
  have hx := B.1.1
  have hb := B.1.2.1
  have hcp9 := PS_cp hPS
  have hn0 := TK_nb hQ.1
  have hk0 := hQ.2.1.1
  have hf0 := TK_fc hQ.1
  have hp0 := TK_np hQ.1
  have hm0 : lmZ 0 = 1 := rfl
  have hm1 : lmZ 1 = 0 := rfl
  have hm2 : lmZ 2 = 0 := rfl
  have hm3 : lmZ 3 = 0 := rfl
  have hm4 : lmZ 4 = 0 := rfl
  have hm5 : mmZ T 0 = 5 := rfl
  have hm6 : mmZ T 1 = T 12 0 0 0 - 1 := rfl
  have hm7 : mmZ T 2 = 5 := rfl
  have hm8 : mmZ T 3 = 7 := rfl
  have hm9 : mmZ T 4 = 1 := rfl
  refine lv_aload_n hx hb dL_refuses_985 rfl (lv_at hl 5 rfl) ?_
  refine lv_iconst (v := iI 0) hx hb dL_refuses_986 (by decide) ?_
  refine lv_iload_n hx hb dL_refuses_987 rfl (lv_at hl 4 rfl) ?_
  refine lv_if_eq (tgt := 997) hx hb dL_refuses_988 (by decide) (fun _ => ?_) (fun c9 => absurd (by decide) c9)
  refine lv_bipush (v := iI 16) hx hb dL_refuses_997 (by decide) ?_
  refine lv_iload_n hx hb dL_refuses_999 rfl (lv_at hl 7 rfl) ?_
  refine y_add hx hb dL_refuses_1000 ?_
  have z_488 : haZ T 0 (16 + xx) = -1 ∨ ¬ (0 ≤ 0 ∧ 0 ≤ 1) := Or.inl (haZ_out hQ.1 (by omega))
  have B := bd_swap (a := []) (b := [(na, .inl (k 0, 4, .inl (fun i9 : Nat => iI (nf i9))))]) (d := tlS) (bd_to rfl B)
  refine k_W (rest := []) (wc := ([] ++ tlS)) (wr := [(na, .inl (k 0, 4, .inl (fun i9 : Nat => iI (nf i9))))]) (w_contents l dC dI k hl0 T K qa cpS tlS 0 (16 + xx) hPS hQ (by omega) (by omega)) B mW_L_contents mw_1815 hl ⟨Nat.le_of_ble_eq_true rfl, Nat.le_of_ble_eq_true rfl⟩ (Nat.le_of_ble_eq_true rfl) rfl dL_refuses_1001 ⟨by dsimp only; omega, by dsimp only; omega⟩ (fun r w gc gs H locs hp B => ?_)
  rcases hp with ⟨cp2_489, tl2_490, z_491, z_492, z_493, rfl, hw9, rfl, rfl⟩ | ⟨cp2_494, tl2_495, z_496, z_497, z_498, rfl, hw9, rfl, rfl⟩
  · skip
    rw [hw9] at B; clear hw9
    have B := bd_to (ws' := ([(na, .inl (k 0, 4, .inl (fun i9 : Nat => iI (nf i9))))] ++ tl2_490)) rfl B
    have hPS : PS dI k T K qa cp2_489 tl2_490 := z_491
    exfalso; omega
  · skip
    rw [hw9] at B; clear hw9
    have B := bd_to (ws' := ([(na, .inl (k 0, 4, .inl (fun i9 : Nat => iI (nf i9))))] ++ tl2_495)) rfl B
    have hPS : PS dI k T K qa cp2_494 tl2_495 := z_496
    refine W.widen (k := ((cp2_494 - cp) + 100)) (n := ((12 * (cp2_494 - cp)) + 950)) (by omega) (by omega) ?_
    refine lv_ldc (v := (-2000000001)) hx hb B.1.2.2.2.1 (B.1.2.2.2.2.1 _ mw_593) dL_refuses_1004 ?_
    refine lv_seti (y := iI (-2000000001)) (by decide) ?_
    refine lv_icmp_ne (tgt := 1081) hx hb dL_refuses_1006 (by decide) (fun c9 => absurd c9 (by decide)) (fun _ => ?_)
    refine lv_aload_n hx hb dL_refuses_1009 rfl (lv_at hl 5 rfl) ?_
    refine lv_iload hx hb dL_refuses_1010 (lv_at hl 3 rfl) ?_
    refine lv_iconst (v := iI 0) hx hb dL_refuses_1012 (by decide) ?_
    have z_499 : ((0 : Int) < 0 ∨ (8 : Int) ≤ 0) → tmF T (moC T (2 + (xx % 50)) (dgN T (2 + (xx % 50)))) 0 8 0 = -1 := fun h9 => tmF_out h9
    have B := bd_swap (a := []) (b := [(na, .inl (k 0, 4, .inl (fun i9 : Nat => iI (nf i9))))]) (d := tl2_495) (bd_to rfl B)
    refine k_W (rest := []) (wc := ([] ++ tl2_495)) (wr := [(na, .inl (k 0, 4, .inl (fun i9 : Nat => iI (nf i9))))]) (w_term l dC dI k hl0 T K qa cp2_494 tl2_495 (2 + (xx % 50)) 0 z_496 hQ (by omega) (by omega)) B mW_L_term mw_1827 hl ⟨Nat.le_of_ble_eq_true rfl, Nat.le_of_ble_eq_true rfl⟩ (Nat.le_of_ble_eq_true rfl) rfl dL_refuses_1013 ⟨by dsimp only; omega, by dsimp only; omega⟩ (fun r w gc gs H locs hp B => ?_)
    rcases hp with ⟨cp2_500, tl2_501, z_502, z_503, z_504, rfl, hw9, rfl, rfl⟩ | ⟨cp2_505, tl2_506, z_507, z_508, z_509, rfl, hw9, rfl, rfl⟩
    · skip
      rw [hw9] at B; clear hw9
      have B := bd_to (ws' := ([(na, .inl (k 0, 4, .inl (fun i9 : Nat => iI (nf i9))))] ++ tl2_501)) rfl B
      have hPS : PS dI k T K qa cp2_500 tl2_501 := z_502
      exfalso; omega
    · skip
      rw [hw9] at B; clear hw9
      have B := bd_to (ws' := ([(na, .inl (k 0, 4, .inl (fun i9 : Nat => iI (nf i9))))] ++ tl2_506)) rfl B
      have hPS : PS dI k T K qa cp2_505 tl2_506 := z_507
      refine W.widen (k := ((cp2_505 - cp) + 101)) (n := ((12 * (cp2_505 - cp)) + 956)) (by omega) (by omega) ?_
      refine lv_ldc (v := (-2000000001)) hx hb B.1.2.2.2.1 (B.1.2.2.2.2.1 _ mw_593) dL_refuses_1016 ?_
      refine lv_seti (y := iI (-2000000001)) (by decide) ?_
      refine lv_icmp_ne (tgt := 1081) hx hb dL_refuses_1018 (by decide) (fun c9 => absurd c9 (by decide)) (fun _ => ?_)
      refine lv_aload_n hx hb dL_refuses_1021 rfl (lv_at hl 5 rfl) ?_
      refine lv_iconst (v := iI 0) hx hb dL_refuses_1022 (by decide) ?_
      refine lv_iload_n hx hb dL_refuses_1023 rfl (lv_at hl 4 rfl) ?_
      refine lv_if_eq (tgt := 1033) hx hb dL_refuses_1024 (by decide) (fun _ => ?_) (fun c9 => absurd (by decide) c9)
      refine lv_bipush (v := iI 8) hx hb dL_refuses_1033 (by decide) ?_
      refine lv_iload_n hx hb dL_refuses_1035 rfl (lv_at hl 7 rfl) ?_
      refine y_add hx hb dL_refuses_1036 ?_
      have z_510 : (((8 + xx) : Int) < 0 ∨ (8 : Int) ≤ (8 + xx)) → tmF T (moC T 0 (dgN T 0)) (8 + xx) 8 0 = -1 := fun h9 => tmF_out h9
      have B := bd_swap (a := []) (b := [(na, .inl (k 0, 4, .inl (fun i9 : Nat => iI (nf i9))))]) (d := tl2_506) (bd_to rfl B)
      refine k_W (rest := []) (wc := ([] ++ tl2_506)) (wr := [(na, .inl (k 0, 4, .inl (fun i9 : Nat => iI (nf i9))))]) (w_term l dC dI k hl0 T K qa cp2_505 tl2_506 0 (8 + xx) z_507 hQ (by omega) (by omega)) B mW_L_term mw_1827 hl ⟨Nat.le_of_ble_eq_true rfl, Nat.le_of_ble_eq_true rfl⟩ (Nat.le_of_ble_eq_true rfl) rfl dL_refuses_1037 ⟨by dsimp only; omega, by dsimp only; omega⟩ (fun r w gc gs H locs hp B => ?_)
      rcases hp with ⟨cp2_511, tl2_512, z_513, z_514, z_515, rfl, hw9, rfl, rfl⟩ | ⟨cp2_516, tl2_517, z_518, z_519, z_520, rfl, hw9, rfl, rfl⟩
      · skip
        rw [hw9] at B; clear hw9
        have B := bd_to (ws' := ([(na, .inl (k 0, 4, .inl (fun i9 : Nat => iI (nf i9))))] ++ tl2_512)) rfl B
        have hPS : PS dI k T K qa cp2_511 tl2_512 := z_513
        exfalso; omega
      · skip
        rw [hw9] at B; clear hw9
        have B := bd_to (ws' := ([(na, .inl (k 0, 4, .inl (fun i9 : Nat => iI (nf i9))))] ++ tl2_517)) rfl B
        have hPS : PS dI k T K qa cp2_516 tl2_517 := z_518
        refine W.widen (k := ((cp2_516 - cp) + 102)) (n := ((12 * (cp2_516 - cp)) + 962)) (by omega) (by omega) ?_
        refine lv_ldc (v := (-2000000001)) hx hb B.1.2.2.2.1 (B.1.2.2.2.2.1 _ mw_593) dL_refuses_1040 ?_
        refine lv_seti (y := iI (-2000000001)) (by decide) ?_
        refine lv_icmp_ne (tgt := 1081) hx hb dL_refuses_1042 (by decide) (fun c9 => absurd c9 (by decide)) (fun _ => ?_)
        refine lv_aload_n hx hb dL_refuses_1045 rfl (lv_at hl 5 rfl) ?_
        refine lv_iconst (v := iI 0) hx hb dL_refuses_1046 (by decide) ?_
        refine lv_iload_n hx hb dL_refuses_1047 rfl (lv_at hl 7 rfl) ?_
        refine lv_bipush (v := iI 8) hx hb dL_refuses_1048 (by decide) ?_
        refine y_rem hx hb (a := xx) (b := 8) (by omega) (by omega) dL_refuses_1050 ?_
        refine lv_iconst (v := iI (-1)) hx hb dL_refuses_1051 (by decide) ?_
        refine lv_iload_n hx hb dL_refuses_1052 rfl (lv_at hl 7 rfl) ?_
        refine y_sub hx hb dL_refuses_1053 ?_
        have z_521 : (((-1) - xx) : Int) < 0 → rgZ (fpZ T (moC T 0 (dgN T 0)) (mkZ T (moC T 0 (dgN T 0))) (xx % 8)) ((-1) - xx) (mkZ T (moC T 0 (dgN T 0)) 0 0) = -1 := fun h9 => rgZ_out h9
        have B := bd_swap (a := []) (b := [(na, .inl (k 0, 4, .inl (fun i9 : Nat => iI (nf i9))))]) (d := tl2_517) (bd_to rfl B)
        refine k_W (rest := []) (wc := ([] ++ tl2_517)) (wr := [(na, .inl (k 0, 4, .inl (fun i9 : Nat => iI (nf i9))))]) (w_range l dC dI k hl0 T K qa cp2_516 tl2_517 0 (xx % 8) ((-1) - xx) z_518 hQ (by omega) (by omega) (by omega)) B mW_L_range mw_1843 hl ⟨Nat.le_of_ble_eq_true rfl, Nat.le_of_ble_eq_true rfl⟩ (Nat.le_of_ble_eq_true rfl) rfl dL_refuses_1054 ⟨by dsimp only; omega, by dsimp only; omega⟩ (fun r w gc gs H locs hp B => ?_)
        rcases hp with ⟨cp2_522, tl2_523, z_524, z_525, z_526, rfl, hw9, rfl, rfl⟩ | ⟨cp2_527, tl2_528, z_529, z_530, z_531, rfl, hw9, rfl, rfl⟩
        · skip
          rw [hw9] at B; clear hw9
          have B := bd_to (ws' := ([(na, .inl (k 0, 4, .inl (fun i9 : Nat => iI (nf i9))))] ++ tl2_523)) rfl B
          have hPS : PS dI k T K qa cp2_522 tl2_523 := z_524
          exfalso; omega
        · skip
          rw [hw9] at B; clear hw9
          have B := bd_to (ws' := ([(na, .inl (k 0, 4, .inl (fun i9 : Nat => iI (nf i9))))] ++ tl2_528)) rfl B
          have hPS : PS dI k T K qa cp2_527 tl2_528 := z_529
          refine W.widen (k := ((cp2_527 - cp) + 103)) (n := ((12 * (cp2_527 - cp)) + 968)) (by omega) (by omega) ?_
          refine lv_ldc (v := (-2000000001)) hx hb B.1.2.2.2.1 (B.1.2.2.2.2.1 _ mw_593) dL_refuses_1057 ?_
          refine lv_seti (y := iI (-2000000001)) (by decide) ?_
          refine lv_icmp_ne (tgt := 1081) hx hb dL_refuses_1059 (by decide) (fun c9 => absurd c9 (by decide)) (fun _ => ?_)
          refine lv_aload_n hx hb dL_refuses_1062 rfl (lv_at hl 5 rfl) ?_
          refine lv_iconst (v := iI 0) hx hb dL_refuses_1063 (by decide) ?_
          refine lv_bipush (v := iI 8) hx hb dL_refuses_1064 (by decide) ?_
          refine lv_iload_n hx hb dL_refuses_1066 rfl (lv_at hl 7 rfl) ?_
          refine y_add hx hb dL_refuses_1067 ?_
          refine lv_iconst (v := iI 0) hx hb dL_refuses_1068 (by decide) ?_
          have z_532 : (0 : Int) < 0 → rgZ (fpZ T (moC T 0 (dgN T 0)) (mkZ T (moC T 0 (dgN T 0))) (8 + xx)) 0 (mkZ T (moC T 0 (dgN T 0)) 0 0) = -1 := fun h9 => rgZ_out h9
          have B := bd_swap (a := []) (b := [(na, .inl (k 0, 4, .inl (fun i9 : Nat => iI (nf i9))))]) (d := tl2_528) (bd_to rfl B)
          refine k_W (rest := []) (wc := ([] ++ tl2_528)) (wr := [(na, .inl (k 0, 4, .inl (fun i9 : Nat => iI (nf i9))))]) (w_range l dC dI k hl0 T K qa cp2_527 tl2_528 0 (8 + xx) 0 z_529 hQ (by omega) (by omega) (by omega)) B mW_L_range mw_1843 hl ⟨Nat.le_of_ble_eq_true rfl, Nat.le_of_ble_eq_true rfl⟩ (Nat.le_of_ble_eq_true rfl) rfl dL_refuses_1069 ⟨by dsimp only; omega, by dsimp only; omega⟩ (fun r w gc gs H locs hp B => ?_)
          rcases hp with ⟨cp2_533, tl2_534, z_535, z_536, z_537, rfl, hw9, rfl, rfl⟩ | ⟨cp2_538, tl2_539, z_540, z_541, z_542, rfl, hw9, rfl, rfl⟩
          · skip
            rw [hw9] at B; clear hw9
            have B := bd_to (ws' := ([(na, .inl (k 0, 4, .inl (fun i9 : Nat => iI (nf i9))))] ++ tl2_534)) rfl B
            have hPS : PS dI k T K qa cp2_533 tl2_534 := z_535
            exfalso; omega
          · skip
            rw [hw9] at B; clear hw9
            have B := bd_to (ws' := ([(na, .inl (k 0, 4, .inl (fun i9 : Nat => iI (nf i9))))] ++ tl2_539)) rfl B
            have hPS : PS dI k T K qa cp2_538 tl2_539 := z_540
            refine W.widen (k := ((cp2_538 - cp) + 104)) (n := ((12 * (cp2_538 - cp)) + 974)) (by omega) (by omega) ?_
            refine lv_ldc (v := (-2000000001)) hx hb B.1.2.2.2.1 (B.1.2.2.2.2.1 _ mw_593) dL_refuses_1072 ?_
            refine lv_seti (y := iI (-2000000001)) (by decide) ?_
            refine lv_icmp_ne (tgt := 1081) hx hb dL_refuses_1074 (by decide) (fun c9 => absurd c9 (by decide)) (fun _ => ?_)
            exact w_refuses_c1077_12 l dC dI k hl0 T K qa cp tl na nf xx cp2_538 tl2_539 (by omega) hPS hQ hx9 hn9 (by omega)  (bd_to rfl B) hr hl

set_option maxHeartbeats 4000000 in
set_option maxRecDepth 100000 in
theorem w_refuses_c911_10 (l : Launch) (dC : Nat → ClassId) (dI : Nat → Nat → Nat) (k : Nat → ClassId) (hl0 : l.stackTraces = false) (T : Nat → Int → Int → Int → Int) (K : Nat → Int → Int) (qa : Nat) (cp : Nat) (tl : va_W) (na : Nat) (nf : Int → Int) (xx : Int) (cpS : Nat) (tlS : va_W) (hc0 : 512 ≤ cp ∧ cp ≤ 131072) (hPS : PS dI k T K qa cpS tlS) (hQ : OKT T K) (hx9 : 0 ≤ xx ∧ xx < 9973) (hn9 : nf 0 = T 0 0 0 0 ∧ nf 1 = K 0 0 ∧ nf 2 = T 12 0 0 0 ∧ nf 3 = T 18 0 0 0) (hcS : cp ≤ cpS ∧ cpS ≤ 131072) {p : Program} {e : Env} {s : State} {m : MethodId} {args : Array Value} {below : List Frame} {meth : Method} {c : Code} {H : Heap} {locs : List Loc} {ls : Array Slot} (B : bd p s m args meth c cL_refuses 11 yL_refuses.cls dC dI k (va_A ([(na, .inl (k 0, 4, .inl (fun i9 : Nat => iI (nf i9))))] ++ tl) s.heap.size) ([(na, .inl (k 0, 4, .inl (fun i9 : Nat => iI (nf i9))))] ++ tlS) H locs) (hr : meth.sig.returnType = (some .boolean)) (hl : lv_has ls 11 [(7, .int (iI 1)), (6, .int (iI ((T 12 0 0 0) + (xx % 50)))), (5, .int (iI ((T 0 0 0 0) + (xx % 50)))), (4, .int (iI (2 + (xx % 50)))), (3, .int (iI 0)), (0, .ref qa), (1, .ref na), (2, .int (iI xx))]) : W p l e ({ frames := 16, cells := ((131072 - cp) + 129), slots := ((12 * (131072 - cp)) + 1266), locals := 495 } : Room) s m args below meth c H locs ((cpS - cp) + 94) ((12 * (cpS - cp)) + 914) (MQ below (Qk dC dI ([(na, .inl (k 0, 4, .inl (fun i9 : Nat => iI (nf i9))))] ++ tl) s.heap.size (fun r w gc gs => (∃ (cp2 : Nat) (tl2 : va_W), (PS dI k T K qa cp2 tl2) ∧ (cp ≤ cp2 ∧ cp2 ≤ 131072) ∧ r = some (.int (iI 1)) ∧ w = ([(na, .inl (k 0, 4, .inl (fun i9 : Nat => iI (nf i9))))] ++ tl2) ∧ gc = ((cp2 - cp) + 129) ∧ gs = ((12 * (cp2 - cp)) + 1266)))) args s ({ frames := 16, cells := ((131072 - cp) + 129), slots := ((12 * (131072 - cp)) + 1266), locals := 495 } : Room).cells ({ frames := 16, cells := ((131072 - cp) + 129), slots := ((12 * (131072 - cp)) + 1266), locals := 495 } : Room).slots (va_A ([(na, .inl (k 0, 4, .inl (fun i9 : Nat => iI (nf i9))))] ++ tl) s.heap.size)) (F0 m 911 ls []) := by
  have hx := B.1.1
  have hb := B.1.2.1
  have hcp9 := PS_cp hPS
  have hn0 := TK_nb hQ.1
  have hk0 := hQ.2.1.1
  have hf0 := TK_fc hQ.1
  have hp0 := TK_np hQ.1
  have hm0 : lmZ 0 = 1 := rfl
  have hm1 : lmZ 1 = 0 := rfl
  have hm2 : lmZ 2 = 0 := rfl
  have hm3 : lmZ 3 = 0 := rfl
  have hm4 : lmZ 4 = 0 := rfl
  have hm5 : mmZ T 0 = 5 := rfl
  have hm6 : mmZ T 1 = T 12 0 0 0 - 1 := rfl
  have hm7 : mmZ T 2 = 5 := rfl
  have hm8 : mmZ T 3 = 7 := rfl
  have hm9 : mmZ T 4 = 1 := rfl
  refine lv_aload_n hx hb dL_refuses_911 rfl (lv_at hl 5 rfl) ?_
  refine lv_iload hx hb dL_refuses_912 (lv_at hl 3 rfl) ?_
  refine lv_iconst (v := iI 0) hx hb dL_refuses_914 (by decide) ?_
  refine lv_iconst (v := iI 0) hx hb dL_refuses_915 (by decide) ?_
  have B := bd_swap (a := []) (b := [(na, .inl (k 0, 4, .inl (fun i9 : Nat => iI (nf i9))))]) (d := tlS) (bd_to rfl B)
  refine k_W (rest := []) (wc := ([] ++ tlS)) (wr := [(na, .inl (k 0, 4, .inl (fun i9 : Nat => iI (nf i9))))]) (w_whereIs l dC dI k hl0 T K qa cpS tlS (2 + (xx % 50)) 0 0 hPS hQ (by omega) (by omega) (by omega)) B mW_L_whereIs mw_1791 hl ⟨Nat.le_of_ble_eq_true rfl, Nat.le_of_ble_eq_true rfl⟩ (Nat.le_of_ble_eq_true rfl) rfl dL_refuses_916 ⟨by dsimp only; omega, by dsimp only; omega⟩ (fun r w gc gs H locs hp B => ?_)
  rcases hp with ⟨cp2_438, tl2_439, z_440, z_441, z_442, rfl, hw9, rfl, rfl⟩ | ⟨cp2_443, tl2_444, z_445, z_446, z_447, rfl, hw9, rfl, rfl⟩
  · skip
    rw [hw9] at B; clear hw9
    have B := bd_to (ws' := ([(na, .inl (k 0, 4, .inl (fun i9 : Nat => iI (nf i9))))] ++ tl2_439)) rfl B
    have hPS : PS dI k T K qa cp2_438 tl2_439 := z_440
    exfalso; omega
  · skip
    rw [hw9] at B; clear hw9
    have B := bd_to (ws' := ([(na, .inl (k 0, 4, .inl (fun i9 : Nat => iI (nf i9))))] ++ tl2_444)) rfl B
    have hPS : PS dI k T K qa cp2_443 tl2_444 := z_445
    refine W.widen (k := ((cp2_443 - cp) + 95)) (n := ((12 * (cp2_443 - cp)) + 920)) (by omega) (by omega) ?_
    refine lv_ldc (v := (-2000000001)) hx hb B.1.2.2.2.1 (B.1.2.2.2.2.1 _ mw_593) dL_refuses_919 ?_
    refine lv_seti (y := iI (-2000000001)) (by decide) ?_
    refine lv_icmp_ne (tgt := 1081) hx hb dL_refuses_921 (by decide) (fun c9 => absurd c9 (by decide)) (fun _ => ?_)
    refine lv_aload_n hx hb dL_refuses_924 rfl (lv_at hl 5 rfl) ?_
    refine lv_iconst (v := iI 0) hx hb dL_refuses_925 (by decide) ?_
    refine lv_iload hx hb dL_refuses_926 (lv_at hl 2 rfl) ?_
    refine lv_iconst (v := iI 0) hx hb dL_refuses_928 (by decide) ?_
    have B := bd_swap (a := []) (b := [(na, .inl (k 0, 4, .inl (fun i9 : Nat => iI (nf i9))))]) (d := tl2_444) (bd_to rfl B)
    refine k_W (rest := []) (wc := ([] ++ tl2_444)) (wr := [(na, .inl (k 0, 4, .inl (fun i9 : Nat => iI (nf i9))))]) (w_whereIs l dC dI k hl0 T K qa cp2_443 tl2_444 0 ((T 0 0 0 0) + (xx % 50)) 0 z_445 hQ (by omega) (by omega) (by omega)) B mW_L_whereIs mw_1791 hl ⟨Nat.le_of_ble_eq_true rfl, Nat.le_of_ble_eq_true rfl⟩ (Nat.le_of_ble_eq_true rfl) rfl dL_refuses_929 ⟨by dsimp only; omega, by dsimp only; omega⟩ (fun r w gc gs H locs hp B => ?_)
    rcases hp with ⟨cp2_448, tl2_449, z_450, z_451, z_452, rfl, hw9, rfl, rfl⟩ | ⟨cp2_453, tl2_454, z_455, z_456, z_457, rfl, hw9, rfl, rfl⟩
    · skip
      rw [hw9] at B; clear hw9
      have B := bd_to (ws' := ([(na, .inl (k 0, 4, .inl (fun i9 : Nat => iI (nf i9))))] ++ tl2_449)) rfl B
      have hPS : PS dI k T K qa cp2_448 tl2_449 := z_450
      exfalso; omega
    · skip
      rw [hw9] at B; clear hw9
      have B := bd_to (ws' := ([(na, .inl (k 0, 4, .inl (fun i9 : Nat => iI (nf i9))))] ++ tl2_454)) rfl B
      have hPS : PS dI k T K qa cp2_453 tl2_454 := z_455
      refine W.widen (k := ((cp2_453 - cp) + 96)) (n := ((12 * (cp2_453 - cp)) + 926)) (by omega) (by omega) ?_
      refine lv_ldc (v := (-2000000001)) hx hb B.1.2.2.2.1 (B.1.2.2.2.2.1 _ mw_593) dL_refuses_932 ?_
      refine lv_seti (y := iI (-2000000001)) (by decide) ?_
      refine lv_icmp_ne (tgt := 1081) hx hb dL_refuses_934 (by decide) (fun c9 => absurd c9 (by decide)) (fun _ => ?_)
      refine lv_aload_n hx hb dL_refuses_937 rfl (lv_at hl 5 rfl) ?_
      refine lv_iconst (v := iI 0) hx hb dL_refuses_938 (by decide) ?_
      refine lv_iload hx hb dL_refuses_939 (lv_at hl 1 rfl) ?_
      have B := bd_swap (a := []) (b := [(na, .inl (k 0, 4, .inl (fun i9 : Nat => iI (nf i9))))]) (d := tl2_454) (bd_to rfl B)
      refine k_W (rest := []) (wc := ([] ++ tl2_454)) (wr := [(na, .inl (k 0, 4, .inl (fun i9 : Nat => iI (nf i9))))]) (w_figureAt l dC dI k hl0 T K qa cp2_453 tl2_454 0 ((T 12 0 0 0) + (xx % 50)) z_455 hQ (by omega) (by omega)) B mW_L_figureAt mw_1799 hl ⟨Nat.le_of_ble_eq_true rfl, Nat.le_of_ble_eq_true rfl⟩ (Nat.le_of_ble_eq_true rfl) rfl dL_refuses_941 ⟨by dsimp only; omega, by dsimp only; omega⟩ (fun r w gc gs H locs hp B => ?_)
      rcases hp with ⟨cp2_458, tl2_459, z_460, z_461, z_462, rfl, hw9, rfl, rfl⟩ | ⟨cp2_463, tl2_464, z_465, z_466, z_467, rfl, hw9, rfl, rfl⟩
      · skip
        rw [hw9] at B; clear hw9
        have B := bd_to (ws' := ([(na, .inl (k 0, 4, .inl (fun i9 : Nat => iI (nf i9))))] ++ tl2_459)) rfl B
        have hPS : PS dI k T K qa cp2_458 tl2_459 := z_460
        exfalso; omega
      · skip
        rw [hw9] at B; clear hw9
        have B := bd_to (ws' := ([(na, .inl (k 0, 4, .inl (fun i9 : Nat => iI (nf i9))))] ++ tl2_464)) rfl B
        have hPS : PS dI k T K qa cp2_463 tl2_464 := z_465
        refine W.widen (k := ((cp2_463 - cp) + 97)) (n := ((12 * (cp2_463 - cp)) + 932)) (by omega) (by omega) ?_
        refine lv_ldc (v := (-2000000001)) hx hb B.1.2.2.2.1 (B.1.2.2.2.2.1 _ mw_593) dL_refuses_944 ?_
        refine lv_seti (y := iI (-2000000001)) (by decide) ?_
        refine lv_icmp_ne (tgt := 1081) hx hb dL_refuses_946 (by decide) (fun c9 => absurd c9 (by decide)) (fun _ => ?_)
        refine lv_aload_n hx hb dL_refuses_949 rfl (lv_at hl 5 rfl) ?_
        refine lv_iconst (v := iI 0) hx hb dL_refuses_950 (by decide) ?_
        refine lv_iload_n hx hb dL_refuses_951 rfl (lv_at hl 4 rfl) ?_
        refine lv_if_eq (tgt := 961) hx hb dL_refuses_952 (by decide) (fun _ => ?_) (fun c9 => absurd (by decide) c9)
        refine lv_bipush (v := iI 6) hx hb dL_refuses_961 (by decide) ?_
        refine lv_iload_n hx hb dL_refuses_963 rfl (lv_at hl 7 rfl) ?_
        refine y_add hx hb dL_refuses_964 ?_
        have B := bd_swap (a := []) (b := [(na, .inl (k 0, 4, .inl (fun i9 : Nat => iI (nf i9))))]) (d := tl2_464) (bd_to rfl B)
        refine k_W (rest := []) (wc := ([] ++ tl2_464)) (wr := [(na, .inl (k 0, 4, .inl (fun i9 : Nat => iI (nf i9))))]) (w_label l dC dI k hl0 T K qa cp2_463 tl2_464 0 (6 + xx) z_465 hQ (by omega) (by omega)) B mW_L_label mw_1807 hl ⟨Nat.le_of_ble_eq_true rfl, Nat.le_of_ble_eq_true rfl⟩ (Nat.le_of_ble_eq_true rfl) rfl dL_refuses_965 ⟨by dsimp only; omega, by dsimp only; omega⟩ (fun r w gc gs H locs hp B => ?_)
        rcases hp with ⟨cp2_468, tl2_469, z_470, z_471, z_472, rfl, hw9, rfl, rfl⟩ | ⟨cp2_473, tl2_474, z_475, z_476, z_477, rfl, hw9, rfl, rfl⟩
        · skip
          rw [hw9] at B; clear hw9
          have B := bd_to (ws' := ([(na, .inl (k 0, 4, .inl (fun i9 : Nat => iI (nf i9))))] ++ tl2_469)) rfl B
          have hPS : PS dI k T K qa cp2_468 tl2_469 := z_470
          exfalso; omega
        · skip
          rw [hw9] at B; clear hw9
          have B := bd_to (ws' := ([(na, .inl (k 0, 4, .inl (fun i9 : Nat => iI (nf i9))))] ++ tl2_474)) rfl B
          have hPS : PS dI k T K qa cp2_473 tl2_474 := z_475
          refine W.widen (k := ((cp2_473 - cp) + 98)) (n := ((12 * (cp2_473 - cp)) + 938)) (by omega) (by omega) ?_
          refine lv_ldc (v := (-2000000001)) hx hb B.1.2.2.2.1 (B.1.2.2.2.2.1 _ mw_593) dL_refuses_968 ?_
          refine lv_seti (y := iI (-2000000001)) (by decide) ?_
          refine lv_icmp_ne (tgt := 1081) hx hb dL_refuses_970 (by decide) (fun c9 => absurd c9 (by decide)) (fun _ => ?_)
          refine lv_aload_n hx hb dL_refuses_973 rfl (lv_at hl 5 rfl) ?_
          refine lv_iload hx hb dL_refuses_974 (lv_at hl 3 rfl) ?_
          refine lv_iconst (v := iI 0) hx hb dL_refuses_976 (by decide) ?_
          have B := bd_swap (a := []) (b := [(na, .inl (k 0, 4, .inl (fun i9 : Nat => iI (nf i9))))]) (d := tl2_474) (bd_to rfl B)
          refine k_W (rest := []) (wc := ([] ++ tl2_474)) (wr := [(na, .inl (k 0, 4, .inl (fun i9 : Nat => iI (nf i9))))]) (w_label l dC dI k hl0 T K qa cp2_473 tl2_474 (2 + (xx % 50)) 0 z_475 hQ (by omega) (by omega)) B mW_L_label mw_1807 hl ⟨Nat.le_of_ble_eq_true rfl, Nat.le_of_ble_eq_true rfl⟩ (Nat.le_of_ble_eq_true rfl) rfl dL_refuses_977 ⟨by dsimp only; omega, by dsimp only; omega⟩ (fun r w gc gs H locs hp B => ?_)
          rcases hp with ⟨cp2_478, tl2_479, z_480, z_481, z_482, rfl, hw9, rfl, rfl⟩ | ⟨cp2_483, tl2_484, z_485, z_486, z_487, rfl, hw9, rfl, rfl⟩
          · skip
            rw [hw9] at B; clear hw9
            have B := bd_to (ws' := ([(na, .inl (k 0, 4, .inl (fun i9 : Nat => iI (nf i9))))] ++ tl2_479)) rfl B
            have hPS : PS dI k T K qa cp2_478 tl2_479 := z_480
            exfalso; omega
          · skip
            rw [hw9] at B; clear hw9
            have B := bd_to (ws' := ([(na, .inl (k 0, 4, .inl (fun i9 : Nat => iI (nf i9))))] ++ tl2_484)) rfl B
            have hPS : PS dI k T K qa cp2_483 tl2_484 := z_485
            refine W.widen (k := ((cp2_483 - cp) + 99)) (n := ((12 * (cp2_483 - cp)) + 944)) (by omega) (by omega) ?_
            refine lv_ldc (v := (-2000000001)) hx hb B.1.2.2.2.1 (B.1.2.2.2.2.1 _ mw_593) dL_refuses_980 ?_
            refine lv_seti (y := iI (-2000000001)) (by decide) ?_
            refine lv_icmp_ne (tgt := 1081) hx hb dL_refuses_982 (by decide) (fun c9 => absurd c9 (by decide)) (fun _ => ?_)
            exact w_refuses_c985_11 l dC dI k hl0 T K qa cp tl na nf xx cp2_483 tl2_484 (by omega) hPS hQ hx9 hn9 (by omega)  (bd_to rfl B) hr hl

set_option maxHeartbeats 4000000 in
set_option maxRecDepth 100000 in
theorem w_refuses_c835_9 (l : Launch) (dC : Nat → ClassId) (dI : Nat → Nat → Nat) (k : Nat → ClassId) (hl0 : l.stackTraces = false) (T : Nat → Int → Int → Int → Int) (K : Nat → Int → Int) (qa : Nat) (cp : Nat) (tl : va_W) (na : Nat) (nf : Int → Int) (xx : Int) (cpS : Nat) (tlS : va_W) (hc0 : 512 ≤ cp ∧ cp ≤ 131072) (hPS : PS dI k T K qa cpS tlS) (hQ : OKT T K) (hx9 : 0 ≤ xx ∧ xx < 9973) (hn9 : nf 0 = T 0 0 0 0 ∧ nf 1 = K 0 0 ∧ nf 2 = T 12 0 0 0 ∧ nf 3 = T 18 0 0 0) (hcS : cp ≤ cpS ∧ cpS ≤ 131072) {p : Program} {e : Env} {s : State} {m : MethodId} {args : Array Value} {below : List Frame} {meth : Method} {c : Code} {H : Heap} {locs : List Loc} {ls : Array Slot} (B : bd p s m args meth c cL_refuses 11 yL_refuses.cls dC dI k (va_A ([(na, .inl (k 0, 4, .inl (fun i9 : Nat => iI (nf i9))))] ++ tl) s.heap.size) ([(na, .inl (k 0, 4, .inl (fun i9 : Nat => iI (nf i9))))] ++ tlS) H locs) (hr : meth.sig.returnType = (some .boolean)) (hl : lv_has ls 11 [(7, .int (iI 1)), (6, .int (iI ((T 12 0 0 0) + (xx % 50)))), (5, .int (iI ((T 0 0 0 0) + (xx % 50)))), (4, .int (iI (2 + (xx % 50)))), (3, .int (iI 0)), (0, .ref qa), (1, .ref na), (2, .int (iI xx))]) : W p l e ({ frames := 16, cells := ((131072 - cp) + 129), slots := ((12 * (131072 - cp)) + 1266), locals := 495 } : Room) s m args below meth c H locs ((cpS - cp) + 88) ((12 * (cpS - cp)) + 878) (MQ below (Qk dC dI ([(na, .inl (k 0, 4, .inl (fun i9 : Nat => iI (nf i9))))] ++ tl) s.heap.size (fun r w gc gs => (∃ (cp2 : Nat) (tl2 : va_W), (PS dI k T K qa cp2 tl2) ∧ (cp ≤ cp2 ∧ cp2 ≤ 131072) ∧ r = some (.int (iI 1)) ∧ w = ([(na, .inl (k 0, 4, .inl (fun i9 : Nat => iI (nf i9))))] ++ tl2) ∧ gc = ((cp2 - cp) + 129) ∧ gs = ((12 * (cp2 - cp)) + 1266)))) args s ({ frames := 16, cells := ((131072 - cp) + 129), slots := ((12 * (131072 - cp)) + 1266), locals := 495 } : Room).cells ({ frames := 16, cells := ((131072 - cp) + 129), slots := ((12 * (131072 - cp)) + 1266), locals := 495 } : Room).slots (va_A ([(na, .inl (k 0, 4, .inl (fun i9 : Nat => iI (nf i9))))] ++ tl) s.heap.size)) (F0 m 835 ls []) := by
  have hx := B.1.1
  have hb := B.1.2.1
  have hcp9 := PS_cp hPS
  have hn0 := TK_nb hQ.1
  have hk0 := hQ.2.1.1
  have hf0 := TK_fc hQ.1
  have hp0 := TK_np hQ.1
  have hm0 : lmZ 0 = 1 := rfl
  have hm1 : lmZ 1 = 0 := rfl
  have hm2 : lmZ 2 = 0 := rfl
  have hm3 : lmZ 3 = 0 := rfl
  have hm4 : lmZ 4 = 0 := rfl
  have hm5 : mmZ T 0 = 5 := rfl
  have hm6 : mmZ T 1 = T 12 0 0 0 - 1 := rfl
  have hm7 : mmZ T 2 = 5 := rfl
  have hm8 : mmZ T 3 = 7 := rfl
  have hm9 : mmZ T 4 = 1 := rfl
  refine lv_aload_n hx hb dL_refuses_835 rfl (lv_at hl 5 rfl) ?_
  refine lv_iload hx hb dL_refuses_836 (lv_at hl 3 rfl) ?_
  have B := bd_swap (a := []) (b := [(na, .inl (k 0, 4, .inl (fun i9 : Nat => iI (nf i9))))]) (d := tlS) (bd_to rfl B)
  refine k_W (rest := []) (wc := ([] ++ tlS)) (wr := [(na, .inl (k 0, 4, .inl (fun i9 : Nat => iI (nf i9))))]) (w_settled l dC dI k hl0 T K qa cpS tlS (2 + (xx % 50)) hPS hQ (by omega)) B mW_L_settled mw_1749 hl ⟨Nat.le_of_ble_eq_true rfl, Nat.le_of_ble_eq_true rfl⟩ (Nat.le_of_ble_eq_true rfl) rfl dL_refuses_838 ⟨by dsimp only; omega, by dsimp only; omega⟩ (fun r w gc gs H locs hp B => ?_)
  rcases hp with ⟨cp2_377, tl2_378, z_379, z_380, z_381, rfl, hw9, rfl, rfl⟩ | ⟨cp2_382, tl2_383, z_384, z_385, z_386, rfl, hw9, rfl, rfl⟩
  · skip
    rw [hw9] at B; clear hw9
    have B := bd_to (ws' := ([(na, .inl (k 0, 4, .inl (fun i9 : Nat => iI (nf i9))))] ++ tl2_378)) rfl B
    have hPS : PS dI k T K qa cp2_377 tl2_378 := z_379
    exfalso; omega
  · skip
    rw [hw9] at B; clear hw9
    have B := bd_to (ws' := ([(na, .inl (k 0, 4, .inl (fun i9 : Nat => iI (nf i9))))] ++ tl2_383)) rfl B
    have hPS : PS dI k T K qa cp2_382 tl2_383 := z_384
    refine W.widen (k := ((cp2_382 - cp) + 89)) (n := ((12 * (cp2_382 - cp)) + 884)) (by omega) (by omega) ?_
    refine lv_ldc (v := (-2000000001)) hx hb B.1.2.2.2.1 (B.1.2.2.2.2.1 _ mw_593) dL_refuses_841 ?_
    refine lv_seti (y := iI (-2000000001)) (by decide) ?_
    refine lv_icmp_ne (tgt := 1081) hx hb dL_refuses_843 (by decide) (fun c9 => absurd c9 (by decide)) (fun _ => ?_)
    refine lv_aload_n hx hb dL_refuses_846 rfl (lv_at hl 5 rfl) ?_
    refine lv_iconst (v := iI 0) hx hb dL_refuses_847 (by decide) ?_
    refine lv_iload_n hx hb dL_refuses_848 rfl (lv_at hl 4 rfl) ?_
    refine lv_if_eq (tgt := 857) hx hb dL_refuses_849 (by decide) (fun _ => ?_) (fun c9 => absurd (by decide) c9)
    refine lv_aload_n hx hb dL_refuses_857 rfl (lv_at hl 5 rfl) ?_
    refine lv_iconst (v := iI 0) hx hb dL_refuses_858 (by decide) ?_
    have z_387 : 0 ≤ mkZ T (moC T 0 (dgN T 0)) 0 0 ∧ mkZ T (moC T 0 (dgN T 0)) 0 0 ≤ 965 := (hQ.2.2.2.2 0 (by decide) (by decide)).2.2.2.1
    have B := bd_swap (a := []) (b := [(na, .inl (k 0, 4, .inl (fun i9 : Nat => iI (nf i9))))]) (d := tl2_383) (bd_to rfl B)
    refine k_W (rest := [.int (iI 0), .ref qa]) (wc := ([] ++ tl2_383)) (wr := [(na, .inl (k 0, 4, .inl (fun i9 : Nat => iI (nf i9))))]) (w_pages l dC dI k hl0 T K qa cp2_382 tl2_383 0 z_384 hQ (by omega)) B mW_L_pages mw_1721 hl ⟨Nat.le_of_ble_eq_true rfl, Nat.le_of_ble_eq_true rfl⟩ (Nat.le_of_ble_eq_true rfl) rfl dL_refuses_859 ⟨by dsimp only; omega, by dsimp only; omega⟩ (fun r w gc gs H locs hp B => ?_)
    rcases hp with ⟨cp2_388, tl2_389, z_390, z_391, z_392, rfl, hw9, rfl, rfl⟩ | ⟨cp2_393, tl2_394, z_395, z_396, z_397, rfl, hw9, rfl, rfl⟩
    · skip
      rw [hw9] at B; clear hw9
      have B := bd_to (ws' := ([(na, .inl (k 0, 4, .inl (fun i9 : Nat => iI (nf i9))))] ++ tl2_389)) rfl B
      have hPS : PS dI k T K qa cp2_388 tl2_389 := z_390
      refine W.widen (k := ((cp2_388 - cp) + 90)) (n := ((12 * (cp2_388 - cp)) + 890)) (by omega) (by omega) ?_
      refine lv_iconst (v := iI 1) hx hb dL_refuses_862 (by decide) ?_
      refine y_add hx hb dL_refuses_863 ?_
      refine lv_iload_n hx hb dL_refuses_864 rfl (lv_at hl 7 rfl) ?_
      refine y_add hx hb dL_refuses_865 ?_
      refine lv_iconst (v := iI 0) hx hb dL_refuses_866 (by decide) ?_
      have B := bd_swap (a := []) (b := [(na, .inl (k 0, 4, .inl (fun i9 : Nat => iI (nf i9))))]) (d := tl2_389) (bd_to rfl B)
      refine k_W (rest := []) (wc := ([] ++ tl2_389)) (wr := [(na, .inl (k 0, 4, .inl (fun i9 : Nat => iI (nf i9))))]) (w_on l dC dI k hl0 T K qa cp2_388 tl2_389 0 ((((mkZ T (moC T 0 (dgN T 0))) 0 0) + 1) + xx) 0 z_390 hQ (by omega) (by omega) (by omega) (by omega)) B mW_L_on mw_1756 hl ⟨Nat.le_of_ble_eq_true rfl, Nat.le_of_ble_eq_true rfl⟩ (Nat.le_of_ble_eq_true rfl) rfl dL_refuses_867 ⟨by dsimp only; omega, by dsimp only; omega⟩ (fun r w gc gs H locs hp B => ?_)
      rcases hp with ⟨cp2_398, tl2_399, z_400, z_401, z_402, rfl, hw9, rfl, rfl⟩ | ⟨cp2_403, tl2_404, z_405, z_406, z_407, rfl, hw9, rfl, rfl⟩
      · skip
        rw [hw9] at B; clear hw9
        have B := bd_to (ws' := ([(na, .inl (k 0, 4, .inl (fun i9 : Nat => iI (nf i9))))] ++ tl2_399)) rfl B
        have hPS : PS dI k T K qa cp2_398 tl2_399 := z_400
        exfalso; omega
      · skip
        rw [hw9] at B; clear hw9
        have B := bd_to (ws' := ([(na, .inl (k 0, 4, .inl (fun i9 : Nat => iI (nf i9))))] ++ tl2_404)) rfl B
        have hPS : PS dI k T K qa cp2_403 tl2_404 := z_405
        refine W.widen (k := ((cp2_403 - cp) + 91)) (n := ((12 * (cp2_403 - cp)) + 896)) (by omega) (by omega) ?_
        refine lv_ldc (v := (-2000000001)) hx hb B.1.2.2.2.1 (B.1.2.2.2.2.1 _ mw_593) dL_refuses_870 ?_
        refine lv_seti (y := iI (-2000000001)) (by decide) ?_
        refine lv_icmp_ne (tgt := 1081) hx hb dL_refuses_872 (by decide) (fun c9 => absurd c9 (by decide)) (fun _ => ?_)
        refine lv_aload_n hx hb dL_refuses_875 rfl (lv_at hl 5 rfl) ?_
        refine lv_iload hx hb dL_refuses_876 (lv_at hl 3 rfl) ?_
        refine lv_iconst (v := iI 1) hx hb dL_refuses_878 (by decide) ?_
        have B := bd_swap (a := []) (b := [(na, .inl (k 0, 4, .inl (fun i9 : Nat => iI (nf i9))))]) (d := tl2_404) (bd_to rfl B)
        refine k_W (rest := []) (wc := ([] ++ tl2_404)) (wr := [(na, .inl (k 0, 4, .inl (fun i9 : Nat => iI (nf i9))))]) (w_head l dC dI k hl0 T K qa cp2_403 tl2_404 (2 + (xx % 50)) 1 z_405 hQ (by omega) (by omega)) B mW_L_head mw_1768 hl ⟨Nat.le_of_ble_eq_true rfl, Nat.le_of_ble_eq_true rfl⟩ (Nat.le_of_ble_eq_true rfl) rfl dL_refuses_879 ⟨by dsimp only; omega, by dsimp only; omega⟩ (fun r w gc gs H locs hp B => ?_)
        rcases hp with ⟨cp2_408, tl2_409, z_410, z_411, z_412, rfl, hw9, rfl, rfl⟩ | ⟨cp2_413, tl2_414, z_415, z_416, z_417, rfl, hw9, rfl, rfl⟩
        · skip
          rw [hw9] at B; clear hw9
          have B := bd_to (ws' := ([(na, .inl (k 0, 4, .inl (fun i9 : Nat => iI (nf i9))))] ++ tl2_409)) rfl B
          have hPS : PS dI k T K qa cp2_408 tl2_409 := z_410
          exfalso; omega
        · skip
          rw [hw9] at B; clear hw9
          have B := bd_to (ws' := ([(na, .inl (k 0, 4, .inl (fun i9 : Nat => iI (nf i9))))] ++ tl2_414)) rfl B
          have hPS : PS dI k T K qa cp2_413 tl2_414 := z_415
          refine W.widen (k := ((cp2_413 - cp) + 92)) (n := ((12 * (cp2_413 - cp)) + 902)) (by omega) (by omega) ?_
          refine lv_ldc (v := (-2000000001)) hx hb B.1.2.2.2.1 (B.1.2.2.2.2.1 _ mw_593) dL_refuses_882 ?_
          refine lv_seti (y := iI (-2000000001)) (by decide) ?_
          refine lv_icmp_ne (tgt := 1081) hx hb dL_refuses_884 (by decide) (fun c9 => absurd c9 (by decide)) (fun _ => ?_)
          refine lv_aload_n hx hb dL_refuses_887 rfl (lv_at hl 5 rfl) ?_
          refine lv_iconst (v := iI 1) hx hb dL_refuses_888 (by decide) ?_
          refine lv_iload_n hx hb dL_refuses_889 rfl (lv_at hl 7 rfl) ?_
          refine y_neg hx hb dL_refuses_890 ?_
          have B := bd_swap (a := []) (b := [(na, .inl (k 0, 4, .inl (fun i9 : Nat => iI (nf i9))))]) (d := tl2_414) (bd_to rfl B)
          refine k_W (rest := []) (wc := ([] ++ tl2_414)) (wr := [(na, .inl (k 0, 4, .inl (fun i9 : Nat => iI (nf i9))))]) (w_head l dC dI k hl0 T K qa cp2_413 tl2_414 1 (-xx) z_415 hQ (by omega) (by omega)) B mW_L_head mw_1768 hl ⟨Nat.le_of_ble_eq_true rfl, Nat.le_of_ble_eq_true rfl⟩ (Nat.le_of_ble_eq_true rfl) rfl dL_refuses_891 ⟨by dsimp only; omega, by dsimp only; omega⟩ (fun r w gc gs H locs hp B => ?_)
          rcases hp with ⟨cp2_418, tl2_419, z_420, z_421, z_422, rfl, hw9, rfl, rfl⟩ | ⟨cp2_423, tl2_424, z_425, z_426, z_427, rfl, hw9, rfl, rfl⟩
          · skip
            rw [hw9] at B; clear hw9
            have B := bd_to (ws' := ([(na, .inl (k 0, 4, .inl (fun i9 : Nat => iI (nf i9))))] ++ tl2_419)) rfl B
            have hPS : PS dI k T K qa cp2_418 tl2_419 := z_420
            exfalso; omega
          · skip
            rw [hw9] at B; clear hw9
            have B := bd_to (ws' := ([(na, .inl (k 0, 4, .inl (fun i9 : Nat => iI (nf i9))))] ++ tl2_424)) rfl B
            have hPS : PS dI k T K qa cp2_423 tl2_424 := z_425
            refine W.widen (k := ((cp2_423 - cp) + 93)) (n := ((12 * (cp2_423 - cp)) + 908)) (by omega) (by omega) ?_
            refine lv_ldc (v := (-2000000001)) hx hb B.1.2.2.2.1 (B.1.2.2.2.2.1 _ mw_593) dL_refuses_894 ?_
            refine lv_seti (y := iI (-2000000001)) (by decide) ?_
            refine lv_icmp_ne (tgt := 1081) hx hb dL_refuses_896 (by decide) (fun c9 => absurd c9 (by decide)) (fun _ => ?_)
            refine lv_aload_n hx hb dL_refuses_899 rfl (lv_at hl 5 rfl) ?_
            refine lv_iconst (v := iI 0) hx hb dL_refuses_900 (by decide) ?_
            refine lv_iconst (v := iI 0) hx hb dL_refuses_901 (by decide) ?_
            refine lv_iconst (v := iI 0) hx hb dL_refuses_902 (by decide) ?_
            have B := bd_swap (a := []) (b := [(na, .inl (k 0, 4, .inl (fun i9 : Nat => iI (nf i9))))]) (d := tl2_424) (bd_to rfl B)
            refine k_W (rest := []) (wc := ([] ++ tl2_424)) (wr := [(na, .inl (k 0, 4, .inl (fun i9 : Nat => iI (nf i9))))]) (w_textAt l dC dI k hl0 T K qa cp2_423 tl2_424 0 0 0 z_425 hQ (by omega) (by omega) (by omega)) B mW_L_textAt mw_1784 hl ⟨Nat.le_of_ble_eq_true rfl, Nat.le_of_ble_eq_true rfl⟩ (Nat.le_of_ble_eq_true rfl) rfl dL_refuses_903 ⟨by dsimp only; omega, by dsimp only; omega⟩ (fun r w gc gs H locs hp B => ?_)
            rcases hp with ⟨cp2_428, tl2_429, z_430, z_431, z_432, rfl, hw9, rfl, rfl⟩ | ⟨cp2_433, tl2_434, z_435, z_436, z_437, rfl, hw9, rfl, rfl⟩
            · skip
              rw [hw9] at B; clear hw9
              have B := bd_to (ws' := ([(na, .inl (k 0, 4, .inl (fun i9 : Nat => iI (nf i9))))] ++ tl2_429)) rfl B
              have hPS : PS dI k T K qa cp2_428 tl2_429 := z_430
              exfalso; omega
            · skip
              rw [hw9] at B; clear hw9
              have B := bd_to (ws' := ([(na, .inl (k 0, 4, .inl (fun i9 : Nat => iI (nf i9))))] ++ tl2_434)) rfl B
              have hPS : PS dI k T K qa cp2_433 tl2_434 := z_435
              refine W.widen (k := ((cp2_433 - cp) + 94)) (n := ((12 * (cp2_433 - cp)) + 914)) (by omega) (by omega) ?_
              refine lv_ldc (v := (-2000000001)) hx hb B.1.2.2.2.1 (B.1.2.2.2.2.1 _ mw_593) dL_refuses_906 ?_
              refine lv_seti (y := iI (-2000000001)) (by decide) ?_
              refine lv_icmp_ne (tgt := 1081) hx hb dL_refuses_908 (by decide) (fun c9 => absurd c9 (by decide)) (fun _ => ?_)
              exact w_refuses_c911_10 l dC dI k hl0 T K qa cp tl na nf xx cp2_433 tl2_434 (by omega) hPS hQ hx9 hn9 (by omega)  (bd_to rfl B) hr hl
    · skip
      rw [hw9] at B; clear hw9
      have B := bd_to (ws' := ([(na, .inl (k 0, 4, .inl (fun i9 : Nat => iI (nf i9))))] ++ tl2_394)) rfl B
      have hPS : PS dI k T K qa cp2_393 tl2_394 := z_395
      exfalso; omega

set_option maxHeartbeats 4000000 in
set_option maxRecDepth 100000 in
theorem w_refuses_c777_8 (l : Launch) (dC : Nat → ClassId) (dI : Nat → Nat → Nat) (k : Nat → ClassId) (hl0 : l.stackTraces = false) (T : Nat → Int → Int → Int → Int) (K : Nat → Int → Int) (qa : Nat) (cp : Nat) (tl : va_W) (na : Nat) (nf : Int → Int) (xx : Int) (cpS : Nat) (tlS : va_W) (hc0 : 512 ≤ cp ∧ cp ≤ 131072) (hPS : PS dI k T K qa cpS tlS) (hQ : OKT T K) (hx9 : 0 ≤ xx ∧ xx < 9973) (hn9 : nf 0 = T 0 0 0 0 ∧ nf 1 = K 0 0 ∧ nf 2 = T 12 0 0 0 ∧ nf 3 = T 18 0 0 0) (hcS : cp ≤ cpS ∧ cpS ≤ 131072) {p : Program} {e : Env} {s : State} {m : MethodId} {args : Array Value} {below : List Frame} {meth : Method} {c : Code} {H : Heap} {locs : List Loc} {ls : Array Slot} (B : bd p s m args meth c cL_refuses 11 yL_refuses.cls dC dI k (va_A ([(na, .inl (k 0, 4, .inl (fun i9 : Nat => iI (nf i9))))] ++ tl) s.heap.size) ([(na, .inl (k 0, 4, .inl (fun i9 : Nat => iI (nf i9))))] ++ tlS) H locs) (hr : meth.sig.returnType = (some .boolean)) (hl : lv_has ls 11 [(7, .int (iI 1)), (6, .int (iI ((T 12 0 0 0) + (xx % 50)))), (5, .int (iI ((T 0 0 0 0) + (xx % 50)))), (4, .int (iI (2 + (xx % 50)))), (3, .int (iI 0)), (0, .ref qa), (1, .ref na), (2, .int (iI xx))]) : W p l e ({ frames := 16, cells := ((131072 - cp) + 129), slots := ((12 * (131072 - cp)) + 1266), locals := 495 } : Room) s m args below meth c H locs ((cpS - cp) + 83) ((12 * (cpS - cp)) + 848) (MQ below (Qk dC dI ([(na, .inl (k 0, 4, .inl (fun i9 : Nat => iI (nf i9))))] ++ tl) s.heap.size (fun r w gc gs => (∃ (cp2 : Nat) (tl2 : va_W), (PS dI k T K qa cp2 tl2) ∧ (cp ≤ cp2 ∧ cp2 ≤ 131072) ∧ r = some (.int (iI 1)) ∧ w = ([(na, .inl (k 0, 4, .inl (fun i9 : Nat => iI (nf i9))))] ++ tl2) ∧ gc = ((cp2 - cp) + 129) ∧ gs = ((12 * (cp2 - cp)) + 1266)))) args s ({ frames := 16, cells := ((131072 - cp) + 129), slots := ((12 * (131072 - cp)) + 1266), locals := 495 } : Room).cells ({ frames := 16, cells := ((131072 - cp) + 129), slots := ((12 * (131072 - cp)) + 1266), locals := 495 } : Room).slots (va_A ([(na, .inl (k 0, 4, .inl (fun i9 : Nat => iI (nf i9))))] ++ tl) s.heap.size)) (F0 m 777 ls []) := by
  have hx := B.1.1
  have hb := B.1.2.1
  have hcp9 := PS_cp hPS
  have hn0 := TK_nb hQ.1
  have hk0 := hQ.2.1.1
  have hf0 := TK_fc hQ.1
  have hp0 := TK_np hQ.1
  have hm0 : lmZ 0 = 1 := rfl
  have hm1 : lmZ 1 = 0 := rfl
  have hm2 : lmZ 2 = 0 := rfl
  have hm3 : lmZ 3 = 0 := rfl
  have hm4 : lmZ 4 = 0 := rfl
  have hm5 : mmZ T 0 = 5 := rfl
  have hm6 : mmZ T 1 = T 12 0 0 0 - 1 := rfl
  have hm7 : mmZ T 2 = 5 := rfl
  have hm8 : mmZ T 3 = 7 := rfl
  have hm9 : mmZ T 4 = 1 := rfl
  refine lv_aload_n hx hb dL_refuses_777 rfl (lv_at hl 5 rfl) ?_
  refine lv_iload hx hb dL_refuses_778 (lv_at hl 3 rfl) ?_
  refine lv_iconst (v := iI 0) hx hb dL_refuses_780 (by decide) ?_
  have B := bd_swap (a := []) (b := [(na, .inl (k 0, 4, .inl (fun i9 : Nat => iI (nf i9))))]) (d := tlS) (bd_to rfl B)
  refine k_W (rest := []) (wc := ([] ++ tlS)) (wr := [(na, .inl (k 0, 4, .inl (fun i9 : Nat => iI (nf i9))))]) (w_byAll l dC dI k hl0 T K qa cpS tlS (2 + (xx % 50)) 0 hPS hQ (by omega) (by omega)) B mW_L_byAll mw_1702 hl ⟨Nat.le_of_ble_eq_true rfl, Nat.le_of_ble_eq_true rfl⟩ (Nat.le_of_ble_eq_true rfl) rfl dL_refuses_781 ⟨by dsimp only; omega, by dsimp only; omega⟩ (fun r w gc gs H locs hp B => ?_)
  rcases hp with ⟨cp2_326, tl2_327, z_328, z_329, z_330, rfl, hw9, rfl, rfl⟩ | ⟨cp2_331, tl2_332, z_333, z_334, z_335, rfl, hw9, rfl, rfl⟩
  · skip
    rw [hw9] at B; clear hw9
    have B := bd_to (ws' := ([(na, .inl (k 0, 4, .inl (fun i9 : Nat => iI (nf i9))))] ++ tl2_327)) rfl B
    have hPS : PS dI k T K qa cp2_326 tl2_327 := z_328
    exfalso; omega
  · skip
    rw [hw9] at B; clear hw9
    have B := bd_to (ws' := ([(na, .inl (k 0, 4, .inl (fun i9 : Nat => iI (nf i9))))] ++ tl2_332)) rfl B
    have hPS : PS dI k T K qa cp2_331 tl2_332 := z_333
    refine W.widen (k := ((cp2_331 - cp) + 84)) (n := ((12 * (cp2_331 - cp)) + 854)) (by omega) (by omega) ?_
    refine lv_ldc2 (v := (-2000000001)) hx hb B.1.2.2.2.1 (B.1.2.2.2.2.1 _ mw_1701) dL_refuses_784 ?_
    refine lv_setl (y := lI (-2000000001)) (by decide) ?_
    refine y_lcmp B (a := (-2000000001)) (b := (-2000000001)) (by decide) (by decide) dL_refuses_787 ?_
    refine lv_seti (y := iI 0) (by decide) ?_
    refine lv_if_ne (tgt := 1081) hx hb dL_refuses_788 (by decide) (fun c9 => absurd c9 (by decide)) (fun _ => ?_)
    refine lv_aload_n hx hb dL_refuses_791 rfl (lv_at hl 5 rfl) ?_
    refine lv_iload hx hb dL_refuses_792 (lv_at hl 3 rfl) ?_
    have z_336 : 0 ≤ mkZ T (moC T 0 (dgN T 0)) 0 0 ∧ mkZ T (moC T 0 (dgN T 0)) 0 0 ≤ 965 := (hQ.2.2.2.2 0 (by decide) (by decide)).2.2.2.1
    have B := bd_swap (a := []) (b := [(na, .inl (k 0, 4, .inl (fun i9 : Nat => iI (nf i9))))]) (d := tl2_332) (bd_to rfl B)
    refine k_W (rest := []) (wc := ([] ++ tl2_332)) (wr := [(na, .inl (k 0, 4, .inl (fun i9 : Nat => iI (nf i9))))]) (w_pages l dC dI k hl0 T K qa cp2_331 tl2_332 (2 + (xx % 50)) z_333 hQ (by omega)) B mW_L_pages mw_1721 hl ⟨Nat.le_of_ble_eq_true rfl, Nat.le_of_ble_eq_true rfl⟩ (Nat.le_of_ble_eq_true rfl) rfl dL_refuses_794 ⟨by dsimp only; omega, by dsimp only; omega⟩ (fun r w gc gs H locs hp B => ?_)
    rcases hp with ⟨cp2_337, tl2_338, z_339, z_340, z_341, rfl, hw9, rfl, rfl⟩ | ⟨cp2_342, tl2_343, z_344, z_345, z_346, rfl, hw9, rfl, rfl⟩
    · skip
      rw [hw9] at B; clear hw9
      have B := bd_to (ws' := ([(na, .inl (k 0, 4, .inl (fun i9 : Nat => iI (nf i9))))] ++ tl2_338)) rfl B
      have hPS : PS dI k T K qa cp2_337 tl2_338 := z_339
      exfalso; omega
    · skip
      rw [hw9] at B; clear hw9
      have B := bd_to (ws' := ([(na, .inl (k 0, 4, .inl (fun i9 : Nat => iI (nf i9))))] ++ tl2_343)) rfl B
      have hPS : PS dI k T K qa cp2_342 tl2_343 := z_344
      refine W.widen (k := ((cp2_342 - cp) + 85)) (n := ((12 * (cp2_342 - cp)) + 860)) (by omega) (by omega) ?_
      refine lv_ldc (v := (-2000000001)) hx hb B.1.2.2.2.1 (B.1.2.2.2.2.1 _ mw_593) dL_refuses_797 ?_
      refine lv_seti (y := iI (-2000000001)) (by decide) ?_
      refine lv_icmp_ne (tgt := 1081) hx hb dL_refuses_799 (by decide) (fun c9 => absurd c9 (by decide)) (fun _ => ?_)
      refine lv_aload_n hx hb dL_refuses_802 rfl (lv_at hl 5 rfl) ?_
      refine lv_iload hx hb dL_refuses_803 (lv_at hl 3 rfl) ?_
      have B := bd_swap (a := []) (b := [(na, .inl (k 0, 4, .inl (fun i9 : Nat => iI (nf i9))))]) (d := tl2_343) (bd_to rfl B)
      refine k_W (rest := []) (wc := ([] ++ tl2_343)) (wr := [(na, .inl (k 0, 4, .inl (fun i9 : Nat => iI (nf i9))))]) (w_cost l dC dI k hl0 T K qa cp2_342 tl2_343 (2 + (xx % 50)) z_344 hQ (by omega)) B mW_L_cost mw_1728 hl ⟨Nat.le_of_ble_eq_true rfl, Nat.le_of_ble_eq_true rfl⟩ (Nat.le_of_ble_eq_true rfl) rfl dL_refuses_805 ⟨by dsimp only; omega, by dsimp only; omega⟩ (fun r w gc gs H locs hp B => ?_)
      rcases hp with ⟨cp2_347, tl2_348, z_349, z_350, z_351, rfl, hw9, rfl, rfl⟩ | ⟨cp2_352, tl2_353, z_354, z_355, z_356, rfl, hw9, rfl, rfl⟩
      · skip
        rw [hw9] at B; clear hw9
        have B := bd_to (ws' := ([(na, .inl (k 0, 4, .inl (fun i9 : Nat => iI (nf i9))))] ++ tl2_348)) rfl B
        have hPS : PS dI k T K qa cp2_347 tl2_348 := z_349
        exfalso; omega
      · skip
        rw [hw9] at B; clear hw9
        have B := bd_to (ws' := ([(na, .inl (k 0, 4, .inl (fun i9 : Nat => iI (nf i9))))] ++ tl2_353)) rfl B
        have hPS : PS dI k T K qa cp2_352 tl2_353 := z_354
        refine W.widen (k := ((cp2_352 - cp) + 86)) (n := ((12 * (cp2_352 - cp)) + 866)) (by omega) (by omega) ?_
        refine lv_ldc (v := (-2000000001)) hx hb B.1.2.2.2.1 (B.1.2.2.2.2.1 _ mw_593) dL_refuses_808 ?_
        refine lv_seti (y := iI (-2000000001)) (by decide) ?_
        refine lv_icmp_ne (tgt := 1081) hx hb dL_refuses_810 (by decide) (fun c9 => absurd c9 (by decide)) (fun _ => ?_)
        refine lv_aload_n hx hb dL_refuses_813 rfl (lv_at hl 5 rfl) ?_
        refine lv_iload hx hb dL_refuses_814 (lv_at hl 3 rfl) ?_
        have B := bd_swap (a := []) (b := [(na, .inl (k 0, 4, .inl (fun i9 : Nat => iI (nf i9))))]) (d := tl2_353) (bd_to rfl B)
        refine k_W (rest := []) (wc := ([] ++ tl2_353)) (wr := [(na, .inl (k 0, 4, .inl (fun i9 : Nat => iI (nf i9))))]) (w_costAnew l dC dI k hl0 T K qa cp2_352 tl2_353 (2 + (xx % 50)) z_354 hQ (by omega)) B mW_L_costAnew mw_1735 hl ⟨Nat.le_of_ble_eq_true rfl, Nat.le_of_ble_eq_true rfl⟩ (Nat.le_of_ble_eq_true rfl) rfl dL_refuses_816 ⟨by dsimp only; omega, by dsimp only; omega⟩ (fun r w gc gs H locs hp B => ?_)
        rcases hp with ⟨cp2_357, tl2_358, z_359, z_360, z_361, rfl, hw9, rfl, rfl⟩ | ⟨cp2_362, tl2_363, z_364, z_365, z_366, rfl, hw9, rfl, rfl⟩
        · skip
          rw [hw9] at B; clear hw9
          have B := bd_to (ws' := ([(na, .inl (k 0, 4, .inl (fun i9 : Nat => iI (nf i9))))] ++ tl2_358)) rfl B
          have hPS : PS dI k T K qa cp2_357 tl2_358 := z_359
          exfalso; omega
        · skip
          rw [hw9] at B; clear hw9
          have B := bd_to (ws' := ([(na, .inl (k 0, 4, .inl (fun i9 : Nat => iI (nf i9))))] ++ tl2_363)) rfl B
          have hPS : PS dI k T K qa cp2_362 tl2_363 := z_364
          refine W.widen (k := ((cp2_362 - cp) + 87)) (n := ((12 * (cp2_362 - cp)) + 872)) (by omega) (by omega) ?_
          refine lv_ldc (v := (-2000000001)) hx hb B.1.2.2.2.1 (B.1.2.2.2.2.1 _ mw_593) dL_refuses_819 ?_
          refine lv_seti (y := iI (-2000000001)) (by decide) ?_
          refine lv_icmp_ne (tgt := 1081) hx hb dL_refuses_821 (by decide) (fun c9 => absurd c9 (by decide)) (fun _ => ?_)
          refine lv_aload_n hx hb dL_refuses_824 rfl (lv_at hl 5 rfl) ?_
          refine lv_iload hx hb dL_refuses_825 (lv_at hl 3 rfl) ?_
          have B := bd_swap (a := []) (b := [(na, .inl (k 0, 4, .inl (fun i9 : Nat => iI (nf i9))))]) (d := tl2_363) (bd_to rfl B)
          refine k_W (rest := []) (wc := ([] ++ tl2_363)) (wr := [(na, .inl (k 0, 4, .inl (fun i9 : Nat => iI (nf i9))))]) (w_rounds l dC dI k hl0 T K qa cp2_362 tl2_363 (2 + (xx % 50)) z_364 hQ (by omega)) B mW_L_rounds mw_1742 hl ⟨Nat.le_of_ble_eq_true rfl, Nat.le_of_ble_eq_true rfl⟩ (Nat.le_of_ble_eq_true rfl) rfl dL_refuses_827 ⟨by dsimp only; omega, by dsimp only; omega⟩ (fun r w gc gs H locs hp B => ?_)
          rcases hp with ⟨cp2_367, tl2_368, z_369, z_370, z_371, rfl, hw9, rfl, rfl⟩ | ⟨cp2_372, tl2_373, z_374, z_375, z_376, rfl, hw9, rfl, rfl⟩
          · skip
            rw [hw9] at B; clear hw9
            have B := bd_to (ws' := ([(na, .inl (k 0, 4, .inl (fun i9 : Nat => iI (nf i9))))] ++ tl2_368)) rfl B
            have hPS : PS dI k T K qa cp2_367 tl2_368 := z_369
            exfalso; omega
          · skip
            rw [hw9] at B; clear hw9
            have B := bd_to (ws' := ([(na, .inl (k 0, 4, .inl (fun i9 : Nat => iI (nf i9))))] ++ tl2_373)) rfl B
            have hPS : PS dI k T K qa cp2_372 tl2_373 := z_374
            refine W.widen (k := ((cp2_372 - cp) + 88)) (n := ((12 * (cp2_372 - cp)) + 878)) (by omega) (by omega) ?_
            refine lv_ldc (v := (-2000000001)) hx hb B.1.2.2.2.1 (B.1.2.2.2.2.1 _ mw_593) dL_refuses_830 ?_
            refine lv_seti (y := iI (-2000000001)) (by decide) ?_
            refine lv_icmp_ne (tgt := 1081) hx hb dL_refuses_832 (by decide) (fun c9 => absurd c9 (by decide)) (fun _ => ?_)
            exact w_refuses_c835_9 l dC dI k hl0 T K qa cp tl na nf xx cp2_372 tl2_373 (by omega) hPS hQ hx9 hn9 (by omega)  (bd_to rfl B) hr hl

set_option maxHeartbeats 4000000 in
set_option maxRecDepth 100000 in
theorem w_refuses_c713_7 (l : Launch) (dC : Nat → ClassId) (dI : Nat → Nat → Nat) (k : Nat → ClassId) (hl0 : l.stackTraces = false) (T : Nat → Int → Int → Int → Int) (K : Nat → Int → Int) (qa : Nat) (cp : Nat) (tl : va_W) (na : Nat) (nf : Int → Int) (xx : Int) (cpS : Nat) (tlS : va_W) (hc0 : 512 ≤ cp ∧ cp ≤ 131072) (hPS : PS dI k T K qa cpS tlS) (hQ : OKT T K) (hx9 : 0 ≤ xx ∧ xx < 9973) (hn9 : nf 0 = T 0 0 0 0 ∧ nf 1 = K 0 0 ∧ nf 2 = T 12 0 0 0 ∧ nf 3 = T 18 0 0 0) (hcS : cp ≤ cpS ∧ cpS ≤ 131072) {p : Program} {e : Env} {s : State} {m : MethodId} {args : Array Value} {below : List Frame} {meth : Method} {c : Code} {H : Heap} {locs : List Loc} {ls : Array Slot} (B : bd p s m args meth c cL_refuses 11 yL_refuses.cls dC dI k (va_A ([(na, .inl (k 0, 4, .inl (fun i9 : Nat => iI (nf i9))))] ++ tl) s.heap.size) ([(na, .inl (k 0, 4, .inl (fun i9 : Nat => iI (nf i9))))] ++ tlS) H locs) (hr : meth.sig.returnType = (some .boolean)) (hl : lv_has ls 11 [(7, .int (iI 1)), (6, .int (iI ((T 12 0 0 0) + (xx % 50)))), (5, .int (iI ((T 0 0 0 0) + (xx % 50)))), (4, .int (iI (2 + (xx % 50)))), (3, .int (iI 0)), (0, .ref qa), (1, .ref na), (2, .int (iI xx))]) : W p l e ({ frames := 16, cells := ((131072 - cp) + 129), slots := ((12 * (131072 - cp)) + 1266), locals := 495 } : Room) s m args below meth c H locs ((cpS - cp) + 78) ((12 * (cpS - cp)) + 818) (MQ below (Qk dC dI ([(na, .inl (k 0, 4, .inl (fun i9 : Nat => iI (nf i9))))] ++ tl) s.heap.size (fun r w gc gs => (∃ (cp2 : Nat) (tl2 : va_W), (PS dI k T K qa cp2 tl2) ∧ (cp ≤ cp2 ∧ cp2 ≤ 131072) ∧ r = some (.int (iI 1)) ∧ w = ([(na, .inl (k 0, 4, .inl (fun i9 : Nat => iI (nf i9))))] ++ tl2) ∧ gc = ((cp2 - cp) + 129) ∧ gs = ((12 * (cp2 - cp)) + 1266)))) args s ({ frames := 16, cells := ((131072 - cp) + 129), slots := ((12 * (131072 - cp)) + 1266), locals := 495 } : Room).cells ({ frames := 16, cells := ((131072 - cp) + 129), slots := ((12 * (131072 - cp)) + 1266), locals := 495 } : Room).slots (va_A ([(na, .inl (k 0, 4, .inl (fun i9 : Nat => iI (nf i9))))] ++ tl) s.heap.size)) (F0 m 713 ls []) := by
  have hx := B.1.1
  have hb := B.1.2.1
  have hcp9 := PS_cp hPS
  have hn0 := TK_nb hQ.1
  have hk0 := hQ.2.1.1
  have hf0 := TK_fc hQ.1
  have hp0 := TK_np hQ.1
  have hm0 : lmZ 0 = 1 := rfl
  have hm1 : lmZ 1 = 0 := rfl
  have hm2 : lmZ 2 = 0 := rfl
  have hm3 : lmZ 3 = 0 := rfl
  have hm4 : lmZ 4 = 0 := rfl
  have hm5 : mmZ T 0 = 5 := rfl
  have hm6 : mmZ T 1 = T 12 0 0 0 - 1 := rfl
  have hm7 : mmZ T 2 = 5 := rfl
  have hm8 : mmZ T 3 = 7 := rfl
  have hm9 : mmZ T 4 = 1 := rfl
  refine lv_aload_n hx hb dL_refuses_713 rfl (lv_at hl 5 rfl) ?_
  refine lv_iload hx hb dL_refuses_714 (lv_at hl 3 rfl) ?_
  refine lv_iconst (v := iI 0) hx hb dL_refuses_716 (by decide) ?_
  have z_274 : 0 ≤ LCz T (2 + (xx % 50)) (dgN T (2 + (xx % 50))) 0 ∧ LCz T (2 + (xx % 50)) (dgN T (2 + (xx % 50))) 0 ≤ 48 := (LCz_in (i := 0) (v := (2 + (xx % 50))) (dg := dgN T (2 + (xx % 50))) hQ.1).1
  have B := bd_swap (a := []) (b := [(na, .inl (k 0, 4, .inl (fun i9 : Nat => iI (nf i9))))]) (d := tlS) (bd_to rfl B)
  refine k_W (rest := []) (wc := ([] ++ tlS)) (wr := [(na, .inl (k 0, 4, .inl (fun i9 : Nat => iI (nf i9))))]) (w_lines l dC dI k hl0 T K qa cpS tlS (2 + (xx % 50)) 0 hPS hQ (by omega) (by omega)) B mW_L_lines mw_1360 hl ⟨Nat.le_of_ble_eq_true rfl, Nat.le_of_ble_eq_true rfl⟩ (Nat.le_of_ble_eq_true rfl) rfl dL_refuses_717 ⟨by dsimp only; omega, by dsimp only; omega⟩ (fun r w gc gs H locs hp B => ?_)
  rcases hp with ⟨cp2_275, tl2_276, z_277, z_278, z_279, rfl, hw9, rfl, rfl⟩ | ⟨cp2_280, tl2_281, z_282, z_283, z_284, rfl, hw9, rfl, rfl⟩
  · skip
    rw [hw9] at B; clear hw9
    have B := bd_to (ws' := ([(na, .inl (k 0, 4, .inl (fun i9 : Nat => iI (nf i9))))] ++ tl2_276)) rfl B
    have hPS : PS dI k T K qa cp2_275 tl2_276 := z_277
    exfalso; omega
  · skip
    rw [hw9] at B; clear hw9
    have B := bd_to (ws' := ([(na, .inl (k 0, 4, .inl (fun i9 : Nat => iI (nf i9))))] ++ tl2_281)) rfl B
    have hPS : PS dI k T K qa cp2_280 tl2_281 := z_282
    refine W.widen (k := ((cp2_280 - cp) + 79)) (n := ((12 * (cp2_280 - cp)) + 824)) (by omega) (by omega) ?_
    refine lv_ldc (v := (-2000000001)) hx hb B.1.2.2.2.1 (B.1.2.2.2.2.1 _ mw_593) dL_refuses_720 ?_
    refine lv_seti (y := iI (-2000000001)) (by decide) ?_
    refine lv_icmp_ne (tgt := 1081) hx hb dL_refuses_722 (by decide) (fun c9 => absurd c9 (by decide)) (fun _ => ?_)
    refine lv_aload_n hx hb dL_refuses_725 rfl (lv_at hl 5 rfl) ?_
    refine lv_iconst (v := iI 0) hx hb dL_refuses_726 (by decide) ?_
    refine lv_iload hx hb dL_refuses_727 (lv_at hl 2 rfl) ?_
    have z_285 : 0 ≤ LCz T 0 (dgN T 0) ((T 0 0 0 0) + (xx % 50)) ∧ LCz T 0 (dgN T 0) ((T 0 0 0 0) + (xx % 50)) ≤ 48 := (LCz_in (i := ((T 0 0 0 0) + (xx % 50))) (v := 0) (dg := dgN T 0) hQ.1).1
    have B := bd_swap (a := []) (b := [(na, .inl (k 0, 4, .inl (fun i9 : Nat => iI (nf i9))))]) (d := tl2_281) (bd_to rfl B)
    refine k_W (rest := []) (wc := ([] ++ tl2_281)) (wr := [(na, .inl (k 0, 4, .inl (fun i9 : Nat => iI (nf i9))))]) (w_lines l dC dI k hl0 T K qa cp2_280 tl2_281 0 ((T 0 0 0 0) + (xx % 50)) z_282 hQ (by omega) (by omega)) B mW_L_lines mw_1360 hl ⟨Nat.le_of_ble_eq_true rfl, Nat.le_of_ble_eq_true rfl⟩ (Nat.le_of_ble_eq_true rfl) rfl dL_refuses_729 ⟨by dsimp only; omega, by dsimp only; omega⟩ (fun r w gc gs H locs hp B => ?_)
    rcases hp with ⟨cp2_286, tl2_287, z_288, z_289, z_290, rfl, hw9, rfl, rfl⟩ | ⟨cp2_291, tl2_292, z_293, z_294, z_295, rfl, hw9, rfl, rfl⟩
    · skip
      rw [hw9] at B; clear hw9
      have B := bd_to (ws' := ([(na, .inl (k 0, 4, .inl (fun i9 : Nat => iI (nf i9))))] ++ tl2_287)) rfl B
      have hPS : PS dI k T K qa cp2_286 tl2_287 := z_288
      exfalso; omega
    · skip
      rw [hw9] at B; clear hw9
      have B := bd_to (ws' := ([(na, .inl (k 0, 4, .inl (fun i9 : Nat => iI (nf i9))))] ++ tl2_292)) rfl B
      have hPS : PS dI k T K qa cp2_291 tl2_292 := z_293
      refine W.widen (k := ((cp2_291 - cp) + 80)) (n := ((12 * (cp2_291 - cp)) + 830)) (by omega) (by omega) ?_
      refine lv_ldc (v := (-2000000001)) hx hb B.1.2.2.2.1 (B.1.2.2.2.2.1 _ mw_593) dL_refuses_732 ?_
      refine lv_seti (y := iI (-2000000001)) (by decide) ?_
      refine lv_icmp_ne (tgt := 1081) hx hb dL_refuses_734 (by decide) (fun c9 => absurd c9 (by decide)) (fun _ => ?_)
      refine lv_aload_n hx hb dL_refuses_737 rfl (lv_at hl 5 rfl) ?_
      refine lv_iconst (v := iI 0) hx hb dL_refuses_738 (by decide) ?_
      refine lv_iload hx hb dL_refuses_739 (lv_at hl 2 rfl) ?_
      refine lv_iconst (v := iI 0) hx hb dL_refuses_741 (by decide) ?_
      have B := bd_swap (a := []) (b := [(na, .inl (k 0, 4, .inl (fun i9 : Nat => iI (nf i9))))]) (d := tl2_292) (bd_to rfl B)
      refine k_W (rest := []) (wc := ([] ++ tl2_292)) (wr := [(na, .inl (k 0, 4, .inl (fun i9 : Nat => iI (nf i9))))]) (w_lineEnd l dC dI k hl0 T K qa cp2_291 tl2_292 0 ((T 0 0 0 0) + (xx % 50)) 0 z_293 hQ (by omega) (by omega) (by omega)) B mW_L_lineEnd mw_1675 hl ⟨Nat.le_of_ble_eq_true rfl, Nat.le_of_ble_eq_true rfl⟩ (Nat.le_of_ble_eq_true rfl) rfl dL_refuses_742 ⟨by dsimp only; omega, by dsimp only; omega⟩ (fun r w gc gs H locs hp B => ?_)
      rcases hp with ⟨cp2_296, tl2_297, z_298, z_299, z_300, rfl, hw9, rfl, rfl⟩ | ⟨cp2_301, tl2_302, z_303, z_304, z_305, rfl, hw9, rfl, rfl⟩
      · skip
        rw [hw9] at B; clear hw9
        have B := bd_to (ws' := ([(na, .inl (k 0, 4, .inl (fun i9 : Nat => iI (nf i9))))] ++ tl2_297)) rfl B
        have hPS : PS dI k T K qa cp2_296 tl2_297 := z_298
        exfalso; omega
      · skip
        rw [hw9] at B; clear hw9
        have B := bd_to (ws' := ([(na, .inl (k 0, 4, .inl (fun i9 : Nat => iI (nf i9))))] ++ tl2_302)) rfl B
        have hPS : PS dI k T K qa cp2_301 tl2_302 := z_303
        refine W.widen (k := ((cp2_301 - cp) + 81)) (n := ((12 * (cp2_301 - cp)) + 836)) (by omega) (by omega) ?_
        refine lv_ldc (v := (-2000000001)) hx hb B.1.2.2.2.1 (B.1.2.2.2.2.1 _ mw_593) dL_refuses_745 ?_
        refine lv_seti (y := iI (-2000000001)) (by decide) ?_
        refine lv_icmp_ne (tgt := 1081) hx hb dL_refuses_747 (by decide) (fun c9 => absurd c9 (by decide)) (fun _ => ?_)
        refine lv_aload_n hx hb dL_refuses_750 rfl (lv_at hl 5 rfl) ?_
        refine lv_iload hx hb dL_refuses_751 (lv_at hl 3 rfl) ?_
        refine lv_iconst (v := iI 0) hx hb dL_refuses_753 (by decide) ?_
        refine lv_iconst (v := iI 0) hx hb dL_refuses_754 (by decide) ?_
        have B := bd_swap (a := []) (b := [(na, .inl (k 0, 4, .inl (fun i9 : Nat => iI (nf i9))))]) (d := tl2_302) (bd_to rfl B)
        refine k_W (rest := []) (wc := ([] ++ tl2_302)) (wr := [(na, .inl (k 0, 4, .inl (fun i9 : Nat => iI (nf i9))))]) (w_tight l dC dI k hl0 T K qa cp2_301 tl2_302 (2 + (xx % 50)) 0 0 z_303 hQ (by omega) (by omega) (by omega)) B mW_L_tight mw_1687 hl ⟨Nat.le_of_ble_eq_true rfl, Nat.le_of_ble_eq_true rfl⟩ (Nat.le_of_ble_eq_true rfl) rfl dL_refuses_755 ⟨by dsimp only; omega, by dsimp only; omega⟩ (fun r w gc gs H locs hp B => ?_)
        rcases hp with ⟨cp2_306, tl2_307, z_308, z_309, z_310, rfl, hw9, rfl, rfl⟩ | ⟨cp2_311, tl2_312, z_313, z_314, z_315, rfl, hw9, rfl, rfl⟩
        · skip
          rw [hw9] at B; clear hw9
          have B := bd_to (ws' := ([(na, .inl (k 0, 4, .inl (fun i9 : Nat => iI (nf i9))))] ++ tl2_307)) rfl B
          have hPS : PS dI k T K qa cp2_306 tl2_307 := z_308
          exfalso; omega
        · skip
          rw [hw9] at B; clear hw9
          have B := bd_to (ws' := ([(na, .inl (k 0, 4, .inl (fun i9 : Nat => iI (nf i9))))] ++ tl2_312)) rfl B
          have hPS : PS dI k T K qa cp2_311 tl2_312 := z_313
          refine W.widen (k := ((cp2_311 - cp) + 82)) (n := ((12 * (cp2_311 - cp)) + 842)) (by omega) (by omega) ?_
          refine lv_ldc (v := (-2000000001)) hx hb B.1.2.2.2.1 (B.1.2.2.2.2.1 _ mw_593) dL_refuses_758 ?_
          refine lv_seti (y := iI (-2000000001)) (by decide) ?_
          refine lv_icmp_ne (tgt := 1081) hx hb dL_refuses_760 (by decide) (fun c9 => absurd c9 (by decide)) (fun _ => ?_)
          refine lv_aload_n hx hb dL_refuses_763 rfl (lv_at hl 5 rfl) ?_
          refine lv_iconst (v := iI 0) hx hb dL_refuses_764 (by decide) ?_
          refine lv_iload hx hb dL_refuses_765 (lv_at hl 2 rfl) ?_
          have B := bd_swap (a := []) (b := [(na, .inl (k 0, 4, .inl (fun i9 : Nat => iI (nf i9))))]) (d := tl2_312) (bd_to rfl B)
          refine k_W (rest := []) (wc := ([] ++ tl2_312)) (wr := [(na, .inl (k 0, 4, .inl (fun i9 : Nat => iI (nf i9))))]) (w_demerits l dC dI k hl0 T K qa cp2_311 tl2_312 0 ((T 0 0 0 0) + (xx % 50)) z_313 hQ (by omega) (by omega)) B mW_L_demerits mw_1694 hl ⟨Nat.le_of_ble_eq_true rfl, Nat.le_of_ble_eq_true rfl⟩ (Nat.le_of_ble_eq_true rfl) rfl dL_refuses_767 ⟨by dsimp only; omega, by dsimp only; omega⟩ (fun r w gc gs H locs hp B => ?_)
          rcases hp with ⟨cp2_316, tl2_317, z_318, z_319, z_320, rfl, hw9, rfl, rfl⟩ | ⟨cp2_321, tl2_322, z_323, z_324, z_325, rfl, hw9, rfl, rfl⟩
          · skip
            rw [hw9] at B; clear hw9
            have B := bd_to (ws' := ([(na, .inl (k 0, 4, .inl (fun i9 : Nat => iI (nf i9))))] ++ tl2_317)) rfl B
            have hPS : PS dI k T K qa cp2_316 tl2_317 := z_318
            exfalso; omega
          · skip
            rw [hw9] at B; clear hw9
            have B := bd_to (ws' := ([(na, .inl (k 0, 4, .inl (fun i9 : Nat => iI (nf i9))))] ++ tl2_322)) rfl B
            have hPS : PS dI k T K qa cp2_321 tl2_322 := z_323
            refine W.widen (k := ((cp2_321 - cp) + 83)) (n := ((12 * (cp2_321 - cp)) + 848)) (by omega) (by omega) ?_
            refine lv_ldc2 (v := (-2000000001)) hx hb B.1.2.2.2.1 (B.1.2.2.2.2.1 _ mw_1701) dL_refuses_770 ?_
            refine lv_setl (y := lI (-2000000001)) (by decide) ?_
            refine y_lcmp B (a := (-2000000001)) (b := (-2000000001)) (by decide) (by decide) dL_refuses_773 ?_
            refine lv_seti (y := iI 0) (by decide) ?_
            refine lv_if_ne (tgt := 1081) hx hb dL_refuses_774 (by decide) (fun c9 => absurd c9 (by decide)) (fun _ => ?_)
            exact w_refuses_c777_8 l dC dI k hl0 T K qa cp tl na nf xx cp2_321 tl2_322 (by omega) hPS hQ hx9 hn9 (by omega)  (bd_to rfl B) hr hl

set_option maxHeartbeats 4000000 in
set_option maxRecDepth 100000 in
theorem w_refuses_c653_6 (l : Launch) (dC : Nat → ClassId) (dI : Nat → Nat → Nat) (k : Nat → ClassId) (hl0 : l.stackTraces = false) (T : Nat → Int → Int → Int → Int) (K : Nat → Int → Int) (qa : Nat) (cp : Nat) (tl : va_W) (na : Nat) (nf : Int → Int) (xx : Int) (cpS : Nat) (tlS : va_W) (hc0 : 512 ≤ cp ∧ cp ≤ 131072) (hPS : PS dI k T K qa cpS tlS) (hQ : OKT T K) (hx9 : 0 ≤ xx ∧ xx < 9973) (hn9 : nf 0 = T 0 0 0 0 ∧ nf 1 = K 0 0 ∧ nf 2 = T 12 0 0 0 ∧ nf 3 = T 18 0 0 0) (hcS : cp ≤ cpS ∧ cpS ≤ 131072) {p : Program} {e : Env} {s : State} {m : MethodId} {args : Array Value} {below : List Frame} {meth : Method} {c : Code} {H : Heap} {locs : List Loc} {ls : Array Slot} (B : bd p s m args meth c cL_refuses 11 yL_refuses.cls dC dI k (va_A ([(na, .inl (k 0, 4, .inl (fun i9 : Nat => iI (nf i9))))] ++ tl) s.heap.size) ([(na, .inl (k 0, 4, .inl (fun i9 : Nat => iI (nf i9))))] ++ tlS) H locs) (hr : meth.sig.returnType = (some .boolean)) (hl : lv_has ls 11 [(7, .int (iI 1)), (6, .int (iI ((T 12 0 0 0) + (xx % 50)))), (5, .int (iI ((T 0 0 0 0) + (xx % 50)))), (4, .int (iI (2 + (xx % 50)))), (3, .int (iI 0)), (0, .ref qa), (1, .ref na), (2, .int (iI xx))]) : W p l e ({ frames := 16, cells := ((131072 - cp) + 129), slots := ((12 * (131072 - cp)) + 1266), locals := 495 } : Room) s m args below meth c H locs ((cpS - cp) + 73) ((12 * (cpS - cp)) + 788) (MQ below (Qk dC dI ([(na, .inl (k 0, 4, .inl (fun i9 : Nat => iI (nf i9))))] ++ tl) s.heap.size (fun r w gc gs => (∃ (cp2 : Nat) (tl2 : va_W), (PS dI k T K qa cp2 tl2) ∧ (cp ≤ cp2 ∧ cp2 ≤ 131072) ∧ r = some (.int (iI 1)) ∧ w = ([(na, .inl (k 0, 4, .inl (fun i9 : Nat => iI (nf i9))))] ++ tl2) ∧ gc = ((cp2 - cp) + 129) ∧ gs = ((12 * (cp2 - cp)) + 1266)))) args s ({ frames := 16, cells := ((131072 - cp) + 129), slots := ((12 * (131072 - cp)) + 1266), locals := 495 } : Room).cells ({ frames := 16, cells := ((131072 - cp) + 129), slots := ((12 * (131072 - cp)) + 1266), locals := 495 } : Room).slots (va_A ([(na, .inl (k 0, 4, .inl (fun i9 : Nat => iI (nf i9))))] ++ tl) s.heap.size)) (F0 m 653 ls []) := by
  have hx := B.1.1
  have hb := B.1.2.1
  have hcp9 := PS_cp hPS
  have hn0 := TK_nb hQ.1
  have hk0 := hQ.2.1.1
  have hf0 := TK_fc hQ.1
  have hp0 := TK_np hQ.1
  have hm0 : lmZ 0 = 1 := rfl
  have hm1 : lmZ 1 = 0 := rfl
  have hm2 : lmZ 2 = 0 := rfl
  have hm3 : lmZ 3 = 0 := rfl
  have hm4 : lmZ 4 = 0 := rfl
  have hm5 : mmZ T 0 = 5 := rfl
  have hm6 : mmZ T 1 = T 12 0 0 0 - 1 := rfl
  have hm7 : mmZ T 2 = 5 := rfl
  have hm8 : mmZ T 3 = 7 := rfl
  have hm9 : mmZ T 4 = 1 := rfl
  refine lv_aload_n hx hb dL_refuses_653 rfl (lv_at hl 5 rfl) ?_
  refine lv_iload hx hb dL_refuses_654 (lv_at hl 2 rfl) ?_
  refine lv_iconst (v := iI 0) hx hb dL_refuses_656 (by decide) ?_
  have B := bd_swap (a := []) (b := [(na, .inl (k 0, 4, .inl (fun i9 : Nat => iI (nf i9))))]) (d := tlS) (bd_to rfl B)
  refine k_W (rest := []) (wc := ([] ++ tlS)) (wr := [(na, .inl (k 0, 4, .inl (fun i9 : Nat => iI (nf i9))))]) (w_gaps l dC dI k hl0 T K qa cpS tlS ((T 0 0 0 0) + (xx % 50)) 0 hPS hQ (by omega) (by omega)) B mW_L_gaps mw_1273 hl ⟨Nat.le_of_ble_eq_true rfl, Nat.le_of_ble_eq_true rfl⟩ (Nat.le_of_ble_eq_true rfl) rfl dL_refuses_657 ⟨by dsimp only; omega, by dsimp only; omega⟩ (fun r w gc gs H locs hp B => ?_)
  rcases hp with ⟨cp2_222, tl2_223, z_224, z_225, z_226, rfl, hw9, rfl, rfl⟩ | ⟨cp2_227, tl2_228, z_229, z_230, z_231, rfl, hw9, rfl, rfl⟩
  · skip
    rw [hw9] at B; clear hw9
    have B := bd_to (ws' := ([(na, .inl (k 0, 4, .inl (fun i9 : Nat => iI (nf i9))))] ++ tl2_223)) rfl B
    have hPS : PS dI k T K qa cp2_222 tl2_223 := z_224
    exfalso; omega
  · skip
    rw [hw9] at B; clear hw9
    have B := bd_to (ws' := ([(na, .inl (k 0, 4, .inl (fun i9 : Nat => iI (nf i9))))] ++ tl2_228)) rfl B
    have hPS : PS dI k T K qa cp2_227 tl2_228 := z_229
    refine W.widen (k := ((cp2_227 - cp) + 74)) (n := ((12 * (cp2_227 - cp)) + 794)) (by omega) (by omega) ?_
    refine lv_ldc (v := (-2000000001)) hx hb B.1.2.2.2.1 (B.1.2.2.2.2.1 _ mw_593) dL_refuses_660 ?_
    refine lv_seti (y := iI (-2000000001)) (by decide) ?_
    refine lv_icmp_ne (tgt := 1081) hx hb dL_refuses_662 (by decide) (fun c9 => absurd c9 (by decide)) (fun _ => ?_)
    refine lv_aload_n hx hb dL_refuses_665 rfl (lv_at hl 5 rfl) ?_
    refine lv_iload hx hb dL_refuses_666 (lv_at hl 3 rfl) ?_
    refine lv_iconst (v := iI 0) hx hb dL_refuses_668 (by decide) ?_
    have B := bd_swap (a := []) (b := [(na, .inl (k 0, 4, .inl (fun i9 : Nat => iI (nf i9))))]) (d := tl2_228) (bd_to rfl B)
    refine k_W (rest := []) (wc := ([] ++ tl2_228)) (wr := [(na, .inl (k 0, 4, .inl (fun i9 : Nat => iI (nf i9))))]) (w_number l dC dI k hl0 T K qa cp2_227 tl2_228 (2 + (xx % 50)) 0 z_229 hQ (by omega) (by omega)) B mW_L_number mw_1280 hl ⟨Nat.le_of_ble_eq_true rfl, Nat.le_of_ble_eq_true rfl⟩ (Nat.le_of_ble_eq_true rfl) rfl dL_refuses_669 ⟨by dsimp only; omega, by dsimp only; omega⟩ (fun r w gc gs H locs hp B => ?_)
    rcases hp with ⟨cp2_232, tl2_233, z_234, z_235, z_236, rfl, hw9, rfl, rfl⟩ | ⟨cp2_237, tl2_238, z_239, z_240, z_241, rfl, hw9, rfl, rfl⟩
    · skip
      rw [hw9] at B; clear hw9
      have B := bd_to (ws' := ([(na, .inl (k 0, 4, .inl (fun i9 : Nat => iI (nf i9))))] ++ tl2_233)) rfl B
      have hPS : PS dI k T K qa cp2_232 tl2_233 := z_234
      exfalso; omega
    · skip
      rw [hw9] at B; clear hw9
      have B := bd_to (ws' := ([(na, .inl (k 0, 4, .inl (fun i9 : Nat => iI (nf i9))))] ++ tl2_238)) rfl B
      have hPS : PS dI k T K qa cp2_237 tl2_238 := z_239
      refine W.widen (k := ((cp2_237 - cp) + 75)) (n := ((12 * (cp2_237 - cp)) + 800)) (by omega) (by omega) ?_
      refine lv_ldc (v := (-2000000001)) hx hb B.1.2.2.2.1 (B.1.2.2.2.2.1 _ mw_593) dL_refuses_672 ?_
      refine lv_seti (y := iI (-2000000001)) (by decide) ?_
      refine lv_icmp_ne (tgt := 1081) hx hb dL_refuses_674 (by decide) (fun c9 => absurd c9 (by decide)) (fun _ => ?_)
      refine lv_aload_n hx hb dL_refuses_677 rfl (lv_at hl 5 rfl) ?_
      refine lv_iconst (v := iI 0) hx hb dL_refuses_678 (by decide) ?_
      refine lv_iload hx hb dL_refuses_679 (lv_at hl 2 rfl) ?_
      have B := bd_swap (a := []) (b := [(na, .inl (k 0, 4, .inl (fun i9 : Nat => iI (nf i9))))]) (d := tl2_238) (bd_to rfl B)
      refine k_W (rest := []) (wc := ([] ++ tl2_238)) (wr := [(na, .inl (k 0, 4, .inl (fun i9 : Nat => iI (nf i9))))]) (w_number l dC dI k hl0 T K qa cp2_237 tl2_238 0 ((T 0 0 0 0) + (xx % 50)) z_239 hQ (by omega) (by omega)) B mW_L_number mw_1280 hl ⟨Nat.le_of_ble_eq_true rfl, Nat.le_of_ble_eq_true rfl⟩ (Nat.le_of_ble_eq_true rfl) rfl dL_refuses_681 ⟨by dsimp only; omega, by dsimp only; omega⟩ (fun r w gc gs H locs hp B => ?_)
      rcases hp with ⟨cp2_242, tl2_243, z_244, z_245, z_246, rfl, hw9, rfl, rfl⟩ | ⟨cp2_247, tl2_248, z_249, z_250, z_251, rfl, hw9, rfl, rfl⟩
      · skip
        rw [hw9] at B; clear hw9
        have B := bd_to (ws' := ([(na, .inl (k 0, 4, .inl (fun i9 : Nat => iI (nf i9))))] ++ tl2_243)) rfl B
        have hPS : PS dI k T K qa cp2_242 tl2_243 := z_244
        exfalso; omega
      · skip
        rw [hw9] at B; clear hw9
        have B := bd_to (ws' := ([(na, .inl (k 0, 4, .inl (fun i9 : Nat => iI (nf i9))))] ++ tl2_248)) rfl B
        have hPS : PS dI k T K qa cp2_247 tl2_248 := z_249
        refine W.widen (k := ((cp2_247 - cp) + 76)) (n := ((12 * (cp2_247 - cp)) + 806)) (by omega) (by omega) ?_
        refine lv_ldc (v := (-2000000001)) hx hb B.1.2.2.2.1 (B.1.2.2.2.2.1 _ mw_593) dL_refuses_684 ?_
        refine lv_seti (y := iI (-2000000001)) (by decide) ?_
        refine lv_icmp_ne (tgt := 1081) hx hb dL_refuses_686 (by decide) (fun c9 => absurd c9 (by decide)) (fun _ => ?_)
        refine lv_aload_n hx hb dL_refuses_689 rfl (lv_at hl 5 rfl) ?_
        refine lv_iload hx hb dL_refuses_690 (lv_at hl 2 rfl) ?_
        refine lv_iconst (v := iI 0) hx hb dL_refuses_692 (by decide) ?_
        have z_252 : 0 ≤ ccZ (fun j9 : Int => T 9 ((T 0 0 0 0) + (xx % 50)) j9 0) 12 ∧ ccZ (fun j9 : Int => T 9 ((T 0 0 0 0) + (xx % 50)) j9 0) 12 ≤ 3 := ccZ_in (fun c => TK_spc hQ.1 _ c) 12
        have B := bd_swap (a := []) (b := [(na, .inl (k 0, 4, .inl (fun i9 : Nat => iI (nf i9))))]) (d := tl2_248) (bd_to rfl B)
        refine k_W (rest := []) (wc := ([] ++ tl2_248)) (wr := [(na, .inl (k 0, 4, .inl (fun i9 : Nat => iI (nf i9))))]) (w_wide l dC dI k hl0 T K qa cp2_247 tl2_248 ((T 0 0 0 0) + (xx % 50)) 0 z_249 hQ (by omega) (by omega)) B mW_L_wide mw_1309 hl ⟨Nat.le_of_ble_eq_true rfl, Nat.le_of_ble_eq_true rfl⟩ (Nat.le_of_ble_eq_true rfl) rfl dL_refuses_693 ⟨by dsimp only; omega, by dsimp only; omega⟩ (fun r w gc gs H locs hp B => ?_)
        rcases hp with ⟨cp2_253, tl2_254, z_255, z_256, z_257, rfl, hw9, rfl, rfl⟩ | ⟨cp2_258, tl2_259, z_260, z_261, z_262, rfl, hw9, rfl, rfl⟩
        · skip
          rw [hw9] at B; clear hw9
          have B := bd_to (ws' := ([(na, .inl (k 0, 4, .inl (fun i9 : Nat => iI (nf i9))))] ++ tl2_254)) rfl B
          have hPS : PS dI k T K qa cp2_253 tl2_254 := z_255
          exfalso; omega
        · skip
          rw [hw9] at B; clear hw9
          have B := bd_to (ws' := ([(na, .inl (k 0, 4, .inl (fun i9 : Nat => iI (nf i9))))] ++ tl2_259)) rfl B
          have hPS : PS dI k T K qa cp2_258 tl2_259 := z_260
          refine W.widen (k := ((cp2_258 - cp) + 77)) (n := ((12 * (cp2_258 - cp)) + 812)) (by omega) (by omega) ?_
          refine lv_ldc (v := (-2000000001)) hx hb B.1.2.2.2.1 (B.1.2.2.2.2.1 _ mw_593) dL_refuses_696 ?_
          refine lv_seti (y := iI (-2000000001)) (by decide) ?_
          refine lv_icmp_ne (tgt := 1081) hx hb dL_refuses_698 (by decide) (fun c9 => absurd c9 (by decide)) (fun _ => ?_)
          refine lv_aload_n hx hb dL_refuses_701 rfl (lv_at hl 5 rfl) ?_
          refine lv_iload hx hb dL_refuses_702 (lv_at hl 2 rfl) ?_
          refine lv_iconst (v := iI 0) hx hb dL_refuses_704 (by decide) ?_
          have z_263 : 0 ≤ rcT T ((T 0 0 0 0) + (xx % 50)) ∧ rcT T ((T 0 0 0 0) + (xx % 50)) ≤ 4 := rcZ_in 12 (Nat.le_refl _)
          have B := bd_swap (a := []) (b := [(na, .inl (k 0, 4, .inl (fun i9 : Nat => iI (nf i9))))]) (d := tl2_259) (bd_to rfl B)
          refine k_W (rest := []) (wc := ([] ++ tl2_259)) (wr := [(na, .inl (k 0, 4, .inl (fun i9 : Nat => iI (nf i9))))]) (w_high l dC dI k hl0 T K qa cp2_258 tl2_259 ((T 0 0 0 0) + (xx % 50)) 0 z_260 hQ (by omega) (by omega)) B mW_L_high mw_1348 hl ⟨Nat.le_of_ble_eq_true rfl, Nat.le_of_ble_eq_true rfl⟩ (Nat.le_of_ble_eq_true rfl) rfl dL_refuses_705 ⟨by dsimp only; omega, by dsimp only; omega⟩ (fun r w gc gs H locs hp B => ?_)
          rcases hp with ⟨cp2_264, tl2_265, z_266, z_267, z_268, rfl, hw9, rfl, rfl⟩ | ⟨cp2_269, tl2_270, z_271, z_272, z_273, rfl, hw9, rfl, rfl⟩
          · skip
            rw [hw9] at B; clear hw9
            have B := bd_to (ws' := ([(na, .inl (k 0, 4, .inl (fun i9 : Nat => iI (nf i9))))] ++ tl2_265)) rfl B
            have hPS : PS dI k T K qa cp2_264 tl2_265 := z_266
            exfalso; omega
          · skip
            rw [hw9] at B; clear hw9
            have B := bd_to (ws' := ([(na, .inl (k 0, 4, .inl (fun i9 : Nat => iI (nf i9))))] ++ tl2_270)) rfl B
            have hPS : PS dI k T K qa cp2_269 tl2_270 := z_271
            refine W.widen (k := ((cp2_269 - cp) + 78)) (n := ((12 * (cp2_269 - cp)) + 818)) (by omega) (by omega) ?_
            refine lv_ldc (v := (-2000000001)) hx hb B.1.2.2.2.1 (B.1.2.2.2.2.1 _ mw_593) dL_refuses_708 ?_
            refine lv_seti (y := iI (-2000000001)) (by decide) ?_
            refine lv_icmp_ne (tgt := 1081) hx hb dL_refuses_710 (by decide) (fun c9 => absurd c9 (by decide)) (fun _ => ?_)
            exact w_refuses_c713_7 l dC dI k hl0 T K qa cp tl na nf xx cp2_269 tl2_270 (by omega) hPS hQ hx9 hn9 (by omega)  (bd_to rfl B) hr hl

set_option maxHeartbeats 4000000 in
set_option maxRecDepth 100000 in
theorem w_refuses_c527_5 (l : Launch) (dC : Nat → ClassId) (dI : Nat → Nat → Nat) (k : Nat → ClassId) (hl0 : l.stackTraces = false) (T : Nat → Int → Int → Int → Int) (K : Nat → Int → Int) (qa : Nat) (cp : Nat) (tl : va_W) (na : Nat) (nf : Int → Int) (xx : Int) (cpS : Nat) (tlS : va_W) (hc0 : 512 ≤ cp ∧ cp ≤ 131072) (hPS : PS dI k T K qa cpS tlS) (hQ : OKT T K) (hx9 : 0 ≤ xx ∧ xx < 9973) (hn9 : nf 0 = T 0 0 0 0 ∧ nf 1 = K 0 0 ∧ nf 2 = T 12 0 0 0 ∧ nf 3 = T 18 0 0 0) (hcS : cp ≤ cpS ∧ cpS ≤ 131072) {p : Program} {e : Env} {s : State} {m : MethodId} {args : Array Value} {below : List Frame} {meth : Method} {c : Code} {H : Heap} {locs : List Loc} {ls : Array Slot} (B : bd p s m args meth c cL_refuses 11 yL_refuses.cls dC dI k (va_A ([(na, .inl (k 0, 4, .inl (fun i9 : Nat => iI (nf i9))))] ++ tl) s.heap.size) ([(na, .inl (k 0, 4, .inl (fun i9 : Nat => iI (nf i9))))] ++ tlS) H locs) (hr : meth.sig.returnType = (some .boolean)) (hl : lv_has ls 11 [(6, .int (iI ((T 12 0 0 0) + (xx % 50)))), (5, .int (iI ((T 0 0 0 0) + (xx % 50)))), (4, .int (iI (2 + (xx % 50)))), (3, .int (iI 0)), (0, .ref qa), (1, .ref na), (2, .int (iI xx))]) : W p l e ({ frames := 16, cells := ((131072 - cp) + 129), slots := ((12 * (131072 - cp)) + 1266), locals := 495 } : Room) s m args below meth c H locs ((cpS - cp) + 68) ((12 * (cpS - cp)) + 758) (MQ below (Qk dC dI ([(na, .inl (k 0, 4, .inl (fun i9 : Nat => iI (nf i9))))] ++ tl) s.heap.size (fun r w gc gs => (∃ (cp2 : Nat) (tl2 : va_W), (PS dI k T K qa cp2 tl2) ∧ (cp ≤ cp2 ∧ cp2 ≤ 131072) ∧ r = some (.int (iI 1)) ∧ w = ([(na, .inl (k 0, 4, .inl (fun i9 : Nat => iI (nf i9))))] ++ tl2) ∧ gc = ((cp2 - cp) + 129) ∧ gs = ((12 * (cp2 - cp)) + 1266)))) args s ({ frames := 16, cells := ((131072 - cp) + 129), slots := ((12 * (131072 - cp)) + 1266), locals := 495 } : Room).cells ({ frames := 16, cells := ((131072 - cp) + 129), slots := ((12 * (131072 - cp)) + 1266), locals := 495 } : Room).slots (va_A ([(na, .inl (k 0, 4, .inl (fun i9 : Nat => iI (nf i9))))] ++ tl) s.heap.size)) (F0 m 527 ls []) := by
  have hx := B.1.1
  have hb := B.1.2.1
  have hcp9 := PS_cp hPS
  have hn0 := TK_nb hQ.1
  have hk0 := hQ.2.1.1
  have hf0 := TK_fc hQ.1
  have hp0 := TK_np hQ.1
  have hm0 : lmZ 0 = 1 := rfl
  have hm1 : lmZ 1 = 0 := rfl
  have hm2 : lmZ 2 = 0 := rfl
  have hm3 : lmZ 3 = 0 := rfl
  have hm4 : lmZ 4 = 0 := rfl
  have hm5 : mmZ T 0 = 5 := rfl
  have hm6 : mmZ T 1 = T 12 0 0 0 - 1 := rfl
  have hm7 : mmZ T 2 = 5 := rfl
  have hm8 : mmZ T 3 = 7 := rfl
  have hm9 : mmZ T 4 = 1 := rfl
  refine lv_aload_n hx hb dL_refuses_527 rfl (lv_at hl 4 rfl) ?_
  refine lv_iload_n hx hb dL_refuses_528 rfl (lv_at hl 3 rfl) ?_
  refine lv_if_eq (tgt := 539) hx hb dL_refuses_529 (by decide) (fun _ => ?_) (fun c9 => absurd (by decide) c9)
  refine lv_bipush (v := iI 121) hx hb dL_refuses_539 (by decide) ?_
  refine lv_iload_n hx hb dL_refuses_541 rfl (lv_at hl 6 rfl) ?_
  refine y_add hx hb dL_refuses_542 ?_
  refine lv_bipush (v := iI 12) hx hb dL_refuses_543 (by decide) ?_
  have B := bd_swap (a := []) (b := [(na, .inl (k 0, 4, .inl (fun i9 : Nat => iI (nf i9))))]) (d := tlS) (bd_to rfl B)
  refine k_W (rest := []) (wc := ([] ++ tlS)) (wr := [(na, .inl (k 0, 4, .inl (fun i9 : Nat => iI (nf i9))))]) (w_papers l dC dI k hl0 T K qa cpS tlS (121 + xx) 12 hPS hQ (by omega) (by omega)) B mW_L_papers mw_1246 hl ⟨Nat.le_of_ble_eq_true rfl, Nat.le_of_ble_eq_true rfl⟩ (Nat.le_of_ble_eq_true rfl) rfl dL_refuses_545 ⟨by dsimp only; omega, by dsimp only; omega⟩ (fun r w gc gs H locs hp B => ?_)
  rcases hp with ⟨tl2_181, z_182, z_183, rfl, hw9, rfl, rfl⟩ | ⟨tl2_184, z_185, z_186, rfl, hw9, rfl, rfl⟩
  · skip
    rw [hw9] at B; clear hw9
    have B := bd_to (ws' := ([(na, .inl (k 0, 4, .inl (fun i9 : Nat => iI (nf i9))))] ++ tl2_181)) rfl B
    have hPS : PS dI k (paT T (121 + xx) 12) K qa cpS tl2_181 := z_182
    exfalso; omega
  · skip
    rw [hw9] at B; clear hw9
    have B := bd_to (ws' := ([(na, .inl (k 0, 4, .inl (fun i9 : Nat => iI (nf i9))))] ++ tl2_184)) rfl B
    have hPS : PS dI k T K qa cpS tl2_184 := z_185
    refine W.widen (k := ((cpS - cp) + 69)) (n := ((12 * (cpS - cp)) + 764)) (by omega) (by omega) ?_
    refine lv_ldc (v := (-2000000002)) hx hb B.1.2.2.2.1 (B.1.2.2.2.2.1 _ mw_627) dL_refuses_548 ?_
    refine lv_seti (y := iI (-2000000002)) (by decide) ?_
    refine lv_icmp_ne (tgt := 634) hx hb dL_refuses_550 (by decide) (fun c9 => absurd c9 (by decide)) (fun _ => ?_)
    refine lv_aload_n hx hb dL_refuses_553 rfl (lv_at hl 4 rfl) ?_
    refine lv_bipush (v := iI 60) hx hb dL_refuses_554 (by decide) ?_
    refine lv_iload_n hx hb dL_refuses_556 rfl (lv_at hl 3 rfl) ?_
    refine lv_if_eq (tgt := 566) hx hb dL_refuses_557 (by decide) (fun _ => ?_) (fun c9 => absurd (by decide) c9)
    refine lv_bipush (v := iI 41) hx hb dL_refuses_566 (by decide) ?_
    refine lv_iload_n hx hb dL_refuses_568 rfl (lv_at hl 6 rfl) ?_
    refine y_add hx hb dL_refuses_569 ?_
    have B := bd_swap (a := []) (b := [(na, .inl (k 0, 4, .inl (fun i9 : Nat => iI (nf i9))))]) (d := tl2_184) (bd_to rfl B)
    refine k_W (rest := []) (wc := ([] ++ tl2_184)) (wr := [(na, .inl (k 0, 4, .inl (fun i9 : Nat => iI (nf i9))))]) (w_papers l dC dI k hl0 T K qa cpS tl2_184 60 (41 + xx) z_185 hQ (by omega) (by omega)) B mW_L_papers mw_1246 hl ⟨Nat.le_of_ble_eq_true rfl, Nat.le_of_ble_eq_true rfl⟩ (Nat.le_of_ble_eq_true rfl) rfl dL_refuses_570 ⟨by dsimp only; omega, by dsimp only; omega⟩ (fun r w gc gs H locs hp B => ?_)
    rcases hp with ⟨tl2_187, z_188, z_189, rfl, hw9, rfl, rfl⟩ | ⟨tl2_190, z_191, z_192, rfl, hw9, rfl, rfl⟩
    · skip
      rw [hw9] at B; clear hw9
      have B := bd_to (ws' := ([(na, .inl (k 0, 4, .inl (fun i9 : Nat => iI (nf i9))))] ++ tl2_187)) rfl B
      have hPS : PS dI k (paT T 60 (41 + xx)) K qa cpS tl2_187 := z_188
      exfalso; omega
    · skip
      rw [hw9] at B; clear hw9
      have B := bd_to (ws' := ([(na, .inl (k 0, 4, .inl (fun i9 : Nat => iI (nf i9))))] ++ tl2_190)) rfl B
      have hPS : PS dI k T K qa cpS tl2_190 := z_191
      refine W.widen (k := ((cpS - cp) + 70)) (n := ((12 * (cpS - cp)) + 770)) (by omega) (by omega) ?_
      refine lv_ldc (v := (-2000000002)) hx hb B.1.2.2.2.1 (B.1.2.2.2.2.1 _ mw_627) dL_refuses_573 ?_
      refine lv_seti (y := iI (-2000000002)) (by decide) ?_
      refine lv_icmp_ne (tgt := 634) hx hb dL_refuses_575 (by decide) (fun c9 => absurd c9 (by decide)) (fun _ => ?_)
      refine lv_aload_n hx hb dL_refuses_578 rfl (lv_at hl 4 rfl) ?_
      refine lv_iload_n hx hb dL_refuses_579 rfl (lv_at hl 3 rfl) ?_
      refine lv_if_eq (tgt := 589) hx hb dL_refuses_580 (by decide) (fun _ => ?_) (fun c9 => absurd (by decide) c9)
      refine lv_bipush (v := iI 8) hx hb dL_refuses_589 (by decide) ?_
      refine lv_iload_n hx hb dL_refuses_591 rfl (lv_at hl 6 rfl) ?_
      refine y_add hx hb dL_refuses_592 ?_
      refine lv_iconst (v := iI 0) hx hb dL_refuses_593 (by decide) ?_
      have B := bd_swap (a := []) (b := [(na, .inl (k 0, 4, .inl (fun i9 : Nat => iI (nf i9))))]) (d := tl2_190) (bd_to rfl B)
      refine k_W (rest := []) (wc := ([] ++ tl2_190)) (wr := [(na, .inl (k 0, 4, .inl (fun i9 : Nat => iI (nf i9))))]) (w_keys l dC dI k hl0 T K qa cpS tl2_190 (8 + xx) 0 z_191 hQ (by omega) (by omega)) B mW_L_keys mw_1254 hl ⟨Nat.le_of_ble_eq_true rfl, Nat.le_of_ble_eq_true rfl⟩ (Nat.le_of_ble_eq_true rfl) rfl dL_refuses_594 ⟨by dsimp only; omega, by dsimp only; omega⟩ (fun r w gc gs H locs hp B => ?_)
      rcases hp with ⟨tl2_193, z_194, z_195, rfl, hw9, rfl, rfl⟩ | ⟨tl2_196, z_197, z_198, rfl, hw9, rfl, rfl⟩ | ⟨tl2_199, z_200, z_201, rfl, hw9, rfl, rfl⟩
      · skip
        rw [hw9] at B; clear hw9
        have B := bd_to (ws' := ([(na, .inl (k 0, 4, .inl (fun i9 : Nat => iI (nf i9))))] ++ tl2_193)) rfl B
        have hPS : PS dI k (kyT T (8 + xx) 0) K qa cpS tl2_193 := z_194
        exfalso; omega
      · skip
        rw [hw9] at B; clear hw9
        have B := bd_to (ws' := ([(na, .inl (k 0, 4, .inl (fun i9 : Nat => iI (nf i9))))] ++ tl2_196)) rfl B
        have hPS : PS dI k T K qa cpS tl2_196 := z_197
        refine W.widen (k := ((cpS - cp) + 71)) (n := ((12 * (cpS - cp)) + 776)) (by omega) (by omega) ?_
        refine lv_ldc (v := (-2000000001)) hx hb B.1.2.2.2.1 (B.1.2.2.2.2.1 _ mw_593) dL_refuses_597 ?_
        refine lv_seti (y := iI (-2000000001)) (by decide) ?_
        refine lv_icmp_ne (tgt := 634) hx hb dL_refuses_599 (by decide) (fun c9 => absurd c9 (by decide)) (fun _ => ?_)
        refine lv_aload_n hx hb dL_refuses_602 rfl (lv_at hl 4 rfl) ?_
        refine lv_iload_n hx hb dL_refuses_603 rfl (lv_at hl 6 rfl) ?_
        refine lv_bipush (v := iI 8) hx hb dL_refuses_604 (by decide) ?_
        refine y_rem hx hb (a := xx) (b := 8) (by omega) (by omega) dL_refuses_606 ?_
        refine lv_iload_n hx hb dL_refuses_607 rfl (lv_at hl 3 rfl) ?_
        refine lv_if_eq (tgt := 617) hx hb dL_refuses_608 (by decide) (fun _ => ?_) (fun c9 => absurd (by decide) c9)
        refine lv_sipush (v := iI 1000) hx hb dL_refuses_617 (by decide) ?_
        refine lv_iload_n hx hb dL_refuses_620 rfl (lv_at hl 6 rfl) ?_
        refine y_add hx hb dL_refuses_621 ?_
        have B := bd_swap (a := []) (b := [(na, .inl (k 0, 4, .inl (fun i9 : Nat => iI (nf i9))))]) (d := tl2_196) (bd_to rfl B)
        refine k_W (rest := []) (wc := ([] ++ tl2_196)) (wr := [(na, .inl (k 0, 4, .inl (fun i9 : Nat => iI (nf i9))))]) (w_keys l dC dI k hl0 T K qa cpS tl2_196 (xx % 8) (1000 + xx) z_197 hQ (by omega) (by omega)) B mW_L_keys mw_1254 hl ⟨Nat.le_of_ble_eq_true rfl, Nat.le_of_ble_eq_true rfl⟩ (Nat.le_of_ble_eq_true rfl) rfl dL_refuses_622 ⟨by dsimp only; omega, by dsimp only; omega⟩ (fun r w gc gs H locs hp B => ?_)
        rcases hp with ⟨tl2_202, z_203, z_204, rfl, hw9, rfl, rfl⟩ | ⟨tl2_205, z_206, z_207, rfl, hw9, rfl, rfl⟩ | ⟨tl2_208, z_209, z_210, rfl, hw9, rfl, rfl⟩
        · skip
          rw [hw9] at B; clear hw9
          have B := bd_to (ws' := ([(na, .inl (k 0, 4, .inl (fun i9 : Nat => iI (nf i9))))] ++ tl2_202)) rfl B
          have hPS : PS dI k (kyT T (xx % 8) (1000 + xx)) K qa cpS tl2_202 := z_203
          exfalso; omega
        · skip
          rw [hw9] at B; clear hw9
          have B := bd_to (ws' := ([(na, .inl (k 0, 4, .inl (fun i9 : Nat => iI (nf i9))))] ++ tl2_205)) rfl B
          have hPS : PS dI k T K qa cpS tl2_205 := z_206
          exfalso; omega
        · skip
          rw [hw9] at B; clear hw9
          have B := bd_to (ws' := ([(na, .inl (k 0, 4, .inl (fun i9 : Nat => iI (nf i9))))] ++ tl2_208)) rfl B
          have hPS : PS dI k T K qa cpS tl2_208 := z_209
          refine W.widen (k := ((cpS - cp) + 72)) (n := ((12 * (cpS - cp)) + 782)) (by omega) (by omega) ?_
          refine lv_ldc (v := (-2000000002)) hx hb B.1.2.2.2.1 (B.1.2.2.2.2.1 _ mw_627) dL_refuses_625 ?_
          refine lv_seti (y := iI (-2000000002)) (by decide) ?_
          refine lv_icmp_ne (tgt := 634) hx hb dL_refuses_627 (by decide) (fun c9 => absurd c9 (by decide)) (fun _ => ?_)
          refine lv_iconst (v := iI 1) hx hb dL_refuses_630 (by decide) ?_
          refine lv_goto (tgt := 635) hx hb dL_refuses_631 (by decide) ?_
          refine lv_istore (lv' := [(7, .int (iI 1)), (6, .int (iI ((T 12 0 0 0) + (xx % 50)))), (5, .int (iI ((T 0 0 0 0) + (xx % 50)))), (4, .int (iI (2 + (xx % 50)))), (3, .int (iI 0)), (0, .ref qa), (1, .ref na), (2, .int (iI xx))]) hx hb dL_refuses_635 hl (by decide) rfl (fun ls hl => ?_)
          refine lv_iload hx hb dL_refuses_637 (lv_at hl 0 rfl) ?_
          refine lv_if_eq (tgt := 1081) hx hb dL_refuses_639 (by decide) (fun c9 => absurd c9 (by decide)) (fun _ => ?_)
          refine lv_aload_n hx hb dL_refuses_642 rfl (lv_at hl 5 rfl) ?_
          refine lv_iload hx hb dL_refuses_643 (lv_at hl 2 rfl) ?_
          have z_211 : 0 ≤ T 3 ((T 0 0 0 0) + (xx % 50)) 0 0 ∧ T 3 ((T 0 0 0 0) + (xx % 50)) 0 0 ≤ 12 := TK_nw hQ.1 _
          have B := bd_swap (a := []) (b := [(na, .inl (k 0, 4, .inl (fun i9 : Nat => iI (nf i9))))]) (d := tl2_208) (bd_to rfl B)
          refine k_W (rest := []) (wc := ([] ++ tl2_208)) (wr := [(na, .inl (k 0, 4, .inl (fun i9 : Nat => iI (nf i9))))]) (w_count l dC dI k hl0 T K qa cpS tl2_208 ((T 0 0 0 0) + (xx % 50)) z_209 hQ (by omega)) B mW_L_count mw_1266 hl ⟨Nat.le_of_ble_eq_true rfl, Nat.le_of_ble_eq_true rfl⟩ (Nat.le_of_ble_eq_true rfl) rfl dL_refuses_645 ⟨by dsimp only; omega, by dsimp only; omega⟩ (fun r w gc gs H locs hp B => ?_)
          rcases hp with ⟨cp2_212, tl2_213, z_214, z_215, z_216, rfl, hw9, rfl, rfl⟩ | ⟨cp2_217, tl2_218, z_219, z_220, z_221, rfl, hw9, rfl, rfl⟩
          · skip
            rw [hw9] at B; clear hw9
            have B := bd_to (ws' := ([(na, .inl (k 0, 4, .inl (fun i9 : Nat => iI (nf i9))))] ++ tl2_213)) rfl B
            have hPS : PS dI k T K qa cp2_212 tl2_213 := z_214
            exfalso; omega
          · skip
            rw [hw9] at B; clear hw9
            have B := bd_to (ws' := ([(na, .inl (k 0, 4, .inl (fun i9 : Nat => iI (nf i9))))] ++ tl2_218)) rfl B
            have hPS : PS dI k T K qa cp2_217 tl2_218 := z_219
            refine W.widen (k := ((cp2_217 - cp) + 73)) (n := ((12 * (cp2_217 - cp)) + 788)) (by omega) (by omega) ?_
            refine lv_ldc (v := (-2000000001)) hx hb B.1.2.2.2.1 (B.1.2.2.2.2.1 _ mw_593) dL_refuses_648 ?_
            refine lv_seti (y := iI (-2000000001)) (by decide) ?_
            refine lv_icmp_ne (tgt := 1081) hx hb dL_refuses_650 (by decide) (fun c9 => absurd c9 (by decide)) (fun _ => ?_)
            exact w_refuses_c653_6 l dC dI k hl0 T K qa cp tl na nf xx cp2_217 tl2_218 (by omega) hPS hQ hx9 hn9 (by omega)  (bd_to rfl B) hr hl
      · skip
        rw [hw9] at B; clear hw9
        have B := bd_to (ws' := ([(na, .inl (k 0, 4, .inl (fun i9 : Nat => iI (nf i9))))] ++ tl2_199)) rfl B
        have hPS : PS dI k T K qa cpS tl2_199 := z_200
        exfalso; omega

theorem dL_refuses_509 : decode cL_refuses 509 = .ok (.aload_n 1, 1) := by decide +kernel
theorem dL_refuses_510 : decode cL_refuses 510 = .ok (.iconst 2, 1) := by decide +kernel
theorem dL_refuses_511 : decode cL_refuses 511 = .ok (.iaload, 1) := by decide +kernel
theorem dL_refuses_512 : decode cL_refuses 512 = .ok (.iconst 5, 1) := by decide +kernel
theorem dL_refuses_513 : decode cL_refuses 513 = .ok (.if_icmp .lt 14, 3) := by decide +kernel
theorem dL_refuses_516 : decode cL_refuses 516 = .ok (.aload_n 0, 1) := by decide +kernel
theorem dL_refuses_517 : decode cL_refuses 517 = .ok (.iconst 0, 1) := by decide +kernel
theorem dL_refuses_518 : decode cL_refuses 518 = .ok (.iconst 1, 1) := by decide +kernel
theorem dL_refuses_519 : decode cL_refuses 519 = .ok (.invokestatic 174, 3) := by decide +kernel
theorem dL_refuses_522 : decode cL_refuses 522 = .ok (.ldc 18, 2) := by decide +kernel
theorem dL_refuses_524 : decode cL_refuses 524 = .ok (.if_icmp .ne 110, 3) := by decide +kernel
set_option maxHeartbeats 4000000 in
set_option maxRecDepth 100000 in
theorem w_refuses_c444_4 (l : Launch) (dC : Nat → ClassId) (dI : Nat → Nat → Nat) (k : Nat → ClassId) (hl0 : l.stackTraces = false) (T : Nat → Int → Int → Int → Int) (K : Nat → Int → Int) (qa : Nat) (cp : Nat) (tl : va_W) (na : Nat) (nf : Int → Int) (xx : Int) (cpS : Nat) (tlS : va_W) (hc0 : 512 ≤ cp ∧ cp ≤ 131072) (hPS : PS dI k T K qa cpS tlS) (hQ : OKT T K) (hx9 : 0 ≤ xx ∧ xx < 9973) (hn9 : nf 0 = T 0 0 0 0 ∧ nf 1 = K 0 0 ∧ nf 2 = T 12 0 0 0 ∧ nf 3 = T 18 0 0 0) (hcS : cp ≤ cpS ∧ cpS ≤ 131072) {p : Program} {e : Env} {s : State} {m : MethodId} {args : Array Value} {below : List Frame} {meth : Method} {c : Code} {H : Heap} {locs : List Loc} {ls : Array Slot} (B : bd p s m args meth c cL_refuses 11 yL_refuses.cls dC dI k (va_A ([(na, .inl (k 0, 4, .inl (fun i9 : Nat => iI (nf i9))))] ++ tl) s.heap.size) ([(na, .inl (k 0, 4, .inl (fun i9 : Nat => iI (nf i9))))] ++ tlS) H locs) (hr : meth.sig.returnType = (some .boolean)) (hl : lv_has ls 11 [(6, .int (iI ((T 12 0 0 0) + (xx % 50)))), (5, .int (iI ((T 0 0 0 0) + (xx % 50)))), (4, .int (iI (2 + (xx % 50)))), (3, .int (iI 0)), (0, .ref qa), (1, .ref na), (2, .int (iI xx))]) : W p l e ({ frames := 16, cells := ((131072 - cp) + 129), slots := ((12 * (131072 - cp)) + 1266), locals := 495 } : Room) s m args below meth c H locs ((cpS - cp) + 63) ((12 * (cpS - cp)) + 728) (MQ below (Qk dC dI ([(na, .inl (k 0, 4, .inl (fun i9 : Nat => iI (nf i9))))] ++ tl) s.heap.size (fun r w gc gs => (∃ (cp2 : Nat) (tl2 : va_W), (PS dI k T K qa cp2 tl2) ∧ (cp ≤ cp2 ∧ cp2 ≤ 131072) ∧ r = some (.int (iI 1)) ∧ w = ([(na, .inl (k 0, 4, .inl (fun i9 : Nat => iI (nf i9))))] ++ tl2) ∧ gc = ((cp2 - cp) + 129) ∧ gs = ((12 * (cp2 - cp)) + 1266)))) args s ({ frames := 16, cells := ((131072 - cp) + 129), slots := ((12 * (131072 - cp)) + 1266), locals := 495 } : Room).cells ({ frames := 16, cells := ((131072 - cp) + 129), slots := ((12 * (131072 - cp)) + 1266), locals := 495 } : Room).slots (va_A ([(na, .inl (k 0, 4, .inl (fun i9 : Nat => iI (nf i9))))] ++ tl) s.heap.size)) (F0 m 444 ls []) := by
  have hx := B.1.1
  have hb := B.1.2.1
  have hcp9 := PS_cp hPS
  have hn0 := TK_nb hQ.1
  have hk0 := hQ.2.1.1
  have hf0 := TK_fc hQ.1
  have hp0 := TK_np hQ.1
  have hm0 : lmZ 0 = 1 := rfl
  have hm1 : lmZ 1 = 0 := rfl
  have hm2 : lmZ 2 = 0 := rfl
  have hm3 : lmZ 3 = 0 := rfl
  have hm4 : lmZ 4 = 0 := rfl
  have hm5 : mmZ T 0 = 5 := rfl
  have hm6 : mmZ T 1 = T 12 0 0 0 - 1 := rfl
  have hm7 : mmZ T 2 = 5 := rfl
  have hm8 : mmZ T 3 = 7 := rfl
  have hm9 : mmZ T 4 = 1 := rfl
  refine lv_aload_n hx hb dL_refuses_444 rfl (lv_at hl 4 rfl) ?_
  refine lv_iload hx hb dL_refuses_445 (lv_at hl 1 rfl) ?_
  refine lv_iconst (v := iI 0) hx hb dL_refuses_447 (by decide) ?_
  refine lv_iconst (v := iI 0) hx hb dL_refuses_448 (by decide) ?_
  have z_140 : (-1 ≤ lsZ 0 ∧ lsZ 0 ≤ 1) ∧ 1 ≤ msZ 0 ∧ msZ 0 ≤ 30 := ⟨lsZ_in, msZ_in⟩
  have B := bd_swap (a := []) (b := [(na, .inl (k 0, 4, .inl (fun i9 : Nat => iI (nf i9))))]) (d := tlS) (bd_to rfl B)
  refine k_W (rest := []) (wc := ([] ++ tlS)) (wr := [(na, .inl (k 0, 4, .inl (fun i9 : Nat => iI (nf i9))))]) (w_styles l dC dI k hl0 T K qa cpS tlS ((T 0 0 0 0) + (xx % 50)) 0 0 hPS hQ (by omega) (by omega) (by omega)) B mW_L_styles mw_1204 hl ⟨Nat.le_of_ble_eq_true rfl, Nat.le_of_ble_eq_true rfl⟩ (Nat.le_of_ble_eq_true rfl) rfl dL_refuses_449 ⟨by dsimp only; omega, by dsimp only; omega⟩ (fun r w gc gs H locs hp B => ?_)
  rcases hp with ⟨tl2_141, z_142, z_143, rfl, hw9, rfl, rfl⟩ | ⟨tl2_144, z_145, z_146, rfl, hw9, rfl, rfl⟩ | ⟨tl2_147, z_148, z_149, rfl, hw9, rfl, rfl⟩
  · skip
    rw [hw9] at B; clear hw9
    have B := bd_to (ws' := ([(na, .inl (k 0, 4, .inl (fun i9 : Nat => iI (nf i9))))] ++ tl2_141)) rfl B
    have hPS : PS dI k (stT T ((T 0 0 0 0) + (xx % 50)) 0 0) K qa cpS tl2_141 := z_142
    exfalso; omega
  · skip
    rw [hw9] at B; clear hw9
    have B := bd_to (ws' := ([(na, .inl (k 0, 4, .inl (fun i9 : Nat => iI (nf i9))))] ++ tl2_144)) rfl B
    have hPS : PS dI k T K qa cpS tl2_144 := z_145
    refine W.widen (k := ((cpS - cp) + 64)) (n := ((12 * (cpS - cp)) + 734)) (by omega) (by omega) ?_
    refine lv_ldc (v := (-2000000001)) hx hb B.1.2.2.2.1 (B.1.2.2.2.2.1 _ mw_593) dL_refuses_452 ?_
    refine lv_seti (y := iI (-2000000001)) (by decide) ?_
    refine lv_icmp_ne (tgt := 634) hx hb dL_refuses_454 (by decide) (fun c9 => absurd c9 (by decide)) (fun _ => ?_)
    refine lv_aload_n hx hb dL_refuses_457 rfl (lv_at hl 4 rfl) ?_
    refine lv_iload hx hb dL_refuses_458 (lv_at hl 1 rfl) ?_
    refine lv_bipush (v := iI 9) hx hb dL_refuses_460 (by decide) ?_
    refine lv_iconst (v := iI 0) hx hb dL_refuses_462 (by decide) ?_
    refine lv_iconst (v := iI 1) hx hb dL_refuses_463 (by decide) ?_
    refine lv_iconst (v := iI 0) hx hb dL_refuses_464 (by decide) ?_
    refine lv_iconst (v := iI 0) hx hb dL_refuses_465 (by decide) ?_
    have B := bd_swap (a := []) (b := [(na, .inl (k 0, 4, .inl (fun i9 : Nat => iI (nf i9))))]) (d := tl2_144) (bd_to rfl B)
    refine k_W (rest := []) (wc := ([] ++ tl2_144)) (wr := [(na, .inl (k 0, 4, .inl (fun i9 : Nat => iI (nf i9))))]) (w_cells l dC dI k hl0 T K qa cpS tl2_144 ((T 0 0 0 0) + (xx % 50)) 9 0 1 0 0 z_145 hQ (by omega) (by omega) (by omega) (by omega) (by omega) (by omega)) B mW_L_cells mw_1219 hl ⟨Nat.le_of_ble_eq_true rfl, Nat.le_of_ble_eq_true rfl⟩ (Nat.le_of_ble_eq_true rfl) rfl dL_refuses_466 ⟨by dsimp only; omega, by dsimp only; omega⟩ (fun r w gc gs H locs hp B => ?_)
    rcases hp with ⟨tl2_150, z_151, z_152, rfl, hw9, rfl, rfl⟩ | ⟨tl2_153, z_154, z_155, rfl, hw9, rfl, rfl⟩ | ⟨tl2_156, z_157, z_158, rfl, hw9, rfl, rfl⟩ | ⟨tl2_159, z_160, z_161, rfl, hw9, rfl, rfl⟩
    · skip
      rw [hw9] at B; clear hw9
      have B := bd_to (ws' := ([(na, .inl (k 0, 4, .inl (fun i9 : Nat => iI (nf i9))))] ++ tl2_150)) rfl B
      have hPS : PS dI k (teT T ((T 0 0 0 0) + (xx % 50)) ((9 * 3) + 0) 1 0 0) K qa cpS tl2_150 := z_151
      exfalso; omega
    · skip
      rw [hw9] at B; clear hw9
      have B := bd_to (ws' := ([(na, .inl (k 0, 4, .inl (fun i9 : Nat => iI (nf i9))))] ++ tl2_153)) rfl B
      have hPS : PS dI k T K qa cpS tl2_153 := z_154
      refine W.widen (k := ((cpS - cp) + 65)) (n := ((12 * (cpS - cp)) + 740)) (by omega) (by omega) ?_
      refine lv_ldc (v := (-2000000001)) hx hb B.1.2.2.2.1 (B.1.2.2.2.2.1 _ mw_593) dL_refuses_469 ?_
      refine lv_seti (y := iI (-2000000001)) (by decide) ?_
      refine lv_icmp_ne (tgt := 634) hx hb dL_refuses_471 (by decide) (fun c9 => absurd c9 (by decide)) (fun _ => ?_)
      refine lv_aload_n hx hb dL_refuses_474 rfl (lv_at hl 4 rfl) ?_
      refine lv_iload hx hb dL_refuses_475 (lv_at hl 2 rfl) ?_
      refine lv_iconst (v := iI 1) hx hb dL_refuses_477 (by decide) ?_
      have B := bd_swap (a := []) (b := [(na, .inl (k 0, 4, .inl (fun i9 : Nat => iI (nf i9))))]) (d := tl2_153) (bd_to rfl B)
      refine k_W (rest := []) (wc := ([] ++ tl2_153)) (wr := [(na, .inl (k 0, 4, .inl (fun i9 : Nat => iI (nf i9))))]) (w_figures l dC dI k hl0 T K qa cpS tl2_153 (2 + (xx % 50)) 1 z_154 hQ (by omega) (by omega)) B mW_L_figures mw_1237 hl ⟨Nat.le_of_ble_eq_true rfl, Nat.le_of_ble_eq_true rfl⟩ (Nat.le_of_ble_eq_true rfl) rfl dL_refuses_478 ⟨by dsimp only; omega, by dsimp only; omega⟩ (fun r w gc gs H locs hp B => ?_)
      rcases hp with ⟨tl2_162, z_163, z_164, rfl, hw9, rfl, rfl⟩ | ⟨tl2_165, z_166, z_167, rfl, hw9, rfl, rfl⟩ | ⟨tl2_168, z_169, z_170, rfl, hw9, rfl, rfl⟩
      · skip
        rw [hw9] at B; clear hw9
        have B := bd_to (ws' := ([(na, .inl (k 0, 4, .inl (fun i9 : Nat => iI (nf i9))))] ++ tl2_162)) rfl B
        have hPS : PS dI k (fiT T (2 + (xx % 50)) 1) K qa cpS tl2_162 := z_163
        exfalso; omega
      · skip
        rw [hw9] at B; clear hw9
        have B := bd_to (ws' := ([(na, .inl (k 0, 4, .inl (fun i9 : Nat => iI (nf i9))))] ++ tl2_165)) rfl B
        have hPS : PS dI k T K qa cpS tl2_165 := z_166
        refine W.widen (k := ((cpS - cp) + 66)) (n := ((12 * (cpS - cp)) + 746)) (by omega) (by omega) ?_
        refine lv_ldc (v := (-2000000002)) hx hb B.1.2.2.2.1 (B.1.2.2.2.2.1 _ mw_627) dL_refuses_481 ?_
        refine lv_seti (y := iI (-2000000002)) (by decide) ?_
        refine lv_icmp_ne (tgt := 634) hx hb dL_refuses_483 (by decide) (fun c9 => absurd c9 (by decide)) (fun _ => ?_)
        refine lv_aload_n hx hb dL_refuses_486 rfl (lv_at hl 4 rfl) ?_
        refine lv_iconst (v := iI 0) hx hb dL_refuses_487 (by decide) ?_
        refine lv_iload_n hx hb dL_refuses_488 rfl (lv_at hl 3 rfl) ?_
        refine lv_if_eq (tgt := 497) hx hb dL_refuses_489 (by decide) (fun _ => ?_) (fun c9 => absurd (by decide) c9)
        refine lv_bipush (v := iI 41) hx hb dL_refuses_497 (by decide) ?_
        refine lv_iload_n hx hb dL_refuses_499 rfl (lv_at hl 6 rfl) ?_
        refine y_add hx hb dL_refuses_500 ?_
        have B := bd_swap (a := []) (b := [(na, .inl (k 0, 4, .inl (fun i9 : Nat => iI (nf i9))))]) (d := tl2_165) (bd_to rfl B)
        refine k_W (rest := []) (wc := ([] ++ tl2_165)) (wr := [(na, .inl (k 0, 4, .inl (fun i9 : Nat => iI (nf i9))))]) (w_figures l dC dI k hl0 T K qa cpS tl2_165 0 (41 + xx) z_166 hQ (by omega) (by omega)) B mW_L_figures mw_1237 hl ⟨Nat.le_of_ble_eq_true rfl, Nat.le_of_ble_eq_true rfl⟩ (Nat.le_of_ble_eq_true rfl) rfl dL_refuses_501 ⟨by dsimp only; omega, by dsimp only; omega⟩ (fun r w gc gs H locs hp B => ?_)
        rcases hp with ⟨tl2_171, z_172, z_173, rfl, hw9, rfl, rfl⟩ | ⟨tl2_174, z_175, z_176, rfl, hw9, rfl, rfl⟩ | ⟨tl2_177, z_178, z_179, rfl, hw9, rfl, rfl⟩
        · skip
          rw [hw9] at B; clear hw9
          have B := bd_to (ws' := ([(na, .inl (k 0, 4, .inl (fun i9 : Nat => iI (nf i9))))] ++ tl2_171)) rfl B
          have hPS : PS dI k (fiT T 0 (41 + xx)) K qa cpS tl2_171 := z_172
          exfalso; omega
        · skip
          rw [hw9] at B; clear hw9
          have B := bd_to (ws' := ([(na, .inl (k 0, 4, .inl (fun i9 : Nat => iI (nf i9))))] ++ tl2_174)) rfl B
          have hPS : PS dI k T K qa cpS tl2_174 := z_175
          refine W.widen (k := ((cpS - cp) + 67)) (n := ((12 * (cpS - cp)) + 752)) (by omega) (by omega) ?_
          refine lv_ldc (v := (-2000000002)) hx hb B.1.2.2.2.1 (B.1.2.2.2.2.1 _ mw_627) dL_refuses_504 ?_
          refine lv_seti (y := iI (-2000000002)) (by decide) ?_
          refine lv_icmp_ne (tgt := 634) hx hb dL_refuses_506 (by decide) (fun c9 => absurd c9 (by decide)) (fun _ => ?_)
          refine k_joinG (σ := Nat × va_W) B 527 (fun g9 : Nat × va_W => (PS dI k T K qa g9.1 g9.2) ∧ (cp ≤ g9.1 ∧ g9.1 ≤ 131072)) (fun g9 : Nat × va_W => [(6, .int (iI ((T 12 0 0 0) + (xx % 50)))), (5, .int (iI ((T 0 0 0 0) + (xx % 50)))), (4, .int (iI (2 + (xx % 50)))), (3, .int (iI 0)), (0, .ref qa), (1, .ref na), (2, .int (iI xx))]) (fun g9 : Nat × va_W => ([(na, .inl (k 0, 4, .inl (fun i9 : Nat => iI (nf i9))))] ++ g9.2)) (fun g9 : Nat × va_W => ((g9.1 - cp) + 68)) (fun g9 : Nat × va_W => ((12 * (g9.1 - cp)) + 758)) (fun g9 : Nat × va_W => []) ?_ (fun J_180 => ?_)
          · clear hl B
            rintro ⟨cpD, tlD⟩ ⟨hPS, hcD⟩ ls H locs hl B
            have hPS : PS dI k T K qa cpD tlD := hPS
            have hcD : cp ≤ cpD ∧ cpD ≤ 131072 := hcD
            show W p l e _ s m args below meth c H locs (((cpD - cp) + 68)) (((12 * (cpD - cp)) + 758)) _ _
            have hl : lv_has ls 11 [(6, .int (iI ((T 12 0 0 0) + (xx % 50)))), (5, .int (iI ((T 0 0 0 0) + (xx % 50)))), (4, .int (iI (2 + (xx % 50)))), (3, .int (iI 0)), (0, .ref qa), (1, .ref na), (2, .int (iI xx))] := hl
            have B := bd_to (ws' := ([(na, .inl (k 0, 4, .inl (fun i9 : Nat => iI (nf i9))))] ++ tlD)) rfl B
            exact w_refuses_c527_5 l dC dI k hl0 T K qa cp tl na nf xx cpD tlD (by omega) hPS hQ hx9 hn9 (by omega)  (bd_to rfl B) hr hl
          refine lv_aload_n hx hb dL_refuses_509 rfl (lv_at hl 5 rfl) ?_
          refine lv_iconst (v := iI 2) hx hb dL_refuses_510 (by decide) ?_
          refine x_iald' (f := nf) (z := 2) B 0 rfl (by omega) dL_refuses_511 ?_
          refine lv_seti (y := iI (T 12 0 0 0)) (congrArg iI (show nf 2 = T 12 0 0 0 from hn9.2.2.1)) ?_
          refine lv_iconst (v := iI 5) hx hb dL_refuses_512 (by decide) ?_
          refine lv_icmp_lt (tgt := 527) hx hb dL_refuses_513 (by decide) (fun c_732 => ?_) (fun c_732 => ?_)
          · have zc_732 : (T 12 0 0 0) < 5 := jlt (a := (T 12 0 0 0)) (b := 5) (by omega) (by omega) c_732
            refine W.widen (k := ((cpS - cp) + 68)) (n := ((12 * (cpS - cp)) + 758)) (by omega) (by omega) ?_
            exact J_180 (cpS, tl2_174) ⟨(show PS dI k T K qa cpS tl2_174 from hPS), (show cp ≤ cpS ∧ cpS ≤ 131072 from hcS)⟩ _ _ _ (lv_sub hl [0, 1, 2, 3, 4, 5, 6] rfl) (bd_to rfl B)
          · have zc_732 : 5 ≤ (T 12 0 0 0) := jnlt (a := (T 12 0 0 0)) (b := 5) (by omega) (by omega) c_732
            refine lv_aload_n hx hb dL_refuses_516 rfl (lv_at hl 4 rfl) ?_
            refine lv_iconst (v := iI 0) hx hb dL_refuses_517 (by decide) ?_
            refine lv_iconst (v := iI 1) hx hb dL_refuses_518 (by decide) ?_
            have B := bd_swap (a := []) (b := [(na, .inl (k 0, 4, .inl (fun i9 : Nat => iI (nf i9))))]) (d := tl2_174) (bd_to rfl B)
            refine k_W (rest := []) (wc := ([] ++ tl2_174)) (wr := [(na, .inl (k 0, 4, .inl (fun i9 : Nat => iI (nf i9))))]) (w_figures l dC dI k hl0 T K qa cpS tl2_174 0 1 z_175 hQ (by omega) (by omega)) B mW_L_figures mw_1237 hl ⟨Nat.le_of_ble_eq_true rfl, Nat.le_of_ble_eq_true rfl⟩ (Nat.le_of_ble_eq_true rfl) rfl dL_refuses_519 ⟨by dsimp only; omega, by dsimp only; omega⟩ (fun r w gc gs H locs hp B => ?_)
            rcases hp with ⟨tl2_733, z_734, z_735, rfl, hw9, rfl, rfl⟩ | ⟨tl2_736, z_737, z_738, rfl, hw9, rfl, rfl⟩ | ⟨tl2_739, z_740, z_741, rfl, hw9, rfl, rfl⟩
            · skip
              rw [hw9] at B; clear hw9
              have B := bd_to (ws' := ([(na, .inl (k 0, 4, .inl (fun i9 : Nat => iI (nf i9))))] ++ tl2_733)) rfl B
              have hPS : PS dI k (fiT T 0 1) K qa cpS tl2_733 := z_734
              exfalso; omega
            · skip
              rw [hw9] at B; clear hw9
              have B := bd_to (ws' := ([(na, .inl (k 0, 4, .inl (fun i9 : Nat => iI (nf i9))))] ++ tl2_736)) rfl B
              have hPS : PS dI k T K qa cpS tl2_736 := z_737
              exfalso; omega
            · skip
              rw [hw9] at B; clear hw9
              have B := bd_to (ws' := ([(na, .inl (k 0, 4, .inl (fun i9 : Nat => iI (nf i9))))] ++ tl2_739)) rfl B
              have hPS : PS dI k T K qa cpS tl2_739 := z_740
              refine W.widen (k := ((cpS - cp) + 68)) (n := ((12 * (cpS - cp)) + 758)) (by omega) (by omega) ?_
              refine lv_ldc (v := (-2000000003)) hx hb B.1.2.2.2.1 (B.1.2.2.2.2.1 _ mw_594) dL_refuses_522 ?_
              refine lv_seti (y := iI (-2000000003)) (by decide) ?_
              refine lv_icmp_ne (tgt := 634) hx hb dL_refuses_524 (by decide) (fun c9 => absurd c9 (by decide)) (fun _ => ?_)
              refine W.widen (k := ((cpS - cp) + 68)) (n := ((12 * (cpS - cp)) + 758)) (by omega) (by omega) ?_
              exact J_180 (cpS, tl2_739) ⟨(show PS dI k T K qa cpS tl2_739 from hPS), (show cp ≤ cpS ∧ cpS ≤ 131072 from hcS)⟩ _ _ _ (lv_sub hl [0, 1, 2, 3, 4, 5, 6] rfl) (bd_to rfl B)
        · skip
          rw [hw9] at B; clear hw9
          have B := bd_to (ws' := ([(na, .inl (k 0, 4, .inl (fun i9 : Nat => iI (nf i9))))] ++ tl2_177)) rfl B
          have hPS : PS dI k T K qa cpS tl2_177 := z_178
          exfalso; omega
      · skip
        rw [hw9] at B; clear hw9
        have B := bd_to (ws' := ([(na, .inl (k 0, 4, .inl (fun i9 : Nat => iI (nf i9))))] ++ tl2_168)) rfl B
        have hPS : PS dI k T K qa cpS tl2_168 := z_169
        exfalso; omega
    · skip
      rw [hw9] at B; clear hw9
      have B := bd_to (ws' := ([(na, .inl (k 0, 4, .inl (fun i9 : Nat => iI (nf i9))))] ++ tl2_156)) rfl B
      have hPS : PS dI k T K qa cpS tl2_156 := z_157
      exfalso; omega
    · skip
      rw [hw9] at B; clear hw9
      have B := bd_to (ws' := ([(na, .inl (k 0, 4, .inl (fun i9 : Nat => iI (nf i9))))] ++ tl2_159)) rfl B
      have hPS : PS dI k T K qa cpS tl2_159 := z_160
      exfalso; omega
  · skip
    rw [hw9] at B; clear hw9
    have B := bd_to (ws' := ([(na, .inl (k 0, 4, .inl (fun i9 : Nat => iI (nf i9))))] ++ tl2_147)) rfl B
    have hPS : PS dI k T K qa cpS tl2_147 := z_148
    exfalso; omega

theorem dL_refuses_414 : decode cL_refuses 414 = .ok (.aload_n 1, 1) := by decide +kernel
theorem dL_refuses_415 : decode cL_refuses 415 = .ok (.iconst 0, 1) := by decide +kernel
theorem dL_refuses_416 : decode cL_refuses 416 = .ok (.iaload, 1) := by decide +kernel
theorem dL_refuses_417 : decode cL_refuses 417 = .ok (.bipush 16, 2) := by decide +kernel
theorem dL_refuses_419 : decode cL_refuses 419 = .ok (.if_icmp .lt 14, 3) := by decide +kernel
theorem dL_refuses_422 : decode cL_refuses 422 = .ok (.aload_n 0, 1) := by decide +kernel
theorem dL_refuses_423 : decode cL_refuses 423 = .ok (.iconst 0, 1) := by decide +kernel
theorem dL_refuses_424 : decode cL_refuses 424 = .ok (.iconst 0, 1) := by decide +kernel
theorem dL_refuses_425 : decode cL_refuses 425 = .ok (.invokestatic 161, 3) := by decide +kernel
theorem dL_refuses_428 : decode cL_refuses 428 = .ok (.ldc 18, 2) := by decide +kernel
theorem dL_refuses_430 : decode cL_refuses 430 = .ok (.if_icmp .ne 204, 3) := by decide +kernel
set_option maxHeartbeats 4000000 in
set_option maxRecDepth 100000 in
theorem w_refuses_c351_3 (l : Launch) (dC : Nat → ClassId) (dI : Nat → Nat → Nat) (k : Nat → ClassId) (hl0 : l.stackTraces = false) (T : Nat → Int → Int → Int → Int) (K : Nat → Int → Int) (qa : Nat) (cp : Nat) (tl : va_W) (na : Nat) (nf : Int → Int) (xx : Int) (cpS : Nat) (tlS : va_W) (hc0 : 512 ≤ cp ∧ cp ≤ 131072) (hPS : PS dI k T K qa cpS tlS) (hQ : OKT T K) (hx9 : 0 ≤ xx ∧ xx < 9973) (hn9 : nf 0 = T 0 0 0 0 ∧ nf 1 = K 0 0 ∧ nf 2 = T 12 0 0 0 ∧ nf 3 = T 18 0 0 0) (hcS : cp ≤ cpS ∧ cpS ≤ 131072) {p : Program} {e : Env} {s : State} {m : MethodId} {args : Array Value} {below : List Frame} {meth : Method} {c : Code} {H : Heap} {locs : List Loc} {ls : Array Slot} (B : bd p s m args meth c cL_refuses 11 yL_refuses.cls dC dI k (va_A ([(na, .inl (k 0, 4, .inl (fun i9 : Nat => iI (nf i9))))] ++ tl) s.heap.size) ([(na, .inl (k 0, 4, .inl (fun i9 : Nat => iI (nf i9))))] ++ tlS) H locs) (hr : meth.sig.returnType = (some .boolean)) (hl : lv_has ls 11 [(6, .int (iI ((T 12 0 0 0) + (xx % 50)))), (5, .int (iI ((T 0 0 0 0) + (xx % 50)))), (4, .int (iI (2 + (xx % 50)))), (3, .int (iI 0)), (0, .ref qa), (1, .ref na), (2, .int (iI xx))]) : W p l e ({ frames := 16, cells := ((131072 - cp) + 129), slots := ((12 * (131072 - cp)) + 1266), locals := 495 } : Room) s m args below meth c H locs ((cpS - cp) + 25) ((12 * (cpS - cp)) + 318) (MQ below (Qk dC dI ([(na, .inl (k 0, 4, .inl (fun i9 : Nat => iI (nf i9))))] ++ tl) s.heap.size (fun r w gc gs => (∃ (cp2 : Nat) (tl2 : va_W), (PS dI k T K qa cp2 tl2) ∧ (cp ≤ cp2 ∧ cp2 ≤ 131072) ∧ r = some (.int (iI 1)) ∧ w = ([(na, .inl (k 0, 4, .inl (fun i9 : Nat => iI (nf i9))))] ++ tl2) ∧ gc = ((cp2 - cp) + 129) ∧ gs = ((12 * (cp2 - cp)) + 1266)))) args s ({ frames := 16, cells := ((131072 - cp) + 129), slots := ((12 * (131072 - cp)) + 1266), locals := 495 } : Room).cells ({ frames := 16, cells := ((131072 - cp) + 129), slots := ((12 * (131072 - cp)) + 1266), locals := 495 } : Room).slots (va_A ([(na, .inl (k 0, 4, .inl (fun i9 : Nat => iI (nf i9))))] ++ tl) s.heap.size)) (F0 m 351 ls []) := by
  have hx := B.1.1
  have hb := B.1.2.1
  have hcp9 := PS_cp hPS
  have hn0 := TK_nb hQ.1
  have hk0 := hQ.2.1.1
  have hf0 := TK_fc hQ.1
  have hp0 := TK_np hQ.1
  have hm0 : lmZ 0 = 1 := rfl
  have hm1 : lmZ 1 = 0 := rfl
  have hm2 : lmZ 2 = 0 := rfl
  have hm3 : lmZ 3 = 0 := rfl
  have hm4 : lmZ 4 = 0 := rfl
  have hm5 : mmZ T 0 = 5 := rfl
  have hm6 : mmZ T 1 = T 12 0 0 0 - 1 := rfl
  have hm7 : mmZ T 2 = 5 := rfl
  have hm8 : mmZ T 3 = 7 := rfl
  have hm9 : mmZ T 4 = 1 := rfl
  refine lv_aload_n hx hb dL_refuses_351 rfl (lv_at hl 4 rfl) ?_
  refine lv_iload hx hb dL_refuses_352 (lv_at hl 1 rfl) ?_
  refine lv_iconst (v := iI 0) hx hb dL_refuses_354 (by decide) ?_
  have B := bd_swap (a := []) (b := [(na, .inl (k 0, 4, .inl (fun i9 : Nat => iI (nf i9))))]) (d := tlS) (bd_to rfl B)
  refine k_W (rest := []) (wc := ([] ++ tlS)) (wr := [(na, .inl (k 0, 4, .inl (fun i9 : Nat => iI (nf i9))))]) (w_takes l dC dI k hl0 T K qa cpS tlS ((T 0 0 0 0) + (xx % 50)) 0 hPS hQ (by omega) (by omega)) B mW_L_takes mw_1101 hl ⟨Nat.le_of_ble_eq_true rfl, Nat.le_of_ble_eq_true rfl⟩ (Nat.le_of_ble_eq_true rfl) rfl dL_refuses_355 ⟨by dsimp only; omega, by dsimp only; omega⟩ (fun r w gc gs H locs hp B => ?_)
  rcases hp with ⟨tl2_103, z_104, z_105, rfl, hw9, rfl, rfl⟩ | ⟨tl2_106, z_107, z_108, rfl, hw9, rfl, rfl⟩
  · skip
    rw [hw9] at B; clear hw9
    have B := bd_to (ws' := ([(na, .inl (k 0, 4, .inl (fun i9 : Nat => iI (nf i9))))] ++ tl2_103)) rfl B
    have hPS : PS dI k (tkT T ((T 0 0 0 0) + (xx % 50)) 0) K qa cpS tl2_103 := z_104
    exfalso; omega
  · skip
    rw [hw9] at B; clear hw9
    have B := bd_to (ws' := ([(na, .inl (k 0, 4, .inl (fun i9 : Nat => iI (nf i9))))] ++ tl2_106)) rfl B
    have hPS : PS dI k T K qa cpS tl2_106 := z_107
    refine W.widen (k := ((cpS - cp) + 26)) (n := ((12 * (cpS - cp)) + 358)) (by omega) (by omega) ?_
    refine lv_ldc (v := (-2000000001)) hx hb B.1.2.2.2.1 (B.1.2.2.2.2.1 _ mw_593) dL_refuses_358 ?_
    refine lv_seti (y := iI (-2000000001)) (by decide) ?_
    refine lv_icmp_ne (tgt := 634) hx hb dL_refuses_360 (by decide) (fun c9 => absurd c9 (by decide)) (fun _ => ?_)
    refine lv_aload_n hx hb dL_refuses_363 rfl (lv_at hl 4 rfl) ?_
    refine lv_iload_n hx hb dL_refuses_364 rfl (lv_at hl 3 rfl) ?_
    refine lv_if_eq (tgt := 374) hx hb dL_refuses_365 (by decide) (fun _ => ?_) (fun c9 => absurd (by decide) c9)
    refine lv_aload_n hx hb dL_refuses_374 rfl (lv_at hl 5 rfl) ?_
    refine lv_iconst (v := iI 0) hx hb dL_refuses_375 (by decide) ?_
    refine x_iald' (f := nf) (z := 0) B 0 rfl (by omega) dL_refuses_376 ?_
    refine lv_seti (y := iI (T 0 0 0 0)) (congrArg iI (show nf 0 = T 0 0 0 0 from hn9.1)) ?_
    refine lv_iconst (v := iI 1) hx hb dL_refuses_377 (by decide) ?_
    refine y_add hx hb dL_refuses_378 ?_
    refine lv_iload_n hx hb dL_refuses_379 rfl (lv_at hl 6 rfl) ?_
    refine y_add hx hb dL_refuses_380 ?_
    refine lv_iconst (v := iI 0) hx hb dL_refuses_381 (by decide) ?_
    have B := bd_swap (a := []) (b := [(na, .inl (k 0, 4, .inl (fun i9 : Nat => iI (nf i9))))]) (d := tl2_106) (bd_to rfl B)
    refine k_W (rest := []) (wc := ([] ++ tl2_106)) (wr := [(na, .inl (k 0, 4, .inl (fun i9 : Nat => iI (nf i9))))]) (w_blocks l dC dI k hl0 T K qa cpS tl2_106 (((T 0 0 0 0) + 1) + xx) 0 z_107 hQ (by omega) (by omega)) B mW_L_blocks mw_1120 hl ⟨Nat.le_of_ble_eq_true rfl, Nat.le_of_ble_eq_true rfl⟩ (Nat.le_of_ble_eq_true rfl) rfl dL_refuses_382 ⟨by dsimp only; omega, by dsimp only; omega⟩ (fun r w gc gs H locs hp B => ?_)
    rcases hp with ⟨tl2_109, z_110, z_111, rfl, hw9, rfl, rfl⟩ | ⟨tl2_112, z_113, z_114, rfl, hw9, rfl, rfl⟩ | ⟨tl2_115, z_116, z_117, rfl, hw9, rfl, rfl⟩ | ⟨tl2_118, z_119, z_120, rfl, hw9, rfl, rfl⟩
    · skip
      rw [hw9] at B; clear hw9
      have B := bd_to (ws' := ([(na, .inl (k 0, 4, .inl (fun i9 : Nat => iI (nf i9))))] ++ tl2_109)) rfl B
      have hPS : PS dI k (ibT T (((T 0 0 0 0) + 1) + xx) 0) K qa cpS tl2_109 := z_110
      exfalso; omega
    · skip
      rw [hw9] at B; clear hw9
      have B := bd_to (ws' := ([(na, .inl (k 0, 4, .inl (fun i9 : Nat => iI (nf i9))))] ++ tl2_112)) rfl B
      have hPS : PS dI k T K qa cpS tl2_112 := z_113
      refine W.widen (k := ((cpS - cp) + 38)) (n := ((12 * (cpS - cp)) + 468)) (by omega) (by omega) ?_
      refine lv_ldc (v := (-2000000001)) hx hb B.1.2.2.2.1 (B.1.2.2.2.2.1 _ mw_593) dL_refuses_385 ?_
      refine lv_seti (y := iI (-2000000001)) (by decide) ?_
      refine lv_icmp_ne (tgt := 634) hx hb dL_refuses_387 (by decide) (fun c9 => absurd c9 (by decide)) (fun _ => ?_)
      refine lv_aload_n hx hb dL_refuses_390 rfl (lv_at hl 4 rfl) ?_
      refine lv_iconst (v := iI 0) hx hb dL_refuses_391 (by decide) ?_
      refine lv_iload_n hx hb dL_refuses_392 rfl (lv_at hl 3 rfl) ?_
      refine lv_if_eq (tgt := 402) hx hb dL_refuses_393 (by decide) (fun _ => ?_) (fun c9 => absurd (by decide) c9)
      refine lv_bipush (v := iI 7) hx hb dL_refuses_402 (by decide) ?_
      refine lv_iload_n hx hb dL_refuses_404 rfl (lv_at hl 6 rfl) ?_
      refine y_add hx hb dL_refuses_405 ?_
      have B := bd_swap (a := []) (b := [(na, .inl (k 0, 4, .inl (fun i9 : Nat => iI (nf i9))))]) (d := tl2_112) (bd_to rfl B)
      refine k_W (rest := []) (wc := ([] ++ tl2_112)) (wr := [(na, .inl (k 0, 4, .inl (fun i9 : Nat => iI (nf i9))))]) (w_blocks l dC dI k hl0 T K qa cpS tl2_112 0 (7 + xx) z_113 hQ (by omega) (by omega)) B mW_L_blocks mw_1120 hl ⟨Nat.le_of_ble_eq_true rfl, Nat.le_of_ble_eq_true rfl⟩ (Nat.le_of_ble_eq_true rfl) rfl dL_refuses_406 ⟨by dsimp only; omega, by dsimp only; omega⟩ (fun r w gc gs H locs hp B => ?_)
      rcases hp with ⟨tl2_121, z_122, z_123, rfl, hw9, rfl, rfl⟩ | ⟨tl2_124, z_125, z_126, rfl, hw9, rfl, rfl⟩ | ⟨tl2_127, z_128, z_129, rfl, hw9, rfl, rfl⟩ | ⟨tl2_130, z_131, z_132, rfl, hw9, rfl, rfl⟩
      · skip
        rw [hw9] at B; clear hw9
        have B := bd_to (ws' := ([(na, .inl (k 0, 4, .inl (fun i9 : Nat => iI (nf i9))))] ++ tl2_121)) rfl B
        have hPS : PS dI k (ibT T 0 (7 + xx)) K qa cpS tl2_121 := z_122
        exfalso; omega
      · skip
        rw [hw9] at B; clear hw9
        have B := bd_to (ws' := ([(na, .inl (k 0, 4, .inl (fun i9 : Nat => iI (nf i9))))] ++ tl2_124)) rfl B
        have hPS : PS dI k T K qa cpS tl2_124 := z_125
        exfalso; omega
      · skip
        rw [hw9] at B; clear hw9
        have B := bd_to (ws' := ([(na, .inl (k 0, 4, .inl (fun i9 : Nat => iI (nf i9))))] ++ tl2_127)) rfl B
        have hPS : PS dI k T K qa cpS tl2_127 := z_128
        refine W.widen (k := ((cpS - cp) + 50)) (n := ((12 * (cpS - cp)) + 578)) (by omega) (by omega) ?_
        refine lv_ldc (v := (-2000000002)) hx hb B.1.2.2.2.1 (B.1.2.2.2.2.1 _ mw_627) dL_refuses_409 ?_
        refine lv_seti (y := iI (-2000000002)) (by decide) ?_
        refine lv_icmp_ne (tgt := 634) hx hb dL_refuses_411 (by decide) (fun c9 => absurd c9 (by decide)) (fun _ => ?_)
        refine k_joinG (σ := Nat × va_W) B 433 (fun g9 : Nat × va_W => (PS dI k T K qa g9.1 g9.2) ∧ (cp ≤ g9.1 ∧ g9.1 ≤ 131072)) (fun g9 : Nat × va_W => [(6, .int (iI ((T 12 0 0 0) + (xx % 50)))), (5, .int (iI ((T 0 0 0 0) + (xx % 50)))), (4, .int (iI (2 + (xx % 50)))), (3, .int (iI 0)), (0, .ref qa), (1, .ref na), (2, .int (iI xx))]) (fun g9 : Nat × va_W => ([(na, .inl (k 0, 4, .inl (fun i9 : Nat => iI (nf i9))))] ++ g9.2)) (fun g9 : Nat × va_W => ((g9.1 - cp) + 62)) (fun g9 : Nat × va_W => ((12 * (g9.1 - cp)) + 688)) (fun g9 : Nat × va_W => []) ?_ (fun J_133 => ?_)
        · clear hl B
          rintro ⟨cpC, tlC⟩ ⟨hPS, hcC⟩ ls H locs hl B
          have hPS : PS dI k T K qa cpC tlC := hPS
          have hcC : cp ≤ cpC ∧ cpC ≤ 131072 := hcC
          show W p l e _ s m args below meth c H locs (((cpC - cp) + 62)) (((12 * (cpC - cp)) + 688)) _ _
          have hl : lv_has ls 11 [(6, .int (iI ((T 12 0 0 0) + (xx % 50)))), (5, .int (iI ((T 0 0 0 0) + (xx % 50)))), (4, .int (iI (2 + (xx % 50)))), (3, .int (iI 0)), (0, .ref qa), (1, .ref na), (2, .int (iI xx))] := hl
          have B := bd_to (ws' := ([(na, .inl (k 0, 4, .inl (fun i9 : Nat => iI (nf i9))))] ++ tlC)) rfl B
          refine lv_aload_n hx hb dL_refuses_433 rfl (lv_at hl 4 rfl) ?_
          refine lv_iload hx hb dL_refuses_434 (lv_at hl 1 rfl) ?_
          have B := bd_swap (a := []) (b := [(na, .inl (k 0, 4, .inl (fun i9 : Nat => iI (nf i9))))]) (d := tlC) (bd_to rfl B)
          refine k_W (rest := []) (wc := ([] ++ tlC)) (wr := [(na, .inl (k 0, 4, .inl (fun i9 : Nat => iI (nf i9))))]) (w_removes l dC dI k hl0 T K qa cpC tlC ((T 0 0 0 0) + (xx % 50)) hPS hQ (by omega)) B mW_L_removes mw_1197 hl ⟨Nat.le_of_ble_eq_true rfl, Nat.le_of_ble_eq_true rfl⟩ (Nat.le_of_ble_eq_true rfl) rfl dL_refuses_436 ⟨by dsimp only; omega, by dsimp only; omega⟩ (fun r w gc gs H locs hp B => ?_)
          rcases hp with ⟨tl2_134, z_135, z_136, rfl, hw9, rfl, rfl⟩ | ⟨tl2_137, z_138, z_139, rfl, hw9, rfl, rfl⟩
          · skip
            rw [hw9] at B; clear hw9
            have B := bd_to (ws' := ([(na, .inl (k 0, 4, .inl (fun i9 : Nat => iI (nf i9))))] ++ tl2_134)) rfl B
            have hPS : PS dI k (rbT T ((T 0 0 0 0) + (xx % 50))) K qa cpC tl2_134 := z_135
            exfalso; omega
          · skip
            rw [hw9] at B; clear hw9
            have B := bd_to (ws' := ([(na, .inl (k 0, 4, .inl (fun i9 : Nat => iI (nf i9))))] ++ tl2_137)) rfl B
            have hPS : PS dI k T K qa cpC tl2_137 := z_138
            refine W.widen (k := ((cpC - cp) + 63)) (n := ((12 * (cpC - cp)) + 728)) (by omega) (by omega) ?_
            refine lv_ldc (v := (-2000000001)) hx hb B.1.2.2.2.1 (B.1.2.2.2.2.1 _ mw_593) dL_refuses_439 ?_
            refine lv_seti (y := iI (-2000000001)) (by decide) ?_
            refine lv_icmp_ne (tgt := 634) hx hb dL_refuses_441 (by decide) (fun c9 => absurd c9 (by decide)) (fun _ => ?_)
            exact w_refuses_c444_4 l dC dI k hl0 T K qa cp tl na nf xx cpC tl2_137 (by omega) hPS hQ hx9 hn9 (by omega)  (bd_to rfl B) hr hl
        refine lv_aload_n hx hb dL_refuses_414 rfl (lv_at hl 5 rfl) ?_
        refine lv_iconst (v := iI 0) hx hb dL_refuses_415 (by decide) ?_
        refine x_iald' (f := nf) (z := 0) B 0 rfl (by omega) dL_refuses_416 ?_
        refine lv_seti (y := iI (T 0 0 0 0)) (congrArg iI (show nf 0 = T 0 0 0 0 from hn9.1)) ?_
        refine lv_bipush (v := iI 16) hx hb dL_refuses_417 (by decide) ?_
        refine lv_icmp_lt (tgt := 433) hx hb dL_refuses_419 (by decide) (fun c_742 => ?_) (fun c_742 => ?_)
        · have zc_742 : (T 0 0 0 0) < 16 := jlt (a := (T 0 0 0 0)) (b := 16) (by omega) (by omega) c_742
          refine W.widen (k := ((cpS - cp) + 62)) (n := ((12 * (cpS - cp)) + 688)) (by omega) (by omega) ?_
          exact J_133 (cpS, tl2_127) ⟨(show PS dI k T K qa cpS tl2_127 from hPS), (show cp ≤ cpS ∧ cpS ≤ 131072 from hcS)⟩ _ _ _ (lv_sub hl [0, 1, 2, 3, 4, 5, 6] rfl) (bd_to rfl B)
        · have zc_742 : 16 ≤ (T 0 0 0 0) := jnlt (a := (T 0 0 0 0)) (b := 16) (by omega) (by omega) c_742
          refine lv_aload_n hx hb dL_refuses_422 rfl (lv_at hl 4 rfl) ?_
          refine lv_iconst (v := iI 0) hx hb dL_refuses_423 (by decide) ?_
          refine lv_iconst (v := iI 0) hx hb dL_refuses_424 (by decide) ?_
          have B := bd_swap (a := []) (b := [(na, .inl (k 0, 4, .inl (fun i9 : Nat => iI (nf i9))))]) (d := tl2_127) (bd_to rfl B)
          refine k_W (rest := []) (wc := ([] ++ tl2_127)) (wr := [(na, .inl (k 0, 4, .inl (fun i9 : Nat => iI (nf i9))))]) (w_blocks l dC dI k hl0 T K qa cpS tl2_127 0 0 z_128 hQ (by omega) (by omega)) B mW_L_blocks mw_1120 hl ⟨Nat.le_of_ble_eq_true rfl, Nat.le_of_ble_eq_true rfl⟩ (Nat.le_of_ble_eq_true rfl) rfl dL_refuses_425 ⟨by dsimp only; omega, by dsimp only; omega⟩ (fun r w gc gs H locs hp B => ?_)
          rcases hp with ⟨tl2_743, z_744, z_745, rfl, hw9, rfl, rfl⟩ | ⟨tl2_746, z_747, z_748, rfl, hw9, rfl, rfl⟩ | ⟨tl2_749, z_750, z_751, rfl, hw9, rfl, rfl⟩ | ⟨tl2_752, z_753, z_754, rfl, hw9, rfl, rfl⟩
          · skip
            rw [hw9] at B; clear hw9
            have B := bd_to (ws' := ([(na, .inl (k 0, 4, .inl (fun i9 : Nat => iI (nf i9))))] ++ tl2_743)) rfl B
            have hPS : PS dI k (ibT T 0 0) K qa cpS tl2_743 := z_744
            exfalso; omega
          · skip
            rw [hw9] at B; clear hw9
            have B := bd_to (ws' := ([(na, .inl (k 0, 4, .inl (fun i9 : Nat => iI (nf i9))))] ++ tl2_746)) rfl B
            have hPS : PS dI k T K qa cpS tl2_746 := z_747
            exfalso; omega
          · skip
            rw [hw9] at B; clear hw9
            have B := bd_to (ws' := ([(na, .inl (k 0, 4, .inl (fun i9 : Nat => iI (nf i9))))] ++ tl2_749)) rfl B
            have hPS : PS dI k T K qa cpS tl2_749 := z_750
            exfalso; omega
          · skip
            rw [hw9] at B; clear hw9
            have B := bd_to (ws' := ([(na, .inl (k 0, 4, .inl (fun i9 : Nat => iI (nf i9))))] ++ tl2_752)) rfl B
            have hPS : PS dI k T K qa cpS tl2_752 := z_753
            refine W.widen (k := ((cpS - cp) + 62)) (n := ((12 * (cpS - cp)) + 688)) (by omega) (by omega) ?_
            refine lv_ldc (v := (-2000000003)) hx hb B.1.2.2.2.1 (B.1.2.2.2.2.1 _ mw_594) dL_refuses_428 ?_
            refine lv_seti (y := iI (-2000000003)) (by decide) ?_
            refine lv_icmp_ne (tgt := 634) hx hb dL_refuses_430 (by decide) (fun c9 => absurd c9 (by decide)) (fun _ => ?_)
            refine W.widen (k := ((cpS - cp) + 62)) (n := ((12 * (cpS - cp)) + 688)) (by omega) (by omega) ?_
            exact J_133 (cpS, tl2_752) ⟨(show PS dI k T K qa cpS tl2_752 from hPS), (show cp ≤ cpS ∧ cpS ≤ 131072 from hcS)⟩ _ _ _ (lv_sub hl [0, 1, 2, 3, 4, 5, 6] rfl) (bd_to rfl B)
      · skip
        rw [hw9] at B; clear hw9
        have B := bd_to (ws' := ([(na, .inl (k 0, 4, .inl (fun i9 : Nat => iI (nf i9))))] ++ tl2_130)) rfl B
        have hPS : PS dI k T K qa cpS tl2_130 := z_131
        exfalso; omega
    · skip
      rw [hw9] at B; clear hw9
      have B := bd_to (ws' := ([(na, .inl (k 0, 4, .inl (fun i9 : Nat => iI (nf i9))))] ++ tl2_115)) rfl B
      have hPS : PS dI k T K qa cpS tl2_115 := z_116
      exfalso; omega
    · skip
      rw [hw9] at B; clear hw9
      have B := bd_to (ws' := ([(na, .inl (k 0, 4, .inl (fun i9 : Nat => iI (nf i9))))] ++ tl2_118)) rfl B
      have hPS : PS dI k T K qa cpS tl2_118 := z_119
      exfalso; omega

theorem dL_refuses_294 : decode cL_refuses 294 = .ok (.aload_n 1, 1) := by decide +kernel
theorem dL_refuses_295 : decode cL_refuses 295 = .ok (.iconst 1, 1) := by decide +kernel
theorem dL_refuses_296 : decode cL_refuses 296 = .ok (.iaload, 1) := by decide +kernel
theorem dL_refuses_297 : decode cL_refuses 297 = .ok (.ifCond .le 18, 3) := by decide +kernel
theorem dL_refuses_300 : decode cL_refuses 300 = .ok (.aload_n 1, 1) := by decide +kernel
theorem dL_refuses_301 : decode cL_refuses 301 = .ok (.iconst 1, 1) := by decide +kernel
theorem dL_refuses_302 : decode cL_refuses 302 = .ok (.iaload, 1) := by decide +kernel
theorem dL_refuses_303 : decode cL_refuses 303 = .ok (.iconst 4, 1) := by decide +kernel
theorem dL_refuses_304 : decode cL_refuses 304 = .ok (.if_icmp .ge 11, 3) := by decide +kernel
theorem dL_refuses_307 : decode cL_refuses 307 = .ok (.aload_n 1, 1) := by decide +kernel
theorem dL_refuses_308 : decode cL_refuses 308 = .ok (.iconst 3, 1) := by decide +kernel
theorem dL_refuses_309 : decode cL_refuses 309 = .ok (.iaload, 1) := by decide +kernel
theorem dL_refuses_310 : decode cL_refuses 310 = .ok (.bipush 8, 2) := by decide +kernel
theorem dL_refuses_312 : decode cL_refuses 312 = .ok (.if_icmp .lt 14, 3) := by decide +kernel
theorem dL_refuses_315 : decode cL_refuses 315 = .ok (.aload_n 0, 1) := by decide +kernel
theorem dL_refuses_316 : decode cL_refuses 316 = .ok (.iconst 0, 1) := by decide +kernel
theorem dL_refuses_317 : decode cL_refuses 317 = .ok (.iconst 1, 1) := by decide +kernel
theorem dL_refuses_318 : decode cL_refuses 318 = .ok (.invokestatic 149, 3) := by decide +kernel
theorem dL_refuses_321 : decode cL_refuses 321 = .ok (.ldc 18, 2) := by decide +kernel
theorem dL_refuses_323 : decode cL_refuses 323 = .ok (.if_icmp .ne 311, 3) := by decide +kernel
set_option maxHeartbeats 4000000 in
set_option maxRecDepth 100000 in
theorem w_refuses_c244_2 (l : Launch) (dC : Nat → ClassId) (dI : Nat → Nat → Nat) (k : Nat → ClassId) (hl0 : l.stackTraces = false) (T : Nat → Int → Int → Int → Int) (K : Nat → Int → Int) (qa : Nat) (cp : Nat) (tl : va_W) (na : Nat) (nf : Int → Int) (xx : Int) (cpS : Nat) (tlS : va_W) (hc0 : 512 ≤ cp ∧ cp ≤ 131072) (hPS : PS dI k T K qa cpS tlS) (hQ : OKT T K) (hx9 : 0 ≤ xx ∧ xx < 9973) (hn9 : nf 0 = T 0 0 0 0 ∧ nf 1 = K 0 0 ∧ nf 2 = T 12 0 0 0 ∧ nf 3 = T 18 0 0 0) (hcS : cp ≤ cpS ∧ cpS ≤ 131072) {p : Program} {e : Env} {s : State} {m : MethodId} {args : Array Value} {below : List Frame} {meth : Method} {c : Code} {H : Heap} {locs : List Loc} {ls : Array Slot} (B : bd p s m args meth c cL_refuses 11 yL_refuses.cls dC dI k (va_A ([(na, .inl (k 0, 4, .inl (fun i9 : Nat => iI (nf i9))))] ++ tl) s.heap.size) ([(na, .inl (k 0, 4, .inl (fun i9 : Nat => iI (nf i9))))] ++ tlS) H locs) (hr : meth.sig.returnType = (some .boolean)) (hl : lv_has ls 11 [(6, .int (iI ((T 12 0 0 0) + (xx % 50)))), (5, .int (iI ((T 0 0 0 0) + (xx % 50)))), (4, .int (iI (2 + (xx % 50)))), (3, .int (iI 0)), (0, .ref qa), (1, .ref na), (2, .int (iI xx))]) : W p l e ({ frames := 16, cells := ((131072 - cp) + 129), slots := ((12 * (131072 - cp)) + 1266), locals := 495 } : Room) s m args below meth c H locs ((cpS - cp) + 8) ((12 * (cpS - cp)) + 48) (MQ below (Qk dC dI ([(na, .inl (k 0, 4, .inl (fun i9 : Nat => iI (nf i9))))] ++ tl) s.heap.size (fun r w gc gs => (∃ (cp2 : Nat) (tl2 : va_W), (PS dI k T K qa cp2 tl2) ∧ (cp ≤ cp2 ∧ cp2 ≤ 131072) ∧ r = some (.int (iI 1)) ∧ w = ([(na, .inl (k 0, 4, .inl (fun i9 : Nat => iI (nf i9))))] ++ tl2) ∧ gc = ((cp2 - cp) + 129) ∧ gs = ((12 * (cp2 - cp)) + 1266)))) args s ({ frames := 16, cells := ((131072 - cp) + 129), slots := ((12 * (131072 - cp)) + 1266), locals := 495 } : Room).cells ({ frames := 16, cells := ((131072 - cp) + 129), slots := ((12 * (131072 - cp)) + 1266), locals := 495 } : Room).slots (va_A ([(na, .inl (k 0, 4, .inl (fun i9 : Nat => iI (nf i9))))] ++ tl) s.heap.size)) (F0 m 244 ls []) := by
  have hx := B.1.1
  have hb := B.1.2.1
  have hcp9 := PS_cp hPS
  have hn0 := TK_nb hQ.1
  have hk0 := hQ.2.1.1
  have hf0 := TK_fc hQ.1
  have hp0 := TK_np hQ.1
  have hm0 : lmZ 0 = 1 := rfl
  have hm1 : lmZ 1 = 0 := rfl
  have hm2 : lmZ 2 = 0 := rfl
  have hm3 : lmZ 3 = 0 := rfl
  have hm4 : lmZ 4 = 0 := rfl
  have hm5 : mmZ T 0 = 5 := rfl
  have hm6 : mmZ T 1 = T 12 0 0 0 - 1 := rfl
  have hm7 : mmZ T 2 = 5 := rfl
  have hm8 : mmZ T 3 = 7 := rfl
  have hm9 : mmZ T 4 = 1 := rfl
  refine lv_aload_n hx hb dL_refuses_244 rfl (lv_at hl 4 rfl) ?_
  refine lv_iload_n hx hb dL_refuses_245 rfl (lv_at hl 3 rfl) ?_
  refine lv_if_eq (tgt := 255) hx hb dL_refuses_246 (by decide) (fun _ => ?_) (fun c9 => absurd (by decide) c9)
  refine lv_aload_n hx hb dL_refuses_255 rfl (lv_at hl 5 rfl) ?_
  refine lv_iconst (v := iI 1) hx hb dL_refuses_256 (by decide) ?_
  refine x_iald' (f := nf) (z := 1) B 0 rfl (by omega) dL_refuses_257 ?_
  refine lv_seti (y := iI (K 0 0)) (congrArg iI (show nf 1 = K 0 0 from hn9.2.1)) ?_
  refine lv_iconst (v := iI 1) hx hb dL_refuses_258 (by decide) ?_
  refine y_add hx hb dL_refuses_259 ?_
  refine lv_iload_n hx hb dL_refuses_260 rfl (lv_at hl 6 rfl) ?_
  refine y_add hx hb dL_refuses_261 ?_
  refine lv_iconst (v := iI 1) hx hb dL_refuses_262 (by decide) ?_
  have B := bd_swap (a := []) (b := [(na, .inl (k 0, 4, .inl (fun i9 : Nat => iI (nf i9))))]) (d := tlS) (bd_to rfl B)
  refine k_W (rest := []) (wc := ([] ++ tlS)) (wr := [(na, .inl (k 0, 4, .inl (fun i9 : Nat => iI (nf i9))))]) (w_patterns l dC dI k hl0 T K qa cpS tlS (((K 0 0) + 1) + xx) 1 hPS hQ (by omega) (by omega)) B mW_L_patterns mw_628 hl ⟨Nat.le_of_ble_eq_true rfl, Nat.le_of_ble_eq_true rfl⟩ (Nat.le_of_ble_eq_true rfl) rfl dL_refuses_263 ⟨by dsimp only; omega, by dsimp only; omega⟩ (fun r w gc gs H locs hp B => ?_)
  rcases hp with ⟨tl2_66, z_67, z_68, rfl, hw9, rfl, rfl⟩ | ⟨tl2_69, z_70, z_71, rfl, hw9, rfl, rfl⟩ | ⟨tl2_72, z_73, z_74, rfl, hw9, rfl, rfl⟩
  · skip
    rw [hw9] at B; clear hw9
    have B := bd_to (ws' := ([(na, .inl (k 0, 4, .inl (fun i9 : Nat => iI (nf i9))))] ++ tl2_66)) rfl B
    have hPS : PS dI k (gpT (apT T (Int.toNat (K 0 0)) (spF K) (((K 0 0) + 1) + xx) 1) (T 0 0 0 0) 0) (KKn 0 (K 1) (K 2)) qa cpS tl2_66 := z_67
    exfalso; omega
  · skip
    rw [hw9] at B; clear hw9
    have B := bd_to (ws' := ([(na, .inl (k 0, 4, .inl (fun i9 : Nat => iI (nf i9))))] ++ tl2_69)) rfl B
    have hPS : PS dI k T K qa cpS tl2_69 := z_70
    refine W.widen (k := ((cpS - cp) + 11)) (n := ((12 * (cpS - cp)) + 98)) (by omega) (by omega) ?_
    refine lv_ldc (v := (-2000000002)) hx hb B.1.2.2.2.1 (B.1.2.2.2.2.1 _ mw_627) dL_refuses_266 ?_
    refine lv_seti (y := iI (-2000000002)) (by decide) ?_
    refine lv_icmp_ne (tgt := 634) hx hb dL_refuses_268 (by decide) (fun c9 => absurd c9 (by decide)) (fun _ => ?_)
    refine lv_aload_n hx hb dL_refuses_271 rfl (lv_at hl 4 rfl) ?_
    refine lv_iconst (v := iI 0) hx hb dL_refuses_272 (by decide) ?_
    refine lv_iload_n hx hb dL_refuses_273 rfl (lv_at hl 3 rfl) ?_
    refine lv_if_eq (tgt := 282) hx hb dL_refuses_274 (by decide) (fun _ => ?_) (fun c9 => absurd (by decide) c9)
    refine lv_bipush (v := iI 6) hx hb dL_refuses_282 (by decide) ?_
    refine lv_iload_n hx hb dL_refuses_284 rfl (lv_at hl 6 rfl) ?_
    refine y_add hx hb dL_refuses_285 ?_
    have B := bd_swap (a := []) (b := [(na, .inl (k 0, 4, .inl (fun i9 : Nat => iI (nf i9))))]) (d := tl2_69) (bd_to rfl B)
    refine k_W (rest := []) (wc := ([] ++ tl2_69)) (wr := [(na, .inl (k 0, 4, .inl (fun i9 : Nat => iI (nf i9))))]) (w_patterns l dC dI k hl0 T K qa cpS tl2_69 0 (6 + xx) z_70 hQ (by omega) (by omega)) B mW_L_patterns mw_628 hl ⟨Nat.le_of_ble_eq_true rfl, Nat.le_of_ble_eq_true rfl⟩ (Nat.le_of_ble_eq_true rfl) rfl dL_refuses_286 ⟨by dsimp only; omega, by dsimp only; omega⟩ (fun r w gc gs H locs hp B => ?_)
    rcases hp with ⟨tl2_75, z_76, z_77, rfl, hw9, rfl, rfl⟩ | ⟨tl2_78, z_79, z_80, rfl, hw9, rfl, rfl⟩ | ⟨tl2_81, z_82, z_83, rfl, hw9, rfl, rfl⟩
    · skip
      rw [hw9] at B; clear hw9
      have B := bd_to (ws' := ([(na, .inl (k 0, 4, .inl (fun i9 : Nat => iI (nf i9))))] ++ tl2_75)) rfl B
      have hPS : PS dI k (gpT (apT T (Int.toNat (K 0 0)) (spF K) 0 (6 + xx)) (T 0 0 0 0) 0) (KKn 0 (K 1) (K 2)) qa cpS tl2_75 := z_76
      exfalso; omega
    · skip
      rw [hw9] at B; clear hw9
      have B := bd_to (ws' := ([(na, .inl (k 0, 4, .inl (fun i9 : Nat => iI (nf i9))))] ++ tl2_78)) rfl B
      have hPS : PS dI k T K qa cpS tl2_78 := z_79
      refine W.widen (k := ((cpS - cp) + 14)) (n := ((12 * (cpS - cp)) + 148)) (by omega) (by omega) ?_
      refine lv_ldc (v := (-2000000002)) hx hb B.1.2.2.2.1 (B.1.2.2.2.2.1 _ mw_627) dL_refuses_289 ?_
      refine lv_seti (y := iI (-2000000002)) (by decide) ?_
      refine lv_icmp_ne (tgt := 634) hx hb dL_refuses_291 (by decide) (fun c9 => absurd c9 (by decide)) (fun _ => ?_)
      refine k_joinG (σ := Nat × va_W) B 326 (fun g9 : Nat × va_W => (PS dI k T K qa g9.1 g9.2) ∧ (cp ≤ g9.1 ∧ g9.1 ≤ 131072)) (fun g9 : Nat × va_W => [(6, .int (iI ((T 12 0 0 0) + (xx % 50)))), (5, .int (iI ((T 0 0 0 0) + (xx % 50)))), (4, .int (iI (2 + (xx % 50)))), (3, .int (iI 0)), (0, .ref qa), (1, .ref na), (2, .int (iI xx))]) (fun g9 : Nat × va_W => ([(na, .inl (k 0, 4, .inl (fun i9 : Nat => iI (nf i9))))] ++ g9.2)) (fun g9 : Nat × va_W => ((g9.1 - cp) + 17)) (fun g9 : Nat × va_W => ((12 * (g9.1 - cp)) + 198)) (fun g9 : Nat × va_W => []) ?_ (fun J_84 => ?_)
      · clear hl B
        rintro ⟨cpB, tlB⟩ ⟨hPS, hcB⟩ ls H locs hl B
        have hPS : PS dI k T K qa cpB tlB := hPS
        have hcB : cp ≤ cpB ∧ cpB ≤ 131072 := hcB
        show W p l e _ s m args below meth c H locs (((cpB - cp) + 17)) (((12 * (cpB - cp)) + 198)) _ _
        have hl : lv_has ls 11 [(6, .int (iI ((T 12 0 0 0) + (xx % 50)))), (5, .int (iI ((T 0 0 0 0) + (xx % 50)))), (4, .int (iI (2 + (xx % 50)))), (3, .int (iI 0)), (0, .ref qa), (1, .ref na), (2, .int (iI xx))] := hl
        have B := bd_to (ws' := ([(na, .inl (k 0, 4, .inl (fun i9 : Nat => iI (nf i9))))] ++ tlB)) rfl B
        refine lv_aload_n hx hb dL_refuses_326 rfl (lv_at hl 4 rfl) ?_
        refine lv_iload hx hb dL_refuses_327 (lv_at hl 1 rfl) ?_
        refine lv_iconst (v := iI 0) hx hb dL_refuses_329 (by decide) ?_
        have B := bd_swap (a := []) (b := [(na, .inl (k 0, 4, .inl (fun i9 : Nat => iI (nf i9))))]) (d := tlB) (bd_to rfl B)
        refine k_W (rest := []) (wc := ([] ++ tlB)) (wr := [(na, .inl (k 0, 4, .inl (fun i9 : Nat => iI (nf i9))))]) (w_words l dC dI k hl0 T K qa cpB tlB ((T 0 0 0 0) + (xx % 50)) 0 hPS hQ (by omega) (by omega)) B mW_L_words mw_777 hl ⟨Nat.le_of_ble_eq_true rfl, Nat.le_of_ble_eq_true rfl⟩ (Nat.le_of_ble_eq_true rfl) rfl dL_refuses_330 ⟨by dsimp only; omega, by dsimp only; omega⟩ (fun r w gc gs H locs hp B => ?_)
        rcases hp with ⟨tl2_85, z_86, z_87, rfl, hw9, rfl, rfl⟩ | ⟨tl2_88, z_89, z_90, rfl, hw9, rfl, rfl⟩ | ⟨tl2_91, z_92, z_93, rfl, hw9, rfl, rfl⟩
        · skip
          rw [hw9] at B; clear hw9
          have B := bd_to (ws' := ([(na, .inl (k 0, 4, .inl (fun i9 : Nat => iI (nf i9))))] ++ tl2_85)) rfl B
          have hPS : PS dI k (puT T ((T 0 0 0 0) + (xx % 50)) 0 (Int.toNat (K 0 0)) (spF K) (-1) (K 2) (gsZ T (spF K) ((Int.toNat (K 0 0) : Nat) : Int))) (KKn 0 (K 1) (fun _ : Int => (-1))) qa cpB tl2_85 := z_86
          exfalso; omega
        · skip
          rw [hw9] at B; clear hw9
          have B := bd_to (ws' := ([(na, .inl (k 0, 4, .inl (fun i9 : Nat => iI (nf i9))))] ++ tl2_88)) rfl B
          have hPS : PS dI k T K qa cpB tl2_88 := z_89
          refine W.widen (k := ((cpB - cp) + 21)) (n := ((12 * (cpB - cp)) + 258)) (by omega) (by omega) ?_
          refine lv_ldc (v := (-2000000001)) hx hb B.1.2.2.2.1 (B.1.2.2.2.2.1 _ mw_593) dL_refuses_333 ?_
          refine lv_seti (y := iI (-2000000001)) (by decide) ?_
          refine lv_icmp_ne (tgt := 634) hx hb dL_refuses_335 (by decide) (fun c9 => absurd c9 (by decide)) (fun _ => ?_)
          refine lv_aload_n hx hb dL_refuses_338 rfl (lv_at hl 4 rfl) ?_
          refine lv_iload hx hb dL_refuses_339 (lv_at hl 1 rfl) ?_
          refine lv_iconst (v := iI 0) hx hb dL_refuses_341 (by decide) ?_
          refine lv_iconst (v := iI 0) hx hb dL_refuses_342 (by decide) ?_
          have B := bd_swap (a := []) (b := [(na, .inl (k 0, 4, .inl (fun i9 : Nat => iI (nf i9))))]) (d := tl2_88) (bd_to rfl B)
          refine k_W (rest := []) (wc := ([] ++ tl2_88)) (wr := [(na, .inl (k 0, 4, .inl (fun i9 : Nat => iI (nf i9))))]) (w_refers l dC dI k hl0 T K qa cpB tl2_88 ((T 0 0 0 0) + (xx % 50)) 0 0 z_89 hQ (by omega) (by omega) (by omega)) B mW_L_refers mw_1090 hl ⟨Nat.le_of_ble_eq_true rfl, Nat.le_of_ble_eq_true rfl⟩ (Nat.le_of_ble_eq_true rfl) rfl dL_refuses_343 ⟨by dsimp only; omega, by dsimp only; omega⟩ (fun r w gc gs H locs hp B => ?_)
          rcases hp with ⟨tl2_94, z_95, z_96, rfl, hw9, rfl, rfl⟩ | ⟨tl2_97, z_98, z_99, rfl, hw9, rfl, rfl⟩ | ⟨tl2_100, z_101, z_102, rfl, hw9, rfl, rfl⟩
          · skip
            rw [hw9] at B; clear hw9
            have B := bd_to (ws' := ([(na, .inl (k 0, 4, .inl (fun i9 : Nat => iI (nf i9))))] ++ tl2_94)) rfl B
            have hPS : PS dI k (puT T ((T 0 0 0 0) + (xx % 50)) 0 0 (fun _ : Int => (0 : Int)) 0 (K 2) (gsZ T (fun _ : Int => (0 : Int)) ((0 : Nat) : Int))) (KKn (K 0 0) (K 1) (fun _ : Int => (-1))) qa cpB tl2_94 := z_95
            exfalso; omega
          · skip
            rw [hw9] at B; clear hw9
            have B := bd_to (ws' := ([(na, .inl (k 0, 4, .inl (fun i9 : Nat => iI (nf i9))))] ++ tl2_97)) rfl B
            have hPS : PS dI k T K qa cpB tl2_97 := z_98
            refine W.widen (k := ((cpB - cp) + 25)) (n := ((12 * (cpB - cp)) + 318)) (by omega) (by omega) ?_
            refine lv_ldc (v := (-2000000001)) hx hb B.1.2.2.2.1 (B.1.2.2.2.2.1 _ mw_593) dL_refuses_346 ?_
            refine lv_seti (y := iI (-2000000001)) (by decide) ?_
            refine lv_icmp_ne (tgt := 634) hx hb dL_refuses_348 (by decide) (fun c9 => absurd c9 (by decide)) (fun _ => ?_)
            exact w_refuses_c351_3 l dC dI k hl0 T K qa cp tl na nf xx cpB tl2_97 (by omega) hPS hQ hx9 hn9 (by omega)  (bd_to rfl B) hr hl
          · skip
            rw [hw9] at B; clear hw9
            have B := bd_to (ws' := ([(na, .inl (k 0, 4, .inl (fun i9 : Nat => iI (nf i9))))] ++ tl2_100)) rfl B
            have hPS : PS dI k T K qa cpB tl2_100 := z_101
            exfalso; omega
        · skip
          rw [hw9] at B; clear hw9
          have B := bd_to (ws' := ([(na, .inl (k 0, 4, .inl (fun i9 : Nat => iI (nf i9))))] ++ tl2_91)) rfl B
          have hPS : PS dI k T K qa cpB tl2_91 := z_92
          exfalso; omega
      refine lv_aload_n hx hb dL_refuses_294 rfl (lv_at hl 5 rfl) ?_
      refine lv_iconst (v := iI 1) hx hb dL_refuses_295 (by decide) ?_
      refine x_iald' (f := nf) (z := 1) B 0 rfl (by omega) dL_refuses_296 ?_
      refine lv_seti (y := iI (K 0 0)) (congrArg iI (show nf 1 = K 0 0 from hn9.2.1)) ?_
      refine lv_if_le (tgt := 315) hx hb dL_refuses_297 (by decide) (fun c_755 => ?_) (fun c_755 => ?_)
      · have zc_755 : (K 0 0) ≤ 0 := jle (a := (K 0 0)) (b := 0) (by omega) (by omega) c_755
        refine lv_aload_n hx hb dL_refuses_315 rfl (lv_at hl 4 rfl) ?_
        refine lv_iconst (v := iI 0) hx hb dL_refuses_316 (by decide) ?_
        refine lv_iconst (v := iI 1) hx hb dL_refuses_317 (by decide) ?_
        have B := bd_swap (a := []) (b := [(na, .inl (k 0, 4, .inl (fun i9 : Nat => iI (nf i9))))]) (d := tl2_78) (bd_to rfl B)
        refine k_W (rest := []) (wc := ([] ++ tl2_78)) (wr := [(na, .inl (k 0, 4, .inl (fun i9 : Nat => iI (nf i9))))]) (w_patterns l dC dI k hl0 T K qa cpS tl2_78 0 1 z_79 hQ (by omega) (by omega)) B mW_L_patterns mw_628 hl ⟨Nat.le_of_ble_eq_true rfl, Nat.le_of_ble_eq_true rfl⟩ (Nat.le_of_ble_eq_true rfl) rfl dL_refuses_318 ⟨by dsimp only; omega, by dsimp only; omega⟩ (fun r w gc gs H locs hp B => ?_)
        rcases hp with ⟨tl2_756, z_757, z_758, rfl, hw9, rfl, rfl⟩ | ⟨tl2_759, z_760, z_761, rfl, hw9, rfl, rfl⟩ | ⟨tl2_762, z_763, z_764, rfl, hw9, rfl, rfl⟩
        · skip
          rw [hw9] at B; clear hw9
          have B := bd_to (ws' := ([(na, .inl (k 0, 4, .inl (fun i9 : Nat => iI (nf i9))))] ++ tl2_756)) rfl B
          have hPS : PS dI k (gpT (apT T (Int.toNat (K 0 0)) (spF K) 0 1) (T 0 0 0 0) 0) (KKn 0 (K 1) (K 2)) qa cpS tl2_756 := z_757
          exfalso; omega
        · skip
          rw [hw9] at B; clear hw9
          have B := bd_to (ws' := ([(na, .inl (k 0, 4, .inl (fun i9 : Nat => iI (nf i9))))] ++ tl2_759)) rfl B
          have hPS : PS dI k T K qa cpS tl2_759 := z_760
          exfalso; omega
        · skip
          rw [hw9] at B; clear hw9
          have B := bd_to (ws' := ([(na, .inl (k 0, 4, .inl (fun i9 : Nat => iI (nf i9))))] ++ tl2_762)) rfl B
          have hPS : PS dI k T K qa cpS tl2_762 := z_763
          refine W.widen (k := ((cpS - cp) + 17)) (n := ((12 * (cpS - cp)) + 198)) (by omega) (by omega) ?_
          refine lv_ldc (v := (-2000000003)) hx hb B.1.2.2.2.1 (B.1.2.2.2.2.1 _ mw_594) dL_refuses_321 ?_
          refine lv_seti (y := iI (-2000000003)) (by decide) ?_
          refine lv_icmp_ne (tgt := 634) hx hb dL_refuses_323 (by decide) (fun c9 => absurd c9 (by decide)) (fun _ => ?_)
          refine W.widen (k := ((cpS - cp) + 17)) (n := ((12 * (cpS - cp)) + 198)) (by omega) (by omega) ?_
          exact J_84 (cpS, tl2_762) ⟨(show PS dI k T K qa cpS tl2_762 from hPS), (show cp ≤ cpS ∧ cpS ≤ 131072 from hcS)⟩ _ _ _ (lv_sub hl [0, 1, 2, 3, 4, 5, 6] rfl) (bd_to rfl B)
      · have zc_755 : 0 < (K 0 0) := jnle (a := (K 0 0)) (b := 0) (by omega) (by omega) c_755
        refine lv_aload_n hx hb dL_refuses_300 rfl (lv_at hl 5 rfl) ?_
        refine lv_iconst (v := iI 1) hx hb dL_refuses_301 (by decide) ?_
        refine x_iald' (f := nf) (z := 1) B 0 rfl (by omega) dL_refuses_302 ?_
        refine lv_seti (y := iI (K 0 0)) (congrArg iI (show nf 1 = K 0 0 from hn9.2.1)) ?_
        refine lv_iconst (v := iI 4) hx hb dL_refuses_303 (by decide) ?_
        refine lv_icmp_ge (tgt := 315) hx hb dL_refuses_304 (by decide) (fun c_765 => ?_) (fun c_765 => ?_)
        · have zc_765 : 4 ≤ (K 0 0) := jle (a := 4) (b := (K 0 0)) (by omega) (by omega) c_765
          refine lv_aload_n hx hb dL_refuses_315 rfl (lv_at hl 4 rfl) ?_
          refine lv_iconst (v := iI 0) hx hb dL_refuses_316 (by decide) ?_
          refine lv_iconst (v := iI 1) hx hb dL_refuses_317 (by decide) ?_
          have B := bd_swap (a := []) (b := [(na, .inl (k 0, 4, .inl (fun i9 : Nat => iI (nf i9))))]) (d := tl2_78) (bd_to rfl B)
          refine k_W (rest := []) (wc := ([] ++ tl2_78)) (wr := [(na, .inl (k 0, 4, .inl (fun i9 : Nat => iI (nf i9))))]) (w_patterns l dC dI k hl0 T K qa cpS tl2_78 0 1 z_79 hQ (by omega) (by omega)) B mW_L_patterns mw_628 hl ⟨Nat.le_of_ble_eq_true rfl, Nat.le_of_ble_eq_true rfl⟩ (Nat.le_of_ble_eq_true rfl) rfl dL_refuses_318 ⟨by dsimp only; omega, by dsimp only; omega⟩ (fun r w gc gs H locs hp B => ?_)
          rcases hp with ⟨tl2_766, z_767, z_768, rfl, hw9, rfl, rfl⟩ | ⟨tl2_769, z_770, z_771, rfl, hw9, rfl, rfl⟩ | ⟨tl2_772, z_773, z_774, rfl, hw9, rfl, rfl⟩
          · skip
            rw [hw9] at B; clear hw9
            have B := bd_to (ws' := ([(na, .inl (k 0, 4, .inl (fun i9 : Nat => iI (nf i9))))] ++ tl2_766)) rfl B
            have hPS : PS dI k (gpT (apT T (Int.toNat (K 0 0)) (spF K) 0 1) (T 0 0 0 0) 0) (KKn 0 (K 1) (K 2)) qa cpS tl2_766 := z_767
            exfalso; omega
          · skip
            rw [hw9] at B; clear hw9
            have B := bd_to (ws' := ([(na, .inl (k 0, 4, .inl (fun i9 : Nat => iI (nf i9))))] ++ tl2_769)) rfl B
            have hPS : PS dI k T K qa cpS tl2_769 := z_770
            exfalso; omega
          · skip
            rw [hw9] at B; clear hw9
            have B := bd_to (ws' := ([(na, .inl (k 0, 4, .inl (fun i9 : Nat => iI (nf i9))))] ++ tl2_772)) rfl B
            have hPS : PS dI k T K qa cpS tl2_772 := z_773
            refine W.widen (k := ((cpS - cp) + 17)) (n := ((12 * (cpS - cp)) + 198)) (by omega) (by omega) ?_
            refine lv_ldc (v := (-2000000003)) hx hb B.1.2.2.2.1 (B.1.2.2.2.2.1 _ mw_594) dL_refuses_321 ?_
            refine lv_seti (y := iI (-2000000003)) (by decide) ?_
            refine lv_icmp_ne (tgt := 634) hx hb dL_refuses_323 (by decide) (fun c9 => absurd c9 (by decide)) (fun _ => ?_)
            refine W.widen (k := ((cpS - cp) + 17)) (n := ((12 * (cpS - cp)) + 198)) (by omega) (by omega) ?_
            exact J_84 (cpS, tl2_772) ⟨(show PS dI k T K qa cpS tl2_772 from hPS), (show cp ≤ cpS ∧ cpS ≤ 131072 from hcS)⟩ _ _ _ (lv_sub hl [0, 1, 2, 3, 4, 5, 6] rfl) (bd_to rfl B)
        · have zc_765 : (K 0 0) < 4 := jnle (a := 4) (b := (K 0 0)) (by omega) (by omega) c_765
          refine lv_aload_n hx hb dL_refuses_307 rfl (lv_at hl 5 rfl) ?_
          refine lv_iconst (v := iI 3) hx hb dL_refuses_308 (by decide) ?_
          refine x_iald' (f := nf) (z := 3) B 0 rfl (by omega) dL_refuses_309 ?_
          refine lv_seti (y := iI (T 18 0 0 0)) (congrArg iI (show nf 3 = T 18 0 0 0 from hn9.2.2.2)) ?_
          refine lv_bipush (v := iI 8) hx hb dL_refuses_310 (by decide) ?_
          refine lv_icmp_lt (tgt := 326) hx hb dL_refuses_312 (by decide) (fun c_775 => ?_) (fun c_775 => ?_)
          · have zc_775 : (T 18 0 0 0) < 8 := jlt (a := (T 18 0 0 0)) (b := 8) (by omega) (by omega) c_775
            refine W.widen (k := ((cpS - cp) + 17)) (n := ((12 * (cpS - cp)) + 198)) (by omega) (by omega) ?_
            exact J_84 (cpS, tl2_78) ⟨(show PS dI k T K qa cpS tl2_78 from hPS), (show cp ≤ cpS ∧ cpS ≤ 131072 from hcS)⟩ _ _ _ (lv_sub hl [0, 1, 2, 3, 4, 5, 6] rfl) (bd_to rfl B)
          · have zc_775 : 8 ≤ (T 18 0 0 0) := jnlt (a := (T 18 0 0 0)) (b := 8) (by omega) (by omega) c_775
            refine lv_aload_n hx hb dL_refuses_315 rfl (lv_at hl 4 rfl) ?_
            refine lv_iconst (v := iI 0) hx hb dL_refuses_316 (by decide) ?_
            refine lv_iconst (v := iI 1) hx hb dL_refuses_317 (by decide) ?_
            have B := bd_swap (a := []) (b := [(na, .inl (k 0, 4, .inl (fun i9 : Nat => iI (nf i9))))]) (d := tl2_78) (bd_to rfl B)
            refine k_W (rest := []) (wc := ([] ++ tl2_78)) (wr := [(na, .inl (k 0, 4, .inl (fun i9 : Nat => iI (nf i9))))]) (w_patterns l dC dI k hl0 T K qa cpS tl2_78 0 1 z_79 hQ (by omega) (by omega)) B mW_L_patterns mw_628 hl ⟨Nat.le_of_ble_eq_true rfl, Nat.le_of_ble_eq_true rfl⟩ (Nat.le_of_ble_eq_true rfl) rfl dL_refuses_318 ⟨by dsimp only; omega, by dsimp only; omega⟩ (fun r w gc gs H locs hp B => ?_)
            rcases hp with ⟨tl2_776, z_777, z_778, rfl, hw9, rfl, rfl⟩ | ⟨tl2_779, z_780, z_781, rfl, hw9, rfl, rfl⟩ | ⟨tl2_782, z_783, z_784, rfl, hw9, rfl, rfl⟩
            · skip
              rw [hw9] at B; clear hw9
              have B := bd_to (ws' := ([(na, .inl (k 0, 4, .inl (fun i9 : Nat => iI (nf i9))))] ++ tl2_776)) rfl B
              have hPS : PS dI k (gpT (apT T (Int.toNat (K 0 0)) (spF K) 0 1) (T 0 0 0 0) 0) (KKn 0 (K 1) (K 2)) qa cpS tl2_776 := z_777
              exfalso; omega
            · skip
              rw [hw9] at B; clear hw9
              have B := bd_to (ws' := ([(na, .inl (k 0, 4, .inl (fun i9 : Nat => iI (nf i9))))] ++ tl2_779)) rfl B
              have hPS : PS dI k T K qa cpS tl2_779 := z_780
              exfalso; omega
            · skip
              rw [hw9] at B; clear hw9
              have B := bd_to (ws' := ([(na, .inl (k 0, 4, .inl (fun i9 : Nat => iI (nf i9))))] ++ tl2_782)) rfl B
              have hPS : PS dI k T K qa cpS tl2_782 := z_783
              refine W.widen (k := ((cpS - cp) + 17)) (n := ((12 * (cpS - cp)) + 198)) (by omega) (by omega) ?_
              refine lv_ldc (v := (-2000000003)) hx hb B.1.2.2.2.1 (B.1.2.2.2.2.1 _ mw_594) dL_refuses_321 ?_
              refine lv_seti (y := iI (-2000000003)) (by decide) ?_
              refine lv_icmp_ne (tgt := 634) hx hb dL_refuses_323 (by decide) (fun c9 => absurd c9 (by decide)) (fun _ => ?_)
              refine W.widen (k := ((cpS - cp) + 17)) (n := ((12 * (cpS - cp)) + 198)) (by omega) (by omega) ?_
              exact J_84 (cpS, tl2_782) ⟨(show PS dI k T K qa cpS tl2_782 from hPS), (show cp ≤ cpS ∧ cpS ≤ 131072 from hcS)⟩ _ _ _ (lv_sub hl [0, 1, 2, 3, 4, 5, 6] rfl) (bd_to rfl B)
    · skip
      rw [hw9] at B; clear hw9
      have B := bd_to (ws' := ([(na, .inl (k 0, 4, .inl (fun i9 : Nat => iI (nf i9))))] ++ tl2_81)) rfl B
      have hPS : PS dI k T K qa cpS tl2_81 := z_82
      exfalso; omega
  · skip
    rw [hw9] at B; clear hw9
    have B := bd_to (ws' := ([(na, .inl (k 0, 4, .inl (fun i9 : Nat => iI (nf i9))))] ++ tl2_72)) rfl B
    have hPS : PS dI k T K qa cpS tl2_72 := z_73
    exfalso; omega

set_option maxHeartbeats 4000000 in
set_option maxRecDepth 100000 in
theorem w_refuses_c144_1 (l : Launch) (dC : Nat → ClassId) (dI : Nat → Nat → Nat) (k : Nat → ClassId) (hl0 : l.stackTraces = false) (T : Nat → Int → Int → Int → Int) (K : Nat → Int → Int) (qa : Nat) (cp : Nat) (tl : va_W) (na : Nat) (nf : Int → Int) (xx : Int) (cpS : Nat) (tlS : va_W) (hc0 : 512 ≤ cp ∧ cp ≤ 131072) (hPS : PS dI k T K qa cpS tlS) (hQ : OKT T K) (hx9 : 0 ≤ xx ∧ xx < 9973) (hn9 : nf 0 = T 0 0 0 0 ∧ nf 1 = K 0 0 ∧ nf 2 = T 12 0 0 0 ∧ nf 3 = T 18 0 0 0) (hcS : cp ≤ cpS ∧ cpS ≤ 131072) {p : Program} {e : Env} {s : State} {m : MethodId} {args : Array Value} {below : List Frame} {meth : Method} {c : Code} {H : Heap} {locs : List Loc} {ls : Array Slot} (B : bd p s m args meth c cL_refuses 11 yL_refuses.cls dC dI k (va_A ([(na, .inl (k 0, 4, .inl (fun i9 : Nat => iI (nf i9))))] ++ tl) s.heap.size) ([(na, .inl (k 0, 4, .inl (fun i9 : Nat => iI (nf i9))))] ++ tlS) H locs) (hr : meth.sig.returnType = (some .boolean)) (hl : lv_has ls 11 [(6, .int (iI ((T 12 0 0 0) + (xx % 50)))), (5, .int (iI ((T 0 0 0 0) + (xx % 50)))), (4, .int (iI (2 + (xx % 50)))), (3, .int (iI 0)), (0, .ref qa), (1, .ref na), (2, .int (iI xx))]) : W p l e ({ frames := 16, cells := ((131072 - cp) + 129), slots := ((12 * (131072 - cp)) + 1266), locals := 495 } : Room) s m args below meth c H locs ((cpS - cp) + 3) ((12 * (cpS - cp)) + 18) (MQ below (Qk dC dI ([(na, .inl (k 0, 4, .inl (fun i9 : Nat => iI (nf i9))))] ++ tl) s.heap.size (fun r w gc gs => (∃ (cp2 : Nat) (tl2 : va_W), (PS dI k T K qa cp2 tl2) ∧ (cp ≤ cp2 ∧ cp2 ≤ 131072) ∧ r = some (.int (iI 1)) ∧ w = ([(na, .inl (k 0, 4, .inl (fun i9 : Nat => iI (nf i9))))] ++ tl2) ∧ gc = ((cp2 - cp) + 129) ∧ gs = ((12 * (cp2 - cp)) + 1266)))) args s ({ frames := 16, cells := ((131072 - cp) + 129), slots := ((12 * (131072 - cp)) + 1266), locals := 495 } : Room).cells ({ frames := 16, cells := ((131072 - cp) + 129), slots := ((12 * (131072 - cp)) + 1266), locals := 495 } : Room).slots (va_A ([(na, .inl (k 0, 4, .inl (fun i9 : Nat => iI (nf i9))))] ++ tl) s.heap.size)) (F0 m 144 ls []) := by
  have hx := B.1.1
  have hb := B.1.2.1
  have hcp9 := PS_cp hPS
  have hn0 := TK_nb hQ.1
  have hk0 := hQ.2.1.1
  have hf0 := TK_fc hQ.1
  have hp0 := TK_np hQ.1
  have hm0 : lmZ 0 = 1 := rfl
  have hm1 : lmZ 1 = 0 := rfl
  have hm2 : lmZ 2 = 0 := rfl
  have hm3 : lmZ 3 = 0 := rfl
  have hm4 : lmZ 4 = 0 := rfl
  have hm5 : mmZ T 0 = 5 := rfl
  have hm6 : mmZ T 1 = T 12 0 0 0 - 1 := rfl
  have hm7 : mmZ T 2 = 5 := rfl
  have hm8 : mmZ T 3 = 7 := rfl
  have hm9 : mmZ T 4 = 1 := rfl
  refine lv_aload_n hx hb dL_refuses_144 rfl (lv_at hl 4 rfl) ?_
  refine lv_iconst (v := iI 0) hx hb dL_refuses_145 (by decide) ?_
  refine lv_iload_n hx hb dL_refuses_146 rfl (lv_at hl 3 rfl) ?_
  refine lv_if_eq (tgt := 154) hx hb dL_refuses_147 (by decide) (fun _ => ?_) (fun c9 => absurd (by decide) c9)
  refine lv_bipush (v := iI 6) hx hb dL_refuses_154 (by decide) ?_
  refine lv_iload_n hx hb dL_refuses_156 rfl (lv_at hl 6 rfl) ?_
  refine y_add hx hb dL_refuses_157 ?_
  have B := bd_swap (a := []) (b := [(na, .inl (k 0, 4, .inl (fun i9 : Nat => iI (nf i9))))]) (d := tlS) (bd_to rfl B)
  refine k_W (rest := []) (wc := ([] ++ tlS)) (wr := [(na, .inl (k 0, 4, .inl (fun i9 : Nat => iI (nf i9))))]) (w_marks l dC dI k hl0 T K qa cpS tlS 0 (6 + xx) hPS hQ (by omega) (by omega)) B mW_L_marks mw_595 hl ⟨Nat.le_of_ble_eq_true rfl, Nat.le_of_ble_eq_true rfl⟩ (Nat.le_of_ble_eq_true rfl) rfl dL_refuses_158 ⟨by dsimp only; omega, by dsimp only; omega⟩ (fun r w gc gs H locs hp B => ?_)
  rcases hp with ⟨tl2_21, z_22, z_23, rfl, hw9, rfl, rfl⟩ | ⟨tl2_24, z_25, z_26, rfl, hw9, rfl, rfl⟩ | ⟨tl2_27, z_28, z_29, rfl, hw9, rfl, rfl⟩
  · skip
    rw [hw9] at B; clear hw9
    have B := bd_to (ws' := ([(na, .inl (k 0, 4, .inl (fun i9 : Nat => iI (nf i9))))] ++ tl2_21)) rfl B
    have hPS : PS dI k T (KKn (K 0 0) (K 1) (uz (K 2) 0 (6 + xx))) qa cpS tl2_21 := z_22
    exfalso; omega
  · skip
    rw [hw9] at B; clear hw9
    have B := bd_to (ws' := ([(na, .inl (k 0, 4, .inl (fun i9 : Nat => iI (nf i9))))] ++ tl2_24)) rfl B
    have hPS : PS dI k T K qa cpS tl2_24 := z_25
    exfalso; omega
  · skip
    rw [hw9] at B; clear hw9
    have B := bd_to (ws' := ([(na, .inl (k 0, 4, .inl (fun i9 : Nat => iI (nf i9))))] ++ tl2_27)) rfl B
    have hPS : PS dI k T K qa cpS tl2_27 := z_28
    refine W.widen (k := ((cpS - cp) + 4)) (n := ((12 * (cpS - cp)) + 24)) (by omega) (by omega) ?_
    refine lv_ldc (v := (-2000000002)) hx hb B.1.2.2.2.1 (B.1.2.2.2.2.1 _ mw_627) dL_refuses_161 ?_
    refine lv_seti (y := iI (-2000000002)) (by decide) ?_
    refine lv_icmp_ne (tgt := 634) hx hb dL_refuses_163 (by decide) (fun c9 => absurd c9 (by decide)) (fun _ => ?_)
    refine lv_aload_n hx hb dL_refuses_166 rfl (lv_at hl 4 rfl) ?_
    refine lv_iconst (v := iI 1) hx hb dL_refuses_167 (by decide) ?_
    refine lv_iload_n hx hb dL_refuses_168 rfl (lv_at hl 3 rfl) ?_
    refine lv_if_eq (tgt := 179) hx hb dL_refuses_169 (by decide) (fun _ => ?_) (fun c9 => absurd (by decide) c9)
    refine lv_aload_n hx hb dL_refuses_179 rfl (lv_at hl 5 rfl) ?_
    refine lv_iconst (v := iI 2) hx hb dL_refuses_180 (by decide) ?_
    refine x_iald' (f := nf) (z := 2) B 0 rfl (by omega) dL_refuses_181 ?_
    refine lv_seti (y := iI (T 12 0 0 0)) (congrArg iI (show nf 2 = T 12 0 0 0 from hn9.2.2.1)) ?_
    refine lv_iload_n hx hb dL_refuses_182 rfl (lv_at hl 6 rfl) ?_
    refine y_add hx hb dL_refuses_183 ?_
    have B := bd_swap (a := []) (b := [(na, .inl (k 0, 4, .inl (fun i9 : Nat => iI (nf i9))))]) (d := tl2_27) (bd_to rfl B)
    refine k_W (rest := []) (wc := ([] ++ tl2_27)) (wr := [(na, .inl (k 0, 4, .inl (fun i9 : Nat => iI (nf i9))))]) (w_marks l dC dI k hl0 T K qa cpS tl2_27 1 ((T 12 0 0 0) + xx) z_28 hQ (by omega) (by omega)) B mW_L_marks mw_595 hl ⟨Nat.le_of_ble_eq_true rfl, Nat.le_of_ble_eq_true rfl⟩ (Nat.le_of_ble_eq_true rfl) rfl dL_refuses_184 ⟨by dsimp only; omega, by dsimp only; omega⟩ (fun r w gc gs H locs hp B => ?_)
    rcases hp with ⟨tl2_30, z_31, z_32, rfl, hw9, rfl, rfl⟩ | ⟨tl2_33, z_34, z_35, rfl, hw9, rfl, rfl⟩ | ⟨tl2_36, z_37, z_38, rfl, hw9, rfl, rfl⟩
    · skip
      rw [hw9] at B; clear hw9
      have B := bd_to (ws' := ([(na, .inl (k 0, 4, .inl (fun i9 : Nat => iI (nf i9))))] ++ tl2_30)) rfl B
      have hPS : PS dI k T (KKn (K 0 0) (K 1) (uz (K 2) 1 ((T 12 0 0 0) + xx))) qa cpS tl2_30 := z_31
      exfalso; omega
    · skip
      rw [hw9] at B; clear hw9
      have B := bd_to (ws' := ([(na, .inl (k 0, 4, .inl (fun i9 : Nat => iI (nf i9))))] ++ tl2_33)) rfl B
      have hPS : PS dI k T K qa cpS tl2_33 := z_34
      exfalso; omega
    · skip
      rw [hw9] at B; clear hw9
      have B := bd_to (ws' := ([(na, .inl (k 0, 4, .inl (fun i9 : Nat => iI (nf i9))))] ++ tl2_36)) rfl B
      have hPS : PS dI k T K qa cpS tl2_36 := z_37
      refine W.widen (k := ((cpS - cp) + 5)) (n := ((12 * (cpS - cp)) + 30)) (by omega) (by omega) ?_
      refine lv_ldc (v := (-2000000002)) hx hb B.1.2.2.2.1 (B.1.2.2.2.2.1 _ mw_627) dL_refuses_187 ?_
      refine lv_seti (y := iI (-2000000002)) (by decide) ?_
      refine lv_icmp_ne (tgt := 634) hx hb dL_refuses_189 (by decide) (fun c9 => absurd c9 (by decide)) (fun _ => ?_)
      refine lv_aload_n hx hb dL_refuses_192 rfl (lv_at hl 4 rfl) ?_
      refine lv_iconst (v := iI 2) hx hb dL_refuses_193 (by decide) ?_
      refine lv_iload_n hx hb dL_refuses_194 rfl (lv_at hl 3 rfl) ?_
      refine lv_if_eq (tgt := 205) hx hb dL_refuses_195 (by decide) (fun _ => ?_) (fun c9 => absurd (by decide) c9)
      refine lv_bipush (v := iI 6) hx hb dL_refuses_205 (by decide) ?_
      refine lv_iload_n hx hb dL_refuses_207 rfl (lv_at hl 6 rfl) ?_
      refine y_add hx hb dL_refuses_208 ?_
      have B := bd_swap (a := []) (b := [(na, .inl (k 0, 4, .inl (fun i9 : Nat => iI (nf i9))))]) (d := tl2_36) (bd_to rfl B)
      refine k_W (rest := []) (wc := ([] ++ tl2_36)) (wr := [(na, .inl (k 0, 4, .inl (fun i9 : Nat => iI (nf i9))))]) (w_marks l dC dI k hl0 T K qa cpS tl2_36 2 (6 + xx) z_37 hQ (by omega) (by omega)) B mW_L_marks mw_595 hl ⟨Nat.le_of_ble_eq_true rfl, Nat.le_of_ble_eq_true rfl⟩ (Nat.le_of_ble_eq_true rfl) rfl dL_refuses_209 ⟨by dsimp only; omega, by dsimp only; omega⟩ (fun r w gc gs H locs hp B => ?_)
      rcases hp with ⟨tl2_39, z_40, z_41, rfl, hw9, rfl, rfl⟩ | ⟨tl2_42, z_43, z_44, rfl, hw9, rfl, rfl⟩ | ⟨tl2_45, z_46, z_47, rfl, hw9, rfl, rfl⟩
      · skip
        rw [hw9] at B; clear hw9
        have B := bd_to (ws' := ([(na, .inl (k 0, 4, .inl (fun i9 : Nat => iI (nf i9))))] ++ tl2_39)) rfl B
        have hPS : PS dI k T (KKn (K 0 0) (K 1) (uz (K 2) 2 (6 + xx))) qa cpS tl2_39 := z_40
        exfalso; omega
      · skip
        rw [hw9] at B; clear hw9
        have B := bd_to (ws' := ([(na, .inl (k 0, 4, .inl (fun i9 : Nat => iI (nf i9))))] ++ tl2_42)) rfl B
        have hPS : PS dI k T K qa cpS tl2_42 := z_43
        exfalso; omega
      · skip
        rw [hw9] at B; clear hw9
        have B := bd_to (ws' := ([(na, .inl (k 0, 4, .inl (fun i9 : Nat => iI (nf i9))))] ++ tl2_45)) rfl B
        have hPS : PS dI k T K qa cpS tl2_45 := z_46
        refine W.widen (k := ((cpS - cp) + 6)) (n := ((12 * (cpS - cp)) + 36)) (by omega) (by omega) ?_
        refine lv_ldc (v := (-2000000002)) hx hb B.1.2.2.2.1 (B.1.2.2.2.2.1 _ mw_627) dL_refuses_212 ?_
        refine lv_seti (y := iI (-2000000002)) (by decide) ?_
        refine lv_icmp_ne (tgt := 634) hx hb dL_refuses_214 (by decide) (fun c9 => absurd c9 (by decide)) (fun _ => ?_)
        refine lv_aload_n hx hb dL_refuses_217 rfl (lv_at hl 4 rfl) ?_
        refine lv_iconst (v := iI 3) hx hb dL_refuses_218 (by decide) ?_
        refine lv_bipush (v := iI 8) hx hb dL_refuses_219 (by decide) ?_
        refine lv_iload_n hx hb dL_refuses_221 rfl (lv_at hl 6 rfl) ?_
        refine y_add hx hb dL_refuses_222 ?_
        have B := bd_swap (a := []) (b := [(na, .inl (k 0, 4, .inl (fun i9 : Nat => iI (nf i9))))]) (d := tl2_45) (bd_to rfl B)
        refine k_W (rest := []) (wc := ([] ++ tl2_45)) (wr := [(na, .inl (k 0, 4, .inl (fun i9 : Nat => iI (nf i9))))]) (w_marks l dC dI k hl0 T K qa cpS tl2_45 3 (8 + xx) z_46 hQ (by omega) (by omega)) B mW_L_marks mw_595 hl ⟨Nat.le_of_ble_eq_true rfl, Nat.le_of_ble_eq_true rfl⟩ (Nat.le_of_ble_eq_true rfl) rfl dL_refuses_223 ⟨by dsimp only; omega, by dsimp only; omega⟩ (fun r w gc gs H locs hp B => ?_)
        rcases hp with ⟨tl2_48, z_49, z_50, rfl, hw9, rfl, rfl⟩ | ⟨tl2_51, z_52, z_53, rfl, hw9, rfl, rfl⟩ | ⟨tl2_54, z_55, z_56, rfl, hw9, rfl, rfl⟩
        · skip
          rw [hw9] at B; clear hw9
          have B := bd_to (ws' := ([(na, .inl (k 0, 4, .inl (fun i9 : Nat => iI (nf i9))))] ++ tl2_48)) rfl B
          have hPS : PS dI k T (KKn (K 0 0) (K 1) (uz (K 2) 3 (8 + xx))) qa cpS tl2_48 := z_49
          exfalso; omega
        · skip
          rw [hw9] at B; clear hw9
          have B := bd_to (ws' := ([(na, .inl (k 0, 4, .inl (fun i9 : Nat => iI (nf i9))))] ++ tl2_51)) rfl B
          have hPS : PS dI k T K qa cpS tl2_51 := z_52
          exfalso; omega
        · skip
          rw [hw9] at B; clear hw9
          have B := bd_to (ws' := ([(na, .inl (k 0, 4, .inl (fun i9 : Nat => iI (nf i9))))] ++ tl2_54)) rfl B
          have hPS : PS dI k T K qa cpS tl2_54 := z_55
          refine W.widen (k := ((cpS - cp) + 7)) (n := ((12 * (cpS - cp)) + 42)) (by omega) (by omega) ?_
          refine lv_ldc (v := (-2000000002)) hx hb B.1.2.2.2.1 (B.1.2.2.2.2.1 _ mw_627) dL_refuses_226 ?_
          refine lv_seti (y := iI (-2000000002)) (by decide) ?_
          refine lv_icmp_ne (tgt := 634) hx hb dL_refuses_228 (by decide) (fun c9 => absurd c9 (by decide)) (fun _ => ?_)
          refine lv_aload_n hx hb dL_refuses_231 rfl (lv_at hl 4 rfl) ?_
          refine lv_iconst (v := iI 4) hx hb dL_refuses_232 (by decide) ?_
          refine lv_iconst (v := iI 2) hx hb dL_refuses_233 (by decide) ?_
          refine lv_iload_n hx hb dL_refuses_234 rfl (lv_at hl 6 rfl) ?_
          refine y_add hx hb dL_refuses_235 ?_
          have B := bd_swap (a := []) (b := [(na, .inl (k 0, 4, .inl (fun i9 : Nat => iI (nf i9))))]) (d := tl2_54) (bd_to rfl B)
          refine k_W (rest := []) (wc := ([] ++ tl2_54)) (wr := [(na, .inl (k 0, 4, .inl (fun i9 : Nat => iI (nf i9))))]) (w_marks l dC dI k hl0 T K qa cpS tl2_54 4 (2 + xx) z_55 hQ (by omega) (by omega)) B mW_L_marks mw_595 hl ⟨Nat.le_of_ble_eq_true rfl, Nat.le_of_ble_eq_true rfl⟩ (Nat.le_of_ble_eq_true rfl) rfl dL_refuses_236 ⟨by dsimp only; omega, by dsimp only; omega⟩ (fun r w gc gs H locs hp B => ?_)
          rcases hp with ⟨tl2_57, z_58, z_59, rfl, hw9, rfl, rfl⟩ | ⟨tl2_60, z_61, z_62, rfl, hw9, rfl, rfl⟩ | ⟨tl2_63, z_64, z_65, rfl, hw9, rfl, rfl⟩
          · skip
            rw [hw9] at B; clear hw9
            have B := bd_to (ws' := ([(na, .inl (k 0, 4, .inl (fun i9 : Nat => iI (nf i9))))] ++ tl2_57)) rfl B
            have hPS : PS dI k T (KKn (K 0 0) (K 1) (uz (K 2) 4 (2 + xx))) qa cpS tl2_57 := z_58
            exfalso; omega
          · skip
            rw [hw9] at B; clear hw9
            have B := bd_to (ws' := ([(na, .inl (k 0, 4, .inl (fun i9 : Nat => iI (nf i9))))] ++ tl2_60)) rfl B
            have hPS : PS dI k T K qa cpS tl2_60 := z_61
            exfalso; omega
          · skip
            rw [hw9] at B; clear hw9
            have B := bd_to (ws' := ([(na, .inl (k 0, 4, .inl (fun i9 : Nat => iI (nf i9))))] ++ tl2_63)) rfl B
            have hPS : PS dI k T K qa cpS tl2_63 := z_64
            refine W.widen (k := ((cpS - cp) + 8)) (n := ((12 * (cpS - cp)) + 48)) (by omega) (by omega) ?_
            refine lv_ldc (v := (-2000000002)) hx hb B.1.2.2.2.1 (B.1.2.2.2.2.1 _ mw_627) dL_refuses_239 ?_
            refine lv_seti (y := iI (-2000000002)) (by decide) ?_
            refine lv_icmp_ne (tgt := 634) hx hb dL_refuses_241 (by decide) (fun c9 => absurd c9 (by decide)) (fun _ => ?_)
            exact w_refuses_c244_2 l dC dI k hl0 T K qa cp tl na nf xx cpS tl2_63 (by omega) hPS hQ hx9 hn9 (by omega)  (bd_to rfl B) hr hl

theorem dL_refuses_6 : decode cL_refuses 6 = .ok (.iconst 1, 1) := by decide +kernel
theorem dL_refuses_7 : decode cL_refuses 7 = .ok (.goto 4, 3) := by decide +kernel
theorem dL_refuses_16 : decode cL_refuses 16 = .ok (.iconst (-1), 1) := by decide +kernel
theorem dL_refuses_17 : decode cL_refuses 17 = .ok (.iload_n 2, 1) := by decide +kernel
theorem dL_refuses_18 : decode cL_refuses 18 = .ok (.bipush 50, 2) := by decide +kernel
theorem dL_refuses_20 : decode cL_refuses 20 = .ok (.irem, 1) := by decide +kernel
theorem dL_refuses_21 : decode cL_refuses 21 = .ok (.isub, 1) := by decide +kernel
theorem dL_refuses_22 : decode cL_refuses 22 = .ok (.goto 9, 3) := by decide +kernel
theorem dL_refuses_37 : decode cL_refuses 37 = .ok (.iconst (-1), 1) := by decide +kernel
theorem dL_refuses_38 : decode cL_refuses 38 = .ok (.iload_n 2, 1) := by decide +kernel
theorem dL_refuses_39 : decode cL_refuses 39 = .ok (.bipush 50, 2) := by decide +kernel
theorem dL_refuses_41 : decode cL_refuses 41 = .ok (.irem, 1) := by decide +kernel
theorem dL_refuses_42 : decode cL_refuses 42 = .ok (.isub, 1) := by decide +kernel
theorem dL_refuses_43 : decode cL_refuses 43 = .ok (.goto 11, 3) := by decide +kernel
theorem dL_refuses_60 : decode cL_refuses 60 = .ok (.iconst (-1), 1) := by decide +kernel
theorem dL_refuses_61 : decode cL_refuses 61 = .ok (.iload_n 2, 1) := by decide +kernel
theorem dL_refuses_62 : decode cL_refuses 62 = .ok (.bipush 50, 2) := by decide +kernel
theorem dL_refuses_64 : decode cL_refuses 64 = .ok (.irem, 1) := by decide +kernel
theorem dL_refuses_65 : decode cL_refuses 65 = .ok (.isub, 1) := by decide +kernel
theorem dL_refuses_66 : decode cL_refuses 66 = .ok (.goto 11, 3) := by decide +kernel
theorem dL_refuses_84 : decode cL_refuses 84 = .ok (.iconst (-1), 1) := by decide +kernel
theorem dL_refuses_85 : decode cL_refuses 85 = .ok (.iload_n 2, 1) := by decide +kernel
theorem dL_refuses_86 : decode cL_refuses 86 = .ok (.isub, 1) := by decide +kernel
theorem dL_refuses_87 : decode cL_refuses 87 = .ok (.goto 6, 3) := by decide +kernel
theorem dL_refuses_101 : decode cL_refuses 101 = .ok (.aload_n 1, 1) := by decide +kernel
theorem dL_refuses_102 : decode cL_refuses 102 = .ok (.iconst 1, 1) := by decide +kernel
theorem dL_refuses_103 : decode cL_refuses 103 = .ok (.iaload, 1) := by decide +kernel
theorem dL_refuses_104 : decode cL_refuses 104 = .ok (.bipush 6, 2) := by decide +kernel
theorem dL_refuses_106 : decode cL_refuses 106 = .ok (.if_icmp .lt 15, 3) := by decide +kernel
theorem dL_refuses_109 : decode cL_refuses 109 = .ok (.aload_n 0, 1) := by decide +kernel
theorem dL_refuses_110 : decode cL_refuses 110 = .ok (.iload_n 2, 1) := by decide +kernel
theorem dL_refuses_111 : decode cL_refuses 111 = .ok (.iconst 4, 1) := by decide +kernel
theorem dL_refuses_112 : decode cL_refuses 112 = .ok (.irem, 1) := by decide +kernel
theorem dL_refuses_113 : decode cL_refuses 113 = .ok (.invokestatic 139, 3) := by decide +kernel
theorem dL_refuses_116 : decode cL_refuses 116 = .ok (.ldc 18, 2) := by decide +kernel
theorem dL_refuses_118 : decode cL_refuses 118 = .ok (.if_icmp .ne 516, 3) := by decide +kernel
theorem dL_refuses_126 : decode cL_refuses 126 = .ok (.iconst (-1), 1) := by decide +kernel
theorem dL_refuses_127 : decode cL_refuses 127 = .ok (.iload_n 2, 1) := by decide +kernel
theorem dL_refuses_128 : decode cL_refuses 128 = .ok (.isub, 1) := by decide +kernel
theorem dL_refuses_129 : decode cL_refuses 129 = .ok (.goto 6, 3) := by decide +kernel
theorem dL_refuses_150 : decode cL_refuses 150 = .ok (.iconst 0, 1) := by decide +kernel
theorem dL_refuses_151 : decode cL_refuses 151 = .ok (.goto 7, 3) := by decide +kernel
theorem dL_refuses_172 : decode cL_refuses 172 = .ok (.bipush (-2), 2) := by decide +kernel
theorem dL_refuses_174 : decode cL_refuses 174 = .ok (.iload_n 2, 1) := by decide +kernel
theorem dL_refuses_175 : decode cL_refuses 175 = .ok (.isub, 1) := by decide +kernel
theorem dL_refuses_176 : decode cL_refuses 176 = .ok (.goto 8, 3) := by decide +kernel
theorem dL_refuses_198 : decode cL_refuses 198 = .ok (.bipush (-2), 2) := by decide +kernel
theorem dL_refuses_200 : decode cL_refuses 200 = .ok (.iload_n 2, 1) := by decide +kernel
theorem dL_refuses_201 : decode cL_refuses 201 = .ok (.isub, 1) := by decide +kernel
theorem dL_refuses_202 : decode cL_refuses 202 = .ok (.goto 7, 3) := by decide +kernel
theorem dL_refuses_249 : decode cL_refuses 249 = .ok (.iconst (-1), 1) := by decide +kernel
theorem dL_refuses_250 : decode cL_refuses 250 = .ok (.iload_n 2, 1) := by decide +kernel
theorem dL_refuses_251 : decode cL_refuses 251 = .ok (.isub, 1) := by decide +kernel
theorem dL_refuses_252 : decode cL_refuses 252 = .ok (.goto 10, 3) := by decide +kernel
theorem dL_refuses_277 : decode cL_refuses 277 = .ok (.iload_n 2, 1) := by decide +kernel
theorem dL_refuses_278 : decode cL_refuses 278 = .ok (.ineg, 1) := by decide +kernel
theorem dL_refuses_279 : decode cL_refuses 279 = .ok (.goto 7, 3) := by decide +kernel
theorem dL_refuses_368 : decode cL_refuses 368 = .ok (.iconst (-1), 1) := by decide +kernel
theorem dL_refuses_369 : decode cL_refuses 369 = .ok (.iload_n 2, 1) := by decide +kernel
theorem dL_refuses_370 : decode cL_refuses 370 = .ok (.isub, 1) := by decide +kernel
theorem dL_refuses_371 : decode cL_refuses 371 = .ok (.goto 10, 3) := by decide +kernel
theorem dL_refuses_396 : decode cL_refuses 396 = .ok (.iconst (-1), 1) := by decide +kernel
theorem dL_refuses_397 : decode cL_refuses 397 = .ok (.iload_n 2, 1) := by decide +kernel
theorem dL_refuses_398 : decode cL_refuses 398 = .ok (.isub, 1) := by decide +kernel
theorem dL_refuses_399 : decode cL_refuses 399 = .ok (.goto 7, 3) := by decide +kernel
theorem dL_refuses_492 : decode cL_refuses 492 = .ok (.iload_n 2, 1) := by decide +kernel
theorem dL_refuses_493 : decode cL_refuses 493 = .ok (.ineg, 1) := by decide +kernel
theorem dL_refuses_494 : decode cL_refuses 494 = .ok (.goto 7, 3) := by decide +kernel
theorem dL_refuses_532 : decode cL_refuses 532 = .ok (.bipush 29, 2) := by decide +kernel
theorem dL_refuses_534 : decode cL_refuses 534 = .ok (.iload_n 2, 1) := by decide +kernel
theorem dL_refuses_535 : decode cL_refuses 535 = .ok (.isub, 1) := by decide +kernel
theorem dL_refuses_536 : decode cL_refuses 536 = .ok (.goto 7, 3) := by decide +kernel
theorem dL_refuses_560 : decode cL_refuses 560 = .ok (.iconst 5, 1) := by decide +kernel
theorem dL_refuses_561 : decode cL_refuses 561 = .ok (.iload_n 2, 1) := by decide +kernel
theorem dL_refuses_562 : decode cL_refuses 562 = .ok (.isub, 1) := by decide +kernel
theorem dL_refuses_563 : decode cL_refuses 563 = .ok (.goto 7, 3) := by decide +kernel
theorem dL_refuses_583 : decode cL_refuses 583 = .ok (.iconst (-1), 1) := by decide +kernel
theorem dL_refuses_584 : decode cL_refuses 584 = .ok (.iload_n 2, 1) := by decide +kernel
theorem dL_refuses_585 : decode cL_refuses 585 = .ok (.isub, 1) := by decide +kernel
theorem dL_refuses_586 : decode cL_refuses 586 = .ok (.goto 7, 3) := by decide +kernel
theorem dL_refuses_611 : decode cL_refuses 611 = .ok (.iconst (-1), 1) := by decide +kernel
theorem dL_refuses_612 : decode cL_refuses 612 = .ok (.iload_n 2, 1) := by decide +kernel
theorem dL_refuses_613 : decode cL_refuses 613 = .ok (.isub, 1) := by decide +kernel
theorem dL_refuses_614 : decode cL_refuses 614 = .ok (.goto 8, 3) := by decide +kernel
theorem dL_refuses_852 : decode cL_refuses 852 = .ok (.iload_n 2, 1) := by decide +kernel
theorem dL_refuses_853 : decode cL_refuses 853 = .ok (.ineg, 1) := by decide +kernel
theorem dL_refuses_854 : decode cL_refuses 854 = .ok (.goto 12, 3) := by decide +kernel
theorem dL_refuses_955 : decode cL_refuses 955 = .ok (.iconst (-1), 1) := by decide +kernel
theorem dL_refuses_956 : decode cL_refuses 956 = .ok (.iload_n 2, 1) := by decide +kernel
theorem dL_refuses_957 : decode cL_refuses 957 = .ok (.isub, 1) := by decide +kernel
theorem dL_refuses_958 : decode cL_refuses 958 = .ok (.goto 7, 3) := by decide +kernel
theorem dL_refuses_991 : decode cL_refuses 991 = .ok (.iconst (-1), 1) := by decide +kernel
theorem dL_refuses_992 : decode cL_refuses 992 = .ok (.iload_n 2, 1) := by decide +kernel
theorem dL_refuses_993 : decode cL_refuses 993 = .ok (.isub, 1) := by decide +kernel
theorem dL_refuses_994 : decode cL_refuses 994 = .ok (.goto 7, 3) := by decide +kernel
theorem dL_refuses_1027 : decode cL_refuses 1027 = .ok (.iconst (-1), 1) := by decide +kernel
theorem dL_refuses_1028 : decode cL_refuses 1028 = .ok (.iload_n 2, 1) := by decide +kernel
theorem dL_refuses_1029 : decode cL_refuses 1029 = .ok (.isub, 1) := by decide +kernel
theorem dL_refuses_1030 : decode cL_refuses 1030 = .ok (.goto 7, 3) := by decide +kernel
theorem dL_refuses_1129 : decode cL_refuses 1129 = .ok (.iconst (-1), 1) := by decide +kernel
theorem dL_refuses_1130 : decode cL_refuses 1130 = .ok (.iload_n 2, 1) := by decide +kernel
theorem dL_refuses_1131 : decode cL_refuses 1131 = .ok (.isub, 1) := by decide +kernel
theorem dL_refuses_1132 : decode cL_refuses 1132 = .ok (.goto 9, 3) := by decide +kernel
theorem dL_refuses_1186 : decode cL_refuses 1186 = .ok (.iconst (-1), 1) := by decide +kernel
theorem dL_refuses_1187 : decode cL_refuses 1187 = .ok (.iload_n 2, 1) := by decide +kernel
theorem dL_refuses_1188 : decode cL_refuses 1188 = .ok (.isub, 1) := by decide +kernel
theorem dL_refuses_1189 : decode cL_refuses 1189 = .ok (.goto 7, 3) := by decide +kernel
theorem dL_refuses_1216 : decode cL_refuses 1216 = .ok (.bipush (-2), 2) := by decide +kernel
theorem dL_refuses_1218 : decode cL_refuses 1218 = .ok (.iload_n 2, 1) := by decide +kernel
theorem dL_refuses_1219 : decode cL_refuses 1219 = .ok (.isub, 1) := by decide +kernel
theorem dL_refuses_1220 : decode cL_refuses 1220 = .ok (.goto 7, 3) := by decide +kernel
set_option maxHeartbeats 4000000 in
set_option maxRecDepth 100000 in
theorem w_refuses_c1314_28 (l : Launch) (dC : Nat → ClassId) (dI : Nat → Nat → Nat) (k : Nat → ClassId) (hl0 : l.stackTraces = false) (T : Nat → Int → Int → Int → Int) (K : Nat → Int → Int) (qa : Nat) (cp : Nat) (tl : va_W) (na : Nat) (nf : Int → Int) (xx : Int) (cpS : Nat) (tlS : va_W) (hc0 : 512 ≤ cp ∧ cp ≤ 131072) (hPS : PS dI k T K qa cpS tlS) (hQ : OKT T K) (hx9 : 0 ≤ xx ∧ xx < 9973) (hn9 : nf 0 = T 0 0 0 0 ∧ nf 1 = K 0 0 ∧ nf 2 = T 12 0 0 0 ∧ nf 3 = T 18 0 0 0) (hcS : cp ≤ cpS ∧ cpS ≤ 131072) (zc_1325 : 0 < (T 0 0 0 0)) (z_1326 : 0 ≤ ((xx / 50) % (T 0 0 0 0)) ∧ ((xx / 50) % (T 0 0 0 0)) < (T 0 0 0 0)) (z_1327 : 0 ≤ T 3 ((xx / 50) % (T 0 0 0 0)) 0 0 ∧ T 3 ((xx / 50) % (T 0 0 0 0)) 0 0 ≤ 12) (z_1332 : 0 ≤ ((xx / 50) % (T 0 0 0 0)) ∧ ((xx / 50) % (T 0 0 0 0)) < T 0 0 0 0) (z_1338 : 0 ≤ LCz T 0 (dgN T 0) ((xx / 50) % (T 0 0 0 0)) ∧ LCz T 0 (dgN T 0) ((xx / 50) % (T 0 0 0 0)) ≤ 48) {p : Program} {e : Env} {s : State} {m : MethodId} {args : Array Value} {below : List Frame} {meth : Method} {c : Code} {H : Heap} {locs : List Loc} {ls : Array Slot} (B : bd p s m args meth c cL_refuses 11 yL_refuses.cls dC dI k (va_A ([(na, .inl (k 0, 4, .inl (fun i9 : Nat => iI (nf i9))))] ++ tl) s.heap.size) ([(na, .inl (k 0, 4, .inl (fun i9 : Nat => iI (nf i9))))] ++ tlS) H locs) (hr : meth.sig.returnType = (some .boolean)) (hl : lv_has ls 11 [(10, .int (iI (LCz T 0 (dgN T 0) ((xx / 50) % (T 0 0 0 0))))), (9, .int (iI (T 3 ((xx / 50) % (T 0 0 0 0)) 0 0))), (8, .int (iI ((xx / 50) % (T 0 0 0 0)))), (7, .int (iI 1)), (6, .int (iI ((-1) - (xx % 50)))), (5, .int (iI ((-1) - (xx % 50)))), (4, .int (iI ((-1) - (xx % 50)))), (3, .int (iI 1)), (0, .ref qa), (1, .ref na), (2, .int (iI xx))]) : W p l e ({ frames := 16, cells := ((131072 - cp) + 129), slots := ((12 * (131072 - cp)) + 1266), locals := 495 } : Room) s m args below meth c H locs ((cpS - cp) + 119) ((12 * (cpS - cp)) + 1134) (MQ below (Qk dC dI ([(na, .inl (k 0, 4, .inl (fun i9 : Nat => iI (nf i9))))] ++ tl) s.heap.size (fun r w gc gs => (∃ (cp2 : Nat) (tl2 : va_W), (PS dI k T K qa cp2 tl2) ∧ (cp ≤ cp2 ∧ cp2 ≤ 131072) ∧ r = some (.int (iI 1)) ∧ w = ([(na, .inl (k 0, 4, .inl (fun i9 : Nat => iI (nf i9))))] ++ tl2) ∧ gc = ((cp2 - cp) + 129) ∧ gs = ((12 * (cp2 - cp)) + 1266)))) args s ({ frames := 16, cells := ((131072 - cp) + 129), slots := ((12 * (131072 - cp)) + 1266), locals := 495 } : Room).cells ({ frames := 16, cells := ((131072 - cp) + 129), slots := ((12 * (131072 - cp)) + 1266), locals := 495 } : Room).slots (va_A ([(na, .inl (k 0, 4, .inl (fun i9 : Nat => iI (nf i9))))] ++ tl) s.heap.size)) (F0 m 1314 ls []) := by
  have hx := B.1.1
  have hb := B.1.2.1
  have hcp9 := PS_cp hPS
  have hn0 := TK_nb hQ.1
  have hk0 := hQ.2.1.1
  have hf0 := TK_fc hQ.1
  have hp0 := TK_np hQ.1
  have hm0 : lmZ 0 = 1 := rfl
  have hm1 : lmZ 1 = 0 := rfl
  have hm2 : lmZ 2 = 0 := rfl
  have hm3 : lmZ 3 = 0 := rfl
  have hm4 : lmZ 4 = 0 := rfl
  have hm5 : mmZ T 0 = 5 := rfl
  have hm6 : mmZ T 1 = T 12 0 0 0 - 1 := rfl
  have hm7 : mmZ T 2 = 5 := rfl
  have hm8 : mmZ T 3 = 7 := rfl
  have hm9 : mmZ T 4 = 1 := rfl
  refine lv_aload_n hx hb dL_refuses_1314 rfl (lv_at hl 8 rfl) ?_
  refine lv_iload hx hb dL_refuses_1315 (lv_at hl 2 rfl) ?_
  refine lv_iconst (v := iI 4) hx hb dL_refuses_1317 (by decide) ?_
  refine lv_iload_n hx hb dL_refuses_1318 rfl (lv_at hl 10 rfl) ?_
  refine y_add hx hb dL_refuses_1319 ?_
  have z_1449 : 0 ≤ rcT T ((xx / 50) % (T 0 0 0 0)) ∧ rcT T ((xx / 50) % (T 0 0 0 0)) ≤ 4 := rcZ_in 12 (Nat.le_refl _)
  have B := bd_swap (a := []) (b := [(na, .inl (k 0, 4, .inl (fun i9 : Nat => iI (nf i9))))]) (d := tlS) (bd_to rfl B)
  refine k_W (rest := []) (wc := ([] ++ tlS)) (wr := [(na, .inl (k 0, 4, .inl (fun i9 : Nat => iI (nf i9))))]) (w_high l dC dI k hl0 T K qa cpS tlS ((xx / 50) % (T 0 0 0 0)) (4 + xx) hPS hQ (by omega) (by omega)) B mW_L_high mw_1348 hl ⟨Nat.le_of_ble_eq_true rfl, Nat.le_of_ble_eq_true rfl⟩ (Nat.le_of_ble_eq_true rfl) rfl dL_refuses_1320 ⟨by dsimp only; omega, by dsimp only; omega⟩ (fun r w gc gs H locs hp B => ?_)
  rcases hp with ⟨cp2_1450, tl2_1451, z_1452, z_1453, z_1454, rfl, hw9, rfl, rfl⟩ | ⟨cp2_1455, tl2_1456, z_1457, z_1458, z_1459, rfl, hw9, rfl, rfl⟩
  · skip
    rw [hw9] at B; clear hw9
    have B := bd_to (ws' := ([(na, .inl (k 0, 4, .inl (fun i9 : Nat => iI (nf i9))))] ++ tl2_1451)) rfl B
    have hPS : PS dI k T K qa cp2_1450 tl2_1451 := z_1452
    exfalso; omega
  · skip
    rw [hw9] at B; clear hw9
    have B := bd_to (ws' := ([(na, .inl (k 0, 4, .inl (fun i9 : Nat => iI (nf i9))))] ++ tl2_1456)) rfl B
    have hPS : PS dI k T K qa cp2_1455 tl2_1456 := z_1457
    refine W.widen (k := ((cp2_1455 - cp) + 120)) (n := ((12 * (cp2_1455 - cp)) + 1140)) (by omega) (by omega) ?_
    refine lv_ldc (v := (-2000000001)) hx hb B.1.2.2.2.1 (B.1.2.2.2.2.1 _ mw_593) dL_refuses_1323 ?_
    refine lv_seti (y := iI (-2000000001)) (by decide) ?_
    refine lv_icmp_ne (tgt := 1386) hx hb dL_refuses_1325 (by decide) (fun c9 => absurd c9 (by decide)) (fun _ => ?_)
    refine k_joinG (σ := Nat × va_W) B 1346 (fun g9 : Nat × va_W => (PS dI k T K qa g9.1 g9.2) ∧ (cp ≤ g9.1 ∧ g9.1 ≤ 131072)) (fun g9 : Nat × va_W => [(10, .int (iI (LCz T 0 (dgN T 0) ((xx / 50) % (T 0 0 0 0))))), (9, .int (iI (T 3 ((xx / 50) % (T 0 0 0 0)) 0 0))), (8, .int (iI ((xx / 50) % (T 0 0 0 0)))), (7, .int (iI 1)), (6, .int (iI ((-1) - (xx % 50)))), (5, .int (iI ((-1) - (xx % 50)))), (4, .int (iI ((-1) - (xx % 50)))), (3, .int (iI 1)), (0, .ref qa), (1, .ref na), (2, .int (iI xx))]) (fun g9 : Nat × va_W => ([(na, .inl (k 0, 4, .inl (fun i9 : Nat => iI (nf i9))))] ++ g9.2)) (fun g9 : Nat × va_W => ((g9.1 - cp) + 124)) (fun g9 : Nat × va_W => ((12 * (g9.1 - cp)) + 1200)) (fun g9 : Nat × va_W => []) ?_ (fun J_1460 => ?_)
    · clear hl B
      rintro ⟨cpE, tlE⟩ ⟨hPS, hcE⟩ ls H locs hl B
      have hPS : PS dI k T K qa cpE tlE := hPS
      have hcE : cp ≤ cpE ∧ cpE ≤ 131072 := hcE
      show W p l e _ s m args below meth c H locs (((cpE - cp) + 124)) (((12 * (cpE - cp)) + 1200)) _ _
      have hl : lv_has ls 11 [(10, .int (iI (LCz T 0 (dgN T 0) ((xx / 50) % (T 0 0 0 0))))), (9, .int (iI (T 3 ((xx / 50) % (T 0 0 0 0)) 0 0))), (8, .int (iI ((xx / 50) % (T 0 0 0 0)))), (7, .int (iI 1)), (6, .int (iI ((-1) - (xx % 50)))), (5, .int (iI ((-1) - (xx % 50)))), (4, .int (iI ((-1) - (xx % 50)))), (3, .int (iI 1)), (0, .ref qa), (1, .ref na), (2, .int (iI xx))] := hl
      have B := bd_to (ws' := ([(na, .inl (k 0, 4, .inl (fun i9 : Nat => iI (nf i9))))] ++ tlE)) rfl B
      refine k_joinG (σ := Nat × va_W) B 1366 (fun g9 : Nat × va_W => (PS dI k T K qa g9.1 g9.2) ∧ (cp ≤ g9.1 ∧ g9.1 ≤ 131072)) (fun g9 : Nat × va_W => [(10, .int (iI (LCz T 0 (dgN T 0) ((xx / 50) % (T 0 0 0 0))))), (9, .int (iI (T 3 ((xx / 50) % (T 0 0 0 0)) 0 0))), (8, .int (iI ((xx / 50) % (T 0 0 0 0)))), (7, .int (iI 1)), (6, .int (iI ((-1) - (xx % 50)))), (5, .int (iI ((-1) - (xx % 50)))), (4, .int (iI ((-1) - (xx % 50)))), (3, .int (iI 1)), (0, .ref qa), (1, .ref na), (2, .int (iI xx))]) (fun g9 : Nat × va_W => ([(na, .inl (k 0, 4, .inl (fun i9 : Nat => iI (nf i9))))] ++ g9.2)) (fun g9 : Nat × va_W => ((g9.1 - cp) + 128)) (fun g9 : Nat × va_W => ((12 * (g9.1 - cp)) + 1260)) (fun g9 : Nat × va_W => []) ?_ (fun J_1461 => ?_)
      · clear hl B
        rintro ⟨cpF, tlF⟩ ⟨hPS, hcF⟩ ls H locs hl B
        have hPS : PS dI k T K qa cpF tlF := hPS
        have hcF : cp ≤ cpF ∧ cpF ≤ 131072 := hcF
        show W p l e _ s m args below meth c H locs (((cpF - cp) + 128)) (((12 * (cpF - cp)) + 1260)) _ _
        have hl : lv_has ls 11 [(10, .int (iI (LCz T 0 (dgN T 0) ((xx / 50) % (T 0 0 0 0))))), (9, .int (iI (T 3 ((xx / 50) % (T 0 0 0 0)) 0 0))), (8, .int (iI ((xx / 50) % (T 0 0 0 0)))), (7, .int (iI 1)), (6, .int (iI ((-1) - (xx % 50)))), (5, .int (iI ((-1) - (xx % 50)))), (4, .int (iI ((-1) - (xx % 50)))), (3, .int (iI 1)), (0, .ref qa), (1, .ref na), (2, .int (iI xx))] := hl
        have B := bd_to (ws' := ([(na, .inl (k 0, 4, .inl (fun i9 : Nat => iI (nf i9))))] ++ tlF)) rfl B
        refine lv_aload_n hx hb dL_refuses_1366 rfl (lv_at hl 8 rfl) ?_
        refine lv_iconst (v := iI 1) hx hb dL_refuses_1367 (by decide) ?_
        refine lv_iload hx hb dL_refuses_1368 (lv_at hl 2 rfl) ?_
        refine lv_iload hx hb dL_refuses_1370 (lv_at hl 1 rfl) ?_
        refine lv_iload_n hx hb dL_refuses_1372 rfl (lv_at hl 10 rfl) ?_
        refine y_add hx hb dL_refuses_1373 ?_
        have B := bd_swap (a := []) (b := [(na, .inl (k 0, 4, .inl (fun i9 : Nat => iI (nf i9))))]) (d := tlF) (bd_to rfl B)
        refine k_W (rest := []) (wc := ([] ++ tlF)) (wr := [(na, .inl (k 0, 4, .inl (fun i9 : Nat => iI (nf i9))))]) (w_whereIs l dC dI k hl0 T K qa cpF tlF 1 ((xx / 50) % (T 0 0 0 0)) ((T 3 ((xx / 50) % (T 0 0 0 0)) 0 0) + xx) hPS hQ (by omega) (by omega) (by omega)) B mW_L_whereIs mw_1791 hl ⟨Nat.le_of_ble_eq_true rfl, Nat.le_of_ble_eq_true rfl⟩ (Nat.le_of_ble_eq_true rfl) rfl dL_refuses_1374 ⟨by dsimp only; omega, by dsimp only; omega⟩ (fun r w gc gs H locs hp B => ?_)
        rcases hp with ⟨cp2_1462, tl2_1463, z_1464, z_1465, z_1466, rfl, hw9, rfl, rfl⟩ | ⟨cp2_1467, tl2_1468, z_1469, z_1470, z_1471, rfl, hw9, rfl, rfl⟩
        · skip
          rw [hw9] at B; clear hw9
          have B := bd_to (ws' := ([(na, .inl (k 0, 4, .inl (fun i9 : Nat => iI (nf i9))))] ++ tl2_1463)) rfl B
          have hPS : PS dI k T K qa cp2_1462 tl2_1463 := z_1464
          exfalso; omega
        · skip
          rw [hw9] at B; clear hw9
          have B := bd_to (ws' := ([(na, .inl (k 0, 4, .inl (fun i9 : Nat => iI (nf i9))))] ++ tl2_1468)) rfl B
          have hPS : PS dI k T K qa cp2_1467 tl2_1468 := z_1469
          refine W.widen (k := ((cp2_1467 - cp) + 129)) (n := ((12 * (cp2_1467 - cp)) + 1266)) (by omega) (by omega) ?_
          refine lv_ldc (v := (-2000000001)) hx hb B.1.2.2.2.1 (B.1.2.2.2.2.1 _ mw_593) dL_refuses_1377 ?_
          refine lv_seti (y := iI (-2000000001)) (by decide) ?_
          refine lv_icmp_ne (tgt := 1386) hx hb dL_refuses_1379 (by decide) (fun c9 => absurd c9 (by decide)) (fun _ => ?_)
          refine lv_iconst (v := iI 1) hx hb dL_refuses_1382 (by decide) ?_
          refine lv_goto (tgt := 1387) hx hb dL_refuses_1383 (by decide) ?_
          refine lv_istore (lv' := [(7, .int (iI 1)), (10, .int (iI (LCz T 0 (dgN T 0) ((xx / 50) % (T 0 0 0 0))))), (9, .int (iI (T 3 ((xx / 50) % (T 0 0 0 0)) 0 0))), (8, .int (iI ((xx / 50) % (T 0 0 0 0)))), (6, .int (iI ((-1) - (xx % 50)))), (5, .int (iI ((-1) - (xx % 50)))), (4, .int (iI ((-1) - (xx % 50)))), (3, .int (iI 1)), (0, .ref qa), (1, .ref na), (2, .int (iI xx))]) hx hb dL_refuses_1387 hl (by decide) rfl (fun ls hl => ?_)
          refine lv_iload hx hb dL_refuses_1389 (lv_at hl 0 rfl) ?_
          exact k_zret B hr (by omega) (⟨cp2_1467, tl2_1468, z_1469, (by omega), rfl, rfl, rfl, rfl⟩) ⟨(by first | omega | (dsimp only; omega)), (by first | omega | (dsimp only; omega))⟩ ⟨(by first | omega | (dsimp only; omega)), (by first | omega | (dsimp only; omega))⟩ dL_refuses_1391
      refine lv_iload hx hb dL_refuses_1346 (lv_at hl 1 rfl) ?_
      refine lv_bipush (v := iI 12) hx hb dL_refuses_1348 (by decide) ?_
      refine lv_icmp_lt (tgt := 1366) hx hb dL_refuses_1350 (by decide) (fun c_1472 => ?_) (fun c_1472 => ?_)
      · have zc_1472 : (T 3 ((xx / 50) % (T 0 0 0 0)) 0 0) < 12 := jlt (a := (T 3 ((xx / 50) % (T 0 0 0 0)) 0 0)) (b := 12) (by omega) (by omega) c_1472
        refine W.widen (k := ((cpE - cp) + 128)) (n := ((12 * (cpE - cp)) + 1260)) (by omega) (by omega) ?_
        exact J_1461 (cpE, tlE) ⟨(show PS dI k T K qa cpE tlE from hPS), (show cp ≤ cpE ∧ cpE ≤ 131072 from hcE)⟩ _ _ _ (lv_sub hl [0, 1, 2, 3, 4, 5, 6, 7, 8, 9, 10] rfl) (bd_to rfl B)
      · have zc_1472 : 12 ≤ (T 3 ((xx / 50) % (T 0 0 0 0)) 0 0) := jnlt (a := (T 3 ((xx / 50) % (T 0 0 0 0)) 0 0)) (b := 12) (by omega) (by omega) c_1472
        refine lv_aload_n hx hb dL_refuses_1353 rfl (lv_at hl 8 rfl) ?_
        refine lv_iload hx hb dL_refuses_1354 (lv_at hl 2 rfl) ?_
        refine lv_iconst (v := iI 0) hx hb dL_refuses_1356 (by decide) ?_
        refine lv_iconst (v := iI 0) hx hb dL_refuses_1357 (by decide) ?_
        have B := bd_swap (a := []) (b := [(na, .inl (k 0, 4, .inl (fun i9 : Nat => iI (nf i9))))]) (d := tlE) (bd_to rfl B)
        refine k_W (rest := []) (wc := ([] ++ tlE)) (wr := [(na, .inl (k 0, 4, .inl (fun i9 : Nat => iI (nf i9))))]) (w_refers l dC dI k hl0 T K qa cpE tlE ((xx / 50) % (T 0 0 0 0)) 0 0 hPS hQ (by omega) (by omega) (by omega)) B mW_L_refers mw_1090 hl ⟨Nat.le_of_ble_eq_true rfl, Nat.le_of_ble_eq_true rfl⟩ (Nat.le_of_ble_eq_true rfl) rfl dL_refuses_1358 ⟨by dsimp only; omega, by dsimp only; omega⟩ (fun r w gc gs H locs hp B => ?_)
        rcases hp with ⟨tl2_1473, z_1474, z_1475, rfl, hw9, rfl, rfl⟩ | ⟨tl2_1476, z_1477, z_1478, rfl, hw9, rfl, rfl⟩ | ⟨tl2_1479, z_1480, z_1481, rfl, hw9, rfl, rfl⟩
        · skip
          rw [hw9] at B; clear hw9
          have B := bd_to (ws' := ([(na, .inl (k 0, 4, .inl (fun i9 : Nat => iI (nf i9))))] ++ tl2_1473)) rfl B
          have hPS : PS dI k (puT T ((xx / 50) % (T 0 0 0 0)) 0 0 (fun _ : Int => (0 : Int)) 0 (K 2) (gsZ T (fun _ : Int => (0 : Int)) ((0 : Nat) : Int))) (KKn (K 0 0) (K 1) (fun _ : Int => (-1))) qa cpE tl2_1473 := z_1474
          exfalso; omega
        · skip
          rw [hw9] at B; clear hw9
          have B := bd_to (ws' := ([(na, .inl (k 0, 4, .inl (fun i9 : Nat => iI (nf i9))))] ++ tl2_1476)) rfl B
          have hPS : PS dI k T K qa cpE tl2_1476 := z_1477
          exfalso; omega
        · skip
          rw [hw9] at B; clear hw9
          have B := bd_to (ws' := ([(na, .inl (k 0, 4, .inl (fun i9 : Nat => iI (nf i9))))] ++ tl2_1479)) rfl B
          have hPS : PS dI k T K qa cpE tl2_1479 := z_1480
          refine W.widen (k := ((cpE - cp) + 128)) (n := ((12 * (cpE - cp)) + 1260)) (by omega) (by omega) ?_
          refine lv_ldc (v := (-2000000003)) hx hb B.1.2.2.2.1 (B.1.2.2.2.2.1 _ mw_594) dL_refuses_1361 ?_
          refine lv_seti (y := iI (-2000000003)) (by decide) ?_
          refine lv_icmp_ne (tgt := 1386) hx hb dL_refuses_1363 (by decide) (fun c9 => absurd c9 (by decide)) (fun _ => ?_)
          refine W.widen (k := ((cpE - cp) + 128)) (n := ((12 * (cpE - cp)) + 1260)) (by omega) (by omega) ?_
          exact J_1461 (cpE, tl2_1479) ⟨(show PS dI k T K qa cpE tl2_1479 from hPS), (show cp ≤ cpE ∧ cpE ≤ 131072 from hcE)⟩ _ _ _ (lv_sub hl [0, 1, 2, 3, 4, 5, 6, 7, 8, 9, 10] rfl) (bd_to rfl B)
    refine lv_aload_n hx hb dL_refuses_1328 rfl (lv_at hl 9 rfl) ?_
    refine lv_iconst (v := iI 1) hx hb dL_refuses_1329 (by decide) ?_
    refine x_iald' (f := nf) (z := 1) B 0 rfl (by omega) dL_refuses_1330 ?_
    refine lv_seti (y := iI (K 0 0)) (congrArg iI (show nf 1 = K 0 0 from hn9.2.1)) ?_
    refine lv_if_gt (tgt := 1346) hx hb dL_refuses_1331 (by decide) (fun c_1482 => ?_) (fun c_1482 => ?_)
    · have zc_1482 : 0 < (K 0 0) := jlt (a := 0) (b := (K 0 0)) (by omega) (by omega) c_1482
      refine k_joinG (σ := Nat × va_W) B 1366 (fun g9 : Nat × va_W => (PS dI k T K qa g9.1 g9.2) ∧ (cp ≤ g9.1 ∧ g9.1 ≤ 131072)) (fun g9 : Nat × va_W => [(10, .int (iI (LCz T 0 (dgN T 0) ((xx / 50) % (T 0 0 0 0))))), (9, .int (iI (T 3 ((xx / 50) % (T 0 0 0 0)) 0 0))), (8, .int (iI ((xx / 50) % (T 0 0 0 0)))), (7, .int (iI 1)), (6, .int (iI ((-1) - (xx % 50)))), (5, .int (iI ((-1) - (xx % 50)))), (4, .int (iI ((-1) - (xx % 50)))), (3, .int (iI 1)), (0, .ref qa), (1, .ref na), (2, .int (iI xx))]) (fun g9 : Nat × va_W => ([(na, .inl (k 0, 4, .inl (fun i9 : Nat => iI (nf i9))))] ++ g9.2)) (fun g9 : Nat × va_W => ((g9.1 - cp) + 128)) (fun g9 : Nat × va_W => ((12 * (g9.1 - cp)) + 1260)) (fun g9 : Nat × va_W => []) ?_ (fun J_1483 => ?_)
      · clear hl B
        rintro ⟨cpF, tlF⟩ ⟨hPS, hcF⟩ ls H locs hl B
        have hPS : PS dI k T K qa cpF tlF := hPS
        have hcF : cp ≤ cpF ∧ cpF ≤ 131072 := hcF
        show W p l e _ s m args below meth c H locs (((cpF - cp) + 128)) (((12 * (cpF - cp)) + 1260)) _ _
        have hl : lv_has ls 11 [(10, .int (iI (LCz T 0 (dgN T 0) ((xx / 50) % (T 0 0 0 0))))), (9, .int (iI (T 3 ((xx / 50) % (T 0 0 0 0)) 0 0))), (8, .int (iI ((xx / 50) % (T 0 0 0 0)))), (7, .int (iI 1)), (6, .int (iI ((-1) - (xx % 50)))), (5, .int (iI ((-1) - (xx % 50)))), (4, .int (iI ((-1) - (xx % 50)))), (3, .int (iI 1)), (0, .ref qa), (1, .ref na), (2, .int (iI xx))] := hl
        have B := bd_to (ws' := ([(na, .inl (k 0, 4, .inl (fun i9 : Nat => iI (nf i9))))] ++ tlF)) rfl B
        refine lv_aload_n hx hb dL_refuses_1366 rfl (lv_at hl 8 rfl) ?_
        refine lv_iconst (v := iI 1) hx hb dL_refuses_1367 (by decide) ?_
        refine lv_iload hx hb dL_refuses_1368 (lv_at hl 2 rfl) ?_
        refine lv_iload hx hb dL_refuses_1370 (lv_at hl 1 rfl) ?_
        refine lv_iload_n hx hb dL_refuses_1372 rfl (lv_at hl 10 rfl) ?_
        refine y_add hx hb dL_refuses_1373 ?_
        have B := bd_swap (a := []) (b := [(na, .inl (k 0, 4, .inl (fun i9 : Nat => iI (nf i9))))]) (d := tlF) (bd_to rfl B)
        refine k_W (rest := []) (wc := ([] ++ tlF)) (wr := [(na, .inl (k 0, 4, .inl (fun i9 : Nat => iI (nf i9))))]) (w_whereIs l dC dI k hl0 T K qa cpF tlF 1 ((xx / 50) % (T 0 0 0 0)) ((T 3 ((xx / 50) % (T 0 0 0 0)) 0 0) + xx) hPS hQ (by omega) (by omega) (by omega)) B mW_L_whereIs mw_1791 hl ⟨Nat.le_of_ble_eq_true rfl, Nat.le_of_ble_eq_true rfl⟩ (Nat.le_of_ble_eq_true rfl) rfl dL_refuses_1374 ⟨by dsimp only; omega, by dsimp only; omega⟩ (fun r w gc gs H locs hp B => ?_)
        rcases hp with ⟨cp2_1484, tl2_1485, z_1486, z_1487, z_1488, rfl, hw9, rfl, rfl⟩ | ⟨cp2_1489, tl2_1490, z_1491, z_1492, z_1493, rfl, hw9, rfl, rfl⟩
        · skip
          rw [hw9] at B; clear hw9
          have B := bd_to (ws' := ([(na, .inl (k 0, 4, .inl (fun i9 : Nat => iI (nf i9))))] ++ tl2_1485)) rfl B
          have hPS : PS dI k T K qa cp2_1484 tl2_1485 := z_1486
          exfalso; omega
        · skip
          rw [hw9] at B; clear hw9
          have B := bd_to (ws' := ([(na, .inl (k 0, 4, .inl (fun i9 : Nat => iI (nf i9))))] ++ tl2_1490)) rfl B
          have hPS : PS dI k T K qa cp2_1489 tl2_1490 := z_1491
          refine W.widen (k := ((cp2_1489 - cp) + 129)) (n := ((12 * (cp2_1489 - cp)) + 1266)) (by omega) (by omega) ?_
          refine lv_ldc (v := (-2000000001)) hx hb B.1.2.2.2.1 (B.1.2.2.2.2.1 _ mw_593) dL_refuses_1377 ?_
          refine lv_seti (y := iI (-2000000001)) (by decide) ?_
          refine lv_icmp_ne (tgt := 1386) hx hb dL_refuses_1379 (by decide) (fun c9 => absurd c9 (by decide)) (fun _ => ?_)
          refine lv_iconst (v := iI 1) hx hb dL_refuses_1382 (by decide) ?_
          refine lv_goto (tgt := 1387) hx hb dL_refuses_1383 (by decide) ?_
          refine lv_istore (lv' := [(7, .int (iI 1)), (10, .int (iI (LCz T 0 (dgN T 0) ((xx / 50) % (T 0 0 0 0))))), (9, .int (iI (T 3 ((xx / 50) % (T 0 0 0 0)) 0 0))), (8, .int (iI ((xx / 50) % (T 0 0 0 0)))), (6, .int (iI ((-1) - (xx % 50)))), (5, .int (iI ((-1) - (xx % 50)))), (4, .int (iI ((-1) - (xx % 50)))), (3, .int (iI 1)), (0, .ref qa), (1, .ref na), (2, .int (iI xx))]) hx hb dL_refuses_1387 hl (by decide) rfl (fun ls hl => ?_)
          refine lv_iload hx hb dL_refuses_1389 (lv_at hl 0 rfl) ?_
          exact k_zret B hr (by omega) (⟨cp2_1489, tl2_1490, z_1491, (by omega), rfl, rfl, rfl, rfl⟩) ⟨(by first | omega | (dsimp only; omega)), (by first | omega | (dsimp only; omega))⟩ ⟨(by first | omega | (dsimp only; omega)), (by first | omega | (dsimp only; omega))⟩ dL_refuses_1391
      refine W.widen (k := ((cp2_1455 - cp) + 124)) (n := ((12 * (cp2_1455 - cp)) + 1200)) (by omega) (by omega) ?_
      exact J_1460 (cp2_1455, tl2_1456) ⟨(show PS dI k T K qa cp2_1455 tl2_1456 from hPS), (show cp ≤ cp2_1455 ∧ cp2_1455 ≤ 131072 from (by omega))⟩ _ _ _ (lv_sub hl [0, 1, 2, 3, 4, 5, 6, 7, 8, 9, 10] rfl) (bd_to rfl B)
    · have zc_1482 : (K 0 0) ≤ 0 := jnlt (a := 0) (b := (K 0 0)) (by omega) (by omega) c_1482
      refine lv_aload_n hx hb dL_refuses_1334 rfl (lv_at hl 8 rfl) ?_
      refine lv_iload hx hb dL_refuses_1335 (lv_at hl 2 rfl) ?_
      refine lv_iconst (v := iI 0) hx hb dL_refuses_1337 (by decide) ?_
      have B := bd_swap (a := []) (b := [(na, .inl (k 0, 4, .inl (fun i9 : Nat => iI (nf i9))))]) (d := tl2_1456) (bd_to rfl B)
      refine k_W (rest := []) (wc := ([] ++ tl2_1456)) (wr := [(na, .inl (k 0, 4, .inl (fun i9 : Nat => iI (nf i9))))]) (w_words l dC dI k hl0 T K qa cp2_1455 tl2_1456 ((xx / 50) % (T 0 0 0 0)) 0 z_1457 hQ (by omega) (by omega)) B mW_L_words mw_777 hl ⟨Nat.le_of_ble_eq_true rfl, Nat.le_of_ble_eq_true rfl⟩ (Nat.le_of_ble_eq_true rfl) rfl dL_refuses_1338 ⟨by dsimp only; omega, by dsimp only; omega⟩ (fun r w gc gs H locs hp B => ?_)
      rcases hp with ⟨tl2_1494, z_1495, z_1496, rfl, hw9, rfl, rfl⟩ | ⟨tl2_1497, z_1498, z_1499, rfl, hw9, rfl, rfl⟩ | ⟨tl2_1500, z_1501, z_1502, rfl, hw9, rfl, rfl⟩
      · skip
        rw [hw9] at B; clear hw9
        have B := bd_to (ws' := ([(na, .inl (k 0, 4, .inl (fun i9 : Nat => iI (nf i9))))] ++ tl2_1494)) rfl B
        have hPS : PS dI k (puT T ((xx / 50) % (T 0 0 0 0)) 0 (Int.toNat (K 0 0)) (spF K) (-1) (K 2) (gsZ T (spF K) ((Int.toNat (K 0 0) : Nat) : Int))) (KKn 0 (K 1) (fun _ : Int => (-1))) qa cp2_1455 tl2_1494 := z_1495
        exfalso; omega
      · skip
        rw [hw9] at B; clear hw9
        have B := bd_to (ws' := ([(na, .inl (k 0, 4, .inl (fun i9 : Nat => iI (nf i9))))] ++ tl2_1497)) rfl B
        have hPS : PS dI k T K qa cp2_1455 tl2_1497 := z_1498
        exfalso; omega
      · skip
        rw [hw9] at B; clear hw9
        have B := bd_to (ws' := ([(na, .inl (k 0, 4, .inl (fun i9 : Nat => iI (nf i9))))] ++ tl2_1500)) rfl B
        have hPS : PS dI k T K qa cp2_1455 tl2_1500 := z_1501
        refine W.widen (k := ((cp2_1455 - cp) + 124)) (n := ((12 * (cp2_1455 - cp)) + 1200)) (by omega) (by omega) ?_
        refine lv_ldc (v := (-2000000003)) hx hb B.1.2.2.2.1 (B.1.2.2.2.2.1 _ mw_594) dL_refuses_1341 ?_
        refine lv_seti (y := iI (-2000000003)) (by decide) ?_
        refine lv_icmp_ne (tgt := 1386) hx hb dL_refuses_1343 (by decide) (fun c9 => absurd c9 (by decide)) (fun _ => ?_)
        refine k_joinG (σ := Nat × va_W) B 1366 (fun g9 : Nat × va_W => (PS dI k T K qa g9.1 g9.2) ∧ (cp ≤ g9.1 ∧ g9.1 ≤ 131072)) (fun g9 : Nat × va_W => [(10, .int (iI (LCz T 0 (dgN T 0) ((xx / 50) % (T 0 0 0 0))))), (9, .int (iI (T 3 ((xx / 50) % (T 0 0 0 0)) 0 0))), (8, .int (iI ((xx / 50) % (T 0 0 0 0)))), (7, .int (iI 1)), (6, .int (iI ((-1) - (xx % 50)))), (5, .int (iI ((-1) - (xx % 50)))), (4, .int (iI ((-1) - (xx % 50)))), (3, .int (iI 1)), (0, .ref qa), (1, .ref na), (2, .int (iI xx))]) (fun g9 : Nat × va_W => ([(na, .inl (k 0, 4, .inl (fun i9 : Nat => iI (nf i9))))] ++ g9.2)) (fun g9 : Nat × va_W => ((g9.1 - cp) + 128)) (fun g9 : Nat × va_W => ((12 * (g9.1 - cp)) + 1260)) (fun g9 : Nat × va_W => []) ?_ (fun J_1503 => ?_)
        · clear hl B
          rintro ⟨cpF, tlF⟩ ⟨hPS, hcF⟩ ls H locs hl B
          have hPS : PS dI k T K qa cpF tlF := hPS
          have hcF : cp ≤ cpF ∧ cpF ≤ 131072 := hcF
          show W p l e _ s m args below meth c H locs (((cpF - cp) + 128)) (((12 * (cpF - cp)) + 1260)) _ _
          have hl : lv_has ls 11 [(10, .int (iI (LCz T 0 (dgN T 0) ((xx / 50) % (T 0 0 0 0))))), (9, .int (iI (T 3 ((xx / 50) % (T 0 0 0 0)) 0 0))), (8, .int (iI ((xx / 50) % (T 0 0 0 0)))), (7, .int (iI 1)), (6, .int (iI ((-1) - (xx % 50)))), (5, .int (iI ((-1) - (xx % 50)))), (4, .int (iI ((-1) - (xx % 50)))), (3, .int (iI 1)), (0, .ref qa), (1, .ref na), (2, .int (iI xx))] := hl
          have B := bd_to (ws' := ([(na, .inl (k 0, 4, .inl (fun i9 : Nat => iI (nf i9))))] ++ tlF)) rfl B
          refine lv_aload_n hx hb dL_refuses_1366 rfl (lv_at hl 8 rfl) ?_
          refine lv_iconst (v := iI 1) hx hb dL_refuses_1367 (by decide) ?_
          refine lv_iload hx hb dL_refuses_1368 (lv_at hl 2 rfl) ?_
          refine lv_iload hx hb dL_refuses_1370 (lv_at hl 1 rfl) ?_
          refine lv_iload_n hx hb dL_refuses_1372 rfl (lv_at hl 10 rfl) ?_
          refine y_add hx hb dL_refuses_1373 ?_
          have B := bd_swap (a := []) (b := [(na, .inl (k 0, 4, .inl (fun i9 : Nat => iI (nf i9))))]) (d := tlF) (bd_to rfl B)
          refine k_W (rest := []) (wc := ([] ++ tlF)) (wr := [(na, .inl (k 0, 4, .inl (fun i9 : Nat => iI (nf i9))))]) (w_whereIs l dC dI k hl0 T K qa cpF tlF 1 ((xx / 50) % (T 0 0 0 0)) ((T 3 ((xx / 50) % (T 0 0 0 0)) 0 0) + xx) hPS hQ (by omega) (by omega) (by omega)) B mW_L_whereIs mw_1791 hl ⟨Nat.le_of_ble_eq_true rfl, Nat.le_of_ble_eq_true rfl⟩ (Nat.le_of_ble_eq_true rfl) rfl dL_refuses_1374 ⟨by dsimp only; omega, by dsimp only; omega⟩ (fun r w gc gs H locs hp B => ?_)
          rcases hp with ⟨cp2_1504, tl2_1505, z_1506, z_1507, z_1508, rfl, hw9, rfl, rfl⟩ | ⟨cp2_1509, tl2_1510, z_1511, z_1512, z_1513, rfl, hw9, rfl, rfl⟩
          · skip
            rw [hw9] at B; clear hw9
            have B := bd_to (ws' := ([(na, .inl (k 0, 4, .inl (fun i9 : Nat => iI (nf i9))))] ++ tl2_1505)) rfl B
            have hPS : PS dI k T K qa cp2_1504 tl2_1505 := z_1506
            exfalso; omega
          · skip
            rw [hw9] at B; clear hw9
            have B := bd_to (ws' := ([(na, .inl (k 0, 4, .inl (fun i9 : Nat => iI (nf i9))))] ++ tl2_1510)) rfl B
            have hPS : PS dI k T K qa cp2_1509 tl2_1510 := z_1511
            refine W.widen (k := ((cp2_1509 - cp) + 129)) (n := ((12 * (cp2_1509 - cp)) + 1266)) (by omega) (by omega) ?_
            refine lv_ldc (v := (-2000000001)) hx hb B.1.2.2.2.1 (B.1.2.2.2.2.1 _ mw_593) dL_refuses_1377 ?_
            refine lv_seti (y := iI (-2000000001)) (by decide) ?_
            refine lv_icmp_ne (tgt := 1386) hx hb dL_refuses_1379 (by decide) (fun c9 => absurd c9 (by decide)) (fun _ => ?_)
            refine lv_iconst (v := iI 1) hx hb dL_refuses_1382 (by decide) ?_
            refine lv_goto (tgt := 1387) hx hb dL_refuses_1383 (by decide) ?_
            refine lv_istore (lv' := [(7, .int (iI 1)), (10, .int (iI (LCz T 0 (dgN T 0) ((xx / 50) % (T 0 0 0 0))))), (9, .int (iI (T 3 ((xx / 50) % (T 0 0 0 0)) 0 0))), (8, .int (iI ((xx / 50) % (T 0 0 0 0)))), (6, .int (iI ((-1) - (xx % 50)))), (5, .int (iI ((-1) - (xx % 50)))), (4, .int (iI ((-1) - (xx % 50)))), (3, .int (iI 1)), (0, .ref qa), (1, .ref na), (2, .int (iI xx))]) hx hb dL_refuses_1387 hl (by decide) rfl (fun ls hl => ?_)
            refine lv_iload hx hb dL_refuses_1389 (lv_at hl 0 rfl) ?_
            exact k_zret B hr (by omega) (⟨cp2_1509, tl2_1510, z_1511, (by omega), rfl, rfl, rfl, rfl⟩) ⟨(by first | omega | (dsimp only; omega)), (by first | omega | (dsimp only; omega))⟩ ⟨(by first | omega | (dsimp only; omega)), (by first | omega | (dsimp only; omega))⟩ dL_refuses_1391
        refine W.widen (k := ((cp2_1455 - cp) + 124)) (n := ((12 * (cp2_1455 - cp)) + 1200)) (by omega) (by omega) ?_
        exact J_1460 (cp2_1455, tl2_1500) ⟨(show PS dI k T K qa cp2_1455 tl2_1500 from hPS), (show cp ≤ cp2_1455 ∧ cp2_1455 ≤ 131072 from (by omega))⟩ _ _ _ (lv_sub hl [0, 1, 2, 3, 4, 5, 6, 7, 8, 9, 10] rfl) (bd_to rfl B)

set_option maxHeartbeats 4000000 in
set_option maxRecDepth 100000 in
theorem w_refuses_c1235_27 (l : Launch) (dC : Nat → ClassId) (dI : Nat → Nat → Nat) (k : Nat → ClassId) (hl0 : l.stackTraces = false) (T : Nat → Int → Int → Int → Int) (K : Nat → Int → Int) (qa : Nat) (cp : Nat) (tl : va_W) (na : Nat) (nf : Int → Int) (xx : Int) (cpS : Nat) (tlS : va_W) (hc0 : 512 ≤ cp ∧ cp ≤ 131072) (hPS : PS dI k T K qa cpS tlS) (hQ : OKT T K) (hx9 : 0 ≤ xx ∧ xx < 9973) (hn9 : nf 0 = T 0 0 0 0 ∧ nf 1 = K 0 0 ∧ nf 2 = T 12 0 0 0 ∧ nf 3 = T 18 0 0 0) (hcS : cp ≤ cpS ∧ cpS ≤ 131072) (zc_1325 : 0 < (T 0 0 0 0)) (z_1326 : 0 ≤ ((xx / 50) % (T 0 0 0 0)) ∧ ((xx / 50) % (T 0 0 0 0)) < (T 0 0 0 0)) (z_1327 : 0 ≤ T 3 ((xx / 50) % (T 0 0 0 0)) 0 0 ∧ T 3 ((xx / 50) % (T 0 0 0 0)) 0 0 ≤ 12) (z_1332 : 0 ≤ ((xx / 50) % (T 0 0 0 0)) ∧ ((xx / 50) % (T 0 0 0 0)) < T 0 0 0 0) (z_1338 : 0 ≤ LCz T 0 (dgN T 0) ((xx / 50) % (T 0 0 0 0)) ∧ LCz T 0 (dgN T 0) ((xx / 50) % (T 0 0 0 0)) ≤ 48) {p : Program} {e : Env} {s : State} {m : MethodId} {args : Array Value} {below : List Frame} {meth : Method} {c : Code} {H : Heap} {locs : List Loc} {ls : Array Slot} (B : bd p s m args meth c cL_refuses 11 yL_refuses.cls dC dI k (va_A ([(na, .inl (k 0, 4, .inl (fun i9 : Nat => iI (nf i9))))] ++ tl) s.heap.size) ([(na, .inl (k 0, 4, .inl (fun i9 : Nat => iI (nf i9))))] ++ tlS) H locs) (hr : meth.sig.returnType = (some .boolean)) (hl : lv_has ls 11 [(10, .int (iI (LCz T 0 (dgN T 0) ((xx / 50) % (T 0 0 0 0))))), (9, .int (iI (T 3 ((xx / 50) % (T 0 0 0 0)) 0 0))), (8, .int (iI ((xx / 50) % (T 0 0 0 0)))), (7, .int (iI 1)), (6, .int (iI ((-1) - (xx % 50)))), (5, .int (iI ((-1) - (xx % 50)))), (4, .int (iI ((-1) - (xx % 50)))), (3, .int (iI 1)), (0, .ref qa), (1, .ref na), (2, .int (iI xx))]) : W p l e ({ frames := 16, cells := ((131072 - cp) + 129), slots := ((12 * (131072 - cp)) + 1266), locals := 495 } : Room) s m args below meth c H locs ((cpS - cp) + 114) ((12 * (cpS - cp)) + 1104) (MQ below (Qk dC dI ([(na, .inl (k 0, 4, .inl (fun i9 : Nat => iI (nf i9))))] ++ tl) s.heap.size (fun r w gc gs => (∃ (cp2 : Nat) (tl2 : va_W), (PS dI k T K qa cp2 tl2) ∧ (cp ≤ cp2 ∧ cp2 ≤ 131072) ∧ r = some (.int (iI 1)) ∧ w = ([(na, .inl (k 0, 4, .inl (fun i9 : Nat => iI (nf i9))))] ++ tl2) ∧ gc = ((cp2 - cp) + 129) ∧ gs = ((12 * (cp2 - cp)) + 1266)))) args s ({ frames := 16, cells := ((131072 - cp) + 129), slots := ((12 * (131072 - cp)) + 1266), locals := 495 } : Room).cells ({ frames := 16, cells := ((131072 - cp) + 129), slots := ((12 * (131072 - cp)) + 1266), locals := 495 } : Room).slots (va_A ([(na, .inl (k 0, 4, .inl (fun i9 : Nat => iI (nf i9))))] ++ tl) s.heap.size)) (F0 m 1235 ls []) := by
  have hx := B.1.1
  have hb := B.1.2.1
  have hcp9 := PS_cp hPS
  have hn0 := TK_nb hQ.1
  have hk0 := hQ.2.1.1
  have hf0 := TK_fc hQ.1
  have hp0 := TK_np hQ.1
  have hm0 : lmZ 0 = 1 := rfl
  have hm1 : lmZ 1 = 0 := rfl
  have hm2 : lmZ 2 = 0 := rfl
  have hm3 : lmZ 3 = 0 := rfl
  have hm4 : lmZ 4 = 0 := rfl
  have hm5 : mmZ T 0 = 5 := rfl
  have hm6 : mmZ T 1 = T 12 0 0 0 - 1 := rfl
  have hm7 : mmZ T 2 = 5 := rfl
  have hm8 : mmZ T 3 = 7 := rfl
  have hm9 : mmZ T 4 = 1 := rfl
  refine lv_aload_n hx hb dL_refuses_1235 rfl (lv_at hl 8 rfl) ?_
  refine lv_iload hx hb dL_refuses_1236 (lv_at hl 2 rfl) ?_
  refine lv_iconst (v := iI 4) hx hb dL_refuses_1238 (by decide) ?_
  refine lv_iload_n hx hb dL_refuses_1239 rfl (lv_at hl 10 rfl) ?_
  refine y_add hx hb dL_refuses_1240 ?_
  refine lv_iconst (v := iI 0) hx hb dL_refuses_1241 (by decide) ?_
  refine lv_iconst (v := iI 1) hx hb dL_refuses_1242 (by decide) ?_
  refine lv_iconst (v := iI 0) hx hb dL_refuses_1243 (by decide) ?_
  refine lv_iconst (v := iI 0) hx hb dL_refuses_1244 (by decide) ?_
  have B := bd_swap (a := []) (b := [(na, .inl (k 0, 4, .inl (fun i9 : Nat => iI (nf i9))))]) (d := tlS) (bd_to rfl B)
  refine k_W (rest := []) (wc := ([] ++ tlS)) (wr := [(na, .inl (k 0, 4, .inl (fun i9 : Nat => iI (nf i9))))]) (w_cells l dC dI k hl0 T K qa cpS tlS ((xx / 50) % (T 0 0 0 0)) (4 + xx) 0 1 0 0 hPS hQ (by omega) (by omega) (by omega) (by omega) (by omega) (by omega)) B mW_L_cells mw_1219 hl ⟨Nat.le_of_ble_eq_true rfl, Nat.le_of_ble_eq_true rfl⟩ (Nat.le_of_ble_eq_true rfl) rfl dL_refuses_1245 ⟨by dsimp only; omega, by dsimp only; omega⟩ (fun r w gc gs H locs hp B => ?_)
  rcases hp with ⟨tl2_1394, z_1395, z_1396, rfl, hw9, rfl, rfl⟩ | ⟨tl2_1397, z_1398, z_1399, rfl, hw9, rfl, rfl⟩ | ⟨tl2_1400, z_1401, z_1402, rfl, hw9, rfl, rfl⟩ | ⟨tl2_1403, z_1404, z_1405, rfl, hw9, rfl, rfl⟩
  · skip
    rw [hw9] at B; clear hw9
    have B := bd_to (ws' := ([(na, .inl (k 0, 4, .inl (fun i9 : Nat => iI (nf i9))))] ++ tl2_1394)) rfl B
    have hPS : PS dI k (teT T ((xx / 50) % (T 0 0 0 0)) (((4 + xx) * 3) + 0) 1 0 0) K qa cpS tl2_1394 := z_1395
    exfalso; omega
  · skip
    rw [hw9] at B; clear hw9
    have B := bd_to (ws' := ([(na, .inl (k 0, 4, .inl (fun i9 : Nat => iI (nf i9))))] ++ tl2_1397)) rfl B
    have hPS : PS dI k T K qa cpS tl2_1397 := z_1398
    exfalso; omega
  · skip
    rw [hw9] at B; clear hw9
    have B := bd_to (ws' := ([(na, .inl (k 0, 4, .inl (fun i9 : Nat => iI (nf i9))))] ++ tl2_1400)) rfl B
    have hPS : PS dI k T K qa cpS tl2_1400 := z_1401
    refine W.widen (k := ((cpS - cp) + 115)) (n := ((12 * (cpS - cp)) + 1110)) (by omega) (by omega) ?_
    refine lv_ldc (v := (-2000000002)) hx hb B.1.2.2.2.1 (B.1.2.2.2.2.1 _ mw_627) dL_refuses_1248 ?_
    refine lv_seti (y := iI (-2000000002)) (by decide) ?_
    refine lv_icmp_ne (tgt := 1386) hx hb dL_refuses_1250 (by decide) (fun c9 => absurd c9 (by decide)) (fun _ => ?_)
    refine lv_aload_n hx hb dL_refuses_1253 rfl (lv_at hl 8 rfl) ?_
    refine lv_iload hx hb dL_refuses_1254 (lv_at hl 2 rfl) ?_
    refine lv_iconst (v := iI 0) hx hb dL_refuses_1256 (by decide) ?_
    refine lv_iconst (v := iI 0) hx hb dL_refuses_1257 (by decide) ?_
    refine lv_iconst (v := iI 1) hx hb dL_refuses_1258 (by decide) ?_
    refine lv_iconst (v := iI 5) hx hb dL_refuses_1259 (by decide) ?_
    refine lv_iconst (v := iI 4) hx hb dL_refuses_1260 (by decide) ?_
    have B := bd_swap (a := []) (b := [(na, .inl (k 0, 4, .inl (fun i9 : Nat => iI (nf i9))))]) (d := tl2_1400) (bd_to rfl B)
    refine k_W (rest := []) (wc := ([] ++ tl2_1400)) (wr := [(na, .inl (k 0, 4, .inl (fun i9 : Nat => iI (nf i9))))]) (w_cells l dC dI k hl0 T K qa cpS tl2_1400 ((xx / 50) % (T 0 0 0 0)) 0 0 1 5 4 z_1401 hQ (by omega) (by omega) (by omega) (by omega) (by omega) (by omega)) B mW_L_cells mw_1219 hl ⟨Nat.le_of_ble_eq_true rfl, Nat.le_of_ble_eq_true rfl⟩ (Nat.le_of_ble_eq_true rfl) rfl dL_refuses_1261 ⟨by dsimp only; omega, by dsimp only; omega⟩ (fun r w gc gs H locs hp B => ?_)
    rcases hp with ⟨tl2_1406, z_1407, z_1408, rfl, hw9, rfl, rfl⟩ | ⟨tl2_1409, z_1410, z_1411, rfl, hw9, rfl, rfl⟩ | ⟨tl2_1412, z_1413, z_1414, rfl, hw9, rfl, rfl⟩ | ⟨tl2_1415, z_1416, z_1417, rfl, hw9, rfl, rfl⟩
    · skip
      rw [hw9] at B; clear hw9
      have B := bd_to (ws' := ([(na, .inl (k 0, 4, .inl (fun i9 : Nat => iI (nf i9))))] ++ tl2_1406)) rfl B
      have hPS : PS dI k (teT T ((xx / 50) % (T 0 0 0 0)) ((0 * 3) + 0) 1 5 4) K qa cpS tl2_1406 := z_1407
      exfalso; omega
    · skip
      rw [hw9] at B; clear hw9
      have B := bd_to (ws' := ([(na, .inl (k 0, 4, .inl (fun i9 : Nat => iI (nf i9))))] ++ tl2_1409)) rfl B
      have hPS : PS dI k T K qa cpS tl2_1409 := z_1410
      exfalso; omega
    · skip
      rw [hw9] at B; clear hw9
      have B := bd_to (ws' := ([(na, .inl (k 0, 4, .inl (fun i9 : Nat => iI (nf i9))))] ++ tl2_1412)) rfl B
      have hPS : PS dI k T K qa cpS tl2_1412 := z_1413
      refine W.widen (k := ((cpS - cp) + 116)) (n := ((12 * (cpS - cp)) + 1116)) (by omega) (by omega) ?_
      refine lv_ldc (v := (-2000000002)) hx hb B.1.2.2.2.1 (B.1.2.2.2.2.1 _ mw_627) dL_refuses_1264 ?_
      refine lv_seti (y := iI (-2000000002)) (by decide) ?_
      refine lv_icmp_ne (tgt := 1386) hx hb dL_refuses_1266 (by decide) (fun c9 => absurd c9 (by decide)) (fun _ => ?_)
      refine lv_aload_n hx hb dL_refuses_1269 rfl (lv_at hl 8 rfl) ?_
      refine lv_iconst (v := iI 0) hx hb dL_refuses_1270 (by decide) ?_
      refine lv_iload hx hb dL_refuses_1271 (lv_at hl 2 rfl) ?_
      refine lv_iload hx hb dL_refuses_1273 (lv_at hl 0 rfl) ?_
      refine lv_iload_n hx hb dL_refuses_1275 rfl (lv_at hl 10 rfl) ?_
      refine y_add hx hb dL_refuses_1276 ?_
      have B := bd_swap (a := []) (b := [(na, .inl (k 0, 4, .inl (fun i9 : Nat => iI (nf i9))))]) (d := tl2_1412) (bd_to rfl B)
      refine k_W (rest := []) (wc := ([] ++ tl2_1412)) (wr := [(na, .inl (k 0, 4, .inl (fun i9 : Nat => iI (nf i9))))]) (w_lineEnd l dC dI k hl0 T K qa cpS tl2_1412 0 ((xx / 50) % (T 0 0 0 0)) ((LCz T 0 (dgN T 0) ((xx / 50) % (T 0 0 0 0))) + xx) z_1413 hQ (by omega) (by omega) (by omega)) B mW_L_lineEnd mw_1675 hl ⟨Nat.le_of_ble_eq_true rfl, Nat.le_of_ble_eq_true rfl⟩ (Nat.le_of_ble_eq_true rfl) rfl dL_refuses_1277 ⟨by dsimp only; omega, by dsimp only; omega⟩ (fun r w gc gs H locs hp B => ?_)
      rcases hp with ⟨cp2_1418, tl2_1419, z_1420, z_1421, z_1422, rfl, hw9, rfl, rfl⟩ | ⟨cp2_1423, tl2_1424, z_1425, z_1426, z_1427, rfl, hw9, rfl, rfl⟩
      · skip
        rw [hw9] at B; clear hw9
        have B := bd_to (ws' := ([(na, .inl (k 0, 4, .inl (fun i9 : Nat => iI (nf i9))))] ++ tl2_1419)) rfl B
        have hPS : PS dI k T K qa cp2_1418 tl2_1419 := z_1420
        exfalso; omega
      · skip
        rw [hw9] at B; clear hw9
        have B := bd_to (ws' := ([(na, .inl (k 0, 4, .inl (fun i9 : Nat => iI (nf i9))))] ++ tl2_1424)) rfl B
        have hPS : PS dI k T K qa cp2_1423 tl2_1424 := z_1425
        refine W.widen (k := ((cp2_1423 - cp) + 117)) (n := ((12 * (cp2_1423 - cp)) + 1122)) (by omega) (by omega) ?_
        refine lv_ldc (v := (-2000000001)) hx hb B.1.2.2.2.1 (B.1.2.2.2.2.1 _ mw_593) dL_refuses_1280 ?_
        refine lv_seti (y := iI (-2000000001)) (by decide) ?_
        refine lv_icmp_ne (tgt := 1386) hx hb dL_refuses_1282 (by decide) (fun c9 => absurd c9 (by decide)) (fun _ => ?_)
        refine lv_aload_n hx hb dL_refuses_1285 rfl (lv_at hl 8 rfl) ?_
        refine lv_iconst (v := iI 0) hx hb dL_refuses_1286 (by decide) ?_
        refine lv_iload hx hb dL_refuses_1287 (lv_at hl 2 rfl) ?_
        refine lv_iconst (v := iI (-1)) hx hb dL_refuses_1289 (by decide) ?_
        refine lv_iload_n hx hb dL_refuses_1290 rfl (lv_at hl 10 rfl) ?_
        refine y_sub hx hb dL_refuses_1291 ?_
        have B := bd_swap (a := []) (b := [(na, .inl (k 0, 4, .inl (fun i9 : Nat => iI (nf i9))))]) (d := tl2_1424) (bd_to rfl B)
        refine k_W (rest := []) (wc := ([] ++ tl2_1424)) (wr := [(na, .inl (k 0, 4, .inl (fun i9 : Nat => iI (nf i9))))]) (w_tight l dC dI k hl0 T K qa cp2_1423 tl2_1424 0 ((xx / 50) % (T 0 0 0 0)) ((-1) - xx) z_1425 hQ (by omega) (by omega) (by omega)) B mW_L_tight mw_1687 hl ⟨Nat.le_of_ble_eq_true rfl, Nat.le_of_ble_eq_true rfl⟩ (Nat.le_of_ble_eq_true rfl) rfl dL_refuses_1292 ⟨by dsimp only; omega, by dsimp only; omega⟩ (fun r w gc gs H locs hp B => ?_)
        rcases hp with ⟨cp2_1428, tl2_1429, z_1430, z_1431, z_1432, rfl, hw9, rfl, rfl⟩ | ⟨cp2_1433, tl2_1434, z_1435, z_1436, z_1437, rfl, hw9, rfl, rfl⟩
        · skip
          rw [hw9] at B; clear hw9
          have B := bd_to (ws' := ([(na, .inl (k 0, 4, .inl (fun i9 : Nat => iI (nf i9))))] ++ tl2_1429)) rfl B
          have hPS : PS dI k T K qa cp2_1428 tl2_1429 := z_1430
          exfalso; omega
        · skip
          rw [hw9] at B; clear hw9
          have B := bd_to (ws' := ([(na, .inl (k 0, 4, .inl (fun i9 : Nat => iI (nf i9))))] ++ tl2_1434)) rfl B
          have hPS : PS dI k T K qa cp2_1433 tl2_1434 := z_1435
          refine W.widen (k := ((cp2_1433 - cp) + 118)) (n := ((12 * (cp2_1433 - cp)) + 1128)) (by omega) (by omega) ?_
          refine lv_ldc (v := (-2000000001)) hx hb B.1.2.2.2.1 (B.1.2.2.2.2.1 _ mw_593) dL_refuses_1295 ?_
          refine lv_seti (y := iI (-2000000001)) (by decide) ?_
          refine lv_icmp_ne (tgt := 1386) hx hb dL_refuses_1297 (by decide) (fun c9 => absurd c9 (by decide)) (fun _ => ?_)
          refine lv_aload_n hx hb dL_refuses_1300 rfl (lv_at hl 8 rfl) ?_
          refine lv_iload hx hb dL_refuses_1301 (lv_at hl 2 rfl) ?_
          refine lv_iconst (v := iI 3) hx hb dL_refuses_1303 (by decide) ?_
          refine lv_iload_n hx hb dL_refuses_1304 rfl (lv_at hl 10 rfl) ?_
          refine y_add hx hb dL_refuses_1305 ?_
          have z_1438 : 0 ≤ ccZ (fun j9 : Int => T 9 ((xx / 50) % (T 0 0 0 0)) j9 0) 12 ∧ ccZ (fun j9 : Int => T 9 ((xx / 50) % (T 0 0 0 0)) j9 0) 12 ≤ 3 := ccZ_in (fun c => TK_spc hQ.1 _ c) 12
          have B := bd_swap (a := []) (b := [(na, .inl (k 0, 4, .inl (fun i9 : Nat => iI (nf i9))))]) (d := tl2_1434) (bd_to rfl B)
          refine k_W (rest := []) (wc := ([] ++ tl2_1434)) (wr := [(na, .inl (k 0, 4, .inl (fun i9 : Nat => iI (nf i9))))]) (w_wide l dC dI k hl0 T K qa cp2_1433 tl2_1434 ((xx / 50) % (T 0 0 0 0)) (3 + xx) z_1435 hQ (by omega) (by omega)) B mW_L_wide mw_1309 hl ⟨Nat.le_of_ble_eq_true rfl, Nat.le_of_ble_eq_true rfl⟩ (Nat.le_of_ble_eq_true rfl) rfl dL_refuses_1306 ⟨by dsimp only; omega, by dsimp only; omega⟩ (fun r w gc gs H locs hp B => ?_)
          rcases hp with ⟨cp2_1439, tl2_1440, z_1441, z_1442, z_1443, rfl, hw9, rfl, rfl⟩ | ⟨cp2_1444, tl2_1445, z_1446, z_1447, z_1448, rfl, hw9, rfl, rfl⟩
          · skip
            rw [hw9] at B; clear hw9
            have B := bd_to (ws' := ([(na, .inl (k 0, 4, .inl (fun i9 : Nat => iI (nf i9))))] ++ tl2_1440)) rfl B
            have hPS : PS dI k T K qa cp2_1439 tl2_1440 := z_1441
            exfalso; omega
          · skip
            rw [hw9] at B; clear hw9
            have B := bd_to (ws' := ([(na, .inl (k 0, 4, .inl (fun i9 : Nat => iI (nf i9))))] ++ tl2_1445)) rfl B
            have hPS : PS dI k T K qa cp2_1444 tl2_1445 := z_1446
            refine W.widen (k := ((cp2_1444 - cp) + 119)) (n := ((12 * (cp2_1444 - cp)) + 1134)) (by omega) (by omega) ?_
            refine lv_ldc (v := (-2000000001)) hx hb B.1.2.2.2.1 (B.1.2.2.2.2.1 _ mw_593) dL_refuses_1309 ?_
            refine lv_seti (y := iI (-2000000001)) (by decide) ?_
            refine lv_icmp_ne (tgt := 1386) hx hb dL_refuses_1311 (by decide) (fun c9 => absurd c9 (by decide)) (fun _ => ?_)
            exact w_refuses_c1314_28 l dC dI k hl0 T K qa cp tl na nf xx cp2_1444 tl2_1445 (by omega) hPS hQ hx9 hn9 (by omega) zc_1325 z_1326 z_1327 z_1332 z_1338 (bd_to rfl B) hr hl
    · skip
      rw [hw9] at B; clear hw9
      have B := bd_to (ws' := ([(na, .inl (k 0, 4, .inl (fun i9 : Nat => iI (nf i9))))] ++ tl2_1415)) rfl B
      have hPS : PS dI k T K qa cpS tl2_1415 := z_1416
      exfalso; omega
  · skip
    rw [hw9] at B; clear hw9
    have B := bd_to (ws' := ([(na, .inl (k 0, 4, .inl (fun i9 : Nat => iI (nf i9))))] ++ tl2_1403)) rfl B
    have hPS : PS dI k T K qa cpS tl2_1403 := z_1404
    exfalso; omega

set_option maxHeartbeats 4000000 in
set_option maxRecDepth 100000 in
theorem w_refuses_c1077_26 (l : Launch) (dC : Nat → ClassId) (dI : Nat → Nat → Nat) (k : Nat → ClassId) (hl0 : l.stackTraces = false) (T : Nat → Int → Int → Int → Int) (K : Nat → Int → Int) (qa : Nat) (cp : Nat) (tl : va_W) (na : Nat) (nf : Int → Int) (xx : Int) (cpS : Nat) (tlS : va_W) (hc0 : 512 ≤ cp ∧ cp ≤ 131072) (hPS : PS dI k T K qa cpS tlS) (hQ : OKT T K) (hx9 : 0 ≤ xx ∧ xx < 9973) (hn9 : nf 0 = T 0 0 0 0 ∧ nf 1 = K 0 0 ∧ nf 2 = T 12 0 0 0 ∧ nf 3 = T 18 0 0 0) (hcS : cp ≤ cpS ∧ cpS ≤ 131072) {p : Program} {e : Env} {s : State} {m : MethodId} {args : Array Value} {below : List Frame} {meth : Method} {c : Code} {H : Heap} {locs : List Loc} {ls : Array Slot} (B : bd p s m args meth c cL_refuses 11 yL_refuses.cls dC dI k (va_A ([(na, .inl (k 0, 4, .inl (fun i9 : Nat => iI (nf i9))))] ++ tl) s.heap.size) ([(na, .inl (k 0, 4, .inl (fun i9 : Nat => iI (nf i9))))] ++ tlS) H locs) (hr : meth.sig.returnType = (some .boolean)) (hl : lv_has ls 11 [(7, .int (iI 1)), (6, .int (iI ((-1) - (xx % 50)))), (5, .int (iI ((-1) - (xx % 50)))), (4, .int (iI ((-1) - (xx % 50)))), (3, .int (iI 1)), (0, .ref qa), (1, .ref na), (2, .int (iI xx))]) : W p l e ({ frames := 16, cells := ((131072 - cp) + 129), slots := ((12 * (131072 - cp)) + 1266), locals := 495 } : Room) s m args below meth c H locs ((cpS - cp) + 104) ((12 * (cpS - cp)) + 974) (MQ below (Qk dC dI ([(na, .inl (k 0, 4, .inl (fun i9 : Nat => iI (nf i9))))] ++ tl) s.heap.size (fun r w gc gs => (∃ (cp2 : Nat) (tl2 : va_W), (PS dI k T K qa cp2 tl2) ∧ (cp ≤ cp2 ∧ cp2 ≤ 131072) ∧ r = some (.int (iI 1)) ∧ w = ([(na, .inl (k 0, 4, .inl (fun i9 : Nat => iI (nf i9))))] ++ tl2) ∧ gc = ((cp2 - cp) + 129) ∧ gs = ((12 * (cp2 - cp)) + 1266)))) args s ({ frames := 16, cells := ((131072 - cp) + 129), slots := ((12 * (131072 - cp)) + 1266), locals := 495 } : Room).cells ({ frames := 16, cells := ((131072 - cp) + 129), slots := ((12 * (131072 - cp)) + 1266), locals := 495 } : Room).slots (va_A ([(na, .inl (k 0, 4, .inl (fun i9 : Nat => iI (nf i9))))] ++ tl) s.heap.size)) (F0 m 1077 ls []) := by
  have hx := B.1.1
  have hb := B.1.2.1
  have hcp9 := PS_cp hPS
  have hn0 := TK_nb hQ.1
  have hk0 := hQ.2.1.1
  have hf0 := TK_fc hQ.1
  have hp0 := TK_np hQ.1
  have hm0 : lmZ 0 = 1 := rfl
  have hm1 : lmZ 1 = 0 := rfl
  have hm2 : lmZ 2 = 0 := rfl
  have hm3 : lmZ 3 = 0 := rfl
  have hm4 : lmZ 4 = 0 := rfl
  have hm5 : mmZ T 0 = 5 := rfl
  have hm6 : mmZ T 1 = T 12 0 0 0 - 1 := rfl
  have hm7 : mmZ T 2 = 5 := rfl
  have hm8 : mmZ T 3 = 7 := rfl
  have hm9 : mmZ T 4 = 1 := rfl
  refine lv_iconst (v := iI 1) hx hb dL_refuses_1077 (by decide) ?_
  refine lv_goto (tgt := 1082) hx hb dL_refuses_1078 (by decide) ?_
  refine lv_istore (lv' := [(7, .int (iI 1)), (6, .int (iI ((-1) - (xx % 50)))), (5, .int (iI ((-1) - (xx % 50)))), (4, .int (iI ((-1) - (xx % 50)))), (3, .int (iI 1)), (0, .ref qa), (1, .ref na), (2, .int (iI xx))]) hx hb dL_refuses_1082 hl (by decide) rfl (fun ls hl => ?_)
  refine lv_iload hx hb dL_refuses_1084 (lv_at hl 0 rfl) ?_
  refine lv_if_eq (tgt := 1389) hx hb dL_refuses_1086 (by decide) (fun c9 => absurd c9 (by decide)) (fun _ => ?_)
  refine lv_aload_n hx hb dL_refuses_1089 rfl (lv_at hl 6 rfl) ?_
  refine lv_iconst (v := iI 0) hx hb dL_refuses_1090 (by decide) ?_
  refine x_iald' (f := nf) (z := 0) B 0 rfl (by omega) dL_refuses_1091 ?_
  refine lv_seti (y := iI (T 0 0 0 0)) (congrArg iI (show nf 0 = T 0 0 0 0 from hn9.1)) ?_
  refine lv_if_le (tgt := 1389) hx hb dL_refuses_1092 (by decide) (fun c_1325 => ?_) (fun c_1325 => ?_)
  · have zc_1325 : (T 0 0 0 0) ≤ 0 := jle (a := (T 0 0 0 0)) (b := 0) (by omega) (by omega) c_1325
    refine lv_iload hx hb dL_refuses_1389 (lv_at hl 0 rfl) ?_
    exact k_zret B hr (by omega) (⟨cpS, tlS, hPS, hcS, rfl, rfl, rfl, rfl⟩) ⟨(by first | omega | (dsimp only; omega)), (by first | omega | (dsimp only; omega))⟩ ⟨(by first | omega | (dsimp only; omega)), (by first | omega | (dsimp only; omega))⟩ dL_refuses_1391
  · have zc_1325 : 0 < (T 0 0 0 0) := jnle (a := (T 0 0 0 0)) (b := 0) (by omega) (by omega) c_1325
    refine lv_iload_n hx hb dL_refuses_1095 rfl (lv_at hl 7 rfl) ?_
    refine lv_bipush (v := iI 50) hx hb dL_refuses_1096 (by decide) ?_
    refine y_div hx hb (a := xx) (b := 50) (by omega) (by omega) dL_refuses_1098 ?_
    refine lv_aload_n hx hb dL_refuses_1099 rfl (lv_at hl 6 rfl) ?_
    refine lv_iconst (v := iI 0) hx hb dL_refuses_1100 (by decide) ?_
    refine x_iald' (f := nf) (z := 0) B 0 rfl (by omega) dL_refuses_1101 ?_
    refine lv_seti (y := iI (T 0 0 0 0)) (congrArg iI (show nf 0 = T 0 0 0 0 from hn9.1)) ?_
    refine y_rem hx hb (a := (xx / 50)) (b := (T 0 0 0 0)) (by omega) (by omega) dL_refuses_1102 ?_
    have z_1326 : 0 ≤ ((xx / 50) % (T 0 0 0 0)) ∧ ((xx / 50) % (T 0 0 0 0)) < (T 0 0 0 0) := ⟨Int.emod_nonneg _ (by omega), Int.emod_lt_of_pos _ (by omega)⟩
    refine lv_istore (lv' := [(8, .int (iI ((xx / 50) % (T 0 0 0 0)))), (7, .int (iI 1)), (6, .int (iI ((-1) - (xx % 50)))), (5, .int (iI ((-1) - (xx % 50)))), (4, .int (iI ((-1) - (xx % 50)))), (3, .int (iI 1)), (0, .ref qa), (1, .ref na), (2, .int (iI xx))]) hx hb dL_refuses_1103 hl (by decide) rfl (fun ls hl => ?_)
    refine lv_aload_n hx hb dL_refuses_1105 rfl (lv_at hl 6 rfl) ?_
    refine lv_iload hx hb dL_refuses_1106 (lv_at hl 0 rfl) ?_
    have z_1327 : 0 ≤ T 3 ((xx / 50) % (T 0 0 0 0)) 0 0 ∧ T 3 ((xx / 50) % (T 0 0 0 0)) 0 0 ≤ 12 := TK_nw hQ.1 _
    have B := bd_swap (a := []) (b := [(na, .inl (k 0, 4, .inl (fun i9 : Nat => iI (nf i9))))]) (d := tlS) (bd_to rfl B)
    refine k_W (rest := []) (wc := ([] ++ tlS)) (wr := [(na, .inl (k 0, 4, .inl (fun i9 : Nat => iI (nf i9))))]) (w_count l dC dI k hl0 T K qa cpS tlS ((xx / 50) % (T 0 0 0 0)) hPS hQ (by omega)) B mW_L_count mw_1266 hl ⟨Nat.le_of_ble_eq_true rfl, Nat.le_of_ble_eq_true rfl⟩ (Nat.le_of_ble_eq_true rfl) rfl dL_refuses_1108 ⟨by dsimp only; omega, by dsimp only; omega⟩ (fun r w gc gs H locs hp B => ?_)
    rcases hp with ⟨cp2_1328, tl2_1329, z_1330, z_1331, z_1332, rfl, hw9, rfl, rfl⟩ | ⟨cp2_1333, tl2_1334, z_1335, z_1336, z_1337, rfl, hw9, rfl, rfl⟩
    · skip
      rw [hw9] at B; clear hw9
      have B := bd_to (ws' := ([(na, .inl (k 0, 4, .inl (fun i9 : Nat => iI (nf i9))))] ++ tl2_1329)) rfl B
      have hPS : PS dI k T K qa cp2_1328 tl2_1329 := z_1330
      refine W.widen (k := ((cp2_1328 - cp) + 105)) (n := ((12 * (cp2_1328 - cp)) + 980)) (by omega) (by omega) ?_
      refine lv_istore (lv' := [(9, .int (iI (T 3 ((xx / 50) % (T 0 0 0 0)) 0 0))), (8, .int (iI ((xx / 50) % (T 0 0 0 0)))), (7, .int (iI 1)), (6, .int (iI ((-1) - (xx % 50)))), (5, .int (iI ((-1) - (xx % 50)))), (4, .int (iI ((-1) - (xx % 50)))), (3, .int (iI 1)), (0, .ref qa), (1, .ref na), (2, .int (iI xx))]) hx hb dL_refuses_1111 hl (by decide) rfl (fun ls hl => ?_)
      refine lv_aload_n hx hb dL_refuses_1113 rfl (lv_at hl 7 rfl) ?_
      refine lv_iconst (v := iI 0) hx hb dL_refuses_1114 (by decide) ?_
      refine lv_iload hx hb dL_refuses_1115 (lv_at hl 1 rfl) ?_
      have z_1338 : 0 ≤ LCz T 0 (dgN T 0) ((xx / 50) % (T 0 0 0 0)) ∧ LCz T 0 (dgN T 0) ((xx / 50) % (T 0 0 0 0)) ≤ 48 := (LCz_in (i := ((xx / 50) % (T 0 0 0 0))) (v := 0) (dg := dgN T 0) hQ.1).1
      have B := bd_swap (a := []) (b := [(na, .inl (k 0, 4, .inl (fun i9 : Nat => iI (nf i9))))]) (d := tl2_1329) (bd_to rfl B)
      refine k_W (rest := []) (wc := ([] ++ tl2_1329)) (wr := [(na, .inl (k 0, 4, .inl (fun i9 : Nat => iI (nf i9))))]) (w_lines l dC dI k hl0 T K qa cp2_1328 tl2_1329 0 ((xx / 50) % (T 0 0 0 0)) z_1330 hQ (by omega) (by omega)) B mW_L_lines mw_1360 hl ⟨Nat.le_of_ble_eq_true rfl, Nat.le_of_ble_eq_true rfl⟩ (Nat.le_of_ble_eq_true rfl) rfl dL_refuses_1117 ⟨by dsimp only; omega, by dsimp only; omega⟩ (fun r w gc gs H locs hp B => ?_)
      rcases hp with ⟨cp2_1339, tl2_1340, z_1341, z_1342, z_1343, rfl, hw9, rfl, rfl⟩ | ⟨cp2_1344, tl2_1345, z_1346, z_1347, z_1348, rfl, hw9, rfl, rfl⟩
      · skip
        rw [hw9] at B; clear hw9
        have B := bd_to (ws' := ([(na, .inl (k 0, 4, .inl (fun i9 : Nat => iI (nf i9))))] ++ tl2_1340)) rfl B
        have hPS : PS dI k T K qa cp2_1339 tl2_1340 := z_1341
        refine W.widen (k := ((cp2_1339 - cp) + 106)) (n := ((12 * (cp2_1339 - cp)) + 986)) (by omega) (by omega) ?_
        refine lv_istore (lv' := [(10, .int (iI (LCz T 0 (dgN T 0) ((xx / 50) % (T 0 0 0 0))))), (9, .int (iI (T 3 ((xx / 50) % (T 0 0 0 0)) 0 0))), (8, .int (iI ((xx / 50) % (T 0 0 0 0)))), (7, .int (iI 1)), (6, .int (iI ((-1) - (xx % 50)))), (5, .int (iI ((-1) - (xx % 50)))), (4, .int (iI ((-1) - (xx % 50)))), (3, .int (iI 1)), (0, .ref qa), (1, .ref na), (2, .int (iI xx))]) hx hb dL_refuses_1120 hl (by decide) rfl (fun ls hl => ?_)
        refine lv_aload_n hx hb dL_refuses_1122 rfl (lv_at hl 8 rfl) ?_
        refine lv_iload hx hb dL_refuses_1123 (lv_at hl 2 rfl) ?_
        refine lv_iload_n hx hb dL_refuses_1125 rfl (lv_at hl 7 rfl) ?_
        refine lv_if_eq (tgt := 1135) hx hb dL_refuses_1126 (by decide) (fun c9 => absurd c9 (by decide)) (fun _ => ?_)
        refine lv_iconst (v := iI (-1)) hx hb dL_refuses_1129 (by decide) ?_
        refine lv_iload_n hx hb dL_refuses_1130 rfl (lv_at hl 10 rfl) ?_
        refine y_sub hx hb dL_refuses_1131 ?_
        refine lv_goto (tgt := 1141) hx hb dL_refuses_1132 (by decide) ?_
        refine lv_iconst (v := iI 0) hx hb dL_refuses_1141 (by decide) ?_
        have B := bd_swap (a := []) (b := [(na, .inl (k 0, 4, .inl (fun i9 : Nat => iI (nf i9))))]) (d := tl2_1340) (bd_to rfl B)
        refine k_W (rest := []) (wc := ([] ++ tl2_1340)) (wr := [(na, .inl (k 0, 4, .inl (fun i9 : Nat => iI (nf i9))))]) (w_refers l dC dI k hl0 T K qa cp2_1339 tl2_1340 ((xx / 50) % (T 0 0 0 0)) ((-1) - xx) 0 z_1341 hQ (by omega) (by omega) (by omega)) B mW_L_refers mw_1090 hl ⟨Nat.le_of_ble_eq_true rfl, Nat.le_of_ble_eq_true rfl⟩ (Nat.le_of_ble_eq_true rfl) rfl dL_refuses_1142 ⟨by dsimp only; omega, by dsimp only; omega⟩ (fun r w gc gs H locs hp B => ?_)
        rcases hp with ⟨tl2_1349, z_1350, z_1351, rfl, hw9, rfl, rfl⟩ | ⟨tl2_1352, z_1353, z_1354, rfl, hw9, rfl, rfl⟩ | ⟨tl2_1355, z_1356, z_1357, rfl, hw9, rfl, rfl⟩
        · skip
          rw [hw9] at B; clear hw9
          have B := bd_to (ws' := ([(na, .inl (k 0, 4, .inl (fun i9 : Nat => iI (nf i9))))] ++ tl2_1349)) rfl B
          have hPS : PS dI k (puT T ((xx / 50) % (T 0 0 0 0)) ((-1) - xx) 0 (fun _ : Int => (0 : Int)) 0 (K 2) (gsZ T (fun _ : Int => (0 : Int)) ((0 : Nat) : Int))) (KKn (K 0 0) (K 1) (fun _ : Int => (-1))) qa cp2_1339 tl2_1349 := z_1350
          exfalso; omega
        · skip
          rw [hw9] at B; clear hw9
          have B := bd_to (ws' := ([(na, .inl (k 0, 4, .inl (fun i9 : Nat => iI (nf i9))))] ++ tl2_1352)) rfl B
          have hPS : PS dI k T K qa cp2_1339 tl2_1352 := z_1353
          refine W.widen (k := ((cp2_1339 - cp) + 110)) (n := ((12 * (cp2_1339 - cp)) + 1046)) (by omega) (by omega) ?_
          refine lv_ldc (v := (-2000000001)) hx hb B.1.2.2.2.1 (B.1.2.2.2.2.1 _ mw_593) dL_refuses_1145 ?_
          refine lv_seti (y := iI (-2000000001)) (by decide) ?_
          refine lv_icmp_ne (tgt := 1386) hx hb dL_refuses_1147 (by decide) (fun c9 => absurd c9 (by decide)) (fun _ => ?_)
          refine lv_aload_n hx hb dL_refuses_1150 rfl (lv_at hl 8 rfl) ?_
          refine lv_iload hx hb dL_refuses_1151 (lv_at hl 2 rfl) ?_
          refine lv_iload hx hb dL_refuses_1153 (lv_at hl 1 rfl) ?_
          refine lv_iload_n hx hb dL_refuses_1155 rfl (lv_at hl 10 rfl) ?_
          refine y_add hx hb dL_refuses_1156 ?_
          have B := bd_swap (a := []) (b := [(na, .inl (k 0, 4, .inl (fun i9 : Nat => iI (nf i9))))]) (d := tl2_1352) (bd_to rfl B)
          refine k_W (rest := []) (wc := ([] ++ tl2_1352)) (wr := [(na, .inl (k 0, 4, .inl (fun i9 : Nat => iI (nf i9))))]) (w_takes l dC dI k hl0 T K qa cp2_1339 tl2_1352 ((xx / 50) % (T 0 0 0 0)) ((T 3 ((xx / 50) % (T 0 0 0 0)) 0 0) + xx) z_1353 hQ (by omega) (by omega)) B mW_L_takes mw_1101 hl ⟨Nat.le_of_ble_eq_true rfl, Nat.le_of_ble_eq_true rfl⟩ (Nat.le_of_ble_eq_true rfl) rfl dL_refuses_1157 ⟨by dsimp only; omega, by dsimp only; omega⟩ (fun r w gc gs H locs hp B => ?_)
          rcases hp with ⟨tl2_1358, z_1359, z_1360, rfl, hw9, rfl, rfl⟩ | ⟨tl2_1361, z_1362, z_1363, rfl, hw9, rfl, rfl⟩
          · skip
            rw [hw9] at B; clear hw9
            have B := bd_to (ws' := ([(na, .inl (k 0, 4, .inl (fun i9 : Nat => iI (nf i9))))] ++ tl2_1358)) rfl B
            have hPS : PS dI k (tkT T ((xx / 50) % (T 0 0 0 0)) ((T 3 ((xx / 50) % (T 0 0 0 0)) 0 0) + xx)) K qa cp2_1339 tl2_1358 := z_1359
            exfalso; omega
          · skip
            rw [hw9] at B; clear hw9
            have B := bd_to (ws' := ([(na, .inl (k 0, 4, .inl (fun i9 : Nat => iI (nf i9))))] ++ tl2_1361)) rfl B
            have hPS : PS dI k T K qa cp2_1339 tl2_1361 := z_1362
            refine W.widen (k := ((cp2_1339 - cp) + 111)) (n := ((12 * (cp2_1339 - cp)) + 1086)) (by omega) (by omega) ?_
            refine lv_ldc (v := (-2000000001)) hx hb B.1.2.2.2.1 (B.1.2.2.2.2.1 _ mw_593) dL_refuses_1160 ?_
            refine lv_seti (y := iI (-2000000001)) (by decide) ?_
            refine lv_icmp_ne (tgt := 1386) hx hb dL_refuses_1162 (by decide) (fun c9 => absurd c9 (by decide)) (fun _ => ?_)
            refine lv_aload_n hx hb dL_refuses_1165 rfl (lv_at hl 8 rfl) ?_
            refine lv_iload hx hb dL_refuses_1166 (lv_at hl 2 rfl) ?_
            refine lv_iconst (v := iI (-1)) hx hb dL_refuses_1168 (by decide) ?_
            refine lv_iload_n hx hb dL_refuses_1169 rfl (lv_at hl 10 rfl) ?_
            refine y_sub hx hb dL_refuses_1170 ?_
            have B := bd_swap (a := []) (b := [(na, .inl (k 0, 4, .inl (fun i9 : Nat => iI (nf i9))))]) (d := tl2_1361) (bd_to rfl B)
            refine k_W (rest := []) (wc := ([] ++ tl2_1361)) (wr := [(na, .inl (k 0, 4, .inl (fun i9 : Nat => iI (nf i9))))]) (w_gaps l dC dI k hl0 T K qa cp2_1339 tl2_1361 ((xx / 50) % (T 0 0 0 0)) ((-1) - xx) z_1362 hQ (by omega) (by omega)) B mW_L_gaps mw_1273 hl ⟨Nat.le_of_ble_eq_true rfl, Nat.le_of_ble_eq_true rfl⟩ (Nat.le_of_ble_eq_true rfl) rfl dL_refuses_1171 ⟨by dsimp only; omega, by dsimp only; omega⟩ (fun r w gc gs H locs hp B => ?_)
            rcases hp with ⟨cp2_1364, tl2_1365, z_1366, z_1367, z_1368, rfl, hw9, rfl, rfl⟩ | ⟨cp2_1369, tl2_1370, z_1371, z_1372, z_1373, rfl, hw9, rfl, rfl⟩
            · skip
              rw [hw9] at B; clear hw9
              have B := bd_to (ws' := ([(na, .inl (k 0, 4, .inl (fun i9 : Nat => iI (nf i9))))] ++ tl2_1365)) rfl B
              have hPS : PS dI k T K qa cp2_1364 tl2_1365 := z_1366
              exfalso; omega
            · skip
              rw [hw9] at B; clear hw9
              have B := bd_to (ws' := ([(na, .inl (k 0, 4, .inl (fun i9 : Nat => iI (nf i9))))] ++ tl2_1370)) rfl B
              have hPS : PS dI k T K qa cp2_1369 tl2_1370 := z_1371
              refine W.widen (k := ((cp2_1369 - cp) + 112)) (n := ((12 * (cp2_1369 - cp)) + 1092)) (by omega) (by omega) ?_
              refine lv_ldc (v := (-2000000001)) hx hb B.1.2.2.2.1 (B.1.2.2.2.2.1 _ mw_593) dL_refuses_1174 ?_
              refine lv_seti (y := iI (-2000000001)) (by decide) ?_
              refine lv_icmp_ne (tgt := 1386) hx hb dL_refuses_1176 (by decide) (fun c9 => absurd c9 (by decide)) (fun _ => ?_)
              refine lv_aload_n hx hb dL_refuses_1179 rfl (lv_at hl 8 rfl) ?_
              refine lv_iload hx hb dL_refuses_1180 (lv_at hl 2 rfl) ?_
              refine lv_iload_n hx hb dL_refuses_1182 rfl (lv_at hl 7 rfl) ?_
              refine lv_if_eq (tgt := 1192) hx hb dL_refuses_1183 (by decide) (fun c9 => absurd c9 (by decide)) (fun _ => ?_)
              refine lv_iconst (v := iI (-1)) hx hb dL_refuses_1186 (by decide) ?_
              refine lv_iload_n hx hb dL_refuses_1187 rfl (lv_at hl 10 rfl) ?_
              refine y_sub hx hb dL_refuses_1188 ?_
              refine lv_goto (tgt := 1196) hx hb dL_refuses_1189 (by decide) ?_
              refine lv_iconst (v := iI 0) hx hb dL_refuses_1196 (by decide) ?_
              have z_1374 : (-1 ≤ lsZ ((-1) - xx) ∧ lsZ ((-1) - xx) ≤ 1) ∧ 1 ≤ msZ ((-1) - xx) ∧ msZ ((-1) - xx) ≤ 30 := ⟨lsZ_in, msZ_in⟩
              have B := bd_swap (a := []) (b := [(na, .inl (k 0, 4, .inl (fun i9 : Nat => iI (nf i9))))]) (d := tl2_1370) (bd_to rfl B)
              refine k_W (rest := []) (wc := ([] ++ tl2_1370)) (wr := [(na, .inl (k 0, 4, .inl (fun i9 : Nat => iI (nf i9))))]) (w_styles l dC dI k hl0 T K qa cp2_1369 tl2_1370 ((xx / 50) % (T 0 0 0 0)) ((-1) - xx) 0 z_1371 hQ (by omega) (by omega) (by omega)) B mW_L_styles mw_1204 hl ⟨Nat.le_of_ble_eq_true rfl, Nat.le_of_ble_eq_true rfl⟩ (Nat.le_of_ble_eq_true rfl) rfl dL_refuses_1197 ⟨by dsimp only; omega, by dsimp only; omega⟩ (fun r w gc gs H locs hp B => ?_)
              rcases hp with ⟨tl2_1375, z_1376, z_1377, rfl, hw9, rfl, rfl⟩ | ⟨tl2_1378, z_1379, z_1380, rfl, hw9, rfl, rfl⟩ | ⟨tl2_1381, z_1382, z_1383, rfl, hw9, rfl, rfl⟩
              · skip
                rw [hw9] at B; clear hw9
                have B := bd_to (ws' := ([(na, .inl (k 0, 4, .inl (fun i9 : Nat => iI (nf i9))))] ++ tl2_1375)) rfl B
                have hPS : PS dI k (stT T ((xx / 50) % (T 0 0 0 0)) ((-1) - xx) 0) K qa cp2_1369 tl2_1375 := z_1376
                exfalso; omega
              · skip
                rw [hw9] at B; clear hw9
                have B := bd_to (ws' := ([(na, .inl (k 0, 4, .inl (fun i9 : Nat => iI (nf i9))))] ++ tl2_1378)) rfl B
                have hPS : PS dI k T K qa cp2_1369 tl2_1378 := z_1379
                refine W.widen (k := ((cp2_1369 - cp) + 113)) (n := ((12 * (cp2_1369 - cp)) + 1098)) (by omega) (by omega) ?_
                refine lv_ldc (v := (-2000000001)) hx hb B.1.2.2.2.1 (B.1.2.2.2.2.1 _ mw_593) dL_refuses_1200 ?_
                refine lv_seti (y := iI (-2000000001)) (by decide) ?_
                refine lv_icmp_ne (tgt := 1386) hx hb dL_refuses_1202 (by decide) (fun c9 => absurd c9 (by decide)) (fun _ => ?_)
                refine lv_aload_n hx hb dL_refuses_1205 rfl (lv_at hl 8 rfl) ?_
                refine lv_iload hx hb dL_refuses_1206 (lv_at hl 2 rfl) ?_
                refine lv_iload_n hx hb dL_refuses_1208 rfl (lv_at hl 10 rfl) ?_
                refine lv_bipush (v := iI 7) hx hb dL_refuses_1209 (by decide) ?_
                refine y_rem hx hb (a := xx) (b := 7) (by omega) (by omega) dL_refuses_1211 ?_
                refine lv_iload_n hx hb dL_refuses_1212 rfl (lv_at hl 7 rfl) ?_
                refine lv_if_eq (tgt := 1223) hx hb dL_refuses_1213 (by decide) (fun c9 => absurd c9 (by decide)) (fun _ => ?_)
                refine lv_bipush (v := iI (-2)) hx hb dL_refuses_1216 (by decide) ?_
                refine lv_iload_n hx hb dL_refuses_1218 rfl (lv_at hl 10 rfl) ?_
                refine y_sub hx hb dL_refuses_1219 ?_
                refine lv_goto (tgt := 1227) hx hb dL_refuses_1220 (by decide) ?_
                have z_1384 : (-1 ≤ lsZ (xx % 7) ∧ lsZ (xx % 7) ≤ 1) ∧ 1 ≤ msZ (xx % 7) ∧ msZ (xx % 7) ≤ 30 := ⟨lsZ_in, msZ_in⟩
                have B := bd_swap (a := []) (b := [(na, .inl (k 0, 4, .inl (fun i9 : Nat => iI (nf i9))))]) (d := tl2_1378) (bd_to rfl B)
                refine k_W (rest := []) (wc := ([] ++ tl2_1378)) (wr := [(na, .inl (k 0, 4, .inl (fun i9 : Nat => iI (nf i9))))]) (w_styles l dC dI k hl0 T K qa cp2_1369 tl2_1378 ((xx / 50) % (T 0 0 0 0)) (xx % 7) ((-2) - xx) z_1379 hQ (by omega) (by omega) (by omega)) B mW_L_styles mw_1204 hl ⟨Nat.le_of_ble_eq_true rfl, Nat.le_of_ble_eq_true rfl⟩ (Nat.le_of_ble_eq_true rfl) rfl dL_refuses_1227 ⟨by dsimp only; omega, by dsimp only; omega⟩ (fun r w gc gs H locs hp B => ?_)
                rcases hp with ⟨tl2_1385, z_1386, z_1387, rfl, hw9, rfl, rfl⟩ | ⟨tl2_1388, z_1389, z_1390, rfl, hw9, rfl, rfl⟩ | ⟨tl2_1391, z_1392, z_1393, rfl, hw9, rfl, rfl⟩
                · skip
                  rw [hw9] at B; clear hw9
                  have B := bd_to (ws' := ([(na, .inl (k 0, 4, .inl (fun i9 : Nat => iI (nf i9))))] ++ tl2_1385)) rfl B
                  have hPS : PS dI k (stT T ((xx / 50) % (T 0 0 0 0)) (xx % 7) ((-2) - xx)) K qa cp2_1369 tl2_1385 := z_1386
                  exfalso; omega
                · skip
                  rw [hw9] at B; clear hw9
                  have B := bd_to (ws' := ([(na, .inl (k 0, 4, .inl (fun i9 : Nat => iI (nf i9))))] ++ tl2_1388)) rfl B
                  have hPS : PS dI k T K qa cp2_1369 tl2_1388 := z_1389
                  exfalso; omega
                · skip
                  rw [hw9] at B; clear hw9
                  have B := bd_to (ws' := ([(na, .inl (k 0, 4, .inl (fun i9 : Nat => iI (nf i9))))] ++ tl2_1391)) rfl B
                  have hPS : PS dI k T K qa cp2_1369 tl2_1391 := z_1392
                  refine W.widen (k := ((cp2_1369 - cp) + 114)) (n := ((12 * (cp2_1369 - cp)) + 1104)) (by omega) (by omega) ?_
                  refine lv_ldc (v := (-2000000002)) hx hb B.1.2.2.2.1 (B.1.2.2.2.2.1 _ mw_627) dL_refuses_1230 ?_
                  refine lv_seti (y := iI (-2000000002)) (by decide) ?_
                  refine lv_icmp_ne (tgt := 1386) hx hb dL_refuses_1232 (by decide) (fun c9 => absurd c9 (by decide)) (fun _ => ?_)
                  exact w_refuses_c1235_27 l dC dI k hl0 T K qa cp tl na nf xx cp2_1369 tl2_1391 (by omega) hPS hQ hx9 hn9 (by omega) zc_1325 z_1326 z_1327 z_1332 z_1338 (bd_to rfl B) hr hl
              · skip
                rw [hw9] at B; clear hw9
                have B := bd_to (ws' := ([(na, .inl (k 0, 4, .inl (fun i9 : Nat => iI (nf i9))))] ++ tl2_1381)) rfl B
                have hPS : PS dI k T K qa cp2_1369 tl2_1381 := z_1382
                exfalso; omega
        · skip
          rw [hw9] at B; clear hw9
          have B := bd_to (ws' := ([(na, .inl (k 0, 4, .inl (fun i9 : Nat => iI (nf i9))))] ++ tl2_1355)) rfl B
          have hPS : PS dI k T K qa cp2_1339 tl2_1355 := z_1356
          exfalso; omega
      · skip
        rw [hw9] at B; clear hw9
        have B := bd_to (ws' := ([(na, .inl (k 0, 4, .inl (fun i9 : Nat => iI (nf i9))))] ++ tl2_1345)) rfl B
        have hPS : PS dI k T K qa cp2_1344 tl2_1345 := z_1346
        exfalso; omega
    · skip
      rw [hw9] at B; clear hw9
      have B := bd_to (ws' := ([(na, .inl (k 0, 4, .inl (fun i9 : Nat => iI (nf i9))))] ++ tl2_1334)) rfl B
      have hPS : PS dI k T K qa cp2_1333 tl2_1334 := z_1335
      exfalso; omega

set_option maxHeartbeats 4000000 in
set_option maxRecDepth 100000 in
theorem w_refuses_c985_25 (l : Launch) (dC : Nat → ClassId) (dI : Nat → Nat → Nat) (k : Nat → ClassId) (hl0 : l.stackTraces = false) (T : Nat → Int → Int → Int → Int) (K : Nat → Int → Int) (qa : Nat) (cp : Nat) (tl : va_W) (na : Nat) (nf : Int → Int) (xx : Int) (cpS : Nat) (tlS : va_W) (hc0 : 512 ≤ cp ∧ cp ≤ 131072) (hPS : PS dI k T K qa cpS tlS) (hQ : OKT T K) (hx9 : 0 ≤ xx ∧ xx < 9973) (hn9 : nf 0 = T 0 0 0 0 ∧ nf 1 = K 0 0 ∧ nf 2 = T 12 0 0 0 ∧ nf 3 = T 18 0 0 0) (hcS : cp ≤ cpS ∧ cpS ≤ 131072) {p : Program} {e : Env} {s : State} {m : MethodId} {args : Array Value} {below : List Frame} {meth : Method} {c : Code} {H : Heap} {locs : List Loc} {ls : Array Slot} (B : bd p s m args meth c cL_refuses 11 yL_refuses.cls dC dI k (va_A ([(na, .inl (k 0, 4, .inl (fun i9 : Nat => iI (nf i9))))] ++ tl) s.heap.size) ([(na, .inl (k 0, 4, .inl (fun i9 : Nat => iI (nf i9))))] ++ tlS) H locs) (hr : meth.sig.returnType = (some .boolean)) (hl : lv_has ls 11 [(7, .int (iI 1)), (6, .int (iI ((-1) - (xx % 50)))), (5, .int (iI ((-1) - (xx % 50)))), (4, .int (iI ((-1) - (xx % 50)))), (3, .int (iI 1)), (0, .ref qa), (1, .ref na), (2, .int (iI xx))]) : W p l e ({ frames := 16, cells := ((131072 - cp) + 129), slots := ((12 * (131072 - cp)) + 1266), locals := 495 } : Room) s m args below meth c H locs ((cpS - cp) + 99) ((12 * (cpS - cp)) + 944) (MQ below (Qk dC dI ([(na, .inl (k 0, 4, .inl (fun i9 : Nat => iI (nf i9))))] ++ tl) s.heap.size (fun r w gc gs => (∃ (cp2 : Nat) (tl2 : va_W), (PS dI k T K qa cp2 tl2) ∧ (cp ≤ cp2 ∧ cp2 ≤ 131072) ∧ r = some (.int (iI 1)) ∧ w = ([(na, .inl (k 0, 4, .inl (fun i9 : Nat => iI (nf i9))))] ++ tl2) ∧ gc = ((cp2 - cp) + 129) ∧ gs = ((12 * (cp2 - cp)) + 1266)))) args s ({ frames := 16, cells := ((131072 - cp) + 129), slots := ((12 * (131072 - cp)) + 1266), locals := 495 } : Room).cells ({ frames := 16, cells := ((131072 - cp) + 129), slots := ((12 * (131072 - cp)) + 1266), locals := 495 } : Room).slots (va_A ([(na, .inl (k 0, 4, .inl (fun i9 : Nat => iI (nf i9))))] ++ tl) s.heap.size)) (F0 m 985 ls []) := by
  have hx := B.1.1
  have hb := B.1.2.1
  have hcp9 := PS_cp hPS
  have hn0 := TK_nb hQ.1
  have hk0 := hQ.2.1.1
  have hf0 := TK_fc hQ.1
  have hp0 := TK_np hQ.1
  have hm0 : lmZ 0 = 1 := rfl
  have hm1 : lmZ 1 = 0 := rfl
  have hm2 : lmZ 2 = 0 := rfl
  have hm3 : lmZ 3 = 0 := rfl
  have hm4 : lmZ 4 = 0 := rfl
  have hm5 : mmZ T 0 = 5 := rfl
  have hm6 : mmZ T 1 = T 12 0 0 0 - 1 := rfl
  have hm7 : mmZ T 2 = 5 := rfl
  have hm8 : mmZ T 3 = 7 := rfl
  have hm9 : mmZ T 4 = 1 := rfl
  refine lv_aload_n hx hb dL_refuses_985 rfl (lv_at hl 5 rfl) ?_
  refine lv_iconst (v := iI 0) hx hb dL_refuses_986 (by decide) ?_
  refine lv_iload_n hx hb dL_refuses_987 rfl (lv_at hl 4 rfl) ?_
  refine lv_if_eq (tgt := 997) hx hb dL_refuses_988 (by decide) (fun c9 => absurd c9 (by decide)) (fun _ => ?_)
  refine lv_iconst (v := iI (-1)) hx hb dL_refuses_991 (by decide) ?_
  refine lv_iload_n hx hb dL_refuses_992 rfl (lv_at hl 7 rfl) ?_
  refine y_sub hx hb dL_refuses_993 ?_
  refine lv_goto (tgt := 1001) hx hb dL_refuses_994 (by decide) ?_
  have z_1270 : haZ T 0 ((-1) - xx) = -1 ∨ ¬ (0 ≤ 0 ∧ 0 ≤ 1) := Or.inl (haZ_out hQ.1 (by omega))
  have B := bd_swap (a := []) (b := [(na, .inl (k 0, 4, .inl (fun i9 : Nat => iI (nf i9))))]) (d := tlS) (bd_to rfl B)
  refine k_W (rest := []) (wc := ([] ++ tlS)) (wr := [(na, .inl (k 0, 4, .inl (fun i9 : Nat => iI (nf i9))))]) (w_contents l dC dI k hl0 T K qa cpS tlS 0 ((-1) - xx) hPS hQ (by omega) (by omega)) B mW_L_contents mw_1815 hl ⟨Nat.le_of_ble_eq_true rfl, Nat.le_of_ble_eq_true rfl⟩ (Nat.le_of_ble_eq_true rfl) rfl dL_refuses_1001 ⟨by dsimp only; omega, by dsimp only; omega⟩ (fun r w gc gs H locs hp B => ?_)
  rcases hp with ⟨cp2_1271, tl2_1272, z_1273, z_1274, z_1275, rfl, hw9, rfl, rfl⟩ | ⟨cp2_1276, tl2_1277, z_1278, z_1279, z_1280, rfl, hw9, rfl, rfl⟩
  · skip
    rw [hw9] at B; clear hw9
    have B := bd_to (ws' := ([(na, .inl (k 0, 4, .inl (fun i9 : Nat => iI (nf i9))))] ++ tl2_1272)) rfl B
    have hPS : PS dI k T K qa cp2_1271 tl2_1272 := z_1273
    exfalso; omega
  · skip
    rw [hw9] at B; clear hw9
    have B := bd_to (ws' := ([(na, .inl (k 0, 4, .inl (fun i9 : Nat => iI (nf i9))))] ++ tl2_1277)) rfl B
    have hPS : PS dI k T K qa cp2_1276 tl2_1277 := z_1278
    refine W.widen (k := ((cp2_1276 - cp) + 100)) (n := ((12 * (cp2_1276 - cp)) + 950)) (by omega) (by omega) ?_
    refine lv_ldc (v := (-2000000001)) hx hb B.1.2.2.2.1 (B.1.2.2.2.2.1 _ mw_593) dL_refuses_1004 ?_
    refine lv_seti (y := iI (-2000000001)) (by decide) ?_
    refine lv_icmp_ne (tgt := 1081) hx hb dL_refuses_1006 (by decide) (fun c9 => absurd c9 (by decide)) (fun _ => ?_)
    refine lv_aload_n hx hb dL_refuses_1009 rfl (lv_at hl 5 rfl) ?_
    refine lv_iload hx hb dL_refuses_1010 (lv_at hl 3 rfl) ?_
    refine lv_iconst (v := iI 0) hx hb dL_refuses_1012 (by decide) ?_
    have z_1281 : ((0 : Int) < 0 ∨ (8 : Int) ≤ 0) → tmF T (moC T ((-1) - (xx % 50)) (dgN T ((-1) - (xx % 50)))) 0 8 0 = -1 := fun h9 => tmF_out h9
    have B := bd_swap (a := []) (b := [(na, .inl (k 0, 4, .inl (fun i9 : Nat => iI (nf i9))))]) (d := tl2_1277) (bd_to rfl B)
    refine k_W (rest := []) (wc := ([] ++ tl2_1277)) (wr := [(na, .inl (k 0, 4, .inl (fun i9 : Nat => iI (nf i9))))]) (w_term l dC dI k hl0 T K qa cp2_1276 tl2_1277 ((-1) - (xx % 50)) 0 z_1278 hQ (by omega) (by omega)) B mW_L_term mw_1827 hl ⟨Nat.le_of_ble_eq_true rfl, Nat.le_of_ble_eq_true rfl⟩ (Nat.le_of_ble_eq_true rfl) rfl dL_refuses_1013 ⟨by dsimp only; omega, by dsimp only; omega⟩ (fun r w gc gs H locs hp B => ?_)
    rcases hp with ⟨cp2_1282, tl2_1283, z_1284, z_1285, z_1286, rfl, hw9, rfl, rfl⟩ | ⟨cp2_1287, tl2_1288, z_1289, z_1290, z_1291, rfl, hw9, rfl, rfl⟩
    · skip
      rw [hw9] at B; clear hw9
      have B := bd_to (ws' := ([(na, .inl (k 0, 4, .inl (fun i9 : Nat => iI (nf i9))))] ++ tl2_1283)) rfl B
      have hPS : PS dI k T K qa cp2_1282 tl2_1283 := z_1284
      exfalso; omega
    · skip
      rw [hw9] at B; clear hw9
      have B := bd_to (ws' := ([(na, .inl (k 0, 4, .inl (fun i9 : Nat => iI (nf i9))))] ++ tl2_1288)) rfl B
      have hPS : PS dI k T K qa cp2_1287 tl2_1288 := z_1289
      refine W.widen (k := ((cp2_1287 - cp) + 101)) (n := ((12 * (cp2_1287 - cp)) + 956)) (by omega) (by omega) ?_
      refine lv_ldc (v := (-2000000001)) hx hb B.1.2.2.2.1 (B.1.2.2.2.2.1 _ mw_593) dL_refuses_1016 ?_
      refine lv_seti (y := iI (-2000000001)) (by decide) ?_
      refine lv_icmp_ne (tgt := 1081) hx hb dL_refuses_1018 (by decide) (fun c9 => absurd c9 (by decide)) (fun _ => ?_)
      refine lv_aload_n hx hb dL_refuses_1021 rfl (lv_at hl 5 rfl) ?_
      refine lv_iconst (v := iI 0) hx hb dL_refuses_1022 (by decide) ?_
      refine lv_iload_n hx hb dL_refuses_1023 rfl (lv_at hl 4 rfl) ?_
      refine lv_if_eq (tgt := 1033) hx hb dL_refuses_1024 (by decide) (fun c9 => absurd c9 (by decide)) (fun _ => ?_)
      refine lv_iconst (v := iI (-1)) hx hb dL_refuses_1027 (by decide) ?_
      refine lv_iload_n hx hb dL_refuses_1028 rfl (lv_at hl 7 rfl) ?_
      refine y_sub hx hb dL_refuses_1029 ?_
      refine lv_goto (tgt := 1037) hx hb dL_refuses_1030 (by decide) ?_
      have z_1292 : ((((-1) - xx) : Int) < 0 ∨ (8 : Int) ≤ ((-1) - xx)) → tmF T (moC T 0 (dgN T 0)) ((-1) - xx) 8 0 = -1 := fun h9 => tmF_out h9
      have B := bd_swap (a := []) (b := [(na, .inl (k 0, 4, .inl (fun i9 : Nat => iI (nf i9))))]) (d := tl2_1288) (bd_to rfl B)
      refine k_W (rest := []) (wc := ([] ++ tl2_1288)) (wr := [(na, .inl (k 0, 4, .inl (fun i9 : Nat => iI (nf i9))))]) (w_term l dC dI k hl0 T K qa cp2_1287 tl2_1288 0 ((-1) - xx) z_1289 hQ (by omega) (by omega)) B mW_L_term mw_1827 hl ⟨Nat.le_of_ble_eq_true rfl, Nat.le_of_ble_eq_true rfl⟩ (Nat.le_of_ble_eq_true rfl) rfl dL_refuses_1037 ⟨by dsimp only; omega, by dsimp only; omega⟩ (fun r w gc gs H locs hp B => ?_)
      rcases hp with ⟨cp2_1293, tl2_1294, z_1295, z_1296, z_1297, rfl, hw9, rfl, rfl⟩ | ⟨cp2_1298, tl2_1299, z_1300, z_1301, z_1302, rfl, hw9, rfl, rfl⟩
      · skip
        rw [hw9] at B; clear hw9
        have B := bd_to (ws' := ([(na, .inl (k 0, 4, .inl (fun i9 : Nat => iI (nf i9))))] ++ tl2_1294)) rfl B
        have hPS : PS dI k T K qa cp2_1293 tl2_1294 := z_1295
        exfalso; omega
      · skip
        rw [hw9] at B; clear hw9
        have B := bd_to (ws' := ([(na, .inl (k 0, 4, .inl (fun i9 : Nat => iI (nf i9))))] ++ tl2_1299)) rfl B
        have hPS : PS dI k T K qa cp2_1298 tl2_1299 := z_1300
        refine W.widen (k := ((cp2_1298 - cp) + 102)) (n := ((12 * (cp2_1298 - cp)) + 962)) (by omega) (by omega) ?_
        refine lv_ldc (v := (-2000000001)) hx hb B.1.2.2.2.1 (B.1.2.2.2.2.1 _ mw_593) dL_refuses_1040 ?_
        refine lv_seti (y := iI (-2000000001)) (by decide) ?_
        refine lv_icmp_ne (tgt := 1081) hx hb dL_refuses_1042 (by decide) (fun c9 => absurd c9 (by decide)) (fun _ => ?_)
        refine lv_aload_n hx hb dL_refuses_1045 rfl (lv_at hl 5 rfl) ?_
        refine lv_iconst (v := iI 0) hx hb dL_refuses_1046 (by decide) ?_
        refine lv_iload_n hx hb dL_refuses_1047 rfl (lv_at hl 7 rfl) ?_
        refine lv_bipush (v := iI 8) hx hb dL_refuses_1048 (by decide) ?_
        refine y_rem hx hb (a := xx) (b := 8) (by omega) (by omega) dL_refuses_1050 ?_
        refine lv_iconst (v := iI (-1)) hx hb dL_refuses_1051 (by decide) ?_
        refine lv_iload_n hx hb dL_refuses_1052 rfl (lv_at hl 7 rfl) ?_
        refine y_sub hx hb dL_refuses_1053 ?_
        have z_1303 : (((-1) - xx) : Int) < 0 → rgZ (fpZ T (moC T 0 (dgN T 0)) (mkZ T (moC T 0 (dgN T 0))) (xx % 8)) ((-1) - xx) (mkZ T (moC T 0 (dgN T 0)) 0 0) = -1 := fun h9 => rgZ_out h9
        have B := bd_swap (a := []) (b := [(na, .inl (k 0, 4, .inl (fun i9 : Nat => iI (nf i9))))]) (d := tl2_1299) (bd_to rfl B)
        refine k_W (rest := []) (wc := ([] ++ tl2_1299)) (wr := [(na, .inl (k 0, 4, .inl (fun i9 : Nat => iI (nf i9))))]) (w_range l dC dI k hl0 T K qa cp2_1298 tl2_1299 0 (xx % 8) ((-1) - xx) z_1300 hQ (by omega) (by omega) (by omega)) B mW_L_range mw_1843 hl ⟨Nat.le_of_ble_eq_true rfl, Nat.le_of_ble_eq_true rfl⟩ (Nat.le_of_ble_eq_true rfl) rfl dL_refuses_1054 ⟨by dsimp only; omega, by dsimp only; omega⟩ (fun r w gc gs H locs hp B => ?_)
        rcases hp with ⟨cp2_1304, tl2_1305, z_1306, z_1307, z_1308, rfl, hw9, rfl, rfl⟩ | ⟨cp2_1309, tl2_1310, z_1311, z_1312, z_1313, rfl, hw9, rfl, rfl⟩
        · skip
          rw [hw9] at B; clear hw9
          have B := bd_to (ws' := ([(na, .inl (k 0, 4, .inl (fun i9 : Nat => iI (nf i9))))] ++ tl2_1305)) rfl B
          have hPS : PS dI k T K qa cp2_1304 tl2_1305 := z_1306
          exfalso; omega
        · skip
          rw [hw9] at B; clear hw9
          have B := bd_to (ws' := ([(na, .inl (k 0, 4, .inl (fun i9 : Nat => iI (nf i9))))] ++ tl2_1310)) rfl B
          have hPS : PS dI k T K qa cp2_1309 tl2_1310 := z_1311
          refine W.widen (k := ((cp2_1309 - cp) + 103)) (n := ((12 * (cp2_1309 - cp)) + 968)) (by omega) (by omega) ?_
          refine lv_ldc (v := (-2000000001)) hx hb B.1.2.2.2.1 (B.1.2.2.2.2.1 _ mw_593) dL_refuses_1057 ?_
          refine lv_seti (y := iI (-2000000001)) (by decide) ?_
          refine lv_icmp_ne (tgt := 1081) hx hb dL_refuses_1059 (by decide) (fun c9 => absurd c9 (by decide)) (fun _ => ?_)
          refine lv_aload_n hx hb dL_refuses_1062 rfl (lv_at hl 5 rfl) ?_
          refine lv_iconst (v := iI 0) hx hb dL_refuses_1063 (by decide) ?_
          refine lv_bipush (v := iI 8) hx hb dL_refuses_1064 (by decide) ?_
          refine lv_iload_n hx hb dL_refuses_1066 rfl (lv_at hl 7 rfl) ?_
          refine y_add hx hb dL_refuses_1067 ?_
          refine lv_iconst (v := iI 0) hx hb dL_refuses_1068 (by decide) ?_
          have z_1314 : (0 : Int) < 0 → rgZ (fpZ T (moC T 0 (dgN T 0)) (mkZ T (moC T 0 (dgN T 0))) (8 + xx)) 0 (mkZ T (moC T 0 (dgN T 0)) 0 0) = -1 := fun h9 => rgZ_out h9
          have B := bd_swap (a := []) (b := [(na, .inl (k 0, 4, .inl (fun i9 : Nat => iI (nf i9))))]) (d := tl2_1310) (bd_to rfl B)
          refine k_W (rest := []) (wc := ([] ++ tl2_1310)) (wr := [(na, .inl (k 0, 4, .inl (fun i9 : Nat => iI (nf i9))))]) (w_range l dC dI k hl0 T K qa cp2_1309 tl2_1310 0 (8 + xx) 0 z_1311 hQ (by omega) (by omega) (by omega)) B mW_L_range mw_1843 hl ⟨Nat.le_of_ble_eq_true rfl, Nat.le_of_ble_eq_true rfl⟩ (Nat.le_of_ble_eq_true rfl) rfl dL_refuses_1069 ⟨by dsimp only; omega, by dsimp only; omega⟩ (fun r w gc gs H locs hp B => ?_)
          rcases hp with ⟨cp2_1315, tl2_1316, z_1317, z_1318, z_1319, rfl, hw9, rfl, rfl⟩ | ⟨cp2_1320, tl2_1321, z_1322, z_1323, z_1324, rfl, hw9, rfl, rfl⟩
          · skip
            rw [hw9] at B; clear hw9
            have B := bd_to (ws' := ([(na, .inl (k 0, 4, .inl (fun i9 : Nat => iI (nf i9))))] ++ tl2_1316)) rfl B
            have hPS : PS dI k T K qa cp2_1315 tl2_1316 := z_1317
            exfalso; omega
          · skip
            rw [hw9] at B; clear hw9
            have B := bd_to (ws' := ([(na, .inl (k 0, 4, .inl (fun i9 : Nat => iI (nf i9))))] ++ tl2_1321)) rfl B
            have hPS : PS dI k T K qa cp2_1320 tl2_1321 := z_1322
            refine W.widen (k := ((cp2_1320 - cp) + 104)) (n := ((12 * (cp2_1320 - cp)) + 974)) (by omega) (by omega) ?_
            refine lv_ldc (v := (-2000000001)) hx hb B.1.2.2.2.1 (B.1.2.2.2.2.1 _ mw_593) dL_refuses_1072 ?_
            refine lv_seti (y := iI (-2000000001)) (by decide) ?_
            refine lv_icmp_ne (tgt := 1081) hx hb dL_refuses_1074 (by decide) (fun c9 => absurd c9 (by decide)) (fun _ => ?_)
            exact w_refuses_c1077_26 l dC dI k hl0 T K qa cp tl na nf xx cp2_1320 tl2_1321 (by omega) hPS hQ hx9 hn9 (by omega)  (bd_to rfl B) hr hl

set_option maxHeartbeats 4000000 in
set_option maxRecDepth 100000 in
theorem w_refuses_c911_24 (l : Launch) (dC : Nat → ClassId) (dI : Nat → Nat → Nat) (k : Nat → ClassId) (hl0 : l.stackTraces = false) (T : Nat → Int → Int → Int → Int) (K : Nat → Int → Int) (qa : Nat) (cp : Nat) (tl : va_W) (na : Nat) (nf : Int → Int) (xx : Int) (cpS : Nat) (tlS : va_W) (hc0 : 512 ≤ cp ∧ cp ≤ 131072) (hPS : PS dI k T K qa cpS tlS) (hQ : OKT T K) (hx9 : 0 ≤ xx ∧ xx < 9973) (hn9 : nf 0 = T 0 0 0 0 ∧ nf 1 = K 0 0 ∧ nf 2 = T 12 0 0 0 ∧ nf 3 = T 18 0 0 0) (hcS : cp ≤ cpS ∧ cpS ≤ 131072) {p : Program} {e : Env} {s : State} {m : MethodId} {args : Array Value} {below : List Frame} {meth : Method} {c : Code} {H : Heap} {locs : List Loc} {ls : Array Slot} (B : bd p s m args meth c cL_refuses 11 yL_refuses.cls dC dI k (va_A ([(na, .inl (k 0, 4, .inl (fun i9 : Nat => iI (nf i9))))] ++ tl) s.heap.size) ([(na, .inl (k 0, 4, .inl (fun i9 : Nat => iI (nf i9))))] ++ tlS) H locs) (hr : meth.sig.returnType = (some .boolean)) (hl : lv_has ls 11 [(7, .int (iI 1)), (6, .int (iI ((-1) - (xx % 50)))), (5, .int (iI ((-1) - (xx % 50)))), (4, .int (iI ((-1) - (xx % 50)))), (3, .int (iI 1)), (0, .ref qa), (1, .ref na), (2, .int (iI xx))]) : W p l e ({ frames := 16, cells := ((131072 - cp) + 129), slots := ((12 * (131072 - cp)) + 1266), locals := 495 } : Room) s m args below meth c H locs ((cpS - cp) + 94) ((12 * (cpS - cp)) + 914) (MQ below (Qk dC dI ([(na, .inl (k 0, 4, .inl (fun i9 : Nat => iI (nf i9))))] ++ tl) s.heap.size (fun r w gc gs => (∃ (cp2 : Nat) (tl2 : va_W), (PS dI k T K qa cp2 tl2) ∧ (cp ≤ cp2 ∧ cp2 ≤ 131072) ∧ r = some (.int (iI 1)) ∧ w = ([(na, .inl (k 0, 4, .inl (fun i9 : Nat => iI (nf i9))))] ++ tl2) ∧ gc = ((cp2 - cp) + 129) ∧ gs = ((12 * (cp2 - cp)) + 1266)))) args s ({ frames := 16, cells := ((131072 - cp) + 129), slots := ((12 * (131072 - cp)) + 1266), locals := 495 } : Room).cells ({ frames := 16, cells := ((131072 - cp) + 129), slots := ((12 * (131072 - cp)) + 1266), locals := 495 } : Room).slots (va_A ([(na, .inl (k 0, 4, .inl (fun i9 : Nat => iI (nf i9))))] ++ tl) s.heap.size)) (F0 m 911 ls []) := by
  have hx := B.1.1
  have hb := B.1.2.1
  have hcp9 := PS_cp hPS
  have hn0 := TK_nb hQ.1
  have hk0 := hQ.2.1.1
  have hf0 := TK_fc hQ.1
  have hp0 := TK_np hQ.1
  have hm0 : lmZ 0 = 1 := rfl
  have hm1 : lmZ 1 = 0 := rfl
  have hm2 : lmZ 2 = 0 := rfl
  have hm3 : lmZ 3 = 0 := rfl
  have hm4 : lmZ 4 = 0 := rfl
  have hm5 : mmZ T 0 = 5 := rfl
  have hm6 : mmZ T 1 = T 12 0 0 0 - 1 := rfl
  have hm7 : mmZ T 2 = 5 := rfl
  have hm8 : mmZ T 3 = 7 := rfl
  have hm9 : mmZ T 4 = 1 := rfl
  refine lv_aload_n hx hb dL_refuses_911 rfl (lv_at hl 5 rfl) ?_
  refine lv_iload hx hb dL_refuses_912 (lv_at hl 3 rfl) ?_
  refine lv_iconst (v := iI 0) hx hb dL_refuses_914 (by decide) ?_
  refine lv_iconst (v := iI 0) hx hb dL_refuses_915 (by decide) ?_
  have B := bd_swap (a := []) (b := [(na, .inl (k 0, 4, .inl (fun i9 : Nat => iI (nf i9))))]) (d := tlS) (bd_to rfl B)
  refine k_W (rest := []) (wc := ([] ++ tlS)) (wr := [(na, .inl (k 0, 4, .inl (fun i9 : Nat => iI (nf i9))))]) (w_whereIs l dC dI k hl0 T K qa cpS tlS ((-1) - (xx % 50)) 0 0 hPS hQ (by omega) (by omega) (by omega)) B mW_L_whereIs mw_1791 hl ⟨Nat.le_of_ble_eq_true rfl, Nat.le_of_ble_eq_true rfl⟩ (Nat.le_of_ble_eq_true rfl) rfl dL_refuses_916 ⟨by dsimp only; omega, by dsimp only; omega⟩ (fun r w gc gs H locs hp B => ?_)
  rcases hp with ⟨cp2_1220, tl2_1221, z_1222, z_1223, z_1224, rfl, hw9, rfl, rfl⟩ | ⟨cp2_1225, tl2_1226, z_1227, z_1228, z_1229, rfl, hw9, rfl, rfl⟩
  · skip
    rw [hw9] at B; clear hw9
    have B := bd_to (ws' := ([(na, .inl (k 0, 4, .inl (fun i9 : Nat => iI (nf i9))))] ++ tl2_1221)) rfl B
    have hPS : PS dI k T K qa cp2_1220 tl2_1221 := z_1222
    exfalso; omega
  · skip
    rw [hw9] at B; clear hw9
    have B := bd_to (ws' := ([(na, .inl (k 0, 4, .inl (fun i9 : Nat => iI (nf i9))))] ++ tl2_1226)) rfl B
    have hPS : PS dI k T K qa cp2_1225 tl2_1226 := z_1227
    refine W.widen (k := ((cp2_1225 - cp) + 95)) (n := ((12 * (cp2_1225 - cp)) + 920)) (by omega) (by omega) ?_
    refine lv_ldc (v := (-2000000001)) hx hb B.1.2.2.2.1 (B.1.2.2.2.2.1 _ mw_593) dL_refuses_919 ?_
    refine lv_seti (y := iI (-2000000001)) (by decide) ?_
    refine lv_icmp_ne (tgt := 1081) hx hb dL_refuses_921 (by decide) (fun c9 => absurd c9 (by decide)) (fun _ => ?_)
    refine lv_aload_n hx hb dL_refuses_924 rfl (lv_at hl 5 rfl) ?_
    refine lv_iconst (v := iI 0) hx hb dL_refuses_925 (by decide) ?_
    refine lv_iload hx hb dL_refuses_926 (lv_at hl 2 rfl) ?_
    refine lv_iconst (v := iI 0) hx hb dL_refuses_928 (by decide) ?_
    have B := bd_swap (a := []) (b := [(na, .inl (k 0, 4, .inl (fun i9 : Nat => iI (nf i9))))]) (d := tl2_1226) (bd_to rfl B)
    refine k_W (rest := []) (wc := ([] ++ tl2_1226)) (wr := [(na, .inl (k 0, 4, .inl (fun i9 : Nat => iI (nf i9))))]) (w_whereIs l dC dI k hl0 T K qa cp2_1225 tl2_1226 0 ((-1) - (xx % 50)) 0 z_1227 hQ (by omega) (by omega) (by omega)) B mW_L_whereIs mw_1791 hl ⟨Nat.le_of_ble_eq_true rfl, Nat.le_of_ble_eq_true rfl⟩ (Nat.le_of_ble_eq_true rfl) rfl dL_refuses_929 ⟨by dsimp only; omega, by dsimp only; omega⟩ (fun r w gc gs H locs hp B => ?_)
    rcases hp with ⟨cp2_1230, tl2_1231, z_1232, z_1233, z_1234, rfl, hw9, rfl, rfl⟩ | ⟨cp2_1235, tl2_1236, z_1237, z_1238, z_1239, rfl, hw9, rfl, rfl⟩
    · skip
      rw [hw9] at B; clear hw9
      have B := bd_to (ws' := ([(na, .inl (k 0, 4, .inl (fun i9 : Nat => iI (nf i9))))] ++ tl2_1231)) rfl B
      have hPS : PS dI k T K qa cp2_1230 tl2_1231 := z_1232
      exfalso; omega
    · skip
      rw [hw9] at B; clear hw9
      have B := bd_to (ws' := ([(na, .inl (k 0, 4, .inl (fun i9 : Nat => iI (nf i9))))] ++ tl2_1236)) rfl B
      have hPS : PS dI k T K qa cp2_1235 tl2_1236 := z_1237
      refine W.widen (k := ((cp2_1235 - cp) + 96)) (n := ((12 * (cp2_1235 - cp)) + 926)) (by omega) (by omega) ?_
      refine lv_ldc (v := (-2000000001)) hx hb B.1.2.2.2.1 (B.1.2.2.2.2.1 _ mw_593) dL_refuses_932 ?_
      refine lv_seti (y := iI (-2000000001)) (by decide) ?_
      refine lv_icmp_ne (tgt := 1081) hx hb dL_refuses_934 (by decide) (fun c9 => absurd c9 (by decide)) (fun _ => ?_)
      refine lv_aload_n hx hb dL_refuses_937 rfl (lv_at hl 5 rfl) ?_
      refine lv_iconst (v := iI 0) hx hb dL_refuses_938 (by decide) ?_
      refine lv_iload hx hb dL_refuses_939 (lv_at hl 1 rfl) ?_
      have B := bd_swap (a := []) (b := [(na, .inl (k 0, 4, .inl (fun i9 : Nat => iI (nf i9))))]) (d := tl2_1236) (bd_to rfl B)
      refine k_W (rest := []) (wc := ([] ++ tl2_1236)) (wr := [(na, .inl (k 0, 4, .inl (fun i9 : Nat => iI (nf i9))))]) (w_figureAt l dC dI k hl0 T K qa cp2_1235 tl2_1236 0 ((-1) - (xx % 50)) z_1237 hQ (by omega) (by omega)) B mW_L_figureAt mw_1799 hl ⟨Nat.le_of_ble_eq_true rfl, Nat.le_of_ble_eq_true rfl⟩ (Nat.le_of_ble_eq_true rfl) rfl dL_refuses_941 ⟨by dsimp only; omega, by dsimp only; omega⟩ (fun r w gc gs H locs hp B => ?_)
      rcases hp with ⟨cp2_1240, tl2_1241, z_1242, z_1243, z_1244, rfl, hw9, rfl, rfl⟩ | ⟨cp2_1245, tl2_1246, z_1247, z_1248, z_1249, rfl, hw9, rfl, rfl⟩
      · skip
        rw [hw9] at B; clear hw9
        have B := bd_to (ws' := ([(na, .inl (k 0, 4, .inl (fun i9 : Nat => iI (nf i9))))] ++ tl2_1241)) rfl B
        have hPS : PS dI k T K qa cp2_1240 tl2_1241 := z_1242
        exfalso; omega
      · skip
        rw [hw9] at B; clear hw9
        have B := bd_to (ws' := ([(na, .inl (k 0, 4, .inl (fun i9 : Nat => iI (nf i9))))] ++ tl2_1246)) rfl B
        have hPS : PS dI k T K qa cp2_1245 tl2_1246 := z_1247
        refine W.widen (k := ((cp2_1245 - cp) + 97)) (n := ((12 * (cp2_1245 - cp)) + 932)) (by omega) (by omega) ?_
        refine lv_ldc (v := (-2000000001)) hx hb B.1.2.2.2.1 (B.1.2.2.2.2.1 _ mw_593) dL_refuses_944 ?_
        refine lv_seti (y := iI (-2000000001)) (by decide) ?_
        refine lv_icmp_ne (tgt := 1081) hx hb dL_refuses_946 (by decide) (fun c9 => absurd c9 (by decide)) (fun _ => ?_)
        refine lv_aload_n hx hb dL_refuses_949 rfl (lv_at hl 5 rfl) ?_
        refine lv_iconst (v := iI 0) hx hb dL_refuses_950 (by decide) ?_
        refine lv_iload_n hx hb dL_refuses_951 rfl (lv_at hl 4 rfl) ?_
        refine lv_if_eq (tgt := 961) hx hb dL_refuses_952 (by decide) (fun c9 => absurd c9 (by decide)) (fun _ => ?_)
        refine lv_iconst (v := iI (-1)) hx hb dL_refuses_955 (by decide) ?_
        refine lv_iload_n hx hb dL_refuses_956 rfl (lv_at hl 7 rfl) ?_
        refine y_sub hx hb dL_refuses_957 ?_
        refine lv_goto (tgt := 965) hx hb dL_refuses_958 (by decide) ?_
        have B := bd_swap (a := []) (b := [(na, .inl (k 0, 4, .inl (fun i9 : Nat => iI (nf i9))))]) (d := tl2_1246) (bd_to rfl B)
        refine k_W (rest := []) (wc := ([] ++ tl2_1246)) (wr := [(na, .inl (k 0, 4, .inl (fun i9 : Nat => iI (nf i9))))]) (w_label l dC dI k hl0 T K qa cp2_1245 tl2_1246 0 ((-1) - xx) z_1247 hQ (by omega) (by omega)) B mW_L_label mw_1807 hl ⟨Nat.le_of_ble_eq_true rfl, Nat.le_of_ble_eq_true rfl⟩ (Nat.le_of_ble_eq_true rfl) rfl dL_refuses_965 ⟨by dsimp only; omega, by dsimp only; omega⟩ (fun r w gc gs H locs hp B => ?_)
        rcases hp with ⟨cp2_1250, tl2_1251, z_1252, z_1253, z_1254, rfl, hw9, rfl, rfl⟩ | ⟨cp2_1255, tl2_1256, z_1257, z_1258, z_1259, rfl, hw9, rfl, rfl⟩
        · skip
          rw [hw9] at B; clear hw9
          have B := bd_to (ws' := ([(na, .inl (k 0, 4, .inl (fun i9 : Nat => iI (nf i9))))] ++ tl2_1251)) rfl B
          have hPS : PS dI k T K qa cp2_1250 tl2_1251 := z_1252
          exfalso; omega
        · skip
          rw [hw9] at B; clear hw9
          have B := bd_to (ws' := ([(na, .inl (k 0, 4, .inl (fun i9 : Nat => iI (nf i9))))] ++ tl2_1256)) rfl B
          have hPS : PS dI k T K qa cp2_1255 tl2_1256 := z_1257
          refine W.widen (k := ((cp2_1255 - cp) + 98)) (n := ((12 * (cp2_1255 - cp)) + 938)) (by omega) (by omega) ?_
          refine lv_ldc (v := (-2000000001)) hx hb B.1.2.2.2.1 (B.1.2.2.2.2.1 _ mw_593) dL_refuses_968 ?_
          refine lv_seti (y := iI (-2000000001)) (by decide) ?_
          refine lv_icmp_ne (tgt := 1081) hx hb dL_refuses_970 (by decide) (fun c9 => absurd c9 (by decide)) (fun _ => ?_)
          refine lv_aload_n hx hb dL_refuses_973 rfl (lv_at hl 5 rfl) ?_
          refine lv_iload hx hb dL_refuses_974 (lv_at hl 3 rfl) ?_
          refine lv_iconst (v := iI 0) hx hb dL_refuses_976 (by decide) ?_
          have B := bd_swap (a := []) (b := [(na, .inl (k 0, 4, .inl (fun i9 : Nat => iI (nf i9))))]) (d := tl2_1256) (bd_to rfl B)
          refine k_W (rest := []) (wc := ([] ++ tl2_1256)) (wr := [(na, .inl (k 0, 4, .inl (fun i9 : Nat => iI (nf i9))))]) (w_label l dC dI k hl0 T K qa cp2_1255 tl2_1256 ((-1) - (xx % 50)) 0 z_1257 hQ (by omega) (by omega)) B mW_L_label mw_1807 hl ⟨Nat.le_of_ble_eq_true rfl, Nat.le_of_ble_eq_true rfl⟩ (Nat.le_of_ble_eq_true rfl) rfl dL_refuses_977 ⟨by dsimp only; omega, by dsimp only; omega⟩ (fun r w gc gs H locs hp B => ?_)
          rcases hp with ⟨cp2_1260, tl2_1261, z_1262, z_1263, z_1264, rfl, hw9, rfl, rfl⟩ | ⟨cp2_1265, tl2_1266, z_1267, z_1268, z_1269, rfl, hw9, rfl, rfl⟩
          · skip
            rw [hw9] at B; clear hw9
            have B := bd_to (ws' := ([(na, .inl (k 0, 4, .inl (fun i9 : Nat => iI (nf i9))))] ++ tl2_1261)) rfl B
            have hPS : PS dI k T K qa cp2_1260 tl2_1261 := z_1262
            exfalso; omega
          · skip
            rw [hw9] at B; clear hw9
            have B := bd_to (ws' := ([(na, .inl (k 0, 4, .inl (fun i9 : Nat => iI (nf i9))))] ++ tl2_1266)) rfl B
            have hPS : PS dI k T K qa cp2_1265 tl2_1266 := z_1267
            refine W.widen (k := ((cp2_1265 - cp) + 99)) (n := ((12 * (cp2_1265 - cp)) + 944)) (by omega) (by omega) ?_
            refine lv_ldc (v := (-2000000001)) hx hb B.1.2.2.2.1 (B.1.2.2.2.2.1 _ mw_593) dL_refuses_980 ?_
            refine lv_seti (y := iI (-2000000001)) (by decide) ?_
            refine lv_icmp_ne (tgt := 1081) hx hb dL_refuses_982 (by decide) (fun c9 => absurd c9 (by decide)) (fun _ => ?_)
            exact w_refuses_c985_25 l dC dI k hl0 T K qa cp tl na nf xx cp2_1265 tl2_1266 (by omega) hPS hQ hx9 hn9 (by omega)  (bd_to rfl B) hr hl

set_option maxHeartbeats 4000000 in
set_option maxRecDepth 100000 in
theorem w_refuses_c835_23 (l : Launch) (dC : Nat → ClassId) (dI : Nat → Nat → Nat) (k : Nat → ClassId) (hl0 : l.stackTraces = false) (T : Nat → Int → Int → Int → Int) (K : Nat → Int → Int) (qa : Nat) (cp : Nat) (tl : va_W) (na : Nat) (nf : Int → Int) (xx : Int) (cpS : Nat) (tlS : va_W) (hc0 : 512 ≤ cp ∧ cp ≤ 131072) (hPS : PS dI k T K qa cpS tlS) (hQ : OKT T K) (hx9 : 0 ≤ xx ∧ xx < 9973) (hn9 : nf 0 = T 0 0 0 0 ∧ nf 1 = K 0 0 ∧ nf 2 = T 12 0 0 0 ∧ nf 3 = T 18 0 0 0) (hcS : cp ≤ cpS ∧ cpS ≤ 131072) {p : Program} {e : Env} {s : State} {m : MethodId} {args : Array Value} {below : List Frame} {meth : Method} {c : Code} {H : Heap} {locs : List Loc} {ls : Array Slot} (B : bd p s m args meth c cL_refuses 11 yL_refuses.cls dC dI k (va_A ([(na, .inl (k 0, 4, .inl (fun i9 : Nat => iI (nf i9))))] ++ tl) s.heap.size) ([(na, .inl (k 0, 4, .inl (fun i9 : Nat => iI (nf i9))))] ++ tlS) H locs) (hr : meth.sig.returnType = (some .boolean)) (hl : lv_has ls 11 [(7, .int (iI 1)), (6, .int (iI ((-1) - (xx % 50)))), (5, .int (iI ((-1) - (xx % 50)))), (4, .int (iI ((-1) - (xx % 50)))), (3, .int (iI 1)), (0, .ref qa), (1, .ref na), (2, .int (iI xx))]) : W p l e ({ frames := 16, cells := ((131072 - cp) + 129), slots := ((12 * (131072 - cp)) + 1266), locals := 495 } : Room) s m args below meth c H locs ((cpS - cp) + 88) ((12 * (cpS - cp)) + 878) (MQ below (Qk dC dI ([(na, .inl (k 0, 4, .inl (fun i9 : Nat => iI (nf i9))))] ++ tl) s.heap.size (fun r w gc gs => (∃ (cp2 : Nat) (tl2 : va_W), (PS dI k T K qa cp2 tl2) ∧ (cp ≤ cp2 ∧ cp2 ≤ 131072) ∧ r = some (.int (iI 1)) ∧ w = ([(na, .inl (k 0, 4, .inl (fun i9 : Nat => iI (nf i9))))] ++ tl2) ∧ gc = ((cp2 - cp) + 129) ∧ gs = ((12 * (cp2 - cp)) + 1266)))) args s ({ frames := 16, cells := ((131072 - cp) + 129), slots := ((12 * (131072 - cp)) + 1266), locals := 495 } : Room).cells ({ frames := 16, cells := ((131072 - cp) + 129), slots := ((12 * (131072 - cp)) + 1266), locals := 495 } : Room).slots (va_A ([(na, .inl (k 0, 4, .inl (fun i9 : Nat => iI (nf i9))))] ++ tl) s.heap.size)) (F0 m 835 ls []) := by
  have hx := B.1.1
  have hb := B.1.2.1
  have hcp9 := PS_cp hPS
  have hn0 := TK_nb hQ.1
  have hk0 := hQ.2.1.1
  have hf0 := TK_fc hQ.1
  have hp0 := TK_np hQ.1
  have hm0 : lmZ 0 = 1 := rfl
  have hm1 : lmZ 1 = 0 := rfl
  have hm2 : lmZ 2 = 0 := rfl
  have hm3 : lmZ 3 = 0 := rfl
  have hm4 : lmZ 4 = 0 := rfl
  have hm5 : mmZ T 0 = 5 := rfl
  have hm6 : mmZ T 1 = T 12 0 0 0 - 1 := rfl
  have hm7 : mmZ T 2 = 5 := rfl
  have hm8 : mmZ T 3 = 7 := rfl
  have hm9 : mmZ T 4 = 1 := rfl
  refine lv_aload_n hx hb dL_refuses_835 rfl (lv_at hl 5 rfl) ?_
  refine lv_iload hx hb dL_refuses_836 (lv_at hl 3 rfl) ?_
  have B := bd_swap (a := []) (b := [(na, .inl (k 0, 4, .inl (fun i9 : Nat => iI (nf i9))))]) (d := tlS) (bd_to rfl B)
  refine k_W (rest := []) (wc := ([] ++ tlS)) (wr := [(na, .inl (k 0, 4, .inl (fun i9 : Nat => iI (nf i9))))]) (w_settled l dC dI k hl0 T K qa cpS tlS ((-1) - (xx % 50)) hPS hQ (by omega)) B mW_L_settled mw_1749 hl ⟨Nat.le_of_ble_eq_true rfl, Nat.le_of_ble_eq_true rfl⟩ (Nat.le_of_ble_eq_true rfl) rfl dL_refuses_838 ⟨by dsimp only; omega, by dsimp only; omega⟩ (fun r w gc gs H locs hp B => ?_)
  rcases hp with ⟨cp2_1170, tl2_1171, z_1172, z_1173, z_1174, rfl, hw9, rfl, rfl⟩ | ⟨cp2_1175, tl2_1176, z_1177, z_1178, z_1179, rfl, hw9, rfl, rfl⟩
  · skip
    rw [hw9] at B; clear hw9
    have B := bd_to (ws' := ([(na, .inl (k 0, 4, .inl (fun i9 : Nat => iI (nf i9))))] ++ tl2_1171)) rfl B
    have hPS : PS dI k T K qa cp2_1170 tl2_1171 := z_1172
    exfalso; omega
  · skip
    rw [hw9] at B; clear hw9
    have B := bd_to (ws' := ([(na, .inl (k 0, 4, .inl (fun i9 : Nat => iI (nf i9))))] ++ tl2_1176)) rfl B
    have hPS : PS dI k T K qa cp2_1175 tl2_1176 := z_1177
    refine W.widen (k := ((cp2_1175 - cp) + 89)) (n := ((12 * (cp2_1175 - cp)) + 884)) (by omega) (by omega) ?_
    refine lv_ldc (v := (-2000000001)) hx hb B.1.2.2.2.1 (B.1.2.2.2.2.1 _ mw_593) dL_refuses_841 ?_
    refine lv_seti (y := iI (-2000000001)) (by decide) ?_
    refine lv_icmp_ne (tgt := 1081) hx hb dL_refuses_843 (by decide) (fun c9 => absurd c9 (by decide)) (fun _ => ?_)
    refine lv_aload_n hx hb dL_refuses_846 rfl (lv_at hl 5 rfl) ?_
    refine lv_iconst (v := iI 0) hx hb dL_refuses_847 (by decide) ?_
    refine lv_iload_n hx hb dL_refuses_848 rfl (lv_at hl 4 rfl) ?_
    refine lv_if_eq (tgt := 857) hx hb dL_refuses_849 (by decide) (fun c9 => absurd c9 (by decide)) (fun _ => ?_)
    refine lv_iload_n hx hb dL_refuses_852 rfl (lv_at hl 7 rfl) ?_
    refine y_neg hx hb dL_refuses_853 ?_
    refine lv_goto (tgt := 866) hx hb dL_refuses_854 (by decide) ?_
    refine lv_iconst (v := iI 0) hx hb dL_refuses_866 (by decide) ?_
    have B := bd_swap (a := []) (b := [(na, .inl (k 0, 4, .inl (fun i9 : Nat => iI (nf i9))))]) (d := tl2_1176) (bd_to rfl B)
    refine k_W (rest := []) (wc := ([] ++ tl2_1176)) (wr := [(na, .inl (k 0, 4, .inl (fun i9 : Nat => iI (nf i9))))]) (w_on l dC dI k hl0 T K qa cp2_1175 tl2_1176 0 (-xx) 0 z_1177 hQ (by omega) (by omega) (by omega) (by omega)) B mW_L_on mw_1756 hl ⟨Nat.le_of_ble_eq_true rfl, Nat.le_of_ble_eq_true rfl⟩ (Nat.le_of_ble_eq_true rfl) rfl dL_refuses_867 ⟨by dsimp only; omega, by dsimp only; omega⟩ (fun r w gc gs H locs hp B => ?_)
    rcases hp with ⟨cp2_1180, tl2_1181, z_1182, z_1183, z_1184, rfl, hw9, rfl, rfl⟩ | ⟨cp2_1185, tl2_1186, z_1187, z_1188, z_1189, rfl, hw9, rfl, rfl⟩
    · skip
      rw [hw9] at B; clear hw9
      have B := bd_to (ws' := ([(na, .inl (k 0, 4, .inl (fun i9 : Nat => iI (nf i9))))] ++ tl2_1181)) rfl B
      have hPS : PS dI k T K qa cp2_1180 tl2_1181 := z_1182
      exfalso; omega
    · skip
      rw [hw9] at B; clear hw9
      have B := bd_to (ws' := ([(na, .inl (k 0, 4, .inl (fun i9 : Nat => iI (nf i9))))] ++ tl2_1186)) rfl B
      have hPS : PS dI k T K qa cp2_1185 tl2_1186 := z_1187
      refine W.widen (k := ((cp2_1185 - cp) + 91)) (n := ((12 * (cp2_1185 - cp)) + 896)) (by omega) (by omega) ?_
      refine lv_ldc (v := (-2000000001)) hx hb B.1.2.2.2.1 (B.1.2.2.2.2.1 _ mw_593) dL_refuses_870 ?_
      refine lv_seti (y := iI (-2000000001)) (by decide) ?_
      refine lv_icmp_ne (tgt := 1081) hx hb dL_refuses_872 (by decide) (fun c9 => absurd c9 (by decide)) (fun _ => ?_)
      refine lv_aload_n hx hb dL_refuses_875 rfl (lv_at hl 5 rfl) ?_
      refine lv_iload hx hb dL_refuses_876 (lv_at hl 3 rfl) ?_
      refine lv_iconst (v := iI 1) hx hb dL_refuses_878 (by decide) ?_
      have B := bd_swap (a := []) (b := [(na, .inl (k 0, 4, .inl (fun i9 : Nat => iI (nf i9))))]) (d := tl2_1186) (bd_to rfl B)
      refine k_W (rest := []) (wc := ([] ++ tl2_1186)) (wr := [(na, .inl (k 0, 4, .inl (fun i9 : Nat => iI (nf i9))))]) (w_head l dC dI k hl0 T K qa cp2_1185 tl2_1186 ((-1) - (xx % 50)) 1 z_1187 hQ (by omega) (by omega)) B mW_L_head mw_1768 hl ⟨Nat.le_of_ble_eq_true rfl, Nat.le_of_ble_eq_true rfl⟩ (Nat.le_of_ble_eq_true rfl) rfl dL_refuses_879 ⟨by dsimp only; omega, by dsimp only; omega⟩ (fun r w gc gs H locs hp B => ?_)
      rcases hp with ⟨cp2_1190, tl2_1191, z_1192, z_1193, z_1194, rfl, hw9, rfl, rfl⟩ | ⟨cp2_1195, tl2_1196, z_1197, z_1198, z_1199, rfl, hw9, rfl, rfl⟩
      · skip
        rw [hw9] at B; clear hw9
        have B := bd_to (ws' := ([(na, .inl (k 0, 4, .inl (fun i9 : Nat => iI (nf i9))))] ++ tl2_1191)) rfl B
        have hPS : PS dI k T K qa cp2_1190 tl2_1191 := z_1192
        exfalso; omega
      · skip
        rw [hw9] at B; clear hw9
        have B := bd_to (ws' := ([(na, .inl (k 0, 4, .inl (fun i9 : Nat => iI (nf i9))))] ++ tl2_1196)) rfl B
        have hPS : PS dI k T K qa cp2_1195 tl2_1196 := z_1197
        refine W.widen (k := ((cp2_1195 - cp) + 92)) (n := ((12 * (cp2_1195 - cp)) + 902)) (by omega) (by omega) ?_
        refine lv_ldc (v := (-2000000001)) hx hb B.1.2.2.2.1 (B.1.2.2.2.2.1 _ mw_593) dL_refuses_882 ?_
        refine lv_seti (y := iI (-2000000001)) (by decide) ?_
        refine lv_icmp_ne (tgt := 1081) hx hb dL_refuses_884 (by decide) (fun c9 => absurd c9 (by decide)) (fun _ => ?_)
        refine lv_aload_n hx hb dL_refuses_887 rfl (lv_at hl 5 rfl) ?_
        refine lv_iconst (v := iI 1) hx hb dL_refuses_888 (by decide) ?_
        refine lv_iload_n hx hb dL_refuses_889 rfl (lv_at hl 7 rfl) ?_
        refine y_neg hx hb dL_refuses_890 ?_
        have B := bd_swap (a := []) (b := [(na, .inl (k 0, 4, .inl (fun i9 : Nat => iI (nf i9))))]) (d := tl2_1196) (bd_to rfl B)
        refine k_W (rest := []) (wc := ([] ++ tl2_1196)) (wr := [(na, .inl (k 0, 4, .inl (fun i9 : Nat => iI (nf i9))))]) (w_head l dC dI k hl0 T K qa cp2_1195 tl2_1196 1 (-xx) z_1197 hQ (by omega) (by omega)) B mW_L_head mw_1768 hl ⟨Nat.le_of_ble_eq_true rfl, Nat.le_of_ble_eq_true rfl⟩ (Nat.le_of_ble_eq_true rfl) rfl dL_refuses_891 ⟨by dsimp only; omega, by dsimp only; omega⟩ (fun r w gc gs H locs hp B => ?_)
        rcases hp with ⟨cp2_1200, tl2_1201, z_1202, z_1203, z_1204, rfl, hw9, rfl, rfl⟩ | ⟨cp2_1205, tl2_1206, z_1207, z_1208, z_1209, rfl, hw9, rfl, rfl⟩
        · skip
          rw [hw9] at B; clear hw9
          have B := bd_to (ws' := ([(na, .inl (k 0, 4, .inl (fun i9 : Nat => iI (nf i9))))] ++ tl2_1201)) rfl B
          have hPS : PS dI k T K qa cp2_1200 tl2_1201 := z_1202
          exfalso; omega
        · skip
          rw [hw9] at B; clear hw9
          have B := bd_to (ws' := ([(na, .inl (k 0, 4, .inl (fun i9 : Nat => iI (nf i9))))] ++ tl2_1206)) rfl B
          have hPS : PS dI k T K qa cp2_1205 tl2_1206 := z_1207
          refine W.widen (k := ((cp2_1205 - cp) + 93)) (n := ((12 * (cp2_1205 - cp)) + 908)) (by omega) (by omega) ?_
          refine lv_ldc (v := (-2000000001)) hx hb B.1.2.2.2.1 (B.1.2.2.2.2.1 _ mw_593) dL_refuses_894 ?_
          refine lv_seti (y := iI (-2000000001)) (by decide) ?_
          refine lv_icmp_ne (tgt := 1081) hx hb dL_refuses_896 (by decide) (fun c9 => absurd c9 (by decide)) (fun _ => ?_)
          refine lv_aload_n hx hb dL_refuses_899 rfl (lv_at hl 5 rfl) ?_
          refine lv_iconst (v := iI 0) hx hb dL_refuses_900 (by decide) ?_
          refine lv_iconst (v := iI 0) hx hb dL_refuses_901 (by decide) ?_
          refine lv_iconst (v := iI 0) hx hb dL_refuses_902 (by decide) ?_
          have B := bd_swap (a := []) (b := [(na, .inl (k 0, 4, .inl (fun i9 : Nat => iI (nf i9))))]) (d := tl2_1206) (bd_to rfl B)
          refine k_W (rest := []) (wc := ([] ++ tl2_1206)) (wr := [(na, .inl (k 0, 4, .inl (fun i9 : Nat => iI (nf i9))))]) (w_textAt l dC dI k hl0 T K qa cp2_1205 tl2_1206 0 0 0 z_1207 hQ (by omega) (by omega) (by omega)) B mW_L_textAt mw_1784 hl ⟨Nat.le_of_ble_eq_true rfl, Nat.le_of_ble_eq_true rfl⟩ (Nat.le_of_ble_eq_true rfl) rfl dL_refuses_903 ⟨by dsimp only; omega, by dsimp only; omega⟩ (fun r w gc gs H locs hp B => ?_)
          rcases hp with ⟨cp2_1210, tl2_1211, z_1212, z_1213, z_1214, rfl, hw9, rfl, rfl⟩ | ⟨cp2_1215, tl2_1216, z_1217, z_1218, z_1219, rfl, hw9, rfl, rfl⟩
          · skip
            rw [hw9] at B; clear hw9
            have B := bd_to (ws' := ([(na, .inl (k 0, 4, .inl (fun i9 : Nat => iI (nf i9))))] ++ tl2_1211)) rfl B
            have hPS : PS dI k T K qa cp2_1210 tl2_1211 := z_1212
            exfalso; omega
          · skip
            rw [hw9] at B; clear hw9
            have B := bd_to (ws' := ([(na, .inl (k 0, 4, .inl (fun i9 : Nat => iI (nf i9))))] ++ tl2_1216)) rfl B
            have hPS : PS dI k T K qa cp2_1215 tl2_1216 := z_1217
            refine W.widen (k := ((cp2_1215 - cp) + 94)) (n := ((12 * (cp2_1215 - cp)) + 914)) (by omega) (by omega) ?_
            refine lv_ldc (v := (-2000000001)) hx hb B.1.2.2.2.1 (B.1.2.2.2.2.1 _ mw_593) dL_refuses_906 ?_
            refine lv_seti (y := iI (-2000000001)) (by decide) ?_
            refine lv_icmp_ne (tgt := 1081) hx hb dL_refuses_908 (by decide) (fun c9 => absurd c9 (by decide)) (fun _ => ?_)
            exact w_refuses_c911_24 l dC dI k hl0 T K qa cp tl na nf xx cp2_1215 tl2_1216 (by omega) hPS hQ hx9 hn9 (by omega)  (bd_to rfl B) hr hl

set_option maxHeartbeats 4000000 in
set_option maxRecDepth 100000 in
theorem w_refuses_c777_22 (l : Launch) (dC : Nat → ClassId) (dI : Nat → Nat → Nat) (k : Nat → ClassId) (hl0 : l.stackTraces = false) (T : Nat → Int → Int → Int → Int) (K : Nat → Int → Int) (qa : Nat) (cp : Nat) (tl : va_W) (na : Nat) (nf : Int → Int) (xx : Int) (cpS : Nat) (tlS : va_W) (hc0 : 512 ≤ cp ∧ cp ≤ 131072) (hPS : PS dI k T K qa cpS tlS) (hQ : OKT T K) (hx9 : 0 ≤ xx ∧ xx < 9973) (hn9 : nf 0 = T 0 0 0 0 ∧ nf 1 = K 0 0 ∧ nf 2 = T 12 0 0 0 ∧ nf 3 = T 18 0 0 0) (hcS : cp ≤ cpS ∧ cpS ≤ 131072) {p : Program} {e : Env} {s : State} {m : MethodId} {args : Array Value} {below : List Frame} {meth : Method} {c : Code} {H : Heap} {locs : List Loc} {ls : Array Slot} (B : bd p s m args meth c cL_refuses 11 yL_refuses.cls dC dI k (va_A ([(na, .inl (k 0, 4, .inl (fun i9 : Nat => iI (nf i9))))] ++ tl) s.heap.size) ([(na, .inl (k 0, 4, .inl (fun i9 : Nat => iI (nf i9))))] ++ tlS) H locs) (hr : meth.sig.returnType = (some .boolean)) (hl : lv_has ls 11 [(7, .int (iI 1)), (6, .int (iI ((-1) - (xx % 50)))), (5, .int (iI ((-1) - (xx % 50)))), (4, .int (iI ((-1) - (xx % 50)))), (3, .int (iI 1)), (0, .ref qa), (1, .ref na), (2, .int (iI xx))]) : W p l e ({ frames := 16, cells := ((131072 - cp) + 129), slots := ((12 * (131072 - cp)) + 1266), locals := 495 } : Room) s m args below meth c H locs ((cpS - cp) + 83) ((12 * (cpS - cp)) + 848) (MQ below (Qk dC dI ([(na, .inl (k 0, 4, .inl (fun i9 : Nat => iI (nf i9))))] ++ tl) s.heap.size (fun r w gc gs => (∃ (cp2 : Nat) (tl2 : va_W), (PS dI k T K qa cp2 tl2) ∧ (cp ≤ cp2 ∧ cp2 ≤ 131072) ∧ r = some (.int (iI 1)) ∧ w = ([(na, .inl (k 0, 4, .inl (fun i9 : Nat => iI (nf i9))))] ++ tl2) ∧ gc = ((cp2 - cp) + 129) ∧ gs = ((12 * (cp2 - cp)) + 1266)))) args s ({ frames := 16, cells := ((131072 - cp) + 129), slots := ((12 * (131072 - cp)) + 1266), locals := 495 } : Room).cells ({ frames := 16, cells := ((131072 - cp) + 129), slots := ((12 * (131072 - cp)) + 1266), locals := 495 } : Room).slots (va_A ([(na, .inl (k 0, 4, .inl (fun i9 : Nat => iI (nf i9))))] ++ tl) s.heap.size)) (F0 m 777 ls []) := by
  have hx := B.1.1
  have hb := B.1.2.1
  have hcp9 := PS_cp hPS
  have hn0 := TK_nb hQ.1
  have hk0 := hQ.2.1.1
  have hf0 := TK_fc hQ.1
  have hp0 := TK_np hQ.1
  have hm0 : lmZ 0 = 1 := rfl
  have hm1 : lmZ 1 = 0 := rfl
  have hm2 : lmZ 2 = 0 := rfl
  have hm3 : lmZ 3 = 0 := rfl
  have hm4 : lmZ 4 = 0 := rfl
  have hm5 : mmZ T 0 = 5 := rfl
  have hm6 : mmZ T 1 = T 12 0 0 0 - 1 := rfl
  have hm7 : mmZ T 2 = 5 := rfl
  have hm8 : mmZ T 3 = 7 := rfl
  have hm9 : mmZ T 4 = 1 := rfl
  refine lv_aload_n hx hb dL_refuses_777 rfl (lv_at hl 5 rfl) ?_
  refine lv_iload hx hb dL_refuses_778 (lv_at hl 3 rfl) ?_
  refine lv_iconst (v := iI 0) hx hb dL_refuses_780 (by decide) ?_
  have B := bd_swap (a := []) (b := [(na, .inl (k 0, 4, .inl (fun i9 : Nat => iI (nf i9))))]) (d := tlS) (bd_to rfl B)
  refine k_W (rest := []) (wc := ([] ++ tlS)) (wr := [(na, .inl (k 0, 4, .inl (fun i9 : Nat => iI (nf i9))))]) (w_byAll l dC dI k hl0 T K qa cpS tlS ((-1) - (xx % 50)) 0 hPS hQ (by omega) (by omega)) B mW_L_byAll mw_1702 hl ⟨Nat.le_of_ble_eq_true rfl, Nat.le_of_ble_eq_true rfl⟩ (Nat.le_of_ble_eq_true rfl) rfl dL_refuses_781 ⟨by dsimp only; omega, by dsimp only; omega⟩ (fun r w gc gs H locs hp B => ?_)
  rcases hp with ⟨cp2_1119, tl2_1120, z_1121, z_1122, z_1123, rfl, hw9, rfl, rfl⟩ | ⟨cp2_1124, tl2_1125, z_1126, z_1127, z_1128, rfl, hw9, rfl, rfl⟩
  · skip
    rw [hw9] at B; clear hw9
    have B := bd_to (ws' := ([(na, .inl (k 0, 4, .inl (fun i9 : Nat => iI (nf i9))))] ++ tl2_1120)) rfl B
    have hPS : PS dI k T K qa cp2_1119 tl2_1120 := z_1121
    exfalso; omega
  · skip
    rw [hw9] at B; clear hw9
    have B := bd_to (ws' := ([(na, .inl (k 0, 4, .inl (fun i9 : Nat => iI (nf i9))))] ++ tl2_1125)) rfl B
    have hPS : PS dI k T K qa cp2_1124 tl2_1125 := z_1126
    refine W.widen (k := ((cp2_1124 - cp) + 84)) (n := ((12 * (cp2_1124 - cp)) + 854)) (by omega) (by omega) ?_
    refine lv_ldc2 (v := (-2000000001)) hx hb B.1.2.2.2.1 (B.1.2.2.2.2.1 _ mw_1701) dL_refuses_784 ?_
    refine lv_setl (y := lI (-2000000001)) (by decide) ?_
    refine y_lcmp B (a := (-2000000001)) (b := (-2000000001)) (by decide) (by decide) dL_refuses_787 ?_
    refine lv_seti (y := iI 0) (by decide) ?_
    refine lv_if_ne (tgt := 1081) hx hb dL_refuses_788 (by decide) (fun c9 => absurd c9 (by decide)) (fun _ => ?_)
    refine lv_aload_n hx hb dL_refuses_791 rfl (lv_at hl 5 rfl) ?_
    refine lv_iload hx hb dL_refuses_792 (lv_at hl 3 rfl) ?_
    have z_1129 : 0 ≤ mkZ T (moC T 0 (dgN T 0)) 0 0 ∧ mkZ T (moC T 0 (dgN T 0)) 0 0 ≤ 965 := (hQ.2.2.2.2 0 (by decide) (by decide)).2.2.2.1
    have B := bd_swap (a := []) (b := [(na, .inl (k 0, 4, .inl (fun i9 : Nat => iI (nf i9))))]) (d := tl2_1125) (bd_to rfl B)
    refine k_W (rest := []) (wc := ([] ++ tl2_1125)) (wr := [(na, .inl (k 0, 4, .inl (fun i9 : Nat => iI (nf i9))))]) (w_pages l dC dI k hl0 T K qa cp2_1124 tl2_1125 ((-1) - (xx % 50)) z_1126 hQ (by omega)) B mW_L_pages mw_1721 hl ⟨Nat.le_of_ble_eq_true rfl, Nat.le_of_ble_eq_true rfl⟩ (Nat.le_of_ble_eq_true rfl) rfl dL_refuses_794 ⟨by dsimp only; omega, by dsimp only; omega⟩ (fun r w gc gs H locs hp B => ?_)
    rcases hp with ⟨cp2_1130, tl2_1131, z_1132, z_1133, z_1134, rfl, hw9, rfl, rfl⟩ | ⟨cp2_1135, tl2_1136, z_1137, z_1138, z_1139, rfl, hw9, rfl, rfl⟩
    · skip
      rw [hw9] at B; clear hw9
      have B := bd_to (ws' := ([(na, .inl (k 0, 4, .inl (fun i9 : Nat => iI (nf i9))))] ++ tl2_1131)) rfl B
      have hPS : PS dI k T K qa cp2_1130 tl2_1131 := z_1132
      exfalso; omega
    · skip
      rw [hw9] at B; clear hw9
      have B := bd_to (ws' := ([(na, .inl (k 0, 4, .inl (fun i9 : Nat => iI (nf i9))))] ++ tl2_1136)) rfl B
      have hPS : PS dI k T K qa cp2_1135 tl2_1136 := z_1137
      refine W.widen (k := ((cp2_1135 - cp) + 85)) (n := ((12 * (cp2_1135 - cp)) + 860)) (by omega) (by omega) ?_
      refine lv_ldc (v := (-2000000001)) hx hb B.1.2.2.2.1 (B.1.2.2.2.2.1 _ mw_593) dL_refuses_797 ?_
      refine lv_seti (y := iI (-2000000001)) (by decide) ?_
      refine lv_icmp_ne (tgt := 1081) hx hb dL_refuses_799 (by decide) (fun c9 => absurd c9 (by decide)) (fun _ => ?_)
      refine lv_aload_n hx hb dL_refuses_802 rfl (lv_at hl 5 rfl) ?_
      refine lv_iload hx hb dL_refuses_803 (lv_at hl 3 rfl) ?_
      have B := bd_swap (a := []) (b := [(na, .inl (k 0, 4, .inl (fun i9 : Nat => iI (nf i9))))]) (d := tl2_1136) (bd_to rfl B)
      refine k_W (rest := []) (wc := ([] ++ tl2_1136)) (wr := [(na, .inl (k 0, 4, .inl (fun i9 : Nat => iI (nf i9))))]) (w_cost l dC dI k hl0 T K qa cp2_1135 tl2_1136 ((-1) - (xx % 50)) z_1137 hQ (by omega)) B mW_L_cost mw_1728 hl ⟨Nat.le_of_ble_eq_true rfl, Nat.le_of_ble_eq_true rfl⟩ (Nat.le_of_ble_eq_true rfl) rfl dL_refuses_805 ⟨by dsimp only; omega, by dsimp only; omega⟩ (fun r w gc gs H locs hp B => ?_)
      rcases hp with ⟨cp2_1140, tl2_1141, z_1142, z_1143, z_1144, rfl, hw9, rfl, rfl⟩ | ⟨cp2_1145, tl2_1146, z_1147, z_1148, z_1149, rfl, hw9, rfl, rfl⟩
      · skip
        rw [hw9] at B; clear hw9
        have B := bd_to (ws' := ([(na, .inl (k 0, 4, .inl (fun i9 : Nat => iI (nf i9))))] ++ tl2_1141)) rfl B
        have hPS : PS dI k T K qa cp2_1140 tl2_1141 := z_1142
        exfalso; omega
      · skip
        rw [hw9] at B; clear hw9
        have B := bd_to (ws' := ([(na, .inl (k 0, 4, .inl (fun i9 : Nat => iI (nf i9))))] ++ tl2_1146)) rfl B
        have hPS : PS dI k T K qa cp2_1145 tl2_1146 := z_1147
        refine W.widen (k := ((cp2_1145 - cp) + 86)) (n := ((12 * (cp2_1145 - cp)) + 866)) (by omega) (by omega) ?_
        refine lv_ldc (v := (-2000000001)) hx hb B.1.2.2.2.1 (B.1.2.2.2.2.1 _ mw_593) dL_refuses_808 ?_
        refine lv_seti (y := iI (-2000000001)) (by decide) ?_
        refine lv_icmp_ne (tgt := 1081) hx hb dL_refuses_810 (by decide) (fun c9 => absurd c9 (by decide)) (fun _ => ?_)
        refine lv_aload_n hx hb dL_refuses_813 rfl (lv_at hl 5 rfl) ?_
        refine lv_iload hx hb dL_refuses_814 (lv_at hl 3 rfl) ?_
        have B := bd_swap (a := []) (b := [(na, .inl (k 0, 4, .inl (fun i9 : Nat => iI (nf i9))))]) (d := tl2_1146) (bd_to rfl B)
        refine k_W (rest := []) (wc := ([] ++ tl2_1146)) (wr := [(na, .inl (k 0, 4, .inl (fun i9 : Nat => iI (nf i9))))]) (w_costAnew l dC dI k hl0 T K qa cp2_1145 tl2_1146 ((-1) - (xx % 50)) z_1147 hQ (by omega)) B mW_L_costAnew mw_1735 hl ⟨Nat.le_of_ble_eq_true rfl, Nat.le_of_ble_eq_true rfl⟩ (Nat.le_of_ble_eq_true rfl) rfl dL_refuses_816 ⟨by dsimp only; omega, by dsimp only; omega⟩ (fun r w gc gs H locs hp B => ?_)
        rcases hp with ⟨cp2_1150, tl2_1151, z_1152, z_1153, z_1154, rfl, hw9, rfl, rfl⟩ | ⟨cp2_1155, tl2_1156, z_1157, z_1158, z_1159, rfl, hw9, rfl, rfl⟩
        · skip
          rw [hw9] at B; clear hw9
          have B := bd_to (ws' := ([(na, .inl (k 0, 4, .inl (fun i9 : Nat => iI (nf i9))))] ++ tl2_1151)) rfl B
          have hPS : PS dI k T K qa cp2_1150 tl2_1151 := z_1152
          exfalso; omega
        · skip
          rw [hw9] at B; clear hw9
          have B := bd_to (ws' := ([(na, .inl (k 0, 4, .inl (fun i9 : Nat => iI (nf i9))))] ++ tl2_1156)) rfl B
          have hPS : PS dI k T K qa cp2_1155 tl2_1156 := z_1157
          refine W.widen (k := ((cp2_1155 - cp) + 87)) (n := ((12 * (cp2_1155 - cp)) + 872)) (by omega) (by omega) ?_
          refine lv_ldc (v := (-2000000001)) hx hb B.1.2.2.2.1 (B.1.2.2.2.2.1 _ mw_593) dL_refuses_819 ?_
          refine lv_seti (y := iI (-2000000001)) (by decide) ?_
          refine lv_icmp_ne (tgt := 1081) hx hb dL_refuses_821 (by decide) (fun c9 => absurd c9 (by decide)) (fun _ => ?_)
          refine lv_aload_n hx hb dL_refuses_824 rfl (lv_at hl 5 rfl) ?_
          refine lv_iload hx hb dL_refuses_825 (lv_at hl 3 rfl) ?_
          have B := bd_swap (a := []) (b := [(na, .inl (k 0, 4, .inl (fun i9 : Nat => iI (nf i9))))]) (d := tl2_1156) (bd_to rfl B)
          refine k_W (rest := []) (wc := ([] ++ tl2_1156)) (wr := [(na, .inl (k 0, 4, .inl (fun i9 : Nat => iI (nf i9))))]) (w_rounds l dC dI k hl0 T K qa cp2_1155 tl2_1156 ((-1) - (xx % 50)) z_1157 hQ (by omega)) B mW_L_rounds mw_1742 hl ⟨Nat.le_of_ble_eq_true rfl, Nat.le_of_ble_eq_true rfl⟩ (Nat.le_of_ble_eq_true rfl) rfl dL_refuses_827 ⟨by dsimp only; omega, by dsimp only; omega⟩ (fun r w gc gs H locs hp B => ?_)
          rcases hp with ⟨cp2_1160, tl2_1161, z_1162, z_1163, z_1164, rfl, hw9, rfl, rfl⟩ | ⟨cp2_1165, tl2_1166, z_1167, z_1168, z_1169, rfl, hw9, rfl, rfl⟩
          · skip
            rw [hw9] at B; clear hw9
            have B := bd_to (ws' := ([(na, .inl (k 0, 4, .inl (fun i9 : Nat => iI (nf i9))))] ++ tl2_1161)) rfl B
            have hPS : PS dI k T K qa cp2_1160 tl2_1161 := z_1162
            exfalso; omega
          · skip
            rw [hw9] at B; clear hw9
            have B := bd_to (ws' := ([(na, .inl (k 0, 4, .inl (fun i9 : Nat => iI (nf i9))))] ++ tl2_1166)) rfl B
            have hPS : PS dI k T K qa cp2_1165 tl2_1166 := z_1167
            refine W.widen (k := ((cp2_1165 - cp) + 88)) (n := ((12 * (cp2_1165 - cp)) + 878)) (by omega) (by omega) ?_
            refine lv_ldc (v := (-2000000001)) hx hb B.1.2.2.2.1 (B.1.2.2.2.2.1 _ mw_593) dL_refuses_830 ?_
            refine lv_seti (y := iI (-2000000001)) (by decide) ?_
            refine lv_icmp_ne (tgt := 1081) hx hb dL_refuses_832 (by decide) (fun c9 => absurd c9 (by decide)) (fun _ => ?_)
            exact w_refuses_c835_23 l dC dI k hl0 T K qa cp tl na nf xx cp2_1165 tl2_1166 (by omega) hPS hQ hx9 hn9 (by omega)  (bd_to rfl B) hr hl

set_option maxHeartbeats 4000000 in
set_option maxRecDepth 100000 in
theorem w_refuses_c713_21 (l : Launch) (dC : Nat → ClassId) (dI : Nat → Nat → Nat) (k : Nat → ClassId) (hl0 : l.stackTraces = false) (T : Nat → Int → Int → Int → Int) (K : Nat → Int → Int) (qa : Nat) (cp : Nat) (tl : va_W) (na : Nat) (nf : Int → Int) (xx : Int) (cpS : Nat) (tlS : va_W) (hc0 : 512 ≤ cp ∧ cp ≤ 131072) (hPS : PS dI k T K qa cpS tlS) (hQ : OKT T K) (hx9 : 0 ≤ xx ∧ xx < 9973) (hn9 : nf 0 = T 0 0 0 0 ∧ nf 1 = K 0 0 ∧ nf 2 = T 12 0 0 0 ∧ nf 3 = T 18 0 0 0) (hcS : cp ≤ cpS ∧ cpS ≤ 131072) {p : Program} {e : Env} {s : State} {m : MethodId} {args : Array Value} {below : List Frame} {meth : Method} {c : Code} {H : Heap} {locs : List Loc} {ls : Array Slot} (B : bd p s m args meth c cL_refuses 11 yL_refuses.cls dC dI k (va_A ([(na, .inl (k 0, 4, .inl (fun i9 : Nat => iI (nf i9))))] ++ tl) s.heap.size) ([(na, .inl (k 0, 4, .inl (fun i9 : Nat => iI (nf i9))))] ++ tlS) H locs) (hr : meth.sig.returnType = (some .boolean)) (hl : lv_has ls 11 [(7, .int (iI 1)), (6, .int (iI ((-1) - (xx % 50)))), (5, .int (iI ((-1) - (xx % 50)))), (4, .int (iI ((-1) - (xx % 50)))), (3, .int (iI 1)), (0, .ref qa), (1, .ref na), (2, .int (iI xx))]) : W p l e ({ frames := 16, cells := ((131072 - cp) + 129), slots := ((12 * (131072 - cp)) + 1266), locals := 495 } : Room) s m args below meth c H locs ((cpS - cp) + 78) ((12 * (cpS - cp)) + 818) (MQ below (Qk dC dI ([(na, .inl (k 0, 4, .inl (fun i9 : Nat => iI (nf i9))))] ++ tl) s.heap.size (fun r w gc gs => (∃ (cp2 : Nat) (tl2 : va_W), (PS dI k T K qa cp2 tl2) ∧ (cp ≤ cp2 ∧ cp2 ≤ 131072) ∧ r = some (.int (iI 1)) ∧ w = ([(na, .inl (k 0, 4, .inl (fun i9 : Nat => iI (nf i9))))] ++ tl2) ∧ gc = ((cp2 - cp) + 129) ∧ gs = ((12 * (cp2 - cp)) + 1266)))) args s ({ frames := 16, cells := ((131072 - cp) + 129), slots := ((12 * (131072 - cp)) + 1266), locals := 495 } : Room).cells ({ frames := 16, cells := ((131072 - cp) + 129), slots := ((12 * (131072 - cp)) + 1266), locals := 495 } : Room).slots (va_A ([(na, .inl (k 0, 4, .inl (fun i9 : Nat => iI (nf i9))))] ++ tl) s.heap.size)) (F0 m 713 ls []) := by
  have hx := B.1.1
  have hb := B.1.2.1
  have hcp9 := PS_cp hPS
  have hn0 := TK_nb hQ.1
  have hk0 := hQ.2.1.1
  have hf0 := TK_fc hQ.1
  have hp0 := TK_np hQ.1
  have hm0 : lmZ 0 = 1 := rfl
  have hm1 : lmZ 1 = 0 := rfl
  have hm2 : lmZ 2 = 0 := rfl
  have hm3 : lmZ 3 = 0 := rfl
  have hm4 : lmZ 4 = 0 := rfl
  have hm5 : mmZ T 0 = 5 := rfl
  have hm6 : mmZ T 1 = T 12 0 0 0 - 1 := rfl
  have hm7 : mmZ T 2 = 5 := rfl
  have hm8 : mmZ T 3 = 7 := rfl
  have hm9 : mmZ T 4 = 1 := rfl
  refine lv_aload_n hx hb dL_refuses_713 rfl (lv_at hl 5 rfl) ?_
  refine lv_iload hx hb dL_refuses_714 (lv_at hl 3 rfl) ?_
  refine lv_iconst (v := iI 0) hx hb dL_refuses_716 (by decide) ?_
  have z_1067 : 0 ≤ LCz T ((-1) - (xx % 50)) (dgN T ((-1) - (xx % 50))) 0 ∧ LCz T ((-1) - (xx % 50)) (dgN T ((-1) - (xx % 50))) 0 ≤ 48 := (LCz_in (i := 0) (v := ((-1) - (xx % 50))) (dg := dgN T ((-1) - (xx % 50))) hQ.1).1
  have B := bd_swap (a := []) (b := [(na, .inl (k 0, 4, .inl (fun i9 : Nat => iI (nf i9))))]) (d := tlS) (bd_to rfl B)
  refine k_W (rest := []) (wc := ([] ++ tlS)) (wr := [(na, .inl (k 0, 4, .inl (fun i9 : Nat => iI (nf i9))))]) (w_lines l dC dI k hl0 T K qa cpS tlS ((-1) - (xx % 50)) 0 hPS hQ (by omega) (by omega)) B mW_L_lines mw_1360 hl ⟨Nat.le_of_ble_eq_true rfl, Nat.le_of_ble_eq_true rfl⟩ (Nat.le_of_ble_eq_true rfl) rfl dL_refuses_717 ⟨by dsimp only; omega, by dsimp only; omega⟩ (fun r w gc gs H locs hp B => ?_)
  rcases hp with ⟨cp2_1068, tl2_1069, z_1070, z_1071, z_1072, rfl, hw9, rfl, rfl⟩ | ⟨cp2_1073, tl2_1074, z_1075, z_1076, z_1077, rfl, hw9, rfl, rfl⟩
  · skip
    rw [hw9] at B; clear hw9
    have B := bd_to (ws' := ([(na, .inl (k 0, 4, .inl (fun i9 : Nat => iI (nf i9))))] ++ tl2_1069)) rfl B
    have hPS : PS dI k T K qa cp2_1068 tl2_1069 := z_1070
    exfalso; omega
  · skip
    rw [hw9] at B; clear hw9
    have B := bd_to (ws' := ([(na, .inl (k 0, 4, .inl (fun i9 : Nat => iI (nf i9))))] ++ tl2_1074)) rfl B
    have hPS : PS dI k T K qa cp2_1073 tl2_1074 := z_1075
    refine W.widen (k := ((cp2_1073 - cp) + 79)) (n := ((12 * (cp2_1073 - cp)) + 824)) (by omega) (by omega) ?_
    refine lv_ldc (v := (-2000000001)) hx hb B.1.2.2.2.1 (B.1.2.2.2.2.1 _ mw_593) dL_refuses_720 ?_
    refine lv_seti (y := iI (-2000000001)) (by decide) ?_
    refine lv_icmp_ne (tgt := 1081) hx hb dL_refuses_722 (by decide) (fun c9 => absurd c9 (by decide)) (fun _ => ?_)
    refine lv_aload_n hx hb dL_refuses_725 rfl (lv_at hl 5 rfl) ?_
    refine lv_iconst (v := iI 0) hx hb dL_refuses_726 (by decide) ?_
    refine lv_iload hx hb dL_refuses_727 (lv_at hl 2 rfl) ?_
    have z_1078 : 0 ≤ LCz T 0 (dgN T 0) ((-1) - (xx % 50)) ∧ LCz T 0 (dgN T 0) ((-1) - (xx % 50)) ≤ 48 := (LCz_in (i := ((-1) - (xx % 50))) (v := 0) (dg := dgN T 0) hQ.1).1
    have B := bd_swap (a := []) (b := [(na, .inl (k 0, 4, .inl (fun i9 : Nat => iI (nf i9))))]) (d := tl2_1074) (bd_to rfl B)
    refine k_W (rest := []) (wc := ([] ++ tl2_1074)) (wr := [(na, .inl (k 0, 4, .inl (fun i9 : Nat => iI (nf i9))))]) (w_lines l dC dI k hl0 T K qa cp2_1073 tl2_1074 0 ((-1) - (xx % 50)) z_1075 hQ (by omega) (by omega)) B mW_L_lines mw_1360 hl ⟨Nat.le_of_ble_eq_true rfl, Nat.le_of_ble_eq_true rfl⟩ (Nat.le_of_ble_eq_true rfl) rfl dL_refuses_729 ⟨by dsimp only; omega, by dsimp only; omega⟩ (fun r w gc gs H locs hp B => ?_)
    rcases hp with ⟨cp2_1079, tl2_1080, z_1081, z_1082, z_1083, rfl, hw9, rfl, rfl⟩ | ⟨cp2_1084, tl2_1085, z_1086, z_1087, z_1088, rfl, hw9, rfl, rfl⟩
    · skip
      rw [hw9] at B; clear hw9
      have B := bd_to (ws' := ([(na, .inl (k 0, 4, .inl (fun i9 : Nat => iI (nf i9))))] ++ tl2_1080)) rfl B
      have hPS : PS dI k T K qa cp2_1079 tl2_1080 := z_1081
      exfalso; omega
    · skip
      rw [hw9] at B; clear hw9
      have B := bd_to (ws' := ([(na, .inl (k 0, 4, .inl (fun i9 : Nat => iI (nf i9))))] ++ tl2_1085)) rfl B
      have hPS : PS dI k T K qa cp2_1084 tl2_1085 := z_1086
      refine W.widen (k := ((cp2_1084 - cp) + 80)) (n := ((12 * (cp2_1084 - cp)) + 830)) (by omega) (by omega) ?_
      refine lv_ldc (v := (-2000000001)) hx hb B.1.2.2.2.1 (B.1.2.2.2.2.1 _ mw_593) dL_refuses_732 ?_
      refine lv_seti (y := iI (-2000000001)) (by decide) ?_
      refine lv_icmp_ne (tgt := 1081) hx hb dL_refuses_734 (by decide) (fun c9 => absurd c9 (by decide)) (fun _ => ?_)
      refine lv_aload_n hx hb dL_refuses_737 rfl (lv_at hl 5 rfl) ?_
      refine lv_iconst (v := iI 0) hx hb dL_refuses_738 (by decide) ?_
      refine lv_iload hx hb dL_refuses_739 (lv_at hl 2 rfl) ?_
      refine lv_iconst (v := iI 0) hx hb dL_refuses_741 (by decide) ?_
      have B := bd_swap (a := []) (b := [(na, .inl (k 0, 4, .inl (fun i9 : Nat => iI (nf i9))))]) (d := tl2_1085) (bd_to rfl B)
      refine k_W (rest := []) (wc := ([] ++ tl2_1085)) (wr := [(na, .inl (k 0, 4, .inl (fun i9 : Nat => iI (nf i9))))]) (w_lineEnd l dC dI k hl0 T K qa cp2_1084 tl2_1085 0 ((-1) - (xx % 50)) 0 z_1086 hQ (by omega) (by omega) (by omega)) B mW_L_lineEnd mw_1675 hl ⟨Nat.le_of_ble_eq_true rfl, Nat.le_of_ble_eq_true rfl⟩ (Nat.le_of_ble_eq_true rfl) rfl dL_refuses_742 ⟨by dsimp only; omega, by dsimp only; omega⟩ (fun r w gc gs H locs hp B => ?_)
      rcases hp with ⟨cp2_1089, tl2_1090, z_1091, z_1092, z_1093, rfl, hw9, rfl, rfl⟩ | ⟨cp2_1094, tl2_1095, z_1096, z_1097, z_1098, rfl, hw9, rfl, rfl⟩
      · skip
        rw [hw9] at B; clear hw9
        have B := bd_to (ws' := ([(na, .inl (k 0, 4, .inl (fun i9 : Nat => iI (nf i9))))] ++ tl2_1090)) rfl B
        have hPS : PS dI k T K qa cp2_1089 tl2_1090 := z_1091
        exfalso; omega
      · skip
        rw [hw9] at B; clear hw9
        have B := bd_to (ws' := ([(na, .inl (k 0, 4, .inl (fun i9 : Nat => iI (nf i9))))] ++ tl2_1095)) rfl B
        have hPS : PS dI k T K qa cp2_1094 tl2_1095 := z_1096
        refine W.widen (k := ((cp2_1094 - cp) + 81)) (n := ((12 * (cp2_1094 - cp)) + 836)) (by omega) (by omega) ?_
        refine lv_ldc (v := (-2000000001)) hx hb B.1.2.2.2.1 (B.1.2.2.2.2.1 _ mw_593) dL_refuses_745 ?_
        refine lv_seti (y := iI (-2000000001)) (by decide) ?_
        refine lv_icmp_ne (tgt := 1081) hx hb dL_refuses_747 (by decide) (fun c9 => absurd c9 (by decide)) (fun _ => ?_)
        refine lv_aload_n hx hb dL_refuses_750 rfl (lv_at hl 5 rfl) ?_
        refine lv_iload hx hb dL_refuses_751 (lv_at hl 3 rfl) ?_
        refine lv_iconst (v := iI 0) hx hb dL_refuses_753 (by decide) ?_
        refine lv_iconst (v := iI 0) hx hb dL_refuses_754 (by decide) ?_
        have B := bd_swap (a := []) (b := [(na, .inl (k 0, 4, .inl (fun i9 : Nat => iI (nf i9))))]) (d := tl2_1095) (bd_to rfl B)
        refine k_W (rest := []) (wc := ([] ++ tl2_1095)) (wr := [(na, .inl (k 0, 4, .inl (fun i9 : Nat => iI (nf i9))))]) (w_tight l dC dI k hl0 T K qa cp2_1094 tl2_1095 ((-1) - (xx % 50)) 0 0 z_1096 hQ (by omega) (by omega) (by omega)) B mW_L_tight mw_1687 hl ⟨Nat.le_of_ble_eq_true rfl, Nat.le_of_ble_eq_true rfl⟩ (Nat.le_of_ble_eq_true rfl) rfl dL_refuses_755 ⟨by dsimp only; omega, by dsimp only; omega⟩ (fun r w gc gs H locs hp B => ?_)
        rcases hp with ⟨cp2_1099, tl2_1100, z_1101, z_1102, z_1103, rfl, hw9, rfl, rfl⟩ | ⟨cp2_1104, tl2_1105, z_1106, z_1107, z_1108, rfl, hw9, rfl, rfl⟩
        · skip
          rw [hw9] at B; clear hw9
          have B := bd_to (ws' := ([(na, .inl (k 0, 4, .inl (fun i9 : Nat => iI (nf i9))))] ++ tl2_1100)) rfl B
          have hPS : PS dI k T K qa cp2_1099 tl2_1100 := z_1101
          exfalso; omega
        · skip
          rw [hw9] at B; clear hw9
          have B := bd_to (ws' := ([(na, .inl (k 0, 4, .inl (fun i9 : Nat => iI (nf i9))))] ++ tl2_1105)) rfl B
          have hPS : PS dI k T K qa cp2_1104 tl2_1105 := z_1106
          refine W.widen (k := ((cp2_1104 - cp) + 82)) (n := ((12 * (cp2_1104 - cp)) + 842)) (by omega) (by omega) ?_
          refine lv_ldc (v := (-2000000001)) hx hb B.1.2.2.2.1 (B.1.2.2.2.2.1 _ mw_593) dL_refuses_758 ?_
          refine lv_seti (y := iI (-2000000001)) (by decide) ?_
          refine lv_icmp_ne (tgt := 1081) hx hb dL_refuses_760 (by decide) (fun c9 => absurd c9 (by decide)) (fun _ => ?_)
          refine lv_aload_n hx hb dL_refuses_763 rfl (lv_at hl 5 rfl) ?_
          refine lv_iconst (v := iI 0) hx hb dL_refuses_764 (by decide) ?_
          refine lv_iload hx hb dL_refuses_765 (lv_at hl 2 rfl) ?_
          have B := bd_swap (a := []) (b := [(na, .inl (k 0, 4, .inl (fun i9 : Nat => iI (nf i9))))]) (d := tl2_1105) (bd_to rfl B)
          refine k_W (rest := []) (wc := ([] ++ tl2_1105)) (wr := [(na, .inl (k 0, 4, .inl (fun i9 : Nat => iI (nf i9))))]) (w_demerits l dC dI k hl0 T K qa cp2_1104 tl2_1105 0 ((-1) - (xx % 50)) z_1106 hQ (by omega) (by omega)) B mW_L_demerits mw_1694 hl ⟨Nat.le_of_ble_eq_true rfl, Nat.le_of_ble_eq_true rfl⟩ (Nat.le_of_ble_eq_true rfl) rfl dL_refuses_767 ⟨by dsimp only; omega, by dsimp only; omega⟩ (fun r w gc gs H locs hp B => ?_)
          rcases hp with ⟨cp2_1109, tl2_1110, z_1111, z_1112, z_1113, rfl, hw9, rfl, rfl⟩ | ⟨cp2_1114, tl2_1115, z_1116, z_1117, z_1118, rfl, hw9, rfl, rfl⟩
          · skip
            rw [hw9] at B; clear hw9
            have B := bd_to (ws' := ([(na, .inl (k 0, 4, .inl (fun i9 : Nat => iI (nf i9))))] ++ tl2_1110)) rfl B
            have hPS : PS dI k T K qa cp2_1109 tl2_1110 := z_1111
            exfalso; omega
          · skip
            rw [hw9] at B; clear hw9
            have B := bd_to (ws' := ([(na, .inl (k 0, 4, .inl (fun i9 : Nat => iI (nf i9))))] ++ tl2_1115)) rfl B
            have hPS : PS dI k T K qa cp2_1114 tl2_1115 := z_1116
            refine W.widen (k := ((cp2_1114 - cp) + 83)) (n := ((12 * (cp2_1114 - cp)) + 848)) (by omega) (by omega) ?_
            refine lv_ldc2 (v := (-2000000001)) hx hb B.1.2.2.2.1 (B.1.2.2.2.2.1 _ mw_1701) dL_refuses_770 ?_
            refine lv_setl (y := lI (-2000000001)) (by decide) ?_
            refine y_lcmp B (a := (-2000000001)) (b := (-2000000001)) (by decide) (by decide) dL_refuses_773 ?_
            refine lv_seti (y := iI 0) (by decide) ?_
            refine lv_if_ne (tgt := 1081) hx hb dL_refuses_774 (by decide) (fun c9 => absurd c9 (by decide)) (fun _ => ?_)
            exact w_refuses_c777_22 l dC dI k hl0 T K qa cp tl na nf xx cp2_1114 tl2_1115 (by omega) hPS hQ hx9 hn9 (by omega)  (bd_to rfl B) hr hl

set_option maxHeartbeats 4000000 in
set_option maxRecDepth 100000 in
theorem w_refuses_c653_20 (l : Launch) (dC : Nat → ClassId) (dI : Nat → Nat → Nat) (k : Nat → ClassId) (hl0 : l.stackTraces = false) (T : Nat → Int → Int → Int → Int) (K : Nat → Int → Int) (qa : Nat) (cp : Nat) (tl : va_W) (na : Nat) (nf : Int → Int) (xx : Int) (cpS : Nat) (tlS : va_W) (hc0 : 512 ≤ cp ∧ cp ≤ 131072) (hPS : PS dI k T K qa cpS tlS) (hQ : OKT T K) (hx9 : 0 ≤ xx ∧ xx < 9973) (hn9 : nf 0 = T 0 0 0 0 ∧ nf 1 = K 0 0 ∧ nf 2 = T 12 0 0 0 ∧ nf 3 = T 18 0 0 0) (hcS : cp ≤ cpS ∧ cpS ≤ 131072) {p : Program} {e : Env} {s : State} {m : MethodId} {args : Array Value} {below : List Frame} {meth : Method} {c : Code} {H : Heap} {locs : List Loc} {ls : Array Slot} (B : bd p s m args meth c cL_refuses 11 yL_refuses.cls dC dI k (va_A ([(na, .inl (k 0, 4, .inl (fun i9 : Nat => iI (nf i9))))] ++ tl) s.heap.size) ([(na, .inl (k 0, 4, .inl (fun i9 : Nat => iI (nf i9))))] ++ tlS) H locs) (hr : meth.sig.returnType = (some .boolean)) (hl : lv_has ls 11 [(7, .int (iI 1)), (6, .int (iI ((-1) - (xx % 50)))), (5, .int (iI ((-1) - (xx % 50)))), (4, .int (iI ((-1) - (xx % 50)))), (3, .int (iI 1)), (0, .ref qa), (1, .ref na), (2, .int (iI xx))]) : W p l e ({ frames := 16, cells := ((131072 - cp) + 129), slots := ((12 * (131072 - cp)) + 1266), locals := 495 } : Room) s m args below meth c H locs ((cpS - cp) + 73) ((12 * (cpS - cp)) + 788) (MQ below (Qk dC dI ([(na, .inl (k 0, 4, .inl (fun i9 : Nat => iI (nf i9))))] ++ tl) s.heap.size (fun r w gc gs => (∃ (cp2 : Nat) (tl2 : va_W), (PS dI k T K qa cp2 tl2) ∧ (cp ≤ cp2 ∧ cp2 ≤ 131072) ∧ r = some (.int (iI 1)) ∧ w = ([(na, .inl (k 0, 4, .inl (fun i9 : Nat => iI (nf i9))))] ++ tl2) ∧ gc = ((cp2 - cp) + 129) ∧ gs = ((12 * (cp2 - cp)) + 1266)))) args s ({ frames := 16, cells := ((131072 - cp) + 129), slots := ((12 * (131072 - cp)) + 1266), locals := 495 } : Room).cells ({ frames := 16, cells := ((131072 - cp) + 129), slots := ((12 * (131072 - cp)) + 1266), locals := 495 } : Room).slots (va_A ([(na, .inl (k 0, 4, .inl (fun i9 : Nat => iI (nf i9))))] ++ tl) s.heap.size)) (F0 m 653 ls []) := by
  have hx := B.1.1
  have hb := B.1.2.1
  have hcp9 := PS_cp hPS
  have hn0 := TK_nb hQ.1
  have hk0 := hQ.2.1.1
  have hf0 := TK_fc hQ.1
  have hp0 := TK_np hQ.1
  have hm0 : lmZ 0 = 1 := rfl
  have hm1 : lmZ 1 = 0 := rfl
  have hm2 : lmZ 2 = 0 := rfl
  have hm3 : lmZ 3 = 0 := rfl
  have hm4 : lmZ 4 = 0 := rfl
  have hm5 : mmZ T 0 = 5 := rfl
  have hm6 : mmZ T 1 = T 12 0 0 0 - 1 := rfl
  have hm7 : mmZ T 2 = 5 := rfl
  have hm8 : mmZ T 3 = 7 := rfl
  have hm9 : mmZ T 4 = 1 := rfl
  refine lv_aload_n hx hb dL_refuses_653 rfl (lv_at hl 5 rfl) ?_
  refine lv_iload hx hb dL_refuses_654 (lv_at hl 2 rfl) ?_
  refine lv_iconst (v := iI 0) hx hb dL_refuses_656 (by decide) ?_
  have B := bd_swap (a := []) (b := [(na, .inl (k 0, 4, .inl (fun i9 : Nat => iI (nf i9))))]) (d := tlS) (bd_to rfl B)
  refine k_W (rest := []) (wc := ([] ++ tlS)) (wr := [(na, .inl (k 0, 4, .inl (fun i9 : Nat => iI (nf i9))))]) (w_gaps l dC dI k hl0 T K qa cpS tlS ((-1) - (xx % 50)) 0 hPS hQ (by omega) (by omega)) B mW_L_gaps mw_1273 hl ⟨Nat.le_of_ble_eq_true rfl, Nat.le_of_ble_eq_true rfl⟩ (Nat.le_of_ble_eq_true rfl) rfl dL_refuses_657 ⟨by dsimp only; omega, by dsimp only; omega⟩ (fun r w gc gs H locs hp B => ?_)
  rcases hp with ⟨cp2_1015, tl2_1016, z_1017, z_1018, z_1019, rfl, hw9, rfl, rfl⟩ | ⟨cp2_1020, tl2_1021, z_1022, z_1023, z_1024, rfl, hw9, rfl, rfl⟩
  · skip
    rw [hw9] at B; clear hw9
    have B := bd_to (ws' := ([(na, .inl (k 0, 4, .inl (fun i9 : Nat => iI (nf i9))))] ++ tl2_1016)) rfl B
    have hPS : PS dI k T K qa cp2_1015 tl2_1016 := z_1017
    exfalso; omega
  · skip
    rw [hw9] at B; clear hw9
    have B := bd_to (ws' := ([(na, .inl (k 0, 4, .inl (fun i9 : Nat => iI (nf i9))))] ++ tl2_1021)) rfl B
    have hPS : PS dI k T K qa cp2_1020 tl2_1021 := z_1022
    refine W.widen (k := ((cp2_1020 - cp) + 74)) (n := ((12 * (cp2_1020 - cp)) + 794)) (by omega) (by omega) ?_
    refine lv_ldc (v := (-2000000001)) hx hb B.1.2.2.2.1 (B.1.2.2.2.2.1 _ mw_593) dL_refuses_660 ?_
    refine lv_seti (y := iI (-2000000001)) (by decide) ?_
    refine lv_icmp_ne (tgt := 1081) hx hb dL_refuses_662 (by decide) (fun c9 => absurd c9 (by decide)) (fun _ => ?_)
    refine lv_aload_n hx hb dL_refuses_665 rfl (lv_at hl 5 rfl) ?_
    refine lv_iload hx hb dL_refuses_666 (lv_at hl 3 rfl) ?_
    refine lv_iconst (v := iI 0) hx hb dL_refuses_668 (by decide) ?_
    have B := bd_swap (a := []) (b := [(na, .inl (k 0, 4, .inl (fun i9 : Nat => iI (nf i9))))]) (d := tl2_1021) (bd_to rfl B)
    refine k_W (rest := []) (wc := ([] ++ tl2_1021)) (wr := [(na, .inl (k 0, 4, .inl (fun i9 : Nat => iI (nf i9))))]) (w_number l dC dI k hl0 T K qa cp2_1020 tl2_1021 ((-1) - (xx % 50)) 0 z_1022 hQ (by omega) (by omega)) B mW_L_number mw_1280 hl ⟨Nat.le_of_ble_eq_true rfl, Nat.le_of_ble_eq_true rfl⟩ (Nat.le_of_ble_eq_true rfl) rfl dL_refuses_669 ⟨by dsimp only; omega, by dsimp only; omega⟩ (fun r w gc gs H locs hp B => ?_)
    rcases hp with ⟨cp2_1025, tl2_1026, z_1027, z_1028, z_1029, rfl, hw9, rfl, rfl⟩ | ⟨cp2_1030, tl2_1031, z_1032, z_1033, z_1034, rfl, hw9, rfl, rfl⟩
    · skip
      rw [hw9] at B; clear hw9
      have B := bd_to (ws' := ([(na, .inl (k 0, 4, .inl (fun i9 : Nat => iI (nf i9))))] ++ tl2_1026)) rfl B
      have hPS : PS dI k T K qa cp2_1025 tl2_1026 := z_1027
      exfalso; omega
    · skip
      rw [hw9] at B; clear hw9
      have B := bd_to (ws' := ([(na, .inl (k 0, 4, .inl (fun i9 : Nat => iI (nf i9))))] ++ tl2_1031)) rfl B
      have hPS : PS dI k T K qa cp2_1030 tl2_1031 := z_1032
      refine W.widen (k := ((cp2_1030 - cp) + 75)) (n := ((12 * (cp2_1030 - cp)) + 800)) (by omega) (by omega) ?_
      refine lv_ldc (v := (-2000000001)) hx hb B.1.2.2.2.1 (B.1.2.2.2.2.1 _ mw_593) dL_refuses_672 ?_
      refine lv_seti (y := iI (-2000000001)) (by decide) ?_
      refine lv_icmp_ne (tgt := 1081) hx hb dL_refuses_674 (by decide) (fun c9 => absurd c9 (by decide)) (fun _ => ?_)
      refine lv_aload_n hx hb dL_refuses_677 rfl (lv_at hl 5 rfl) ?_
      refine lv_iconst (v := iI 0) hx hb dL_refuses_678 (by decide) ?_
      refine lv_iload hx hb dL_refuses_679 (lv_at hl 2 rfl) ?_
      have B := bd_swap (a := []) (b := [(na, .inl (k 0, 4, .inl (fun i9 : Nat => iI (nf i9))))]) (d := tl2_1031) (bd_to rfl B)
      refine k_W (rest := []) (wc := ([] ++ tl2_1031)) (wr := [(na, .inl (k 0, 4, .inl (fun i9 : Nat => iI (nf i9))))]) (w_number l dC dI k hl0 T K qa cp2_1030 tl2_1031 0 ((-1) - (xx % 50)) z_1032 hQ (by omega) (by omega)) B mW_L_number mw_1280 hl ⟨Nat.le_of_ble_eq_true rfl, Nat.le_of_ble_eq_true rfl⟩ (Nat.le_of_ble_eq_true rfl) rfl dL_refuses_681 ⟨by dsimp only; omega, by dsimp only; omega⟩ (fun r w gc gs H locs hp B => ?_)
      rcases hp with ⟨cp2_1035, tl2_1036, z_1037, z_1038, z_1039, rfl, hw9, rfl, rfl⟩ | ⟨cp2_1040, tl2_1041, z_1042, z_1043, z_1044, rfl, hw9, rfl, rfl⟩
      · skip
        rw [hw9] at B; clear hw9
        have B := bd_to (ws' := ([(na, .inl (k 0, 4, .inl (fun i9 : Nat => iI (nf i9))))] ++ tl2_1036)) rfl B
        have hPS : PS dI k T K qa cp2_1035 tl2_1036 := z_1037
        exfalso; omega
      · skip
        rw [hw9] at B; clear hw9
        have B := bd_to (ws' := ([(na, .inl (k 0, 4, .inl (fun i9 : Nat => iI (nf i9))))] ++ tl2_1041)) rfl B
        have hPS : PS dI k T K qa cp2_1040 tl2_1041 := z_1042
        refine W.widen (k := ((cp2_1040 - cp) + 76)) (n := ((12 * (cp2_1040 - cp)) + 806)) (by omega) (by omega) ?_
        refine lv_ldc (v := (-2000000001)) hx hb B.1.2.2.2.1 (B.1.2.2.2.2.1 _ mw_593) dL_refuses_684 ?_
        refine lv_seti (y := iI (-2000000001)) (by decide) ?_
        refine lv_icmp_ne (tgt := 1081) hx hb dL_refuses_686 (by decide) (fun c9 => absurd c9 (by decide)) (fun _ => ?_)
        refine lv_aload_n hx hb dL_refuses_689 rfl (lv_at hl 5 rfl) ?_
        refine lv_iload hx hb dL_refuses_690 (lv_at hl 2 rfl) ?_
        refine lv_iconst (v := iI 0) hx hb dL_refuses_692 (by decide) ?_
        have z_1045 : 0 ≤ ccZ (fun j9 : Int => T 9 ((-1) - (xx % 50)) j9 0) 12 ∧ ccZ (fun j9 : Int => T 9 ((-1) - (xx % 50)) j9 0) 12 ≤ 3 := ccZ_in (fun c => TK_spc hQ.1 _ c) 12
        have B := bd_swap (a := []) (b := [(na, .inl (k 0, 4, .inl (fun i9 : Nat => iI (nf i9))))]) (d := tl2_1041) (bd_to rfl B)
        refine k_W (rest := []) (wc := ([] ++ tl2_1041)) (wr := [(na, .inl (k 0, 4, .inl (fun i9 : Nat => iI (nf i9))))]) (w_wide l dC dI k hl0 T K qa cp2_1040 tl2_1041 ((-1) - (xx % 50)) 0 z_1042 hQ (by omega) (by omega)) B mW_L_wide mw_1309 hl ⟨Nat.le_of_ble_eq_true rfl, Nat.le_of_ble_eq_true rfl⟩ (Nat.le_of_ble_eq_true rfl) rfl dL_refuses_693 ⟨by dsimp only; omega, by dsimp only; omega⟩ (fun r w gc gs H locs hp B => ?_)
        rcases hp with ⟨cp2_1046, tl2_1047, z_1048, z_1049, z_1050, rfl, hw9, rfl, rfl⟩ | ⟨cp2_1051, tl2_1052, z_1053, z_1054, z_1055, rfl, hw9, rfl, rfl⟩
        · skip
          rw [hw9] at B; clear hw9
          have B := bd_to (ws' := ([(na, .inl (k 0, 4, .inl (fun i9 : Nat => iI (nf i9))))] ++ tl2_1047)) rfl B
          have hPS : PS dI k T K qa cp2_1046 tl2_1047 := z_1048
          exfalso; omega
        · skip
          rw [hw9] at B; clear hw9
          have B := bd_to (ws' := ([(na, .inl (k 0, 4, .inl (fun i9 : Nat => iI (nf i9))))] ++ tl2_1052)) rfl B
          have hPS : PS dI k T K qa cp2_1051 tl2_1052 := z_1053
          refine W.widen (k := ((cp2_1051 - cp) + 77)) (n := ((12 * (cp2_1051 - cp)) + 812)) (by omega) (by omega) ?_
          refine lv_ldc (v := (-2000000001)) hx hb B.1.2.2.2.1 (B.1.2.2.2.2.1 _ mw_593) dL_refuses_696 ?_
          refine lv_seti (y := iI (-2000000001)) (by decide) ?_
          refine lv_icmp_ne (tgt := 1081) hx hb dL_refuses_698 (by decide) (fun c9 => absurd c9 (by decide)) (fun _ => ?_)
          refine lv_aload_n hx hb dL_refuses_701 rfl (lv_at hl 5 rfl) ?_
          refine lv_iload hx hb dL_refuses_702 (lv_at hl 2 rfl) ?_
          refine lv_iconst (v := iI 0) hx hb dL_refuses_704 (by decide) ?_
          have z_1056 : 0 ≤ rcT T ((-1) - (xx % 50)) ∧ rcT T ((-1) - (xx % 50)) ≤ 4 := rcZ_in 12 (Nat.le_refl _)
          have B := bd_swap (a := []) (b := [(na, .inl (k 0, 4, .inl (fun i9 : Nat => iI (nf i9))))]) (d := tl2_1052) (bd_to rfl B)
          refine k_W (rest := []) (wc := ([] ++ tl2_1052)) (wr := [(na, .inl (k 0, 4, .inl (fun i9 : Nat => iI (nf i9))))]) (w_high l dC dI k hl0 T K qa cp2_1051 tl2_1052 ((-1) - (xx % 50)) 0 z_1053 hQ (by omega) (by omega)) B mW_L_high mw_1348 hl ⟨Nat.le_of_ble_eq_true rfl, Nat.le_of_ble_eq_true rfl⟩ (Nat.le_of_ble_eq_true rfl) rfl dL_refuses_705 ⟨by dsimp only; omega, by dsimp only; omega⟩ (fun r w gc gs H locs hp B => ?_)
          rcases hp with ⟨cp2_1057, tl2_1058, z_1059, z_1060, z_1061, rfl, hw9, rfl, rfl⟩ | ⟨cp2_1062, tl2_1063, z_1064, z_1065, z_1066, rfl, hw9, rfl, rfl⟩
          · skip
            rw [hw9] at B; clear hw9
            have B := bd_to (ws' := ([(na, .inl (k 0, 4, .inl (fun i9 : Nat => iI (nf i9))))] ++ tl2_1058)) rfl B
            have hPS : PS dI k T K qa cp2_1057 tl2_1058 := z_1059
            exfalso; omega
          · skip
            rw [hw9] at B; clear hw9
            have B := bd_to (ws' := ([(na, .inl (k 0, 4, .inl (fun i9 : Nat => iI (nf i9))))] ++ tl2_1063)) rfl B
            have hPS : PS dI k T K qa cp2_1062 tl2_1063 := z_1064
            refine W.widen (k := ((cp2_1062 - cp) + 78)) (n := ((12 * (cp2_1062 - cp)) + 818)) (by omega) (by omega) ?_
            refine lv_ldc (v := (-2000000001)) hx hb B.1.2.2.2.1 (B.1.2.2.2.2.1 _ mw_593) dL_refuses_708 ?_
            refine lv_seti (y := iI (-2000000001)) (by decide) ?_
            refine lv_icmp_ne (tgt := 1081) hx hb dL_refuses_710 (by decide) (fun c9 => absurd c9 (by decide)) (fun _ => ?_)
            exact w_refuses_c713_21 l dC dI k hl0 T K qa cp tl na nf xx cp2_1062 tl2_1063 (by omega) hPS hQ hx9 hn9 (by omega)  (bd_to rfl B) hr hl

set_option maxHeartbeats 4000000 in
set_option maxRecDepth 100000 in
theorem w_refuses_c527_19 (l : Launch) (dC : Nat → ClassId) (dI : Nat → Nat → Nat) (k : Nat → ClassId) (hl0 : l.stackTraces = false) (T : Nat → Int → Int → Int → Int) (K : Nat → Int → Int) (qa : Nat) (cp : Nat) (tl : va_W) (na : Nat) (nf : Int → Int) (xx : Int) (cpS : Nat) (tlS : va_W) (hc0 : 512 ≤ cp ∧ cp ≤ 131072) (hPS : PS dI k T K qa cpS tlS) (hQ : OKT T K) (hx9 : 0 ≤ xx ∧ xx < 9973) (hn9 : nf 0 = T 0 0 0 0 ∧ nf 1 = K 0 0 ∧ nf 2 = T 12 0 0 0 ∧ nf 3 = T 18 0 0 0) (hcS : cp ≤ cpS ∧ cpS ≤ 131072) {p : Program} {e : Env} {s : State} {m : MethodId} {args : Array Value} {below : List Frame} {meth : Method} {c : Code} {H : Heap} {locs : List Loc} {ls : Array Slot} (B : bd p s m args meth c cL_refuses 11 yL_refuses.cls dC dI k (va_A ([(na, .inl (k 0, 4, .inl (fun i9 : Nat => iI (nf i9))))] ++ tl) s.heap.size) ([(na, .inl (k 0, 4, .inl (fun i9 : Nat => iI (nf i9))))] ++ tlS) H locs) (hr : meth.sig.returnType = (some .boolean)) (hl : lv_has ls 11 [(6, .int (iI ((-1) - (xx % 50)))), (5, .int (iI ((-1) - (xx % 50)))), (4, .int (iI ((-1) - (xx % 50)))), (3, .int (iI 1)), (0, .ref qa), (1, .ref na), (2, .int (iI xx))]) : W p l e ({ frames := 16, cells := ((131072 - cp) + 129), slots := ((12 * (131072 - cp)) + 1266), locals := 495 } : Room) s m args below meth c H locs ((cpS - cp) + 68) ((12 * (cpS - cp)) + 758) (MQ below (Qk dC dI ([(na, .inl (k 0, 4, .inl (fun i9 : Nat => iI (nf i9))))] ++ tl) s.heap.size (fun r w gc gs => (∃ (cp2 : Nat) (tl2 : va_W), (PS dI k T K qa cp2 tl2) ∧ (cp ≤ cp2 ∧ cp2 ≤ 131072) ∧ r = some (.int (iI 1)) ∧ w = ([(na, .inl (k 0, 4, .inl (fun i9 : Nat => iI (nf i9))))] ++ tl2) ∧ gc = ((cp2 - cp) + 129) ∧ gs = ((12 * (cp2 - cp)) + 1266)))) args s ({ frames := 16, cells := ((131072 - cp) + 129), slots := ((12 * (131072 - cp)) + 1266), locals := 495 } : Room).cells ({ frames := 16, cells := ((131072 - cp) + 129), slots := ((12 * (131072 - cp)) + 1266), locals := 495 } : Room).slots (va_A ([(na, .inl (k 0, 4, .inl (fun i9 : Nat => iI (nf i9))))] ++ tl) s.heap.size)) (F0 m 527 ls []) := by
  have hx := B.1.1
  have hb := B.1.2.1
  have hcp9 := PS_cp hPS
  have hn0 := TK_nb hQ.1
  have hk0 := hQ.2.1.1
  have hf0 := TK_fc hQ.1
  have hp0 := TK_np hQ.1
  have hm0 : lmZ 0 = 1 := rfl
  have hm1 : lmZ 1 = 0 := rfl
  have hm2 : lmZ 2 = 0 := rfl
  have hm3 : lmZ 3 = 0 := rfl
  have hm4 : lmZ 4 = 0 := rfl
  have hm5 : mmZ T 0 = 5 := rfl
  have hm6 : mmZ T 1 = T 12 0 0 0 - 1 := rfl
  have hm7 : mmZ T 2 = 5 := rfl
  have hm8 : mmZ T 3 = 7 := rfl
  have hm9 : mmZ T 4 = 1 := rfl
  refine lv_aload_n hx hb dL_refuses_527 rfl (lv_at hl 4 rfl) ?_
  refine lv_iload_n hx hb dL_refuses_528 rfl (lv_at hl 3 rfl) ?_
  refine lv_if_eq (tgt := 539) hx hb dL_refuses_529 (by decide) (fun c9 => absurd c9 (by decide)) (fun _ => ?_)
  refine lv_bipush (v := iI 29) hx hb dL_refuses_532 (by decide) ?_
  refine lv_iload_n hx hb dL_refuses_534 rfl (lv_at hl 6 rfl) ?_
  refine y_sub hx hb dL_refuses_535 ?_
  refine lv_goto (tgt := 543) hx hb dL_refuses_536 (by decide) ?_
  refine lv_bipush (v := iI 12) hx hb dL_refuses_543 (by decide) ?_
  have B := bd_swap (a := []) (b := [(na, .inl (k 0, 4, .inl (fun i9 : Nat => iI (nf i9))))]) (d := tlS) (bd_to rfl B)
  refine k_W (rest := []) (wc := ([] ++ tlS)) (wr := [(na, .inl (k 0, 4, .inl (fun i9 : Nat => iI (nf i9))))]) (w_papers l dC dI k hl0 T K qa cpS tlS (29 - xx) 12 hPS hQ (by omega) (by omega)) B mW_L_papers mw_1246 hl ⟨Nat.le_of_ble_eq_true rfl, Nat.le_of_ble_eq_true rfl⟩ (Nat.le_of_ble_eq_true rfl) rfl dL_refuses_545 ⟨by dsimp only; omega, by dsimp only; omega⟩ (fun r w gc gs H locs hp B => ?_)
  rcases hp with ⟨tl2_974, z_975, z_976, rfl, hw9, rfl, rfl⟩ | ⟨tl2_977, z_978, z_979, rfl, hw9, rfl, rfl⟩
  · skip
    rw [hw9] at B; clear hw9
    have B := bd_to (ws' := ([(na, .inl (k 0, 4, .inl (fun i9 : Nat => iI (nf i9))))] ++ tl2_974)) rfl B
    have hPS : PS dI k (paT T (29 - xx) 12) K qa cpS tl2_974 := z_975
    exfalso; omega
  · skip
    rw [hw9] at B; clear hw9
    have B := bd_to (ws' := ([(na, .inl (k 0, 4, .inl (fun i9 : Nat => iI (nf i9))))] ++ tl2_977)) rfl B
    have hPS : PS dI k T K qa cpS tl2_977 := z_978
    refine W.widen (k := ((cpS - cp) + 69)) (n := ((12 * (cpS - cp)) + 764)) (by omega) (by omega) ?_
    refine lv_ldc (v := (-2000000002)) hx hb B.1.2.2.2.1 (B.1.2.2.2.2.1 _ mw_627) dL_refuses_548 ?_
    refine lv_seti (y := iI (-2000000002)) (by decide) ?_
    refine lv_icmp_ne (tgt := 634) hx hb dL_refuses_550 (by decide) (fun c9 => absurd c9 (by decide)) (fun _ => ?_)
    refine lv_aload_n hx hb dL_refuses_553 rfl (lv_at hl 4 rfl) ?_
    refine lv_bipush (v := iI 60) hx hb dL_refuses_554 (by decide) ?_
    refine lv_iload_n hx hb dL_refuses_556 rfl (lv_at hl 3 rfl) ?_
    refine lv_if_eq (tgt := 566) hx hb dL_refuses_557 (by decide) (fun c9 => absurd c9 (by decide)) (fun _ => ?_)
    refine lv_iconst (v := iI 5) hx hb dL_refuses_560 (by decide) ?_
    refine lv_iload_n hx hb dL_refuses_561 rfl (lv_at hl 6 rfl) ?_
    refine y_sub hx hb dL_refuses_562 ?_
    refine lv_goto (tgt := 570) hx hb dL_refuses_563 (by decide) ?_
    have B := bd_swap (a := []) (b := [(na, .inl (k 0, 4, .inl (fun i9 : Nat => iI (nf i9))))]) (d := tl2_977) (bd_to rfl B)
    refine k_W (rest := []) (wc := ([] ++ tl2_977)) (wr := [(na, .inl (k 0, 4, .inl (fun i9 : Nat => iI (nf i9))))]) (w_papers l dC dI k hl0 T K qa cpS tl2_977 60 (5 - xx) z_978 hQ (by omega) (by omega)) B mW_L_papers mw_1246 hl ⟨Nat.le_of_ble_eq_true rfl, Nat.le_of_ble_eq_true rfl⟩ (Nat.le_of_ble_eq_true rfl) rfl dL_refuses_570 ⟨by dsimp only; omega, by dsimp only; omega⟩ (fun r w gc gs H locs hp B => ?_)
    rcases hp with ⟨tl2_980, z_981, z_982, rfl, hw9, rfl, rfl⟩ | ⟨tl2_983, z_984, z_985, rfl, hw9, rfl, rfl⟩
    · skip
      rw [hw9] at B; clear hw9
      have B := bd_to (ws' := ([(na, .inl (k 0, 4, .inl (fun i9 : Nat => iI (nf i9))))] ++ tl2_980)) rfl B
      have hPS : PS dI k (paT T 60 (5 - xx)) K qa cpS tl2_980 := z_981
      exfalso; omega
    · skip
      rw [hw9] at B; clear hw9
      have B := bd_to (ws' := ([(na, .inl (k 0, 4, .inl (fun i9 : Nat => iI (nf i9))))] ++ tl2_983)) rfl B
      have hPS : PS dI k T K qa cpS tl2_983 := z_984
      refine W.widen (k := ((cpS - cp) + 70)) (n := ((12 * (cpS - cp)) + 770)) (by omega) (by omega) ?_
      refine lv_ldc (v := (-2000000002)) hx hb B.1.2.2.2.1 (B.1.2.2.2.2.1 _ mw_627) dL_refuses_573 ?_
      refine lv_seti (y := iI (-2000000002)) (by decide) ?_
      refine lv_icmp_ne (tgt := 634) hx hb dL_refuses_575 (by decide) (fun c9 => absurd c9 (by decide)) (fun _ => ?_)
      refine lv_aload_n hx hb dL_refuses_578 rfl (lv_at hl 4 rfl) ?_
      refine lv_iload_n hx hb dL_refuses_579 rfl (lv_at hl 3 rfl) ?_
      refine lv_if_eq (tgt := 589) hx hb dL_refuses_580 (by decide) (fun c9 => absurd c9 (by decide)) (fun _ => ?_)
      refine lv_iconst (v := iI (-1)) hx hb dL_refuses_583 (by decide) ?_
      refine lv_iload_n hx hb dL_refuses_584 rfl (lv_at hl 6 rfl) ?_
      refine y_sub hx hb dL_refuses_585 ?_
      refine lv_goto (tgt := 593) hx hb dL_refuses_586 (by decide) ?_
      refine lv_iconst (v := iI 0) hx hb dL_refuses_593 (by decide) ?_
      have B := bd_swap (a := []) (b := [(na, .inl (k 0, 4, .inl (fun i9 : Nat => iI (nf i9))))]) (d := tl2_983) (bd_to rfl B)
      refine k_W (rest := []) (wc := ([] ++ tl2_983)) (wr := [(na, .inl (k 0, 4, .inl (fun i9 : Nat => iI (nf i9))))]) (w_keys l dC dI k hl0 T K qa cpS tl2_983 ((-1) - xx) 0 z_984 hQ (by omega) (by omega)) B mW_L_keys mw_1254 hl ⟨Nat.le_of_ble_eq_true rfl, Nat.le_of_ble_eq_true rfl⟩ (Nat.le_of_ble_eq_true rfl) rfl dL_refuses_594 ⟨by dsimp only; omega, by dsimp only; omega⟩ (fun r w gc gs H locs hp B => ?_)
      rcases hp with ⟨tl2_986, z_987, z_988, rfl, hw9, rfl, rfl⟩ | ⟨tl2_989, z_990, z_991, rfl, hw9, rfl, rfl⟩ | ⟨tl2_992, z_993, z_994, rfl, hw9, rfl, rfl⟩
      · skip
        rw [hw9] at B; clear hw9
        have B := bd_to (ws' := ([(na, .inl (k 0, 4, .inl (fun i9 : Nat => iI (nf i9))))] ++ tl2_986)) rfl B
        have hPS : PS dI k (kyT T ((-1) - xx) 0) K qa cpS tl2_986 := z_987
        exfalso; omega
      · skip
        rw [hw9] at B; clear hw9
        have B := bd_to (ws' := ([(na, .inl (k 0, 4, .inl (fun i9 : Nat => iI (nf i9))))] ++ tl2_989)) rfl B
        have hPS : PS dI k T K qa cpS tl2_989 := z_990
        refine W.widen (k := ((cpS - cp) + 71)) (n := ((12 * (cpS - cp)) + 776)) (by omega) (by omega) ?_
        refine lv_ldc (v := (-2000000001)) hx hb B.1.2.2.2.1 (B.1.2.2.2.2.1 _ mw_593) dL_refuses_597 ?_
        refine lv_seti (y := iI (-2000000001)) (by decide) ?_
        refine lv_icmp_ne (tgt := 634) hx hb dL_refuses_599 (by decide) (fun c9 => absurd c9 (by decide)) (fun _ => ?_)
        refine lv_aload_n hx hb dL_refuses_602 rfl (lv_at hl 4 rfl) ?_
        refine lv_iload_n hx hb dL_refuses_603 rfl (lv_at hl 6 rfl) ?_
        refine lv_bipush (v := iI 8) hx hb dL_refuses_604 (by decide) ?_
        refine y_rem hx hb (a := xx) (b := 8) (by omega) (by omega) dL_refuses_606 ?_
        refine lv_iload_n hx hb dL_refuses_607 rfl (lv_at hl 3 rfl) ?_
        refine lv_if_eq (tgt := 617) hx hb dL_refuses_608 (by decide) (fun c9 => absurd c9 (by decide)) (fun _ => ?_)
        refine lv_iconst (v := iI (-1)) hx hb dL_refuses_611 (by decide) ?_
        refine lv_iload_n hx hb dL_refuses_612 rfl (lv_at hl 6 rfl) ?_
        refine y_sub hx hb dL_refuses_613 ?_
        refine lv_goto (tgt := 622) hx hb dL_refuses_614 (by decide) ?_
        have B := bd_swap (a := []) (b := [(na, .inl (k 0, 4, .inl (fun i9 : Nat => iI (nf i9))))]) (d := tl2_989) (bd_to rfl B)
        refine k_W (rest := []) (wc := ([] ++ tl2_989)) (wr := [(na, .inl (k 0, 4, .inl (fun i9 : Nat => iI (nf i9))))]) (w_keys l dC dI k hl0 T K qa cpS tl2_989 (xx % 8) ((-1) - xx) z_990 hQ (by omega) (by omega)) B mW_L_keys mw_1254 hl ⟨Nat.le_of_ble_eq_true rfl, Nat.le_of_ble_eq_true rfl⟩ (Nat.le_of_ble_eq_true rfl) rfl dL_refuses_622 ⟨by dsimp only; omega, by dsimp only; omega⟩ (fun r w gc gs H locs hp B => ?_)
        rcases hp with ⟨tl2_995, z_996, z_997, rfl, hw9, rfl, rfl⟩ | ⟨tl2_998, z_999, z_1000, rfl, hw9, rfl, rfl⟩ | ⟨tl2_1001, z_1002, z_1003, rfl, hw9, rfl, rfl⟩
        · skip
          rw [hw9] at B; clear hw9
          have B := bd_to (ws' := ([(na, .inl (k 0, 4, .inl (fun i9 : Nat => iI (nf i9))))] ++ tl2_995)) rfl B
          have hPS : PS dI k (kyT T (xx % 8) ((-1) - xx)) K qa cpS tl2_995 := z_996
          exfalso; omega
        · skip
          rw [hw9] at B; clear hw9
          have B := bd_to (ws' := ([(na, .inl (k 0, 4, .inl (fun i9 : Nat => iI (nf i9))))] ++ tl2_998)) rfl B
          have hPS : PS dI k T K qa cpS tl2_998 := z_999
          exfalso; omega
        · skip
          rw [hw9] at B; clear hw9
          have B := bd_to (ws' := ([(na, .inl (k 0, 4, .inl (fun i9 : Nat => iI (nf i9))))] ++ tl2_1001)) rfl B
          have hPS : PS dI k T K qa cpS tl2_1001 := z_1002
          refine W.widen (k := ((cpS - cp) + 72)) (n := ((12 * (cpS - cp)) + 782)) (by omega) (by omega) ?_
          refine lv_ldc (v := (-2000000002)) hx hb B.1.2.2.2.1 (B.1.2.2.2.2.1 _ mw_627) dL_refuses_625 ?_
          refine lv_seti (y := iI (-2000000002)) (by decide) ?_
          refine lv_icmp_ne (tgt := 634) hx hb dL_refuses_627 (by decide) (fun c9 => absurd c9 (by decide)) (fun _ => ?_)
          refine lv_iconst (v := iI 1) hx hb dL_refuses_630 (by decide) ?_
          refine lv_goto (tgt := 635) hx hb dL_refuses_631 (by decide) ?_
          refine lv_istore (lv' := [(7, .int (iI 1)), (6, .int (iI ((-1) - (xx % 50)))), (5, .int (iI ((-1) - (xx % 50)))), (4, .int (iI ((-1) - (xx % 50)))), (3, .int (iI 1)), (0, .ref qa), (1, .ref na), (2, .int (iI xx))]) hx hb dL_refuses_635 hl (by decide) rfl (fun ls hl => ?_)
          refine lv_iload hx hb dL_refuses_637 (lv_at hl 0 rfl) ?_
          refine lv_if_eq (tgt := 1081) hx hb dL_refuses_639 (by decide) (fun c9 => absurd c9 (by decide)) (fun _ => ?_)
          refine lv_aload_n hx hb dL_refuses_642 rfl (lv_at hl 5 rfl) ?_
          refine lv_iload hx hb dL_refuses_643 (lv_at hl 2 rfl) ?_
          have z_1004 : 0 ≤ T 3 ((-1) - (xx % 50)) 0 0 ∧ T 3 ((-1) - (xx % 50)) 0 0 ≤ 12 := TK_nw hQ.1 _
          have B := bd_swap (a := []) (b := [(na, .inl (k 0, 4, .inl (fun i9 : Nat => iI (nf i9))))]) (d := tl2_1001) (bd_to rfl B)
          refine k_W (rest := []) (wc := ([] ++ tl2_1001)) (wr := [(na, .inl (k 0, 4, .inl (fun i9 : Nat => iI (nf i9))))]) (w_count l dC dI k hl0 T K qa cpS tl2_1001 ((-1) - (xx % 50)) z_1002 hQ (by omega)) B mW_L_count mw_1266 hl ⟨Nat.le_of_ble_eq_true rfl, Nat.le_of_ble_eq_true rfl⟩ (Nat.le_of_ble_eq_true rfl) rfl dL_refuses_645 ⟨by dsimp only; omega, by dsimp only; omega⟩ (fun r w gc gs H locs hp B => ?_)
          rcases hp with ⟨cp2_1005, tl2_1006, z_1007, z_1008, z_1009, rfl, hw9, rfl, rfl⟩ | ⟨cp2_1010, tl2_1011, z_1012, z_1013, z_1014, rfl, hw9, rfl, rfl⟩
          · skip
            rw [hw9] at B; clear hw9
            have B := bd_to (ws' := ([(na, .inl (k 0, 4, .inl (fun i9 : Nat => iI (nf i9))))] ++ tl2_1006)) rfl B
            have hPS : PS dI k T K qa cp2_1005 tl2_1006 := z_1007
            exfalso; omega
          · skip
            rw [hw9] at B; clear hw9
            have B := bd_to (ws' := ([(na, .inl (k 0, 4, .inl (fun i9 : Nat => iI (nf i9))))] ++ tl2_1011)) rfl B
            have hPS : PS dI k T K qa cp2_1010 tl2_1011 := z_1012
            refine W.widen (k := ((cp2_1010 - cp) + 73)) (n := ((12 * (cp2_1010 - cp)) + 788)) (by omega) (by omega) ?_
            refine lv_ldc (v := (-2000000001)) hx hb B.1.2.2.2.1 (B.1.2.2.2.2.1 _ mw_593) dL_refuses_648 ?_
            refine lv_seti (y := iI (-2000000001)) (by decide) ?_
            refine lv_icmp_ne (tgt := 1081) hx hb dL_refuses_650 (by decide) (fun c9 => absurd c9 (by decide)) (fun _ => ?_)
            exact w_refuses_c653_20 l dC dI k hl0 T K qa cp tl na nf xx cp2_1010 tl2_1011 (by omega) hPS hQ hx9 hn9 (by omega)  (bd_to rfl B) hr hl
      · skip
        rw [hw9] at B; clear hw9
        have B := bd_to (ws' := ([(na, .inl (k 0, 4, .inl (fun i9 : Nat => iI (nf i9))))] ++ tl2_992)) rfl B
        have hPS : PS dI k T K qa cpS tl2_992 := z_993
        exfalso; omega

set_option maxHeartbeats 4000000 in
set_option maxRecDepth 100000 in
theorem w_refuses_c444_18 (l : Launch) (dC : Nat → ClassId) (dI : Nat → Nat → Nat) (k : Nat → ClassId) (hl0 : l.stackTraces = false) (T : Nat → Int → Int → Int → Int) (K : Nat → Int → Int) (qa : Nat) (cp : Nat) (tl : va_W) (na : Nat) (nf : Int → Int) (xx : Int) (cpS : Nat) (tlS : va_W) (hc0 : 512 ≤ cp ∧ cp ≤ 131072) (hPS : PS dI k T K qa cpS tlS) (hQ : OKT T K) (hx9 : 0 ≤ xx ∧ xx < 9973) (hn9 : nf 0 = T 0 0 0 0 ∧ nf 1 = K 0 0 ∧ nf 2 = T 12 0 0 0 ∧ nf 3 = T 18 0 0 0) (hcS : cp ≤ cpS ∧ cpS ≤ 131072) {p : Program} {e : Env} {s : State} {m : MethodId} {args : Array Value} {below : List Frame} {meth : Method} {c : Code} {H : Heap} {locs : List Loc} {ls : Array Slot} (B : bd p s m args meth c cL_refuses 11 yL_refuses.cls dC dI k (va_A ([(na, .inl (k 0, 4, .inl (fun i9 : Nat => iI (nf i9))))] ++ tl) s.heap.size) ([(na, .inl (k 0, 4, .inl (fun i9 : Nat => iI (nf i9))))] ++ tlS) H locs) (hr : meth.sig.returnType = (some .boolean)) (hl : lv_has ls 11 [(6, .int (iI ((-1) - (xx % 50)))), (5, .int (iI ((-1) - (xx % 50)))), (4, .int (iI ((-1) - (xx % 50)))), (3, .int (iI 1)), (0, .ref qa), (1, .ref na), (2, .int (iI xx))]) : W p l e ({ frames := 16, cells := ((131072 - cp) + 129), slots := ((12 * (131072 - cp)) + 1266), locals := 495 } : Room) s m args below meth c H locs ((cpS - cp) + 63) ((12 * (cpS - cp)) + 728) (MQ below (Qk dC dI ([(na, .inl (k 0, 4, .inl (fun i9 : Nat => iI (nf i9))))] ++ tl) s.heap.size (fun r w gc gs => (∃ (cp2 : Nat) (tl2 : va_W), (PS dI k T K qa cp2 tl2) ∧ (cp ≤ cp2 ∧ cp2 ≤ 131072) ∧ r = some (.int (iI 1)) ∧ w = ([(na, .inl (k 0, 4, .inl (fun i9 : Nat => iI (nf i9))))] ++ tl2) ∧ gc = ((cp2 - cp) + 129) ∧ gs = ((12 * (cp2 - cp)) + 1266)))) args s ({ frames := 16, cells := ((131072 - cp) + 129), slots := ((12 * (131072 - cp)) + 1266), locals := 495 } : Room).cells ({ frames := 16, cells := ((131072 - cp) + 129), slots := ((12 * (131072 - cp)) + 1266), locals := 495 } : Room).slots (va_A ([(na, .inl (k 0, 4, .inl (fun i9 : Nat => iI (nf i9))))] ++ tl) s.heap.size)) (F0 m 444 ls []) := by
  have hx := B.1.1
  have hb := B.1.2.1
  have hcp9 := PS_cp hPS
  have hn0 := TK_nb hQ.1
  have hk0 := hQ.2.1.1
  have hf0 := TK_fc hQ.1
  have hp0 := TK_np hQ.1
  have hm0 : lmZ 0 = 1 := rfl
  have hm1 : lmZ 1 = 0 := rfl
  have hm2 : lmZ 2 = 0 := rfl
  have hm3 : lmZ 3 = 0 := rfl
  have hm4 : lmZ 4 = 0 := rfl
  have hm5 : mmZ T 0 = 5 := rfl
  have hm6 : mmZ T 1 = T 12 0 0 0 - 1 := rfl
  have hm7 : mmZ T 2 = 5 := rfl
  have hm8 : mmZ T 3 = 7 := rfl
  have hm9 : mmZ T 4 = 1 := rfl
  refine lv_aload_n hx hb dL_refuses_444 rfl (lv_at hl 4 rfl) ?_
  refine lv_iload hx hb dL_refuses_445 (lv_at hl 1 rfl) ?_
  refine lv_iconst (v := iI 0) hx hb dL_refuses_447 (by decide) ?_
  refine lv_iconst (v := iI 0) hx hb dL_refuses_448 (by decide) ?_
  have z_933 : (-1 ≤ lsZ 0 ∧ lsZ 0 ≤ 1) ∧ 1 ≤ msZ 0 ∧ msZ 0 ≤ 30 := ⟨lsZ_in, msZ_in⟩
  have B := bd_swap (a := []) (b := [(na, .inl (k 0, 4, .inl (fun i9 : Nat => iI (nf i9))))]) (d := tlS) (bd_to rfl B)
  refine k_W (rest := []) (wc := ([] ++ tlS)) (wr := [(na, .inl (k 0, 4, .inl (fun i9 : Nat => iI (nf i9))))]) (w_styles l dC dI k hl0 T K qa cpS tlS ((-1) - (xx % 50)) 0 0 hPS hQ (by omega) (by omega) (by omega)) B mW_L_styles mw_1204 hl ⟨Nat.le_of_ble_eq_true rfl, Nat.le_of_ble_eq_true rfl⟩ (Nat.le_of_ble_eq_true rfl) rfl dL_refuses_449 ⟨by dsimp only; omega, by dsimp only; omega⟩ (fun r w gc gs H locs hp B => ?_)
  rcases hp with ⟨tl2_934, z_935, z_936, rfl, hw9, rfl, rfl⟩ | ⟨tl2_937, z_938, z_939, rfl, hw9, rfl, rfl⟩ | ⟨tl2_940, z_941, z_942, rfl, hw9, rfl, rfl⟩
  · skip
    rw [hw9] at B; clear hw9
    have B := bd_to (ws' := ([(na, .inl (k 0, 4, .inl (fun i9 : Nat => iI (nf i9))))] ++ tl2_934)) rfl B
    have hPS : PS dI k (stT T ((-1) - (xx % 50)) 0 0) K qa cpS tl2_934 := z_935
    exfalso; omega
  · skip
    rw [hw9] at B; clear hw9
    have B := bd_to (ws' := ([(na, .inl (k 0, 4, .inl (fun i9 : Nat => iI (nf i9))))] ++ tl2_937)) rfl B
    have hPS : PS dI k T K qa cpS tl2_937 := z_938
    refine W.widen (k := ((cpS - cp) + 64)) (n := ((12 * (cpS - cp)) + 734)) (by omega) (by omega) ?_
    refine lv_ldc (v := (-2000000001)) hx hb B.1.2.2.2.1 (B.1.2.2.2.2.1 _ mw_593) dL_refuses_452 ?_
    refine lv_seti (y := iI (-2000000001)) (by decide) ?_
    refine lv_icmp_ne (tgt := 634) hx hb dL_refuses_454 (by decide) (fun c9 => absurd c9 (by decide)) (fun _ => ?_)
    refine lv_aload_n hx hb dL_refuses_457 rfl (lv_at hl 4 rfl) ?_
    refine lv_iload hx hb dL_refuses_458 (lv_at hl 1 rfl) ?_
    refine lv_bipush (v := iI 9) hx hb dL_refuses_460 (by decide) ?_
    refine lv_iconst (v := iI 0) hx hb dL_refuses_462 (by decide) ?_
    refine lv_iconst (v := iI 1) hx hb dL_refuses_463 (by decide) ?_
    refine lv_iconst (v := iI 0) hx hb dL_refuses_464 (by decide) ?_
    refine lv_iconst (v := iI 0) hx hb dL_refuses_465 (by decide) ?_
    have B := bd_swap (a := []) (b := [(na, .inl (k 0, 4, .inl (fun i9 : Nat => iI (nf i9))))]) (d := tl2_937) (bd_to rfl B)
    refine k_W (rest := []) (wc := ([] ++ tl2_937)) (wr := [(na, .inl (k 0, 4, .inl (fun i9 : Nat => iI (nf i9))))]) (w_cells l dC dI k hl0 T K qa cpS tl2_937 ((-1) - (xx % 50)) 9 0 1 0 0 z_938 hQ (by omega) (by omega) (by omega) (by omega) (by omega) (by omega)) B mW_L_cells mw_1219 hl ⟨Nat.le_of_ble_eq_true rfl, Nat.le_of_ble_eq_true rfl⟩ (Nat.le_of_ble_eq_true rfl) rfl dL_refuses_466 ⟨by dsimp only; omega, by dsimp only; omega⟩ (fun r w gc gs H locs hp B => ?_)
    rcases hp with ⟨tl2_943, z_944, z_945, rfl, hw9, rfl, rfl⟩ | ⟨tl2_946, z_947, z_948, rfl, hw9, rfl, rfl⟩ | ⟨tl2_949, z_950, z_951, rfl, hw9, rfl, rfl⟩ | ⟨tl2_952, z_953, z_954, rfl, hw9, rfl, rfl⟩
    · skip
      rw [hw9] at B; clear hw9
      have B := bd_to (ws' := ([(na, .inl (k 0, 4, .inl (fun i9 : Nat => iI (nf i9))))] ++ tl2_943)) rfl B
      have hPS : PS dI k (teT T ((-1) - (xx % 50)) ((9 * 3) + 0) 1 0 0) K qa cpS tl2_943 := z_944
      exfalso; omega
    · skip
      rw [hw9] at B; clear hw9
      have B := bd_to (ws' := ([(na, .inl (k 0, 4, .inl (fun i9 : Nat => iI (nf i9))))] ++ tl2_946)) rfl B
      have hPS : PS dI k T K qa cpS tl2_946 := z_947
      refine W.widen (k := ((cpS - cp) + 65)) (n := ((12 * (cpS - cp)) + 740)) (by omega) (by omega) ?_
      refine lv_ldc (v := (-2000000001)) hx hb B.1.2.2.2.1 (B.1.2.2.2.2.1 _ mw_593) dL_refuses_469 ?_
      refine lv_seti (y := iI (-2000000001)) (by decide) ?_
      refine lv_icmp_ne (tgt := 634) hx hb dL_refuses_471 (by decide) (fun c9 => absurd c9 (by decide)) (fun _ => ?_)
      refine lv_aload_n hx hb dL_refuses_474 rfl (lv_at hl 4 rfl) ?_
      refine lv_iload hx hb dL_refuses_475 (lv_at hl 2 rfl) ?_
      refine lv_iconst (v := iI 1) hx hb dL_refuses_477 (by decide) ?_
      have B := bd_swap (a := []) (b := [(na, .inl (k 0, 4, .inl (fun i9 : Nat => iI (nf i9))))]) (d := tl2_946) (bd_to rfl B)
      refine k_W (rest := []) (wc := ([] ++ tl2_946)) (wr := [(na, .inl (k 0, 4, .inl (fun i9 : Nat => iI (nf i9))))]) (w_figures l dC dI k hl0 T K qa cpS tl2_946 ((-1) - (xx % 50)) 1 z_947 hQ (by omega) (by omega)) B mW_L_figures mw_1237 hl ⟨Nat.le_of_ble_eq_true rfl, Nat.le_of_ble_eq_true rfl⟩ (Nat.le_of_ble_eq_true rfl) rfl dL_refuses_478 ⟨by dsimp only; omega, by dsimp only; omega⟩ (fun r w gc gs H locs hp B => ?_)
      rcases hp with ⟨tl2_955, z_956, z_957, rfl, hw9, rfl, rfl⟩ | ⟨tl2_958, z_959, z_960, rfl, hw9, rfl, rfl⟩ | ⟨tl2_961, z_962, z_963, rfl, hw9, rfl, rfl⟩
      · skip
        rw [hw9] at B; clear hw9
        have B := bd_to (ws' := ([(na, .inl (k 0, 4, .inl (fun i9 : Nat => iI (nf i9))))] ++ tl2_955)) rfl B
        have hPS : PS dI k (fiT T ((-1) - (xx % 50)) 1) K qa cpS tl2_955 := z_956
        exfalso; omega
      · skip
        rw [hw9] at B; clear hw9
        have B := bd_to (ws' := ([(na, .inl (k 0, 4, .inl (fun i9 : Nat => iI (nf i9))))] ++ tl2_958)) rfl B
        have hPS : PS dI k T K qa cpS tl2_958 := z_959
        refine W.widen (k := ((cpS - cp) + 66)) (n := ((12 * (cpS - cp)) + 746)) (by omega) (by omega) ?_
        refine lv_ldc (v := (-2000000002)) hx hb B.1.2.2.2.1 (B.1.2.2.2.2.1 _ mw_627) dL_refuses_481 ?_
        refine lv_seti (y := iI (-2000000002)) (by decide) ?_
        refine lv_icmp_ne (tgt := 634) hx hb dL_refuses_483 (by decide) (fun c9 => absurd c9 (by decide)) (fun _ => ?_)
        refine lv_aload_n hx hb dL_refuses_486 rfl (lv_at hl 4 rfl) ?_
        refine lv_iconst (v := iI 0) hx hb dL_refuses_487 (by decide) ?_
        refine lv_iload_n hx hb dL_refuses_488 rfl (lv_at hl 3 rfl) ?_
        refine lv_if_eq (tgt := 497) hx hb dL_refuses_489 (by decide) (fun c9 => absurd c9 (by decide)) (fun _ => ?_)
        refine lv_iload_n hx hb dL_refuses_492 rfl (lv_at hl 6 rfl) ?_
        refine y_neg hx hb dL_refuses_493 ?_
        refine lv_goto (tgt := 501) hx hb dL_refuses_494 (by decide) ?_
        have B := bd_swap (a := []) (b := [(na, .inl (k 0, 4, .inl (fun i9 : Nat => iI (nf i9))))]) (d := tl2_958) (bd_to rfl B)
        refine k_W (rest := []) (wc := ([] ++ tl2_958)) (wr := [(na, .inl (k 0, 4, .inl (fun i9 : Nat => iI (nf i9))))]) (w_figures l dC dI k hl0 T K qa cpS tl2_958 0 (-xx) z_959 hQ (by omega) (by omega)) B mW_L_figures mw_1237 hl ⟨Nat.le_of_ble_eq_true rfl, Nat.le_of_ble_eq_true rfl⟩ (Nat.le_of_ble_eq_true rfl) rfl dL_refuses_501 ⟨by dsimp only; omega, by dsimp only; omega⟩ (fun r w gc gs H locs hp B => ?_)
        rcases hp with ⟨tl2_964, z_965, z_966, rfl, hw9, rfl, rfl⟩ | ⟨tl2_967, z_968, z_969, rfl, hw9, rfl, rfl⟩ | ⟨tl2_970, z_971, z_972, rfl, hw9, rfl, rfl⟩
        · skip
          rw [hw9] at B; clear hw9
          have B := bd_to (ws' := ([(na, .inl (k 0, 4, .inl (fun i9 : Nat => iI (nf i9))))] ++ tl2_964)) rfl B
          have hPS : PS dI k (fiT T 0 (-xx)) K qa cpS tl2_964 := z_965
          exfalso; omega
        · skip
          rw [hw9] at B; clear hw9
          have B := bd_to (ws' := ([(na, .inl (k 0, 4, .inl (fun i9 : Nat => iI (nf i9))))] ++ tl2_967)) rfl B
          have hPS : PS dI k T K qa cpS tl2_967 := z_968
          refine W.widen (k := ((cpS - cp) + 67)) (n := ((12 * (cpS - cp)) + 752)) (by omega) (by omega) ?_
          refine lv_ldc (v := (-2000000002)) hx hb B.1.2.2.2.1 (B.1.2.2.2.2.1 _ mw_627) dL_refuses_504 ?_
          refine lv_seti (y := iI (-2000000002)) (by decide) ?_
          refine lv_icmp_ne (tgt := 634) hx hb dL_refuses_506 (by decide) (fun c9 => absurd c9 (by decide)) (fun _ => ?_)
          refine k_joinG (σ := Nat × va_W) B 527 (fun g9 : Nat × va_W => (PS dI k T K qa g9.1 g9.2) ∧ (cp ≤ g9.1 ∧ g9.1 ≤ 131072)) (fun g9 : Nat × va_W => [(6, .int (iI ((-1) - (xx % 50)))), (5, .int (iI ((-1) - (xx % 50)))), (4, .int (iI ((-1) - (xx % 50)))), (3, .int (iI 1)), (0, .ref qa), (1, .ref na), (2, .int (iI xx))]) (fun g9 : Nat × va_W => ([(na, .inl (k 0, 4, .inl (fun i9 : Nat => iI (nf i9))))] ++ g9.2)) (fun g9 : Nat × va_W => ((g9.1 - cp) + 68)) (fun g9 : Nat × va_W => ((12 * (g9.1 - cp)) + 758)) (fun g9 : Nat × va_W => []) ?_ (fun J_973 => ?_)
          · clear hl B
            rintro ⟨cpD, tlD⟩ ⟨hPS, hcD⟩ ls H locs hl B
            have hPS : PS dI k T K qa cpD tlD := hPS
            have hcD : cp ≤ cpD ∧ cpD ≤ 131072 := hcD
            show W p l e _ s m args below meth c H locs (((cpD - cp) + 68)) (((12 * (cpD - cp)) + 758)) _ _
            have hl : lv_has ls 11 [(6, .int (iI ((-1) - (xx % 50)))), (5, .int (iI ((-1) - (xx % 50)))), (4, .int (iI ((-1) - (xx % 50)))), (3, .int (iI 1)), (0, .ref qa), (1, .ref na), (2, .int (iI xx))] := hl
            have B := bd_to (ws' := ([(na, .inl (k 0, 4, .inl (fun i9 : Nat => iI (nf i9))))] ++ tlD)) rfl B
            exact w_refuses_c527_19 l dC dI k hl0 T K qa cp tl na nf xx cpD tlD (by omega) hPS hQ hx9 hn9 (by omega)  (bd_to rfl B) hr hl
          refine lv_aload_n hx hb dL_refuses_509 rfl (lv_at hl 5 rfl) ?_
          refine lv_iconst (v := iI 2) hx hb dL_refuses_510 (by decide) ?_
          refine x_iald' (f := nf) (z := 2) B 0 rfl (by omega) dL_refuses_511 ?_
          refine lv_seti (y := iI (T 12 0 0 0)) (congrArg iI (show nf 2 = T 12 0 0 0 from hn9.2.2.1)) ?_
          refine lv_iconst (v := iI 5) hx hb dL_refuses_512 (by decide) ?_
          refine lv_icmp_lt (tgt := 527) hx hb dL_refuses_513 (by decide) (fun c_1514 => ?_) (fun c_1514 => ?_)
          · have zc_1514 : (T 12 0 0 0) < 5 := jlt (a := (T 12 0 0 0)) (b := 5) (by omega) (by omega) c_1514
            refine W.widen (k := ((cpS - cp) + 68)) (n := ((12 * (cpS - cp)) + 758)) (by omega) (by omega) ?_
            exact J_973 (cpS, tl2_967) ⟨(show PS dI k T K qa cpS tl2_967 from hPS), (show cp ≤ cpS ∧ cpS ≤ 131072 from hcS)⟩ _ _ _ (lv_sub hl [0, 1, 2, 3, 4, 5, 6] rfl) (bd_to rfl B)
          · have zc_1514 : 5 ≤ (T 12 0 0 0) := jnlt (a := (T 12 0 0 0)) (b := 5) (by omega) (by omega) c_1514
            refine lv_aload_n hx hb dL_refuses_516 rfl (lv_at hl 4 rfl) ?_
            refine lv_iconst (v := iI 0) hx hb dL_refuses_517 (by decide) ?_
            refine lv_iconst (v := iI 1) hx hb dL_refuses_518 (by decide) ?_
            have B := bd_swap (a := []) (b := [(na, .inl (k 0, 4, .inl (fun i9 : Nat => iI (nf i9))))]) (d := tl2_967) (bd_to rfl B)
            refine k_W (rest := []) (wc := ([] ++ tl2_967)) (wr := [(na, .inl (k 0, 4, .inl (fun i9 : Nat => iI (nf i9))))]) (w_figures l dC dI k hl0 T K qa cpS tl2_967 0 1 z_968 hQ (by omega) (by omega)) B mW_L_figures mw_1237 hl ⟨Nat.le_of_ble_eq_true rfl, Nat.le_of_ble_eq_true rfl⟩ (Nat.le_of_ble_eq_true rfl) rfl dL_refuses_519 ⟨by dsimp only; omega, by dsimp only; omega⟩ (fun r w gc gs H locs hp B => ?_)
            rcases hp with ⟨tl2_1515, z_1516, z_1517, rfl, hw9, rfl, rfl⟩ | ⟨tl2_1518, z_1519, z_1520, rfl, hw9, rfl, rfl⟩ | ⟨tl2_1521, z_1522, z_1523, rfl, hw9, rfl, rfl⟩
            · skip
              rw [hw9] at B; clear hw9
              have B := bd_to (ws' := ([(na, .inl (k 0, 4, .inl (fun i9 : Nat => iI (nf i9))))] ++ tl2_1515)) rfl B
              have hPS : PS dI k (fiT T 0 1) K qa cpS tl2_1515 := z_1516
              exfalso; omega
            · skip
              rw [hw9] at B; clear hw9
              have B := bd_to (ws' := ([(na, .inl (k 0, 4, .inl (fun i9 : Nat => iI (nf i9))))] ++ tl2_1518)) rfl B
              have hPS : PS dI k T K qa cpS tl2_1518 := z_1519
              exfalso; omega
            · skip
              rw [hw9] at B; clear hw9
              have B := bd_to (ws' := ([(na, .inl (k 0, 4, .inl (fun i9 : Nat => iI (nf i9))))] ++ tl2_1521)) rfl B
              have hPS : PS dI k T K qa cpS tl2_1521 := z_1522
              refine W.widen (k := ((cpS - cp) + 68)) (n := ((12 * (cpS - cp)) + 758)) (by omega) (by omega) ?_
              refine lv_ldc (v := (-2000000003)) hx hb B.1.2.2.2.1 (B.1.2.2.2.2.1 _ mw_594) dL_refuses_522 ?_
              refine lv_seti (y := iI (-2000000003)) (by decide) ?_
              refine lv_icmp_ne (tgt := 634) hx hb dL_refuses_524 (by decide) (fun c9 => absurd c9 (by decide)) (fun _ => ?_)
              refine W.widen (k := ((cpS - cp) + 68)) (n := ((12 * (cpS - cp)) + 758)) (by omega) (by omega) ?_
              exact J_973 (cpS, tl2_1521) ⟨(show PS dI k T K qa cpS tl2_1521 from hPS), (show cp ≤ cpS ∧ cpS ≤ 131072 from hcS)⟩ _ _ _ (lv_sub hl [0, 1, 2, 3, 4, 5, 6] rfl) (bd_to rfl B)
        · skip
          rw [hw9] at B; clear hw9
          have B := bd_to (ws' := ([(na, .inl (k 0, 4, .inl (fun i9 : Nat => iI (nf i9))))] ++ tl2_970)) rfl B
          have hPS : PS dI k T K qa cpS tl2_970 := z_971
          exfalso; omega
      · skip
        rw [hw9] at B; clear hw9
        have B := bd_to (ws' := ([(na, .inl (k 0, 4, .inl (fun i9 : Nat => iI (nf i9))))] ++ tl2_961)) rfl B
        have hPS : PS dI k T K qa cpS tl2_961 := z_962
        exfalso; omega
    · skip
      rw [hw9] at B; clear hw9
      have B := bd_to (ws' := ([(na, .inl (k 0, 4, .inl (fun i9 : Nat => iI (nf i9))))] ++ tl2_949)) rfl B
      have hPS : PS dI k T K qa cpS tl2_949 := z_950
      exfalso; omega
    · skip
      rw [hw9] at B; clear hw9
      have B := bd_to (ws' := ([(na, .inl (k 0, 4, .inl (fun i9 : Nat => iI (nf i9))))] ++ tl2_952)) rfl B
      have hPS : PS dI k T K qa cpS tl2_952 := z_953
      exfalso; omega
  · skip
    rw [hw9] at B; clear hw9
    have B := bd_to (ws' := ([(na, .inl (k 0, 4, .inl (fun i9 : Nat => iI (nf i9))))] ++ tl2_940)) rfl B
    have hPS : PS dI k T K qa cpS tl2_940 := z_941
    exfalso; omega

set_option maxHeartbeats 4000000 in
set_option maxRecDepth 100000 in
theorem w_refuses_c351_17 (l : Launch) (dC : Nat → ClassId) (dI : Nat → Nat → Nat) (k : Nat → ClassId) (hl0 : l.stackTraces = false) (T : Nat → Int → Int → Int → Int) (K : Nat → Int → Int) (qa : Nat) (cp : Nat) (tl : va_W) (na : Nat) (nf : Int → Int) (xx : Int) (cpS : Nat) (tlS : va_W) (hc0 : 512 ≤ cp ∧ cp ≤ 131072) (hPS : PS dI k T K qa cpS tlS) (hQ : OKT T K) (hx9 : 0 ≤ xx ∧ xx < 9973) (hn9 : nf 0 = T 0 0 0 0 ∧ nf 1 = K 0 0 ∧ nf 2 = T 12 0 0 0 ∧ nf 3 = T 18 0 0 0) (hcS : cp ≤ cpS ∧ cpS ≤ 131072) {p : Program} {e : Env} {s : State} {m : MethodId} {args : Array Value} {below : List Frame} {meth : Method} {c : Code} {H : Heap} {locs : List Loc} {ls : Array Slot} (B : bd p s m args meth c cL_refuses 11 yL_refuses.cls dC dI k (va_A ([(na, .inl (k 0, 4, .inl (fun i9 : Nat => iI (nf i9))))] ++ tl) s.heap.size) ([(na, .inl (k 0, 4, .inl (fun i9 : Nat => iI (nf i9))))] ++ tlS) H locs) (hr : meth.sig.returnType = (some .boolean)) (hl : lv_has ls 11 [(6, .int (iI ((-1) - (xx % 50)))), (5, .int (iI ((-1) - (xx % 50)))), (4, .int (iI ((-1) - (xx % 50)))), (3, .int (iI 1)), (0, .ref qa), (1, .ref na), (2, .int (iI xx))]) : W p l e ({ frames := 16, cells := ((131072 - cp) + 129), slots := ((12 * (131072 - cp)) + 1266), locals := 495 } : Room) s m args below meth c H locs ((cpS - cp) + 25) ((12 * (cpS - cp)) + 318) (MQ below (Qk dC dI ([(na, .inl (k 0, 4, .inl (fun i9 : Nat => iI (nf i9))))] ++ tl) s.heap.size (fun r w gc gs => (∃ (cp2 : Nat) (tl2 : va_W), (PS dI k T K qa cp2 tl2) ∧ (cp ≤ cp2 ∧ cp2 ≤ 131072) ∧ r = some (.int (iI 1)) ∧ w = ([(na, .inl (k 0, 4, .inl (fun i9 : Nat => iI (nf i9))))] ++ tl2) ∧ gc = ((cp2 - cp) + 129) ∧ gs = ((12 * (cp2 - cp)) + 1266)))) args s ({ frames := 16, cells := ((131072 - cp) + 129), slots := ((12 * (131072 - cp)) + 1266), locals := 495 } : Room).cells ({ frames := 16, cells := ((131072 - cp) + 129), slots := ((12 * (131072 - cp)) + 1266), locals := 495 } : Room).slots (va_A ([(na, .inl (k 0, 4, .inl (fun i9 : Nat => iI (nf i9))))] ++ tl) s.heap.size)) (F0 m 351 ls []) := by
  have hx := B.1.1
  have hb := B.1.2.1
  have hcp9 := PS_cp hPS
  have hn0 := TK_nb hQ.1
  have hk0 := hQ.2.1.1
  have hf0 := TK_fc hQ.1
  have hp0 := TK_np hQ.1
  have hm0 : lmZ 0 = 1 := rfl
  have hm1 : lmZ 1 = 0 := rfl
  have hm2 : lmZ 2 = 0 := rfl
  have hm3 : lmZ 3 = 0 := rfl
  have hm4 : lmZ 4 = 0 := rfl
  have hm5 : mmZ T 0 = 5 := rfl
  have hm6 : mmZ T 1 = T 12 0 0 0 - 1 := rfl
  have hm7 : mmZ T 2 = 5 := rfl
  have hm8 : mmZ T 3 = 7 := rfl
  have hm9 : mmZ T 4 = 1 := rfl
  refine lv_aload_n hx hb dL_refuses_351 rfl (lv_at hl 4 rfl) ?_
  refine lv_iload hx hb dL_refuses_352 (lv_at hl 1 rfl) ?_
  refine lv_iconst (v := iI 0) hx hb dL_refuses_354 (by decide) ?_
  have B := bd_swap (a := []) (b := [(na, .inl (k 0, 4, .inl (fun i9 : Nat => iI (nf i9))))]) (d := tlS) (bd_to rfl B)
  refine k_W (rest := []) (wc := ([] ++ tlS)) (wr := [(na, .inl (k 0, 4, .inl (fun i9 : Nat => iI (nf i9))))]) (w_takes l dC dI k hl0 T K qa cpS tlS ((-1) - (xx % 50)) 0 hPS hQ (by omega) (by omega)) B mW_L_takes mw_1101 hl ⟨Nat.le_of_ble_eq_true rfl, Nat.le_of_ble_eq_true rfl⟩ (Nat.le_of_ble_eq_true rfl) rfl dL_refuses_355 ⟨by dsimp only; omega, by dsimp only; omega⟩ (fun r w gc gs H locs hp B => ?_)
  rcases hp with ⟨tl2_896, z_897, z_898, rfl, hw9, rfl, rfl⟩ | ⟨tl2_899, z_900, z_901, rfl, hw9, rfl, rfl⟩
  · skip
    rw [hw9] at B; clear hw9
    have B := bd_to (ws' := ([(na, .inl (k 0, 4, .inl (fun i9 : Nat => iI (nf i9))))] ++ tl2_896)) rfl B
    have hPS : PS dI k (tkT T ((-1) - (xx % 50)) 0) K qa cpS tl2_896 := z_897
    exfalso; omega
  · skip
    rw [hw9] at B; clear hw9
    have B := bd_to (ws' := ([(na, .inl (k 0, 4, .inl (fun i9 : Nat => iI (nf i9))))] ++ tl2_899)) rfl B
    have hPS : PS dI k T K qa cpS tl2_899 := z_900
    refine W.widen (k := ((cpS - cp) + 26)) (n := ((12 * (cpS - cp)) + 358)) (by omega) (by omega) ?_
    refine lv_ldc (v := (-2000000001)) hx hb B.1.2.2.2.1 (B.1.2.2.2.2.1 _ mw_593) dL_refuses_358 ?_
    refine lv_seti (y := iI (-2000000001)) (by decide) ?_
    refine lv_icmp_ne (tgt := 634) hx hb dL_refuses_360 (by decide) (fun c9 => absurd c9 (by decide)) (fun _ => ?_)
    refine lv_aload_n hx hb dL_refuses_363 rfl (lv_at hl 4 rfl) ?_
    refine lv_iload_n hx hb dL_refuses_364 rfl (lv_at hl 3 rfl) ?_
    refine lv_if_eq (tgt := 374) hx hb dL_refuses_365 (by decide) (fun c9 => absurd c9 (by decide)) (fun _ => ?_)
    refine lv_iconst (v := iI (-1)) hx hb dL_refuses_368 (by decide) ?_
    refine lv_iload_n hx hb dL_refuses_369 rfl (lv_at hl 6 rfl) ?_
    refine y_sub hx hb dL_refuses_370 ?_
    refine lv_goto (tgt := 381) hx hb dL_refuses_371 (by decide) ?_
    refine lv_iconst (v := iI 0) hx hb dL_refuses_381 (by decide) ?_
    have B := bd_swap (a := []) (b := [(na, .inl (k 0, 4, .inl (fun i9 : Nat => iI (nf i9))))]) (d := tl2_899) (bd_to rfl B)
    refine k_W (rest := []) (wc := ([] ++ tl2_899)) (wr := [(na, .inl (k 0, 4, .inl (fun i9 : Nat => iI (nf i9))))]) (w_blocks l dC dI k hl0 T K qa cpS tl2_899 ((-1) - xx) 0 z_900 hQ (by omega) (by omega)) B mW_L_blocks mw_1120 hl ⟨Nat.le_of_ble_eq_true rfl, Nat.le_of_ble_eq_true rfl⟩ (Nat.le_of_ble_eq_true rfl) rfl dL_refuses_382 ⟨by dsimp only; omega, by dsimp only; omega⟩ (fun r w gc gs H locs hp B => ?_)
    rcases hp with ⟨tl2_902, z_903, z_904, rfl, hw9, rfl, rfl⟩ | ⟨tl2_905, z_906, z_907, rfl, hw9, rfl, rfl⟩ | ⟨tl2_908, z_909, z_910, rfl, hw9, rfl, rfl⟩ | ⟨tl2_911, z_912, z_913, rfl, hw9, rfl, rfl⟩
    · skip
      rw [hw9] at B; clear hw9
      have B := bd_to (ws' := ([(na, .inl (k 0, 4, .inl (fun i9 : Nat => iI (nf i9))))] ++ tl2_902)) rfl B
      have hPS : PS dI k (ibT T ((-1) - xx) 0) K qa cpS tl2_902 := z_903
      exfalso; omega
    · skip
      rw [hw9] at B; clear hw9
      have B := bd_to (ws' := ([(na, .inl (k 0, 4, .inl (fun i9 : Nat => iI (nf i9))))] ++ tl2_905)) rfl B
      have hPS : PS dI k T K qa cpS tl2_905 := z_906
      refine W.widen (k := ((cpS - cp) + 38)) (n := ((12 * (cpS - cp)) + 468)) (by omega) (by omega) ?_
      refine lv_ldc (v := (-2000000001)) hx hb B.1.2.2.2.1 (B.1.2.2.2.2.1 _ mw_593) dL_refuses_385 ?_
      refine lv_seti (y := iI (-2000000001)) (by decide) ?_
      refine lv_icmp_ne (tgt := 634) hx hb dL_refuses_387 (by decide) (fun c9 => absurd c9 (by decide)) (fun _ => ?_)
      refine lv_aload_n hx hb dL_refuses_390 rfl (lv_at hl 4 rfl) ?_
      refine lv_iconst (v := iI 0) hx hb dL_refuses_391 (by decide) ?_
      refine lv_iload_n hx hb dL_refuses_392 rfl (lv_at hl 3 rfl) ?_
      refine lv_if_eq (tgt := 402) hx hb dL_refuses_393 (by decide) (fun c9 => absurd c9 (by decide)) (fun _ => ?_)
      refine lv_iconst (v := iI (-1)) hx hb dL_refuses_396 (by decide) ?_
      refine lv_iload_n hx hb dL_refuses_397 rfl (lv_at hl 6 rfl) ?_
      refine y_sub hx hb dL_refuses_398 ?_
      refine lv_goto (tgt := 406) hx hb dL_refuses_399 (by decide) ?_
      have B := bd_swap (a := []) (b := [(na, .inl (k 0, 4, .inl (fun i9 : Nat => iI (nf i9))))]) (d := tl2_905) (bd_to rfl B)
      refine k_W (rest := []) (wc := ([] ++ tl2_905)) (wr := [(na, .inl (k 0, 4, .inl (fun i9 : Nat => iI (nf i9))))]) (w_blocks l dC dI k hl0 T K qa cpS tl2_905 0 ((-1) - xx) z_906 hQ (by omega) (by omega)) B mW_L_blocks mw_1120 hl ⟨Nat.le_of_ble_eq_true rfl, Nat.le_of_ble_eq_true rfl⟩ (Nat.le_of_ble_eq_true rfl) rfl dL_refuses_406 ⟨by dsimp only; omega, by dsimp only; omega⟩ (fun r w gc gs H locs hp B => ?_)
      rcases hp with ⟨tl2_914, z_915, z_916, rfl, hw9, rfl, rfl⟩ | ⟨tl2_917, z_918, z_919, rfl, hw9, rfl, rfl⟩ | ⟨tl2_920, z_921, z_922, rfl, hw9, rfl, rfl⟩ | ⟨tl2_923, z_924, z_925, rfl, hw9, rfl, rfl⟩
      · skip
        rw [hw9] at B; clear hw9
        have B := bd_to (ws' := ([(na, .inl (k 0, 4, .inl (fun i9 : Nat => iI (nf i9))))] ++ tl2_914)) rfl B
        have hPS : PS dI k (ibT T 0 ((-1) - xx)) K qa cpS tl2_914 := z_915
        exfalso; omega
      · skip
        rw [hw9] at B; clear hw9
        have B := bd_to (ws' := ([(na, .inl (k 0, 4, .inl (fun i9 : Nat => iI (nf i9))))] ++ tl2_917)) rfl B
        have hPS : PS dI k T K qa cpS tl2_917 := z_918
        exfalso; omega
      · skip
        rw [hw9] at B; clear hw9
        have B := bd_to (ws' := ([(na, .inl (k 0, 4, .inl (fun i9 : Nat => iI (nf i9))))] ++ tl2_920)) rfl B
        have hPS : PS dI k T K qa cpS tl2_920 := z_921
        refine W.widen (k := ((cpS - cp) + 50)) (n := ((12 * (cpS - cp)) + 578)) (by omega) (by omega) ?_
        refine lv_ldc (v := (-2000000002)) hx hb B.1.2.2.2.1 (B.1.2.2.2.2.1 _ mw_627) dL_refuses_409 ?_
        refine lv_seti (y := iI (-2000000002)) (by decide) ?_
        refine lv_icmp_ne (tgt := 634) hx hb dL_refuses_411 (by decide) (fun c9 => absurd c9 (by decide)) (fun _ => ?_)
        refine k_joinG (σ := Nat × va_W) B 433 (fun g9 : Nat × va_W => (PS dI k T K qa g9.1 g9.2) ∧ (cp ≤ g9.1 ∧ g9.1 ≤ 131072)) (fun g9 : Nat × va_W => [(6, .int (iI ((-1) - (xx % 50)))), (5, .int (iI ((-1) - (xx % 50)))), (4, .int (iI ((-1) - (xx % 50)))), (3, .int (iI 1)), (0, .ref qa), (1, .ref na), (2, .int (iI xx))]) (fun g9 : Nat × va_W => ([(na, .inl (k 0, 4, .inl (fun i9 : Nat => iI (nf i9))))] ++ g9.2)) (fun g9 : Nat × va_W => ((g9.1 - cp) + 62)) (fun g9 : Nat × va_W => ((12 * (g9.1 - cp)) + 688)) (fun g9 : Nat × va_W => []) ?_ (fun J_926 => ?_)
        · clear hl B
          rintro ⟨cpC, tlC⟩ ⟨hPS, hcC⟩ ls H locs hl B
          have hPS : PS dI k T K qa cpC tlC := hPS
          have hcC : cp ≤ cpC ∧ cpC ≤ 131072 := hcC
          show W p l e _ s m args below meth c H locs (((cpC - cp) + 62)) (((12 * (cpC - cp)) + 688)) _ _
          have hl : lv_has ls 11 [(6, .int (iI ((-1) - (xx % 50)))), (5, .int (iI ((-1) - (xx % 50)))), (4, .int (iI ((-1) - (xx % 50)))), (3, .int (iI 1)), (0, .ref qa), (1, .ref na), (2, .int (iI xx))] := hl
          have B := bd_to (ws' := ([(na, .inl (k 0, 4, .inl (fun i9 : Nat => iI (nf i9))))] ++ tlC)) rfl B
          refine lv_aload_n hx hb dL_refuses_433 rfl (lv_at hl 4 rfl) ?_
          refine lv_iload hx hb dL_refuses_434 (lv_at hl 1 rfl) ?_
          have B := bd_swap (a := []) (b := [(na, .inl (k 0, 4, .inl (fun i9 : Nat => iI (nf i9))))]) (d := tlC) (bd_to rfl B)
          refine k_W (rest := []) (wc := ([] ++ tlC)) (wr := [(na, .inl (k 0, 4, .inl (fun i9 : Nat => iI (nf i9))))]) (w_removes l dC dI k hl0 T K qa cpC tlC ((-1) - (xx % 50)) hPS hQ (by omega)) B mW_L_removes mw_1197 hl ⟨Nat.le_of_ble_eq_true rfl, Nat.le_of_ble_eq_true rfl⟩ (Nat.le_of_ble_eq_true rfl) rfl dL_refuses_436 ⟨by dsimp only; omega, by dsimp only; omega⟩ (fun r w gc gs H locs hp B => ?_)
          rcases hp with ⟨tl2_927, z_928, z_929, rfl, hw9, rfl, rfl⟩ | ⟨tl2_930, z_931, z_932, rfl, hw9, rfl, rfl⟩
          · skip
            rw [hw9] at B; clear hw9
            have B := bd_to (ws' := ([(na, .inl (k 0, 4, .inl (fun i9 : Nat => iI (nf i9))))] ++ tl2_927)) rfl B
            have hPS : PS dI k (rbT T ((-1) - (xx % 50))) K qa cpC tl2_927 := z_928
            exfalso; omega
          · skip
            rw [hw9] at B; clear hw9
            have B := bd_to (ws' := ([(na, .inl (k 0, 4, .inl (fun i9 : Nat => iI (nf i9))))] ++ tl2_930)) rfl B
            have hPS : PS dI k T K qa cpC tl2_930 := z_931
            refine W.widen (k := ((cpC - cp) + 63)) (n := ((12 * (cpC - cp)) + 728)) (by omega) (by omega) ?_
            refine lv_ldc (v := (-2000000001)) hx hb B.1.2.2.2.1 (B.1.2.2.2.2.1 _ mw_593) dL_refuses_439 ?_
            refine lv_seti (y := iI (-2000000001)) (by decide) ?_
            refine lv_icmp_ne (tgt := 634) hx hb dL_refuses_441 (by decide) (fun c9 => absurd c9 (by decide)) (fun _ => ?_)
            exact w_refuses_c444_18 l dC dI k hl0 T K qa cp tl na nf xx cpC tl2_930 (by omega) hPS hQ hx9 hn9 (by omega)  (bd_to rfl B) hr hl
        refine lv_aload_n hx hb dL_refuses_414 rfl (lv_at hl 5 rfl) ?_
        refine lv_iconst (v := iI 0) hx hb dL_refuses_415 (by decide) ?_
        refine x_iald' (f := nf) (z := 0) B 0 rfl (by omega) dL_refuses_416 ?_
        refine lv_seti (y := iI (T 0 0 0 0)) (congrArg iI (show nf 0 = T 0 0 0 0 from hn9.1)) ?_
        refine lv_bipush (v := iI 16) hx hb dL_refuses_417 (by decide) ?_
        refine lv_icmp_lt (tgt := 433) hx hb dL_refuses_419 (by decide) (fun c_1524 => ?_) (fun c_1524 => ?_)
        · have zc_1524 : (T 0 0 0 0) < 16 := jlt (a := (T 0 0 0 0)) (b := 16) (by omega) (by omega) c_1524
          refine W.widen (k := ((cpS - cp) + 62)) (n := ((12 * (cpS - cp)) + 688)) (by omega) (by omega) ?_
          exact J_926 (cpS, tl2_920) ⟨(show PS dI k T K qa cpS tl2_920 from hPS), (show cp ≤ cpS ∧ cpS ≤ 131072 from hcS)⟩ _ _ _ (lv_sub hl [0, 1, 2, 3, 4, 5, 6] rfl) (bd_to rfl B)
        · have zc_1524 : 16 ≤ (T 0 0 0 0) := jnlt (a := (T 0 0 0 0)) (b := 16) (by omega) (by omega) c_1524
          refine lv_aload_n hx hb dL_refuses_422 rfl (lv_at hl 4 rfl) ?_
          refine lv_iconst (v := iI 0) hx hb dL_refuses_423 (by decide) ?_
          refine lv_iconst (v := iI 0) hx hb dL_refuses_424 (by decide) ?_
          have B := bd_swap (a := []) (b := [(na, .inl (k 0, 4, .inl (fun i9 : Nat => iI (nf i9))))]) (d := tl2_920) (bd_to rfl B)
          refine k_W (rest := []) (wc := ([] ++ tl2_920)) (wr := [(na, .inl (k 0, 4, .inl (fun i9 : Nat => iI (nf i9))))]) (w_blocks l dC dI k hl0 T K qa cpS tl2_920 0 0 z_921 hQ (by omega) (by omega)) B mW_L_blocks mw_1120 hl ⟨Nat.le_of_ble_eq_true rfl, Nat.le_of_ble_eq_true rfl⟩ (Nat.le_of_ble_eq_true rfl) rfl dL_refuses_425 ⟨by dsimp only; omega, by dsimp only; omega⟩ (fun r w gc gs H locs hp B => ?_)
          rcases hp with ⟨tl2_1525, z_1526, z_1527, rfl, hw9, rfl, rfl⟩ | ⟨tl2_1528, z_1529, z_1530, rfl, hw9, rfl, rfl⟩ | ⟨tl2_1531, z_1532, z_1533, rfl, hw9, rfl, rfl⟩ | ⟨tl2_1534, z_1535, z_1536, rfl, hw9, rfl, rfl⟩
          · skip
            rw [hw9] at B; clear hw9
            have B := bd_to (ws' := ([(na, .inl (k 0, 4, .inl (fun i9 : Nat => iI (nf i9))))] ++ tl2_1525)) rfl B
            have hPS : PS dI k (ibT T 0 0) K qa cpS tl2_1525 := z_1526
            exfalso; omega
          · skip
            rw [hw9] at B; clear hw9
            have B := bd_to (ws' := ([(na, .inl (k 0, 4, .inl (fun i9 : Nat => iI (nf i9))))] ++ tl2_1528)) rfl B
            have hPS : PS dI k T K qa cpS tl2_1528 := z_1529
            exfalso; omega
          · skip
            rw [hw9] at B; clear hw9
            have B := bd_to (ws' := ([(na, .inl (k 0, 4, .inl (fun i9 : Nat => iI (nf i9))))] ++ tl2_1531)) rfl B
            have hPS : PS dI k T K qa cpS tl2_1531 := z_1532
            exfalso; omega
          · skip
            rw [hw9] at B; clear hw9
            have B := bd_to (ws' := ([(na, .inl (k 0, 4, .inl (fun i9 : Nat => iI (nf i9))))] ++ tl2_1534)) rfl B
            have hPS : PS dI k T K qa cpS tl2_1534 := z_1535
            refine W.widen (k := ((cpS - cp) + 62)) (n := ((12 * (cpS - cp)) + 688)) (by omega) (by omega) ?_
            refine lv_ldc (v := (-2000000003)) hx hb B.1.2.2.2.1 (B.1.2.2.2.2.1 _ mw_594) dL_refuses_428 ?_
            refine lv_seti (y := iI (-2000000003)) (by decide) ?_
            refine lv_icmp_ne (tgt := 634) hx hb dL_refuses_430 (by decide) (fun c9 => absurd c9 (by decide)) (fun _ => ?_)
            refine W.widen (k := ((cpS - cp) + 62)) (n := ((12 * (cpS - cp)) + 688)) (by omega) (by omega) ?_
            exact J_926 (cpS, tl2_1534) ⟨(show PS dI k T K qa cpS tl2_1534 from hPS), (show cp ≤ cpS ∧ cpS ≤ 131072 from hcS)⟩ _ _ _ (lv_sub hl [0, 1, 2, 3, 4, 5, 6] rfl) (bd_to rfl B)
      · skip
        rw [hw9] at B; clear hw9
        have B := bd_to (ws' := ([(na, .inl (k 0, 4, .inl (fun i9 : Nat => iI (nf i9))))] ++ tl2_923)) rfl B
        have hPS : PS dI k T K qa cpS tl2_923 := z_924
        exfalso; omega
    · skip
      rw [hw9] at B; clear hw9
      have B := bd_to (ws' := ([(na, .inl (k 0, 4, .inl (fun i9 : Nat => iI (nf i9))))] ++ tl2_908)) rfl B
      have hPS : PS dI k T K qa cpS tl2_908 := z_909
      exfalso; omega
    · skip
      rw [hw9] at B; clear hw9
      have B := bd_to (ws' := ([(na, .inl (k 0, 4, .inl (fun i9 : Nat => iI (nf i9))))] ++ tl2_911)) rfl B
      have hPS : PS dI k T K qa cpS tl2_911 := z_912
      exfalso; omega

set_option maxHeartbeats 4000000 in
set_option maxRecDepth 100000 in
theorem w_refuses_c244_16 (l : Launch) (dC : Nat → ClassId) (dI : Nat → Nat → Nat) (k : Nat → ClassId) (hl0 : l.stackTraces = false) (T : Nat → Int → Int → Int → Int) (K : Nat → Int → Int) (qa : Nat) (cp : Nat) (tl : va_W) (na : Nat) (nf : Int → Int) (xx : Int) (cpS : Nat) (tlS : va_W) (hc0 : 512 ≤ cp ∧ cp ≤ 131072) (hPS : PS dI k T K qa cpS tlS) (hQ : OKT T K) (hx9 : 0 ≤ xx ∧ xx < 9973) (hn9 : nf 0 = T 0 0 0 0 ∧ nf 1 = K 0 0 ∧ nf 2 = T 12 0 0 0 ∧ nf 3 = T 18 0 0 0) (hcS : cp ≤ cpS ∧ cpS ≤ 131072) {p : Program} {e : Env} {s : State} {m : MethodId} {args : Array Value} {below : List Frame} {meth : Method} {c : Code} {H : Heap} {locs : List Loc} {ls : Array Slot} (B : bd p s m args meth c cL_refuses 11 yL_refuses.cls dC dI k (va_A ([(na, .inl (k 0, 4, .inl (fun i9 : Nat => iI (nf i9))))] ++ tl) s.heap.size) ([(na, .inl (k 0, 4, .inl (fun i9 : Nat => iI (nf i9))))] ++ tlS) H locs) (hr : meth.sig.returnType = (some .boolean)) (hl : lv_has ls 11 [(6, .int (iI ((-1) - (xx % 50)))), (5, .int (iI ((-1) - (xx % 50)))), (4, .int (iI ((-1) - (xx % 50)))), (3, .int (iI 1)), (0, .ref qa), (1, .ref na), (2, .int (iI xx))]) : W p l e ({ frames := 16, cells := ((131072 - cp) + 129), slots := ((12 * (131072 - cp)) + 1266), locals := 495 } : Room) s m args below meth c H locs ((cpS - cp) + 8) ((12 * (cpS - cp)) + 48) (MQ below (Qk dC dI ([(na, .inl (k 0, 4, .inl (fun i9 : Nat => iI (nf i9))))] ++ tl) s.heap.size (fun r w gc gs => (∃ (cp2 : Nat) (tl2 : va_W), (PS dI k T K qa cp2 tl2) ∧ (cp ≤ cp2 ∧ cp2 ≤ 131072) ∧ r = some (.int (iI 1)) ∧ w = ([(na, .inl (k 0, 4, .inl (fun i9 : Nat => iI (nf i9))))] ++ tl2) ∧ gc = ((cp2 - cp) + 129) ∧ gs = ((12 * (cp2 - cp)) + 1266)))) args s ({ frames := 16, cells := ((131072 - cp) + 129), slots := ((12 * (131072 - cp)) + 1266), locals := 495 } : Room).cells ({ frames := 16, cells := ((131072 - cp) + 129), slots := ((12 * (131072 - cp)) + 1266), locals := 495 } : Room).slots (va_A ([(na, .inl (k 0, 4, .inl (fun i9 : Nat => iI (nf i9))))] ++ tl) s.heap.size)) (F0 m 244 ls []) := by
  have hx := B.1.1
  have hb := B.1.2.1
  have hcp9 := PS_cp hPS
  have hn0 := TK_nb hQ.1
  have hk0 := hQ.2.1.1
  have hf0 := TK_fc hQ.1
  have hp0 := TK_np hQ.1
  have hm0 : lmZ 0 = 1 := rfl
  have hm1 : lmZ 1 = 0 := rfl
  have hm2 : lmZ 2 = 0 := rfl
  have hm3 : lmZ 3 = 0 := rfl
  have hm4 : lmZ 4 = 0 := rfl
  have hm5 : mmZ T 0 = 5 := rfl
  have hm6 : mmZ T 1 = T 12 0 0 0 - 1 := rfl
  have hm7 : mmZ T 2 = 5 := rfl
  have hm8 : mmZ T 3 = 7 := rfl
  have hm9 : mmZ T 4 = 1 := rfl
  refine lv_aload_n hx hb dL_refuses_244 rfl (lv_at hl 4 rfl) ?_
  refine lv_iload_n hx hb dL_refuses_245 rfl (lv_at hl 3 rfl) ?_
  refine lv_if_eq (tgt := 255) hx hb dL_refuses_246 (by decide) (fun c9 => absurd c9 (by decide)) (fun _ => ?_)
  refine lv_iconst (v := iI (-1)) hx hb dL_refuses_249 (by decide) ?_
  refine lv_iload_n hx hb dL_refuses_250 rfl (lv_at hl 6 rfl) ?_
  refine y_sub hx hb dL_refuses_251 ?_
  refine lv_goto (tgt := 262) hx hb dL_refuses_252 (by decide) ?_
  refine lv_iconst (v := iI 1) hx hb dL_refuses_262 (by decide) ?_
  have B := bd_swap (a := []) (b := [(na, .inl (k 0, 4, .inl (fun i9 : Nat => iI (nf i9))))]) (d := tlS) (bd_to rfl B)
  refine k_W (rest := []) (wc := ([] ++ tlS)) (wr := [(na, .inl (k 0, 4, .inl (fun i9 : Nat => iI (nf i9))))]) (w_patterns l dC dI k hl0 T K qa cpS tlS ((-1) - xx) 1 hPS hQ (by omega) (by omega)) B mW_L_patterns mw_628 hl ⟨Nat.le_of_ble_eq_true rfl, Nat.le_of_ble_eq_true rfl⟩ (Nat.le_of_ble_eq_true rfl) rfl dL_refuses_263 ⟨by dsimp only; omega, by dsimp only; omega⟩ (fun r w gc gs H locs hp B => ?_)
  rcases hp with ⟨tl2_859, z_860, z_861, rfl, hw9, rfl, rfl⟩ | ⟨tl2_862, z_863, z_864, rfl, hw9, rfl, rfl⟩ | ⟨tl2_865, z_866, z_867, rfl, hw9, rfl, rfl⟩
  · skip
    rw [hw9] at B; clear hw9
    have B := bd_to (ws' := ([(na, .inl (k 0, 4, .inl (fun i9 : Nat => iI (nf i9))))] ++ tl2_859)) rfl B
    have hPS : PS dI k (gpT (apT T (Int.toNat (K 0 0)) (spF K) ((-1) - xx) 1) (T 0 0 0 0) 0) (KKn 0 (K 1) (K 2)) qa cpS tl2_859 := z_860
    exfalso; omega
  · skip
    rw [hw9] at B; clear hw9
    have B := bd_to (ws' := ([(na, .inl (k 0, 4, .inl (fun i9 : Nat => iI (nf i9))))] ++ tl2_862)) rfl B
    have hPS : PS dI k T K qa cpS tl2_862 := z_863
    refine W.widen (k := ((cpS - cp) + 11)) (n := ((12 * (cpS - cp)) + 98)) (by omega) (by omega) ?_
    refine lv_ldc (v := (-2000000002)) hx hb B.1.2.2.2.1 (B.1.2.2.2.2.1 _ mw_627) dL_refuses_266 ?_
    refine lv_seti (y := iI (-2000000002)) (by decide) ?_
    refine lv_icmp_ne (tgt := 634) hx hb dL_refuses_268 (by decide) (fun c9 => absurd c9 (by decide)) (fun _ => ?_)
    refine lv_aload_n hx hb dL_refuses_271 rfl (lv_at hl 4 rfl) ?_
    refine lv_iconst (v := iI 0) hx hb dL_refuses_272 (by decide) ?_
    refine lv_iload_n hx hb dL_refuses_273 rfl (lv_at hl 3 rfl) ?_
    refine lv_if_eq (tgt := 282) hx hb dL_refuses_274 (by decide) (fun c9 => absurd c9 (by decide)) (fun _ => ?_)
    refine lv_iload_n hx hb dL_refuses_277 rfl (lv_at hl 6 rfl) ?_
    refine y_neg hx hb dL_refuses_278 ?_
    refine lv_goto (tgt := 286) hx hb dL_refuses_279 (by decide) ?_
    have B := bd_swap (a := []) (b := [(na, .inl (k 0, 4, .inl (fun i9 : Nat => iI (nf i9))))]) (d := tl2_862) (bd_to rfl B)
    refine k_W (rest := []) (wc := ([] ++ tl2_862)) (wr := [(na, .inl (k 0, 4, .inl (fun i9 : Nat => iI (nf i9))))]) (w_patterns l dC dI k hl0 T K qa cpS tl2_862 0 (-xx) z_863 hQ (by omega) (by omega)) B mW_L_patterns mw_628 hl ⟨Nat.le_of_ble_eq_true rfl, Nat.le_of_ble_eq_true rfl⟩ (Nat.le_of_ble_eq_true rfl) rfl dL_refuses_286 ⟨by dsimp only; omega, by dsimp only; omega⟩ (fun r w gc gs H locs hp B => ?_)
    rcases hp with ⟨tl2_868, z_869, z_870, rfl, hw9, rfl, rfl⟩ | ⟨tl2_871, z_872, z_873, rfl, hw9, rfl, rfl⟩ | ⟨tl2_874, z_875, z_876, rfl, hw9, rfl, rfl⟩
    · skip
      rw [hw9] at B; clear hw9
      have B := bd_to (ws' := ([(na, .inl (k 0, 4, .inl (fun i9 : Nat => iI (nf i9))))] ++ tl2_868)) rfl B
      have hPS : PS dI k (gpT (apT T (Int.toNat (K 0 0)) (spF K) 0 (-xx)) (T 0 0 0 0) 0) (KKn 0 (K 1) (K 2)) qa cpS tl2_868 := z_869
      exfalso; omega
    · skip
      rw [hw9] at B; clear hw9
      have B := bd_to (ws' := ([(na, .inl (k 0, 4, .inl (fun i9 : Nat => iI (nf i9))))] ++ tl2_871)) rfl B
      have hPS : PS dI k T K qa cpS tl2_871 := z_872
      refine W.widen (k := ((cpS - cp) + 14)) (n := ((12 * (cpS - cp)) + 148)) (by omega) (by omega) ?_
      refine lv_ldc (v := (-2000000002)) hx hb B.1.2.2.2.1 (B.1.2.2.2.2.1 _ mw_627) dL_refuses_289 ?_
      refine lv_seti (y := iI (-2000000002)) (by decide) ?_
      refine lv_icmp_ne (tgt := 634) hx hb dL_refuses_291 (by decide) (fun c9 => absurd c9 (by decide)) (fun _ => ?_)
      refine k_joinG (σ := Nat × va_W) B 326 (fun g9 : Nat × va_W => (PS dI k T K qa g9.1 g9.2) ∧ (cp ≤ g9.1 ∧ g9.1 ≤ 131072)) (fun g9 : Nat × va_W => [(6, .int (iI ((-1) - (xx % 50)))), (5, .int (iI ((-1) - (xx % 50)))), (4, .int (iI ((-1) - (xx % 50)))), (3, .int (iI 1)), (0, .ref qa), (1, .ref na), (2, .int (iI xx))]) (fun g9 : Nat × va_W => ([(na, .inl (k 0, 4, .inl (fun i9 : Nat => iI (nf i9))))] ++ g9.2)) (fun g9 : Nat × va_W => ((g9.1 - cp) + 17)) (fun g9 : Nat × va_W => ((12 * (g9.1 - cp)) + 198)) (fun g9 : Nat × va_W => []) ?_ (fun J_877 => ?_)
      · clear hl B
        rintro ⟨cpB, tlB⟩ ⟨hPS, hcB⟩ ls H locs hl B
        have hPS : PS dI k T K qa cpB tlB := hPS
        have hcB : cp ≤ cpB ∧ cpB ≤ 131072 := hcB
        show W p l e _ s m args below meth c H locs (((cpB - cp) + 17)) (((12 * (cpB - cp)) + 198)) _ _
        have hl : lv_has ls 11 [(6, .int (iI ((-1) - (xx % 50)))), (5, .int (iI ((-1) - (xx % 50)))), (4, .int (iI ((-1) - (xx % 50)))), (3, .int (iI 1)), (0, .ref qa), (1, .ref na), (2, .int (iI xx))] := hl
        have B := bd_to (ws' := ([(na, .inl (k 0, 4, .inl (fun i9 : Nat => iI (nf i9))))] ++ tlB)) rfl B
        refine lv_aload_n hx hb dL_refuses_326 rfl (lv_at hl 4 rfl) ?_
        refine lv_iload hx hb dL_refuses_327 (lv_at hl 1 rfl) ?_
        refine lv_iconst (v := iI 0) hx hb dL_refuses_329 (by decide) ?_
        have B := bd_swap (a := []) (b := [(na, .inl (k 0, 4, .inl (fun i9 : Nat => iI (nf i9))))]) (d := tlB) (bd_to rfl B)
        refine k_W (rest := []) (wc := ([] ++ tlB)) (wr := [(na, .inl (k 0, 4, .inl (fun i9 : Nat => iI (nf i9))))]) (w_words l dC dI k hl0 T K qa cpB tlB ((-1) - (xx % 50)) 0 hPS hQ (by omega) (by omega)) B mW_L_words mw_777 hl ⟨Nat.le_of_ble_eq_true rfl, Nat.le_of_ble_eq_true rfl⟩ (Nat.le_of_ble_eq_true rfl) rfl dL_refuses_330 ⟨by dsimp only; omega, by dsimp only; omega⟩ (fun r w gc gs H locs hp B => ?_)
        rcases hp with ⟨tl2_878, z_879, z_880, rfl, hw9, rfl, rfl⟩ | ⟨tl2_881, z_882, z_883, rfl, hw9, rfl, rfl⟩ | ⟨tl2_884, z_885, z_886, rfl, hw9, rfl, rfl⟩
        · skip
          rw [hw9] at B; clear hw9
          have B := bd_to (ws' := ([(na, .inl (k 0, 4, .inl (fun i9 : Nat => iI (nf i9))))] ++ tl2_878)) rfl B
          have hPS : PS dI k (puT T ((-1) - (xx % 50)) 0 (Int.toNat (K 0 0)) (spF K) (-1) (K 2) (gsZ T (spF K) ((Int.toNat (K 0 0) : Nat) : Int))) (KKn 0 (K 1) (fun _ : Int => (-1))) qa cpB tl2_878 := z_879
          exfalso; omega
        · skip
          rw [hw9] at B; clear hw9
          have B := bd_to (ws' := ([(na, .inl (k 0, 4, .inl (fun i9 : Nat => iI (nf i9))))] ++ tl2_881)) rfl B
          have hPS : PS dI k T K qa cpB tl2_881 := z_882
          refine W.widen (k := ((cpB - cp) + 21)) (n := ((12 * (cpB - cp)) + 258)) (by omega) (by omega) ?_
          refine lv_ldc (v := (-2000000001)) hx hb B.1.2.2.2.1 (B.1.2.2.2.2.1 _ mw_593) dL_refuses_333 ?_
          refine lv_seti (y := iI (-2000000001)) (by decide) ?_
          refine lv_icmp_ne (tgt := 634) hx hb dL_refuses_335 (by decide) (fun c9 => absurd c9 (by decide)) (fun _ => ?_)
          refine lv_aload_n hx hb dL_refuses_338 rfl (lv_at hl 4 rfl) ?_
          refine lv_iload hx hb dL_refuses_339 (lv_at hl 1 rfl) ?_
          refine lv_iconst (v := iI 0) hx hb dL_refuses_341 (by decide) ?_
          refine lv_iconst (v := iI 0) hx hb dL_refuses_342 (by decide) ?_
          have B := bd_swap (a := []) (b := [(na, .inl (k 0, 4, .inl (fun i9 : Nat => iI (nf i9))))]) (d := tl2_881) (bd_to rfl B)
          refine k_W (rest := []) (wc := ([] ++ tl2_881)) (wr := [(na, .inl (k 0, 4, .inl (fun i9 : Nat => iI (nf i9))))]) (w_refers l dC dI k hl0 T K qa cpB tl2_881 ((-1) - (xx % 50)) 0 0 z_882 hQ (by omega) (by omega) (by omega)) B mW_L_refers mw_1090 hl ⟨Nat.le_of_ble_eq_true rfl, Nat.le_of_ble_eq_true rfl⟩ (Nat.le_of_ble_eq_true rfl) rfl dL_refuses_343 ⟨by dsimp only; omega, by dsimp only; omega⟩ (fun r w gc gs H locs hp B => ?_)
          rcases hp with ⟨tl2_887, z_888, z_889, rfl, hw9, rfl, rfl⟩ | ⟨tl2_890, z_891, z_892, rfl, hw9, rfl, rfl⟩ | ⟨tl2_893, z_894, z_895, rfl, hw9, rfl, rfl⟩
          · skip
            rw [hw9] at B; clear hw9
            have B := bd_to (ws' := ([(na, .inl (k 0, 4, .inl (fun i9 : Nat => iI (nf i9))))] ++ tl2_887)) rfl B
            have hPS : PS dI k (puT T ((-1) - (xx % 50)) 0 0 (fun _ : Int => (0 : Int)) 0 (K 2) (gsZ T (fun _ : Int => (0 : Int)) ((0 : Nat) : Int))) (KKn (K 0 0) (K 1) (fun _ : Int => (-1))) qa cpB tl2_887 := z_888
            exfalso; omega
          · skip
            rw [hw9] at B; clear hw9
            have B := bd_to (ws' := ([(na, .inl (k 0, 4, .inl (fun i9 : Nat => iI (nf i9))))] ++ tl2_890)) rfl B
            have hPS : PS dI k T K qa cpB tl2_890 := z_891
            refine W.widen (k := ((cpB - cp) + 25)) (n := ((12 * (cpB - cp)) + 318)) (by omega) (by omega) ?_
            refine lv_ldc (v := (-2000000001)) hx hb B.1.2.2.2.1 (B.1.2.2.2.2.1 _ mw_593) dL_refuses_346 ?_
            refine lv_seti (y := iI (-2000000001)) (by decide) ?_
            refine lv_icmp_ne (tgt := 634) hx hb dL_refuses_348 (by decide) (fun c9 => absurd c9 (by decide)) (fun _ => ?_)
            exact w_refuses_c351_17 l dC dI k hl0 T K qa cp tl na nf xx cpB tl2_890 (by omega) hPS hQ hx9 hn9 (by omega)  (bd_to rfl B) hr hl
          · skip
            rw [hw9] at B; clear hw9
            have B := bd_to (ws' := ([(na, .inl (k 0, 4, .inl (fun i9 : Nat => iI (nf i9))))] ++ tl2_893)) rfl B
            have hPS : PS dI k T K qa cpB tl2_893 := z_894
            exfalso; omega
        · skip
          rw [hw9] at B; clear hw9
          have B := bd_to (ws' := ([(na, .inl (k 0, 4, .inl (fun i9 : Nat => iI (nf i9))))] ++ tl2_884)) rfl B
          have hPS : PS dI k T K qa cpB tl2_884 := z_885
          exfalso; omega
      refine lv_aload_n hx hb dL_refuses_294 rfl (lv_at hl 5 rfl) ?_
      refine lv_iconst (v := iI 1) hx hb dL_refuses_295 (by decide) ?_
      refine x_iald' (f := nf) (z := 1) B 0 rfl (by omega) dL_refuses_296 ?_
      refine lv_seti (y := iI (K 0 0)) (congrArg iI (show nf 1 = K 0 0 from hn9.2.1)) ?_
      refine lv_if_le (tgt := 315) hx hb dL_refuses_297 (by decide) (fun c_1537 => ?_) (fun c_1537 => ?_)
      · have zc_1537 : (K 0 0) ≤ 0 := jle (a := (K 0 0)) (b := 0) (by omega) (by omega) c_1537
        refine lv_aload_n hx hb dL_refuses_315 rfl (lv_at hl 4 rfl) ?_
        refine lv_iconst (v := iI 0) hx hb dL_refuses_316 (by decide) ?_
        refine lv_iconst (v := iI 1) hx hb dL_refuses_317 (by decide) ?_
        have B := bd_swap (a := []) (b := [(na, .inl (k 0, 4, .inl (fun i9 : Nat => iI (nf i9))))]) (d := tl2_871) (bd_to rfl B)
        refine k_W (rest := []) (wc := ([] ++ tl2_871)) (wr := [(na, .inl (k 0, 4, .inl (fun i9 : Nat => iI (nf i9))))]) (w_patterns l dC dI k hl0 T K qa cpS tl2_871 0 1 z_872 hQ (by omega) (by omega)) B mW_L_patterns mw_628 hl ⟨Nat.le_of_ble_eq_true rfl, Nat.le_of_ble_eq_true rfl⟩ (Nat.le_of_ble_eq_true rfl) rfl dL_refuses_318 ⟨by dsimp only; omega, by dsimp only; omega⟩ (fun r w gc gs H locs hp B => ?_)
        rcases hp with ⟨tl2_1538, z_1539, z_1540, rfl, hw9, rfl, rfl⟩ | ⟨tl2_1541, z_1542, z_1543, rfl, hw9, rfl, rfl⟩ | ⟨tl2_1544, z_1545, z_1546, rfl, hw9, rfl, rfl⟩
        · skip
          rw [hw9] at B; clear hw9
          have B := bd_to (ws' := ([(na, .inl (k 0, 4, .inl (fun i9 : Nat => iI (nf i9))))] ++ tl2_1538)) rfl B
          have hPS : PS dI k (gpT (apT T (Int.toNat (K 0 0)) (spF K) 0 1) (T 0 0 0 0) 0) (KKn 0 (K 1) (K 2)) qa cpS tl2_1538 := z_1539
          exfalso; omega
        · skip
          rw [hw9] at B; clear hw9
          have B := bd_to (ws' := ([(na, .inl (k 0, 4, .inl (fun i9 : Nat => iI (nf i9))))] ++ tl2_1541)) rfl B
          have hPS : PS dI k T K qa cpS tl2_1541 := z_1542
          exfalso; omega
        · skip
          rw [hw9] at B; clear hw9
          have B := bd_to (ws' := ([(na, .inl (k 0, 4, .inl (fun i9 : Nat => iI (nf i9))))] ++ tl2_1544)) rfl B
          have hPS : PS dI k T K qa cpS tl2_1544 := z_1545
          refine W.widen (k := ((cpS - cp) + 17)) (n := ((12 * (cpS - cp)) + 198)) (by omega) (by omega) ?_
          refine lv_ldc (v := (-2000000003)) hx hb B.1.2.2.2.1 (B.1.2.2.2.2.1 _ mw_594) dL_refuses_321 ?_
          refine lv_seti (y := iI (-2000000003)) (by decide) ?_
          refine lv_icmp_ne (tgt := 634) hx hb dL_refuses_323 (by decide) (fun c9 => absurd c9 (by decide)) (fun _ => ?_)
          refine W.widen (k := ((cpS - cp) + 17)) (n := ((12 * (cpS - cp)) + 198)) (by omega) (by omega) ?_
          exact J_877 (cpS, tl2_1544) ⟨(show PS dI k T K qa cpS tl2_1544 from hPS), (show cp ≤ cpS ∧ cpS ≤ 131072 from hcS)⟩ _ _ _ (lv_sub hl [0, 1, 2, 3, 4, 5, 6] rfl) (bd_to rfl B)
      · have zc_1537 : 0 < (K 0 0) := jnle (a := (K 0 0)) (b := 0) (by omega) (by omega) c_1537
        refine lv_aload_n hx hb dL_refuses_300 rfl (lv_at hl 5 rfl) ?_
        refine lv_iconst (v := iI 1) hx hb dL_refuses_301 (by decide) ?_
        refine x_iald' (f := nf) (z := 1) B 0 rfl (by omega) dL_refuses_302 ?_
        refine lv_seti (y := iI (K 0 0)) (congrArg iI (show nf 1 = K 0 0 from hn9.2.1)) ?_
        refine lv_iconst (v := iI 4) hx hb dL_refuses_303 (by decide) ?_
        refine lv_icmp_ge (tgt := 315) hx hb dL_refuses_304 (by decide) (fun c_1547 => ?_) (fun c_1547 => ?_)
        · have zc_1547 : 4 ≤ (K 0 0) := jle (a := 4) (b := (K 0 0)) (by omega) (by omega) c_1547
          refine lv_aload_n hx hb dL_refuses_315 rfl (lv_at hl 4 rfl) ?_
          refine lv_iconst (v := iI 0) hx hb dL_refuses_316 (by decide) ?_
          refine lv_iconst (v := iI 1) hx hb dL_refuses_317 (by decide) ?_
          have B := bd_swap (a := []) (b := [(na, .inl (k 0, 4, .inl (fun i9 : Nat => iI (nf i9))))]) (d := tl2_871) (bd_to rfl B)
          refine k_W (rest := []) (wc := ([] ++ tl2_871)) (wr := [(na, .inl (k 0, 4, .inl (fun i9 : Nat => iI (nf i9))))]) (w_patterns l dC dI k hl0 T K qa cpS tl2_871 0 1 z_872 hQ (by omega) (by omega)) B mW_L_patterns mw_628 hl ⟨Nat.le_of_ble_eq_true rfl, Nat.le_of_ble_eq_true rfl⟩ (Nat.le_of_ble_eq_true rfl) rfl dL_refuses_318 ⟨by dsimp only; omega, by dsimp only; omega⟩ (fun r w gc gs H locs hp B => ?_)
          rcases hp with ⟨tl2_1548, z_1549, z_1550, rfl, hw9, rfl, rfl⟩ | ⟨tl2_1551, z_1552, z_1553, rfl, hw9, rfl, rfl⟩ | ⟨tl2_1554, z_1555, z_1556, rfl, hw9, rfl, rfl⟩
          · skip
            rw [hw9] at B; clear hw9
            have B := bd_to (ws' := ([(na, .inl (k 0, 4, .inl (fun i9 : Nat => iI (nf i9))))] ++ tl2_1548)) rfl B
            have hPS : PS dI k (gpT (apT T (Int.toNat (K 0 0)) (spF K) 0 1) (T 0 0 0 0) 0) (KKn 0 (K 1) (K 2)) qa cpS tl2_1548 := z_1549
            exfalso; omega
          · skip
            rw [hw9] at B; clear hw9
            have B := bd_to (ws' := ([(na, .inl (k 0, 4, .inl (fun i9 : Nat => iI (nf i9))))] ++ tl2_1551)) rfl B
            have hPS : PS dI k T K qa cpS tl2_1551 := z_1552
            exfalso; omega
          · skip
            rw [hw9] at B; clear hw9
            have B := bd_to (ws' := ([(na, .inl (k 0, 4, .inl (fun i9 : Nat => iI (nf i9))))] ++ tl2_1554)) rfl B
            have hPS : PS dI k T K qa cpS tl2_1554 := z_1555
            refine W.widen (k := ((cpS - cp) + 17)) (n := ((12 * (cpS - cp)) + 198)) (by omega) (by omega) ?_
            refine lv_ldc (v := (-2000000003)) hx hb B.1.2.2.2.1 (B.1.2.2.2.2.1 _ mw_594) dL_refuses_321 ?_
            refine lv_seti (y := iI (-2000000003)) (by decide) ?_
            refine lv_icmp_ne (tgt := 634) hx hb dL_refuses_323 (by decide) (fun c9 => absurd c9 (by decide)) (fun _ => ?_)
            refine W.widen (k := ((cpS - cp) + 17)) (n := ((12 * (cpS - cp)) + 198)) (by omega) (by omega) ?_
            exact J_877 (cpS, tl2_1554) ⟨(show PS dI k T K qa cpS tl2_1554 from hPS), (show cp ≤ cpS ∧ cpS ≤ 131072 from hcS)⟩ _ _ _ (lv_sub hl [0, 1, 2, 3, 4, 5, 6] rfl) (bd_to rfl B)
        · have zc_1547 : (K 0 0) < 4 := jnle (a := 4) (b := (K 0 0)) (by omega) (by omega) c_1547
          refine lv_aload_n hx hb dL_refuses_307 rfl (lv_at hl 5 rfl) ?_
          refine lv_iconst (v := iI 3) hx hb dL_refuses_308 (by decide) ?_
          refine x_iald' (f := nf) (z := 3) B 0 rfl (by omega) dL_refuses_309 ?_
          refine lv_seti (y := iI (T 18 0 0 0)) (congrArg iI (show nf 3 = T 18 0 0 0 from hn9.2.2.2)) ?_
          refine lv_bipush (v := iI 8) hx hb dL_refuses_310 (by decide) ?_
          refine lv_icmp_lt (tgt := 326) hx hb dL_refuses_312 (by decide) (fun c_1557 => ?_) (fun c_1557 => ?_)
          · have zc_1557 : (T 18 0 0 0) < 8 := jlt (a := (T 18 0 0 0)) (b := 8) (by omega) (by omega) c_1557
            refine W.widen (k := ((cpS - cp) + 17)) (n := ((12 * (cpS - cp)) + 198)) (by omega) (by omega) ?_
            exact J_877 (cpS, tl2_871) ⟨(show PS dI k T K qa cpS tl2_871 from hPS), (show cp ≤ cpS ∧ cpS ≤ 131072 from hcS)⟩ _ _ _ (lv_sub hl [0, 1, 2, 3, 4, 5, 6] rfl) (bd_to rfl B)
          · have zc_1557 : 8 ≤ (T 18 0 0 0) := jnlt (a := (T 18 0 0 0)) (b := 8) (by omega) (by omega) c_1557
            refine lv_aload_n hx hb dL_refuses_315 rfl (lv_at hl 4 rfl) ?_
            refine lv_iconst (v := iI 0) hx hb dL_refuses_316 (by decide) ?_
            refine lv_iconst (v := iI 1) hx hb dL_refuses_317 (by decide) ?_
            have B := bd_swap (a := []) (b := [(na, .inl (k 0, 4, .inl (fun i9 : Nat => iI (nf i9))))]) (d := tl2_871) (bd_to rfl B)
            refine k_W (rest := []) (wc := ([] ++ tl2_871)) (wr := [(na, .inl (k 0, 4, .inl (fun i9 : Nat => iI (nf i9))))]) (w_patterns l dC dI k hl0 T K qa cpS tl2_871 0 1 z_872 hQ (by omega) (by omega)) B mW_L_patterns mw_628 hl ⟨Nat.le_of_ble_eq_true rfl, Nat.le_of_ble_eq_true rfl⟩ (Nat.le_of_ble_eq_true rfl) rfl dL_refuses_318 ⟨by dsimp only; omega, by dsimp only; omega⟩ (fun r w gc gs H locs hp B => ?_)
            rcases hp with ⟨tl2_1558, z_1559, z_1560, rfl, hw9, rfl, rfl⟩ | ⟨tl2_1561, z_1562, z_1563, rfl, hw9, rfl, rfl⟩ | ⟨tl2_1564, z_1565, z_1566, rfl, hw9, rfl, rfl⟩
            · skip
              rw [hw9] at B; clear hw9
              have B := bd_to (ws' := ([(na, .inl (k 0, 4, .inl (fun i9 : Nat => iI (nf i9))))] ++ tl2_1558)) rfl B
              have hPS : PS dI k (gpT (apT T (Int.toNat (K 0 0)) (spF K) 0 1) (T 0 0 0 0) 0) (KKn 0 (K 1) (K 2)) qa cpS tl2_1558 := z_1559
              exfalso; omega
            · skip
              rw [hw9] at B; clear hw9
              have B := bd_to (ws' := ([(na, .inl (k 0, 4, .inl (fun i9 : Nat => iI (nf i9))))] ++ tl2_1561)) rfl B
              have hPS : PS dI k T K qa cpS tl2_1561 := z_1562
              exfalso; omega
            · skip
              rw [hw9] at B; clear hw9
              have B := bd_to (ws' := ([(na, .inl (k 0, 4, .inl (fun i9 : Nat => iI (nf i9))))] ++ tl2_1564)) rfl B
              have hPS : PS dI k T K qa cpS tl2_1564 := z_1565
              refine W.widen (k := ((cpS - cp) + 17)) (n := ((12 * (cpS - cp)) + 198)) (by omega) (by omega) ?_
              refine lv_ldc (v := (-2000000003)) hx hb B.1.2.2.2.1 (B.1.2.2.2.2.1 _ mw_594) dL_refuses_321 ?_
              refine lv_seti (y := iI (-2000000003)) (by decide) ?_
              refine lv_icmp_ne (tgt := 634) hx hb dL_refuses_323 (by decide) (fun c9 => absurd c9 (by decide)) (fun _ => ?_)
              refine W.widen (k := ((cpS - cp) + 17)) (n := ((12 * (cpS - cp)) + 198)) (by omega) (by omega) ?_
              exact J_877 (cpS, tl2_1564) ⟨(show PS dI k T K qa cpS tl2_1564 from hPS), (show cp ≤ cpS ∧ cpS ≤ 131072 from hcS)⟩ _ _ _ (lv_sub hl [0, 1, 2, 3, 4, 5, 6] rfl) (bd_to rfl B)
    · skip
      rw [hw9] at B; clear hw9
      have B := bd_to (ws' := ([(na, .inl (k 0, 4, .inl (fun i9 : Nat => iI (nf i9))))] ++ tl2_874)) rfl B
      have hPS : PS dI k T K qa cpS tl2_874 := z_875
      exfalso; omega
  · skip
    rw [hw9] at B; clear hw9
    have B := bd_to (ws' := ([(na, .inl (k 0, 4, .inl (fun i9 : Nat => iI (nf i9))))] ++ tl2_865)) rfl B
    have hPS : PS dI k T K qa cpS tl2_865 := z_866
    exfalso; omega

set_option maxHeartbeats 4000000 in
set_option maxRecDepth 100000 in
theorem w_refuses_c144_15 (l : Launch) (dC : Nat → ClassId) (dI : Nat → Nat → Nat) (k : Nat → ClassId) (hl0 : l.stackTraces = false) (T : Nat → Int → Int → Int → Int) (K : Nat → Int → Int) (qa : Nat) (cp : Nat) (tl : va_W) (na : Nat) (nf : Int → Int) (xx : Int) (cpS : Nat) (tlS : va_W) (hc0 : 512 ≤ cp ∧ cp ≤ 131072) (hPS : PS dI k T K qa cpS tlS) (hQ : OKT T K) (hx9 : 0 ≤ xx ∧ xx < 9973) (hn9 : nf 0 = T 0 0 0 0 ∧ nf 1 = K 0 0 ∧ nf 2 = T 12 0 0 0 ∧ nf 3 = T 18 0 0 0) (hcS : cp ≤ cpS ∧ cpS ≤ 131072) {p : Program} {e : Env} {s : State} {m : MethodId} {args : Array Value} {below : List Frame} {meth : Method} {c : Code} {H : Heap} {locs : List Loc} {ls : Array Slot} (B : bd p s m args meth c cL_refuses 11 yL_refuses.cls dC dI k (va_A ([(na, .inl (k 0, 4, .inl (fun i9 : Nat => iI (nf i9))))] ++ tl) s.heap.size) ([(na, .inl (k 0, 4, .inl (fun i9 : Nat => iI (nf i9))))] ++ tlS) H locs) (hr : meth.sig.returnType = (some .boolean)) (hl : lv_has ls 11 [(6, .int (iI ((-1) - (xx % 50)))), (5, .int (iI ((-1) - (xx % 50)))), (4, .int (iI ((-1) - (xx % 50)))), (3, .int (iI 1)), (0, .ref qa), (1, .ref na), (2, .int (iI xx))]) : W p l e ({ frames := 16, cells := ((131072 - cp) + 129), slots := ((12 * (131072 - cp)) + 1266), locals := 495 } : Room) s m args below meth c H locs ((cpS - cp) + 3) ((12 * (cpS - cp)) + 18) (MQ below (Qk dC dI ([(na, .inl (k 0, 4, .inl (fun i9 : Nat => iI (nf i9))))] ++ tl) s.heap.size (fun r w gc gs => (∃ (cp2 : Nat) (tl2 : va_W), (PS dI k T K qa cp2 tl2) ∧ (cp ≤ cp2 ∧ cp2 ≤ 131072) ∧ r = some (.int (iI 1)) ∧ w = ([(na, .inl (k 0, 4, .inl (fun i9 : Nat => iI (nf i9))))] ++ tl2) ∧ gc = ((cp2 - cp) + 129) ∧ gs = ((12 * (cp2 - cp)) + 1266)))) args s ({ frames := 16, cells := ((131072 - cp) + 129), slots := ((12 * (131072 - cp)) + 1266), locals := 495 } : Room).cells ({ frames := 16, cells := ((131072 - cp) + 129), slots := ((12 * (131072 - cp)) + 1266), locals := 495 } : Room).slots (va_A ([(na, .inl (k 0, 4, .inl (fun i9 : Nat => iI (nf i9))))] ++ tl) s.heap.size)) (F0 m 144 ls []) := by
  have hx := B.1.1
  have hb := B.1.2.1
  have hcp9 := PS_cp hPS
  have hn0 := TK_nb hQ.1
  have hk0 := hQ.2.1.1
  have hf0 := TK_fc hQ.1
  have hp0 := TK_np hQ.1
  have hm0 : lmZ 0 = 1 := rfl
  have hm1 : lmZ 1 = 0 := rfl
  have hm2 : lmZ 2 = 0 := rfl
  have hm3 : lmZ 3 = 0 := rfl
  have hm4 : lmZ 4 = 0 := rfl
  have hm5 : mmZ T 0 = 5 := rfl
  have hm6 : mmZ T 1 = T 12 0 0 0 - 1 := rfl
  have hm7 : mmZ T 2 = 5 := rfl
  have hm8 : mmZ T 3 = 7 := rfl
  have hm9 : mmZ T 4 = 1 := rfl
  refine lv_aload_n hx hb dL_refuses_144 rfl (lv_at hl 4 rfl) ?_
  refine lv_iconst (v := iI 0) hx hb dL_refuses_145 (by decide) ?_
  refine lv_iload_n hx hb dL_refuses_146 rfl (lv_at hl 3 rfl) ?_
  refine lv_if_eq (tgt := 154) hx hb dL_refuses_147 (by decide) (fun c9 => absurd c9 (by decide)) (fun _ => ?_)
  refine lv_iconst (v := iI 0) hx hb dL_refuses_150 (by decide) ?_
  refine lv_goto (tgt := 158) hx hb dL_refuses_151 (by decide) ?_
  have B := bd_swap (a := []) (b := [(na, .inl (k 0, 4, .inl (fun i9 : Nat => iI (nf i9))))]) (d := tlS) (bd_to rfl B)
  refine k_W (rest := []) (wc := ([] ++ tlS)) (wr := [(na, .inl (k 0, 4, .inl (fun i9 : Nat => iI (nf i9))))]) (w_marks l dC dI k hl0 T K qa cpS tlS 0 0 hPS hQ (by omega) (by omega)) B mW_L_marks mw_595 hl ⟨Nat.le_of_ble_eq_true rfl, Nat.le_of_ble_eq_true rfl⟩ (Nat.le_of_ble_eq_true rfl) rfl dL_refuses_158 ⟨by dsimp only; omega, by dsimp only; omega⟩ (fun r w gc gs H locs hp B => ?_)
  rcases hp with ⟨tl2_814, z_815, z_816, rfl, hw9, rfl, rfl⟩ | ⟨tl2_817, z_818, z_819, rfl, hw9, rfl, rfl⟩ | ⟨tl2_820, z_821, z_822, rfl, hw9, rfl, rfl⟩
  · skip
    rw [hw9] at B; clear hw9
    have B := bd_to (ws' := ([(na, .inl (k 0, 4, .inl (fun i9 : Nat => iI (nf i9))))] ++ tl2_814)) rfl B
    have hPS : PS dI k T (KKn (K 0 0) (K 1) (uz (K 2) 0 0)) qa cpS tl2_814 := z_815
    exfalso; omega
  · skip
    rw [hw9] at B; clear hw9
    have B := bd_to (ws' := ([(na, .inl (k 0, 4, .inl (fun i9 : Nat => iI (nf i9))))] ++ tl2_817)) rfl B
    have hPS : PS dI k T K qa cpS tl2_817 := z_818
    exfalso; omega
  · skip
    rw [hw9] at B; clear hw9
    have B := bd_to (ws' := ([(na, .inl (k 0, 4, .inl (fun i9 : Nat => iI (nf i9))))] ++ tl2_820)) rfl B
    have hPS : PS dI k T K qa cpS tl2_820 := z_821
    refine W.widen (k := ((cpS - cp) + 4)) (n := ((12 * (cpS - cp)) + 24)) (by omega) (by omega) ?_
    refine lv_ldc (v := (-2000000002)) hx hb B.1.2.2.2.1 (B.1.2.2.2.2.1 _ mw_627) dL_refuses_161 ?_
    refine lv_seti (y := iI (-2000000002)) (by decide) ?_
    refine lv_icmp_ne (tgt := 634) hx hb dL_refuses_163 (by decide) (fun c9 => absurd c9 (by decide)) (fun _ => ?_)
    refine lv_aload_n hx hb dL_refuses_166 rfl (lv_at hl 4 rfl) ?_
    refine lv_iconst (v := iI 1) hx hb dL_refuses_167 (by decide) ?_
    refine lv_iload_n hx hb dL_refuses_168 rfl (lv_at hl 3 rfl) ?_
    refine lv_if_eq (tgt := 179) hx hb dL_refuses_169 (by decide) (fun c9 => absurd c9 (by decide)) (fun _ => ?_)
    refine lv_bipush (v := iI (-2)) hx hb dL_refuses_172 (by decide) ?_
    refine lv_iload_n hx hb dL_refuses_174 rfl (lv_at hl 6 rfl) ?_
    refine y_sub hx hb dL_refuses_175 ?_
    refine lv_goto (tgt := 184) hx hb dL_refuses_176 (by decide) ?_
    have B := bd_swap (a := []) (b := [(na, .inl (k 0, 4, .inl (fun i9 : Nat => iI (nf i9))))]) (d := tl2_820) (bd_to rfl B)
    refine k_W (rest := []) (wc := ([] ++ tl2_820)) (wr := [(na, .inl (k 0, 4, .inl (fun i9 : Nat => iI (nf i9))))]) (w_marks l dC dI k hl0 T K qa cpS tl2_820 1 ((-2) - xx) z_821 hQ (by omega) (by omega)) B mW_L_marks mw_595 hl ⟨Nat.le_of_ble_eq_true rfl, Nat.le_of_ble_eq_true rfl⟩ (Nat.le_of_ble_eq_true rfl) rfl dL_refuses_184 ⟨by dsimp only; omega, by dsimp only; omega⟩ (fun r w gc gs H locs hp B => ?_)
    rcases hp with ⟨tl2_823, z_824, z_825, rfl, hw9, rfl, rfl⟩ | ⟨tl2_826, z_827, z_828, rfl, hw9, rfl, rfl⟩ | ⟨tl2_829, z_830, z_831, rfl, hw9, rfl, rfl⟩
    · skip
      rw [hw9] at B; clear hw9
      have B := bd_to (ws' := ([(na, .inl (k 0, 4, .inl (fun i9 : Nat => iI (nf i9))))] ++ tl2_823)) rfl B
      have hPS : PS dI k T (KKn (K 0 0) (K 1) (uz (K 2) 1 ((-2) - xx))) qa cpS tl2_823 := z_824
      exfalso; omega
    · skip
      rw [hw9] at B; clear hw9
      have B := bd_to (ws' := ([(na, .inl (k 0, 4, .inl (fun i9 : Nat => iI (nf i9))))] ++ tl2_826)) rfl B
      have hPS : PS dI k T K qa cpS tl2_826 := z_827
      exfalso; omega
    · skip
      rw [hw9] at B; clear hw9
      have B := bd_to (ws' := ([(na, .inl (k 0, 4, .inl (fun i9 : Nat => iI (nf i9))))] ++ tl2_829)) rfl B
      have hPS : PS dI k T K qa cpS tl2_829 := z_830
      refine W.widen (k := ((cpS - cp) + 5)) (n := ((12 * (cpS - cp)) + 30)) (by omega) (by omega) ?_
      refine lv_ldc (v := (-2000000002)) hx hb B.1.2.2.2.1 (B.1.2.2.2.2.1 _ mw_627) dL_refuses_187 ?_
      refine lv_seti (y := iI (-2000000002)) (by decide) ?_
      refine lv_icmp_ne (tgt := 634) hx hb dL_refuses_189 (by decide) (fun c9 => absurd c9 (by decide)) (fun _ => ?_)
      refine lv_aload_n hx hb dL_refuses_192 rfl (lv_at hl 4 rfl) ?_
      refine lv_iconst (v := iI 2) hx hb dL_refuses_193 (by decide) ?_
      refine lv_iload_n hx hb dL_refuses_194 rfl (lv_at hl 3 rfl) ?_
      refine lv_if_eq (tgt := 205) hx hb dL_refuses_195 (by decide) (fun c9 => absurd c9 (by decide)) (fun _ => ?_)
      refine lv_bipush (v := iI (-2)) hx hb dL_refuses_198 (by decide) ?_
      refine lv_iload_n hx hb dL_refuses_200 rfl (lv_at hl 6 rfl) ?_
      refine y_sub hx hb dL_refuses_201 ?_
      refine lv_goto (tgt := 209) hx hb dL_refuses_202 (by decide) ?_
      have B := bd_swap (a := []) (b := [(na, .inl (k 0, 4, .inl (fun i9 : Nat => iI (nf i9))))]) (d := tl2_829) (bd_to rfl B)
      refine k_W (rest := []) (wc := ([] ++ tl2_829)) (wr := [(na, .inl (k 0, 4, .inl (fun i9 : Nat => iI (nf i9))))]) (w_marks l dC dI k hl0 T K qa cpS tl2_829 2 ((-2) - xx) z_830 hQ (by omega) (by omega)) B mW_L_marks mw_595 hl ⟨Nat.le_of_ble_eq_true rfl, Nat.le_of_ble_eq_true rfl⟩ (Nat.le_of_ble_eq_true rfl) rfl dL_refuses_209 ⟨by dsimp only; omega, by dsimp only; omega⟩ (fun r w gc gs H locs hp B => ?_)
      rcases hp with ⟨tl2_832, z_833, z_834, rfl, hw9, rfl, rfl⟩ | ⟨tl2_835, z_836, z_837, rfl, hw9, rfl, rfl⟩ | ⟨tl2_838, z_839, z_840, rfl, hw9, rfl, rfl⟩
      · skip
        rw [hw9] at B; clear hw9
        have B := bd_to (ws' := ([(na, .inl (k 0, 4, .inl (fun i9 : Nat => iI (nf i9))))] ++ tl2_832)) rfl B
        have hPS : PS dI k T (KKn (K 0 0) (K 1) (uz (K 2) 2 ((-2) - xx))) qa cpS tl2_832 := z_833
        exfalso; omega
      · skip
        rw [hw9] at B; clear hw9
        have B := bd_to (ws' := ([(na, .inl (k 0, 4, .inl (fun i9 : Nat => iI (nf i9))))] ++ tl2_835)) rfl B
        have hPS : PS dI k T K qa cpS tl2_835 := z_836
        exfalso; omega
      · skip
        rw [hw9] at B; clear hw9
        have B := bd_to (ws' := ([(na, .inl (k 0, 4, .inl (fun i9 : Nat => iI (nf i9))))] ++ tl2_838)) rfl B
        have hPS : PS dI k T K qa cpS tl2_838 := z_839
        refine W.widen (k := ((cpS - cp) + 6)) (n := ((12 * (cpS - cp)) + 36)) (by omega) (by omega) ?_
        refine lv_ldc (v := (-2000000002)) hx hb B.1.2.2.2.1 (B.1.2.2.2.2.1 _ mw_627) dL_refuses_212 ?_
        refine lv_seti (y := iI (-2000000002)) (by decide) ?_
        refine lv_icmp_ne (tgt := 634) hx hb dL_refuses_214 (by decide) (fun c9 => absurd c9 (by decide)) (fun _ => ?_)
        refine lv_aload_n hx hb dL_refuses_217 rfl (lv_at hl 4 rfl) ?_
        refine lv_iconst (v := iI 3) hx hb dL_refuses_218 (by decide) ?_
        refine lv_bipush (v := iI 8) hx hb dL_refuses_219 (by decide) ?_
        refine lv_iload_n hx hb dL_refuses_221 rfl (lv_at hl 6 rfl) ?_
        refine y_add hx hb dL_refuses_222 ?_
        have B := bd_swap (a := []) (b := [(na, .inl (k 0, 4, .inl (fun i9 : Nat => iI (nf i9))))]) (d := tl2_838) (bd_to rfl B)
        refine k_W (rest := []) (wc := ([] ++ tl2_838)) (wr := [(na, .inl (k 0, 4, .inl (fun i9 : Nat => iI (nf i9))))]) (w_marks l dC dI k hl0 T K qa cpS tl2_838 3 (8 + xx) z_839 hQ (by omega) (by omega)) B mW_L_marks mw_595 hl ⟨Nat.le_of_ble_eq_true rfl, Nat.le_of_ble_eq_true rfl⟩ (Nat.le_of_ble_eq_true rfl) rfl dL_refuses_223 ⟨by dsimp only; omega, by dsimp only; omega⟩ (fun r w gc gs H locs hp B => ?_)
        rcases hp with ⟨tl2_841, z_842, z_843, rfl, hw9, rfl, rfl⟩ | ⟨tl2_844, z_845, z_846, rfl, hw9, rfl, rfl⟩ | ⟨tl2_847, z_848, z_849, rfl, hw9, rfl, rfl⟩
        · skip
          rw [hw9] at B; clear hw9
          have B := bd_to (ws' := ([(na, .inl (k 0, 4, .inl (fun i9 : Nat => iI (nf i9))))] ++ tl2_841)) rfl B
          have hPS : PS dI k T (KKn (K 0 0) (K 1) (uz (K 2) 3 (8 + xx))) qa cpS tl2_841 := z_842
          exfalso; omega
        · skip
          rw [hw9] at B; clear hw9
          have B := bd_to (ws' := ([(na, .inl (k 0, 4, .inl (fun i9 : Nat => iI (nf i9))))] ++ tl2_844)) rfl B
          have hPS : PS dI k T K qa cpS tl2_844 := z_845
          exfalso; omega
        · skip
          rw [hw9] at B; clear hw9
          have B := bd_to (ws' := ([(na, .inl (k 0, 4, .inl (fun i9 : Nat => iI (nf i9))))] ++ tl2_847)) rfl B
          have hPS : PS dI k T K qa cpS tl2_847 := z_848
          refine W.widen (k := ((cpS - cp) + 7)) (n := ((12 * (cpS - cp)) + 42)) (by omega) (by omega) ?_
          refine lv_ldc (v := (-2000000002)) hx hb B.1.2.2.2.1 (B.1.2.2.2.2.1 _ mw_627) dL_refuses_226 ?_
          refine lv_seti (y := iI (-2000000002)) (by decide) ?_
          refine lv_icmp_ne (tgt := 634) hx hb dL_refuses_228 (by decide) (fun c9 => absurd c9 (by decide)) (fun _ => ?_)
          refine lv_aload_n hx hb dL_refuses_231 rfl (lv_at hl 4 rfl) ?_
          refine lv_iconst (v := iI 4) hx hb dL_refuses_232 (by decide) ?_
          refine lv_iconst (v := iI 2) hx hb dL_refuses_233 (by decide) ?_
          refine lv_iload_n hx hb dL_refuses_234 rfl (lv_at hl 6 rfl) ?_
          refine y_add hx hb dL_refuses_235 ?_
          have B := bd_swap (a := []) (b := [(na, .inl (k 0, 4, .inl (fun i9 : Nat => iI (nf i9))))]) (d := tl2_847) (bd_to rfl B)
          refine k_W (rest := []) (wc := ([] ++ tl2_847)) (wr := [(na, .inl (k 0, 4, .inl (fun i9 : Nat => iI (nf i9))))]) (w_marks l dC dI k hl0 T K qa cpS tl2_847 4 (2 + xx) z_848 hQ (by omega) (by omega)) B mW_L_marks mw_595 hl ⟨Nat.le_of_ble_eq_true rfl, Nat.le_of_ble_eq_true rfl⟩ (Nat.le_of_ble_eq_true rfl) rfl dL_refuses_236 ⟨by dsimp only; omega, by dsimp only; omega⟩ (fun r w gc gs H locs hp B => ?_)
          rcases hp with ⟨tl2_850, z_851, z_852, rfl, hw9, rfl, rfl⟩ | ⟨tl2_853, z_854, z_855, rfl, hw9, rfl, rfl⟩ | ⟨tl2_856, z_857, z_858, rfl, hw9, rfl, rfl⟩
          · skip
            rw [hw9] at B; clear hw9
            have B := bd_to (ws' := ([(na, .inl (k 0, 4, .inl (fun i9 : Nat => iI (nf i9))))] ++ tl2_850)) rfl B
            have hPS : PS dI k T (KKn (K 0 0) (K 1) (uz (K 2) 4 (2 + xx))) qa cpS tl2_850 := z_851
            exfalso; omega
          · skip
            rw [hw9] at B; clear hw9
            have B := bd_to (ws' := ([(na, .inl (k 0, 4, .inl (fun i9 : Nat => iI (nf i9))))] ++ tl2_853)) rfl B
            have hPS : PS dI k T K qa cpS tl2_853 := z_854
            exfalso; omega
          · skip
            rw [hw9] at B; clear hw9
            have B := bd_to (ws' := ([(na, .inl (k 0, 4, .inl (fun i9 : Nat => iI (nf i9))))] ++ tl2_856)) rfl B
            have hPS : PS dI k T K qa cpS tl2_856 := z_857
            refine W.widen (k := ((cpS - cp) + 8)) (n := ((12 * (cpS - cp)) + 48)) (by omega) (by omega) ?_
            refine lv_ldc (v := (-2000000002)) hx hb B.1.2.2.2.1 (B.1.2.2.2.2.1 _ mw_627) dL_refuses_239 ?_
            refine lv_seti (y := iI (-2000000002)) (by decide) ?_
            refine lv_icmp_ne (tgt := 634) hx hb dL_refuses_241 (by decide) (fun c9 => absurd c9 (by decide)) (fun _ => ?_)
            exact w_refuses_c244_16 l dC dI k hl0 T K qa cp tl na nf xx cpS tl2_856 (by omega) hPS hQ hx9 hn9 (by omega)  (bd_to rfl B) hr hl

set_option maxHeartbeats 4000000 in
set_option maxRecDepth 100000 in
theorem w_refuses (l : Launch) (dC : Nat → ClassId) (dI : Nat → Nat → Nat) (k : Nat → ClassId) (hl0 : l.stackTraces = false) (T : Nat → Int → Int → Int → Int) (K : Nat → Int → Int) (qa : Nat) (cp : Nat) (tl : va_W) (na : Nat) (nf : Int → Int) (xx : Int) (hPS : PS dI k T K qa cp tl) (hQ : OKT T K) (hx9 : 0 ≤ xx ∧ xx < 9973) (hn9 : nf 0 = T 0 0 0 0 ∧ nf 1 = K 0 0 ∧ nf 2 = T 12 0 0 0 ∧ nf 3 = T 18 0 0 0) : Kn l dC dI k yL_refuses (.code yL_refuses cL_refuses 11 (some .boolean)) ({ frames := 16, cells := ((131072 - cp) + 129), slots := ((12 * (131072 - cp)) + 1266), locals := 495 } : Room) [.ref qa, .ref na, .int (iI xx)] ([(na, .inl (k 0, 4, .inl (fun i9 : Nat => iI (nf i9))))] ++ tl) (fun r w gc gs => (∃ (cp2 : Nat) (tl2 : va_W), (PS dI k T K qa cp2 tl2) ∧ (cp ≤ cp2 ∧ cp2 ≤ 131072) ∧ r = some (.int (iI 1)) ∧ w = ([(na, .inl (k 0, 4, .inl (fun i9 : Nat => iI (nf i9))))] ++ tl2) ∧ gc = ((cp2 - cp) + 129) ∧ gs = ((12 * (cp2 - cp)) + 1266))) := by
  refine kn_of (by decide) (Nat.le_of_ble_eq_true rfl) ?_
  intro p e s m args below meth c H locs B hr hnm ls hl
  have hx := B.1.1
  have hb := B.1.2.1
  have hl : lv_has ls 11 [(0, .ref qa), (1, .ref na), (2, .int (iI xx))] := hl
  have hcp9 := PS_cp hPS
  have hn0 := TK_nb hQ.1
  have hk0 := hQ.2.1.1
  have hf0 := TK_fc hQ.1
  have hp0 := TK_np hQ.1
  have hm0 : lmZ 0 = 1 := rfl
  have hm1 : lmZ 1 = 0 := rfl
  have hm2 : lmZ 2 = 0 := rfl
  have hm3 : lmZ 3 = 0 := rfl
  have hm4 : lmZ 4 = 0 := rfl
  have hm5 : mmZ T 0 = 5 := rfl
  have hm6 : mmZ T 1 = T 12 0 0 0 - 1 := rfl
  have hm7 : mmZ T 2 = 5 := rfl
  have hm8 : mmZ T 3 = 7 := rfl
  have hm9 : mmZ T 4 = 1 := rfl
  refine lv_iload_n hx hb dL_refuses_0 rfl (lv_at hl 2 rfl) ?_
  refine lv_iconst (v := iI 2) hx hb dL_refuses_1 (by decide) ?_
  refine y_rem hx hb (a := xx) (b := 2) (by omega) (by omega) dL_refuses_2 ?_
  refine lv_if_ne (tgt := 10) hx hb dL_refuses_3 (by decide) (fun c_1 => ?_) (fun c_1 => ?_)
  · have zc_1 : (xx % 2) ≠ 0 := jne (a := (xx % 2)) (b := 0) (by omega) (by omega) c_1
    refine lv_iconst (v := iI 0) hx hb dL_refuses_10 (by decide) ?_
    refine lv_istore_n (lv' := [(3, .int (iI 0)), (0, .ref qa), (1, .ref na), (2, .int (iI xx))]) hx hb dL_refuses_11 rfl hl (by decide) rfl (fun ls hl => ?_)
    refine lv_iload_n hx hb dL_refuses_12 rfl (lv_at hl 0 rfl) ?_
    refine lv_if_eq (tgt := 25) hx hb dL_refuses_13 (by decide) (fun _ => ?_) (fun c9 => absurd (by decide) c9)
    refine lv_iconst (v := iI 2) hx hb dL_refuses_25 (by decide) ?_
    refine lv_iload_n hx hb dL_refuses_26 rfl (lv_at hl 3 rfl) ?_
    refine lv_bipush (v := iI 50) hx hb dL_refuses_27 (by decide) ?_
    refine y_rem hx hb (a := xx) (b := 50) (by omega) (by omega) dL_refuses_29 ?_
    refine y_add hx hb dL_refuses_30 ?_
    refine lv_istore (lv' := [(4, .int (iI (2 + (xx % 50)))), (3, .int (iI 0)), (0, .ref qa), (1, .ref na), (2, .int (iI xx))]) hx hb dL_refuses_31 hl (by decide) rfl (fun ls hl => ?_)
    refine lv_iload_n hx hb dL_refuses_33 rfl (lv_at hl 1 rfl) ?_
    refine lv_if_eq (tgt := 46) hx hb dL_refuses_34 (by decide) (fun _ => ?_) (fun c9 => absurd (by decide) c9)
    refine lv_aload_n hx hb dL_refuses_46 rfl (lv_at hl 3 rfl) ?_
    refine lv_iconst (v := iI 0) hx hb dL_refuses_47 (by decide) ?_
    refine x_iald' (f := nf) (z := 0) B 0 rfl (by omega) dL_refuses_48 ?_
    refine lv_seti (y := iI (T 0 0 0 0)) (congrArg iI (show nf 0 = T 0 0 0 0 from hn9.1)) ?_
    refine lv_iload_n hx hb dL_refuses_49 rfl (lv_at hl 4 rfl) ?_
    refine lv_bipush (v := iI 50) hx hb dL_refuses_50 (by decide) ?_
    refine y_rem hx hb (a := xx) (b := 50) (by omega) (by omega) dL_refuses_52 ?_
    refine y_add hx hb dL_refuses_53 ?_
    refine lv_istore (lv' := [(5, .int (iI ((T 0 0 0 0) + (xx % 50)))), (4, .int (iI (2 + (xx % 50)))), (3, .int (iI 0)), (0, .ref qa), (1, .ref na), (2, .int (iI xx))]) hx hb dL_refuses_54 hl (by decide) rfl (fun ls hl => ?_)
    refine lv_iload_n hx hb dL_refuses_56 rfl (lv_at hl 2 rfl) ?_
    refine lv_if_eq (tgt := 69) hx hb dL_refuses_57 (by decide) (fun _ => ?_) (fun c9 => absurd (by decide) c9)
    refine lv_aload_n hx hb dL_refuses_69 rfl (lv_at hl 4 rfl) ?_
    refine lv_iconst (v := iI 2) hx hb dL_refuses_70 (by decide) ?_
    refine x_iald' (f := nf) (z := 2) B 0 rfl (by omega) dL_refuses_71 ?_
    refine lv_seti (y := iI (T 12 0 0 0)) (congrArg iI (show nf 2 = T 12 0 0 0 from hn9.2.2.1)) ?_
    refine lv_iload_n hx hb dL_refuses_72 rfl (lv_at hl 5 rfl) ?_
    refine lv_bipush (v := iI 50) hx hb dL_refuses_73 (by decide) ?_
    refine y_rem hx hb (a := xx) (b := 50) (by omega) (by omega) dL_refuses_75 ?_
    refine y_add hx hb dL_refuses_76 ?_
    refine lv_istore (lv' := [(6, .int (iI ((T 12 0 0 0) + (xx % 50)))), (5, .int (iI ((T 0 0 0 0) + (xx % 50)))), (4, .int (iI (2 + (xx % 50)))), (3, .int (iI 0)), (0, .ref qa), (1, .ref na), (2, .int (iI xx))]) hx hb dL_refuses_77 hl (by decide) rfl (fun ls hl => ?_)
    refine lv_aload_n hx hb dL_refuses_79 rfl (lv_at hl 4 rfl) ?_
    refine lv_iload_n hx hb dL_refuses_80 rfl (lv_at hl 3 rfl) ?_
    refine lv_if_eq (tgt := 90) hx hb dL_refuses_81 (by decide) (fun _ => ?_) (fun c9 => absurd (by decide) c9)
    refine lv_iconst (v := iI 4) hx hb dL_refuses_90 (by decide) ?_
    refine lv_iload_n hx hb dL_refuses_91 rfl (lv_at hl 6 rfl) ?_
    refine y_add hx hb dL_refuses_92 ?_
    have B := bd_swap (a := []) (b := [(na, .inl (k 0, 4, .inl (fun i9 : Nat => iI (nf i9))))]) (d := tl) (bd_to rfl B)
    refine k_W (rest := []) (wc := ([] ++ tl)) (wr := [(na, .inl (k 0, 4, .inl (fun i9 : Nat => iI (nf i9))))]) (w_spells l dC dI k hl0 T K qa cp tl (4 + xx) hPS hQ (by omega)) B mW_L_spells mw_498 hl ⟨Nat.le_of_ble_eq_true rfl, Nat.le_of_ble_eq_true rfl⟩ (Nat.le_of_ble_eq_true rfl) rfl dL_refuses_93 ⟨by dsimp only; omega, by dsimp only; omega⟩ (fun r w gc gs H locs hp B => ?_)
    rcases hp with ⟨tl2_2, z_3, z_4, rfl, hw9, rfl, rfl⟩ | ⟨tl2_5, z_6, z_7, rfl, hw9, rfl, rfl⟩ | ⟨tl2_8, z_9, z_10, rfl, hw9, rfl, rfl⟩
    · skip
      rw [hw9] at B; clear hw9
      have B := bd_to (ws' := ([(na, .inl (k 0, 4, .inl (fun i9 : Nat => iI (nf i9))))] ++ tl2_2)) rfl B
      have hPS : PS dI k T (KKn (K 0 0 + 1) (uz (K 1) (K 0 0) (4 + xx)) (K 2)) qa cp tl2_2 := z_3
      exfalso; omega
    · skip
      rw [hw9] at B; clear hw9
      have B := bd_to (ws' := ([(na, .inl (k 0, 4, .inl (fun i9 : Nat => iI (nf i9))))] ++ tl2_5)) rfl B
      have hPS : PS dI k T K qa cp tl2_5 := z_6
      refine W.widen (k := ((cp - cp) + 1)) (n := ((12 * (cp - cp)) + 6)) (by omega) (by omega) ?_
      refine lv_ldc (v := (-2000000001)) hx hb B.1.2.2.2.1 (B.1.2.2.2.2.1 _ mw_593) dL_refuses_96 ?_
      refine lv_seti (y := iI (-2000000001)) (by decide) ?_
      refine lv_icmp_ne (tgt := 634) hx hb dL_refuses_98 (by decide) (fun c9 => absurd c9 (by decide)) (fun _ => ?_)
      refine k_joinG (σ := Nat × va_W) B 121 (fun g9 : Nat × va_W => (PS dI k T K qa g9.1 g9.2) ∧ (cp ≤ g9.1 ∧ g9.1 ≤ 131072)) (fun g9 : Nat × va_W => [(6, .int (iI ((T 12 0 0 0) + (xx % 50)))), (5, .int (iI ((T 0 0 0 0) + (xx % 50)))), (4, .int (iI (2 + (xx % 50)))), (3, .int (iI 0)), (0, .ref qa), (1, .ref na), (2, .int (iI xx))]) (fun g9 : Nat × va_W => ([(na, .inl (k 0, 4, .inl (fun i9 : Nat => iI (nf i9))))] ++ g9.2)) (fun g9 : Nat × va_W => ((g9.1 - cp) + 2)) (fun g9 : Nat × va_W => ((12 * (g9.1 - cp)) + 12)) (fun g9 : Nat × va_W => []) ?_ (fun J_11 => ?_)
      · clear hl B
        rintro ⟨cpA, tlA⟩ ⟨hPS, hcA⟩ ls H locs hl B
        have hPS : PS dI k T K qa cpA tlA := hPS
        have hcA : cp ≤ cpA ∧ cpA ≤ 131072 := hcA
        show W p l e _ s m args below meth c H locs (((cpA - cp) + 2)) (((12 * (cpA - cp)) + 12)) _ _
        have hl : lv_has ls 11 [(6, .int (iI ((T 12 0 0 0) + (xx % 50)))), (5, .int (iI ((T 0 0 0 0) + (xx % 50)))), (4, .int (iI (2 + (xx % 50)))), (3, .int (iI 0)), (0, .ref qa), (1, .ref na), (2, .int (iI xx))] := hl
        have B := bd_to (ws' := ([(na, .inl (k 0, 4, .inl (fun i9 : Nat => iI (nf i9))))] ++ tlA)) rfl B
        refine lv_aload_n hx hb dL_refuses_121 rfl (lv_at hl 4 rfl) ?_
        refine lv_iload_n hx hb dL_refuses_122 rfl (lv_at hl 3 rfl) ?_
        refine lv_if_eq (tgt := 132) hx hb dL_refuses_123 (by decide) (fun _ => ?_) (fun c9 => absurd (by decide) c9)
        refine lv_iconst (v := iI 5) hx hb dL_refuses_132 (by decide) ?_
        refine lv_iload_n hx hb dL_refuses_133 rfl (lv_at hl 6 rfl) ?_
        refine y_add hx hb dL_refuses_134 ?_
        refine lv_iconst (v := iI 0) hx hb dL_refuses_135 (by decide) ?_
        have B := bd_swap (a := []) (b := [(na, .inl (k 0, 4, .inl (fun i9 : Nat => iI (nf i9))))]) (d := tlA) (bd_to rfl B)
        refine k_W (rest := []) (wc := ([] ++ tlA)) (wr := [(na, .inl (k 0, 4, .inl (fun i9 : Nat => iI (nf i9))))]) (w_marks l dC dI k hl0 T K qa cpA tlA (5 + xx) 0 hPS hQ (by omega) (by omega)) B mW_L_marks mw_595 hl ⟨Nat.le_of_ble_eq_true rfl, Nat.le_of_ble_eq_true rfl⟩ (Nat.le_of_ble_eq_true rfl) rfl dL_refuses_136 ⟨by dsimp only; omega, by dsimp only; omega⟩ (fun r w gc gs H locs hp B => ?_)
        rcases hp with ⟨tl2_12, z_13, z_14, rfl, hw9, rfl, rfl⟩ | ⟨tl2_15, z_16, z_17, rfl, hw9, rfl, rfl⟩ | ⟨tl2_18, z_19, z_20, rfl, hw9, rfl, rfl⟩
        · skip
          rw [hw9] at B; clear hw9
          have B := bd_to (ws' := ([(na, .inl (k 0, 4, .inl (fun i9 : Nat => iI (nf i9))))] ++ tl2_12)) rfl B
          have hPS : PS dI k T (KKn (K 0 0) (K 1) (uz (K 2) (5 + xx) 0)) qa cpA tl2_12 := z_13
          exfalso; omega
        · skip
          rw [hw9] at B; clear hw9
          have B := bd_to (ws' := ([(na, .inl (k 0, 4, .inl (fun i9 : Nat => iI (nf i9))))] ++ tl2_15)) rfl B
          have hPS : PS dI k T K qa cpA tl2_15 := z_16
          refine W.widen (k := ((cpA - cp) + 3)) (n := ((12 * (cpA - cp)) + 18)) (by omega) (by omega) ?_
          refine lv_ldc (v := (-2000000001)) hx hb B.1.2.2.2.1 (B.1.2.2.2.2.1 _ mw_593) dL_refuses_139 ?_
          refine lv_seti (y := iI (-2000000001)) (by decide) ?_
          refine lv_icmp_ne (tgt := 634) hx hb dL_refuses_141 (by decide) (fun c9 => absurd c9 (by decide)) (fun _ => ?_)
          exact w_refuses_c144_1 l dC dI k hl0 T K qa cp tl na nf xx cpA tl2_15 (by omega) hPS hQ hx9 hn9 (by omega)  (bd_to rfl B) hr hl
        · skip
          rw [hw9] at B; clear hw9
          have B := bd_to (ws' := ([(na, .inl (k 0, 4, .inl (fun i9 : Nat => iI (nf i9))))] ++ tl2_18)) rfl B
          have hPS : PS dI k T K qa cpA tl2_18 := z_19
          exfalso; omega
      refine lv_aload_n hx hb dL_refuses_101 rfl (lv_at hl 5 rfl) ?_
      refine lv_iconst (v := iI 1) hx hb dL_refuses_102 (by decide) ?_
      refine x_iald' (f := nf) (z := 1) B 0 rfl (by omega) dL_refuses_103 ?_
      refine lv_seti (y := iI (K 0 0)) (congrArg iI (show nf 1 = K 0 0 from hn9.2.1)) ?_
      refine lv_bipush (v := iI 6) hx hb dL_refuses_104 (by decide) ?_
      refine lv_icmp_lt (tgt := 121) hx hb dL_refuses_106 (by decide) (fun c_785 => ?_) (fun c_785 => ?_)
      · have zc_785 : (K 0 0) < 6 := jlt (a := (K 0 0)) (b := 6) (by omega) (by omega) c_785
        refine W.widen (k := ((cp - cp) + 2)) (n := ((12 * (cp - cp)) + 12)) (by omega) (by omega) ?_
        exact J_11 (cp, tl2_5) ⟨(show PS dI k T K qa cp tl2_5 from hPS), (show cp ≤ cp ∧ cp ≤ 131072 from (by omega))⟩ _ _ _ (lv_sub hl [0, 1, 2, 3, 4, 5, 6] rfl) (bd_to rfl B)
      · have zc_785 : 6 ≤ (K 0 0) := jnlt (a := (K 0 0)) (b := 6) (by omega) (by omega) c_785
        refine lv_aload_n hx hb dL_refuses_109 rfl (lv_at hl 4 rfl) ?_
        refine lv_iload_n hx hb dL_refuses_110 rfl (lv_at hl 6 rfl) ?_
        refine lv_iconst (v := iI 4) hx hb dL_refuses_111 (by decide) ?_
        refine y_rem hx hb (a := xx) (b := 4) (by omega) (by omega) dL_refuses_112 ?_
        have B := bd_swap (a := []) (b := [(na, .inl (k 0, 4, .inl (fun i9 : Nat => iI (nf i9))))]) (d := tl2_5) (bd_to rfl B)
        refine k_W (rest := []) (wc := ([] ++ tl2_5)) (wr := [(na, .inl (k 0, 4, .inl (fun i9 : Nat => iI (nf i9))))]) (w_spells l dC dI k hl0 T K qa cp tl2_5 (xx % 4) z_6 hQ (by omega)) B mW_L_spells mw_498 hl ⟨Nat.le_of_ble_eq_true rfl, Nat.le_of_ble_eq_true rfl⟩ (Nat.le_of_ble_eq_true rfl) rfl dL_refuses_113 ⟨by dsimp only; omega, by dsimp only; omega⟩ (fun r w gc gs H locs hp B => ?_)
        rcases hp with ⟨tl2_786, z_787, z_788, rfl, hw9, rfl, rfl⟩ | ⟨tl2_789, z_790, z_791, rfl, hw9, rfl, rfl⟩ | ⟨tl2_792, z_793, z_794, rfl, hw9, rfl, rfl⟩
        · skip
          rw [hw9] at B; clear hw9
          have B := bd_to (ws' := ([(na, .inl (k 0, 4, .inl (fun i9 : Nat => iI (nf i9))))] ++ tl2_786)) rfl B
          have hPS : PS dI k T (KKn (K 0 0 + 1) (uz (K 1) (K 0 0) (xx % 4)) (K 2)) qa cp tl2_786 := z_787
          exfalso; omega
        · skip
          rw [hw9] at B; clear hw9
          have B := bd_to (ws' := ([(na, .inl (k 0, 4, .inl (fun i9 : Nat => iI (nf i9))))] ++ tl2_789)) rfl B
          have hPS : PS dI k T K qa cp tl2_789 := z_790
          exfalso; omega
        · skip
          rw [hw9] at B; clear hw9
          have B := bd_to (ws' := ([(na, .inl (k 0, 4, .inl (fun i9 : Nat => iI (nf i9))))] ++ tl2_792)) rfl B
          have hPS : PS dI k T K qa cp tl2_792 := z_793
          refine W.widen (k := ((cp - cp) + 2)) (n := ((12 * (cp - cp)) + 12)) (by omega) (by omega) ?_
          refine lv_ldc (v := (-2000000003)) hx hb B.1.2.2.2.1 (B.1.2.2.2.2.1 _ mw_594) dL_refuses_116 ?_
          refine lv_seti (y := iI (-2000000003)) (by decide) ?_
          refine lv_icmp_ne (tgt := 634) hx hb dL_refuses_118 (by decide) (fun c9 => absurd c9 (by decide)) (fun _ => ?_)
          refine W.widen (k := ((cp - cp) + 2)) (n := ((12 * (cp - cp)) + 12)) (by omega) (by omega) ?_
          exact J_11 (cp, tl2_792) ⟨(show PS dI k T K qa cp tl2_792 from hPS), (show cp ≤ cp ∧ cp ≤ 131072 from (by omega))⟩ _ _ _ (lv_sub hl [0, 1, 2, 3, 4, 5, 6] rfl) (bd_to rfl B)
    · skip
      rw [hw9] at B; clear hw9
      have B := bd_to (ws' := ([(na, .inl (k 0, 4, .inl (fun i9 : Nat => iI (nf i9))))] ++ tl2_8)) rfl B
      have hPS : PS dI k T K qa cp tl2_8 := z_9
      exfalso; omega
  · have zc_1 : (xx % 2) = 0 := jeq (a := (xx % 2)) (b := 0) (by omega) (by omega) c_1
    refine lv_iconst (v := iI 1) hx hb dL_refuses_6 (by decide) ?_
    refine lv_goto (tgt := 11) hx hb dL_refuses_7 (by decide) ?_
    refine lv_istore_n (lv' := [(3, .int (iI 1)), (0, .ref qa), (1, .ref na), (2, .int (iI xx))]) hx hb dL_refuses_11 rfl hl (by decide) rfl (fun ls hl => ?_)
    refine lv_iload_n hx hb dL_refuses_12 rfl (lv_at hl 0 rfl) ?_
    refine lv_if_eq (tgt := 25) hx hb dL_refuses_13 (by decide) (fun c9 => absurd c9 (by decide)) (fun _ => ?_)
    refine lv_iconst (v := iI (-1)) hx hb dL_refuses_16 (by decide) ?_
    refine lv_iload_n hx hb dL_refuses_17 rfl (lv_at hl 3 rfl) ?_
    refine lv_bipush (v := iI 50) hx hb dL_refuses_18 (by decide) ?_
    refine y_rem hx hb (a := xx) (b := 50) (by omega) (by omega) dL_refuses_20 ?_
    refine y_sub hx hb dL_refuses_21 ?_
    refine lv_goto (tgt := 31) hx hb dL_refuses_22 (by decide) ?_
    refine lv_istore (lv' := [(4, .int (iI ((-1) - (xx % 50)))), (3, .int (iI 1)), (0, .ref qa), (1, .ref na), (2, .int (iI xx))]) hx hb dL_refuses_31 hl (by decide) rfl (fun ls hl => ?_)
    refine lv_iload_n hx hb dL_refuses_33 rfl (lv_at hl 1 rfl) ?_
    refine lv_if_eq (tgt := 46) hx hb dL_refuses_34 (by decide) (fun c9 => absurd c9 (by decide)) (fun _ => ?_)
    refine lv_iconst (v := iI (-1)) hx hb dL_refuses_37 (by decide) ?_
    refine lv_iload_n hx hb dL_refuses_38 rfl (lv_at hl 4 rfl) ?_
    refine lv_bipush (v := iI 50) hx hb dL_refuses_39 (by decide) ?_
    refine y_rem hx hb (a := xx) (b := 50) (by omega) (by omega) dL_refuses_41 ?_
    refine y_sub hx hb dL_refuses_42 ?_
    refine lv_goto (tgt := 54) hx hb dL_refuses_43 (by decide) ?_
    refine lv_istore (lv' := [(5, .int (iI ((-1) - (xx % 50)))), (4, .int (iI ((-1) - (xx % 50)))), (3, .int (iI 1)), (0, .ref qa), (1, .ref na), (2, .int (iI xx))]) hx hb dL_refuses_54 hl (by decide) rfl (fun ls hl => ?_)
    refine lv_iload_n hx hb dL_refuses_56 rfl (lv_at hl 2 rfl) ?_
    refine lv_if_eq (tgt := 69) hx hb dL_refuses_57 (by decide) (fun c9 => absurd c9 (by decide)) (fun _ => ?_)
    refine lv_iconst (v := iI (-1)) hx hb dL_refuses_60 (by decide) ?_
    refine lv_iload_n hx hb dL_refuses_61 rfl (lv_at hl 5 rfl) ?_
    refine lv_bipush (v := iI 50) hx hb dL_refuses_62 (by decide) ?_
    refine y_rem hx hb (a := xx) (b := 50) (by omega) (by omega) dL_refuses_64 ?_
    refine y_sub hx hb dL_refuses_65 ?_
    refine lv_goto (tgt := 77) hx hb dL_refuses_66 (by decide) ?_
    refine lv_istore (lv' := [(6, .int (iI ((-1) - (xx % 50)))), (5, .int (iI ((-1) - (xx % 50)))), (4, .int (iI ((-1) - (xx % 50)))), (3, .int (iI 1)), (0, .ref qa), (1, .ref na), (2, .int (iI xx))]) hx hb dL_refuses_77 hl (by decide) rfl (fun ls hl => ?_)
    refine lv_aload_n hx hb dL_refuses_79 rfl (lv_at hl 4 rfl) ?_
    refine lv_iload_n hx hb dL_refuses_80 rfl (lv_at hl 3 rfl) ?_
    refine lv_if_eq (tgt := 90) hx hb dL_refuses_81 (by decide) (fun c9 => absurd c9 (by decide)) (fun _ => ?_)
    refine lv_iconst (v := iI (-1)) hx hb dL_refuses_84 (by decide) ?_
    refine lv_iload_n hx hb dL_refuses_85 rfl (lv_at hl 6 rfl) ?_
    refine y_sub hx hb dL_refuses_86 ?_
    refine lv_goto (tgt := 93) hx hb dL_refuses_87 (by decide) ?_
    have B := bd_swap (a := []) (b := [(na, .inl (k 0, 4, .inl (fun i9 : Nat => iI (nf i9))))]) (d := tl) (bd_to rfl B)
    refine k_W (rest := []) (wc := ([] ++ tl)) (wr := [(na, .inl (k 0, 4, .inl (fun i9 : Nat => iI (nf i9))))]) (w_spells l dC dI k hl0 T K qa cp tl ((-1) - xx) hPS hQ (by omega)) B mW_L_spells mw_498 hl ⟨Nat.le_of_ble_eq_true rfl, Nat.le_of_ble_eq_true rfl⟩ (Nat.le_of_ble_eq_true rfl) rfl dL_refuses_93 ⟨by dsimp only; omega, by dsimp only; omega⟩ (fun r w gc gs H locs hp B => ?_)
    rcases hp with ⟨tl2_795, z_796, z_797, rfl, hw9, rfl, rfl⟩ | ⟨tl2_798, z_799, z_800, rfl, hw9, rfl, rfl⟩ | ⟨tl2_801, z_802, z_803, rfl, hw9, rfl, rfl⟩
    · skip
      rw [hw9] at B; clear hw9
      have B := bd_to (ws' := ([(na, .inl (k 0, 4, .inl (fun i9 : Nat => iI (nf i9))))] ++ tl2_795)) rfl B
      have hPS : PS dI k T (KKn (K 0 0 + 1) (uz (K 1) (K 0 0) ((-1) - xx)) (K 2)) qa cp tl2_795 := z_796
      exfalso; omega
    · skip
      rw [hw9] at B; clear hw9
      have B := bd_to (ws' := ([(na, .inl (k 0, 4, .inl (fun i9 : Nat => iI (nf i9))))] ++ tl2_798)) rfl B
      have hPS : PS dI k T K qa cp tl2_798 := z_799
      refine W.widen (k := ((cp - cp) + 1)) (n := ((12 * (cp - cp)) + 6)) (by omega) (by omega) ?_
      refine lv_ldc (v := (-2000000001)) hx hb B.1.2.2.2.1 (B.1.2.2.2.2.1 _ mw_593) dL_refuses_96 ?_
      refine lv_seti (y := iI (-2000000001)) (by decide) ?_
      refine lv_icmp_ne (tgt := 634) hx hb dL_refuses_98 (by decide) (fun c9 => absurd c9 (by decide)) (fun _ => ?_)
      refine k_joinG (σ := Nat × va_W) B 121 (fun g9 : Nat × va_W => (PS dI k T K qa g9.1 g9.2) ∧ (cp ≤ g9.1 ∧ g9.1 ≤ 131072)) (fun g9 : Nat × va_W => [(6, .int (iI ((-1) - (xx % 50)))), (5, .int (iI ((-1) - (xx % 50)))), (4, .int (iI ((-1) - (xx % 50)))), (3, .int (iI 1)), (0, .ref qa), (1, .ref na), (2, .int (iI xx))]) (fun g9 : Nat × va_W => ([(na, .inl (k 0, 4, .inl (fun i9 : Nat => iI (nf i9))))] ++ g9.2)) (fun g9 : Nat × va_W => ((g9.1 - cp) + 2)) (fun g9 : Nat × va_W => ((12 * (g9.1 - cp)) + 12)) (fun g9 : Nat × va_W => []) ?_ (fun J_804 => ?_)
      · clear hl B
        rintro ⟨cpA, tlA⟩ ⟨hPS, hcA⟩ ls H locs hl B
        have hPS : PS dI k T K qa cpA tlA := hPS
        have hcA : cp ≤ cpA ∧ cpA ≤ 131072 := hcA
        show W p l e _ s m args below meth c H locs (((cpA - cp) + 2)) (((12 * (cpA - cp)) + 12)) _ _
        have hl : lv_has ls 11 [(6, .int (iI ((-1) - (xx % 50)))), (5, .int (iI ((-1) - (xx % 50)))), (4, .int (iI ((-1) - (xx % 50)))), (3, .int (iI 1)), (0, .ref qa), (1, .ref na), (2, .int (iI xx))] := hl
        have B := bd_to (ws' := ([(na, .inl (k 0, 4, .inl (fun i9 : Nat => iI (nf i9))))] ++ tlA)) rfl B
        refine lv_aload_n hx hb dL_refuses_121 rfl (lv_at hl 4 rfl) ?_
        refine lv_iload_n hx hb dL_refuses_122 rfl (lv_at hl 3 rfl) ?_
        refine lv_if_eq (tgt := 132) hx hb dL_refuses_123 (by decide) (fun c9 => absurd c9 (by decide)) (fun _ => ?_)
        refine lv_iconst (v := iI (-1)) hx hb dL_refuses_126 (by decide) ?_
        refine lv_iload_n hx hb dL_refuses_127 rfl (lv_at hl 6 rfl) ?_
        refine y_sub hx hb dL_refuses_128 ?_
        refine lv_goto (tgt := 135) hx hb dL_refuses_129 (by decide) ?_
        refine lv_iconst (v := iI 0) hx hb dL_refuses_135 (by decide) ?_
        have B := bd_swap (a := []) (b := [(na, .inl (k 0, 4, .inl (fun i9 : Nat => iI (nf i9))))]) (d := tlA) (bd_to rfl B)
        refine k_W (rest := []) (wc := ([] ++ tlA)) (wr := [(na, .inl (k 0, 4, .inl (fun i9 : Nat => iI (nf i9))))]) (w_marks l dC dI k hl0 T K qa cpA tlA ((-1) - xx) 0 hPS hQ (by omega) (by omega)) B mW_L_marks mw_595 hl ⟨Nat.le_of_ble_eq_true rfl, Nat.le_of_ble_eq_true rfl⟩ (Nat.le_of_ble_eq_true rfl) rfl dL_refuses_136 ⟨by dsimp only; omega, by dsimp only; omega⟩ (fun r w gc gs H locs hp B => ?_)
        rcases hp with ⟨tl2_805, z_806, z_807, rfl, hw9, rfl, rfl⟩ | ⟨tl2_808, z_809, z_810, rfl, hw9, rfl, rfl⟩ | ⟨tl2_811, z_812, z_813, rfl, hw9, rfl, rfl⟩
        · skip
          rw [hw9] at B; clear hw9
          have B := bd_to (ws' := ([(na, .inl (k 0, 4, .inl (fun i9 : Nat => iI (nf i9))))] ++ tl2_805)) rfl B
          have hPS : PS dI k T (KKn (K 0 0) (K 1) (uz (K 2) ((-1) - xx) 0)) qa cpA tl2_805 := z_806
          exfalso; omega
        · skip
          rw [hw9] at B; clear hw9
          have B := bd_to (ws' := ([(na, .inl (k 0, 4, .inl (fun i9 : Nat => iI (nf i9))))] ++ tl2_808)) rfl B
          have hPS : PS dI k T K qa cpA tl2_808 := z_809
          refine W.widen (k := ((cpA - cp) + 3)) (n := ((12 * (cpA - cp)) + 18)) (by omega) (by omega) ?_
          refine lv_ldc (v := (-2000000001)) hx hb B.1.2.2.2.1 (B.1.2.2.2.2.1 _ mw_593) dL_refuses_139 ?_
          refine lv_seti (y := iI (-2000000001)) (by decide) ?_
          refine lv_icmp_ne (tgt := 634) hx hb dL_refuses_141 (by decide) (fun c9 => absurd c9 (by decide)) (fun _ => ?_)
          exact w_refuses_c144_15 l dC dI k hl0 T K qa cp tl na nf xx cpA tl2_808 (by omega) hPS hQ hx9 hn9 (by omega)  (bd_to rfl B) hr hl
        · skip
          rw [hw9] at B; clear hw9
          have B := bd_to (ws' := ([(na, .inl (k 0, 4, .inl (fun i9 : Nat => iI (nf i9))))] ++ tl2_811)) rfl B
          have hPS : PS dI k T K qa cpA tl2_811 := z_812
          exfalso; omega
      refine lv_aload_n hx hb dL_refuses_101 rfl (lv_at hl 5 rfl) ?_
      refine lv_iconst (v := iI 1) hx hb dL_refuses_102 (by decide) ?_
      refine x_iald' (f := nf) (z := 1) B 0 rfl (by omega) dL_refuses_103 ?_
      refine lv_seti (y := iI (K 0 0)) (congrArg iI (show nf 1 = K 0 0 from hn9.2.1)) ?_
      refine lv_bipush (v := iI 6) hx hb dL_refuses_104 (by decide) ?_
      refine lv_icmp_lt (tgt := 121) hx hb dL_refuses_106 (by decide) (fun c_1567 => ?_) (fun c_1567 => ?_)
      · have zc_1567 : (K 0 0) < 6 := jlt (a := (K 0 0)) (b := 6) (by omega) (by omega) c_1567
        refine W.widen (k := ((cp - cp) + 2)) (n := ((12 * (cp - cp)) + 12)) (by omega) (by omega) ?_
        exact J_804 (cp, tl2_798) ⟨(show PS dI k T K qa cp tl2_798 from hPS), (show cp ≤ cp ∧ cp ≤ 131072 from (by omega))⟩ _ _ _ (lv_sub hl [0, 1, 2, 3, 4, 5, 6] rfl) (bd_to rfl B)
      · have zc_1567 : 6 ≤ (K 0 0) := jnlt (a := (K 0 0)) (b := 6) (by omega) (by omega) c_1567
        refine lv_aload_n hx hb dL_refuses_109 rfl (lv_at hl 4 rfl) ?_
        refine lv_iload_n hx hb dL_refuses_110 rfl (lv_at hl 6 rfl) ?_
        refine lv_iconst (v := iI 4) hx hb dL_refuses_111 (by decide) ?_
        refine y_rem hx hb (a := xx) (b := 4) (by omega) (by omega) dL_refuses_112 ?_
        have B := bd_swap (a := []) (b := [(na, .inl (k 0, 4, .inl (fun i9 : Nat => iI (nf i9))))]) (d := tl2_798) (bd_to rfl B)
        refine k_W (rest := []) (wc := ([] ++ tl2_798)) (wr := [(na, .inl (k 0, 4, .inl (fun i9 : Nat => iI (nf i9))))]) (w_spells l dC dI k hl0 T K qa cp tl2_798 (xx % 4) z_799 hQ (by omega)) B mW_L_spells mw_498 hl ⟨Nat.le_of_ble_eq_true rfl, Nat.le_of_ble_eq_true rfl⟩ (Nat.le_of_ble_eq_true rfl) rfl dL_refuses_113 ⟨by dsimp only; omega, by dsimp only; omega⟩ (fun r w gc gs H locs hp B => ?_)
        rcases hp with ⟨tl2_1568, z_1569, z_1570, rfl, hw9, rfl, rfl⟩ | ⟨tl2_1571, z_1572, z_1573, rfl, hw9, rfl, rfl⟩ | ⟨tl2_1574, z_1575, z_1576, rfl, hw9, rfl, rfl⟩
        · skip
          rw [hw9] at B; clear hw9
          have B := bd_to (ws' := ([(na, .inl (k 0, 4, .inl (fun i9 : Nat => iI (nf i9))))] ++ tl2_1568)) rfl B
          have hPS : PS dI k T (KKn (K 0 0 + 1) (uz (K 1) (K 0 0) (xx % 4)) (K 2)) qa cp tl2_1568 := z_1569
          exfalso; omega
        · skip
          rw [hw9] at B; clear hw9
          have B := bd_to (ws' := ([(na, .inl (k 0, 4, .inl (fun i9 : Nat => iI (nf i9))))] ++ tl2_1571)) rfl B
          have hPS : PS dI k T K qa cp tl2_1571 := z_1572
          exfalso; omega
        · skip
          rw [hw9] at B; clear hw9
          have B := bd_to (ws' := ([(na, .inl (k 0, 4, .inl (fun i9 : Nat => iI (nf i9))))] ++ tl2_1574)) rfl B
          have hPS : PS dI k T K qa cp tl2_1574 := z_1575
          refine W.widen (k := ((cp - cp) + 2)) (n := ((12 * (cp - cp)) + 12)) (by omega) (by omega) ?_
          refine lv_ldc (v := (-2000000003)) hx hb B.1.2.2.2.1 (B.1.2.2.2.2.1 _ mw_594) dL_refuses_116 ?_
          refine lv_seti (y := iI (-2000000003)) (by decide) ?_
          refine lv_icmp_ne (tgt := 634) hx hb dL_refuses_118 (by decide) (fun c9 => absurd c9 (by decide)) (fun _ => ?_)
          refine W.widen (k := ((cp - cp) + 2)) (n := ((12 * (cp - cp)) + 12)) (by omega) (by omega) ?_
          exact J_804 (cp, tl2_1574) ⟨(show PS dI k T K qa cp tl2_1574 from hPS), (show cp ≤ cp ∧ cp ≤ 131072 from (by omega))⟩ _ _ _ (lv_sub hl [0, 1, 2, 3, 4, 5, 6] rfl) (bd_to rfl B)
    · skip
      rw [hw9] at B; clear hw9
      have B := bd_to (ws' := ([(na, .inl (k 0, 4, .inl (fun i9 : Nat => iI (nf i9))))] ++ tl2_801)) rfl B
      have hPS : PS dI k T K qa cp tl2_801 := z_802
      exfalso; omega

end
