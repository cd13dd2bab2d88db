section
/-- how much the law has grown by, but for the arrays -/
def gK (x : Int) : Nat := 200 + 800 * Int.toNat x + 14000 * Int.toNat ((x + 8) / 9)
def hK (x : Int) : Nat := 70000 + 6000 * Int.toNat x + 84000 * Int.toNat ((x + 8) / 9)
theorem gK_0 : gK 0 = 200 ∧ hK 0 = 70000 := by decide
theorem gK_bd {x : Int} (h : 0 ≤ x ∧ x ≤ 50) : (gK x ≤ 124200 ∧ hK x ≤ 874000) ∧ gK (x + 1) ≤ 125000 ∧ hK (x + 1) ≤ 880000 := by
  have h1 : Int.toNat x ≤ 50 := by omega
  have h2 : Int.toNat ((x + 8) / 9) ≤ 6 := by omega
  have h3 : Int.toNat (x + 1) ≤ 51 := by omega
  have h4 : Int.toNat ((x + 1 + 8) / 9) ≤ 6 := by omega
  unfold gK hK
  generalize Int.toNat x = a at *
  generalize Int.toNat ((x + 8) / 9) = b at *
  generalize Int.toNat (x + 1) = c at *
  generalize Int.toNat ((x + 1 + 8) / 9) = d at *
  clear h
  omega
theorem gK_s {x : Int} (h : 0 ≤ x) : (gK x + 800 ≤ gK (x + 1) ∧ hK x + 6000 ≤ hK (x + 1)) ∧ (x % 9 ≠ 0 ∨ (gK x + 14800 ≤ gK (x + 1) ∧ hK x + 90000 ≤ hK (x + 1))) := by
  have h1 : Int.toNat (x + 1) = Int.toNat x + 1 := by omega
  have h2 : Int.toNat ((x + 8) / 9) ≤ Int.toNat ((x + 1 + 8) / 9) := by omega
  have h3 : x % 9 ≠ 0 ∨ Int.toNat ((x + 1 + 8) / 9) = Int.toNat ((x + 8) / 9) + 1 := by omega
  unfold gK hK
  rw [h1]
  generalize Int.toNat x = a at *
  generalize Int.toNat ((x + 8) / 9) = b at *
  generalize Int.toNat ((x + 1 + 8) / 9) = d at *
  refine ⟨by clear h h1 h3; omega, ?_⟩
  rcases h3 with h3 | h3
  · exact Or.inl h3
  · right
    clear h h1 h2
    omega

theorem TOLD_v {T : Nat → Int → Int → Int → Int} {v : Int} (h0 : TOLD T 0) (h1 : TOLD T 1) (hv : 0 ≤ v ∧ v ≤ 1) : TOLD T v := by
  rcases (show v = 0 ∨ v = 1 by omega) with rfl | rfl
  · exact h0
  · exact h1

theorem mw_35 : (Jvm.Cond.classLink "GalleyforgeLaw" (8 : Nat) "Galleyforge") ∈ gt := gt_at 105 (by decide +kernel) (by decide +kernel)
theorem mw_36 : (Jvm.Cond.instantiable "Galleyforge" (5 : Nat)) ∈ gt := gt_at 106 (by decide +kernel) (by decide +kernel)
theorem mw_37 : (Jvm.Cond.methodLink "GalleyforgeLaw" (249 : Nat) ({ cls := "Galleyforge", name := "<init>", desc := "()V" } : Jvm.MethodName)) ∈ gt := gt_at 107 (by decide +kernel) (by decide +kernel)
theorem mw_38 : (Jvm.Cond.instanceMethod ({ cls := "Galleyforge", name := "<init>", desc := "()V" } : Jvm.MethodName)) ∈ gt := gt_at 108 (by decide +kernel) (by decide +kernel)
theorem mw_39 : (Jvm.Cond.code ({ cls := "Galleyforge", name := "<init>", desc := "()V" } : Jvm.MethodName) prog_1_method_1_code (3 : Nat) (Option.none : Option Jvm.ClassFile.FieldType)) ∈ gt := gt_at 109 (by decide +kernel) (by decide +kernel)
theorem mw_490 : (Jvm.Cond.methodLink "GalleyforgeLaw" (250 : Nat) ({ cls := "GalleyforgeLaw", name := "drawn", desc := "([II)I" } : Jvm.MethodName)) ∈ gt := gt_at 560 (by decide +kernel) (by decide +kernel)
theorem mw_495 : (Jvm.Cond.methodLink "GalleyforgeLaw" (258 : Nat) ({ cls := "GalleyforgeLaw", name := "refuses", desc := "(LGalleyforge;[II)Z" } : Jvm.MethodName)) ∈ gt := gt_at 565 (by decide +kernel) (by decide +kernel)
theorem mw_496 : (Jvm.Cond.static ({ cls := "GalleyforgeLaw", name := "refuses", desc := "(LGalleyforge;[II)Z" } : Jvm.MethodName)) ∈ gt := gt_at 566 (by decide +kernel) (by decide +kernel)
set_option maxRecDepth 100000 in
theorem mw_497 : (Jvm.Cond.code ({ cls := "GalleyforgeLaw", name := "refuses", desc := "(LGalleyforge;[II)Z" } : Jvm.MethodName) method_40_code (11 : Nat) (Option.some Jvm.ClassFile.FieldType.boolean)) ∈ gt := gt_at 567 rfl (by decide +kernel)
theorem mw_1860 : (Jvm.Cond.methodLink "GalleyforgeLaw" (254 : Nat) ({ cls := "GalleyforgeLaw", name := "act", desc := "(LGalleyforge;[II)I" } : Jvm.MethodName)) ∈ gt := gt_at 1930 (by decide +kernel) (by decide +kernel)
theorem mw_1861 : (Jvm.Cond.static ({ cls := "GalleyforgeLaw", name := "act", desc := "(LGalleyforge;[II)I" } : Jvm.MethodName)) ∈ gt := gt_at 1931 (by decide +kernel) (by decide +kernel)
theorem mw_1862 : (Jvm.Cond.code ({ cls := "GalleyforgeLaw", name := "act", desc := "(LGalleyforge;[II)I" } : Jvm.MethodName) method_41_code (5 : Nat) (Option.some Jvm.ClassFile.FieldType.int)) ∈ gt := gt_at 1932 (by decide +kernel) (by decide +kernel)
theorem mw_1867 : (Jvm.Cond.methodLink "GalleyforgeLaw" (262 : Nat) ({ cls := "GalleyforgeLaw", name := "keep", desc := "(LGalleyforge;[III)V" } : Jvm.MethodName)) ∈ gt := gt_at 1937 (by decide +kernel) (by decide +kernel)
theorem mw_1868 : (Jvm.Cond.static ({ cls := "GalleyforgeLaw", name := "keep", desc := "(LGalleyforge;[III)V" } : Jvm.MethodName)) ∈ gt := gt_at 1938 (by decide +kernel) (by decide +kernel)
theorem mw_1869 : (Jvm.Cond.code ({ cls := "GalleyforgeLaw", name := "keep", desc := "(LGalleyforge;[III)V" } : Jvm.MethodName) method_42_code (6 : Nat) (Option.none : Option Jvm.ClassFile.FieldType)) ∈ gt := gt_at 1939 (by decide +kernel) (by decide +kernel)
theorem mw_1874 : (Jvm.Cond.methodLink "GalleyforgeLaw" (266 : Nat) ({ cls := "GalleyforgeLaw", name := "alike", desc := "(LGalleyforge;LGalleyforge;I)Z" } : Jvm.MethodName)) ∈ gt := gt_at 1944 (by decide +kernel) (by decide +kernel)
theorem mw_1875 : (Jvm.Cond.static ({ cls := "GalleyforgeLaw", name := "alike", desc := "(LGalleyforge;LGalleyforge;I)Z" } : Jvm.MethodName)) ∈ gt := gt_at 1945 (by decide +kernel) (by decide +kernel)
theorem mw_1876 : (Jvm.Cond.code ({ cls := "GalleyforgeLaw", name := "alike", desc := "(LGalleyforge;LGalleyforge;I)Z" } : Jvm.MethodName) method_43_code (6 : Nat) (Option.some Jvm.ClassFile.FieldType.boolean)) ∈ gt := gt_at 1946 (by decide +kernel) (by decide +kernel)
theorem mw_1877 : (Jvm.Cond.methodLink "GalleyforgeLaw" (270 : Nat) ({ cls := "GalleyforgeLaw", name := "isLaid", desc := "(LGalleyforge;I)Z" } : Jvm.MethodName)) ∈ gt := gt_at 1947 (by decide +kernel) (by decide +kernel)
theorem mw_1878 : (Jvm.Cond.static ({ cls := "GalleyforgeLaw", name := "isLaid", desc := "(LGalleyforge;I)Z" } : Jvm.MethodName)) ∈ gt := gt_at 1948 (by decide +kernel) (by decide +kernel)
theorem mw_1879 : (Jvm.Cond.code ({ cls := "GalleyforgeLaw", name := "isLaid", desc := "(LGalleyforge;I)Z" } : Jvm.MethodName) method_44_code (11 : Nat) (Option.some Jvm.ClassFile.FieldType.boolean)) ∈ gt := gt_at 1949 (by decide +kernel) (by decide +kernel)
theorem mw_1880 : (Jvm.Cond.methodLink "GalleyforgeLaw" (274 : Nat) ({ cls := "GalleyforgeLaw", name := "isTold", desc := "(LGalleyforge;II)Z" } : Jvm.MethodName)) ∈ gt := gt_at 1950 (by decide +kernel) (by decide +kernel)
theorem mw_1881 : (Jvm.Cond.static ({ cls := "GalleyforgeLaw", name := "isTold", desc := "(LGalleyforge;II)Z" } : Jvm.MethodName)) ∈ gt := gt_at 1951 (by decide +kernel) (by decide +kernel)
theorem mw_1882 : (Jvm.Cond.code ({ cls := "GalleyforgeLaw", name := "isTold", desc := "(LGalleyforge;II)Z" } : Jvm.MethodName) method_45_code (12 : Nat) (Option.some Jvm.ClassFile.FieldType.boolean)) ∈ gt := gt_at 1952 (by decide +kernel) (by decide +kernel)
theorem mI_X11_init : mI yX11_init cX11_init 3 0 := ⟨⟨mw_39, mw_1, by decide, by decide, by decide +kernel⟩, mw_38, rfl⟩
theorem mS_L_act : mS yL_act cL_act 5 (some .int) 3 := ⟨⟨mw_1862, mw_0, by decide, by decide, by decide +kernel⟩, mw_1861⟩
theorem mS_L_alike : mS yL_alike cL_alike 6 (some .boolean) 3 := ⟨⟨mw_1876, mw_0, by decide, by decide, by decide +kernel⟩, mw_1875⟩
theorem mS_L_isLaid : mS yL_isLaid cL_isLaid 11 (some .boolean) 2 := ⟨⟨mw_1879, mw_0, by decide, by decide, by decide +kernel⟩, mw_1878⟩
theorem mS_L_isTold : mS yL_isTold cL_isTold 12 (some .boolean) 3 := ⟨⟨mw_1882, mw_0, by decide, by decide, by decide +kernel⟩, mw_1881⟩
theorem mS_L_keep : mS yL_keep cL_keep 6 none 4 := ⟨⟨mw_1869, mw_0, by decide, by decide, by decide +kernel⟩, mw_1868⟩
theorem mS_L_refuses : mS yL_refuses cL_refuses 11 (some .boolean) 3 := ⟨⟨mw_497, mw_0, by decide, by decide, by decide +kernel⟩, mw_496⟩
theorem dL_law_0 : decode cL_law 0 = .ok (.new 8, 3) := by decide +kernel
theorem dL_law_3 : decode cL_law 3 = .ok (.dup, 1) := by decide +kernel
theorem dL_law_4 : decode cL_law 4 = .ok (.invokespecial 249, 3) := by decide +kernel
theorem dL_law_7 : decode cL_law 7 = .ok (.astore_n 1, 1) := by decide +kernel
theorem dL_law_8 : decode cL_law 8 = .ok (.new 8, 3) := by decide +kernel
theorem dL_law_11 : decode cL_law 11 = .ok (.dup, 1) := by decide +kernel
theorem dL_law_12 : decode cL_law 12 = .ok (.invokespecial 249, 3) := by decide +kernel
theorem dL_law_15 : decode cL_law 15 = .ok (.astore_n 2, 1) := by decide +kernel
theorem dL_law_16 : decode cL_law 16 = .ok (.iconst 4, 1) := by decide +kernel
theorem dL_law_17 : decode cL_law 17 = .ok (.newarray .int, 2) := by decide +kernel
theorem dL_law_19 : decode cL_law 19 = .ok (.astore_n 3, 1) := by decide +kernel
theorem dL_law_20 : decode cL_law 20 = .ok (.bipush 20, 2) := by decide +kernel
theorem dL_law_22 : decode cL_law 22 = .ok (.aload_n 0, 1) := by decide +kernel
theorem dL_law_23 : decode cL_law 23 = .ok (.iconst 0, 1) := by decide +kernel
theorem dL_law_24 : decode cL_law 24 = .ok (.invokestatic 250, 3) := by decide +kernel
theorem dL_law_27 : decode cL_law 27 = .ok (.bipush 31, 2) := by decide +kernel
theorem dL_law_29 : decode cL_law 29 = .ok (.irem, 1) := by decide +kernel
theorem dL_law_30 : decode cL_law 30 = .ok (.iadd, 1) := by decide +kernel
theorem dL_law_31 : decode cL_law 31 = .ok (.istore 4, 2) := by decide +kernel
theorem dL_law_33 : decode cL_law 33 = .ok (.iconst 1, 1) := by decide +kernel
theorem dL_law_34 : decode cL_law 34 = .ok (.istore 5, 2) := by decide +kernel
theorem dL_law_36 : decode cL_law 36 = .ok (.iconst 0, 1) := by decide +kernel
theorem dL_law_37 : decode cL_law 37 = .ok (.istore 6, 2) := by decide +kernel
theorem dL_law_39 : decode cL_law 39 = .ok (.iload 6, 2) := by decide +kernel
theorem dL_law_41 : decode cL_law 41 = .ok (.iload 4, 2) := by decide +kernel
theorem dL_law_43 : decode cL_law 43 = .ok (.if_icmp .ge 189, 3) := by decide +kernel
theorem dL_law_46 : decode cL_law 46 = .ok (.iload 5, 2) := by decide +kernel
theorem dL_law_48 : decode cL_law 48 = .ok (.ifCond .eq 184, 3) := by decide +kernel
theorem dL_law_51 : decode cL_law 51 = .ok (.aload_n 0, 1) := by decide +kernel
theorem dL_law_52 : decode cL_law 52 = .ok (.iconst 1, 1) := by decide +kernel
theorem dL_law_53 : decode cL_law 53 = .ok (.iload 6, 2) := by decide +kernel
theorem dL_law_55 : decode cL_law 55 = .ok (.iadd, 1) := by decide +kernel
theorem dL_law_56 : decode cL_law 56 = .ok (.invokestatic 250, 3) := by decide +kernel
theorem dL_law_59 : decode cL_law 59 = .ok (.istore 7, 2) := by decide +kernel
theorem dL_law_61 : decode cL_law 61 = .ok (.iload 6, 2) := by decide +kernel
theorem dL_law_63 : decode cL_law 63 = .ok (.iconst 2, 1) := by decide +kernel
theorem dL_law_64 : decode cL_law 64 = .ok (.if_icmp .ge 14, 3) := by decide +kernel
theorem dL_law_67 : decode cL_law 67 = .ok (.bipush 16, 2) := by decide +kernel
theorem dL_law_69 : decode cL_law 69 = .ok (.iload 7, 2) := by decide +kernel
theorem dL_law_71 : decode cL_law 71 = .ok (.bipush 16, 2) := by decide +kernel
theorem dL_law_73 : decode cL_law 73 = .ok (.idiv, 1) := by decide +kernel
theorem dL_law_74 : decode cL_law 74 = .ok (.imul, 1) := by decide +kernel
theorem dL_law_75 : decode cL_law 75 = .ok (.goto 5, 3) := by decide +kernel
theorem dL_law_78 : decode cL_law 78 = .ok (.iload 7, 2) := by decide +kernel
theorem dL_law_80 : decode cL_law 80 = .ok (.istore 7, 2) := by decide +kernel
theorem dL_law_82 : decode cL_law 82 = .ok (.aload_n 1, 1) := by decide +kernel
theorem dL_law_83 : decode cL_law 83 = .ok (.aload_n 3, 1) := by decide +kernel
theorem dL_law_84 : decode cL_law 84 = .ok (.iload 7, 2) := by decide +kernel
theorem dL_law_86 : decode cL_law 86 = .ok (.invokestatic 254, 3) := by decide +kernel
theorem dL_law_89 : decode cL_law 89 = .ok (.istore 8, 2) := by decide +kernel
theorem dL_law_91 : decode cL_law 91 = .ok (.aload_n 2, 1) := by decide +kernel
theorem dL_law_92 : decode cL_law 92 = .ok (.aload_n 3, 1) := by decide +kernel
theorem dL_law_93 : decode cL_law 93 = .ok (.iload 7, 2) := by decide +kernel
theorem dL_law_95 : decode cL_law 95 = .ok (.sipush 9973, 3) := by decide +kernel
theorem dL_law_98 : decode cL_law 98 = .ok (.irem, 1) := by decide +kernel
theorem dL_law_99 : decode cL_law 99 = .ok (.invokestatic 258, 3) := by decide +kernel
theorem dL_law_102 : decode cL_law 102 = .ok (.ifCond .eq 19, 3) := by decide +kernel
theorem dL_law_105 : decode cL_law 105 = .ok (.aload_n 2, 1) := by decide +kernel
theorem dL_law_106 : decode cL_law 106 = .ok (.aload_n 3, 1) := by decide +kernel
theorem dL_law_107 : decode cL_law 107 = .ok (.iload 7, 2) := by decide +kernel
theorem dL_law_109 : decode cL_law 109 = .ok (.invokestatic 254, 3) := by decide +kernel
theorem dL_law_112 : decode cL_law 112 = .ok (.iload 8, 2) := by decide +kernel
theorem dL_law_114 : decode cL_law 114 = .ok (.if_icmp .ne 7, 3) := by decide +kernel
theorem dL_law_117 : decode cL_law 117 = .ok (.iconst 1, 1) := by decide +kernel
theorem dL_law_118 : decode cL_law 118 = .ok (.goto 4, 3) := by decide +kernel
theorem dL_law_122 : decode cL_law 122 = .ok (.istore 5, 2) := by decide +kernel
theorem dL_law_124 : decode cL_law 124 = .ok (.aload_n 1, 1) := by decide +kernel
theorem dL_law_125 : decode cL_law 125 = .ok (.aload_n 3, 1) := by decide +kernel
theorem dL_law_126 : decode cL_law 126 = .ok (.iload 7, 2) := by decide +kernel
theorem dL_law_128 : decode cL_law 128 = .ok (.iload 8, 2) := by decide +kernel
theorem dL_law_130 : decode cL_law 130 = .ok (.invokestatic 262, 3) := by decide +kernel
theorem dL_law_133 : decode cL_law 133 = .ok (.iload 5, 2) := by decide +kernel
theorem dL_law_135 : decode cL_law 135 = .ok (.ifCond .eq 88, 3) := by decide +kernel
theorem dL_law_138 : decode cL_law 138 = .ok (.iload 6, 2) := by decide +kernel
theorem dL_law_140 : decode cL_law 140 = .ok (.iconst 3, 1) := by decide +kernel
theorem dL_law_141 : decode cL_law 141 = .ok (.irem, 1) := by decide +kernel
theorem dL_law_142 : decode cL_law 142 = .ok (.ifCond .gt 17, 3) := by decide +kernel
theorem dL_law_145 : decode cL_law 145 = .ok (.aload_n 2, 1) := by decide +kernel
theorem dL_law_146 : decode cL_law 146 = .ok (.aload_n 3, 1) := by decide +kernel
theorem dL_law_147 : decode cL_law 147 = .ok (.iload 7, 2) := by decide +kernel
theorem dL_law_149 : decode cL_law 149 = .ok (.sipush 499, 3) := by decide +kernel
theorem dL_law_152 : decode cL_law 152 = .ok (.irem, 1) := by decide +kernel
theorem dL_law_153 : decode cL_law 153 = .ok (.invokestatic 258, 3) := by decide +kernel
theorem dL_law_156 : decode cL_law 156 = .ok (.ifCond .eq 67, 3) := by decide +kernel
theorem dL_law_159 : decode cL_law 159 = .ok (.iload 6, 2) := by decide +kernel
theorem dL_law_161 : decode cL_law 161 = .ok (.iconst 2, 1) := by decide +kernel
theorem dL_law_162 : decode cL_law 162 = .ok (.irem, 1) := by decide +kernel
theorem dL_law_163 : decode cL_law 163 = .ok (.ifCond .gt 15, 3) := by decide +kernel
theorem dL_law_166 : decode cL_law 166 = .ok (.aload_n 1, 1) := by decide +kernel
theorem dL_law_167 : decode cL_law 167 = .ok (.aload_n 2, 1) := by decide +kernel
theorem dL_law_168 : decode cL_law 168 = .ok (.iload 7, 2) := by decide +kernel
theorem dL_law_170 : decode cL_law 170 = .ok (.iconst 3, 1) := by decide +kernel
theorem dL_law_171 : decode cL_law 171 = .ok (.idiv, 1) := by decide +kernel
theorem dL_law_172 : decode cL_law 172 = .ok (.invokestatic 266, 3) := by decide +kernel
theorem dL_law_175 : decode cL_law 175 = .ok (.ifCond .eq 48, 3) := by decide +kernel
theorem dL_law_178 : decode cL_law 178 = .ok (.iload 6, 2) := by decide +kernel
theorem dL_law_180 : decode cL_law 180 = .ok (.bipush 9, 2) := by decide +kernel
theorem dL_law_182 : decode cL_law 182 = .ok (.irem, 1) := by decide +kernel
theorem dL_law_183 : decode cL_law 183 = .ok (.ifCond .gt 36, 3) := by decide +kernel
theorem dL_law_186 : decode cL_law 186 = .ok (.aload_n 2, 1) := by decide +kernel
theorem dL_law_187 : decode cL_law 187 = .ok (.iload 6, 2) := by decide +kernel
theorem dL_law_189 : decode cL_law 189 = .ok (.bipush 9, 2) := by decide +kernel
theorem dL_law_191 : decode cL_law 191 = .ok (.idiv, 1) := by decide +kernel
theorem dL_law_192 : decode cL_law 192 = .ok (.iconst 2, 1) := by decide +kernel
theorem dL_law_193 : decode cL_law 193 = .ok (.irem, 1) := by decide +kernel
theorem dL_law_194 : decode cL_law 194 = .ok (.invokestatic 270, 3) := by decide +kernel
theorem dL_law_197 : decode cL_law 197 = .ok (.ifCond .eq 26, 3) := by decide +kernel
theorem dL_law_200 : decode cL_law 200 = .ok (.aload_n 2, 1) := by decide +kernel
theorem dL_law_201 : decode cL_law 201 = .ok (.iload 6, 2) := by decide +kernel
theorem dL_law_203 : decode cL_law 203 = .ok (.bipush 9, 2) := by decide +kernel
theorem dL_law_205 : decode cL_law 205 = .ok (.idiv, 1) := by decide +kernel
theorem dL_law_206 : decode cL_law 206 = .ok (.iconst 2, 1) := by decide +kernel
theorem dL_law_207 : decode cL_law 207 = .ok (.irem, 1) := by decide +kernel
theorem dL_law_208 : decode cL_law 208 = .ok (.iload 7, 2) := by decide +kernel
theorem dL_law_210 : decode cL_law 210 = .ok (.bipush 7, 2) := by decide +kernel
theorem dL_law_212 : decode cL_law 212 = .ok (.idiv, 1) := by decide +kernel
theorem dL_law_213 : decode cL_law 213 = .ok (.invokestatic 274, 3) := by decide +kernel
theorem dL_law_216 : decode cL_law 216 = .ok (.ifCond .eq 7, 3) := by decide +kernel
theorem dL_law_219 : decode cL_law 219 = .ok (.iconst 1, 1) := by decide +kernel
theorem dL_law_220 : decode cL_law 220 = .ok (.goto 4, 3) := by decide +kernel
theorem dL_law_224 : decode cL_law 224 = .ok (.istore 5, 2) := by decide +kernel
theorem dL_law_226 : decode cL_law 226 = .ok (.iinc 6 1, 3) := by decide +kernel
theorem dL_law_229 : decode cL_law 229 = .ok (.goto (-190), 3) := by decide +kernel
theorem dL_law_232 : decode cL_law 232 = .ok (.iload 5, 2) := by decide +kernel
theorem dL_law_234 : decode cL_law 234 = .ok (.ifCond .eq 71, 3) := by decide +kernel
theorem dL_law_237 : decode cL_law 237 = .ok (.aload_n 1, 1) := by decide +kernel
theorem dL_law_238 : decode cL_law 238 = .ok (.aload_n 2, 1) := by decide +kernel
theorem dL_law_239 : decode cL_law 239 = .ok (.aload_n 0, 1) := by decide +kernel
theorem dL_law_240 : decode cL_law 240 = .ok (.iconst 0, 1) := by decide +kernel
theorem dL_law_241 : decode cL_law 241 = .ok (.invokestatic 250, 3) := by decide +kernel
theorem dL_law_244 : decode cL_law 244 = .ok (.bipush 29, 2) := by decide +kernel
theorem dL_law_246 : decode cL_law 246 = .ok (.idiv, 1) := by decide +kernel
theorem dL_law_247 : decode cL_law 247 = .ok (.invokestatic 266, 3) := by decide +kernel
theorem dL_law_250 : decode cL_law 250 = .ok (.ifCond .eq 55, 3) := by decide +kernel
theorem dL_law_253 : decode cL_law 253 = .ok (.aload_n 1, 1) := by decide +kernel
theorem dL_law_254 : decode cL_law 254 = .ok (.iconst 0, 1) := by decide +kernel
theorem dL_law_255 : decode cL_law 255 = .ok (.invokestatic 270, 3) := by decide +kernel
theorem dL_law_258 : decode cL_law 258 = .ok (.ifCond .eq 47, 3) := by decide +kernel
theorem dL_law_261 : decode cL_law 261 = .ok (.aload_n 1, 1) := by decide +kernel
theorem dL_law_262 : decode cL_law 262 = .ok (.iconst 1, 1) := by decide +kernel
theorem dL_law_263 : decode cL_law 263 = .ok (.invokestatic 270, 3) := by decide +kernel
theorem dL_law_266 : decode cL_law 266 = .ok (.ifCond .eq 39, 3) := by decide +kernel
theorem dL_law_269 : decode cL_law 269 = .ok (.aload_n 1, 1) := by decide +kernel
theorem dL_law_270 : decode cL_law 270 = .ok (.iconst 0, 1) := by decide +kernel
theorem dL_law_271 : decode cL_law 271 = .ok (.aload_n 0, 1) := by decide +kernel
theorem dL_law_272 : decode cL_law 272 = .ok (.iconst 0, 1) := by decide +kernel
theorem dL_law_273 : decode cL_law 273 = .ok (.invokestatic 250, 3) := by decide +kernel
theorem dL_law_276 : decode cL_law 276 = .ok (.bipush 31, 2) := by decide +kernel
theorem dL_law_278 : decode cL_law 278 = .ok (.idiv, 1) := by decide +kernel
theorem dL_law_279 : decode cL_law 279 = .ok (.invokestatic 274, 3) := by decide +kernel
theorem dL_law_282 : decode cL_law 282 = .ok (.ifCond .eq 23, 3) := by decide +kernel
theorem dL_law_285 : decode cL_law 285 = .ok (.aload_n 1, 1) := by decide +kernel
theorem dL_law_286 : decode cL_law 286 = .ok (.iconst 1, 1) := by decide +kernel
theorem dL_law_287 : decode cL_law 287 = .ok (.aload_n 0, 1) := by decide +kernel
theorem dL_law_288 : decode cL_law 288 = .ok (.iconst 0, 1) := by decide +kernel
theorem dL_law_289 : decode cL_law 289 = .ok (.invokestatic 250, 3) := by decide +kernel
theorem dL_law_292 : decode cL_law 292 = .ok (.bipush 37, 2) := by decide +kernel
theorem dL_law_294 : decode cL_law 294 = .ok (.idiv, 1) := by decide +kernel
theorem dL_law_295 : decode cL_law 295 = .ok (.invokestatic 274, 3) := by decide +kernel
theorem dL_law_298 : decode cL_law 298 = .ok (.ifCond .eq 7, 3) := by decide +kernel
theorem dL_law_301 : decode cL_law 301 = .ok (.iconst 1, 1) := by decide +kernel
theorem dL_law_302 : decode cL_law 302 = .ok (.goto 4, 3) := by decide +kernel
theorem dL_law_306 : decode cL_law 306 = .ok (.ireturn, 1) := by decide +kernel
set_option maxHeartbeats 4000000 in
set_option maxRecDepth 100000 in
theorem whole_start {p : Program} {e : Env} {s : State} {m : MethodId} {below : List Frame} {meth : Method} {c : Code} (l : Launch) (hflags : l.flags = flags0) {b L : Nat} {xs : Nat → Int32} (hL : L ≤ 260) (C0 : lw_At p s m meth c b L xs) : W p l e room_1 s m #[Value.ref b] below meth c s.heap [] 0 0 (lw_Z below #[Value.ref b] s) (entryFrame m ([Value.ref b] : List Value).toArray 9) := by
  obtain ⟨hx, hb, hr, hml, hown, hts, hX, hbl, hlocks, hgv⟩ := id C0
  have hl0 : l.stackTraces = false := by rw [Launch.stackTraces, hflags]; decide +kernel
  obtain ⟨dC, dI, k, hE⟩ := en_start hts hgv
  have hrc : 600000 ≤ room_1.cells := Nat.le_of_ble_eq_true rfl
  have hrs : 6000000 ≤ room_1.slots := Nat.le_of_ble_eq_true rfl
  have hg0 := gK_0
  have B : bd p s m #[Value.ref b] meth c cL_law 9 "GalleyforgeLaw" dC dI k (fun q => s.heap.size ≤ q) [] s.heap [] := ⟨⟨hx, hb, hml, hown, fun w h => hts w (List.mem_filter.mp h).1, hlocks⟩, hE, fun q h => h, fun k q h => by simp at h, ⟨fun i j p q h => by simp at h, fun k q h => by simp at h⟩, va_S.rf⟩
  have hl := lv_entry ([.ref b]) (n := 9) (Nat.le_of_ble_eq_true rfl)
  rw [lg_entry_eq]
  generalize (lg_sl ([.ref b]) ++ List.replicate (9 - (lg_sl ([.ref b])).length) Slot.unset).toArray = ls at hl ⊢
  have hl : lv_has ls 9 [(0, .ref b)] := hl
  refine x_new (ci := 11) (fs := [.null, .null, .null, .int 0, .null]) (C := RX11) (T := TX11) (N := 5) B tyX11_ok in_X11 mw_35 mw_36 mw_1 rfl (by decide +kernel) (Nat.le_of_ble_eq_true rfl) (Nat.le_of_ble_eq_true rfl) dL_law_0 (fun q_1 H B => ?_)
  have B := bd_to (ws' := [(q_1, .inr (11, [.null, .null, .null, .int (iI 0), .null]))]) rfl B
  refine lv_dup hx hb dL_law_3 rfl ?_
  have B := bd_to (ws' := [(q_1, .inr (11, [.null, .null, .null, .int (iI 0), .null]))] ++ []) rfl B
  refine k_I (rest := [.ref q_1]) (wc := [(q_1, .inr (11, [.null, .null, .null, .int (iI 0), .null]))]) (wr := []) (n_press1 l dC dI k q_1) B mI_X11_init mw_37 hl ⟨Nat.le_of_ble_eq_true rfl, Nat.le_of_ble_eq_true rfl⟩ (Nat.le_of_ble_eq_true rfl) rfl dL_law_4 ⟨Nat.le_of_ble_eq_true rfl, Nat.le_of_ble_eq_true rfl⟩ (fun r w gc gs H locs hp B => ?_)
  obtain ⟨tl2_2, z_3, rfl, hw9, rfl, rfl⟩ := hp
  rw [hw9] at B; clear hw9
  have B := bd_to (ws' := ([] ++ tl2_2)) rfl B
  have hPS : PS dI k T00 K00 q_1 512 tl2_2 := z_3
  refine lv_astore_n (lv' := [(1, .ref q_1), (0, .ref b)]) hx hb dL_law_7 rfl hl (by decide) rfl (fun ls hl => ?_)
  refine x_new (ci := 11) (fs := [.null, .null, .null, .int 0, .null]) (C := RX11) (T := TX11) (N := 5) B tyX11_ok in_X11 mw_35 mw_36 mw_1 rfl (by decide +kernel) (Nat.le_of_ble_eq_true rfl) (Nat.le_of_ble_eq_true rfl) dL_law_8 (fun q_4 H B => ?_)
  have B := bd_swap (a := []) (b := tl2_2) (d := [(q_4, .inr (11, [.null, .null, .null, .int (iI 0), .null]))]) B
  have B := bd_to (ws' := ([(q_4, .inr (11, [.null, .null, .null, .int (iI 0), .null]))] ++ tl2_2)) rfl B
  refine lv_dup hx hb dL_law_11 rfl ?_
  have B := bd_swap (a := [(q_4, .inr (11, [.null, .null, .null, .int (iI 0), .null]))]) (b := []) (d := tl2_2) (bd_to rfl B)
  refine k_I (rest := [.ref q_4]) (wc := ([(q_4, .inr (11, [.null, .null, .null, .int (iI 0), .null]))] ++ tl2_2)) (wr := []) (n_press2 l dC dI k q_4 q_1 tl2_2 z_3) B mI_X11_init mw_37 hl ⟨Nat.le_of_ble_eq_true rfl, Nat.le_of_ble_eq_true rfl⟩ (Nat.le_of_ble_eq_true rfl) rfl dL_law_12 ⟨Nat.le_of_ble_eq_true rfl, Nat.le_of_ble_eq_true rfl⟩ (fun r w gc gs H locs hp B => ?_)
  obtain ⟨tl2_5, z_6, rfl, hw9, rfl, rfl⟩ := hp
  rw [hw9] at B; clear hw9
  have B := bd_to (ws' := ([] ++ tl2_5)) rfl B
  have hP2 : P2 dI k T00 K00 q_1 512 T00 K00 q_4 512 tl2_5 := z_6
  refine lv_astore_n (lv' := [(2, .ref q_4), (1, .ref q_1), (0, .ref b)]) hx hb dL_law_15 rfl hl (by decide) rfl (fun ls hl => ?_)
  refine lv_iconst (v := iI 4) hx hb dL_law_16 (by decide) ?_
  refine x_newa (atype := .int) (ty := .int) (N' := 4) (a0 := (4, .inl (fun _ => 0))) B mw_119 rfl 0 rfl pr_int (fun _ => rfl) (by decide) (by decide) (Nat.le_of_ble_eq_true rfl) (Nat.le_of_ble_eq_true rfl) (Nat.le_of_ble_eq_true rfl) dL_law_17 (fun q_7 H B => ?_)
  have B := bd_swap (a := []) (b := tl2_5) (d := [(q_7, .inl (k 0, 4, .inl (fun i9 : Nat => iI ((fun _ : Int => (0 : Int)) i9))))]) B
  have B := bd_to (ws' := ([(q_7, .inl (k 0, 4, .inl (fun i9 : Nat => iI ((fun _ : Int => (0 : Int)) i9))))] ++ tl2_5)) rfl B
  refine lv_astore_n (lv' := [(3, .ref q_7), (2, .ref q_4), (1, .ref q_1), (0, .ref b)]) hx hb dL_law_19 rfl hl (by decide) rfl (fun ls hl => ?_)
  refine lv_bipush (v := iI 20) hx hb dL_law_20 (by decide) ?_
  refine lv_aload_n hx hb dL_law_22 rfl (lv_at hl 3 rfl) ?_
  refine lv_iconst (v := iI 0) hx hb dL_law_23 (by decide) ?_
  refine k_Sd (rest := [.int (iI 20)]) (wr := ([(q_7, .inl (k 0, 4, .inl (fun i9 : Nat => iI ((fun _ : Int => (0 : Int)) i9))))] ++ tl2_5)) hX hbl (Nat.not_le.mpr hbl) (k_drawn l dC dI k b L xs 0 (by omega) hL) B mS_L_drawn mw_490 hl ⟨Nat.le_of_ble_eq_true rfl, Nat.le_of_ble_eq_true rfl⟩ (Nat.le_of_ble_eq_true rfl) rfl dL_law_24 ⟨by dsimp only; (try rw [← Nat.add_assoc]); omega, by dsimp only; (try rw [← Nat.add_assoc]); omega⟩ (fun r w gc gs H locs hp B => ?_)
  obtain ⟨z_8, hz_8, rfl, rfl, rfl, rfl⟩ := hp
  have B := bd_to (ws' := ([(q_7, .inl (k 0, 4, .inl (fun i9 : Nat => iI ((fun _ : Int => (0 : Int)) i9))))] ++ tl2_5)) (List.append_nil _) B
  refine W.widen (k := (((512 + 512) + 0) + 180)) (n := (((12 * (512 + 512)) + 0) + 66200)) (by omega) (by omega) ?_
  refine lv_bipush (v := iI 31) hx hb dL_law_27 (by decide) ?_
  refine y_rem hx hb (a := z_8) (b := 31) (by omega) (by omega) dL_law_29 ?_
  refine y_add hx hb dL_law_30 ?_
  refine lv_istore (lv' := [(4, .int (iI (20 + (z_8 % 31)))), (3, .ref q_7), (2, .ref q_4), (1, .ref q_1), (0, .ref b)]) hx hb dL_law_31 hl (by decide) rfl (fun ls hl => ?_)
  refine lv_iconst (v := iI 1) hx hb dL_law_33 (by decide) ?_
  refine lv_istore (lv' := [(5, .int (iI 1)), (4, .int (iI (20 + (z_8 % 31)))), (3, .ref q_7), (2, .ref q_4), (1, .ref q_1), (0, .ref b)]) hx hb dL_law_34 hl (by decide) rfl (fun ls hl => ?_)
  refine lv_iconst (v := iI 0) hx hb dL_law_36 (by decide) ?_
  refine lv_istore (lv' := [(6, .int (iI 0)), (5, .int (iI 1)), (4, .int (iI (20 + (z_8 % 31)))), (3, .ref q_7), (2, .ref q_4), (1, .ref q_1), (0, .ref b)]) hx hb dL_law_37 hl (by decide) rfl (fun ls hl => ?_)
  refine W.widen (k := (((512 + 512) + (gK 0)) + 0)) (n := (((12 * (512 + 512)) + (hK 0)) + 0)) (by omega) (by omega) ?_
  refine k_loopG (σ := Int × (Int → Int) × (Nat → Int → Int → Int → Int) × (Nat → Int → Int) × Nat × Nat × va_W) B (fun g9 : Int × (Int → Int) × (Nat → Int → Int → Int → Int) × (Nat → Int → Int) × Nat × Nat × va_W => (0 ≤ g9.1 ∧ g9.1 ≤ (20 + (z_8 % 31))) ∧ (P2 dI k g9.2.2.1 g9.2.2.2.1 q_1 g9.2.2.2.2.1 g9.2.2.1 g9.2.2.2.1 q_4 g9.2.2.2.2.2.1 g9.2.2.2.2.2.2) ∧ (GOOD g9.2.2.1 g9.2.2.2.1 g9.1) ∧ (NFR g9.2.2.1 g9.2.2.2.1 g9.2.1) ∧ ((512 ≤ g9.2.2.2.2.1 ∧ g9.2.2.2.2.1 ≤ 131072) ∧ 512 ≤ g9.2.2.2.2.2.1 ∧ g9.2.2.2.2.2.1 ≤ 131072)) (fun g9 : Int × (Int → Int) × (Nat → Int → Int → Int → Int) × (Nat → Int → Int) × Nat × Nat × va_W => ((20 + (z_8 % 31)) - g9.1).toNat) (fun g9 : Int × (Int → Int) × (Nat → Int → Int → Int → Int) × (Nat → Int → Int) × Nat × Nat × va_W => [(6, .int (iI g9.1)), (5, .int (iI 1)), (4, .int (iI (20 + (z_8 % 31)))), (3, .ref q_7), (2, .ref q_4), (1, .ref q_1), (0, .ref b)]) (fun g9 : Int × (Int → Int) × (Nat → Int → Int → Int → Int) × (Nat → Int → Int) × Nat × Nat × va_W => ([(q_7, .inl (k 0, 4, .inl (fun i9 : Nat => iI (g9.2.1 i9))))] ++ g9.2.2.2.2.2.2)) (fun g9 : Int × (Int → Int) × (Nat → Int → Int → Int → Int) × (Nat → Int → Int) × Nat × Nat × va_W => (((g9.2.2.2.2.1 + g9.2.2.2.2.2.1) + (gK g9.1)) + 0)) (fun g9 : Int × (Int → Int) × (Nat → Int → Int → Int → Int) × (Nat → Int → Int) × Nat × Nat × va_W => (((12 * (g9.2.2.2.2.1 + g9.2.2.2.2.2.1)) + (hK g9.1)) + 0)) ?_ (0, (fun _ : Int => (0 : Int)), T00, K00, 512, 512, tl2_5) ⟨(show 0 ≤ 0 ∧ 0 ≤ (20 + (z_8 % 31)) from (by omega)), (show P2 dI k T00 K00 q_1 512 T00 K00 q_4 512 tl2_5 from hP2), (show GOOD T00 K00 0 from GOOD_0), (show NFR T00 K00 (fun _ : Int => (0 : Int)) from ⟨rfl, rfl, rfl, rfl⟩), (show (512 ≤ 512 ∧ 512 ≤ 131072) ∧ 512 ≤ 512 ∧ 512 ≤ 131072 from P2_cp hP2)⟩ ls H locs (lv_sub hl [0, 1, 2, 3, 4, 5, 6] rfl) (bd_to rfl B)
  clear hl B
  rintro ⟨kk, nf, T, K, cp3, cq3, tl3⟩ ⟨hk, hP2, hG, hnf, hc3⟩ ih_9 ls H locs hl B
  have hk : 0 ≤ kk ∧ kk ≤ (20 + (z_8 % 31)) := hk
  have hP2 : P2 dI k T K q_1 cp3 T K q_4 cq3 tl3 := hP2
  have hG : GOOD T K kk := hG
  have hnf : NFR T K nf := hnf
  have hc3 : (512 ≤ cp3 ∧ cp3 ≤ 131072) ∧ 512 ≤ cq3 ∧ cq3 ≤ 131072 := hc3
  show W p l e _ s m #[Value.ref b] below meth c H locs (((cp3 + cq3) + (gK kk)) + 0) (((12 * (cp3 + cq3)) + (hK kk)) + 0) _ _
  have hl : lv_has ls 9 [(6, .int (iI kk)), (5, .int (iI 1)), (4, .int (iI (20 + (z_8 % 31)))), (3, .ref q_7), (2, .ref q_4), (1, .ref q_1), (0, .ref b)] := hl
  have B := bd_to (ws' := ([(q_7, .inl (k 0, 4, .inl (fun i9 : Nat => iI (nf i9))))] ++ tl3)) rfl B
  have hok : OKT T K ∧ TOLD T 0 ∧ TOLD T 1 := GOOD_ok hG (by omega)
  have hQ : OKT T K := hok.1
  have hTz0 : TOLD T 0 := hok.2.1
  have hTz1 : TOLD T 1 := hok.2.2
  have hgk : (gK kk ≤ 124200 ∧ hK kk ≤ 874000) ∧ gK (kk + 1) ≤ 125000 ∧ hK (kk + 1) ≤ 880000 := gK_bd (by omega)
  have hgs : (gK kk + 800 ≤ gK (kk + 1) ∧ hK kk + 6000 ≤ hK (kk + 1)) ∧ (kk % 9 ≠ 0 ∨ (gK kk + 14800 ≤ gK (kk + 1) ∧ hK kk + 90000 ≤ hK (kk + 1))) := gK_s (by omega)
  refine lv_iload hx hb dL_law_39 (lv_at hl 0 rfl) ?_
  refine lv_iload hx hb dL_law_41 (lv_at hl 2 rfl) ?_
  refine lv_icmp_ge (tgt := 232) hx hb dL_law_43 (by decide) (fun c_10 => ?_) (fun c_10 => ?_)
  · have zc_10 : (20 + (z_8 % 31)) ≤ kk := jle (a := (20 + (z_8 % 31))) (b := kk) (by omega) (by omega) c_10
    refine lv_iload hx hb dL_law_232 (lv_at hl 1 rfl) ?_
    refine lv_if_eq (tgt := 305) hx hb dL_law_234 (by decide) (fun c9 => absurd c9 (by decide)) (fun _ => ?_)
    refine lv_aload_n hx hb dL_law_237 rfl (lv_at hl 5 rfl) ?_
    refine lv_aload_n hx hb dL_law_238 rfl (lv_at hl 4 rfl) ?_
    refine lv_aload_n hx hb dL_law_239 rfl (lv_at hl 6 rfl) ?_
    refine lv_iconst (v := iI 0) hx hb dL_law_240 (by decide) ?_
    refine k_Sd (rest := [.ref q_4, .ref q_1]) (wr := ([(q_7, .inl (k 0, 4, .inl (fun i9 : Nat => iI (nf i9))))] ++ tl3)) hX hbl (Nat.not_le.mpr hbl) (k_drawn l dC dI k b L xs 0 (by omega) hL) B mS_L_drawn mw_490 hl ⟨Nat.le_of_ble_eq_true rfl, Nat.le_of_ble_eq_true rfl⟩ (Nat.le_of_ble_eq_true rfl) rfl dL_law_241 ⟨by dsimp only; (try rw [← Nat.add_assoc]); omega, by dsimp only; (try rw [← Nat.add_assoc]); omega⟩ (fun r w gc gs H locs hp B => ?_)
    obtain ⟨z_11, hz_11, rfl, rfl, rfl, rfl⟩ := hp
    have B := bd_to (ws' := ([(q_7, .inl (k 0, 4, .inl (fun i9 : Nat => iI (nf i9))))] ++ tl3)) (List.append_nil _) B
    refine W.widen (k := (((cp3 + cq3) + (gK kk)) + 0)) (n := (((12 * (cp3 + cq3)) + (hK kk)) + 0)) (by omega) (by omega) ?_
    refine lv_bipush (v := iI 29) hx hb dL_law_244 (by decide) ?_
    refine y_div hx hb (a := z_11) (b := 29) (by omega) (by omega) dL_law_246 ?_
    have B := bd_swap (a := []) (b := [(q_7, .inl (k 0, 4, .inl (fun i9 : Nat => iI (nf i9))))]) (d := tl3) (bd_to rfl B)
    refine k_S (rest := []) (wc := ([] ++ tl3)) (wr := [(q_7, .inl (k 0, 4, .inl (fun i9 : Nat => iI (nf i9))))]) (g_alike l dC dI k hl0 T K q_1 cp3 q_4 cq3 tl3 (z_11 / 29) hP2 hQ (by omega)) B mS_L_alike mw_1874 hl ⟨Nat.le_of_ble_eq_true rfl, Nat.le_of_ble_eq_true rfl⟩ (Nat.le_of_ble_eq_true rfl) rfl dL_law_247 ⟨by dsimp only; (try rw [← Nat.add_assoc]); omega, by dsimp only; (try rw [← Nat.add_assoc]); omega⟩ (fun r w gc gs H locs hp B => ?_)
    obtain ⟨cp2_12, cq2_13, tl2_14, z_15, z_16, z_17, rfl, hw9, rfl, rfl⟩ := hp
    rw [hw9] at B; clear hw9
    have B := bd_to (ws' := ([(q_7, .inl (k 0, 4, .inl (fun i9 : Nat => iI (nf i9))))] ++ tl2_14)) rfl B
    have hP2 : P2 dI k T K q_1 cp2_12 T K q_4 cq2_13 tl2_14 := z_15
    refine W.widen (k := (((cp2_12 + cq2_13) + (gK kk)) + 400)) (n := (((12 * (cp2_12 + cq2_13)) + (hK kk)) + 2400)) (by omega) (by omega) ?_
    refine lv_if_eq (tgt := 305) hx hb dL_law_250 (by decide) (fun c9 => absurd c9 (by decide)) (fun _ => ?_)
    refine lv_aload_n hx hb dL_law_253 rfl (lv_at hl 5 rfl) ?_
    refine lv_iconst (v := iI 0) hx hb dL_law_254 (by decide) ?_
    have B := bd_swap (a := []) (b := [(q_7, .inl (k 0, 4, .inl (fun i9 : Nat => iI (nf i9))))]) (d := tl2_14) (bd_to rfl B)
    refine k_S (rest := []) (wc := ([] ++ tl2_14)) (wr := [(q_7, .inl (k 0, 4, .inl (fun i9 : Nat => iI (nf i9))))]) (g1_isLaid l dC dI k T K q_1 cp2_12 T K q_4 cq2_13 tl2_14 hl0 0 z_15 hQ (by omega)) B mS_L_isLaid mw_1877 hl ⟨Nat.le_of_ble_eq_true rfl, Nat.le_of_ble_eq_true rfl⟩ (Nat.le_of_ble_eq_true rfl) rfl dL_law_255 ⟨by dsimp only; (try rw [← Nat.add_assoc]); omega, by dsimp only; (try rw [← Nat.add_assoc]); omega⟩ (fun r w gc gs H locs hp B => ?_)
    obtain ⟨cp2_18, tl2_19, z_20, z_21, rfl, hw9, rfl, rfl⟩ := hp
    rw [hw9] at B; clear hw9
    have B := bd_to (ws' := ([(q_7, .inl (k 0, 4, .inl (fun i9 : Nat => iI (nf i9))))] ++ tl2_19)) rfl B
    have hP2 : P2 dI k T K q_1 cp2_18 T K q_4 cq2_13 tl2_19 := z_20
    refine W.widen (k := (((cp2_18 + cq2_13) + (gK kk)) + 8400)) (n := (((12 * (cp2_18 + cq2_13)) + (hK kk)) + 50400)) (by omega) (by omega) ?_
    refine lv_if_eq (tgt := 305) hx hb dL_law_258 (by decide) (fun c9 => absurd c9 (by decide)) (fun _ => ?_)
    refine lv_aload_n hx hb dL_law_261 rfl (lv_at hl 5 rfl) ?_
    refine lv_iconst (v := iI 1) hx hb dL_law_262 (by decide) ?_
    have B := bd_swap (a := []) (b := [(q_7, .inl (k 0, 4, .inl (fun i9 : Nat => iI (nf i9))))]) (d := tl2_19) (bd_to rfl B)
    refine k_S (rest := []) (wc := ([] ++ tl2_19)) (wr := [(q_7, .inl (k 0, 4, .inl (fun i9 : Nat => iI (nf i9))))]) (g1_isLaid l dC dI k T K q_1 cp2_18 T K q_4 cq2_13 tl2_19 hl0 1 z_20 hQ (by omega)) B mS_L_isLaid mw_1877 hl ⟨Nat.le_of_ble_eq_true rfl, Nat.le_of_ble_eq_true rfl⟩ (Nat.le_of_ble_eq_true rfl) rfl dL_law_263 ⟨by dsimp only; (try rw [← Nat.add_assoc]); omega, by dsimp only; (try rw [← Nat.add_assoc]); omega⟩ (fun r w gc gs H locs hp B => ?_)
    obtain ⟨cp2_22, tl2_23, z_24, z_25, rfl, hw9, rfl, rfl⟩ := hp
    rw [hw9] at B; clear hw9
    have B := bd_to (ws' := ([(q_7, .inl (k 0, 4, .inl (fun i9 : Nat => iI (nf i9))))] ++ tl2_23)) rfl B
    have hP2 : P2 dI k T K q_1 cp2_22 T K q_4 cq2_13 tl2_23 := z_24
    refine W.widen (k := (((cp2_22 + cq2_13) + (gK kk)) + 16400)) (n := (((12 * (cp2_22 + cq2_13)) + (hK kk)) + 98400)) (by omega) (by omega) ?_
    refine lv_if_eq (tgt := 305) hx hb dL_law_266 (by decide) (fun c9 => absurd c9 (by decide)) (fun _ => ?_)
    refine lv_aload_n hx hb dL_law_269 rfl (lv_at hl 5 rfl) ?_
    refine lv_iconst (v := iI 0) hx hb dL_law_270 (by decide) ?_
    refine lv_aload_n hx hb dL_law_271 rfl (lv_at hl 6 rfl) ?_
    refine lv_iconst (v := iI 0) hx hb dL_law_272 (by decide) ?_
    refine k_Sd (rest := [.int (iI 0), .ref q_1]) (wr := ([(q_7, .inl (k 0, 4, .inl (fun i9 : Nat => iI (nf i9))))] ++ tl2_23)) hX hbl (Nat.not_le.mpr hbl) (k_drawn l dC dI k b L xs 0 (by omega) hL) B mS_L_drawn mw_490 hl ⟨Nat.le_of_ble_eq_true rfl, Nat.le_of_ble_eq_true rfl⟩ (Nat.le_of_ble_eq_true rfl) rfl dL_law_273 ⟨by dsimp only; (try rw [← Nat.add_assoc]); omega, by dsimp only; (try rw [← Nat.add_assoc]); omega⟩ (fun r w gc gs H locs hp B => ?_)
    obtain ⟨z_26, hz_26, rfl, rfl, rfl, rfl⟩ := hp
    have B := bd_to (ws' := ([(q_7, .inl (k 0, 4, .inl (fun i9 : Nat => iI (nf i9))))] ++ tl2_23)) (List.append_nil _) B
    refine W.widen (k := (((cp2_22 + cq2_13) + (gK kk)) + 16400)) (n := (((12 * (cp2_22 + cq2_13)) + (hK kk)) + 98400)) (by omega) (by omega) ?_
    refine lv_bipush (v := iI 31) hx hb dL_law_276 (by decide) ?_
    refine y_div hx hb (a := z_26) (b := 31) (by omega) (by omega) dL_law_278 ?_
    have B := bd_swap (a := []) (b := [(q_7, .inl (k 0, 4, .inl (fun i9 : Nat => iI (nf i9))))]) (d := tl2_23) (bd_to rfl B)
    refine k_S (rest := []) (wc := ([] ++ tl2_23)) (wr := [(q_7, .inl (k 0, 4, .inl (fun i9 : Nat => iI (nf i9))))]) (g1_isTold l dC dI k T K q_1 cp2_22 T K q_4 cq2_13 tl2_23 hl0 0 (z_26 / 31) z_24 hQ (by omega) (by omega) hTz0) B mS_L_isTold mw_1880 hl ⟨Nat.le_of_ble_eq_true rfl, Nat.le_of_ble_eq_true rfl⟩ (Nat.le_of_ble_eq_true rfl) rfl dL_law_279 ⟨by dsimp only; (try rw [← Nat.add_assoc]); omega, by dsimp only; (try rw [← Nat.add_assoc]); omega⟩ (fun r w gc gs H locs hp B => ?_)
    obtain ⟨cp2_27, tl2_28, z_29, z_30, rfl, hw9, rfl, rfl⟩ := hp
    rw [hw9] at B; clear hw9
    have B := bd_to (ws' := ([(q_7, .inl (k 0, 4, .inl (fun i9 : Nat => iI (nf i9))))] ++ tl2_28)) rfl B
    have hP2 : P2 dI k T K q_1 cp2_27 T K q_4 cq2_13 tl2_28 := z_29
    refine W.widen (k := (((cp2_27 + cq2_13) + (gK kk)) + 22400)) (n := (((12 * (cp2_27 + cq2_13)) + (hK kk)) + 134400)) (by omega) (by omega) ?_
    refine lv_if_eq (tgt := 305) hx hb dL_law_282 (by decide) (fun c9 => absurd c9 (by decide)) (fun _ => ?_)
    refine lv_aload_n hx hb dL_law_285 rfl (lv_at hl 5 rfl) ?_
    refine lv_iconst (v := iI 1) hx hb dL_law_286 (by decide) ?_
    refine lv_aload_n hx hb dL_law_287 rfl (lv_at hl 6 rfl) ?_
    refine lv_iconst (v := iI 0) hx hb dL_law_288 (by decide) ?_
    refine k_Sd (rest := [.int (iI 1), .ref q_1]) (wr := ([(q_7, .inl (k 0, 4, .inl (fun i9 : Nat => iI (nf i9))))] ++ tl2_28)) hX hbl (Nat.not_le.mpr hbl) (k_drawn l dC dI k b L xs 0 (by omega) hL) B mS_L_drawn mw_490 hl ⟨Nat.le_of_ble_eq_true rfl, Nat.le_of_ble_eq_true rfl⟩ (Nat.le_of_ble_eq_true rfl) rfl dL_law_289 ⟨by dsimp only; (try rw [← Nat.add_assoc]); omega, by dsimp only; (try rw [← Nat.add_assoc]); omega⟩ (fun r w gc gs H locs hp B => ?_)
    obtain ⟨z_31, hz_31, rfl, rfl, rfl, rfl⟩ := hp
    have B := bd_to (ws' := ([(q_7, .inl (k 0, 4, .inl (fun i9 : Nat => iI (nf i9))))] ++ tl2_28)) (List.append_nil _) B
    refine W.widen (k := (((cp2_27 + cq2_13) + (gK kk)) + 22400)) (n := (((12 * (cp2_27 + cq2_13)) + (hK kk)) + 134400)) (by omega) (by omega) ?_
    refine lv_bipush (v := iI 37) hx hb dL_law_292 (by decide) ?_
    refine y_div hx hb (a := z_31) (b := 37) (by omega) (by omega) dL_law_294 ?_
    have B := bd_swap (a := []) (b := [(q_7, .inl (k 0, 4, .inl (fun i9 : Nat => iI (nf i9))))]) (d := tl2_28) (bd_to rfl B)
    refine k_S (rest := []) (wc := ([] ++ tl2_28)) (wr := [(q_7, .inl (k 0, 4, .inl (fun i9 : Nat => iI (nf i9))))]) (g1_isTold l dC dI k T K q_1 cp2_27 T K q_4 cq2_13 tl2_28 hl0 1 (z_31 / 37) z_29 hQ (by omega) (by omega) hTz1) B mS_L_isTold mw_1880 hl ⟨Nat.le_of_ble_eq_true rfl, Nat.le_of_ble_eq_true rfl⟩ (Nat.le_of_ble_eq_true rfl) rfl dL_law_295 ⟨by dsimp only; (try rw [← Nat.add_assoc]); omega, by dsimp only; (try rw [← Nat.add_assoc]); omega⟩ (fun r w gc gs H locs hp B => ?_)
    obtain ⟨cp2_32, tl2_33, z_34, z_35, rfl, hw9, rfl, rfl⟩ := hp
    rw [hw9] at B; clear hw9
    have B := bd_to (ws' := ([(q_7, .inl (k 0, 4, .inl (fun i9 : Nat => iI (nf i9))))] ++ tl2_33)) rfl B
    have hP2 : P2 dI k T K q_1 cp2_32 T K q_4 cq2_13 tl2_33 := z_34
    refine W.widen (k := (((cp2_32 + cq2_13) + (gK kk)) + 28400)) (n := (((12 * (cp2_32 + cq2_13)) + (hK kk)) + 170400)) (by omega) (by omega) ?_
    refine lv_if_eq (tgt := 305) hx hb dL_law_298 (by decide) (fun c9 => absurd c9 (by decide)) (fun _ => ?_)
    refine lv_iconst (v := iI 1) hx hb dL_law_301 (by decide) ?_
    refine lv_goto (tgt := 306) hx hb dL_law_302 (by decide) ?_
    refine lv_seti (y := 1) (by decide) ?_
    refine va_forget (fun q hq => B.2.2.2.2.2.2.2 q hq) ?_
    exact W.widen (by omega) (by omega) (lw_ret hx hb hr B.1.2.2.2.2.2 dL_law_306)
  · have zc_10 : kk < (20 + (z_8 % 31)) := jnle (a := (20 + (z_8 % 31))) (b := kk) (by omega) (by omega) c_10
    refine lv_iload hx hb dL_law_46 (lv_at hl 1 rfl) ?_
    refine lv_if_eq (tgt := 232) hx hb dL_law_48 (by decide) (fun c9 => absurd c9 (by decide)) (fun _ => ?_)
    refine lv_aload_n hx hb dL_law_51 rfl (lv_at hl 6 rfl) ?_
    refine lv_iconst (v := iI 1) hx hb dL_law_52 (by decide) ?_
    refine lv_iload hx hb dL_law_53 (lv_at hl 0 rfl) ?_
    refine y_add hx hb dL_law_55 ?_
    refine k_Sd (rest := []) (wr := ([(q_7, .inl (k 0, 4, .inl (fun i9 : Nat => iI (nf i9))))] ++ tl3)) hX hbl (Nat.not_le.mpr hbl) (k_drawn l dC dI k b L xs (1 + kk) (by omega) hL) B mS_L_drawn mw_490 hl ⟨Nat.le_of_ble_eq_true rfl, Nat.le_of_ble_eq_true rfl⟩ (Nat.le_of_ble_eq_true rfl) rfl dL_law_56 ⟨by dsimp only; (try rw [← Nat.add_assoc]); omega, by dsimp only; (try rw [← Nat.add_assoc]); omega⟩ (fun r w gc gs H locs hp B => ?_)
    obtain ⟨z_36, hz_36, rfl, rfl, rfl, rfl⟩ := hp
    have B := bd_to (ws' := ([(q_7, .inl (k 0, 4, .inl (fun i9 : Nat => iI (nf i9))))] ++ tl3)) (List.append_nil _) B
    refine W.widen (k := (((cp3 + cq3) + (gK kk)) + 0)) (n := (((12 * (cp3 + cq3)) + (hK kk)) + 0)) (by omega) (by omega) ?_
    refine lv_istore (lv' := [(7, .int (iI z_36)), (6, .int (iI kk)), (5, .int (iI 1)), (4, .int (iI (20 + (z_8 % 31)))), (3, .ref q_7), (2, .ref q_4), (1, .ref q_1), (0, .ref b)]) hx hb dL_law_59 hl (by decide) rfl (fun ls hl => ?_)
    refine k_join (σ := Int) B 80 (fun g9 : Int => (0 ≤ g9 ∧ g9 ≤ 2147483647)) (fun g9 : Int => [(7, .int (iI z_36)), (6, .int (iI kk)), (5, .int (iI 1)), (4, .int (iI (20 + (z_8 % 31)))), (3, .ref q_7), (2, .ref q_4), (1, .ref q_1), (0, .ref b)]) (fun g9 : Int => ([(q_7, .inl (k 0, 4, .inl (fun i9 : Nat => iI (nf i9))))] ++ tl3)) (fun g9 : Int => [.int (iI g9)]) ?_ (fun J_37 => ?_)
    · clear hl B
      rintro xx hxx ls H locs hl B
      have hl : lv_has ls 9 [(7, .int (iI z_36)), (6, .int (iI kk)), (5, .int (iI 1)), (4, .int (iI (20 + (z_8 % 31)))), (3, .ref q_7), (2, .ref q_4), (1, .ref q_1), (0, .ref b)] := hl
      have B := bd_to (ws' := ([(q_7, .inl (k 0, 4, .inl (fun i9 : Nat => iI (nf i9))))] ++ tl3)) rfl B
      refine lv_istore (lv' := [(7, .int (iI xx)), (6, .int (iI kk)), (5, .int (iI 1)), (4, .int (iI (20 + (z_8 % 31)))), (3, .ref q_7), (2, .ref q_4), (1, .ref q_1), (0, .ref b)]) hx hb dL_law_80 hl (by decide) rfl (fun ls hl => ?_)
      refine lv_aload_n hx hb dL_law_82 rfl (lv_at hl 6 rfl) ?_
      refine lv_aload_n hx hb dL_law_83 rfl (lv_at hl 4 rfl) ?_
      refine lv_iload hx hb dL_law_84 (lv_at hl 0 rfl) ?_
      have B := bd_swap (a := [(q_7, .inl (k 0, 4, .inl (fun i9 : Nat => iI (nf i9))))]) (b := []) (d := tl3) (bd_to rfl B)
      refine k_S (rest := []) (wc := ([(q_7, .inl (k 0, 4, .inl (fun i9 : Nat => iI (nf i9))))] ++ tl3)) (wr := []) (g1_act l dC dI k T K q_1 cp3 T K q_4 cq3 tl3 hl0 q_7 nf xx hP2 hQ hxx hnf) B mS_L_act mw_1860 hl ⟨Nat.le_of_ble_eq_true rfl, Nat.le_of_ble_eq_true rfl⟩ (Nat.le_of_ble_eq_true rfl) rfl dL_law_86 ⟨by dsimp only; (try rw [← Nat.add_assoc]); omega, by dsimp only; (try rw [← Nat.add_assoc]); omega⟩ (fun r w gc gs H locs hp B => ?_)
      obtain ⟨cp2_38, tl2_39, z_40, z_41, rfl, hw9, rfl, rfl⟩ := hp
      rw [hw9] at B; clear hw9
      have B := bd_to (ws' := ([(q_7, .inl (k 0, 4, .inl (fun i9 : Nat => iI (nf i9))))] ++ tl2_39)) rfl B
      have hP2 : P2 dI k ((acZ T K xx).1) ((acZ T K xx).2.1) q_1 cp2_38 T K q_4 cq3 tl2_39 := z_40
      refine W.widen (k := (((cp2_38 + cq3) + (gK kk)) + 14)) (n := (((12 * (cp2_38 + cq3)) + (hK kk)) + 122)) (by omega) (by omega) ?_
      have hG1 : GOOD (acZ T K xx).1 (acZ T K xx).2.1 (kk + 1) := GOOD_step hG (by omega)
      have hQ1 := (GOOD_ok hG1 (by omega)).1
      have hT0 := (GOOD_ok hG1 (by omega)).2.1
      have hT1 := (GOOD_ok hG1 (by omega)).2.2
      have z_42 : -2147483648 ≤ (acZ T K xx).2.2 ∧ (acZ T K xx).2.2 < 2147483648 := acZ_in hG (by omega)
      refine lv_istore (lv' := [(8, .int (iI ((acZ T K xx).2.2))), (7, .int (iI xx)), (6, .int (iI kk)), (5, .int (iI 1)), (4, .int (iI (20 + (z_8 % 31)))), (3, .ref q_7), (2, .ref q_4), (1, .ref q_1), (0, .ref b)]) hx hb dL_law_89 hl (by decide) rfl (fun ls hl => ?_)
      refine lv_aload_n hx hb dL_law_91 rfl (lv_at hl 6 rfl) ?_
      refine lv_aload_n hx hb dL_law_92 rfl (lv_at hl 5 rfl) ?_
      refine lv_iload hx hb dL_law_93 (lv_at hl 1 rfl) ?_
      refine lv_sipush (v := iI 9973) hx hb dL_law_95 (by decide) ?_
      refine y_rem hx hb (a := xx) (b := 9973) (by omega) (by omega) dL_law_98 ?_
      have B := bd_swap (a := [(q_7, .inl (k 0, 4, .inl (fun i9 : Nat => iI (nf i9))))]) (b := []) (d := tl2_39) (bd_to rfl B)
      refine k_S (rest := []) (wc := ([(q_7, .inl (k 0, 4, .inl (fun i9 : Nat => iI (nf i9))))] ++ tl2_39)) (wr := []) (g2_refuses l dC dI k ((acZ T K xx).1) ((acZ T K xx).2.1) q_1 cp2_38 T K q_4 cq3 tl2_39 hl0 q_7 nf (xx % 9973) z_40 hQ (by omega) hnf) B mS_L_refuses mw_495 hl ⟨Nat.le_of_ble_eq_true rfl, Nat.le_of_ble_eq_true rfl⟩ (Nat.le_of_ble_eq_true rfl) rfl dL_law_99 ⟨by dsimp only; (try rw [← Nat.add_assoc]); omega, by dsimp only; (try rw [← Nat.add_assoc]); omega⟩ (fun r w gc gs H locs hp B => ?_)
      obtain ⟨cq2_43, tl2_44, z_45, z_46, rfl, hw9, rfl, rfl⟩ := hp
      rw [hw9] at B; clear hw9
      have B := bd_to (ws' := ([(q_7, .inl (k 0, 4, .inl (fun i9 : Nat => iI (nf i9))))] ++ tl2_44)) rfl B
      have hP2 : P2 dI k ((acZ T K xx).1) ((acZ T K xx).2.1) q_1 cp2_38 T K q_4 cq2_43 tl2_44 := z_45
      refine W.widen (k := (((cp2_38 + cq2_43) + (gK kk)) + 143)) (n := (((12 * (cp2_38 + cq2_43)) + (hK kk)) + 1388)) (by omega) (by omega) ?_
      refine lv_if_eq (tgt := 121) hx hb dL_law_102 (by decide) (fun c9 => absurd c9 (by decide)) (fun _ => ?_)
      refine lv_aload_n hx hb dL_law_105 rfl (lv_at hl 6 rfl) ?_
      refine lv_aload_n hx hb dL_law_106 rfl (lv_at hl 5 rfl) ?_
      refine lv_iload hx hb dL_law_107 (lv_at hl 1 rfl) ?_
      have B := bd_swap (a := [(q_7, .inl (k 0, 4, .inl (fun i9 : Nat => iI (nf i9))))]) (b := []) (d := tl2_44) (bd_to rfl B)
      refine k_S (rest := []) (wc := ([(q_7, .inl (k 0, 4, .inl (fun i9 : Nat => iI (nf i9))))] ++ tl2_44)) (wr := []) (g2_act l dC dI k ((acZ T K xx).1) ((acZ T K xx).2.1) q_1 cp2_38 T K q_4 cq2_43 tl2_44 hl0 q_7 nf xx z_45 hQ hxx hnf) B mS_L_act mw_1860 hl ⟨Nat.le_of_ble_eq_true rfl, Nat.le_of_ble_eq_true rfl⟩ (Nat.le_of_ble_eq_true rfl) rfl dL_law_109 ⟨by dsimp only; (try rw [← Nat.add_assoc]); omega, by dsimp only; (try rw [← Nat.add_assoc]); omega⟩ (fun r w gc gs H locs hp B => ?_)
      obtain ⟨cq2_47, tl2_48, z_49, z_50, rfl, hw9, rfl, rfl⟩ := hp
      rw [hw9] at B; clear hw9
      have B := bd_to (ws' := ([(q_7, .inl (k 0, 4, .inl (fun i9 : Nat => iI (nf i9))))] ++ tl2_48)) rfl B
      have hP2 : P2 dI k ((acZ T K xx).1) ((acZ T K xx).2.1) q_1 cp2_38 ((acZ T K xx).1) ((acZ T K xx).2.1) q_4 cq2_47 tl2_48 := z_49
      refine W.widen (k := (((cp2_38 + cq2_47) + (gK kk)) + 157)) (n := (((12 * (cp2_38 + cq2_47)) + (hK kk)) + 1510)) (by omega) (by omega) ?_
      refine lv_iload hx hb dL_law_112 (lv_at hl 0 rfl) ?_
      refine lv_icmp_ne (tgt := 121) hx hb dL_law_114 (by decide) (fun c9 => absurd rfl c9) (fun _ => ?_)
      refine lv_iconst (v := iI 1) hx hb dL_law_117 (by decide) ?_
      refine lv_goto (tgt := 122) hx hb dL_law_118 (by decide) ?_
      refine lv_istore (lv' := [(5, .int (iI 1)), (8, .int (iI ((acZ T K xx).2.2))), (7, .int (iI xx)), (6, .int (iI kk)), (4, .int (iI (20 + (z_8 % 31)))), (3, .ref q_7), (2, .ref q_4), (1, .ref q_1), (0, .ref b)]) hx hb dL_law_122 hl (by decide) rfl (fun ls hl => ?_)
      refine lv_aload_n hx hb dL_law_124 rfl (lv_at hl 7 rfl) ?_
      refine lv_aload_n hx hb dL_law_125 rfl (lv_at hl 5 rfl) ?_
      refine lv_iload hx hb dL_law_126 (lv_at hl 2 rfl) ?_
      refine lv_iload hx hb dL_law_128 (lv_at hl 1 rfl) ?_
      have B := bd_swap (a := [(q_7, .inl (k 0, 4, .inl (fun i9 : Nat => iI (nf i9))))]) (b := []) (d := tl2_48) (bd_to rfl B)
      refine k_S (rest := []) (wc := ([(q_7, .inl (k 0, 4, .inl (fun i9 : Nat => iI (nf i9))))] ++ tl2_48)) (wr := []) (g1_keep l dC dI k ((acZ T K xx).1) ((acZ T K xx).2.1) q_1 cp2_38 ((acZ T K xx).1) ((acZ T K xx).2.1) q_4 cq2_47 tl2_48 q_7 nf xx ((acZ T K xx).2.2) z_49 hQ1 hxx (by omega) (NF_in hG hnf)) B mS_L_keep mw_1867 hl ⟨Nat.le_of_ble_eq_true rfl, Nat.le_of_ble_eq_true rfl⟩ (Nat.le_of_ble_eq_true rfl) rfl dL_law_130 ⟨by dsimp only; (try rw [← Nat.add_assoc]); omega, by dsimp only; (try rw [← Nat.add_assoc]); omega⟩ (fun r w gc gs H locs hp B => ?_)
      obtain ⟨nf2_51, cp2_52, tl2_53, z_54, z_55, z_56, z_57, z_58, z_59, rfl, hw9, rfl, rfl⟩ := hp
      rw [hw9] at B; clear hw9
      have B := bd_to (ws' := ([(q_7, .inl (k 0, 4, .inl (fun i9 : Nat => iI (nf2_51 i9))))] ++ tl2_53)) rfl B
      have hP2 : P2 dI k ((acZ T K xx).1) ((acZ T K xx).2.1) q_1 cp2_52 ((acZ T K xx).1) ((acZ T K xx).2.1) q_4 cq2_47 tl2_53 := z_54
      refine W.widen (k := (((cp2_52 + cq2_47) + (gK kk)) + 158)) (n := (((12 * (cp2_52 + cq2_47)) + (hK kk)) + 1516)) (by omega) (by omega) ?_
      have hnf1 : NFR (acZ T K xx).1 (acZ T K xx).2.1 nf2_51 := NF_step hG (by omega) hnf z_56 z_57 z_58 z_59
      refine lv_iload hx hb dL_law_133 (lv_at hl 0 rfl) ?_
      refine lv_if_eq (tgt := 223) hx hb dL_law_135 (by decide) (fun c9 => absurd c9 (by decide)) (fun _ => ?_)
      refine k_joinG (σ := Nat × Nat × va_W) B 159 (fun g9 : Nat × Nat × va_W => (P2 dI k ((acZ T K xx).1) ((acZ T K xx).2.1) q_1 g9.1 ((acZ T K xx).1) ((acZ T K xx).2.1) q_4 g9.2.1 g9.2.2) ∧ ((512 ≤ g9.1 ∧ g9.1 ≤ 131072) ∧ 512 ≤ g9.2.1 ∧ g9.2.1 ≤ 131072)) (fun g9 : Nat × Nat × va_W => [(5, .int (iI 1)), (8, .int (iI ((acZ T K xx).2.2))), (7, .int (iI xx)), (6, .int (iI kk)), (4, .int (iI (20 + (z_8 % 31)))), (3, .ref q_7), (2, .ref q_4), (1, .ref q_1), (0, .ref b)]) (fun g9 : Nat × Nat × va_W => ([(q_7, .inl (k 0, 4, .inl (fun i9 : Nat => iI (nf2_51 i9))))] ++ g9.2.2)) (fun g9 : Nat × Nat × va_W => (((g9.1 + g9.2.1) + (gK kk)) + 287)) (fun g9 : Nat × Nat × va_W => (((12 * (g9.1 + g9.2.1)) + (hK kk)) + 2782)) (fun g9 : Nat × Nat × va_W => []) ?_ (fun J_60 => ?_)
      · clear hl B
        rintro ⟨cpA, cqA, tlA⟩ ⟨hP2, hcA⟩ ls H locs hl B
        have hP2 : P2 dI k ((acZ T K xx).1) ((acZ T K xx).2.1) q_1 cpA ((acZ T K xx).1) ((acZ T K xx).2.1) q_4 cqA tlA := hP2
        have hcA : (512 ≤ cpA ∧ cpA ≤ 131072) ∧ 512 ≤ cqA ∧ cqA ≤ 131072 := hcA
        show W p l e _ s m #[Value.ref b] below meth c H locs ((((cpA + cqA) + (gK kk)) + 287)) ((((12 * (cpA + cqA)) + (hK kk)) + 2782)) _ _
        have hl : lv_has ls 9 [(5, .int (iI 1)), (8, .int (iI ((acZ T K xx).2.2))), (7, .int (iI xx)), (6, .int (iI kk)), (4, .int (iI (20 + (z_8 % 31)))), (3, .ref q_7), (2, .ref q_4), (1, .ref q_1), (0, .ref b)] := hl
        have B := bd_to (ws' := ([(q_7, .inl (k 0, 4, .inl (fun i9 : Nat => iI (nf2_51 i9))))] ++ tlA)) rfl B
        refine k_joinG (σ := Nat × Nat × va_W) B 178 (fun g9 : Nat × Nat × va_W => (P2 dI k ((acZ T K xx).1) ((acZ T K xx).2.1) q_1 g9.1 ((acZ T K xx).1) ((acZ T K xx).2.1) q_4 g9.2.1 g9.2.2) ∧ ((512 ≤ g9.1 ∧ g9.1 ≤ 131072) ∧ 512 ≤ g9.2.1 ∧ g9.2.1 ≤ 131072)) (fun g9 : Nat × Nat × va_W => [(5, .int (iI 1)), (8, .int (iI ((acZ T K xx).2.2))), (7, .int (iI xx)), (6, .int (iI kk)), (4, .int (iI (20 + (z_8 % 31)))), (3, .ref q_7), (2, .ref q_4), (1, .ref q_1), (0, .ref b)]) (fun g9 : Nat × Nat × va_W => ([(q_7, .inl (k 0, 4, .inl (fun i9 : Nat => iI (nf2_51 i9))))] ++ g9.2.2)) (fun g9 : Nat × Nat × va_W => (((g9.1 + g9.2.1) + (gK kk)) + 687)) (fun g9 : Nat × Nat × va_W => (((12 * (g9.1 + g9.2.1)) + (hK kk)) + 5182)) (fun g9 : Nat × Nat × va_W => []) ?_ (fun J_61 => ?_)
        · clear hl B
          rintro ⟨cpB, cqB, tlB⟩ ⟨hP2, hcB⟩ ls H locs hl B
          have hP2 : P2 dI k ((acZ T K xx).1) ((acZ T K xx).2.1) q_1 cpB ((acZ T K xx).1) ((acZ T K xx).2.1) q_4 cqB tlB := hP2
          have hcB : (512 ≤ cpB ∧ cpB ≤ 131072) ∧ 512 ≤ cqB ∧ cqB ≤ 131072 := hcB
          show W p l e _ s m #[Value.ref b] below meth c H locs ((((cpB + cqB) + (gK kk)) + 687)) ((((12 * (cpB + cqB)) + (hK kk)) + 5182)) _ _
          have hl : lv_has ls 9 [(5, .int (iI 1)), (8, .int (iI ((acZ T K xx).2.2))), (7, .int (iI xx)), (6, .int (iI kk)), (4, .int (iI (20 + (z_8 % 31)))), (3, .ref q_7), (2, .ref q_4), (1, .ref q_1), (0, .ref b)] := hl
          have B := bd_to (ws' := ([(q_7, .inl (k 0, 4, .inl (fun i9 : Nat => iI (nf2_51 i9))))] ++ tlB)) rfl B
          refine k_joinG (σ := Nat × Nat × va_W) B 219 (fun g9 : Nat × Nat × va_W => (P2 dI k ((acZ T K xx).1) ((acZ T K xx).2.1) q_1 g9.1 ((acZ T K xx).1) ((acZ T K xx).2.1) q_4 g9.2.1 g9.2.2) ∧ ((512 ≤ g9.1 ∧ g9.1 ≤ 131072) ∧ 512 ≤ g9.2.1 ∧ g9.2.1 ≤ 131072)) (fun g9 : Nat × Nat × va_W => [(5, .int (iI 1)), (8, .int (iI ((acZ T K xx).2.2))), (7, .int (iI xx)), (6, .int (iI kk)), (4, .int (iI (20 + (z_8 % 31)))), (3, .ref q_7), (2, .ref q_4), (1, .ref q_1), (0, .ref b)]) (fun g9 : Nat × Nat × va_W => ([(q_7, .inl (k 0, 4, .inl (fun i9 : Nat => iI (nf2_51 i9))))] ++ g9.2.2)) (fun g9 : Nat × Nat × va_W => (((g9.1 + g9.2.1) + (gK (kk + 1))) + 0)) (fun g9 : Nat × Nat × va_W => (((12 * (g9.1 + g9.2.1)) + (hK (kk + 1))) + 0)) (fun g9 : Nat × Nat × va_W => []) ?_ (fun J_62 => ?_)
          · clear hl B
            rintro ⟨cpC, cqC, tlC⟩ ⟨hP2, hcC⟩ ls H locs hl B
            have hP2 : P2 dI k ((acZ T K xx).1) ((acZ T K xx).2.1) q_1 cpC ((acZ T K xx).1) ((acZ T K xx).2.1) q_4 cqC tlC := hP2
            have hcC : (512 ≤ cpC ∧ cpC ≤ 131072) ∧ 512 ≤ cqC ∧ cqC ≤ 131072 := hcC
            show W p l e _ s m #[Value.ref b] below meth c H locs ((((cpC + cqC) + (gK (kk + 1))) + 0)) ((((12 * (cpC + cqC)) + (hK (kk + 1))) + 0)) _ _
            have hl : lv_has ls 9 [(5, .int (iI 1)), (8, .int (iI ((acZ T K xx).2.2))), (7, .int (iI xx)), (6, .int (iI kk)), (4, .int (iI (20 + (z_8 % 31)))), (3, .ref q_7), (2, .ref q_4), (1, .ref q_1), (0, .ref b)] := hl
            have B := bd_to (ws' := ([(q_7, .inl (k 0, 4, .inl (fun i9 : Nat => iI (nf2_51 i9))))] ++ tlC)) rfl B
            refine lv_iconst (v := iI 1) hx hb dL_law_219 (by decide) ?_
            refine lv_goto (tgt := 224) hx hb dL_law_220 (by decide) ?_
            refine lv_istore (lv' := [(5, .int (iI 1)), (8, .int (iI ((acZ T K xx).2.2))), (7, .int (iI xx)), (6, .int (iI kk)), (4, .int (iI (20 + (z_8 % 31)))), (3, .ref q_7), (2, .ref q_4), (1, .ref q_1), (0, .ref b)]) hx hb dL_law_224 hl (by decide) rfl (fun ls hl => ?_)
            refine lv_iinc (v := iI (kk + 1)) (lv' := [(6, .int (iI (kk + 1))), (5, .int (iI 1)), (8, .int (iI ((acZ T K xx).2.2))), (7, .int (iI xx)), (4, .int (iI (20 + (z_8 % 31)))), (3, .ref q_7), (2, .ref q_4), (1, .ref q_1), (0, .ref b)]) hx hb dL_law_226 hl (k := 3) rfl (iI_add _ _) (by decide) rfl (fun ls hl => ?_)
            refine lv_goto (tgt := 39) hx hb dL_law_229 (by decide) ?_
            refine W.widen (k := (((cpC + cqC) + (gK (kk + 1))) + 0)) (n := (((12 * (cpC + cqC)) + (hK (kk + 1))) + 0)) (by omega) (by omega) ?_
            exact ih_9 ((kk + 1), nf2_51, (acZ T K xx).1, (acZ T K xx).2.1, cpC, cqC, tlC) ⟨(show 0 ≤ (kk + 1) ∧ (kk + 1) ≤ (20 + (z_8 % 31)) from (by omega)), (show P2 dI k ((acZ T K xx).1) ((acZ T K xx).2.1) q_1 cpC ((acZ T K xx).1) ((acZ T K xx).2.1) q_4 cqC tlC from hP2), (show GOOD ((acZ T K xx).1) ((acZ T K xx).2.1) (kk + 1) from hG1), (show NFR ((acZ T K xx).1) ((acZ T K xx).2.1) nf2_51 from hnf1), (show (512 ≤ cpC ∧ cpC ≤ 131072) ∧ 512 ≤ cqC ∧ cqC ≤ 131072 from P2_cp hP2)⟩ (by first | omega | (dsimp only; omega)) _ _ _ (lv_sub hl [0, 1, 4, 5, 6, 7, 8] rfl) (bd_to rfl B)
          refine lv_iload hx hb dL_law_178 (lv_at hl 3 rfl) ?_
          refine lv_bipush (v := iI 9) hx hb dL_law_180 (by decide) ?_
          refine y_rem hx hb (a := kk) (b := 9) (by omega) (by omega) dL_law_182 ?_
          refine lv_if_gt (tgt := 219) hx hb dL_law_183 (by decide) (fun c_63 => ?_) (fun c_63 => ?_)
          · have zc_63 : 0 < (kk % 9) := jlt (a := 0) (b := (kk % 9)) (by omega) (by omega) c_63
            refine W.widen (k := (((cpB + cqB) + (gK (kk + 1))) + 0)) (n := (((12 * (cpB + cqB)) + (hK (kk + 1))) + 0)) (by omega) (by omega) ?_
            exact J_62 (cpB, cqB, tlB) ⟨(show P2 dI k ((acZ T K xx).1) ((acZ T K xx).2.1) q_1 cpB ((acZ T K xx).1) ((acZ T K xx).2.1) q_4 cqB tlB from hP2), (show (512 ≤ cpB ∧ cpB ≤ 131072) ∧ 512 ≤ cqB ∧ cqB ≤ 131072 from P2_cp hP2)⟩ _ _ _ (lv_sub hl [0, 1, 2, 3, 4, 5, 6, 7, 8] rfl) (bd_to rfl B)
          · have zc_63 : (kk % 9) ≤ 0 := jnlt (a := 0) (b := (kk % 9)) (by omega) (by omega) c_63
            refine lv_aload_n hx hb dL_law_186 rfl (lv_at hl 6 rfl) ?_
            refine lv_iload hx hb dL_law_187 (lv_at hl 3 rfl) ?_
            refine lv_bipush (v := iI 9) hx hb dL_law_189 (by decide) ?_
            refine y_div hx hb (a := kk) (b := 9) (by omega) (by omega) dL_law_191 ?_
            refine lv_iconst (v := iI 2) hx hb dL_law_192 (by decide) ?_
            refine y_rem hx hb (a := (kk / 9)) (b := 2) (by omega) (by omega) dL_law_193 ?_
            have B := bd_swap (a := []) (b := [(q_7, .inl (k 0, 4, .inl (fun i9 : Nat => iI (nf2_51 i9))))]) (d := tlB) (bd_to rfl B)
            refine k_S (rest := []) (wc := ([] ++ tlB)) (wr := [(q_7, .inl (k 0, 4, .inl (fun i9 : Nat => iI (nf2_51 i9))))]) (g2_isLaid l dC dI k ((acZ T K xx).1) ((acZ T K xx).2.1) q_1 cpB ((acZ T K xx).1) ((acZ T K xx).2.1) q_4 cqB tlB hl0 ((kk / 9) % 2) hP2 hQ1 (by omega)) B mS_L_isLaid mw_1877 hl ⟨Nat.le_of_ble_eq_true rfl, Nat.le_of_ble_eq_true rfl⟩ (Nat.le_of_ble_eq_true rfl) rfl dL_law_194 ⟨by dsimp only; (try rw [← Nat.add_assoc]); omega, by dsimp only; (try rw [← Nat.add_assoc]); omega⟩ (fun r w gc gs H locs hp B => ?_)
            obtain ⟨cq2_64, tl2_65, z_66, z_67, rfl, hw9, rfl, rfl⟩ := hp
            rw [hw9] at B; clear hw9
            have B := bd_to (ws' := ([(q_7, .inl (k 0, 4, .inl (fun i9 : Nat => iI (nf2_51 i9))))] ++ tl2_65)) rfl B
            have hP2 : P2 dI k ((acZ T K xx).1) ((acZ T K xx).2.1) q_1 cpB ((acZ T K xx).1) ((acZ T K xx).2.1) q_4 cq2_64 tl2_65 := z_66
            refine W.widen (k := (((cpB + cq2_64) + (gK kk)) + 8687)) (n := (((12 * (cpB + cq2_64)) + (hK kk)) + 53182)) (by omega) (by omega) ?_
            refine lv_if_eq (tgt := 223) hx hb dL_law_197 (by decide) (fun c9 => absurd c9 (by decide)) (fun _ => ?_)
            refine lv_aload_n hx hb dL_law_200 rfl (lv_at hl 6 rfl) ?_
            refine lv_iload hx hb dL_law_201 (lv_at hl 3 rfl) ?_
            refine lv_bipush (v := iI 9) hx hb dL_law_203 (by decide) ?_
            refine y_div hx hb (a := kk) (b := 9) (by omega) (by omega) dL_law_205 ?_
            refine lv_iconst (v := iI 2) hx hb dL_law_206 (by decide) ?_
            refine y_rem hx hb (a := (kk / 9)) (b := 2) (by omega) (by omega) dL_law_207 ?_
            refine lv_iload hx hb dL_law_208 (lv_at hl 2 rfl) ?_
            refine lv_bipush (v := iI 7) hx hb dL_law_210 (by decide) ?_
            refine y_div hx hb (a := xx) (b := 7) (by omega) (by omega) dL_law_212 ?_
            have B := bd_swap (a := []) (b := [(q_7, .inl (k 0, 4, .inl (fun i9 : Nat => iI (nf2_51 i9))))]) (d := tl2_65) (bd_to rfl B)
            refine k_S (rest := []) (wc := ([] ++ tl2_65)) (wr := [(q_7, .inl (k 0, 4, .inl (fun i9 : Nat => iI (nf2_51 i9))))]) (g2_isTold l dC dI k ((acZ T K xx).1) ((acZ T K xx).2.1) q_1 cpB ((acZ T K xx).1) ((acZ T K xx).2.1) q_4 cq2_64 tl2_65 hl0 ((kk / 9) % 2) (xx / 7) z_66 hQ1 (by omega) (by omega) (TOLD_v hT0 hT1 (by omega))) B mS_L_isTold mw_1880 hl ⟨Nat.le_of_ble_eq_true rfl, Nat.le_of_ble_eq_true rfl⟩ (Nat.le_of_ble_eq_true rfl) rfl dL_law_213 ⟨by dsimp only; (try rw [← Nat.add_assoc]); omega, by dsimp only; (try rw [← Nat.add_assoc]); omega⟩ (fun r w gc gs H locs hp B => ?_)
            obtain ⟨cq2_68, tl2_69, z_70, z_71, rfl, hw9, rfl, rfl⟩ := hp
            rw [hw9] at B; clear hw9
            have B := bd_to (ws' := ([(q_7, .inl (k 0, 4, .inl (fun i9 : Nat => iI (nf2_51 i9))))] ++ tl2_69)) rfl B
            have hP2 : P2 dI k ((acZ T K xx).1) ((acZ T K xx).2.1) q_1 cpB ((acZ T K xx).1) ((acZ T K xx).2.1) q_4 cq2_68 tl2_69 := z_70
            refine W.widen (k := (((cpB + cq2_68) + (gK kk)) + 14687)) (n := (((12 * (cpB + cq2_68)) + (hK kk)) + 89182)) (by omega) (by omega) ?_
            refine lv_if_eq (tgt := 223) hx hb dL_law_216 (by decide) (fun c9 => absurd c9 (by decide)) (fun _ => ?_)
            refine W.widen (k := (((cpB + cq2_68) + (gK (kk + 1))) + 0)) (n := (((12 * (cpB + cq2_68)) + (hK (kk + 1))) + 0)) (by omega) (by omega) ?_
            exact J_62 (cpB, cq2_68, tl2_69) ⟨(show P2 dI k ((acZ T K xx).1) ((acZ T K xx).2.1) q_1 cpB ((acZ T K xx).1) ((acZ T K xx).2.1) q_4 cq2_68 tl2_69 from hP2), (show (512 ≤ cpB ∧ cpB ≤ 131072) ∧ 512 ≤ cq2_68 ∧ cq2_68 ≤ 131072 from P2_cp hP2)⟩ _ _ _ (lv_sub hl [0, 1, 2, 3, 4, 5, 6, 7, 8] rfl) (bd_to rfl B)
        refine lv_iload hx hb dL_law_159 (lv_at hl 3 rfl) ?_
        refine lv_iconst (v := iI 2) hx hb dL_law_161 (by decide) ?_
        refine y_rem hx hb (a := kk) (b := 2) (by omega) (by omega) dL_law_162 ?_
        refine lv_if_gt (tgt := 178) hx hb dL_law_163 (by decide) (fun c_72 => ?_) (fun c_72 => ?_)
        · have zc_72 : 0 < (kk % 2) := jlt (a := 0) (b := (kk % 2)) (by omega) (by omega) c_72
          refine k_joinG (σ := Nat × Nat × va_W) B 219 (fun g9 : Nat × Nat × va_W => (P2 dI k ((acZ T K xx).1) ((acZ T K xx).2.1) q_1 g9.1 ((acZ T K xx).1) ((acZ T K xx).2.1) q_4 g9.2.1 g9.2.2) ∧ ((512 ≤ g9.1 ∧ g9.1 ≤ 131072) ∧ 512 ≤ g9.2.1 ∧ g9.2.1 ≤ 131072)) (fun g9 : Nat × Nat × va_W => [(5, .int (iI 1)), (8, .int (iI ((acZ T K xx).2.2))), (7, .int (iI xx)), (6, .int (iI kk)), (4, .int (iI (20 + (z_8 % 31)))), (3, .ref q_7), (2, .ref q_4), (1, .ref q_1), (0, .ref b)]) (fun g9 : Nat × Nat × va_W => ([(q_7, .inl (k 0, 4, .inl (fun i9 : Nat => iI (nf2_51 i9))))] ++ g9.2.2)) (fun g9 : Nat × Nat × va_W => (((g9.1 + g9.2.1) + (gK (kk + 1))) + 0)) (fun g9 : Nat × Nat × va_W => (((12 * (g9.1 + g9.2.1)) + (hK (kk + 1))) + 0)) (fun g9 : Nat × Nat × va_W => []) ?_ (fun J_73 => ?_)
          · clear hl B
            rintro ⟨cpC, cqC, tlC⟩ ⟨hP2, hcC⟩ ls H locs hl B
            have hP2 : P2 dI k ((acZ T K xx).1) ((acZ T K xx).2.1) q_1 cpC ((acZ T K xx).1) ((acZ T K xx).2.1) q_4 cqC tlC := hP2
            have hcC : (512 ≤ cpC ∧ cpC ≤ 131072) ∧ 512 ≤ cqC ∧ cqC ≤ 131072 := hcC
            show W p l e _ s m #[Value.ref b] below meth c H locs ((((cpC + cqC) + (gK (kk + 1))) + 0)) ((((12 * (cpC + cqC)) + (hK (kk + 1))) + 0)) _ _
            have hl : lv_has ls 9 [(5, .int (iI 1)), (8, .int (iI ((acZ T K xx).2.2))), (7, .int (iI xx)), (6, .int (iI kk)), (4, .int (iI (20 + (z_8 % 31)))), (3, .ref q_7), (2, .ref q_4), (1, .ref q_1), (0, .ref b)] := hl
            have B := bd_to (ws' := ([(q_7, .inl (k 0, 4, .inl (fun i9 : Nat => iI (nf2_51 i9))))] ++ tlC)) rfl B
            refine lv_iconst (v := iI 1) hx hb dL_law_219 (by decide) ?_
            refine lv_goto (tgt := 224) hx hb dL_law_220 (by decide) ?_
            refine lv_istore (lv' := [(5, .int (iI 1)), (8, .int (iI ((acZ T K xx).2.2))), (7, .int (iI xx)), (6, .int (iI kk)), (4, .int (iI (20 + (z_8 % 31)))), (3, .ref q_7), (2, .ref q_4), (1, .ref q_1), (0, .ref b)]) hx hb dL_law_224 hl (by decide) rfl (fun ls hl => ?_)
            refine lv_iinc (v := iI (kk + 1)) (lv' := [(6, .int (iI (kk + 1))), (5, .int (iI 1)), (8, .int (iI ((acZ T K xx).2.2))), (7, .int (iI xx)), (4, .int (iI (20 + (z_8 % 31)))), (3, .ref q_7), (2, .ref q_4), (1, .ref q_1), (0, .ref b)]) hx hb dL_law_226 hl (k := 3) rfl (iI_add _ _) (by decide) rfl (fun ls hl => ?_)
            refine lv_goto (tgt := 39) hx hb dL_law_229 (by decide) ?_
            refine W.widen (k := (((cpC + cqC) + (gK (kk + 1))) + 0)) (n := (((12 * (cpC + cqC)) + (hK (kk + 1))) + 0)) (by omega) (by omega) ?_
            exact ih_9 ((kk + 1), nf2_51, (acZ T K xx).1, (acZ T K xx).2.1, cpC, cqC, tlC) ⟨(show 0 ≤ (kk + 1) ∧ (kk + 1) ≤ (20 + (z_8 % 31)) from (by omega)), (show P2 dI k ((acZ T K xx).1) ((acZ T K xx).2.1) q_1 cpC ((acZ T K xx).1) ((acZ T K xx).2.1) q_4 cqC tlC from hP2), (show GOOD ((acZ T K xx).1) ((acZ T K xx).2.1) (kk + 1) from hG1), (show NFR ((acZ T K xx).1) ((acZ T K xx).2.1) nf2_51 from hnf1), (show (512 ≤ cpC ∧ cpC ≤ 131072) ∧ 512 ≤ cqC ∧ cqC ≤ 131072 from P2_cp hP2)⟩ (by first | omega | (dsimp only; omega)) _ _ _ (lv_sub hl [0, 1, 4, 5, 6, 7, 8] rfl) (bd_to rfl B)
          refine W.widen (k := (((cpA + cqA) + (gK kk)) + 687)) (n := (((12 * (cpA + cqA)) + (hK kk)) + 5182)) (by omega) (by omega) ?_
          exact J_61 (cpA, cqA, tlA) ⟨(show P2 dI k ((acZ T K xx).1) ((acZ T K xx).2.1) q_1 cpA ((acZ T K xx).1) ((acZ T K xx).2.1) q_4 cqA tlA from hP2), (show (512 ≤ cpA ∧ cpA ≤ 131072) ∧ 512 ≤ cqA ∧ cqA ≤ 131072 from P2_cp hP2)⟩ _ _ _ (lv_sub hl [0, 1, 2, 3, 4, 5, 6, 7, 8] rfl) (bd_to rfl B)
        · have zc_72 : (kk % 2) ≤ 0 := jnlt (a := 0) (b := (kk % 2)) (by omega) (by omega) c_72
          refine lv_aload_n hx hb dL_law_166 rfl (lv_at hl 7 rfl) ?_
          refine lv_aload_n hx hb dL_law_167 rfl (lv_at hl 6 rfl) ?_
          refine lv_iload hx hb dL_law_168 (lv_at hl 2 rfl) ?_
          refine lv_iconst (v := iI 3) hx hb dL_law_170 (by decide) ?_
          refine y_div hx hb (a := xx) (b := 3) (by omega) (by omega) dL_law_171 ?_
          have B := bd_swap (a := []) (b := [(q_7, .inl (k 0, 4, .inl (fun i9 : Nat => iI (nf2_51 i9))))]) (d := tlA) (bd_to rfl B)
          refine k_S (rest := []) (wc := ([] ++ tlA)) (wr := [(q_7, .inl (k 0, 4, .inl (fun i9 : Nat => iI (nf2_51 i9))))]) (g_alike l dC dI k hl0 ((acZ T K xx).1) ((acZ T K xx).2.1) q_1 cpA q_4 cqA tlA (xx / 3) hP2 hQ1 (by omega)) B mS_L_alike mw_1874 hl ⟨Nat.le_of_ble_eq_true rfl, Nat.le_of_ble_eq_true rfl⟩ (Nat.le_of_ble_eq_true rfl) rfl dL_law_172 ⟨by dsimp only; (try rw [← Nat.add_assoc]); omega, by dsimp only; (try rw [← Nat.add_assoc]); omega⟩ (fun r w gc gs H locs hp B => ?_)
          obtain ⟨cp2_74, cq2_75, tl2_76, z_77, z_78, z_79, rfl, hw9, rfl, rfl⟩ := hp
          rw [hw9] at B; clear hw9
          have B := bd_to (ws' := ([(q_7, .inl (k 0, 4, .inl (fun i9 : Nat => iI (nf2_51 i9))))] ++ tl2_76)) rfl B
          have hP2 : P2 dI k ((acZ T K xx).1) ((acZ T K xx).2.1) q_1 cp2_74 ((acZ T K xx).1) ((acZ T K xx).2.1) q_4 cq2_75 tl2_76 := z_77
          refine W.widen (k := (((cp2_74 + cq2_75) + (gK kk)) + 687)) (n := (((12 * (cp2_74 + cq2_75)) + (hK kk)) + 5182)) (by omega) (by omega) ?_
          refine lv_if_eq (tgt := 223) hx hb dL_law_175 (by decide) (fun c9 => absurd c9 (by decide)) (fun _ => ?_)
          refine k_joinG (σ := Nat × Nat × va_W) B 219 (fun g9 : Nat × Nat × va_W => (P2 dI k ((acZ T K xx).1) ((acZ T K xx).2.1) q_1 g9.1 ((acZ T K xx).1) ((acZ T K xx).2.1) q_4 g9.2.1 g9.2.2) ∧ ((512 ≤ g9.1 ∧ g9.1 ≤ 131072) ∧ 512 ≤ g9.2.1 ∧ g9.2.1 ≤ 131072)) (fun g9 : Nat × Nat × va_W => [(5, .int (iI 1)), (8, .int (iI ((acZ T K xx).2.2))), (7, .int (iI xx)), (6, .int (iI kk)), (4, .int (iI (20 + (z_8 % 31)))), (3, .ref q_7), (2, .ref q_4), (1, .ref q_1), (0, .ref b)]) (fun g9 : Nat × Nat × va_W => ([(q_7, .inl (k 0, 4, .inl (fun i9 : Nat => iI (nf2_51 i9))))] ++ g9.2.2)) (fun g9 : Nat × Nat × va_W => (((g9.1 + g9.2.1) + (gK (kk + 1))) + 0)) (fun g9 : Nat × Nat × va_W => (((12 * (g9.1 + g9.2.1)) + (hK (kk + 1))) + 0)) (fun g9 : Nat × Nat × va_W => []) ?_ (fun J_80 => ?_)
          · clear hl B
            rintro ⟨cpC, cqC, tlC⟩ ⟨hP2, hcC⟩ ls H locs hl B
            have hP2 : P2 dI k ((acZ T K xx).1) ((acZ T K xx).2.1) q_1 cpC ((acZ T K xx).1) ((acZ T K xx).2.1) q_4 cqC tlC := hP2
            have hcC : (512 ≤ cpC ∧ cpC ≤ 131072) ∧ 512 ≤ cqC ∧ cqC ≤ 131072 := hcC
            show W p l e _ s m #[Value.ref b] below meth c H locs ((((cpC + cqC) + (gK (kk + 1))) + 0)) ((((12 * (cpC + cqC)) + (hK (kk + 1))) + 0)) _ _
            have hl : lv_has ls 9 [(5, .int (iI 1)), (8, .int (iI ((acZ T K xx).2.2))), (7, .int (iI xx)), (6, .int (iI kk)), (4, .int (iI (20 + (z_8 % 31)))), (3, .ref q_7), (2, .ref q_4), (1, .ref q_1), (0, .ref b)] := hl
            have B := bd_to (ws' := ([(q_7, .inl (k 0, 4, .inl (fun i9 : Nat => iI (nf2_51 i9))))] ++ tlC)) rfl B
            refine lv_iconst (v := iI 1) hx hb dL_law_219 (by decide) ?_
            refine lv_goto (tgt := 224) hx hb dL_law_220 (by decide) ?_
            refine lv_istore (lv' := [(5, .int (iI 1)), (8, .int (iI ((acZ T K xx).2.2))), (7, .int (iI xx)), (6, .int (iI kk)), (4, .int (iI (20 + (z_8 % 31)))), (3, .ref q_7), (2, .ref q_4), (1, .ref q_1), (0, .ref b)]) hx hb dL_law_224 hl (by decide) rfl (fun ls hl => ?_)
            refine lv_iinc (v := iI (kk + 1)) (lv' := [(6, .int (iI (kk + 1))), (5, .int (iI 1)), (8, .int (iI ((acZ T K xx).2.2))), (7, .int (iI xx)), (4, .int (iI (20 + (z_8 % 31)))), (3, .ref q_7), (2, .ref q_4), (1, .ref q_1), (0, .ref b)]) hx hb dL_law_226 hl (k := 3) rfl (iI_add _ _) (by decide) rfl (fun ls hl => ?_)
            refine lv_goto (tgt := 39) hx hb dL_law_229 (by decide) ?_
            refine W.widen (k := (((cpC + cqC) + (gK (kk + 1))) + 0)) (n := (((12 * (cpC + cqC)) + (hK (kk + 1))) + 0)) (by omega) (by omega) ?_
            exact ih_9 ((kk + 1), nf2_51, (acZ T K xx).1, (acZ T K xx).2.1, cpC, cqC, tlC) ⟨(show 0 ≤ (kk + 1) ∧ (kk + 1) ≤ (20 + (z_8 % 31)) from (by omega)), (show P2 dI k ((acZ T K xx).1) ((acZ T K xx).2.1) q_1 cpC ((acZ T K xx).1) ((acZ T K xx).2.1) q_4 cqC tlC from hP2), (show GOOD ((acZ T K xx).1) ((acZ T K xx).2.1) (kk + 1) from hG1), (show NFR ((acZ T K xx).1) ((acZ T K xx).2.1) nf2_51 from hnf1), (show (512 ≤ cpC ∧ cpC ≤ 131072) ∧ 512 ≤ cqC ∧ cqC ≤ 131072 from P2_cp hP2)⟩ (by first | omega | (dsimp only; omega)) _ _ _ (lv_sub hl [0, 1, 4, 5, 6, 7, 8] rfl) (bd_to rfl B)
          refine W.widen (k := (((cp2_74 + cq2_75) + (gK kk)) + 687)) (n := (((12 * (cp2_74 + cq2_75)) + (hK kk)) + 5182)) (by omega) (by omega) ?_
          exact J_61 (cp2_74, cq2_75, tl2_76) ⟨(show P2 dI k ((acZ T K xx).1) ((acZ T K xx).2.1) q_1 cp2_74 ((acZ T K xx).1) ((acZ T K xx).2.1) q_4 cq2_75 tl2_76 from hP2), (show (512 ≤ cp2_74 ∧ cp2_74 ≤ 131072) ∧ 512 ≤ cq2_75 ∧ cq2_75 ≤ 131072 from P2_cp hP2)⟩ _ _ _ (lv_sub hl [0, 1, 2, 3, 4, 5, 6, 7, 8] rfl) (bd_to rfl B)
      refine lv_iload hx hb dL_law_138 (lv_at hl 3 rfl) ?_
      refine lv_iconst (v := iI 3) hx hb dL_law_140 (by decide) ?_
      refine y_rem hx hb (a := kk) (b := 3) (by omega) (by omega) dL_law_141 ?_
      refine lv_if_gt (tgt := 159) hx hb dL_law_142 (by decide) (fun c_81 => ?_) (fun c_81 => ?_)
      · have zc_81 : 0 < (kk % 3) := jlt (a := 0) (b := (kk % 3)) (by omega) (by omega) c_81
        refine k_joinG (σ := Nat × Nat × va_W) B 178 (fun g9 : Nat × Nat × va_W => (P2 dI k ((acZ T K xx).1) ((acZ T K xx).2.1) q_1 g9.1 ((acZ T K xx).1) ((acZ T K xx).2.1) q_4 g9.2.1 g9.2.2) ∧ ((512 ≤ g9.1 ∧ g9.1 ≤ 131072) ∧ 512 ≤ g9.2.1 ∧ g9.2.1 ≤ 131072)) (fun g9 : Nat × Nat × va_W => [(5, .int (iI 1)), (8, .int (iI ((acZ T K xx).2.2))), (7, .int (iI xx)), (6, .int (iI kk)), (4, .int (iI (20 + (z_8 % 31)))), (3, .ref q_7), (2, .ref q_4), (1, .ref q_1), (0, .ref b)]) (fun g9 : Nat × Nat × va_W => ([(q_7, .inl (k 0, 4, .inl (fun i9 : Nat => iI (nf2_51 i9))))] ++ g9.2.2)) (fun g9 : Nat × Nat × va_W => (((g9.1 + g9.2.1) + (gK kk)) + 687)) (fun g9 : Nat × Nat × va_W => (((12 * (g9.1 + g9.2.1)) + (hK kk)) + 5182)) (fun g9 : Nat × Nat × va_W => []) ?_ (fun J_82 => ?_)
        · clear hl B
          rintro ⟨cpB, cqB, tlB⟩ ⟨hP2, hcB⟩ ls H locs hl B
          have hP2 : P2 dI k ((acZ T K xx).1) ((acZ T K xx).2.1) q_1 cpB ((acZ T K xx).1) ((acZ T K xx).2.1) q_4 cqB tlB := hP2
          have hcB : (512 ≤ cpB ∧ cpB ≤ 131072) ∧ 512 ≤ cqB ∧ cqB ≤ 131072 := hcB
          show W p l e _ s m #[Value.ref b] below meth c H locs ((((cpB + cqB) + (gK kk)) + 687)) ((((12 * (cpB + cqB)) + (hK kk)) + 5182)) _ _
          have hl : lv_has ls 9 [(5, .int (iI 1)), (8, .int (iI ((acZ T K xx).2.2))), (7, .int (iI xx)), (6, .int (iI kk)), (4, .int (iI (20 + (z_8 % 31)))), (3, .ref q_7), (2, .ref q_4), (1, .ref q_1), (0, .ref b)] := hl
          have B := bd_to (ws' := ([(q_7, .inl (k 0, 4, .inl (fun i9 : Nat => iI (nf2_51 i9))))] ++ tlB)) rfl B
          refine k_joinG (σ := Nat × Nat × va_W) B 219 (fun g9 : Nat × Nat × va_W => (P2 dI k ((acZ T K xx).1) ((acZ T K xx).2.1) q_1 g9.1 ((acZ T K xx).1) ((acZ T K xx).2.1) q_4 g9.2.1 g9.2.2) ∧ ((512 ≤ g9.1 ∧ g9.1 ≤ 131072) ∧ 512 ≤ g9.2.1 ∧ g9.2.1 ≤ 131072)) (fun g9 : Nat × Nat × va_W => [(5, .int (iI 1)), (8, .int (iI ((acZ T K xx).2.2))), (7, .int (iI xx)), (6, .int (iI kk)), (4, .int (iI (20 + (z_8 % 31)))), (3, .ref q_7), (2, .ref q_4), (1, .ref q_1), (0, .ref b)]) (fun g9 : Nat × Nat × va_W => ([(q_7, .inl (k 0, 4, .inl (fun i9 : Nat => iI (nf2_51 i9))))] ++ g9.2.2)) (fun g9 : Nat × Nat × va_W => (((g9.1 + g9.2.1) + (gK (kk + 1))) + 0)) (fun g9 : Nat × Nat × va_W => (((12 * (g9.1 + g9.2.1)) + (hK (kk + 1))) + 0)) (fun g9 : Nat × Nat × va_W => []) ?_ (fun J_83 => ?_)
          · clear hl B
            rintro ⟨cpC, cqC, tlC⟩ ⟨hP2, hcC⟩ ls H locs hl B
            have hP2 : P2 dI k ((acZ T K xx).1) ((acZ T K xx).2.1) q_1 cpC ((acZ T K xx).1) ((acZ T K xx).2.1) q_4 cqC tlC := hP2
            have hcC : (512 ≤ cpC ∧ cpC ≤ 131072) ∧ 512 ≤ cqC ∧ cqC ≤ 131072 := hcC
            show W p l e _ s m #[Value.ref b] below meth c H locs ((((cpC + cqC) + (gK (kk + 1))) + 0)) ((((12 * (cpC + cqC)) + (hK (kk + 1))) + 0)) _ _
            have hl : lv_has ls 9 [(5, .int (iI 1)), (8, .int (iI ((acZ T K xx).2.2))), (7, .int (iI xx)), (6, .int (iI kk)), (4, .int (iI (20 + (z_8 % 31)))), (3, .ref q_7), (2, .ref q_4), (1, .ref q_1), (0, .ref b)] := hl
            have B := bd_to (ws' := ([(q_7, .inl (k 0, 4, .inl (fun i9 : Nat => iI (nf2_51 i9))))] ++ tlC)) rfl B
            refine lv_iconst (v := iI 1) hx hb dL_law_219 (by decide) ?_
            refine lv_goto (tgt := 224) hx hb dL_law_220 (by decide) ?_
            refine lv_istore (lv' := [(5, .int (iI 1)), (8, .int (iI ((acZ T K xx).2.2))), (7, .int (iI xx)), (6, .int (iI kk)), (4, .int (iI (20 + (z_8 % 31)))), (3, .ref q_7), (2, .ref q_4), (1, .ref q_1), (0, .ref b)]) hx hb dL_law_224 hl (by decide) rfl (fun ls hl => ?_)
            refine lv_iinc (v := iI (kk + 1)) (lv' := [(6, .int (iI (kk + 1))), (5, .int (iI 1)), (8, .int (iI ((acZ T K xx).2.2))), (7, .int (iI xx)), (4, .int (iI (20 + (z_8 % 31)))), (3, .ref q_7), (2, .ref q_4), (1, .ref q_1), (0, .ref b)]) hx hb dL_law_226 hl (k := 3) rfl (iI_add _ _) (by decide) rfl (fun ls hl => ?_)
            refine lv_goto (tgt := 39) hx hb dL_law_229 (by decide) ?_
            refine W.widen (k := (((cpC + cqC) + (gK (kk + 1))) + 0)) (n := (((12 * (cpC + cqC)) + (hK (kk + 1))) + 0)) (by omega) (by omega) ?_
            exact ih_9 ((kk + 1), nf2_51, (acZ T K xx).1, (acZ T K xx).2.1, cpC, cqC, tlC) ⟨(show 0 ≤ (kk + 1) ∧ (kk + 1) ≤ (20 + (z_8 % 31)) from (by omega)), (show P2 dI k ((acZ T K xx).1) ((acZ T K xx).2.1) q_1 cpC ((acZ T K xx).1) ((acZ T K xx).2.1) q_4 cqC tlC from hP2), (show GOOD ((acZ T K xx).1) ((acZ T K xx).2.1) (kk + 1) from hG1), (show NFR ((acZ T K xx).1) ((acZ T K xx).2.1) nf2_51 from hnf1), (show (512 ≤ cpC ∧ cpC ≤ 131072) ∧ 512 ≤ cqC ∧ cqC ≤ 131072 from P2_cp hP2)⟩ (by first | omega | (dsimp only; omega)) _ _ _ (lv_sub hl [0, 1, 4, 5, 6, 7, 8] rfl) (bd_to rfl B)
          refine lv_iload hx hb dL_law_178 (lv_at hl 3 rfl) ?_
          refine lv_bipush (v := iI 9) hx hb dL_law_180 (by decide) ?_
          refine y_rem hx hb (a := kk) (b := 9) (by omega) (by omega) dL_law_182 ?_
          refine lv_if_gt (tgt := 219) hx hb dL_law_183 (by decide) (fun c_84 => ?_) (fun c_84 => ?_)
          · have zc_84 : 0 < (kk % 9) := jlt (a := 0) (b := (kk % 9)) (by omega) (by omega) c_84
            refine W.widen (k := (((cpB + cqB) + (gK (kk + 1))) + 0)) (n := (((12 * (cpB + cqB)) + (hK (kk + 1))) + 0)) (by omega) (by omega) ?_
            exact J_83 (cpB, cqB, tlB) ⟨(show P2 dI k ((acZ T K xx).1) ((acZ T K xx).2.1) q_1 cpB ((acZ T K xx).1) ((acZ T K xx).2.1) q_4 cqB tlB from hP2), (show (512 ≤ cpB ∧ cpB ≤ 131072) ∧ 512 ≤ cqB ∧ cqB ≤ 131072 from P2_cp hP2)⟩ _ _ _ (lv_sub hl [0, 1, 2, 3, 4, 5, 6, 7, 8] rfl) (bd_to rfl B)
          · have zc_84 : (kk % 9) ≤ 0 := jnlt (a := 0) (b := (kk % 9)) (by omega) (by omega) c_84
            refine lv_aload_n hx hb dL_law_186 rfl (lv_at hl 6 rfl) ?_
            refine lv_iload hx hb dL_law_187 (lv_at hl 3 rfl) ?_
            refine lv_bipush (v := iI 9) hx hb dL_law_189 (by decide) ?_
            refine y_div hx hb (a := kk) (b := 9) (by omega) (by omega) dL_law_191 ?_
            refine lv_iconst (v := iI 2) hx hb dL_law_192 (by decide) ?_
            refine y_rem hx hb (a := (kk / 9)) (b := 2) (by omega) (by omega) dL_law_193 ?_
            have B := bd_swap (a := []) (b := [(q_7, .inl (k 0, 4, .inl (fun i9 : Nat => iI (nf2_51 i9))))]) (d := tlB) (bd_to rfl B)
            refine k_S (rest := []) (wc := ([] ++ tlB)) (wr := [(q_7, .inl (k 0, 4, .inl (fun i9 : Nat => iI (nf2_51 i9))))]) (g2_isLaid l dC dI k ((acZ T K xx).1) ((acZ T K xx).2.1) q_1 cpB ((acZ T K xx).1) ((acZ T K xx).2.1) q_4 cqB tlB hl0 ((kk / 9) % 2) hP2 hQ1 (by omega)) B mS_L_isLaid mw_1877 hl ⟨Nat.le_of_ble_eq_true rfl, Nat.le_of_ble_eq_true rfl⟩ (Nat.le_of_ble_eq_true rfl) rfl dL_law_194 ⟨by dsimp only; (try rw [← Nat.add_assoc]); omega, by dsimp only; (try rw [← Nat.add_assoc]); omega⟩ (fun r w gc gs H locs hp B => ?_)
            obtain ⟨cq2_85, tl2_86, z_87, z_88, rfl, hw9, rfl, rfl⟩ := hp
            rw [hw9] at B; clear hw9
            have B := bd_to (ws' := ([(q_7, .inl (k 0, 4, .inl (fun i9 : Nat => iI (nf2_51 i9))))] ++ tl2_86)) rfl B
            have hP2 : P2 dI k ((acZ T K xx).1) ((acZ T K xx).2.1) q_1 cpB ((acZ T K xx).1) ((acZ T K xx).2.1) q_4 cq2_85 tl2_86 := z_87
            refine W.widen (k := (((cpB + cq2_85) + (gK kk)) + 8687)) (n := (((12 * (cpB + cq2_85)) + (hK kk)) + 53182)) (by omega) (by omega) ?_
            refine lv_if_eq (tgt := 223) hx hb dL_law_197 (by decide) (fun c9 => absurd c9 (by decide)) (fun _ => ?_)
            refine lv_aload_n hx hb dL_law_200 rfl (lv_at hl 6 rfl) ?_
            refine lv_iload hx hb dL_law_201 (lv_at hl 3 rfl) ?_
            refine lv_bipush (v := iI 9) hx hb dL_law_203 (by decide) ?_
            refine y_div hx hb (a := kk) (b := 9) (by omega) (by omega) dL_law_205 ?_
            refine lv_iconst (v := iI 2) hx hb dL_law_206 (by decide) ?_
            refine y_rem hx hb (a := (kk / 9)) (b := 2) (by omega) (by omega) dL_law_207 ?_
            refine lv_iload hx hb dL_law_208 (lv_at hl 2 rfl) ?_
            refine lv_bipush (v := iI 7) hx hb dL_law_210 (by decide) ?_
            refine y_div hx hb (a := xx) (b := 7) (by omega) (by omega) dL_law_212 ?_
            have B := bd_swap (a := []) (b := [(q_7, .inl (k 0, 4, .inl (fun i9 : Nat => iI (nf2_51 i9))))]) (d := tl2_86) (bd_to rfl B)
            refine k_S (rest := []) (wc := ([] ++ tl2_86)) (wr := [(q_7, .inl (k 0, 4, .inl (fun i9 : Nat => iI (nf2_51 i9))))]) (g2_isTold l dC dI k ((acZ T K xx).1) ((acZ T K xx).2.1) q_1 cpB ((acZ T K xx).1) ((acZ T K xx).2.1) q_4 cq2_85 tl2_86 hl0 ((kk / 9) % 2) (xx / 7) z_87 hQ1 (by omega) (by omega) (TOLD_v hT0 hT1 (by omega))) B mS_L_isTold mw_1880 hl ⟨Nat.le_of_ble_eq_true rfl, Nat.le_of_ble_eq_true rfl⟩ (Nat.le_of_ble_eq_true rfl) rfl dL_law_213 ⟨by dsimp only; (try rw [← Nat.add_assoc]); omega, by dsimp only; (try rw [← Nat.add_assoc]); omega⟩ (fun r w gc gs H locs hp B => ?_)
            obtain ⟨cq2_89, tl2_90, z_91, z_92, rfl, hw9, rfl, rfl⟩ := hp
            rw [hw9] at B; clear hw9
            have B := bd_to (ws' := ([(q_7, .inl (k 0, 4, .inl (fun i9 : Nat => iI (nf2_51 i9))))] ++ tl2_90)) rfl B
            have hP2 : P2 dI k ((acZ T K xx).1) ((acZ T K xx).2.1) q_1 cpB ((acZ T K xx).1) ((acZ T K xx).2.1) q_4 cq2_89 tl2_90 := z_91
            refine W.widen (k := (((cpB + cq2_89) + (gK kk)) + 14687)) (n := (((12 * (cpB + cq2_89)) + (hK kk)) + 89182)) (by omega) (by omega) ?_
            refine lv_if_eq (tgt := 223) hx hb dL_law_216 (by decide) (fun c9 => absurd c9 (by decide)) (fun _ => ?_)
            refine W.widen (k := (((cpB + cq2_89) + (gK (kk + 1))) + 0)) (n := (((12 * (cpB + cq2_89)) + (hK (kk + 1))) + 0)) (by omega) (by omega) ?_
            exact J_83 (cpB, cq2_89, tl2_90) ⟨(show P2 dI k ((acZ T K xx).1) ((acZ T K xx).2.1) q_1 cpB ((acZ T K xx).1) ((acZ T K xx).2.1) q_4 cq2_89 tl2_90 from hP2), (show (512 ≤ cpB ∧ cpB ≤ 131072) ∧ 512 ≤ cq2_89 ∧ cq2_89 ≤ 131072 from P2_cp hP2)⟩ _ _ _ (lv_sub hl [0, 1, 2, 3, 4, 5, 6, 7, 8] rfl) (bd_to rfl B)
        refine W.widen (k := (((cp2_52 + cq2_47) + (gK kk)) + 287)) (n := (((12 * (cp2_52 + cq2_47)) + (hK kk)) + 2782)) (by omega) (by omega) ?_
        exact J_60 (cp2_52, cq2_47, tl2_53) ⟨(show P2 dI k ((acZ T K xx).1) ((acZ T K xx).2.1) q_1 cp2_52 ((acZ T K xx).1) ((acZ T K xx).2.1) q_4 cq2_47 tl2_53 from hP2), (show (512 ≤ cp2_52 ∧ cp2_52 ≤ 131072) ∧ 512 ≤ cq2_47 ∧ cq2_47 ≤ 131072 from P2_cp hP2)⟩ _ _ _ (lv_sub hl [0, 1, 2, 3, 4, 5, 6, 7, 8] rfl) (bd_to rfl B)
      · have zc_81 : (kk % 3) ≤ 0 := jnlt (a := 0) (b := (kk % 3)) (by omega) (by omega) c_81
        refine lv_aload_n hx hb dL_law_145 rfl (lv_at hl 6 rfl) ?_
        refine lv_aload_n hx hb dL_law_146 rfl (lv_at hl 5 rfl) ?_
        refine lv_iload hx hb dL_law_147 (lv_at hl 2 rfl) ?_
        refine lv_sipush (v := iI 499) hx hb dL_law_149 (by decide) ?_
        refine y_rem hx hb (a := xx) (b := 499) (by omega) (by omega) dL_law_152 ?_
        have B := bd_swap (a := [(q_7, .inl (k 0, 4, .inl (fun i9 : Nat => iI (nf2_51 i9))))]) (b := []) (d := tl2_53) (bd_to rfl B)
        refine k_S (rest := []) (wc := ([(q_7, .inl (k 0, 4, .inl (fun i9 : Nat => iI (nf2_51 i9))))] ++ tl2_53)) (wr := []) (g2_refuses l dC dI k ((acZ T K xx).1) ((acZ T K xx).2.1) q_1 cp2_52 ((acZ T K xx).1) ((acZ T K xx).2.1) q_4 cq2_47 tl2_53 hl0 q_7 nf2_51 (xx % 499) z_54 hQ1 (by omega) hnf1) B mS_L_refuses mw_495 hl ⟨Nat.le_of_ble_eq_true rfl, Nat.le_of_ble_eq_true rfl⟩ (Nat.le_of_ble_eq_true rfl) rfl dL_law_153 ⟨by dsimp only; (try rw [← Nat.add_assoc]); omega, by dsimp only; (try rw [← Nat.add_assoc]); omega⟩ (fun r w gc gs H locs hp B => ?_)
        obtain ⟨cq2_93, tl2_94, z_95, z_96, rfl, hw9, rfl, rfl⟩ := hp
        rw [hw9] at B; clear hw9
        have B := bd_to (ws' := ([(q_7, .inl (k 0, 4, .inl (fun i9 : Nat => iI (nf2_51 i9))))] ++ tl2_94)) rfl B
        have hP2 : P2 dI k ((acZ T K xx).1) ((acZ T K xx).2.1) q_1 cp2_52 ((acZ T K xx).1) ((acZ T K xx).2.1) q_4 cq2_93 tl2_94 := z_95
        refine W.widen (k := (((cp2_52 + cq2_93) + (gK kk)) + 287)) (n := (((12 * (cp2_52 + cq2_93)) + (hK kk)) + 2782)) (by omega) (by omega) ?_
        refine lv_if_eq (tgt := 223) hx hb dL_law_156 (by decide) (fun c9 => absurd c9 (by decide)) (fun _ => ?_)
        refine k_joinG (σ := Nat × Nat × va_W) B 178 (fun g9 : Nat × Nat × va_W => (P2 dI k ((acZ T K xx).1) ((acZ T K xx).2.1) q_1 g9.1 ((acZ T K xx).1) ((acZ T K xx).2.1) q_4 g9.2.1 g9.2.2) ∧ ((512 ≤ g9.1 ∧ g9.1 ≤ 131072) ∧ 512 ≤ g9.2.1 ∧ g9.2.1 ≤ 131072)) (fun g9 : Nat × Nat × va_W => [(5, .int (iI 1)), (8, .int (iI ((acZ T K xx).2.2))), (7, .int (iI xx)), (6, .int (iI kk)), (4, .int (iI (20 + (z_8 % 31)))), (3, .ref q_7), (2, .ref q_4), (1, .ref q_1), (0, .ref b)]) (fun g9 : Nat × Nat × va_W => ([(q_7, .inl (k 0, 4, .inl (fun i9 : Nat => iI (nf2_51 i9))))] ++ g9.2.2)) (fun g9 : Nat × Nat × va_W => (((g9.1 + g9.2.1) + (gK kk)) + 687)) (fun g9 : Nat × Nat × va_W => (((12 * (g9.1 + g9.2.1)) + (hK kk)) + 5182)) (fun g9 : Nat × Nat × va_W => []) ?_ (fun J_97 => ?_)
        · clear hl B
          rintro ⟨cpB, cqB, tlB⟩ ⟨hP2, hcB⟩ ls H locs hl B
          have hP2 : P2 dI k ((acZ T K xx).1) ((acZ T K xx).2.1) q_1 cpB ((acZ T K xx).1) ((acZ T K xx).2.1) q_4 cqB tlB := hP2
          have hcB : (512 ≤ cpB ∧ cpB ≤ 131072) ∧ 512 ≤ cqB ∧ cqB ≤ 131072 := hcB
          show W p l e _ s m #[Value.ref b] below meth c H locs ((((cpB + cqB) + (gK kk)) + 687)) ((((12 * (cpB + cqB)) + (hK kk)) + 5182)) _ _
          have hl : lv_has ls 9 [(5, .int (iI 1)), (8, .int (iI ((acZ T K xx).2.2))), (7, .int (iI xx)), (6, .int (iI kk)), (4, .int (iI (20 + (z_8 % 31)))), (3, .ref q_7), (2, .ref q_4), (1, .ref q_1), (0, .ref b)] := hl
          have B := bd_to (ws' := ([(q_7, .inl (k 0, 4, .inl (fun i9 : Nat => iI (nf2_51 i9))))] ++ tlB)) rfl B
          refine k_joinG (σ := Nat × Nat × va_W) B 219 (fun g9 : Nat × Nat × va_W => (P2 dI k ((acZ T K xx).1) ((acZ T K xx).2.1) q_1 g9.1 ((acZ T K xx).1) ((acZ T K xx).2.1) q_4 g9.2.1 g9.2.2) ∧ ((512 ≤ g9.1 ∧ g9.1 ≤ 131072) ∧ 512 ≤ g9.2.1 ∧ g9.2.1 ≤ 131072)) (fun g9 : Nat × Nat × va_W => [(5, .int (iI 1)), (8, .int (iI ((acZ T K xx).2.2))), (7, .int (iI xx)), (6, .int (iI kk)), (4, .int (iI (20 + (z_8 % 31)))), (3, .ref q_7), (2, .ref q_4), (1, .ref q_1), (0, .ref b)]) (fun g9 : Nat × Nat × va_W => ([(q_7, .inl (k 0, 4, .inl (fun i9 : Nat => iI (nf2_51 i9))))] ++ g9.2.2)) (fun g9 : Nat × Nat × va_W => (((g9.1 + g9.2.1) + (gK (kk + 1))) + 0)) (fun g9 : Nat × Nat × va_W => (((12 * (g9.1 + g9.2.1)) + (hK (kk + 1))) + 0)) (fun g9 : Nat × Nat × va_W => []) ?_ (fun J_98 => ?_)
          · clear hl B
            rintro ⟨cpC, cqC, tlC⟩ ⟨hP2, hcC⟩ ls H locs hl B
            have hP2 : P2 dI k ((acZ T K xx).1) ((acZ T K xx).2.1) q_1 cpC ((acZ T K xx).1) ((acZ T K xx).2.1) q_4 cqC tlC := hP2
            have hcC : (512 ≤ cpC ∧ cpC ≤ 131072) ∧ 512 ≤ cqC ∧ cqC ≤ 131072 := hcC
            show W p l e _ s m #[Value.ref b] below meth c H locs ((((cpC + cqC) + (gK (kk + 1))) + 0)) ((((12 * (cpC + cqC)) + (hK (kk + 1))) + 0)) _ _
            have hl : lv_has ls 9 [(5, .int (iI 1)), (8, .int (iI ((acZ T K xx).2.2))), (7, .int (iI xx)), (6, .int (iI kk)), (4, .int (iI (20 + (z_8 % 31)))), (3, .ref q_7), (2, .ref q_4), (1, .ref q_1), (0, .ref b)] := hl
            have B := bd_to (ws' := ([(q_7, .inl (k 0, 4, .inl (fun i9 : Nat => iI (nf2_51 i9))))] ++ tlC)) rfl B
            refine lv_iconst (v := iI 1) hx hb dL_law_219 (by decide) ?_
            refine lv_goto (tgt := 224) hx hb dL_law_220 (by decide) ?_
            refine lv_istore (lv' := [(5, .int (iI 1)), (8, .int (iI ((acZ T K xx).2.2))), (7, .int (iI xx)), (6, .int (iI kk)), (4, .int (iI (20 + (z_8 % 31)))), (3, .ref q_7), (2, .ref q_4), (1, .ref q_1), (0, .ref b)]) hx hb dL_law_224 hl (by decide) rfl (fun ls hl => ?_)
            refine lv_iinc (v := iI (kk + 1)) (lv' := [(6, .int (iI (kk + 1))), (5, .int (iI 1)), (8, .int (iI ((acZ T K xx).2.2))), (7, .int (iI xx)), (4, .int (iI (20 + (z_8 % 31)))), (3, .ref q_7), (2, .ref q_4), (1, .ref q_1), (0, .ref b)]) hx hb dL_law_226 hl (k := 3) rfl (iI_add _ _) (by decide) rfl (fun ls hl => ?_)
            refine lv_goto (tgt := 39) hx hb dL_law_229 (by decide) ?_
            refine W.widen (k := (((cpC + cqC) + (gK (kk + 1))) + 0)) (n := (((12 * (cpC + cqC)) + (hK (kk + 1))) + 0)) (by omega) (by omega) ?_
            exact ih_9 ((kk + 1), nf2_51, (acZ T K xx).1, (acZ T K xx).2.1, cpC, cqC, tlC) ⟨(show 0 ≤ (kk + 1) ∧ (kk + 1) ≤ (20 + (z_8 % 31)) from (by omega)), (show P2 dI k ((acZ T K xx).1) ((acZ T K xx).2.1) q_1 cpC ((acZ T K xx).1) ((acZ T K xx).2.1) q_4 cqC tlC from hP2), (show GOOD ((acZ T K xx).1) ((acZ T K xx).2.1) (kk + 1) from hG1), (show NFR ((acZ T K xx).1) ((acZ T K xx).2.1) nf2_51 from hnf1), (show (512 ≤ cpC ∧ cpC ≤ 131072) ∧ 512 ≤ cqC ∧ cqC ≤ 131072 from P2_cp hP2)⟩ (by first | omega | (dsimp only; omega)) _ _ _ (lv_sub hl [0, 1, 4, 5, 6, 7, 8] rfl) (bd_to rfl B)
          refine lv_iload hx hb dL_law_178 (lv_at hl 3 rfl) ?_
          refine lv_bipush (v := iI 9) hx hb dL_law_180 (by decide) ?_
          refine y_rem hx hb (a := kk) (b := 9) (by omega) (by omega) dL_law_182 ?_
          refine lv_if_gt (tgt := 219) hx hb dL_law_183 (by decide) (fun c_99 => ?_) (fun c_99 => ?_)
          · have zc_99 : 0 < (kk % 9) := jlt (a := 0) (b := (kk % 9)) (by omega) (by omega) c_99
            refine W.widen (k := (((cpB + cqB) + (gK (kk + 1))) + 0)) (n := (((12 * (cpB + cqB)) + (hK (kk + 1))) + 0)) (by omega) (by omega) ?_
            exact J_98 (cpB, cqB, tlB) ⟨(show P2 dI k ((acZ T K xx).1) ((acZ T K xx).2.1) q_1 cpB ((acZ T K xx).1) ((acZ T K xx).2.1) q_4 cqB tlB from hP2), (show (512 ≤ cpB ∧ cpB ≤ 131072) ∧ 512 ≤ cqB ∧ cqB ≤ 131072 from P2_cp hP2)⟩ _ _ _ (lv_sub hl [0, 1, 2, 3, 4, 5, 6, 7, 8] rfl) (bd_to rfl B)
          · have zc_99 : (kk % 9) ≤ 0 := jnlt (a := 0) (b := (kk % 9)) (by omega) (by omega) c_99
            refine lv_aload_n hx hb dL_law_186 rfl (lv_at hl 6 rfl) ?_
            refine lv_iload hx hb dL_law_187 (lv_at hl 3 rfl) ?_
            refine lv_bipush (v := iI 9) hx hb dL_law_189 (by decide) ?_
            refine y_div hx hb (a := kk) (b := 9) (by omega) (by omega) dL_law_191 ?_
            refine lv_iconst (v := iI 2) hx hb dL_law_192 (by decide) ?_
            refine y_rem hx hb (a := (kk / 9)) (b := 2) (by omega) (by omega) dL_law_193 ?_
            have B := bd_swap (a := []) (b := [(q_7, .inl (k 0, 4, .inl (fun i9 : Nat => iI (nf2_51 i9))))]) (d := tlB) (bd_to rfl B)
            refine k_S (rest := []) (wc := ([] ++ tlB)) (wr := [(q_7, .inl (k 0, 4, .inl (fun i9 : Nat => iI (nf2_51 i9))))]) (g2_isLaid l dC dI k ((acZ T K xx).1) ((acZ T K xx).2.1) q_1 cpB ((acZ T K xx).1) ((acZ T K xx).2.1) q_4 cqB tlB hl0 ((kk / 9) % 2) hP2 hQ1 (by omega)) B mS_L_isLaid mw_1877 hl ⟨Nat.le_of_ble_eq_true rfl, Nat.le_of_ble_eq_true rfl⟩ (Nat.le_of_ble_eq_true rfl) rfl dL_law_194 ⟨by dsimp only; (try rw [← Nat.add_assoc]); omega, by dsimp only; (try rw [← Nat.add_assoc]); omega⟩ (fun r w gc gs H locs hp B => ?_)
            obtain ⟨cq2_100, tl2_101, z_102, z_103, rfl, hw9, rfl, rfl⟩ := hp
            rw [hw9] at B; clear hw9
            have B := bd_to (ws' := ([(q_7, .inl (k 0, 4, .inl (fun i9 : Nat => iI (nf2_51 i9))))] ++ tl2_101)) rfl B
            have hP2 : P2 dI k ((acZ T K xx).1) ((acZ T K xx).2.1) q_1 cpB ((acZ T K xx).1) ((acZ T K xx).2.1) q_4 cq2_100 tl2_101 := z_102
            refine W.widen (k := (((cpB + cq2_100) + (gK kk)) + 8687)) (n := (((12 * (cpB + cq2_100)) + (hK kk)) + 53182)) (by omega) (by omega) ?_
            refine lv_if_eq (tgt := 223) hx hb dL_law_197 (by decide) (fun c9 => absurd c9 (by decide)) (fun _ => ?_)
            refine lv_aload_n hx hb dL_law_200 rfl (lv_at hl 6 rfl) ?_
            refine lv_iload hx hb dL_law_201 (lv_at hl 3 rfl) ?_
            refine lv_bipush (v := iI 9) hx hb dL_law_203 (by decide) ?_
            refine y_div hx hb (a := kk) (b := 9) (by omega) (by omega) dL_law_205 ?_
            refine lv_iconst (v := iI 2) hx hb dL_law_206 (by decide) ?_
            refine y_rem hx hb (a := (kk / 9)) (b := 2) (by omega) (by omega) dL_law_207 ?_
            refine lv_iload hx hb dL_law_208 (lv_at hl 2 rfl) ?_
            refine lv_bipush (v := iI 7) hx hb dL_law_210 (by decide) ?_
            refine y_div hx hb (a := xx) (b := 7) (by omega) (by omega) dL_law_212 ?_
            have B := bd_swap (a := []) (b := [(q_7, .inl (k 0, 4, .inl (fun i9 : Nat => iI (nf2_51 i9))))]) (d := tl2_101) (bd_to rfl B)
            refine k_S (rest := []) (wc := ([] ++ tl2_101)) (wr := [(q_7, .inl (k 0, 4, .inl (fun i9 : Nat => iI (nf2_51 i9))))]) (g2_isTold l dC dI k ((acZ T K xx).1) ((acZ T K xx).2.1) q_1 cpB ((acZ T K xx).1) ((acZ T K xx).2.1) q_4 cq2_100 tl2_101 hl0 ((kk / 9) % 2) (xx / 7) z_102 hQ1 (by omega) (by omega) (TOLD_v hT0 hT1 (by omega))) B mS_L_isTold mw_1880 hl ⟨Nat.le_of_ble_eq_true rfl, Nat.le_of_ble_eq_true rfl⟩ (Nat.le_of_ble_eq_true rfl) rfl dL_law_213 ⟨by dsimp only; (try rw [← Nat.add_assoc]); omega, by dsimp only; (try rw [← Nat.add_assoc]); omega⟩ (fun r w gc gs H locs hp B => ?_)
            obtain ⟨cq2_104, tl2_105, z_106, z_107, rfl, hw9, rfl, rfl⟩ := hp
            rw [hw9] at B; clear hw9
            have B := bd_to (ws' := ([(q_7, .inl (k 0, 4, .inl (fun i9 : Nat => iI (nf2_51 i9))))] ++ tl2_105)) rfl B
            have hP2 : P2 dI k ((acZ T K xx).1) ((acZ T K xx).2.1) q_1 cpB ((acZ T K xx).1) ((acZ T K xx).2.1) q_4 cq2_104 tl2_105 := z_106
            refine W.widen (k := (((cpB + cq2_104) + (gK kk)) + 14687)) (n := (((12 * (cpB + cq2_104)) + (hK kk)) + 89182)) (by omega) (by omega) ?_
            refine lv_if_eq (tgt := 223) hx hb dL_law_216 (by decide) (fun c9 => absurd c9 (by decide)) (fun _ => ?_)
            refine W.widen (k := (((cpB + cq2_104) + (gK (kk + 1))) + 0)) (n := (((12 * (cpB + cq2_104)) + (hK (kk + 1))) + 0)) (by omega) (by omega) ?_
            exact J_98 (cpB, cq2_104, tl2_105) ⟨(show P2 dI k ((acZ T K xx).1) ((acZ T K xx).2.1) q_1 cpB ((acZ T K xx).1) ((acZ T K xx).2.1) q_4 cq2_104 tl2_105 from hP2), (show (512 ≤ cpB ∧ cpB ≤ 131072) ∧ 512 ≤ cq2_104 ∧ cq2_104 ≤ 131072 from P2_cp hP2)⟩ _ _ _ (lv_sub hl [0, 1, 2, 3, 4, 5, 6, 7, 8] rfl) (bd_to rfl B)
        refine W.widen (k := (((cp2_52 + cq2_93) + (gK kk)) + 287)) (n := (((12 * (cp2_52 + cq2_93)) + (hK kk)) + 2782)) (by omega) (by omega) ?_
        exact J_60 (cp2_52, cq2_93, tl2_94) ⟨(show P2 dI k ((acZ T K xx).1) ((acZ T K xx).2.1) q_1 cp2_52 ((acZ T K xx).1) ((acZ T K xx).2.1) q_4 cq2_93 tl2_94 from hP2), (show (512 ≤ cp2_52 ∧ cp2_52 ≤ 131072) ∧ 512 ≤ cq2_93 ∧ cq2_93 ≤ 131072 from P2_cp hP2)⟩ _ _ _ (lv_sub hl [0, 1, 2, 3, 4, 5, 6, 7, 8] rfl) (bd_to rfl B)
    refine lv_iload hx hb dL_law_61 (lv_at hl 1 rfl) ?_
    refine lv_iconst (v := iI 2) hx hb dL_law_63 (by decide) ?_
    refine lv_icmp_ge (tgt := 78) hx hb dL_law_64 (by decide) (fun c_108 => ?_) (fun c_108 => ?_)
    · have zc_108 : 2 ≤ kk := jle (a := 2) (b := kk) (by omega) (by omega) c_108
      refine lv_iload hx hb dL_law_78 (lv_at hl 0 rfl) ?_
      exact J_37 z_36 (show 0 ≤ z_36 ∧ z_36 ≤ 2147483647 from (by omega)) _ _ _ (lv_sub hl [0, 1, 2, 3, 4, 5, 6, 7] rfl) (bd_to rfl B)
    · have zc_108 : kk < 2 := jnle (a := 2) (b := kk) (by omega) (by omega) c_108
      refine lv_bipush (v := iI 16) hx hb dL_law_67 (by decide) ?_
      refine lv_iload hx hb dL_law_69 (lv_at hl 0 rfl) ?_
      refine lv_bipush (v := iI 16) hx hb dL_law_71 (by decide) ?_
      refine y_div hx hb (a := z_36) (b := 16) (by omega) (by omega) dL_law_73 ?_
      refine y_mul hx hb dL_law_74 ?_
      refine lv_goto (tgt := 80) hx hb dL_law_75 (by decide) ?_
      exact J_37 (16 * (z_36 / 16)) (show 0 ≤ (16 * (z_36 / 16)) ∧ (16 * (z_36 / 16)) ≤ 2147483647 from (by omega)) _ _ _ (lv_sub hl [0, 1, 2, 3, 4, 5, 6, 7] rfl) (bd_to rfl B)

end
