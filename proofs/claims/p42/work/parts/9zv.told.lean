section
/-- what a variant tells of words, lines and labels -/
def TOLD (T : Nat → Int → Int → Int → Int) (v : Int) : Prop :=
  (∀ pl, 0 ≤ pl → pl < T 0 0 0 0 → (0 ≤ LCz T v (dgN T v) pl ∧ LCz T v (dgN T v) pl ≤ 48) ∧ (∀ li, 0 ≤ li → li < LCz T v (dgN T v) pl → (0 ≤ (LEz T v (dgN T v) pl li) ∧ (LEz T v (dgN T v) pl li) ≤ 120) ∧ (0 ≤ LKz T v (dgN T v) pl li ∧ LKz T v (dgN T v) pl li ≤ 3) ∧ ((LEz T v (dgN T v) pl li) % 10 ≠ 0 → (LEz T v (dgN T v) pl li) / 10 < T 3 pl 0 0 ∧ bAnd (bShr (T 8 pl ((LEz T v (dgN T v) pl li) / 10) 0) ((LEz T v (dgN T v) pl li) % 10)) 1 = 1) ∧ (0 < li → (0 ≤ (LEz T v (dgN T v) pl (li - 1)) ∧ (LEz T v (dgN T v) pl (li - 1)) ≤ 120) ∧ ((LEz T v (dgN T v) pl (li - 1)) / 10 < (LEz T v (dgN T v) pl li) / 10 ∨ ((LEz T v (dgN T v) pl li) / 10 = (LEz T v (dgN T v) pl (li - 1)) / 10 ∧ 0 < (LEz T v (dgN T v) pl (li - 1)) % 10 ∧ ((LEz T v (dgN T v) pl li) % 10 = 0 ∨ (LEz T v (dgN T v) pl (li - 1)) % 10 < (LEz T v (dgN T v) pl li) % 10))))) ∧ (0 < LCz T v (dgN T v) pl → (LEz T v (dgN T v) pl (LCz T v (dgN T v) pl - 1)) % 10 = 0) ∧ (byZ T v (dgN T v) pl = LDz T v (dgN T v) pl ∨ (byZ T v (dgN T v) pl = -1 ∧ 0 < LCz T v (dgN T v) pl)) ∧ ((LCz T v (dgN T v) pl = 0 ∧ LDz T v (dgN T v) pl = 0) ∨ (0 < LCz T v (dgN T v) pl ∧ 0 < LDz T v (dgN T v) pl)) ∧ LDz T v (dgN T v) pl ≤ 2003356800) ∧
  (∀ pl at_, 0 ≤ pl → pl < T 0 0 0 0 → 0 ≤ at_ → at_ < T 3 pl 0 0 → whZ T v pl at_ = -1 ∨ ((0 ≤ whZ T v pl at_ ∧ whZ T v pl at_ ≤ 966000) ∧ (1 ≤ (whZ T v pl at_) / 1000 ∧ (whZ T v pl at_) / 1000 ≤ mkZ T (moC T v (dgN T v)) 0 0) ∧ (0 ≤ (whZ T v pl at_) % 1000 ∧ (whZ T v pl at_) % 1000 < mkZ T (moC T v (dgN T v)) 2 ((whZ T v pl at_) / 1000 - 1)) ∧ (0 ≤ txZ T v ((whZ T v pl at_) / 1000) ((whZ T v pl at_) % 1000) ∧ txZ T v ((whZ T v pl at_) / 1000) ((whZ T v pl at_) % 1000) ≤ 15047) ∧ (txZ T v ((whZ T v pl at_) / 1000) ((whZ T v pl at_) % 1000)) / 1000 = pl)) ∧ (∀ b_, 0 ≤ b_ → b_ ≤ 5 → lbZ (moC T v (dgN T v)) (mkZ T (moC T v (dgN T v))) b_ = -1 ∨ (1 ≤ lbZ (moC T v (dgN T v)) (mkZ T (moC T v (dgN T v))) b_ ∧ lbZ (moC T v (dgN T v)) (mkZ T (moC T v (dgN T v))) b_ ≤ mkZ T (moC T v (dgN T v)) 0 0)) ∧ ∀ t, 0 ≤ t → t ≤ 7 → (-1 ≤ rgZ (fpZ T (moC T v (dgN T v)) (mkZ T (moC T v (dgN T v))) t) 0 (mkZ T (moC T v (dgN T v)) 0 0) ∧ rgZ (fpZ T (moC T v (dgN T v)) (mkZ T (moC T v (dgN T v))) t) 0 (mkZ T (moC T v (dgN T v)) 0 0) ≤ 966000) ∧ (-1 ≤ rgZ (fpZ T (moC T v (dgN T v)) (mkZ T (moC T v (dgN T v))) t) 1 (mkZ T (moC T v (dgN T v)) 0 0) ∧ rgZ (fpZ T (moC T v (dgN T v)) (mkZ T (moC T v (dgN T v))) t) 1 (mkZ T (moC T v (dgN T v)) 0 0) ≤ 966000) ∧ (0 ≤ rgZ (fpZ T (moC T v (dgN T v)) (mkZ T (moC T v (dgN T v))) t) 0 (mkZ T (moC T v (dgN T v)) 0 0) → (rgZ (fpZ T (moC T v (dgN T v)) (mkZ T (moC T v (dgN T v))) t) 0 (mkZ T (moC T v (dgN T v)) 0 0)) / 1000 ≤ (rgZ (fpZ T (moC T v (dgN T v)) (mkZ T (moC T v (dgN T v))) t) 0 (mkZ T (moC T v (dgN T v)) 0 0)) % 1000) ∧ (0 ≤ rgZ (fpZ T (moC T v (dgN T v)) (mkZ T (moC T v (dgN T v))) t) 1 (mkZ T (moC T v (dgN T v)) 0 0) → 0 ≤ rgZ (fpZ T (moC T v (dgN T v)) (mkZ T (moC T v (dgN T v))) t) 0 (mkZ T (moC T v (dgN T v)) 0 0) ∧ (rgZ (fpZ T (moC T v (dgN T v)) (mkZ T (moC T v (dgN T v))) t) 0 (mkZ T (moC T v (dgN T v)) 0 0)) % 1000 + 1 < (rgZ (fpZ T (moC T v (dgN T v)) (mkZ T (moC T v (dgN T v))) t) 1 (mkZ T (moC T v (dgN T v)) 0 0)) / 1000)

theorem mw_1883 : (Jvm.Cond.constantLong "GalleyforgeLaw" (247 : Nat) (-1 : Int64)) ∈ gt := gt_at 1953 (by decide +kernel) (by decide +kernel)
theorem dL_isTold_0 : decode cL_isTold 0 = .ok (.iconst 1, 1) := by decide +kernel
theorem dL_isTold_1 : decode cL_isTold 1 = .ok (.istore_n 3, 1) := by decide +kernel
theorem dL_isTold_2 : decode cL_isTold 2 = .ok (.iconst 0, 1) := by decide +kernel
theorem dL_isTold_3 : decode cL_isTold 3 = .ok (.istore 4, 2) := by decide +kernel
theorem dL_isTold_5 : decode cL_isTold 5 = .ok (.iload 4, 2) := by decide +kernel
theorem dL_isTold_7 : decode cL_isTold 7 = .ok (.aload_n 0, 1) := by decide +kernel
theorem dL_isTold_8 : decode cL_isTold 8 = .ok (.invokevirtual 245, 3) := by decide +kernel
theorem dL_isTold_11 : decode cL_isTold 11 = .ok (.if_icmp .ge 386, 3) := by decide +kernel
theorem dL_isTold_14 : decode cL_isTold 14 = .ok (.iload_n 3, 1) := by decide +kernel
theorem dL_isTold_15 : decode cL_isTold 15 = .ok (.ifCond .eq 382, 3) := by decide +kernel
theorem dL_isTold_18 : decode cL_isTold 18 = .ok (.aload_n 0, 1) := by decide +kernel
theorem dL_isTold_19 : decode cL_isTold 19 = .ok (.iload_n 1, 1) := by decide +kernel
theorem dL_isTold_20 : decode cL_isTold 20 = .ok (.iload 4, 2) := by decide +kernel
theorem dL_isTold_22 : decode cL_isTold 22 = .ok (.invokestatic 196, 3) := by decide +kernel
theorem dL_isTold_25 : decode cL_isTold 25 = .ok (.istore 5, 2) := by decide +kernel
theorem dL_isTold_27 : decode cL_isTold 27 = .ok (.iconst (-1), 1) := by decide +kernel
theorem dL_isTold_28 : decode cL_isTold 28 = .ok (.istore 6, 2) := by decide +kernel
theorem dL_isTold_30 : decode cL_isTold 30 = .ok (.iconst 0, 1) := by decide +kernel
theorem dL_isTold_31 : decode cL_isTold 31 = .ok (.istore 7, 2) := by decide +kernel
theorem dL_isTold_33 : decode cL_isTold 33 = .ok (.iload 7, 2) := by decide +kernel
theorem dL_isTold_35 : decode cL_isTold 35 = .ok (.iload 5, 2) := by decide +kernel
theorem dL_isTold_37 : decode cL_isTold 37 = .ok (.if_icmp .ge 142, 3) := by decide +kernel
theorem dL_isTold_40 : decode cL_isTold 40 = .ok (.iload_n 3, 1) := by decide +kernel
theorem dL_isTold_41 : decode cL_isTold 41 = .ok (.ifCond .eq 138, 3) := by decide +kernel
theorem dL_isTold_44 : decode cL_isTold 44 = .ok (.aload_n 0, 1) := by decide +kernel
theorem dL_isTold_45 : decode cL_isTold 45 = .ok (.iload_n 1, 1) := by decide +kernel
theorem dL_isTold_46 : decode cL_isTold 46 = .ok (.iload 4, 2) := by decide +kernel
theorem dL_isTold_48 : decode cL_isTold 48 = .ok (.iload 7, 2) := by decide +kernel
theorem dL_isTold_50 : decode cL_isTold 50 = .ok (.invokestatic 198, 3) := by decide +kernel
theorem dL_isTold_53 : decode cL_isTold 53 = .ok (.istore 8, 2) := by decide +kernel
theorem dL_isTold_55 : decode cL_isTold 55 = .ok (.iload 8, 2) := by decide +kernel
theorem dL_isTold_57 : decode cL_isTold 57 = .ok (.bipush 10, 2) := by decide +kernel
theorem dL_isTold_59 : decode cL_isTold 59 = .ok (.irem, 1) := by decide +kernel
theorem dL_isTold_60 : decode cL_isTold 60 = .ok (.istore 9, 2) := by decide +kernel
theorem dL_isTold_62 : decode cL_isTold 62 = .ok (.aload_n 0, 1) := by decide +kernel
theorem dL_isTold_63 : decode cL_isTold 63 = .ok (.iload_n 1, 1) := by decide +kernel
theorem dL_isTold_64 : decode cL_isTold 64 = .ok (.iload 4, 2) := by decide +kernel
theorem dL_isTold_66 : decode cL_isTold 66 = .ok (.iload 7, 2) := by decide +kernel
theorem dL_isTold_68 : decode cL_isTold 68 = .ok (.invokestatic 200, 3) := by decide +kernel
theorem dL_isTold_71 : decode cL_isTold 71 = .ok (.istore 10, 2) := by decide +kernel
theorem dL_isTold_73 : decode cL_isTold 73 = .ok (.iload 8, 2) := by decide +kernel
theorem dL_isTold_75 : decode cL_isTold 75 = .ok (.bipush 10, 2) := by decide +kernel
theorem dL_isTold_77 : decode cL_isTold 77 = .ok (.idiv, 1) := by decide +kernel
theorem dL_isTold_78 : decode cL_isTold 78 = .ok (.iload 6, 2) := by decide +kernel
theorem dL_isTold_80 : decode cL_isTold 80 = .ok (.bipush 10, 2) := by decide +kernel
theorem dL_isTold_82 : decode cL_isTold 82 = .ok (.idiv, 1) := by decide +kernel
theorem dL_isTold_83 : decode cL_isTold 83 = .ok (.if_icmp .gt 44, 3) := by decide +kernel
theorem dL_isTold_86 : decode cL_isTold 86 = .ok (.iload 6, 2) := by decide +kernel
theorem dL_isTold_88 : decode cL_isTold 88 = .ok (.ifCond .lt 39, 3) := by decide +kernel
theorem dL_isTold_91 : decode cL_isTold 91 = .ok (.iload 8, 2) := by decide +kernel
theorem dL_isTold_93 : decode cL_isTold 93 = .ok (.bipush 10, 2) := by decide +kernel
theorem dL_isTold_95 : decode cL_isTold 95 = .ok (.idiv, 1) := by decide +kernel
theorem dL_isTold_96 : decode cL_isTold 96 = .ok (.iload 6, 2) := by decide +kernel
theorem dL_isTold_98 : decode cL_isTold 98 = .ok (.bipush 10, 2) := by decide +kernel
theorem dL_isTold_100 : decode cL_isTold 100 = .ok (.idiv, 1) := by decide +kernel
theorem dL_isTold_101 : decode cL_isTold 101 = .ok (.if_icmp .ne 66, 3) := by decide +kernel
theorem dL_isTold_104 : decode cL_isTold 104 = .ok (.iload 6, 2) := by decide +kernel
theorem dL_isTold_106 : decode cL_isTold 106 = .ok (.bipush 10, 2) := by decide +kernel
theorem dL_isTold_108 : decode cL_isTold 108 = .ok (.irem, 1) := by decide +kernel
theorem dL_isTold_109 : decode cL_isTold 109 = .ok (.ifCond .le 58, 3) := by decide +kernel
theorem dL_isTold_112 : decode cL_isTold 112 = .ok (.iload 9, 2) := by decide +kernel
theorem dL_isTold_114 : decode cL_isTold 114 = .ok (.ifCond .eq 13, 3) := by decide +kernel
theorem dL_isTold_117 : decode cL_isTold 117 = .ok (.iload 9, 2) := by decide +kernel
theorem dL_isTold_119 : decode cL_isTold 119 = .ok (.iload 6, 2) := by decide +kernel
theorem dL_isTold_121 : decode cL_isTold 121 = .ok (.bipush 10, 2) := by decide +kernel
theorem dL_isTold_123 : decode cL_isTold 123 = .ok (.irem, 1) := by decide +kernel
theorem dL_isTold_124 : decode cL_isTold 124 = .ok (.if_icmp .le 43, 3) := by decide +kernel
theorem dL_isTold_127 : decode cL_isTold 127 = .ok (.iload 10, 2) := by decide +kernel
theorem dL_isTold_129 : decode cL_isTold 129 = .ok (.ifCond .lt 38, 3) := by decide +kernel
theorem dL_isTold_132 : decode cL_isTold 132 = .ok (.iload 10, 2) := by decide +kernel
theorem dL_isTold_134 : decode cL_isTold 134 = .ok (.iconst 3, 1) := by decide +kernel
theorem dL_isTold_135 : decode cL_isTold 135 = .ok (.if_icmp .gt 32, 3) := by decide +kernel
theorem dL_isTold_138 : decode cL_isTold 138 = .ok (.iload 9, 2) := by decide +kernel
theorem dL_isTold_140 : decode cL_isTold 140 = .ok (.ifCond .eq 23, 3) := by decide +kernel
theorem dL_isTold_143 : decode cL_isTold 143 = .ok (.aload_n 0, 1) := by decide +kernel
theorem dL_isTold_144 : decode cL_isTold 144 = .ok (.iload 4, 2) := by decide +kernel
theorem dL_isTold_146 : decode cL_isTold 146 = .ok (.iload 8, 2) := by decide +kernel
theorem dL_isTold_148 : decode cL_isTold 148 = .ok (.bipush 10, 2) := by decide +kernel
theorem dL_isTold_150 : decode cL_isTold 150 = .ok (.idiv, 1) := by decide +kernel
theorem dL_isTold_151 : decode cL_isTold 151 = .ok (.invokestatic 186, 3) := by decide +kernel
theorem dL_isTold_154 : decode cL_isTold 154 = .ok (.iload 9, 2) := by decide +kernel
theorem dL_isTold_156 : decode cL_isTold 156 = .ok (.ishr, 1) := by decide +kernel
theorem dL_isTold_157 : decode cL_isTold 157 = .ok (.iconst 1, 1) := by decide +kernel
theorem dL_isTold_158 : decode cL_isTold 158 = .ok (.iand, 1) := by decide +kernel
theorem dL_isTold_159 : decode cL_isTold 159 = .ok (.iconst 1, 1) := by decide +kernel
theorem dL_isTold_160 : decode cL_isTold 160 = .ok (.if_icmp .ne 7, 3) := by decide +kernel
theorem dL_isTold_163 : decode cL_isTold 163 = .ok (.iconst 1, 1) := by decide +kernel
theorem dL_isTold_164 : decode cL_isTold 164 = .ok (.goto 4, 3) := by decide +kernel
theorem dL_isTold_168 : decode cL_isTold 168 = .ok (.istore_n 3, 1) := by decide +kernel
theorem dL_isTold_169 : decode cL_isTold 169 = .ok (.iload 8, 2) := by decide +kernel
theorem dL_isTold_171 : decode cL_isTold 171 = .ok (.istore 6, 2) := by decide +kernel
theorem dL_isTold_173 : decode cL_isTold 173 = .ok (.iinc 7 1, 3) := by decide +kernel
theorem dL_isTold_176 : decode cL_isTold 176 = .ok (.goto (-143), 3) := by decide +kernel
theorem dL_isTold_179 : decode cL_isTold 179 = .ok (.aload_n 0, 1) := by decide +kernel
theorem dL_isTold_180 : decode cL_isTold 180 = .ok (.iload_n 1, 1) := by decide +kernel
theorem dL_isTold_181 : decode cL_isTold 181 = .ok (.iload 4, 2) := by decide +kernel
theorem dL_isTold_183 : decode cL_isTold 183 = .ok (.invokestatic 206, 3) := by decide +kernel
theorem dL_isTold_186 : decode cL_isTold 186 = .ok (.lstore 7, 2) := by decide +kernel
theorem dL_isTold_188 : decode cL_isTold 188 = .ok (.iload_n 3, 1) := by decide +kernel
theorem dL_isTold_189 : decode cL_isTold 189 = .ok (.ifCond .eq 77, 3) := by decide +kernel
theorem dL_isTold_192 : decode cL_isTold 192 = .ok (.iload 5, 2) := by decide +kernel
theorem dL_isTold_194 : decode cL_isTold 194 = .ok (.ifCond .eq 11, 3) := by decide +kernel
theorem dL_isTold_197 : decode cL_isTold 197 = .ok (.iload 6, 2) := by decide +kernel
theorem dL_isTold_199 : decode cL_isTold 199 = .ok (.bipush 10, 2) := by decide +kernel
theorem dL_isTold_201 : decode cL_isTold 201 = .ok (.irem, 1) := by decide +kernel
theorem dL_isTold_202 : decode cL_isTold 202 = .ok (.ifCond .ne 64, 3) := by decide +kernel
theorem dL_isTold_205 : decode cL_isTold 205 = .ok (.lload 7, 2) := by decide +kernel
theorem dL_isTold_207 : decode cL_isTold 207 = .ok (.aload_n 0, 1) := by decide +kernel
theorem dL_isTold_208 : decode cL_isTold 208 = .ok (.iload_n 1, 1) := by decide +kernel
theorem dL_isTold_209 : decode cL_isTold 209 = .ok (.iload 4, 2) := by decide +kernel
theorem dL_isTold_211 : decode cL_isTold 211 = .ok (.invokestatic 203, 3) := by decide +kernel
theorem dL_isTold_214 : decode cL_isTold 214 = .ok (.lcmp, 1) := by decide +kernel
theorem dL_isTold_215 : decode cL_isTold 215 = .ok (.ifCond .eq 17, 3) := by decide +kernel
theorem dL_isTold_218 : decode cL_isTold 218 = .ok (.lload 7, 2) := by decide +kernel
theorem dL_isTold_220 : decode cL_isTold 220 = .ok (.ldc2_w 247, 3) := by decide +kernel
theorem dL_isTold_223 : decode cL_isTold 223 = .ok (.lcmp, 1) := by decide +kernel
theorem dL_isTold_224 : decode cL_isTold 224 = .ok (.ifCond .ne 42, 3) := by decide +kernel
theorem dL_isTold_227 : decode cL_isTold 227 = .ok (.iload 5, 2) := by decide +kernel
theorem dL_isTold_229 : decode cL_isTold 229 = .ok (.ifCond .le 37, 3) := by decide +kernel
theorem dL_isTold_232 : decode cL_isTold 232 = .ok (.iload 5, 2) := by decide +kernel
theorem dL_isTold_234 : decode cL_isTold 234 = .ok (.ifCond .ne 7, 3) := by decide +kernel
theorem dL_isTold_237 : decode cL_isTold 237 = .ok (.iconst 1, 1) := by decide +kernel
theorem dL_isTold_238 : decode cL_isTold 238 = .ok (.goto 4, 3) := by decide +kernel
theorem dL_isTold_241 : decode cL_isTold 241 = .ok (.iconst 0, 1) := by decide +kernel
theorem dL_isTold_242 : decode cL_isTold 242 = .ok (.aload_n 0, 1) := by decide +kernel
theorem dL_isTold_243 : decode cL_isTold 243 = .ok (.iload_n 1, 1) := by decide +kernel
theorem dL_isTold_244 : decode cL_isTold 244 = .ok (.iload 4, 2) := by decide +kernel
theorem dL_isTold_246 : decode cL_isTold 246 = .ok (.invokestatic 203, 3) := by decide +kernel
theorem dL_isTold_249 : decode cL_isTold 249 = .ok (.lconst 0, 1) := by decide +kernel
theorem dL_isTold_250 : decode cL_isTold 250 = .ok (.lcmp, 1) := by decide +kernel
theorem dL_isTold_251 : decode cL_isTold 251 = .ok (.ifCond .ne 7, 3) := by decide +kernel
theorem dL_isTold_254 : decode cL_isTold 254 = .ok (.iconst 1, 1) := by decide +kernel
theorem dL_isTold_255 : decode cL_isTold 255 = .ok (.goto 4, 3) := by decide +kernel
theorem dL_isTold_258 : decode cL_isTold 258 = .ok (.iconst 0, 1) := by decide +kernel
theorem dL_isTold_259 : decode cL_isTold 259 = .ok (.if_icmp .ne 7, 3) := by decide +kernel
theorem dL_isTold_262 : decode cL_isTold 262 = .ok (.iconst 1, 1) := by decide +kernel
theorem dL_isTold_263 : decode cL_isTold 263 = .ok (.goto 4, 3) := by decide +kernel
theorem dL_isTold_267 : decode cL_isTold 267 = .ok (.istore_n 3, 1) := by decide +kernel
theorem dL_isTold_268 : decode cL_isTold 268 = .ok (.iconst 0, 1) := by decide +kernel
theorem dL_isTold_269 : decode cL_isTold 269 = .ok (.istore 9, 2) := by decide +kernel
theorem dL_isTold_271 : decode cL_isTold 271 = .ok (.iload 9, 2) := by decide +kernel
theorem dL_isTold_273 : decode cL_isTold 273 = .ok (.aload_n 0, 1) := by decide +kernel
theorem dL_isTold_274 : decode cL_isTold 274 = .ok (.iload 4, 2) := by decide +kernel
theorem dL_isTold_276 : decode cL_isTold 276 = .ok (.invokestatic 183, 3) := by decide +kernel
theorem dL_isTold_279 : decode cL_isTold 279 = .ok (.if_icmp .ge 112, 3) := by decide +kernel
theorem dL_isTold_282 : decode cL_isTold 282 = .ok (.iload_n 3, 1) := by decide +kernel
theorem dL_isTold_283 : decode cL_isTold 283 = .ok (.ifCond .eq 108, 3) := by decide +kernel
theorem dL_isTold_286 : decode cL_isTold 286 = .ok (.aload_n 0, 1) := by decide +kernel
theorem dL_isTold_287 : decode cL_isTold 287 = .ok (.iload_n 1, 1) := by decide +kernel
theorem dL_isTold_288 : decode cL_isTold 288 = .ok (.iload 4, 2) := by decide +kernel
theorem dL_isTold_290 : decode cL_isTold 290 = .ok (.iload 9, 2) := by decide +kernel
theorem dL_isTold_292 : decode cL_isTold 292 = .ok (.invokestatic 226, 3) := by decide +kernel
theorem dL_isTold_295 : decode cL_isTold 295 = .ok (.istore 10, 2) := by decide +kernel
theorem dL_isTold_297 : decode cL_isTold 297 = .ok (.iload 10, 2) := by decide +kernel
theorem dL_isTold_299 : decode cL_isTold 299 = .ok (.ifCond .ge 7, 3) := by decide +kernel
theorem dL_isTold_302 : decode cL_isTold 302 = .ok (.iconst 0, 1) := by decide +kernel
theorem dL_isTold_303 : decode cL_isTold 303 = .ok (.goto 20, 3) := by decide +kernel
theorem dL_isTold_306 : decode cL_isTold 306 = .ok (.aload_n 0, 1) := by decide +kernel
theorem dL_isTold_307 : decode cL_isTold 307 = .ok (.iload_n 1, 1) := by decide +kernel
theorem dL_isTold_308 : decode cL_isTold 308 = .ok (.iload 10, 2) := by decide +kernel
theorem dL_isTold_310 : decode cL_isTold 310 = .ok (.sipush 1000, 3) := by decide +kernel
theorem dL_isTold_313 : decode cL_isTold 313 = .ok (.idiv, 1) := by decide +kernel
theorem dL_isTold_314 : decode cL_isTold 314 = .ok (.iload 10, 2) := by decide +kernel
theorem dL_isTold_316 : decode cL_isTold 316 = .ok (.sipush 1000, 3) := by decide +kernel
theorem dL_isTold_319 : decode cL_isTold 319 = .ok (.irem, 1) := by decide +kernel
theorem dL_isTold_320 : decode cL_isTold 320 = .ok (.invokestatic 224, 3) := by decide +kernel
theorem dL_isTold_323 : decode cL_isTold 323 = .ok (.istore 11, 2) := by decide +kernel
theorem dL_isTold_325 : decode cL_isTold 325 = .ok (.iload 10, 2) := by decide +kernel
theorem dL_isTold_327 : decode cL_isTold 327 = .ok (.ifCond .ge 17, 3) := by decide +kernel
theorem dL_isTold_330 : decode cL_isTold 330 = .ok (.iload 10, 2) := by decide +kernel
theorem dL_isTold_332 : decode cL_isTold 332 = .ok (.iconst (-1), 1) := by decide +kernel
theorem dL_isTold_333 : decode cL_isTold 333 = .ok (.if_icmp .ne 7, 3) := by decide +kernel
theorem dL_isTold_336 : decode cL_isTold 336 = .ok (.iconst 1, 1) := by decide +kernel
theorem dL_isTold_337 : decode cL_isTold 337 = .ok (.goto 47, 3) := by decide +kernel
theorem dL_isTold_344 : decode cL_isTold 344 = .ok (.iload 11, 2) := by decide +kernel
theorem dL_isTold_346 : decode cL_isTold 346 = .ok (.sipush 1000, 3) := by decide +kernel
theorem dL_isTold_349 : decode cL_isTold 349 = .ok (.idiv, 1) := by decide +kernel
theorem dL_isTold_350 : decode cL_isTold 350 = .ok (.iload 4, 2) := by decide +kernel
theorem dL_isTold_352 : decode cL_isTold 352 = .ok (.if_icmp .ne 31, 3) := by decide +kernel
theorem dL_isTold_355 : decode cL_isTold 355 = .ok (.iload 10, 2) := by decide +kernel
theorem dL_isTold_357 : decode cL_isTold 357 = .ok (.sipush 1000, 3) := by decide +kernel
theorem dL_isTold_360 : decode cL_isTold 360 = .ok (.idiv, 1) := by decide +kernel
theorem dL_isTold_361 : decode cL_isTold 361 = .ok (.iconst 1, 1) := by decide +kernel
theorem dL_isTold_362 : decode cL_isTold 362 = .ok (.if_icmp .lt 21, 3) := by decide +kernel
theorem dL_isTold_365 : decode cL_isTold 365 = .ok (.iload 10, 2) := by decide +kernel
theorem dL_isTold_367 : decode cL_isTold 367 = .ok (.sipush 1000, 3) := by decide +kernel
theorem dL_isTold_370 : decode cL_isTold 370 = .ok (.idiv, 1) := by decide +kernel
theorem dL_isTold_371 : decode cL_isTold 371 = .ok (.aload_n 0, 1) := by decide +kernel
theorem dL_isTold_372 : decode cL_isTold 372 = .ok (.iload_n 1, 1) := by decide +kernel
theorem dL_isTold_373 : decode cL_isTold 373 = .ok (.invokestatic 209, 3) := by decide +kernel
theorem dL_isTold_376 : decode cL_isTold 376 = .ok (.if_icmp .gt 7, 3) := by decide +kernel
theorem dL_isTold_379 : decode cL_isTold 379 = .ok (.iconst 1, 1) := by decide +kernel
theorem dL_isTold_380 : decode cL_isTold 380 = .ok (.goto 4, 3) := by decide +kernel
theorem dL_isTold_384 : decode cL_isTold 384 = .ok (.istore_n 3, 1) := by decide +kernel
theorem dL_isTold_385 : decode cL_isTold 385 = .ok (.iinc 9 1, 3) := by decide +kernel
theorem dL_isTold_388 : decode cL_isTold 388 = .ok (.goto (-117), 3) := by decide +kernel
theorem dL_isTold_391 : decode cL_isTold 391 = .ok (.iinc 4 1, 3) := by decide +kernel
theorem dL_isTold_394 : decode cL_isTold 394 = .ok (.goto (-389), 3) := by decide +kernel
theorem dL_isTold_397 : decode cL_isTold 397 = .ok (.aload_n 0, 1) := by decide +kernel
theorem dL_isTold_398 : decode cL_isTold 398 = .ok (.iload_n 1, 1) := by decide +kernel
theorem dL_isTold_399 : decode cL_isTold 399 = .ok (.iload_n 2, 1) := by decide +kernel
theorem dL_isTold_400 : decode cL_isTold 400 = .ok (.bipush 6, 2) := by decide +kernel
theorem dL_isTold_402 : decode cL_isTold 402 = .ok (.irem, 1) := by decide +kernel
theorem dL_isTold_403 : decode cL_isTold 403 = .ok (.invokestatic 230, 3) := by decide +kernel
theorem dL_isTold_406 : decode cL_isTold 406 = .ok (.istore 4, 2) := by decide +kernel
theorem dL_isTold_408 : decode cL_isTold 408 = .ok (.aload_n 0, 1) := by decide +kernel
theorem dL_isTold_409 : decode cL_isTold 409 = .ok (.iload_n 1, 1) := by decide +kernel
theorem dL_isTold_410 : decode cL_isTold 410 = .ok (.iload_n 2, 1) := by decide +kernel
theorem dL_isTold_411 : decode cL_isTold 411 = .ok (.bipush 8, 2) := by decide +kernel
theorem dL_isTold_413 : decode cL_isTold 413 = .ok (.irem, 1) := by decide +kernel
theorem dL_isTold_414 : decode cL_isTold 414 = .ok (.iconst 0, 1) := by decide +kernel
theorem dL_isTold_415 : decode cL_isTold 415 = .ok (.invokestatic 239, 3) := by decide +kernel
theorem dL_isTold_418 : decode cL_isTold 418 = .ok (.istore 5, 2) := by decide +kernel
theorem dL_isTold_420 : decode cL_isTold 420 = .ok (.aload_n 0, 1) := by decide +kernel
theorem dL_isTold_421 : decode cL_isTold 421 = .ok (.iload_n 1, 1) := by decide +kernel
theorem dL_isTold_422 : decode cL_isTold 422 = .ok (.iload_n 2, 1) := by decide +kernel
theorem dL_isTold_423 : decode cL_isTold 423 = .ok (.bipush 8, 2) := by decide +kernel
theorem dL_isTold_425 : decode cL_isTold 425 = .ok (.irem, 1) := by decide +kernel
theorem dL_isTold_426 : decode cL_isTold 426 = .ok (.iconst 1, 1) := by decide +kernel
theorem dL_isTold_427 : decode cL_isTold 427 = .ok (.invokestatic 239, 3) := by decide +kernel
theorem dL_isTold_430 : decode cL_isTold 430 = .ok (.istore 6, 2) := by decide +kernel
theorem dL_isTold_432 : decode cL_isTold 432 = .ok (.iload_n 3, 1) := by decide +kernel
theorem dL_isTold_433 : decode cL_isTold 433 = .ok (.ifCond .eq 71, 3) := by decide +kernel
theorem dL_isTold_436 : decode cL_isTold 436 = .ok (.iload 4, 2) := by decide +kernel
theorem dL_isTold_438 : decode cL_isTold 438 = .ok (.iconst (-1), 1) := by decide +kernel
theorem dL_isTold_439 : decode cL_isTold 439 = .ok (.if_icmp .eq 19, 3) := by decide +kernel
theorem dL_isTold_442 : decode cL_isTold 442 = .ok (.iload 4, 2) := by decide +kernel
theorem dL_isTold_444 : decode cL_isTold 444 = .ok (.iconst 1, 1) := by decide +kernel
theorem dL_isTold_445 : decode cL_isTold 445 = .ok (.if_icmp .lt 59, 3) := by decide +kernel
theorem dL_isTold_448 : decode cL_isTold 448 = .ok (.iload 4, 2) := by decide +kernel
theorem dL_isTold_450 : decode cL_isTold 450 = .ok (.aload_n 0, 1) := by decide +kernel
theorem dL_isTold_451 : decode cL_isTold 451 = .ok (.iload_n 1, 1) := by decide +kernel
theorem dL_isTold_452 : decode cL_isTold 452 = .ok (.invokestatic 209, 3) := by decide +kernel
theorem dL_isTold_455 : decode cL_isTold 455 = .ok (.if_icmp .gt 49, 3) := by decide +kernel
theorem dL_isTold_458 : decode cL_isTold 458 = .ok (.iload 5, 2) := by decide +kernel
theorem dL_isTold_460 : decode cL_isTold 460 = .ok (.ifCond .lt 18, 3) := by decide +kernel
theorem dL_isTold_463 : decode cL_isTold 463 = .ok (.iload 5, 2) := by decide +kernel
theorem dL_isTold_465 : decode cL_isTold 465 = .ok (.sipush 1000, 3) := by decide +kernel
theorem dL_isTold_468 : decode cL_isTold 468 = .ok (.idiv, 1) := by decide +kernel
theorem dL_isTold_469 : decode cL_isTold 469 = .ok (.iload 5, 2) := by decide +kernel
theorem dL_isTold_471 : decode cL_isTold 471 = .ok (.sipush 1000, 3) := by decide +kernel
theorem dL_isTold_474 : decode cL_isTold 474 = .ok (.irem, 1) := by decide +kernel
theorem dL_isTold_475 : decode cL_isTold 475 = .ok (.if_icmp .gt 29, 3) := by decide +kernel
theorem dL_isTold_478 : decode cL_isTold 478 = .ok (.iload 6, 2) := by decide +kernel
theorem dL_isTold_480 : decode cL_isTold 480 = .ok (.ifCond .lt 20, 3) := by decide +kernel
theorem dL_isTold_483 : decode cL_isTold 483 = .ok (.iload 6, 2) := by decide +kernel
theorem dL_isTold_485 : decode cL_isTold 485 = .ok (.sipush 1000, 3) := by decide +kernel
theorem dL_isTold_488 : decode cL_isTold 488 = .ok (.idiv, 1) := by decide +kernel
theorem dL_isTold_489 : decode cL_isTold 489 = .ok (.iload 5, 2) := by decide +kernel
theorem dL_isTold_491 : decode cL_isTold 491 = .ok (.sipush 1000, 3) := by decide +kernel
theorem dL_isTold_494 : decode cL_isTold 494 = .ok (.irem, 1) := by decide +kernel
theorem dL_isTold_495 : decode cL_isTold 495 = .ok (.iconst 1, 1) := by decide +kernel
theorem dL_isTold_496 : decode cL_isTold 496 = .ok (.iadd, 1) := by decide +kernel
theorem dL_isTold_497 : decode cL_isTold 497 = .ok (.if_icmp .le 7, 3) := by decide +kernel
theorem dL_isTold_500 : decode cL_isTold 500 = .ok (.iconst 1, 1) := by decide +kernel
theorem dL_isTold_501 : decode cL_isTold 501 = .ok (.goto 4, 3) := by decide +kernel
theorem dL_isTold_505 : decode cL_isTold 505 = .ok (.ireturn, 1) := by decide +kernel
set_option maxHeartbeats 4000000 in
set_option maxRecDepth 100000 in
theorem w_isTold (l : Launch) (dC : Nat → ClassId) (dI : Nat → Nat → Nat) (k : Nat → ClassId) (hl0 : l.stackTraces = false) (T : Nat → Int → Int → Int → Int) (K : Nat → Int → Int) (qa : Nat) (cp : Nat) (tl : va_W) (v : Int) (xx : Int) (hPS : PS dI k T K qa cp tl) (hQ : OKT T K) (hv : 0 ≤ v ∧ v ≤ 1) (hx9 : 0 ≤ xx ∧ xx ≤ 2147483647) (hTo : TOLD T v) : Kn l dC dI k yL_isTold (.code yL_isTold cL_isTold 12 (some .boolean)) ({ frames := 11, cells := ((131072 - cp) + 6000), slots := ((12 * (131072 - cp)) + 36000), locals := 255 } : Room) [.ref qa, .int (iI v), .int (iI xx)] ([] ++ tl) (fun r w gc gs => (∃ (cp2 : Nat) (tl2 : va_W), (PS dI k T K qa cp2 tl2) ∧ (cp ≤ cp2 ∧ cp2 ≤ 131072) ∧ r = some (.int (iI 1)) ∧ w = ([] ++ tl2) ∧ gc = ((cp2 - cp) + 6000) ∧ gs = ((12 * (cp2 - cp)) + 36000))) := by
  refine kn_of (by decide) (Nat.le_of_ble_eq_true rfl) ?_
  intro p e s m args below meth c H locs B hr hnm ls hl
  have hx := B.1.1
  have hb := B.1.2.1
  have hl : lv_has ls 12 [(0, .ref qa), (1, .int (iI v)), (2, .int (iI xx))] := hl
  have hcp9 := PS_cp hPS
  have hn0 := TK_nb hQ.1
  have hP9 := hQ.2.2.2.2 v hv.1 hv.2
  have hpp0 : 0 ≤ mkZ T (moC T v (dgN T v)) 0 0 ∧ mkZ T (moC T v (dgN T v)) 0 0 ≤ 965 := hP9.2.2.2.1
  refine lv_iconst (v := iI 1) hx hb dL_isTold_0 (by decide) ?_
  refine lv_istore_n (lv' := [(3, .int (iI 1)), (0, .ref qa), (1, .int (iI v)), (2, .int (iI xx))]) hx hb dL_isTold_1 rfl hl (by decide) rfl (fun ls hl => ?_)
  refine lv_iconst (v := iI 0) hx hb dL_isTold_2 (by decide) ?_
  refine lv_istore (lv' := [(4, .int (iI 0)), (3, .int (iI 1)), (0, .ref qa), (1, .int (iI v)), (2, .int (iI xx))]) hx hb dL_isTold_3 hl (by decide) rfl (fun ls hl => ?_)
  refine W.widen (k := ((cp - cp) + (2 + (300 * Int.toNat 0)))) (n := ((12 * (cp - cp)) + (6 * (2 + (300 * Int.toNat 0))))) (by omega) (by omega) ?_
  refine k_loopG (σ := Int × Nat × va_W) B (fun g9 : Int × Nat × va_W => (0 ≤ g9.1 ∧ g9.1 ≤ T 0 0 0 0) ∧ (PS dI k T K qa g9.2.1 g9.2.2) ∧ (cp ≤ g9.2.1 ∧ g9.2.1 ≤ 131072)) (fun g9 : Int × Nat × va_W => (T 0 0 0 0 - g9.1).toNat) (fun g9 : Int × Nat × va_W => [(4, .int (iI g9.1)), (3, .int (iI 1)), (0, .ref qa), (1, .int (iI v)), (2, .int (iI xx))]) (fun g9 : Int × Nat × va_W => ([] ++ g9.2.2)) (fun g9 : Int × Nat × va_W => ((g9.2.1 - cp) + (2 + (300 * Int.toNat g9.1)))) (fun g9 : Int × Nat × va_W => ((12 * (g9.2.1 - cp)) + (6 * (2 + (300 * Int.toNat g9.1))))) ?_ (0, cp, tl) ⟨(show 0 ≤ 0 ∧ 0 ≤ T 0 0 0 0 from (by omega)), (show PS dI k T K qa cp tl from hPS), (show cp ≤ cp ∧ cp ≤ 131072 from (by omega))⟩ ls H locs (lv_sub hl [0, 1, 2, 3, 4] rfl) (bd_to rfl B)
  clear hl B
  rintro ⟨pq, cp3, tl3⟩ ⟨hk, hPS, hc3⟩ ih_1 ls H locs hl B
  have hk : 0 ≤ pq ∧ pq ≤ T 0 0 0 0 := hk
  have hPS : PS dI k T K qa cp3 tl3 := hPS
  have hc3 : cp ≤ cp3 ∧ cp3 ≤ 131072 := hc3
  show W p l e _ s m args below meth c H locs ((cp3 - cp) + (2 + (300 * Int.toNat pq))) ((12 * (cp3 - cp)) + (6 * (2 + (300 * Int.toNat pq)))) _ _
  have hl : lv_has ls 12 [(4, .int (iI pq)), (3, .int (iI 1)), (0, .ref qa), (1, .int (iI v)), (2, .int (iI xx))] := hl
  have B := bd_to (ws' := ([] ++ tl3)) rfl B
  refine lv_iload hx hb dL_isTold_5 (lv_at hl 0 rfl) ?_
  refine lv_aload_n hx hb dL_isTold_7 rfl (lv_at hl 2 rfl) ?_
  have B := bd_swap (a := []) (b := []) (d := tl3) (bd_to rfl B)
  obtain ⟨k_2, hk_2⟩ := pk_at (hs := []) (PS_go hPS).choose_spec
  refine k_V (rest := [.int (iI pq)]) (wc := ([] ++ tl3)) (wr := []) (a_blocks l dC dI k T K qa cp3 tl3 hPS hQ) B mV_X11_blocks mw_1870 hl (q0 := k_2) (ci := 11) hk_2 rfl rfl ⟨Nat.le_of_ble_eq_true rfl, Nat.le_of_ble_eq_true rfl⟩ (Nat.le_of_ble_eq_true rfl) rfl dL_isTold_8 ⟨by dsimp only; omega, by dsimp only; omega⟩ (fun r w gc gs H locs hp B => ?_)
  obtain ⟨cp2_3, tl2_4, z_5, z_6, rfl, hw9, rfl, rfl⟩ := hp
  rw [hw9] at B; clear hw9
  have B := bd_to (ws' := ([] ++ tl2_4)) rfl B
  have hPS : PS dI k T K qa cp2_3 tl2_4 := z_5
  refine W.widen (k := ((cp2_3 - cp) + (2 + (300 * Int.toNat pq) + 1))) (n := ((12 * (cp2_3 - cp)) + (6 * (2 + (300 * Int.toNat pq) + 1)))) (by omega) (by omega) ?_
  refine lv_icmp_ge (tgt := 397) hx hb dL_isTold_11 (by decide) (fun c_7 => ?_) (fun c_7 => ?_)
  · have zc_7 : (T 0 0 0 0) ≤ pq := jle (a := (T 0 0 0 0)) (b := pq) (by omega) (by omega) c_7
    refine lv_aload_n hx hb dL_isTold_397 rfl (lv_at hl 2 rfl) ?_
    refine lv_iload_n hx hb dL_isTold_398 rfl (lv_at hl 3 rfl) ?_
    refine lv_iload_n hx hb dL_isTold_399 rfl (lv_at hl 4 rfl) ?_
    refine lv_bipush (v := iI 6) hx hb dL_isTold_400 (by decide) ?_
    refine y_rem hx hb (a := xx) (b := 6) (by omega) (by omega) dL_isTold_402 ?_
    have hlb := hTo.2.2.1 (xx % 6) (by omega) (by omega)
    have B := bd_swap (a := []) (b := []) (d := tl2_4) (bd_to rfl B)
    refine k_W (rest := []) (wc := ([] ++ tl2_4)) (wr := []) (w_label l dC dI k hl0 T K qa cp2_3 tl2_4 v (xx % 6) z_5 hQ (by omega) (by omega)) B mW_L_label mw_1807 hl ⟨Nat.le_of_ble_eq_true rfl, Nat.le_of_ble_eq_true rfl⟩ (Nat.le_of_ble_eq_true rfl) rfl dL_isTold_403 ⟨by dsimp only; omega, by dsimp only; omega⟩ (fun r w gc gs H locs hp B => ?_)
    rcases hp with ⟨cp2_8, tl2_9, z_10, z_11, z_12, rfl, hw9, rfl, rfl⟩ | ⟨cp2_13, tl2_14, z_15, z_16, z_17, rfl, hw9, rfl, rfl⟩
    · skip
      rw [hw9] at B; clear hw9
      have B := bd_to (ws' := ([] ++ tl2_9)) rfl B
      have hPS : PS dI k T K qa cp2_8 tl2_9 := z_10
      refine W.widen (k := ((cp2_8 - cp) + (5000 + 1))) (n := ((12 * (cp2_8 - cp)) + (6 * (5000 + 1)))) (by omega) (by omega) ?_
      refine lv_istore (lv' := [(4, .int (iI (lbZ (moC T v (dgN T v)) (mkZ T (moC T v (dgN T v))) (xx % 6)))), (3, .int (iI 1)), (0, .ref qa), (1, .int (iI v)), (2, .int (iI xx))]) hx hb dL_isTold_406 hl (by decide) rfl (fun ls hl => ?_)
      refine lv_aload_n hx hb dL_isTold_408 rfl (lv_at hl 2 rfl) ?_
      refine lv_iload_n hx hb dL_isTold_409 rfl (lv_at hl 3 rfl) ?_
      refine lv_iload_n hx hb dL_isTold_410 rfl (lv_at hl 4 rfl) ?_
      refine lv_bipush (v := iI 8) hx hb dL_isTold_411 (by decide) ?_
      refine y_rem hx hb (a := xx) (b := 8) (by omega) (by omega) dL_isTold_413 ?_
      refine lv_iconst (v := iI 0) hx hb dL_isTold_414 (by decide) ?_
      have hrg := hTo.2.2.2 (xx % 8) (by omega) (by omega)
      have B := bd_swap (a := []) (b := []) (d := tl2_9) (bd_to rfl B)
      refine k_W (rest := []) (wc := ([] ++ tl2_9)) (wr := []) (w_range l dC dI k hl0 T K qa cp2_8 tl2_9 v (xx % 8) 0 z_10 hQ (by omega) (by omega) (by omega)) B mW_L_range mw_1843 hl ⟨Nat.le_of_ble_eq_true rfl, Nat.le_of_ble_eq_true rfl⟩ (Nat.le_of_ble_eq_true rfl) rfl dL_isTold_415 ⟨by dsimp only; omega, by dsimp only; omega⟩ (fun r w gc gs H locs hp B => ?_)
      rcases hp with ⟨cp2_18, tl2_19, z_20, z_21, z_22, rfl, hw9, rfl, rfl⟩ | ⟨cp2_23, tl2_24, z_25, z_26, z_27, rfl, hw9, rfl, rfl⟩
      · skip
        rw [hw9] at B; clear hw9
        have B := bd_to (ws' := ([] ++ tl2_19)) rfl B
        have hPS : PS dI k T K qa cp2_18 tl2_19 := z_20
        refine W.widen (k := ((cp2_18 - cp) + (5000 + 2))) (n := ((12 * (cp2_18 - cp)) + (6 * (5000 + 2)))) (by omega) (by omega) ?_
        refine lv_istore (lv' := [(5, .int (iI (rgZ (fpZ T (moC T v (dgN T v)) (mkZ T (moC T v (dgN T v))) (xx % 8)) 0 ((mkZ T (moC T v (dgN T v))) 0 0)))), (4, .int (iI (lbZ (moC T v (dgN T v)) (mkZ T (moC T v (dgN T v))) (xx % 6)))), (3, .int (iI 1)), (0, .ref qa), (1, .int (iI v)), (2, .int (iI xx))]) hx hb dL_isTold_418 hl (by decide) rfl (fun ls hl => ?_)
        refine lv_aload_n hx hb dL_isTold_420 rfl (lv_at hl 3 rfl) ?_
        refine lv_iload_n hx hb dL_isTold_421 rfl (lv_at hl 4 rfl) ?_
        refine lv_iload_n hx hb dL_isTold_422 rfl (lv_at hl 5 rfl) ?_
        refine lv_bipush (v := iI 8) hx hb dL_isTold_423 (by decide) ?_
        refine y_rem hx hb (a := xx) (b := 8) (by omega) (by omega) dL_isTold_425 ?_
        refine lv_iconst (v := iI 1) hx hb dL_isTold_426 (by decide) ?_
        have hrg := hTo.2.2.2 (xx % 8) (by omega) (by omega)
        have B := bd_swap (a := []) (b := []) (d := tl2_19) (bd_to rfl B)
        refine k_W (rest := []) (wc := ([] ++ tl2_19)) (wr := []) (w_range l dC dI k hl0 T K qa cp2_18 tl2_19 v (xx % 8) 1 z_20 hQ (by omega) (by omega) (by omega)) B mW_L_range mw_1843 hl ⟨Nat.le_of_ble_eq_true rfl, Nat.le_of_ble_eq_true rfl⟩ (Nat.le_of_ble_eq_true rfl) rfl dL_isTold_427 ⟨by dsimp only; omega, by dsimp only; omega⟩ (fun r w gc gs H locs hp B => ?_)
        rcases hp with ⟨cp2_28, tl2_29, z_30, z_31, z_32, rfl, hw9, rfl, rfl⟩ | ⟨cp2_33, tl2_34, z_35, z_36, z_37, rfl, hw9, rfl, rfl⟩
        · skip
          rw [hw9] at B; clear hw9
          have B := bd_to (ws' := ([] ++ tl2_29)) rfl B
          have hPS : PS dI k T K qa cp2_28 tl2_29 := z_30
          refine W.widen (k := ((cp2_28 - cp) + (5000 + 3))) (n := ((12 * (cp2_28 - cp)) + (6 * (5000 + 3)))) (by omega) (by omega) ?_
          refine lv_istore (lv' := [(6, .int (iI (rgZ (fpZ T (moC T v (dgN T v)) (mkZ T (moC T v (dgN T v))) (xx % 8)) 1 ((mkZ T (moC T v (dgN T v))) 0 0)))), (5, .int (iI (rgZ (fpZ T (moC T v (dgN T v)) (mkZ T (moC T v (dgN T v))) (xx % 8)) 0 ((mkZ T (moC T v (dgN T v))) 0 0)))), (4, .int (iI (lbZ (moC T v (dgN T v)) (mkZ T (moC T v (dgN T v))) (xx % 6)))), (3, .int (iI 1)), (0, .ref qa), (1, .int (iI v)), (2, .int (iI xx))]) hx hb dL_isTold_430 hl (by decide) rfl (fun ls hl => ?_)
          refine lv_iload_n hx hb dL_isTold_432 rfl (lv_at hl 3 rfl) ?_
          refine lv_if_eq (tgt := 504) hx hb dL_isTold_433 (by decide) (fun c9 => absurd c9 (by decide)) (fun _ => ?_)
          refine lv_iload hx hb dL_isTold_436 (lv_at hl 2 rfl) ?_
          refine lv_iconst (v := iI (-1)) hx hb dL_isTold_438 (by decide) ?_
          refine lv_icmp_eq (tgt := 458) hx hb dL_isTold_439 (by decide) (fun c_38 => ?_) (fun c_38 => ?_)
          · have zc_38 : (lbZ (moC T v (dgN T v)) (mkZ T (moC T v (dgN T v))) (xx % 6)) = (-1) := jeq (a := (lbZ (moC T v (dgN T v)) (mkZ T (moC T v (dgN T v))) (xx % 6))) (b := (-1)) (by omega) (by omega) c_38
            refine lv_iload hx hb dL_isTold_458 (lv_at hl 1 rfl) ?_
            refine lv_if_lt (tgt := 478) hx hb dL_isTold_460 (by decide) (fun c_39 => ?_) (fun c_39 => ?_)
            · have zc_39 : (rgZ (fpZ T (moC T v (dgN T v)) (mkZ T (moC T v (dgN T v))) (xx % 8)) 0 ((mkZ T (moC T v (dgN T v))) 0 0)) < 0 := jlt (a := (rgZ (fpZ T (moC T v (dgN T v)) (mkZ T (moC T v (dgN T v))) (xx % 8)) 0 ((mkZ T (moC T v (dgN T v))) 0 0))) (b := 0) (by omega) (by omega) c_39
              refine lv_iload hx hb dL_isTold_478 (lv_at hl 0 rfl) ?_
              refine lv_if_lt (tgt := 500) hx hb dL_isTold_480 (by decide) (fun c_40 => ?_) (fun c_40 => ?_)
              · have zc_40 : (rgZ (fpZ T (moC T v (dgN T v)) (mkZ T (moC T v (dgN T v))) (xx % 8)) 1 ((mkZ T (moC T v (dgN T v))) 0 0)) < 0 := jlt (a := (rgZ (fpZ T (moC T v (dgN T v)) (mkZ T (moC T v (dgN T v))) (xx % 8)) 1 ((mkZ T (moC T v (dgN T v))) 0 0))) (b := 0) (by omega) (by omega) c_40
                refine lv_iconst (v := iI 1) hx hb dL_isTold_500 (by decide) ?_
                refine lv_goto (tgt := 505) hx hb dL_isTold_501 (by decide) ?_
                exact k_zret B hr (by omega) (⟨cp2_28, tl2_29, z_30, (by omega), rfl, rfl, rfl, rfl⟩) ⟨(by first | omega | (dsimp only; omega)), (by first | omega | (dsimp only; omega))⟩ ⟨(by first | omega | (dsimp only; omega)), (by first | omega | (dsimp only; omega))⟩ dL_isTold_505
              · have zc_40 : 0 ≤ (rgZ (fpZ T (moC T v (dgN T v)) (mkZ T (moC T v (dgN T v))) (xx % 8)) 1 ((mkZ T (moC T v (dgN T v))) 0 0)) := jnlt (a := (rgZ (fpZ T (moC T v (dgN T v)) (mkZ T (moC T v (dgN T v))) (xx % 8)) 1 ((mkZ T (moC T v (dgN T v))) 0 0))) (b := 0) (by omega) (by omega) c_40
                refine lv_iload hx hb dL_isTold_483 (lv_at hl 0 rfl) ?_
                refine lv_sipush (v := iI 1000) hx hb dL_isTold_485 (by decide) ?_
                refine y_div hx hb (a := (rgZ (fpZ T (moC T v (dgN T v)) (mkZ T (moC T v (dgN T v))) (xx % 8)) 1 ((mkZ T (moC T v (dgN T v))) 0 0))) (b := 1000) (by omega) (by omega) dL_isTold_488 ?_
                refine lv_iload hx hb dL_isTold_489 (lv_at hl 1 rfl) ?_
                refine lv_sipush (v := iI 1000) hx hb dL_isTold_491 (by decide) ?_
                refine y_rem hx hb (a := (rgZ (fpZ T (moC T v (dgN T v)) (mkZ T (moC T v (dgN T v))) (xx % 8)) 0 ((mkZ T (moC T v (dgN T v))) 0 0))) (b := 1000) (by omega) (by omega) dL_isTold_494 ?_
                refine lv_iconst (v := iI 1) hx hb dL_isTold_495 (by decide) ?_
                refine y_add hx hb dL_isTold_496 ?_
                refine lv_icmp_le (tgt := 504) hx hb dL_isTold_497 (by decide) (fun c_41 => ?_) (fun c_41 => ?_)
                · have zc_41 : ((rgZ (fpZ T (moC T v (dgN T v)) (mkZ T (moC T v (dgN T v))) (xx % 8)) 1 ((mkZ T (moC T v (dgN T v))) 0 0)) / 1000) ≤ (((rgZ (fpZ T (moC T v (dgN T v)) (mkZ T (moC T v (dgN T v))) (xx % 8)) 0 ((mkZ T (moC T v (dgN T v))) 0 0)) % 1000) + 1) := jle (a := ((rgZ (fpZ T (moC T v (dgN T v)) (mkZ T (moC T v (dgN T v))) (xx % 8)) 1 ((mkZ T (moC T v (dgN T v))) 0 0)) / 1000)) (b := (((rgZ (fpZ T (moC T v (dgN T v)) (mkZ T (moC T v (dgN T v))) (xx % 8)) 0 ((mkZ T (moC T v (dgN T v))) 0 0)) % 1000) + 1)) (by omega) (by omega) c_41
                  exfalso; omega
                · have zc_41 : (((rgZ (fpZ T (moC T v (dgN T v)) (mkZ T (moC T v (dgN T v))) (xx % 8)) 0 ((mkZ T (moC T v (dgN T v))) 0 0)) % 1000) + 1) < ((rgZ (fpZ T (moC T v (dgN T v)) (mkZ T (moC T v (dgN T v))) (xx % 8)) 1 ((mkZ T (moC T v (dgN T v))) 0 0)) / 1000) := jnle (a := ((rgZ (fpZ T (moC T v (dgN T v)) (mkZ T (moC T v (dgN T v))) (xx % 8)) 1 ((mkZ T (moC T v (dgN T v))) 0 0)) / 1000)) (b := (((rgZ (fpZ T (moC T v (dgN T v)) (mkZ T (moC T v (dgN T v))) (xx % 8)) 0 ((mkZ T (moC T v (dgN T v))) 0 0)) % 1000) + 1)) (by omega) (by omega) c_41
                  refine lv_iconst (v := iI 1) hx hb dL_isTold_500 (by decide) ?_
                  refine lv_goto (tgt := 505) hx hb dL_isTold_501 (by decide) ?_
                  exact k_zret B hr (by omega) (⟨cp2_28, tl2_29, z_30, (by omega), rfl, rfl, rfl, rfl⟩) ⟨(by first | omega | (dsimp only; omega)), (by first | omega | (dsimp only; omega))⟩ ⟨(by first | omega | (dsimp only; omega)), (by first | omega | (dsimp only; omega))⟩ dL_isTold_505
            · have zc_39 : 0 ≤ (rgZ (fpZ T (moC T v (dgN T v)) (mkZ T (moC T v (dgN T v))) (xx % 8)) 0 ((mkZ T (moC T v (dgN T v))) 0 0)) := jnlt (a := (rgZ (fpZ T (moC T v (dgN T v)) (mkZ T (moC T v (dgN T v))) (xx % 8)) 0 ((mkZ T (moC T v (dgN T v))) 0 0))) (b := 0) (by omega) (by omega) c_39
              refine lv_iload hx hb dL_isTold_463 (lv_at hl 1 rfl) ?_
              refine lv_sipush (v := iI 1000) hx hb dL_isTold_465 (by decide) ?_
              refine y_div hx hb (a := (rgZ (fpZ T (moC T v (dgN T v)) (mkZ T (moC T v (dgN T v))) (xx % 8)) 0 ((mkZ T (moC T v (dgN T v))) 0 0))) (b := 1000) (by omega) (by omega) dL_isTold_468 ?_
              refine lv_iload hx hb dL_isTold_469 (lv_at hl 1 rfl) ?_
              refine lv_sipush (v := iI 1000) hx hb dL_isTold_471 (by decide) ?_
              refine y_rem hx hb (a := (rgZ (fpZ T (moC T v (dgN T v)) (mkZ T (moC T v (dgN T v))) (xx % 8)) 0 ((mkZ T (moC T v (dgN T v))) 0 0))) (b := 1000) (by omega) (by omega) dL_isTold_474 ?_
              refine lv_icmp_gt (tgt := 504) hx hb dL_isTold_475 (by decide) (fun c_42 => ?_) (fun c_42 => ?_)
              · have zc_42 : ((rgZ (fpZ T (moC T v (dgN T v)) (mkZ T (moC T v (dgN T v))) (xx % 8)) 0 ((mkZ T (moC T v (dgN T v))) 0 0)) % 1000) < ((rgZ (fpZ T (moC T v (dgN T v)) (mkZ T (moC T v (dgN T v))) (xx % 8)) 0 ((mkZ T (moC T v (dgN T v))) 0 0)) / 1000) := jlt (a := ((rgZ (fpZ T (moC T v (dgN T v)) (mkZ T (moC T v (dgN T v))) (xx % 8)) 0 ((mkZ T (moC T v (dgN T v))) 0 0)) % 1000)) (b := ((rgZ (fpZ T (moC T v (dgN T v)) (mkZ T (moC T v (dgN T v))) (xx % 8)) 0 ((mkZ T (moC T v (dgN T v))) 0 0)) / 1000)) (by omega) (by omega) c_42
                exfalso; omega
              · have zc_42 : ((rgZ (fpZ T (moC T v (dgN T v)) (mkZ T (moC T v (dgN T v))) (xx % 8)) 0 ((mkZ T (moC T v (dgN T v))) 0 0)) / 1000) ≤ ((rgZ (fpZ T (moC T v (dgN T v)) (mkZ T (moC T v (dgN T v))) (xx % 8)) 0 ((mkZ T (moC T v (dgN T v))) 0 0)) % 1000) := jnlt (a := ((rgZ (fpZ T (moC T v (dgN T v)) (mkZ T (moC T v (dgN T v))) (xx % 8)) 0 ((mkZ T (moC T v (dgN T v))) 0 0)) % 1000)) (b := ((rgZ (fpZ T (moC T v (dgN T v)) (mkZ T (moC T v (dgN T v))) (xx % 8)) 0 ((mkZ T (moC T v (dgN T v))) 0 0)) / 1000)) (by omega) (by omega) c_42
                refine lv_iload hx hb dL_isTold_478 (lv_at hl 0 rfl) ?_
                refine lv_if_lt (tgt := 500) hx hb dL_isTold_480 (by decide) (fun c_43 => ?_) (fun c_43 => ?_)
                · have zc_43 : (rgZ (fpZ T (moC T v (dgN T v)) (mkZ T (moC T v (dgN T v))) (xx % 8)) 1 ((mkZ T (moC T v (dgN T v))) 0 0)) < 0 := jlt (a := (rgZ (fpZ T (moC T v (dgN T v)) (mkZ T (moC T v (dgN T v))) (xx % 8)) 1 ((mkZ T (moC T v (dgN T v))) 0 0))) (b := 0) (by omega) (by omega) c_43
                  refine lv_iconst (v := iI 1) hx hb dL_isTold_500 (by decide) ?_
                  refine lv_goto (tgt := 505) hx hb dL_isTold_501 (by decide) ?_
                  exact k_zret B hr (by omega) (⟨cp2_28, tl2_29, z_30, (by omega), rfl, rfl, rfl, rfl⟩) ⟨(by first | omega | (dsimp only; omega)), (by first | omega | (dsimp only; omega))⟩ ⟨(by first | omega | (dsimp only; omega)), (by first | omega | (dsimp only; omega))⟩ dL_isTold_505
                · have zc_43 : 0 ≤ (rgZ (fpZ T (moC T v (dgN T v)) (mkZ T (moC T v (dgN T v))) (xx % 8)) 1 ((mkZ T (moC T v (dgN T v))) 0 0)) := jnlt (a := (rgZ (fpZ T (moC T v (dgN T v)) (mkZ T (moC T v (dgN T v))) (xx % 8)) 1 ((mkZ T (moC T v (dgN T v))) 0 0))) (b := 0) (by omega) (by omega) c_43
                  refine lv_iload hx hb dL_isTold_483 (lv_at hl 0 rfl) ?_
                  refine lv_sipush (v := iI 1000) hx hb dL_isTold_485 (by decide) ?_
                  refine y_div hx hb (a := (rgZ (fpZ T (moC T v (dgN T v)) (mkZ T (moC T v (dgN T v))) (xx % 8)) 1 ((mkZ T (moC T v (dgN T v))) 0 0))) (b := 1000) (by omega) (by omega) dL_isTold_488 ?_
                  refine lv_iload hx hb dL_isTold_489 (lv_at hl 1 rfl) ?_
                  refine lv_sipush (v := iI 1000) hx hb dL_isTold_491 (by decide) ?_
                  refine y_rem hx hb (a := (rgZ (fpZ T (moC T v (dgN T v)) (mkZ T (moC T v (dgN T v))) (xx % 8)) 0 ((mkZ T (moC T v (dgN T v))) 0 0))) (b := 1000) (by omega) (by omega) dL_isTold_494 ?_
                  refine lv_iconst (v := iI 1) hx hb dL_isTold_495 (by decide) ?_
                  refine y_add hx hb dL_isTold_496 ?_
                  refine lv_icmp_le (tgt := 504) hx hb dL_isTold_497 (by decide) (fun c_44 => ?_) (fun c_44 => ?_)
                  · have zc_44 : ((rgZ (fpZ T (moC T v (dgN T v)) (mkZ T (moC T v (dgN T v))) (xx % 8)) 1 ((mkZ T (moC T v (dgN T v))) 0 0)) / 1000) ≤ (((rgZ (fpZ T (moC T v (dgN T v)) (mkZ T (moC T v (dgN T v))) (xx % 8)) 0 ((mkZ T (moC T v (dgN T v))) 0 0)) % 1000) + 1) := jle (a := ((rgZ (fpZ T (moC T v (dgN T v)) (mkZ T (moC T v (dgN T v))) (xx % 8)) 1 ((mkZ T (moC T v (dgN T v))) 0 0)) / 1000)) (b := (((rgZ (fpZ T (moC T v (dgN T v)) (mkZ T (moC T v (dgN T v))) (xx % 8)) 0 ((mkZ T (moC T v (dgN T v))) 0 0)) % 1000) + 1)) (by omega) (by omega) c_44
                    exfalso; omega
                  · have zc_44 : (((rgZ (fpZ T (moC T v (dgN T v)) (mkZ T (moC T v (dgN T v))) (xx % 8)) 0 ((mkZ T (moC T v (dgN T v))) 0 0)) % 1000) + 1) < ((rgZ (fpZ T (moC T v (dgN T v)) (mkZ T (moC T v (dgN T v))) (xx % 8)) 1 ((mkZ T (moC T v (dgN T v))) 0 0)) / 1000) := jnle (a := ((rgZ (fpZ T (moC T v (dgN T v)) (mkZ T (moC T v (dgN T v))) (xx % 8)) 1 ((mkZ T (moC T v (dgN T v))) 0 0)) / 1000)) (b := (((rgZ (fpZ T (moC T v (dgN T v)) (mkZ T (moC T v (dgN T v))) (xx % 8)) 0 ((mkZ T (moC T v (dgN T v))) 0 0)) % 1000) + 1)) (by omega) (by omega) c_44
                    refine lv_iconst (v := iI 1) hx hb dL_isTold_500 (by decide) ?_
                    refine lv_goto (tgt := 505) hx hb dL_isTold_501 (by decide) ?_
                    exact k_zret B hr (by omega) (⟨cp2_28, tl2_29, z_30, (by omega), rfl, rfl, rfl, rfl⟩) ⟨(by first | omega | (dsimp only; omega)), (by first | omega | (dsimp only; omega))⟩ ⟨(by first | omega | (dsimp only; omega)), (by first | omega | (dsimp only; omega))⟩ dL_isTold_505
          · have zc_38 : (lbZ (moC T v (dgN T v)) (mkZ T (moC T v (dgN T v))) (xx % 6)) ≠ (-1) := jne (a := (lbZ (moC T v (dgN T v)) (mkZ T (moC T v (dgN T v))) (xx % 6))) (b := (-1)) (by omega) (by omega) c_38
            refine lv_iload hx hb dL_isTold_442 (lv_at hl 2 rfl) ?_
            refine lv_iconst (v := iI 1) hx hb dL_isTold_444 (by decide) ?_
            refine lv_icmp_lt (tgt := 504) hx hb dL_isTold_445 (by decide) (fun c_45 => ?_) (fun c_45 => ?_)
            · have zc_45 : (lbZ (moC T v (dgN T v)) (mkZ T (moC T v (dgN T v))) (xx % 6)) < 1 := jlt (a := (lbZ (moC T v (dgN T v)) (mkZ T (moC T v (dgN T v))) (xx % 6))) (b := 1) (by omega) (by omega) c_45
              exfalso; omega
            · have zc_45 : 1 ≤ (lbZ (moC T v (dgN T v)) (mkZ T (moC T v (dgN T v))) (xx % 6)) := jnlt (a := (lbZ (moC T v (dgN T v)) (mkZ T (moC T v (dgN T v))) (xx % 6))) (b := 1) (by omega) (by omega) c_45
              refine lv_iload hx hb dL_isTold_448 (lv_at hl 2 rfl) ?_
              refine lv_aload_n hx hb dL_isTold_450 rfl (lv_at hl 4 rfl) ?_
              refine lv_iload_n hx hb dL_isTold_451 rfl (lv_at hl 5 rfl) ?_
              have B := bd_swap (a := []) (b := []) (d := tl2_29) (bd_to rfl B)
              refine k_W (rest := [.int (iI (lbZ (moC T v (dgN T v)) (mkZ T (moC T v (dgN T v))) (xx % 6)))]) (wc := ([] ++ tl2_29)) (wr := []) (w_pages l dC dI k hl0 T K qa cp2_28 tl2_29 v z_30 hQ (by omega)) B mW_L_pages mw_1721 hl ⟨Nat.le_of_ble_eq_true rfl, Nat.le_of_ble_eq_true rfl⟩ (Nat.le_of_ble_eq_true rfl) rfl dL_isTold_452 ⟨by dsimp only; omega, by dsimp only; omega⟩ (fun r w gc gs H locs hp B => ?_)
              rcases hp with ⟨cp2_46, tl2_47, z_48, z_49, z_50, rfl, hw9, rfl, rfl⟩ | ⟨cp2_51, tl2_52, z_53, z_54, z_55, rfl, hw9, rfl, rfl⟩
              · skip
                rw [hw9] at B; clear hw9
                have B := bd_to (ws' := ([] ++ tl2_47)) rfl B
                have hPS : PS dI k T K qa cp2_46 tl2_47 := z_48
                refine W.widen (k := ((cp2_46 - cp) + (5000 + 4))) (n := ((12 * (cp2_46 - cp)) + (6 * (5000 + 4)))) (by omega) (by omega) ?_
                refine lv_icmp_gt (tgt := 504) hx hb dL_isTold_455 (by decide) (fun c_56 => ?_) (fun c_56 => ?_)
                · have zc_56 : ((mkZ T (moC T v (dgN T v))) 0 0) < (lbZ (moC T v (dgN T v)) (mkZ T (moC T v (dgN T v))) (xx % 6)) := jlt (a := ((mkZ T (moC T v (dgN T v))) 0 0)) (b := (lbZ (moC T v (dgN T v)) (mkZ T (moC T v (dgN T v))) (xx % 6))) (by omega) (by omega) c_56
                  exfalso; omega
                · have zc_56 : (lbZ (moC T v (dgN T v)) (mkZ T (moC T v (dgN T v))) (xx % 6)) ≤ ((mkZ T (moC T v (dgN T v))) 0 0) := jnlt (a := ((mkZ T (moC T v (dgN T v))) 0 0)) (b := (lbZ (moC T v (dgN T v)) (mkZ T (moC T v (dgN T v))) (xx % 6))) (by omega) (by omega) c_56
                  refine lv_iload hx hb dL_isTold_458 (lv_at hl 1 rfl) ?_
                  refine lv_if_lt (tgt := 478) hx hb dL_isTold_460 (by decide) (fun c_57 => ?_) (fun c_57 => ?_)
                  · have zc_57 : (rgZ (fpZ T (moC T v (dgN T v)) (mkZ T (moC T v (dgN T v))) (xx % 8)) 0 ((mkZ T (moC T v (dgN T v))) 0 0)) < 0 := jlt (a := (rgZ (fpZ T (moC T v (dgN T v)) (mkZ T (moC T v (dgN T v))) (xx % 8)) 0 ((mkZ T (moC T v (dgN T v))) 0 0))) (b := 0) (by omega) (by omega) c_57
                    refine lv_iload hx hb dL_isTold_478 (lv_at hl 0 rfl) ?_
                    refine lv_if_lt (tgt := 500) hx hb dL_isTold_480 (by decide) (fun c_58 => ?_) (fun c_58 => ?_)
                    · have zc_58 : (rgZ (fpZ T (moC T v (dgN T v)) (mkZ T (moC T v (dgN T v))) (xx % 8)) 1 ((mkZ T (moC T v (dgN T v))) 0 0)) < 0 := jlt (a := (rgZ (fpZ T (moC T v (dgN T v)) (mkZ T (moC T v (dgN T v))) (xx % 8)) 1 ((mkZ T (moC T v (dgN T v))) 0 0))) (b := 0) (by omega) (by omega) c_58
                      refine lv_iconst (v := iI 1) hx hb dL_isTold_500 (by decide) ?_
                      refine lv_goto (tgt := 505) hx hb dL_isTold_501 (by decide) ?_
                      exact k_zret B hr (by omega) (⟨cp2_46, tl2_47, z_48, (by omega), rfl, rfl, rfl, rfl⟩) ⟨(by first | omega | (dsimp only; omega)), (by first | omega | (dsimp only; omega))⟩ ⟨(by first | omega | (dsimp only; omega)), (by first | omega | (dsimp only; omega))⟩ dL_isTold_505
                    · have zc_58 : 0 ≤ (rgZ (fpZ T (moC T v (dgN T v)) (mkZ T (moC T v (dgN T v))) (xx % 8)) 1 ((mkZ T (moC T v (dgN T v))) 0 0)) := jnlt (a := (rgZ (fpZ T (moC T v (dgN T v)) (mkZ T (moC T v (dgN T v))) (xx % 8)) 1 ((mkZ T (moC T v (dgN T v))) 0 0))) (b := 0) (by omega) (by omega) c_58
                      refine lv_iload hx hb dL_isTold_483 (lv_at hl 0 rfl) ?_
                      refine lv_sipush (v := iI 1000) hx hb dL_isTold_485 (by decide) ?_
                      refine y_div hx hb (a := (rgZ (fpZ T (moC T v (dgN T v)) (mkZ T (moC T v (dgN T v))) (xx % 8)) 1 ((mkZ T (moC T v (dgN T v))) 0 0))) (b := 1000) (by omega) (by omega) dL_isTold_488 ?_
                      refine lv_iload hx hb dL_isTold_489 (lv_at hl 1 rfl) ?_
                      refine lv_sipush (v := iI 1000) hx hb dL_isTold_491 (by decide) ?_
                      refine y_rem hx hb (a := (rgZ (fpZ T (moC T v (dgN T v)) (mkZ T (moC T v (dgN T v))) (xx % 8)) 0 ((mkZ T (moC T v (dgN T v))) 0 0))) (b := 1000) (by omega) (by omega) dL_isTold_494 ?_
                      refine lv_iconst (v := iI 1) hx hb dL_isTold_495 (by decide) ?_
                      refine y_add hx hb dL_isTold_496 ?_
                      refine lv_icmp_le (tgt := 504) hx hb dL_isTold_497 (by decide) (fun c_59 => ?_) (fun c_59 => ?_)
                      · have zc_59 : ((rgZ (fpZ T (moC T v (dgN T v)) (mkZ T (moC T v (dgN T v))) (xx % 8)) 1 ((mkZ T (moC T v (dgN T v))) 0 0)) / 1000) ≤ (((rgZ (fpZ T (moC T v (dgN T v)) (mkZ T (moC T v (dgN T v))) (xx % 8)) 0 ((mkZ T (moC T v (dgN T v))) 0 0)) % 1000) + 1) := jle (a := ((rgZ (fpZ T (moC T v (dgN T v)) (mkZ T (moC T v (dgN T v))) (xx % 8)) 1 ((mkZ T (moC T v (dgN T v))) 0 0)) / 1000)) (b := (((rgZ (fpZ T (moC T v (dgN T v)) (mkZ T (moC T v (dgN T v))) (xx % 8)) 0 ((mkZ T (moC T v (dgN T v))) 0 0)) % 1000) + 1)) (by omega) (by omega) c_59
                        exfalso; omega
                      · have zc_59 : (((rgZ (fpZ T (moC T v (dgN T v)) (mkZ T (moC T v (dgN T v))) (xx % 8)) 0 ((mkZ T (moC T v (dgN T v))) 0 0)) % 1000) + 1) < ((rgZ (fpZ T (moC T v (dgN T v)) (mkZ T (moC T v (dgN T v))) (xx % 8)) 1 ((mkZ T (moC T v (dgN T v))) 0 0)) / 1000) := jnle (a := ((rgZ (fpZ T (moC T v (dgN T v)) (mkZ T (moC T v (dgN T v))) (xx % 8)) 1 ((mkZ T (moC T v (dgN T v))) 0 0)) / 1000)) (b := (((rgZ (fpZ T (moC T v (dgN T v)) (mkZ T (moC T v (dgN T v))) (xx % 8)) 0 ((mkZ T (moC T v (dgN T v))) 0 0)) % 1000) + 1)) (by omega) (by omega) c_59
                        refine lv_iconst (v := iI 1) hx hb dL_isTold_500 (by decide) ?_
                        refine lv_goto (tgt := 505) hx hb dL_isTold_501 (by decide) ?_
                        exact k_zret B hr (by omega) (⟨cp2_46, tl2_47, z_48, (by omega), rfl, rfl, rfl, rfl⟩) ⟨(by first | omega | (dsimp only; omega)), (by first | omega | (dsimp only; omega))⟩ ⟨(by first | omega | (dsimp only; omega)), (by first | omega | (dsimp only; omega))⟩ dL_isTold_505
                  · have zc_57 : 0 ≤ (rgZ (fpZ T (moC T v (dgN T v)) (mkZ T (moC T v (dgN T v))) (xx % 8)) 0 ((mkZ T (moC T v (dgN T v))) 0 0)) := jnlt (a := (rgZ (fpZ T (moC T v (dgN T v)) (mkZ T (moC T v (dgN T v))) (xx % 8)) 0 ((mkZ T (moC T v (dgN T v))) 0 0))) (b := 0) (by omega) (by omega) c_57
                    refine lv_iload hx hb dL_isTold_463 (lv_at hl 1 rfl) ?_
                    refine lv_sipush (v := iI 1000) hx hb dL_isTold_465 (by decide) ?_
                    refine y_div hx hb (a := (rgZ (fpZ T (moC T v (dgN T v)) (mkZ T (moC T v (dgN T v))) (xx % 8)) 0 ((mkZ T (moC T v (dgN T v))) 0 0))) (b := 1000) (by omega) (by omega) dL_isTold_468 ?_
                    refine lv_iload hx hb dL_isTold_469 (lv_at hl 1 rfl) ?_
                    refine lv_sipush (v := iI 1000) hx hb dL_isTold_471 (by decide) ?_
                    refine y_rem hx hb (a := (rgZ (fpZ T (moC T v (dgN T v)) (mkZ T (moC T v (dgN T v))) (xx % 8)) 0 ((mkZ T (moC T v (dgN T v))) 0 0))) (b := 1000) (by omega) (by omega) dL_isTold_474 ?_
                    refine lv_icmp_gt (tgt := 504) hx hb dL_isTold_475 (by decide) (fun c_60 => ?_) (fun c_60 => ?_)
                    · have zc_60 : ((rgZ (fpZ T (moC T v (dgN T v)) (mkZ T (moC T v (dgN T v))) (xx % 8)) 0 ((mkZ T (moC T v (dgN T v))) 0 0)) % 1000) < ((rgZ (fpZ T (moC T v (dgN T v)) (mkZ T (moC T v (dgN T v))) (xx % 8)) 0 ((mkZ T (moC T v (dgN T v))) 0 0)) / 1000) := jlt (a := ((rgZ (fpZ T (moC T v (dgN T v)) (mkZ T (moC T v (dgN T v))) (xx % 8)) 0 ((mkZ T (moC T v (dgN T v))) 0 0)) % 1000)) (b := ((rgZ (fpZ T (moC T v (dgN T v)) (mkZ T (moC T v (dgN T v))) (xx % 8)) 0 ((mkZ T (moC T v (dgN T v))) 0 0)) / 1000)) (by omega) (by omega) c_60
                      exfalso; omega
                    · have zc_60 : ((rgZ (fpZ T (moC T v (dgN T v)) (mkZ T (moC T v (dgN T v))) (xx % 8)) 0 ((mkZ T (moC T v (dgN T v))) 0 0)) / 1000) ≤ ((rgZ (fpZ T (moC T v (dgN T v)) (mkZ T (moC T v (dgN T v))) (xx % 8)) 0 ((mkZ T (moC T v (dgN T v))) 0 0)) % 1000) := jnlt (a := ((rgZ (fpZ T (moC T v (dgN T v)) (mkZ T (moC T v (dgN T v))) (xx % 8)) 0 ((mkZ T (moC T v (dgN T v))) 0 0)) % 1000)) (b := ((rgZ (fpZ T (moC T v (dgN T v)) (mkZ T (moC T v (dgN T v))) (xx % 8)) 0 ((mkZ T (moC T v (dgN T v))) 0 0)) / 1000)) (by omega) (by omega) c_60
                      refine lv_iload hx hb dL_isTold_478 (lv_at hl 0 rfl) ?_
                      refine lv_if_lt (tgt := 500) hx hb dL_isTold_480 (by decide) (fun c_61 => ?_) (fun c_61 => ?_)
                      · have zc_61 : (rgZ (fpZ T (moC T v (dgN T v)) (mkZ T (moC T v (dgN T v))) (xx % 8)) 1 ((mkZ T (moC T v (dgN T v))) 0 0)) < 0 := jlt (a := (rgZ (fpZ T (moC T v (dgN T v)) (mkZ T (moC T v (dgN T v))) (xx % 8)) 1 ((mkZ T (moC T v (dgN T v))) 0 0))) (b := 0) (by omega) (by omega) c_61
                        refine lv_iconst (v := iI 1) hx hb dL_isTold_500 (by decide) ?_
                        refine lv_goto (tgt := 505) hx hb dL_isTold_501 (by decide) ?_
                        exact k_zret B hr (by omega) (⟨cp2_46, tl2_47, z_48, (by omega), rfl, rfl, rfl, rfl⟩) ⟨(by first | omega | (dsimp only; omega)), (by first | omega | (dsimp only; omega))⟩ ⟨(by first | omega | (dsimp only; omega)), (by first | omega | (dsimp only; omega))⟩ dL_isTold_505
                      · have zc_61 : 0 ≤ (rgZ (fpZ T (moC T v (dgN T v)) (mkZ T (moC T v (dgN T v))) (xx % 8)) 1 ((mkZ T (moC T v (dgN T v))) 0 0)) := jnlt (a := (rgZ (fpZ T (moC T v (dgN T v)) (mkZ T (moC T v (dgN T v))) (xx % 8)) 1 ((mkZ T (moC T v (dgN T v))) 0 0))) (b := 0) (by omega) (by omega) c_61
                        refine lv_iload hx hb dL_isTold_483 (lv_at hl 0 rfl) ?_
                        refine lv_sipush (v := iI 1000) hx hb dL_isTold_485 (by decide) ?_
                        refine y_div hx hb (a := (rgZ (fpZ T (moC T v (dgN T v)) (mkZ T (moC T v (dgN T v))) (xx % 8)) 1 ((mkZ T (moC T v (dgN T v))) 0 0))) (b := 1000) (by omega) (by omega) dL_isTold_488 ?_
                        refine lv_iload hx hb dL_isTold_489 (lv_at hl 1 rfl) ?_
                        refine lv_sipush (v := iI 1000) hx hb dL_isTold_491 (by decide) ?_
                        refine y_rem hx hb (a := (rgZ (fpZ T (moC T v (dgN T v)) (mkZ T (moC T v (dgN T v))) (xx % 8)) 0 ((mkZ T (moC T v (dgN T v))) 0 0))) (b := 1000) (by omega) (by omega) dL_isTold_494 ?_
                        refine lv_iconst (v := iI 1) hx hb dL_isTold_495 (by decide) ?_
                        refine y_add hx hb dL_isTold_496 ?_
                        refine lv_icmp_le (tgt := 504) hx hb dL_isTold_497 (by decide) (fun c_62 => ?_) (fun c_62 => ?_)
                        · have zc_62 : ((rgZ (fpZ T (moC T v (dgN T v)) (mkZ T (moC T v (dgN T v))) (xx % 8)) 1 ((mkZ T (moC T v (dgN T v))) 0 0)) / 1000) ≤ (((rgZ (fpZ T (moC T v (dgN T v)) (mkZ T (moC T v (dgN T v))) (xx % 8)) 0 ((mkZ T (moC T v (dgN T v))) 0 0)) % 1000) + 1) := jle (a := ((rgZ (fpZ T (moC T v (dgN T v)) (mkZ T (moC T v (dgN T v))) (xx % 8)) 1 ((mkZ T (moC T v (dgN T v))) 0 0)) / 1000)) (b := (((rgZ (fpZ T (moC T v (dgN T v)) (mkZ T (moC T v (dgN T v))) (xx % 8)) 0 ((mkZ T (moC T v (dgN T v))) 0 0)) % 1000) + 1)) (by omega) (by omega) c_62
                          exfalso; omega
                        · have zc_62 : (((rgZ (fpZ T (moC T v (dgN T v)) (mkZ T (moC T v (dgN T v))) (xx % 8)) 0 ((mkZ T (moC T v (dgN T v))) 0 0)) % 1000) + 1) < ((rgZ (fpZ T (moC T v (dgN T v)) (mkZ T (moC T v (dgN T v))) (xx % 8)) 1 ((mkZ T (moC T v (dgN T v))) 0 0)) / 1000) := jnle (a := ((rgZ (fpZ T (moC T v (dgN T v)) (mkZ T (moC T v (dgN T v))) (xx % 8)) 1 ((mkZ T (moC T v (dgN T v))) 0 0)) / 1000)) (b := (((rgZ (fpZ T (moC T v (dgN T v)) (mkZ T (moC T v (dgN T v))) (xx % 8)) 0 ((mkZ T (moC T v (dgN T v))) 0 0)) % 1000) + 1)) (by omega) (by omega) c_62
                          refine lv_iconst (v := iI 1) hx hb dL_isTold_500 (by decide) ?_
                          refine lv_goto (tgt := 505) hx hb dL_isTold_501 (by decide) ?_
                          exact k_zret B hr (by omega) (⟨cp2_46, tl2_47, z_48, (by omega), rfl, rfl, rfl, rfl⟩) ⟨(by first | omega | (dsimp only; omega)), (by first | omega | (dsimp only; omega))⟩ ⟨(by first | omega | (dsimp only; omega)), (by first | omega | (dsimp only; omega))⟩ dL_isTold_505
              · skip
                rw [hw9] at B; clear hw9
                have B := bd_to (ws' := ([] ++ tl2_52)) rfl B
                have hPS : PS dI k T K qa cp2_51 tl2_52 := z_53
                exfalso; omega
        · skip
          rw [hw9] at B; clear hw9
          have B := bd_to (ws' := ([] ++ tl2_34)) rfl B
          have hPS : PS dI k T K qa cp2_33 tl2_34 := z_35
          refine W.widen (k := ((cp2_33 - cp) + (5000 + 3))) (n := ((12 * (cp2_33 - cp)) + (6 * (5000 + 3)))) (by omega) (by omega) ?_
          refine lv_istore (lv' := [(6, .int (iI (-2000000001))), (5, .int (iI (rgZ (fpZ T (moC T v (dgN T v)) (mkZ T (moC T v (dgN T v))) (xx % 8)) 0 ((mkZ T (moC T v (dgN T v))) 0 0)))), (4, .int (iI (lbZ (moC T v (dgN T v)) (mkZ T (moC T v (dgN T v))) (xx % 6)))), (3, .int (iI 1)), (0, .ref qa), (1, .int (iI v)), (2, .int (iI xx))]) hx hb dL_isTold_430 hl (by decide) rfl (fun ls hl => ?_)
          refine lv_iload_n hx hb dL_isTold_432 rfl (lv_at hl 3 rfl) ?_
          refine lv_if_eq (tgt := 504) hx hb dL_isTold_433 (by decide) (fun c9 => absurd c9 (by decide)) (fun _ => ?_)
          refine lv_iload hx hb dL_isTold_436 (lv_at hl 2 rfl) ?_
          refine lv_iconst (v := iI (-1)) hx hb dL_isTold_438 (by decide) ?_
          refine lv_icmp_eq (tgt := 458) hx hb dL_isTold_439 (by decide) (fun c_63 => ?_) (fun c_63 => ?_)
          · have zc_63 : (lbZ (moC T v (dgN T v)) (mkZ T (moC T v (dgN T v))) (xx % 6)) = (-1) := jeq (a := (lbZ (moC T v (dgN T v)) (mkZ T (moC T v (dgN T v))) (xx % 6))) (b := (-1)) (by omega) (by omega) c_63
            refine lv_iload hx hb dL_isTold_458 (lv_at hl 1 rfl) ?_
            refine lv_if_lt (tgt := 478) hx hb dL_isTold_460 (by decide) (fun c_64 => ?_) (fun c_64 => ?_)
            · have zc_64 : (rgZ (fpZ T (moC T v (dgN T v)) (mkZ T (moC T v (dgN T v))) (xx % 8)) 0 ((mkZ T (moC T v (dgN T v))) 0 0)) < 0 := jlt (a := (rgZ (fpZ T (moC T v (dgN T v)) (mkZ T (moC T v (dgN T v))) (xx % 8)) 0 ((mkZ T (moC T v (dgN T v))) 0 0))) (b := 0) (by omega) (by omega) c_64
              refine lv_iload hx hb dL_isTold_478 (lv_at hl 0 rfl) ?_
              refine lv_if_lt (tgt := 500) hx hb dL_isTold_480 (by decide) (fun _ => ?_) (fun c9 => absurd (by decide) c9)
              refine lv_iconst (v := iI 1) hx hb dL_isTold_500 (by decide) ?_
              refine lv_goto (tgt := 505) hx hb dL_isTold_501 (by decide) ?_
              exact k_zret B hr (by omega) (⟨cp2_33, tl2_34, z_35, (by omega), rfl, rfl, rfl, rfl⟩) ⟨(by first | omega | (dsimp only; omega)), (by first | omega | (dsimp only; omega))⟩ ⟨(by first | omega | (dsimp only; omega)), (by first | omega | (dsimp only; omega))⟩ dL_isTold_505
            · have zc_64 : 0 ≤ (rgZ (fpZ T (moC T v (dgN T v)) (mkZ T (moC T v (dgN T v))) (xx % 8)) 0 ((mkZ T (moC T v (dgN T v))) 0 0)) := jnlt (a := (rgZ (fpZ T (moC T v (dgN T v)) (mkZ T (moC T v (dgN T v))) (xx % 8)) 0 ((mkZ T (moC T v (dgN T v))) 0 0))) (b := 0) (by omega) (by omega) c_64
              refine lv_iload hx hb dL_isTold_463 (lv_at hl 1 rfl) ?_
              refine lv_sipush (v := iI 1000) hx hb dL_isTold_465 (by decide) ?_
              refine y_div hx hb (a := (rgZ (fpZ T (moC T v (dgN T v)) (mkZ T (moC T v (dgN T v))) (xx % 8)) 0 ((mkZ T (moC T v (dgN T v))) 0 0))) (b := 1000) (by omega) (by omega) dL_isTold_468 ?_
              refine lv_iload hx hb dL_isTold_469 (lv_at hl 1 rfl) ?_
              refine lv_sipush (v := iI 1000) hx hb dL_isTold_471 (by decide) ?_
              refine y_rem hx hb (a := (rgZ (fpZ T (moC T v (dgN T v)) (mkZ T (moC T v (dgN T v))) (xx % 8)) 0 ((mkZ T (moC T v (dgN T v))) 0 0))) (b := 1000) (by omega) (by omega) dL_isTold_474 ?_
              refine lv_icmp_gt (tgt := 504) hx hb dL_isTold_475 (by decide) (fun c_65 => ?_) (fun c_65 => ?_)
              · have zc_65 : ((rgZ (fpZ T (moC T v (dgN T v)) (mkZ T (moC T v (dgN T v))) (xx % 8)) 0 ((mkZ T (moC T v (dgN T v))) 0 0)) % 1000) < ((rgZ (fpZ T (moC T v (dgN T v)) (mkZ T (moC T v (dgN T v))) (xx % 8)) 0 ((mkZ T (moC T v (dgN T v))) 0 0)) / 1000) := jlt (a := ((rgZ (fpZ T (moC T v (dgN T v)) (mkZ T (moC T v (dgN T v))) (xx % 8)) 0 ((mkZ T (moC T v (dgN T v))) 0 0)) % 1000)) (b := ((rgZ (fpZ T (moC T v (dgN T v)) (mkZ T (moC T v (dgN T v))) (xx % 8)) 0 ((mkZ T (moC T v (dgN T v))) 0 0)) / 1000)) (by omega) (by omega) c_65
                exfalso; omega
              · have zc_65 : ((rgZ (fpZ T (moC T v (dgN T v)) (mkZ T (moC T v (dgN T v))) (xx % 8)) 0 ((mkZ T (moC T v (dgN T v))) 0 0)) / 1000) ≤ ((rgZ (fpZ T (moC T v (dgN T v)) (mkZ T (moC T v (dgN T v))) (xx % 8)) 0 ((mkZ T (moC T v (dgN T v))) 0 0)) % 1000) := jnlt (a := ((rgZ (fpZ T (moC T v (dgN T v)) (mkZ T (moC T v (dgN T v))) (xx % 8)) 0 ((mkZ T (moC T v (dgN T v))) 0 0)) % 1000)) (b := ((rgZ (fpZ T (moC T v (dgN T v)) (mkZ T (moC T v (dgN T v))) (xx % 8)) 0 ((mkZ T (moC T v (dgN T v))) 0 0)) / 1000)) (by omega) (by omega) c_65
                refine lv_iload hx hb dL_isTold_478 (lv_at hl 0 rfl) ?_
                refine lv_if_lt (tgt := 500) hx hb dL_isTold_480 (by decide) (fun _ => ?_) (fun c9 => absurd (by decide) c9)
                refine lv_iconst (v := iI 1) hx hb dL_isTold_500 (by decide) ?_
                refine lv_goto (tgt := 505) hx hb dL_isTold_501 (by decide) ?_
                exact k_zret B hr (by omega) (⟨cp2_33, tl2_34, z_35, (by omega), rfl, rfl, rfl, rfl⟩) ⟨(by first | omega | (dsimp only; omega)), (by first | omega | (dsimp only; omega))⟩ ⟨(by first | omega | (dsimp only; omega)), (by first | omega | (dsimp only; omega))⟩ dL_isTold_505
          · have zc_63 : (lbZ (moC T v (dgN T v)) (mkZ T (moC T v (dgN T v))) (xx % 6)) ≠ (-1) := jne (a := (lbZ (moC T v (dgN T v)) (mkZ T (moC T v (dgN T v))) (xx % 6))) (b := (-1)) (by omega) (by omega) c_63
            refine lv_iload hx hb dL_isTold_442 (lv_at hl 2 rfl) ?_
            refine lv_iconst (v := iI 1) hx hb dL_isTold_444 (by decide) ?_
            refine lv_icmp_lt (tgt := 504) hx hb dL_isTold_445 (by decide) (fun c_66 => ?_) (fun c_66 => ?_)
            · have zc_66 : (lbZ (moC T v (dgN T v)) (mkZ T (moC T v (dgN T v))) (xx % 6)) < 1 := jlt (a := (lbZ (moC T v (dgN T v)) (mkZ T (moC T v (dgN T v))) (xx % 6))) (b := 1) (by omega) (by omega) c_66
              exfalso; omega
            · have zc_66 : 1 ≤ (lbZ (moC T v (dgN T v)) (mkZ T (moC T v (dgN T v))) (xx % 6)) := jnlt (a := (lbZ (moC T v (dgN T v)) (mkZ T (moC T v (dgN T v))) (xx % 6))) (b := 1) (by omega) (by omega) c_66
              refine lv_iload hx hb dL_isTold_448 (lv_at hl 2 rfl) ?_
              refine lv_aload_n hx hb dL_isTold_450 rfl (lv_at hl 4 rfl) ?_
              refine lv_iload_n hx hb dL_isTold_451 rfl (lv_at hl 5 rfl) ?_
              have B := bd_swap (a := []) (b := []) (d := tl2_34) (bd_to rfl B)
              refine k_W (rest := [.int (iI (lbZ (moC T v (dgN T v)) (mkZ T (moC T v (dgN T v))) (xx % 6)))]) (wc := ([] ++ tl2_34)) (wr := []) (w_pages l dC dI k hl0 T K qa cp2_33 tl2_34 v z_35 hQ (by omega)) B mW_L_pages mw_1721 hl ⟨Nat.le_of_ble_eq_true rfl, Nat.le_of_ble_eq_true rfl⟩ (Nat.le_of_ble_eq_true rfl) rfl dL_isTold_452 ⟨by dsimp only; omega, by dsimp only; omega⟩ (fun r w gc gs H locs hp B => ?_)
              rcases hp with ⟨cp2_67, tl2_68, z_69, z_70, z_71, rfl, hw9, rfl, rfl⟩ | ⟨cp2_72, tl2_73, z_74, z_75, z_76, rfl, hw9, rfl, rfl⟩
              · skip
                rw [hw9] at B; clear hw9
                have B := bd_to (ws' := ([] ++ tl2_68)) rfl B
                have hPS : PS dI k T K qa cp2_67 tl2_68 := z_69
                refine W.widen (k := ((cp2_67 - cp) + (5000 + 4))) (n := ((12 * (cp2_67 - cp)) + (6 * (5000 + 4)))) (by omega) (by omega) ?_
                refine lv_icmp_gt (tgt := 504) hx hb dL_isTold_455 (by decide) (fun c_77 => ?_) (fun c_77 => ?_)
                · have zc_77 : ((mkZ T (moC T v (dgN T v))) 0 0) < (lbZ (moC T v (dgN T v)) (mkZ T (moC T v (dgN T v))) (xx % 6)) := jlt (a := ((mkZ T (moC T v (dgN T v))) 0 0)) (b := (lbZ (moC T v (dgN T v)) (mkZ T (moC T v (dgN T v))) (xx % 6))) (by omega) (by omega) c_77
                  exfalso; omega
                · have zc_77 : (lbZ (moC T v (dgN T v)) (mkZ T (moC T v (dgN T v))) (xx % 6)) ≤ ((mkZ T (moC T v (dgN T v))) 0 0) := jnlt (a := ((mkZ T (moC T v (dgN T v))) 0 0)) (b := (lbZ (moC T v (dgN T v)) (mkZ T (moC T v (dgN T v))) (xx % 6))) (by omega) (by omega) c_77
                  refine lv_iload hx hb dL_isTold_458 (lv_at hl 1 rfl) ?_
                  refine lv_if_lt (tgt := 478) hx hb dL_isTold_460 (by decide) (fun c_78 => ?_) (fun c_78 => ?_)
                  · have zc_78 : (rgZ (fpZ T (moC T v (dgN T v)) (mkZ T (moC T v (dgN T v))) (xx % 8)) 0 ((mkZ T (moC T v (dgN T v))) 0 0)) < 0 := jlt (a := (rgZ (fpZ T (moC T v (dgN T v)) (mkZ T (moC T v (dgN T v))) (xx % 8)) 0 ((mkZ T (moC T v (dgN T v))) 0 0))) (b := 0) (by omega) (by omega) c_78
                    refine lv_iload hx hb dL_isTold_478 (lv_at hl 0 rfl) ?_
                    refine lv_if_lt (tgt := 500) hx hb dL_isTold_480 (by decide) (fun _ => ?_) (fun c9 => absurd (by decide) c9)
                    refine lv_iconst (v := iI 1) hx hb dL_isTold_500 (by decide) ?_
                    refine lv_goto (tgt := 505) hx hb dL_isTold_501 (by decide) ?_
                    exact k_zret B hr (by omega) (⟨cp2_67, tl2_68, z_69, (by omega), rfl, rfl, rfl, rfl⟩) ⟨(by first | omega | (dsimp only; omega)), (by first | omega | (dsimp only; omega))⟩ ⟨(by first | omega | (dsimp only; omega)), (by first | omega | (dsimp only; omega))⟩ dL_isTold_505
                  · have zc_78 : 0 ≤ (rgZ (fpZ T (moC T v (dgN T v)) (mkZ T (moC T v (dgN T v))) (xx % 8)) 0 ((mkZ T (moC T v (dgN T v))) 0 0)) := jnlt (a := (rgZ (fpZ T (moC T v (dgN T v)) (mkZ T (moC T v (dgN T v))) (xx % 8)) 0 ((mkZ T (moC T v (dgN T v))) 0 0))) (b := 0) (by omega) (by omega) c_78
                    refine lv_iload hx hb dL_isTold_463 (lv_at hl 1 rfl) ?_
                    refine lv_sipush (v := iI 1000) hx hb dL_isTold_465 (by decide) ?_
                    refine y_div hx hb (a := (rgZ (fpZ T (moC T v (dgN T v)) (mkZ T (moC T v (dgN T v))) (xx % 8)) 0 ((mkZ T (moC T v (dgN T v))) 0 0))) (b := 1000) (by omega) (by omega) dL_isTold_468 ?_
                    refine lv_iload hx hb dL_isTold_469 (lv_at hl 1 rfl) ?_
                    refine lv_sipush (v := iI 1000) hx hb dL_isTold_471 (by decide) ?_
                    refine y_rem hx hb (a := (rgZ (fpZ T (moC T v (dgN T v)) (mkZ T (moC T v (dgN T v))) (xx % 8)) 0 ((mkZ T (moC T v (dgN T v))) 0 0))) (b := 1000) (by omega) (by omega) dL_isTold_474 ?_
                    refine lv_icmp_gt (tgt := 504) hx hb dL_isTold_475 (by decide) (fun c_79 => ?_) (fun c_79 => ?_)
                    · have zc_79 : ((rgZ (fpZ T (moC T v (dgN T v)) (mkZ T (moC T v (dgN T v))) (xx % 8)) 0 ((mkZ T (moC T v (dgN T v))) 0 0)) % 1000) < ((rgZ (fpZ T (moC T v (dgN T v)) (mkZ T (moC T v (dgN T v))) (xx % 8)) 0 ((mkZ T (moC T v (dgN T v))) 0 0)) / 1000) := jlt (a := ((rgZ (fpZ T (moC T v (dgN T v)) (mkZ T (moC T v (dgN T v))) (xx % 8)) 0 ((mkZ T (moC T v (dgN T v))) 0 0)) % 1000)) (b := ((rgZ (fpZ T (moC T v (dgN T v)) (mkZ T (moC T v (dgN T v))) (xx % 8)) 0 ((mkZ T (moC T v (dgN T v))) 0 0)) / 1000)) (by omega) (by omega) c_79
                      exfalso; omega
                    · have zc_79 : ((rgZ (fpZ T (moC T v (dgN T v)) (mkZ T (moC T v (dgN T v))) (xx % 8)) 0 ((mkZ T (moC T v (dgN T v))) 0 0)) / 1000) ≤ ((rgZ (fpZ T (moC T v (dgN T v)) (mkZ T (moC T v (dgN T v))) (xx % 8)) 0 ((mkZ T (moC T v (dgN T v))) 0 0)) % 1000) := jnlt (a := ((rgZ (fpZ T (moC T v (dgN T v)) (mkZ T (moC T v (dgN T v))) (xx % 8)) 0 ((mkZ T (moC T v (dgN T v))) 0 0)) % 1000)) (b := ((rgZ (fpZ T (moC T v (dgN T v)) (mkZ T (moC T v (dgN T v))) (xx % 8)) 0 ((mkZ T (moC T v (dgN T v))) 0 0)) / 1000)) (by omega) (by omega) c_79
                      refine lv_iload hx hb dL_isTold_478 (lv_at hl 0 rfl) ?_
                      refine lv_if_lt (tgt := 500) hx hb dL_isTold_480 (by decide) (fun _ => ?_) (fun c9 => absurd (by decide) c9)
                      refine lv_iconst (v := iI 1) hx hb dL_isTold_500 (by decide) ?_
                      refine lv_goto (tgt := 505) hx hb dL_isTold_501 (by decide) ?_
                      exact k_zret B hr (by omega) (⟨cp2_67, tl2_68, z_69, (by omega), rfl, rfl, rfl, rfl⟩) ⟨(by first | omega | (dsimp only; omega)), (by first | omega | (dsimp only; omega))⟩ ⟨(by first | omega | (dsimp only; omega)), (by first | omega | (dsimp only; omega))⟩ dL_isTold_505
              · skip
                rw [hw9] at B; clear hw9
                have B := bd_to (ws' := ([] ++ tl2_73)) rfl B
                have hPS : PS dI k T K qa cp2_72 tl2_73 := z_74
                exfalso; omega
      · skip
        rw [hw9] at B; clear hw9
        have B := bd_to (ws' := ([] ++ tl2_24)) rfl B
        have hPS : PS dI k T K qa cp2_23 tl2_24 := z_25
        refine W.widen (k := ((cp2_23 - cp) + (5000 + 2))) (n := ((12 * (cp2_23 - cp)) + (6 * (5000 + 2)))) (by omega) (by omega) ?_
        refine lv_istore (lv' := [(5, .int (iI (-2000000001))), (4, .int (iI (lbZ (moC T v (dgN T v)) (mkZ T (moC T v (dgN T v))) (xx % 6)))), (3, .int (iI 1)), (0, .ref qa), (1, .int (iI v)), (2, .int (iI xx))]) hx hb dL_isTold_418 hl (by decide) rfl (fun ls hl => ?_)
        refine lv_aload_n hx hb dL_isTold_420 rfl (lv_at hl 3 rfl) ?_
        refine lv_iload_n hx hb dL_isTold_421 rfl (lv_at hl 4 rfl) ?_
        refine lv_iload_n hx hb dL_isTold_422 rfl (lv_at hl 5 rfl) ?_
        refine lv_bipush (v := iI 8) hx hb dL_isTold_423 (by decide) ?_
        refine y_rem hx hb (a := xx) (b := 8) (by omega) (by omega) dL_isTold_425 ?_
        refine lv_iconst (v := iI 1) hx hb dL_isTold_426 (by decide) ?_
        have hrg := hTo.2.2.2 (xx % 8) (by omega) (by omega)
        have B := bd_swap (a := []) (b := []) (d := tl2_24) (bd_to rfl B)
        refine k_W (rest := []) (wc := ([] ++ tl2_24)) (wr := []) (w_range l dC dI k hl0 T K qa cp2_23 tl2_24 v (xx % 8) 1 z_25 hQ (by omega) (by omega) (by omega)) B mW_L_range mw_1843 hl ⟨Nat.le_of_ble_eq_true rfl, Nat.le_of_ble_eq_true rfl⟩ (Nat.le_of_ble_eq_true rfl) rfl dL_isTold_427 ⟨by dsimp only; omega, by dsimp only; omega⟩ (fun r w gc gs H locs hp B => ?_)
        rcases hp with ⟨cp2_80, tl2_81, z_82, z_83, z_84, rfl, hw9, rfl, rfl⟩ | ⟨cp2_85, tl2_86, z_87, z_88, z_89, rfl, hw9, rfl, rfl⟩
        · skip
          rw [hw9] at B; clear hw9
          have B := bd_to (ws' := ([] ++ tl2_81)) rfl B
          have hPS : PS dI k T K qa cp2_80 tl2_81 := z_82
          refine W.widen (k := ((cp2_80 - cp) + (5000 + 3))) (n := ((12 * (cp2_80 - cp)) + (6 * (5000 + 3)))) (by omega) (by omega) ?_
          refine lv_istore (lv' := [(6, .int (iI (rgZ (fpZ T (moC T v (dgN T v)) (mkZ T (moC T v (dgN T v))) (xx % 8)) 1 ((mkZ T (moC T v (dgN T v))) 0 0)))), (5, .int (iI (-2000000001))), (4, .int (iI (lbZ (moC T v (dgN T v)) (mkZ T (moC T v (dgN T v))) (xx % 6)))), (3, .int (iI 1)), (0, .ref qa), (1, .int (iI v)), (2, .int (iI xx))]) hx hb dL_isTold_430 hl (by decide) rfl (fun ls hl => ?_)
          refine lv_iload_n hx hb dL_isTold_432 rfl (lv_at hl 3 rfl) ?_
          refine lv_if_eq (tgt := 504) hx hb dL_isTold_433 (by decide) (fun c9 => absurd c9 (by decide)) (fun _ => ?_)
          refine lv_iload hx hb dL_isTold_436 (lv_at hl 2 rfl) ?_
          refine lv_iconst (v := iI (-1)) hx hb dL_isTold_438 (by decide) ?_
          refine lv_icmp_eq (tgt := 458) hx hb dL_isTold_439 (by decide) (fun c_90 => ?_) (fun c_90 => ?_)
          · have zc_90 : (lbZ (moC T v (dgN T v)) (mkZ T (moC T v (dgN T v))) (xx % 6)) = (-1) := jeq (a := (lbZ (moC T v (dgN T v)) (mkZ T (moC T v (dgN T v))) (xx % 6))) (b := (-1)) (by omega) (by omega) c_90
            refine lv_iload hx hb dL_isTold_458 (lv_at hl 1 rfl) ?_
            refine lv_if_lt (tgt := 478) hx hb dL_isTold_460 (by decide) (fun _ => ?_) (fun c9 => absurd (by decide) c9)
            refine lv_iload hx hb dL_isTold_478 (lv_at hl 0 rfl) ?_
            refine lv_if_lt (tgt := 500) hx hb dL_isTold_480 (by decide) (fun c_91 => ?_) (fun c_91 => ?_)
            · have zc_91 : (rgZ (fpZ T (moC T v (dgN T v)) (mkZ T (moC T v (dgN T v))) (xx % 8)) 1 ((mkZ T (moC T v (dgN T v))) 0 0)) < 0 := jlt (a := (rgZ (fpZ T (moC T v (dgN T v)) (mkZ T (moC T v (dgN T v))) (xx % 8)) 1 ((mkZ T (moC T v (dgN T v))) 0 0))) (b := 0) (by omega) (by omega) c_91
              refine lv_iconst (v := iI 1) hx hb dL_isTold_500 (by decide) ?_
              refine lv_goto (tgt := 505) hx hb dL_isTold_501 (by decide) ?_
              exact k_zret B hr (by omega) (⟨cp2_80, tl2_81, z_82, (by omega), rfl, rfl, rfl, rfl⟩) ⟨(by first | omega | (dsimp only; omega)), (by first | omega | (dsimp only; omega))⟩ ⟨(by first | omega | (dsimp only; omega)), (by first | omega | (dsimp only; omega))⟩ dL_isTold_505
            · have zc_91 : 0 ≤ (rgZ (fpZ T (moC T v (dgN T v)) (mkZ T (moC T v (dgN T v))) (xx % 8)) 1 ((mkZ T (moC T v (dgN T v))) 0 0)) := jnlt (a := (rgZ (fpZ T (moC T v (dgN T v)) (mkZ T (moC T v (dgN T v))) (xx % 8)) 1 ((mkZ T (moC T v (dgN T v))) 0 0))) (b := 0) (by omega) (by omega) c_91
              refine lv_iload hx hb dL_isTold_483 (lv_at hl 0 rfl) ?_
              refine lv_sipush (v := iI 1000) hx hb dL_isTold_485 (by decide) ?_
              refine y_div hx hb (a := (rgZ (fpZ T (moC T v (dgN T v)) (mkZ T (moC T v (dgN T v))) (xx % 8)) 1 ((mkZ T (moC T v (dgN T v))) 0 0))) (b := 1000) (by omega) (by omega) dL_isTold_488 ?_
              refine lv_iload hx hb dL_isTold_489 (lv_at hl 1 rfl) ?_
              refine lv_sipush (v := iI 1000) hx hb dL_isTold_491 (by decide) ?_
              refine lv_irem hx hb dL_isTold_494 (by decide) ?_
              refine lv_seti (y := iI (-1)) (by decide) ?_
              refine lv_iconst (v := iI 1) hx hb dL_isTold_495 (by decide) ?_
              refine lv_iadd hx hb dL_isTold_496 ?_
              refine lv_seti (y := iI 0) (by decide) ?_
              refine lv_icmp_le (tgt := 504) hx hb dL_isTold_497 (by decide) (fun c_92 => ?_) (fun c_92 => ?_)
              · have zc_92 : ((rgZ (fpZ T (moC T v (dgN T v)) (mkZ T (moC T v (dgN T v))) (xx % 8)) 1 ((mkZ T (moC T v (dgN T v))) 0 0)) / 1000) ≤ 0 := jle (a := ((rgZ (fpZ T (moC T v (dgN T v)) (mkZ T (moC T v (dgN T v))) (xx % 8)) 1 ((mkZ T (moC T v (dgN T v))) 0 0)) / 1000)) (b := 0) (by omega) (by omega) c_92
                exfalso; omega
              · have zc_92 : 0 < ((rgZ (fpZ T (moC T v (dgN T v)) (mkZ T (moC T v (dgN T v))) (xx % 8)) 1 ((mkZ T (moC T v (dgN T v))) 0 0)) / 1000) := jnle (a := ((rgZ (fpZ T (moC T v (dgN T v)) (mkZ T (moC T v (dgN T v))) (xx % 8)) 1 ((mkZ T (moC T v (dgN T v))) 0 0)) / 1000)) (b := 0) (by omega) (by omega) c_92
                refine lv_iconst (v := iI 1) hx hb dL_isTold_500 (by decide) ?_
                refine lv_goto (tgt := 505) hx hb dL_isTold_501 (by decide) ?_
                exact k_zret B hr (by omega) (⟨cp2_80, tl2_81, z_82, (by omega), rfl, rfl, rfl, rfl⟩) ⟨(by first | omega | (dsimp only; omega)), (by first | omega | (dsimp only; omega))⟩ ⟨(by first | omega | (dsimp only; omega)), (by first | omega | (dsimp only; omega))⟩ dL_isTold_505
          · have zc_90 : (lbZ (moC T v (dgN T v)) (mkZ T (moC T v (dgN T v))) (xx % 6)) ≠ (-1) := jne (a := (lbZ (moC T v (dgN T v)) (mkZ T (moC T v (dgN T v))) (xx % 6))) (b := (-1)) (by omega) (by omega) c_90
            refine lv_iload hx hb dL_isTold_442 (lv_at hl 2 rfl) ?_
            refine lv_iconst (v := iI 1) hx hb dL_isTold_444 (by decide) ?_
            refine lv_icmp_lt (tgt := 504) hx hb dL_isTold_445 (by decide) (fun c_93 => ?_) (fun c_93 => ?_)
            · have zc_93 : (lbZ (moC T v (dgN T v)) (mkZ T (moC T v (dgN T v))) (xx % 6)) < 1 := jlt (a := (lbZ (moC T v (dgN T v)) (mkZ T (moC T v (dgN T v))) (xx % 6))) (b := 1) (by omega) (by omega) c_93
              exfalso; omega
            · have zc_93 : 1 ≤ (lbZ (moC T v (dgN T v)) (mkZ T (moC T v (dgN T v))) (xx % 6)) := jnlt (a := (lbZ (moC T v (dgN T v)) (mkZ T (moC T v (dgN T v))) (xx % 6))) (b := 1) (by omega) (by omega) c_93
              refine lv_iload hx hb dL_isTold_448 (lv_at hl 2 rfl) ?_
              refine lv_aload_n hx hb dL_isTold_450 rfl (lv_at hl 4 rfl) ?_
              refine lv_iload_n hx hb dL_isTold_451 rfl (lv_at hl 5 rfl) ?_
              have B := bd_swap (a := []) (b := []) (d := tl2_81) (bd_to rfl B)
              refine k_W (rest := [.int (iI (lbZ (moC T v (dgN T v)) (mkZ T (moC T v (dgN T v))) (xx % 6)))]) (wc := ([] ++ tl2_81)) (wr := []) (w_pages l dC dI k hl0 T K qa cp2_80 tl2_81 v z_82 hQ (by omega)) B mW_L_pages mw_1721 hl ⟨Nat.le_of_ble_eq_true rfl, Nat.le_of_ble_eq_true rfl⟩ (Nat.le_of_ble_eq_true rfl) rfl dL_isTold_452 ⟨by dsimp only; omega, by dsimp only; omega⟩ (fun r w gc gs H locs hp B => ?_)
              rcases hp with ⟨cp2_94, tl2_95, z_96, z_97, z_98, rfl, hw9, rfl, rfl⟩ | ⟨cp2_99, tl2_100, z_101, z_102, z_103, rfl, hw9, rfl, rfl⟩
              · skip
                rw [hw9] at B; clear hw9
                have B := bd_to (ws' := ([] ++ tl2_95)) rfl B
                have hPS : PS dI k T K qa cp2_94 tl2_95 := z_96
                refine W.widen (k := ((cp2_94 - cp) + (5000 + 4))) (n := ((12 * (cp2_94 - cp)) + (6 * (5000 + 4)))) (by omega) (by omega) ?_
                refine lv_icmp_gt (tgt := 504) hx hb dL_isTold_455 (by decide) (fun c_104 => ?_) (fun c_104 => ?_)
                · have zc_104 : ((mkZ T (moC T v (dgN T v))) 0 0) < (lbZ (moC T v (dgN T v)) (mkZ T (moC T v (dgN T v))) (xx % 6)) := jlt (a := ((mkZ T (moC T v (dgN T v))) 0 0)) (b := (lbZ (moC T v (dgN T v)) (mkZ T (moC T v (dgN T v))) (xx % 6))) (by omega) (by omega) c_104
                  exfalso; omega
                · have zc_104 : (lbZ (moC T v (dgN T v)) (mkZ T (moC T v (dgN T v))) (xx % 6)) ≤ ((mkZ T (moC T v (dgN T v))) 0 0) := jnlt (a := ((mkZ T (moC T v (dgN T v))) 0 0)) (b := (lbZ (moC T v (dgN T v)) (mkZ T (moC T v (dgN T v))) (xx % 6))) (by omega) (by omega) c_104
                  refine lv_iload hx hb dL_isTold_458 (lv_at hl 1 rfl) ?_
                  refine lv_if_lt (tgt := 478) hx hb dL_isTold_460 (by decide) (fun _ => ?_) (fun c9 => absurd (by decide) c9)
                  refine lv_iload hx hb dL_isTold_478 (lv_at hl 0 rfl) ?_
                  refine lv_if_lt (tgt := 500) hx hb dL_isTold_480 (by decide) (fun c_105 => ?_) (fun c_105 => ?_)
                  · have zc_105 : (rgZ (fpZ T (moC T v (dgN T v)) (mkZ T (moC T v (dgN T v))) (xx % 8)) 1 ((mkZ T (moC T v (dgN T v))) 0 0)) < 0 := jlt (a := (rgZ (fpZ T (moC T v (dgN T v)) (mkZ T (moC T v (dgN T v))) (xx % 8)) 1 ((mkZ T (moC T v (dgN T v))) 0 0))) (b := 0) (by omega) (by omega) c_105
                    refine lv_iconst (v := iI 1) hx hb dL_isTold_500 (by decide) ?_
                    refine lv_goto (tgt := 505) hx hb dL_isTold_501 (by decide) ?_
                    exact k_zret B hr (by omega) (⟨cp2_94, tl2_95, z_96, (by omega), rfl, rfl, rfl, rfl⟩) ⟨(by first | omega | (dsimp only; omega)), (by first | omega | (dsimp only; omega))⟩ ⟨(by first | omega | (dsimp only; omega)), (by first | omega | (dsimp only; omega))⟩ dL_isTold_505
                  · have zc_105 : 0 ≤ (rgZ (fpZ T (moC T v (dgN T v)) (mkZ T (moC T v (dgN T v))) (xx % 8)) 1 ((mkZ T (moC T v (dgN T v))) 0 0)) := jnlt (a := (rgZ (fpZ T (moC T v (dgN T v)) (mkZ T (moC T v (dgN T v))) (xx % 8)) 1 ((mkZ T (moC T v (dgN T v))) 0 0))) (b := 0) (by omega) (by omega) c_105
                    refine lv_iload hx hb dL_isTold_483 (lv_at hl 0 rfl) ?_
                    refine lv_sipush (v := iI 1000) hx hb dL_isTold_485 (by decide) ?_
                    refine y_div hx hb (a := (rgZ (fpZ T (moC T v (dgN T v)) (mkZ T (moC T v (dgN T v))) (xx % 8)) 1 ((mkZ T (moC T v (dgN T v))) 0 0))) (b := 1000) (by omega) (by omega) dL_isTold_488 ?_
                    refine lv_iload hx hb dL_isTold_489 (lv_at hl 1 rfl) ?_
                    refine lv_sipush (v := iI 1000) hx hb dL_isTold_491 (by decide) ?_
                    refine lv_irem hx hb dL_isTold_494 (by decide) ?_
                    refine lv_seti (y := iI (-1)) (by decide) ?_
                    refine lv_iconst (v := iI 1) hx hb dL_isTold_495 (by decide) ?_
                    refine lv_iadd hx hb dL_isTold_496 ?_
                    refine lv_seti (y := iI 0) (by decide) ?_
                    refine lv_icmp_le (tgt := 504) hx hb dL_isTold_497 (by decide) (fun c_106 => ?_) (fun c_106 => ?_)
                    · have zc_106 : ((rgZ (fpZ T (moC T v (dgN T v)) (mkZ T (moC T v (dgN T v))) (xx % 8)) 1 ((mkZ T (moC T v (dgN T v))) 0 0)) / 1000) ≤ 0 := jle (a := ((rgZ (fpZ T (moC T v (dgN T v)) (mkZ T (moC T v (dgN T v))) (xx % 8)) 1 ((mkZ T (moC T v (dgN T v))) 0 0)) / 1000)) (b := 0) (by omega) (by omega) c_106
                      exfalso; omega
                    · have zc_106 : 0 < ((rgZ (fpZ T (moC T v (dgN T v)) (mkZ T (moC T v (dgN T v))) (xx % 8)) 1 ((mkZ T (moC T v (dgN T v))) 0 0)) / 1000) := jnle (a := ((rgZ (fpZ T (moC T v (dgN T v)) (mkZ T (moC T v (dgN T v))) (xx % 8)) 1 ((mkZ T (moC T v (dgN T v))) 0 0)) / 1000)) (b := 0) (by omega) (by omega) c_106
                      refine lv_iconst (v := iI 1) hx hb dL_isTold_500 (by decide) ?_
                      refine lv_goto (tgt := 505) hx hb dL_isTold_501 (by decide) ?_
                      exact k_zret B hr (by omega) (⟨cp2_94, tl2_95, z_96, (by omega), rfl, rfl, rfl, rfl⟩) ⟨(by first | omega | (dsimp only; omega)), (by first | omega | (dsimp only; omega))⟩ ⟨(by first | omega | (dsimp only; omega)), (by first | omega | (dsimp only; omega))⟩ dL_isTold_505
              · skip
                rw [hw9] at B; clear hw9
                have B := bd_to (ws' := ([] ++ tl2_100)) rfl B
                have hPS : PS dI k T K qa cp2_99 tl2_100 := z_101
                exfalso; omega
        · skip
          rw [hw9] at B; clear hw9
          have B := bd_to (ws' := ([] ++ tl2_86)) rfl B
          have hPS : PS dI k T K qa cp2_85 tl2_86 := z_87
          refine W.widen (k := ((cp2_85 - cp) + (5000 + 3))) (n := ((12 * (cp2_85 - cp)) + (6 * (5000 + 3)))) (by omega) (by omega) ?_
          refine lv_istore (lv' := [(6, .int (iI (-2000000001))), (5, .int (iI (-2000000001))), (4, .int (iI (lbZ (moC T v (dgN T v)) (mkZ T (moC T v (dgN T v))) (xx % 6)))), (3, .int (iI 1)), (0, .ref qa), (1, .int (iI v)), (2, .int (iI xx))]) hx hb dL_isTold_430 hl (by decide) rfl (fun ls hl => ?_)
          refine lv_iload_n hx hb dL_isTold_432 rfl (lv_at hl 3 rfl) ?_
          refine lv_if_eq (tgt := 504) hx hb dL_isTold_433 (by decide) (fun c9 => absurd c9 (by decide)) (fun _ => ?_)
          refine lv_iload hx hb dL_isTold_436 (lv_at hl 2 rfl) ?_
          refine lv_iconst (v := iI (-1)) hx hb dL_isTold_438 (by decide) ?_
          refine lv_icmp_eq (tgt := 458) hx hb dL_isTold_439 (by decide) (fun c_107 => ?_) (fun c_107 => ?_)
          · have zc_107 : (lbZ (moC T v (dgN T v)) (mkZ T (moC T v (dgN T v))) (xx % 6)) = (-1) := jeq (a := (lbZ (moC T v (dgN T v)) (mkZ T (moC T v (dgN T v))) (xx % 6))) (b := (-1)) (by omega) (by omega) c_107
            refine lv_iload hx hb dL_isTold_458 (lv_at hl 1 rfl) ?_
            refine lv_if_lt (tgt := 478) hx hb dL_isTold_460 (by decide) (fun _ => ?_) (fun c9 => absurd (by decide) c9)
            refine lv_iload hx hb dL_isTold_478 (lv_at hl 0 rfl) ?_
            refine lv_if_lt (tgt := 500) hx hb dL_isTold_480 (by decide) (fun _ => ?_) (fun c9 => absurd (by decide) c9)
            refine lv_iconst (v := iI 1) hx hb dL_isTold_500 (by decide) ?_
            refine lv_goto (tgt := 505) hx hb dL_isTold_501 (by decide) ?_
            exact k_zret B hr (by omega) (⟨cp2_85, tl2_86, z_87, (by omega), rfl, rfl, rfl, rfl⟩) ⟨(by first | omega | (dsimp only; omega)), (by first | omega | (dsimp only; omega))⟩ ⟨(by first | omega | (dsimp only; omega)), (by first | omega | (dsimp only; omega))⟩ dL_isTold_505
          · have zc_107 : (lbZ (moC T v (dgN T v)) (mkZ T (moC T v (dgN T v))) (xx % 6)) ≠ (-1) := jne (a := (lbZ (moC T v (dgN T v)) (mkZ T (moC T v (dgN T v))) (xx % 6))) (b := (-1)) (by omega) (by omega) c_107
            refine lv_iload hx hb dL_isTold_442 (lv_at hl 2 rfl) ?_
            refine lv_iconst (v := iI 1) hx hb dL_isTold_444 (by decide) ?_
            refine lv_icmp_lt (tgt := 504) hx hb dL_isTold_445 (by decide) (fun c_108 => ?_) (fun c_108 => ?_)
            · have zc_108 : (lbZ (moC T v (dgN T v)) (mkZ T (moC T v (dgN T v))) (xx % 6)) < 1 := jlt (a := (lbZ (moC T v (dgN T v)) (mkZ T (moC T v (dgN T v))) (xx % 6))) (b := 1) (by omega) (by omega) c_108
              exfalso; omega
            · have zc_108 : 1 ≤ (lbZ (moC T v (dgN T v)) (mkZ T (moC T v (dgN T v))) (xx % 6)) := jnlt (a := (lbZ (moC T v (dgN T v)) (mkZ T (moC T v (dgN T v))) (xx % 6))) (b := 1) (by omega) (by omega) c_108
              refine lv_iload hx hb dL_isTold_448 (lv_at hl 2 rfl) ?_
              refine lv_aload_n hx hb dL_isTold_450 rfl (lv_at hl 4 rfl) ?_
              refine lv_iload_n hx hb dL_isTold_451 rfl (lv_at hl 5 rfl) ?_
              have B := bd_swap (a := []) (b := []) (d := tl2_86) (bd_to rfl B)
              refine k_W (rest := [.int (iI (lbZ (moC T v (dgN T v)) (mkZ T (moC T v (dgN T v))) (xx % 6)))]) (wc := ([] ++ tl2_86)) (wr := []) (w_pages l dC dI k hl0 T K qa cp2_85 tl2_86 v z_87 hQ (by omega)) B mW_L_pages mw_1721 hl ⟨Nat.le_of_ble_eq_true rfl, Nat.le_of_ble_eq_true rfl⟩ (Nat.le_of_ble_eq_true rfl) rfl dL_isTold_452 ⟨by dsimp only; omega, by dsimp only; omega⟩ (fun r w gc gs H locs hp B => ?_)
              rcases hp with ⟨cp2_109, tl2_110, z_111, z_112, z_113, rfl, hw9, rfl, rfl⟩ | ⟨cp2_114, tl2_115, z_116, z_117, z_118, rfl, hw9, rfl, rfl⟩
              · skip
                rw [hw9] at B; clear hw9
                have B := bd_to (ws' := ([] ++ tl2_110)) rfl B
                have hPS : PS dI k T K qa cp2_109 tl2_110 := z_111
                refine W.widen (k := ((cp2_109 - cp) + (5000 + 4))) (n := ((12 * (cp2_109 - cp)) + (6 * (5000 + 4)))) (by omega) (by omega) ?_
                refine lv_icmp_gt (tgt := 504) hx hb dL_isTold_455 (by decide) (fun c_119 => ?_) (fun c_119 => ?_)
                · have zc_119 : ((mkZ T (moC T v (dgN T v))) 0 0) < (lbZ (moC T v (dgN T v)) (mkZ T (moC T v (dgN T v))) (xx % 6)) := jlt (a := ((mkZ T (moC T v (dgN T v))) 0 0)) (b := (lbZ (moC T v (dgN T v)) (mkZ T (moC T v (dgN T v))) (xx % 6))) (by omega) (by omega) c_119
                  exfalso; omega
                · have zc_119 : (lbZ (moC T v (dgN T v)) (mkZ T (moC T v (dgN T v))) (xx % 6)) ≤ ((mkZ T (moC T v (dgN T v))) 0 0) := jnlt (a := ((mkZ T (moC T v (dgN T v))) 0 0)) (b := (lbZ (moC T v (dgN T v)) (mkZ T (moC T v (dgN T v))) (xx % 6))) (by omega) (by omega) c_119
                  refine lv_iload hx hb dL_isTold_458 (lv_at hl 1 rfl) ?_
                  refine lv_if_lt (tgt := 478) hx hb dL_isTold_460 (by decide) (fun _ => ?_) (fun c9 => absurd (by decide) c9)
                  refine lv_iload hx hb dL_isTold_478 (lv_at hl 0 rfl) ?_
                  refine lv_if_lt (tgt := 500) hx hb dL_isTold_480 (by decide) (fun _ => ?_) (fun c9 => absurd (by decide) c9)
                  refine lv_iconst (v := iI 1) hx hb dL_isTold_500 (by decide) ?_
                  refine lv_goto (tgt := 505) hx hb dL_isTold_501 (by decide) ?_
                  exact k_zret B hr (by omega) (⟨cp2_109, tl2_110, z_111, (by omega), rfl, rfl, rfl, rfl⟩) ⟨(by first | omega | (dsimp only; omega)), (by first | omega | (dsimp only; omega))⟩ ⟨(by first | omega | (dsimp only; omega)), (by first | omega | (dsimp only; omega))⟩ dL_isTold_505
              · skip
                rw [hw9] at B; clear hw9
                have B := bd_to (ws' := ([] ++ tl2_115)) rfl B
                have hPS : PS dI k T K qa cp2_114 tl2_115 := z_116
                exfalso; omega
    · skip
      rw [hw9] at B; clear hw9
      have B := bd_to (ws' := ([] ++ tl2_14)) rfl B
      have hPS : PS dI k T K qa cp2_13 tl2_14 := z_15
      exfalso; omega
  · have zc_7 : pq < (T 0 0 0 0) := jnle (a := (T 0 0 0 0)) (b := pq) (by omega) (by omega) c_7
    refine lv_iload_n hx hb dL_isTold_14 rfl (lv_at hl 1 rfl) ?_
    refine lv_if_eq (tgt := 397) hx hb dL_isTold_15 (by decide) (fun c9 => absurd c9 (by decide)) (fun _ => ?_)
    refine lv_aload_n hx hb dL_isTold_18 rfl (lv_at hl 2 rfl) ?_
    refine lv_iload_n hx hb dL_isTold_19 rfl (lv_at hl 3 rfl) ?_
    refine lv_iload hx hb dL_isTold_20 (lv_at hl 0 rfl) ?_
    obtain ⟨hlc, hle, hla, hby, hld, hlm⟩ := hTo.1 pq (by omega) (by omega)
    have B := bd_swap (a := []) (b := []) (d := tl2_4) (bd_to rfl B)
    refine k_W (rest := []) (wc := ([] ++ tl2_4)) (wr := []) (w_lines l dC dI k hl0 T K qa cp2_3 tl2_4 v pq z_5 hQ (by omega) (by omega)) B mW_L_lines mw_1360 hl ⟨Nat.le_of_ble_eq_true rfl, Nat.le_of_ble_eq_true rfl⟩ (Nat.le_of_ble_eq_true rfl) rfl dL_isTold_22 ⟨by dsimp only; omega, by dsimp only; omega⟩ (fun r w gc gs H locs hp B => ?_)
    rcases hp with ⟨cp2_120, tl2_121, z_122, z_123, z_124, rfl, hw9, rfl, rfl⟩ | ⟨cp2_125, tl2_126, z_127, z_128, z_129, rfl, hw9, rfl, rfl⟩
    · skip
      rw [hw9] at B; clear hw9
      have B := bd_to (ws' := ([] ++ tl2_121)) rfl B
      have hPS : PS dI k T K qa cp2_120 tl2_121 := z_122
      refine W.widen (k := ((cp2_120 - cp) + (2 + (300 * Int.toNat pq) + 2))) (n := ((12 * (cp2_120 - cp)) + (6 * (2 + (300 * Int.toNat pq) + 2)))) (by omega) (by omega) ?_
      refine lv_istore (lv' := [(5, .int (iI (LCz T v (dgN T v) pq))), (4, .int (iI pq)), (3, .int (iI 1)), (0, .ref qa), (1, .int (iI v)), (2, .int (iI xx))]) hx hb dL_isTold_25 hl (by decide) rfl (fun ls hl => ?_)
      refine lv_iconst (v := iI (-1)) hx hb dL_isTold_27 (by decide) ?_
      refine lv_istore (lv' := [(6, .int (iI (-1))), (5, .int (iI (LCz T v (dgN T v) pq))), (4, .int (iI pq)), (3, .int (iI 1)), (0, .ref qa), (1, .int (iI v)), (2, .int (iI xx))]) hx hb dL_isTold_28 hl (by decide) rfl (fun ls hl => ?_)
      refine lv_iconst (v := iI 0) hx hb dL_isTold_30 (by decide) ?_
      refine lv_istore (lv' := [(7, .int (iI 0)), (6, .int (iI (-1))), (5, .int (iI (LCz T v (dgN T v) pq))), (4, .int (iI pq)), (3, .int (iI 1)), (0, .ref qa), (1, .int (iI v)), (2, .int (iI xx))]) hx hb dL_isTold_31 hl (by decide) rfl (fun ls hl => ?_)
      refine W.widen (k := ((cp2_120 - cp) + (2 + (300 * Int.toNat pq) + 2 + (3 * Int.toNat 0)))) (n := ((12 * (cp2_120 - cp)) + (6 * (2 + (300 * Int.toNat pq) + 2 + (3 * Int.toNat 0))))) (by omega) (by omega) ?_
      refine k_loopG (σ := Int × Int × Nat × va_W) B (fun g9 : Int × Int × Nat × va_W => (0 ≤ g9.1 ∧ g9.1 ≤ LCz T v (dgN T v) pq) ∧ (PS dI k T K qa g9.2.2.1 g9.2.2.2) ∧ (cp ≤ g9.2.2.1 ∧ g9.2.2.1 ≤ 131072) ∧ ((g9.1 = 0 ∧ g9.2.1 = -1) ∨ (0 < g9.1 ∧ g9.2.1 = LEz T v (dgN T v) pq (g9.1 - 1)))) (fun g9 : Int × Int × Nat × va_W => (LCz T v (dgN T v) pq - g9.1).toNat) (fun g9 : Int × Int × Nat × va_W => [(7, .int (iI g9.1)), (6, .int (iI g9.2.1)), (5, .int (iI (LCz T v (dgN T v) pq))), (4, .int (iI pq)), (3, .int (iI 1)), (0, .ref qa), (1, .int (iI v)), (2, .int (iI xx))]) (fun g9 : Int × Int × Nat × va_W => ([] ++ g9.2.2.2)) (fun g9 : Int × Int × Nat × va_W => ((g9.2.2.1 - cp) + (2 + (300 * Int.toNat pq) + 2 + (3 * Int.toNat g9.1)))) (fun g9 : Int × Int × Nat × va_W => ((12 * (g9.2.2.1 - cp)) + (6 * (2 + (300 * Int.toNat pq) + 2 + (3 * Int.toNat g9.1))))) ?_ (0, (-1), cp2_120, tl2_121) ⟨(show 0 ≤ 0 ∧ 0 ≤ LCz T v (dgN T v) pq from (by omega)), (show PS dI k T K qa cp2_120 tl2_121 from hPS), (show cp ≤ cp2_120 ∧ cp2_120 ≤ 131072 from (by omega)), (show (0 = 0 ∧ (-1) = -1) ∨ (0 < 0 ∧ (-1) = LEz T v (dgN T v) pq (0 - 1)) from (Or.inl ⟨rfl, rfl⟩))⟩ ls H locs (lv_sub hl [0, 1, 2, 3, 4, 5, 6, 7] rfl) (bd_to rfl B)
      clear hl B
      rintro ⟨kq, eb, cp4, tl4⟩ ⟨hk2, hPS, hc4, heb⟩ ih_130 ls H locs hl B
      have hk2 : 0 ≤ kq ∧ kq ≤ LCz T v (dgN T v) pq := hk2
      have hPS : PS dI k T K qa cp4 tl4 := hPS
      have hc4 : cp ≤ cp4 ∧ cp4 ≤ 131072 := hc4
      have heb : (kq = 0 ∧ eb = -1) ∨ (0 < kq ∧ eb = LEz T v (dgN T v) pq (kq - 1)) := heb
      show W p l e _ s m args below meth c H locs ((cp4 - cp) + (2 + (300 * Int.toNat pq) + 2 + (3 * Int.toNat kq))) ((12 * (cp4 - cp)) + (6 * (2 + (300 * Int.toNat pq) + 2 + (3 * Int.toNat kq)))) _ _
      have hl : lv_has ls 12 [(7, .int (iI kq)), (6, .int (iI eb)), (5, .int (iI (LCz T v (dgN T v) pq))), (4, .int (iI pq)), (3, .int (iI 1)), (0, .ref qa), (1, .int (iI v)), (2, .int (iI xx))] := hl
      have B := bd_to (ws' := ([] ++ tl4)) rfl B
      refine lv_iload hx hb dL_isTold_33 (lv_at hl 0 rfl) ?_
      refine lv_iload hx hb dL_isTold_35 (lv_at hl 2 rfl) ?_
      refine lv_icmp_ge (tgt := 179) hx hb dL_isTold_37 (by decide) (fun c_131 => ?_) (fun c_131 => ?_)
      · have zc_131 : (LCz T v (dgN T v) pq) ≤ kq := jle (a := (LCz T v (dgN T v) pq)) (b := kq) (by omega) (by omega) c_131
        have hkl : kq = LCz T v (dgN T v) pq := by omega
        rw [hkl] at heb
        have hend : LCz T v (dgN T v) pq = 0 ∨ (0 ≤ eb ∧ eb ≤ 120 ∧ eb % 10 = 0) := by
          rcases heb with h9 | ⟨h8, h9⟩
          · exact Or.inl h9.1
          · have q1 := (hle (LCz T v (dgN T v) pq - 1) (by omega) (by omega)).1
            have q2 := hla h8
            rw [← h9] at q1 q2
            exact Or.inr ⟨q1.1, q1.2, q2⟩
        refine lv_aload_n hx hb dL_isTold_179 rfl (lv_at hl 5 rfl) ?_
        refine lv_iload_n hx hb dL_isTold_180 rfl (lv_at hl 6 rfl) ?_
        refine lv_iload hx hb dL_isTold_181 (lv_at hl 3 rfl) ?_
        have B := bd_swap (a := []) (b := []) (d := tl4) (bd_to rfl B)
        refine k_W (rest := []) (wc := ([] ++ tl4)) (wr := []) (w_byAll l dC dI k hl0 T K qa cp4 tl4 v pq hPS hQ (by omega) (by omega)) B mW_L_byAll mw_1702 hl ⟨Nat.le_of_ble_eq_true rfl, Nat.le_of_ble_eq_true rfl⟩ (Nat.le_of_ble_eq_true rfl) rfl dL_isTold_183 ⟨by dsimp only; omega, by dsimp only; omega⟩ (fun r w gc gs H locs hp B => ?_)
        rcases hp with ⟨cp2_132, tl2_133, z_134, z_135, z_136, rfl, hw9, rfl, rfl⟩ | ⟨cp2_137, tl2_138, z_139, z_140, z_141, rfl, hw9, rfl, rfl⟩
        · skip
          rw [hw9] at B; clear hw9
          have B := bd_to (ws' := ([] ++ tl2_133)) rfl B
          have hPS : PS dI k T K qa cp2_132 tl2_133 := z_134
          refine W.widen (k := ((cp2_132 - cp) + (2 + (300 * Int.toNat pq) + 148 + 1))) (n := ((12 * (cp2_132 - cp)) + (6 * (2 + (300 * Int.toNat pq) + 148 + 1)))) (by omega) (by omega) ?_
          refine lv_lstore (lv' := [(7, .long (lI (byZ T v (dgN T v) pq))), (6, .int (iI eb)), (5, .int (iI (LCz T v (dgN T v) pq))), (4, .int (iI pq)), (3, .int (iI 1)), (0, .ref qa), (1, .int (iI v)), (2, .int (iI xx))]) hx hb dL_isTold_186 hl (by decide) rfl (fun ls hl => ?_)
          refine lv_iload_n hx hb dL_isTold_188 rfl (lv_at hl 4 rfl) ?_
          refine lv_if_eq (tgt := 266) hx hb dL_isTold_189 (by decide) (fun c9 => absurd c9 (by decide)) (fun _ => ?_)
          refine lv_iload hx hb dL_isTold_192 (lv_at hl 2 rfl) ?_
          refine lv_if_eq (tgt := 205) hx hb dL_isTold_194 (by decide) (fun c_142 => ?_) (fun c_142 => ?_)
          · have zc_142 : (LCz T v (dgN T v) pq) = 0 := jeq (a := (LCz T v (dgN T v) pq)) (b := 0) (by omega) (by omega) c_142
            refine lv_lload hx hb dL_isTold_205 (lv_at hl 0 rfl) ?_
            refine lv_aload_n hx hb dL_isTold_207 rfl (lv_at hl 5 rfl) ?_
            refine lv_iload_n hx hb dL_isTold_208 rfl (lv_at hl 6 rfl) ?_
            refine lv_iload hx hb dL_isTold_209 (lv_at hl 3 rfl) ?_
            have B := bd_swap (a := []) (b := []) (d := tl2_133) (bd_to rfl B)
            refine k_W (rest := [.long (lI (byZ T v (dgN T v) pq))]) (wc := ([] ++ tl2_133)) (wr := []) (w_demerits l dC dI k hl0 T K qa cp2_132 tl2_133 v pq z_134 hQ (by omega) (by omega)) B mW_L_demerits mw_1694 hl ⟨Nat.le_of_ble_eq_true rfl, Nat.le_of_ble_eq_true rfl⟩ (Nat.le_of_ble_eq_true rfl) rfl dL_isTold_211 ⟨by dsimp only; omega, by dsimp only; omega⟩ (fun r w gc gs H locs hp B => ?_)
            rcases hp with ⟨cp2_143, tl2_144, z_145, z_146, z_147, rfl, hw9, rfl, rfl⟩ | ⟨cp2_148, tl2_149, z_150, z_151, z_152, rfl, hw9, rfl, rfl⟩
            · skip
              rw [hw9] at B; clear hw9
              have B := bd_to (ws' := ([] ++ tl2_144)) rfl B
              have hPS : PS dI k T K qa cp2_143 tl2_144 := z_145
              refine W.widen (k := ((cp2_143 - cp) + (2 + (300 * Int.toNat pq) + 148 + 2))) (n := ((12 * (cp2_143 - cp)) + (6 * (2 + (300 * Int.toNat pq) + 148 + 2)))) (by omega) (by omega) ?_
              refine y_lcmp B (a := (byZ T v (dgN T v) pq)) (b := (LDz T v (dgN T v) pq)) (by omega) (by omega) dL_isTold_214 ?_
              rcases (show (byZ T v (dgN T v) pq) < (LDz T v (dgN T v) pq) ∨ (byZ T v (dgN T v) pq) = (LDz T v (dgN T v) pq) ∨ (LDz T v (dgN T v) pq) < (byZ T v (dgN T v) pq) by omega) with zc_153 | zc_153 | zc_153
              · refine lv_seti (y := iI (-1)) (congrArg iI (show cmpZ (byZ T v (dgN T v) pq) (LDz T v (dgN T v) pq) = (-1) from if_pos zc_153)) ?_
                refine lv_if_eq (tgt := 232) hx hb dL_isTold_215 (by decide) (fun c9 => absurd c9 (by decide)) (fun _ => ?_)
                refine lv_lload hx hb dL_isTold_218 (lv_at hl 0 rfl) ?_
                refine lv_ldc2 (v := (-1)) hx hb B.1.2.2.2.1 (B.1.2.2.2.2.1 _ mw_1883) dL_isTold_220 ?_
                refine lv_setl (y := lI (-1)) (by decide) ?_
                refine y_lcmp B (a := (byZ T v (dgN T v) pq)) (b := (-1)) (by omega) (by omega) dL_isTold_223 ?_
                rcases (show (byZ T v (dgN T v) pq) < (-1) ∨ (byZ T v (dgN T v) pq) = (-1) ∨ (-1) < (byZ T v (dgN T v) pq) by omega) with zc_154 | zc_154 | zc_154
                · refine lv_seti (y := iI (-1)) (congrArg iI (show cmpZ (byZ T v (dgN T v) pq) (-1) = (-1) from if_pos zc_154)) ?_
                  exfalso; omega
                · refine lv_seti (y := iI 0) (congrArg iI (show cmpZ (byZ T v (dgN T v) pq) (-1) = 0 from (if_neg (by omega)).trans (if_pos zc_154))) ?_
                  refine lv_if_ne (tgt := 266) hx hb dL_isTold_224 (by decide) (fun c9 => absurd c9 (by decide)) (fun _ => ?_)
                  refine lv_iload hx hb dL_isTold_227 (lv_at hl 2 rfl) ?_
                  refine lv_if_le (tgt := 266) hx hb dL_isTold_229 (by decide) (fun c_155 => ?_) (fun c_155 => ?_)
                  · have zc_155 : (LCz T v (dgN T v) pq) ≤ 0 := jle (a := (LCz T v (dgN T v) pq)) (b := 0) (by omega) (by omega) c_155
                    exfalso; omega
                  · have zc_155 : 0 < (LCz T v (dgN T v) pq) := jnle (a := (LCz T v (dgN T v) pq)) (b := 0) (by omega) (by omega) c_155
                    exfalso; omega
                · refine lv_seti (y := iI 1) (congrArg iI (show cmpZ (byZ T v (dgN T v) pq) (-1) = 1 from (if_neg (by omega)).trans (if_neg (by omega)))) ?_
                  exfalso; omega
              · refine lv_seti (y := iI 0) (congrArg iI (show cmpZ (byZ T v (dgN T v) pq) (LDz T v (dgN T v) pq) = 0 from (if_neg (by omega)).trans (if_pos zc_153))) ?_
                refine lv_if_eq (tgt := 232) hx hb dL_isTold_215 (by decide) (fun _ => ?_) (fun c9 => absurd (by decide) c9)
                refine lv_iload hx hb dL_isTold_232 (lv_at hl 2 rfl) ?_
                refine lv_if_ne (tgt := 241) hx hb dL_isTold_234 (by decide) (fun c_156 => ?_) (fun c_156 => ?_)
                · have zc_156 : (LCz T v (dgN T v) pq) ≠ 0 := jne (a := (LCz T v (dgN T v) pq)) (b := 0) (by omega) (by omega) c_156
                  exfalso; omega
                · have zc_156 : (LCz T v (dgN T v) pq) = 0 := jeq (a := (LCz T v (dgN T v) pq)) (b := 0) (by omega) (by omega) c_156
                  refine lv_iconst (v := iI 1) hx hb dL_isTold_237 (by decide) ?_
                  refine lv_goto (tgt := 242) hx hb dL_isTold_238 (by decide) ?_
                  refine lv_aload_n hx hb dL_isTold_242 rfl (lv_at hl 5 rfl) ?_
                  refine lv_iload_n hx hb dL_isTold_243 rfl (lv_at hl 6 rfl) ?_
                  refine lv_iload hx hb dL_isTold_244 (lv_at hl 3 rfl) ?_
                  have B := bd_swap (a := []) (b := []) (d := tl2_144) (bd_to rfl B)
                  refine k_W (rest := [.int (iI 1)]) (wc := ([] ++ tl2_144)) (wr := []) (w_demerits l dC dI k hl0 T K qa cp2_143 tl2_144 v pq z_145 hQ (by omega) (by omega)) B mW_L_demerits mw_1694 hl ⟨Nat.le_of_ble_eq_true rfl, Nat.le_of_ble_eq_true rfl⟩ (Nat.le_of_ble_eq_true rfl) rfl dL_isTold_246 ⟨by dsimp only; omega, by dsimp only; omega⟩ (fun r w gc gs H locs hp B => ?_)
                  rcases hp with ⟨cp2_157, tl2_158, z_159, z_160, z_161, rfl, hw9, rfl, rfl⟩ | ⟨cp2_162, tl2_163, z_164, z_165, z_166, rfl, hw9, rfl, rfl⟩
                  · skip
                    rw [hw9] at B; clear hw9
                    have B := bd_to (ws' := ([] ++ tl2_158)) rfl B
                    have hPS : PS dI k T K qa cp2_157 tl2_158 := z_159
                    refine W.widen (k := ((cp2_157 - cp) + (2 + (300 * Int.toNat pq) + 148 + 3))) (n := ((12 * (cp2_157 - cp)) + (6 * (2 + (300 * Int.toNat pq) + 148 + 3)))) (by omega) (by omega) ?_
                    refine lv_lconst (v := lI 0) hx hb dL_isTold_249 (by decide) ?_
                    refine y_lcmp B (a := (LDz T v (dgN T v) pq)) (b := 0) (by omega) (by omega) dL_isTold_250 ?_
                    rcases (show (LDz T v (dgN T v) pq) < 0 ∨ (LDz T v (dgN T v) pq) = 0 ∨ 0 < (LDz T v (dgN T v) pq) by omega) with zc_167 | zc_167 | zc_167
                    · refine lv_seti (y := iI (-1)) (congrArg iI (show cmpZ (LDz T v (dgN T v) pq) 0 = (-1) from if_pos zc_167)) ?_
                      exfalso; omega
                    · refine lv_seti (y := iI 0) (congrArg iI (show cmpZ (LDz T v (dgN T v) pq) 0 = 0 from (if_neg (by omega)).trans (if_pos zc_167))) ?_
                      refine lv_if_ne (tgt := 258) hx hb dL_isTold_251 (by decide) (fun c9 => absurd c9 (by decide)) (fun _ => ?_)
                      refine lv_iconst (v := iI 1) hx hb dL_isTold_254 (by decide) ?_
                      refine lv_goto (tgt := 259) hx hb dL_isTold_255 (by decide) ?_
                      refine lv_icmp_ne (tgt := 266) hx hb dL_isTold_259 (by decide) (fun c9 => absurd c9 (by decide)) (fun _ => ?_)
                      refine lv_iconst (v := iI 1) hx hb dL_isTold_262 (by decide) ?_
                      refine lv_goto (tgt := 267) hx hb dL_isTold_263 (by decide) ?_
                      refine lv_istore_n (lv' := [(3, .int (iI 1)), (7, .long (lI (byZ T v (dgN T v) pq))), (6, .int (iI eb)), (5, .int (iI (LCz T v (dgN T v) pq))), (4, .int (iI pq)), (0, .ref qa), (1, .int (iI v)), (2, .int (iI xx))]) hx hb dL_isTold_267 rfl hl (by decide) rfl (fun ls hl => ?_)
                      have z_168 : 0 ≤ T 3 pq 0 0 ∧ T 3 pq 0 0 ≤ 12 := TK_nw hQ.1 _
                      refine lv_iconst (v := iI 0) hx hb dL_isTold_268 (by decide) ?_
                      refine lv_istore (lv' := [(9, .int (iI 0)), (3, .int (iI 1)), (7, .long (lI (byZ T v (dgN T v) pq))), (6, .int (iI eb)), (5, .int (iI (LCz T v (dgN T v) pq))), (4, .int (iI pq)), (0, .ref qa), (1, .int (iI v)), (2, .int (iI xx))]) hx hb dL_isTold_269 hl (by decide) rfl (fun ls hl => ?_)
                      refine W.widen (k := ((cp2_157 - cp) + (2 + (300 * Int.toNat pq) + 152 + (4 * Int.toNat 0)))) (n := ((12 * (cp2_157 - cp)) + (6 * (2 + (300 * Int.toNat pq) + 152 + (4 * Int.toNat 0))))) (by omega) (by omega) ?_
                      refine k_loopG (σ := Int × Nat × va_W) B (fun g9 : Int × Nat × va_W => (0 ≤ g9.1 ∧ g9.1 ≤ T 3 pq 0 0) ∧ (PS dI k T K qa g9.2.1 g9.2.2) ∧ (cp ≤ g9.2.1 ∧ g9.2.1 ≤ 131072)) (fun g9 : Int × Nat × va_W => (T 3 pq 0 0 - g9.1).toNat) (fun g9 : Int × Nat × va_W => [(9, .int (iI g9.1)), (3, .int (iI 1)), (7, .long (lI (byZ T v (dgN T v) pq))), (6, .int (iI eb)), (5, .int (iI (LCz T v (dgN T v) pq))), (4, .int (iI pq)), (0, .ref qa), (1, .int (iI v)), (2, .int (iI xx))]) (fun g9 : Int × Nat × va_W => ([] ++ g9.2.2)) (fun g9 : Int × Nat × va_W => ((g9.2.1 - cp) + (2 + (300 * Int.toNat pq) + 152 + (4 * Int.toNat g9.1)))) (fun g9 : Int × Nat × va_W => ((12 * (g9.2.1 - cp)) + (6 * (2 + (300 * Int.toNat pq) + 152 + (4 * Int.toNat g9.1))))) ?_ (0, cp2_157, tl2_158) ⟨(show 0 ≤ 0 ∧ 0 ≤ T 3 pq 0 0 from (by omega)), (show PS dI k T K qa cp2_157 tl2_158 from hPS), (show cp ≤ cp2_157 ∧ cp2_157 ≤ 131072 from (by omega))⟩ ls H locs (lv_sub hl [0, 1, 2, 3, 4, 5, 6, 7, 8] rfl) (bd_to rfl B)
                      clear hl B
                      rintro ⟨aq, cp6, tl6⟩ ⟨hk3, hPS, hc6⟩ ih_169 ls H locs hl B
                      have hk3 : 0 ≤ aq ∧ aq ≤ T 3 pq 0 0 := hk3
                      have hPS : PS dI k T K qa cp6 tl6 := hPS
                      have hc6 : cp ≤ cp6 ∧ cp6 ≤ 131072 := hc6
                      show W p l e _ s m args below meth c H locs ((cp6 - cp) + (2 + (300 * Int.toNat pq) + 152 + (4 * Int.toNat aq))) ((12 * (cp6 - cp)) + (6 * (2 + (300 * Int.toNat pq) + 152 + (4 * Int.toNat aq)))) _ _
                      have hl : lv_has ls 12 [(9, .int (iI aq)), (3, .int (iI 1)), (7, .long (lI (byZ T v (dgN T v) pq))), (6, .int (iI eb)), (5, .int (iI (LCz T v (dgN T v) pq))), (4, .int (iI pq)), (0, .ref qa), (1, .int (iI v)), (2, .int (iI xx))] := hl
                      have B := bd_to (ws' := ([] ++ tl6)) rfl B
                      have hnw : 0 ≤ T 3 pq 0 0 ∧ T 3 pq 0 0 ≤ 12 := TK_nw hQ.1 _
                      refine lv_iload hx hb dL_isTold_271 (lv_at hl 0 rfl) ?_
                      refine lv_aload_n hx hb dL_isTold_273 rfl (lv_at hl 6 rfl) ?_
                      refine lv_iload hx hb dL_isTold_274 (lv_at hl 5 rfl) ?_
                      have z_170 : 0 ≤ T 3 pq 0 0 ∧ T 3 pq 0 0 ≤ 12 := TK_nw hQ.1 _
                      have B := bd_swap (a := []) (b := []) (d := tl6) (bd_to rfl B)
                      refine k_W (rest := [.int (iI aq)]) (wc := ([] ++ tl6)) (wr := []) (w_count l dC dI k hl0 T K qa cp6 tl6 pq hPS hQ (by omega)) B mW_L_count mw_1266 hl ⟨Nat.le_of_ble_eq_true rfl, Nat.le_of_ble_eq_true rfl⟩ (Nat.le_of_ble_eq_true rfl) rfl dL_isTold_276 ⟨by dsimp only; omega, by dsimp only; omega⟩ (fun r w gc gs H locs hp B => ?_)
                      rcases hp with ⟨cp2_171, tl2_172, z_173, z_174, z_175, rfl, hw9, rfl, rfl⟩ | ⟨cp2_176, tl2_177, z_178, z_179, z_180, rfl, hw9, rfl, rfl⟩
                      · skip
                        rw [hw9] at B; clear hw9
                        have B := bd_to (ws' := ([] ++ tl2_172)) rfl B
                        have hPS : PS dI k T K qa cp2_171 tl2_172 := z_173
                        refine W.widen (k := ((cp2_171 - cp) + (2 + (300 * Int.toNat pq) + 152 + (4 * Int.toNat aq) + 1))) (n := ((12 * (cp2_171 - cp)) + (6 * (2 + (300 * Int.toNat pq) + 152 + (4 * Int.toNat aq) + 1)))) (by omega) (by omega) ?_
                        refine lv_icmp_ge (tgt := 391) hx hb dL_isTold_279 (by decide) (fun c_181 => ?_) (fun c_181 => ?_)
                        · have zc_181 : (T 3 pq 0 0) ≤ aq := jle (a := (T 3 pq 0 0)) (b := aq) (by omega) (by omega) c_181
                          refine lv_iinc (v := iI (pq + 1)) (lv' := [(4, .int (iI (pq + 1))), (9, .int (iI aq)), (3, .int (iI 1)), (7, .long (lI (byZ T v (dgN T v) pq))), (6, .int (iI eb)), (5, .int (iI (LCz T v (dgN T v) pq))), (0, .ref qa), (1, .int (iI v)), (2, .int (iI xx))]) hx hb dL_isTold_391 hl (k := 5) rfl (iI_add _ _) (by decide) rfl (fun ls hl => ?_)
                          refine lv_goto (tgt := 5) hx hb dL_isTold_394 (by decide) ?_
                          refine W.widen (k := ((cp2_171 - cp) + (2 + (300 * Int.toNat (pq + 1))))) (n := ((12 * (cp2_171 - cp)) + (6 * (2 + (300 * Int.toNat (pq + 1)))))) (by omega) (by omega) ?_
                          exact ih_1 ((pq + 1), cp2_171, tl2_172) ⟨(show 0 ≤ (pq + 1) ∧ (pq + 1) ≤ T 0 0 0 0 from (by omega)), (show PS dI k T K qa cp2_171 tl2_172 from hPS), (show cp ≤ cp2_171 ∧ cp2_171 ≤ 131072 from (by omega))⟩ (by first | omega | (dsimp only; omega)) _ _ _ (lv_sub hl [0, 2, 6, 7, 8] rfl) (bd_to rfl B)
                        · have zc_181 : aq < (T 3 pq 0 0) := jnle (a := (T 3 pq 0 0)) (b := aq) (by omega) (by omega) c_181
                          refine lv_iload_n hx hb dL_isTold_282 rfl (lv_at hl 1 rfl) ?_
                          refine lv_if_eq (tgt := 391) hx hb dL_isTold_283 (by decide) (fun c9 => absurd c9 (by decide)) (fun _ => ?_)
                          refine lv_aload_n hx hb dL_isTold_286 rfl (lv_at hl 6 rfl) ?_
                          refine lv_iload_n hx hb dL_isTold_287 rfl (lv_at hl 7 rfl) ?_
                          refine lv_iload hx hb dL_isTold_288 (lv_at hl 5 rfl) ?_
                          refine lv_iload hx hb dL_isTold_290 (lv_at hl 0 rfl) ?_
                          have hwh := hTo.2.1 pq aq (by omega) (by omega) (by omega) (by omega)
                          have B := bd_swap (a := []) (b := []) (d := tl2_172) (bd_to rfl B)
                          refine k_W (rest := []) (wc := ([] ++ tl2_172)) (wr := []) (w_whereIs l dC dI k hl0 T K qa cp2_171 tl2_172 v pq aq z_173 hQ (by omega) (by omega) (by omega)) B mW_L_whereIs mw_1791 hl ⟨Nat.le_of_ble_eq_true rfl, Nat.le_of_ble_eq_true rfl⟩ (Nat.le_of_ble_eq_true rfl) rfl dL_isTold_292 ⟨by dsimp only; omega, by dsimp only; omega⟩ (fun r w gc gs H locs hp B => ?_)
                          rcases hp with ⟨cp2_182, tl2_183, z_184, z_185, z_186, rfl, hw9, rfl, rfl⟩ | ⟨cp2_187, tl2_188, z_189, z_190, z_191, rfl, hw9, rfl, rfl⟩
                          · skip
                            rw [hw9] at B; clear hw9
                            have B := bd_to (ws' := ([] ++ tl2_183)) rfl B
                            have hPS : PS dI k T K qa cp2_182 tl2_183 := z_184
                            refine W.widen (k := ((cp2_182 - cp) + (2 + (300 * Int.toNat pq) + 152 + (4 * Int.toNat aq) + 2))) (n := ((12 * (cp2_182 - cp)) + (6 * (2 + (300 * Int.toNat pq) + 152 + (4 * Int.toNat aq) + 2)))) (by omega) (by omega) ?_
                            refine lv_istore (lv' := [(10, .int (iI (whZ T v pq aq))), (9, .int (iI aq)), (3, .int (iI 1)), (7, .long (lI (byZ T v (dgN T v) pq))), (6, .int (iI eb)), (5, .int (iI (LCz T v (dgN T v) pq))), (4, .int (iI pq)), (0, .ref qa), (1, .int (iI v)), (2, .int (iI xx))]) hx hb dL_isTold_295 hl (by decide) rfl (fun ls hl => ?_)
                            refine lv_iload hx hb dL_isTold_297 (lv_at hl 0 rfl) ?_
                            refine lv_if_ge (tgt := 306) hx hb dL_isTold_299 (by decide) (fun c_192 => ?_) (fun c_192 => ?_)
                            · have zc_192 : 0 ≤ (whZ T v pq aq) := jle (a := 0) (b := (whZ T v pq aq)) (by omega) (by omega) c_192
                              refine lv_aload_n hx hb dL_isTold_306 rfl (lv_at hl 7 rfl) ?_
                              refine lv_iload_n hx hb dL_isTold_307 rfl (lv_at hl 8 rfl) ?_
                              refine lv_iload hx hb dL_isTold_308 (lv_at hl 0 rfl) ?_
                              refine lv_sipush (v := iI 1000) hx hb dL_isTold_310 (by decide) ?_
                              refine y_div hx hb (a := (whZ T v pq aq)) (b := 1000) (by omega) (by omega) dL_isTold_313 ?_
                              refine lv_iload hx hb dL_isTold_314 (lv_at hl 0 rfl) ?_
                              refine lv_sipush (v := iI 1000) hx hb dL_isTold_316 (by decide) ?_
                              refine y_rem hx hb (a := (whZ T v pq aq)) (b := 1000) (by omega) (by omega) dL_isTold_319 ?_
                              have B := bd_swap (a := []) (b := []) (d := tl2_183) (bd_to rfl B)
                              refine k_W (rest := []) (wc := ([] ++ tl2_183)) (wr := []) (w_textAt l dC dI k hl0 T K qa cp2_182 tl2_183 v ((whZ T v pq aq) / 1000) ((whZ T v pq aq) % 1000) z_184 hQ (by omega) (by omega) (by omega)) B mW_L_textAt mw_1784 hl ⟨Nat.le_of_ble_eq_true rfl, Nat.le_of_ble_eq_true rfl⟩ (Nat.le_of_ble_eq_true rfl) rfl dL_isTold_320 ⟨by dsimp only; omega, by dsimp only; omega⟩ (fun r w gc gs H locs hp B => ?_)
                              rcases hp with ⟨cp2_193, tl2_194, z_195, z_196, z_197, rfl, hw9, rfl, rfl⟩ | ⟨cp2_198, tl2_199, z_200, z_201, z_202, rfl, hw9, rfl, rfl⟩
                              · skip
                                rw [hw9] at B; clear hw9
                                have B := bd_to (ws' := ([] ++ tl2_194)) rfl B
                                have hPS : PS dI k T K qa cp2_193 tl2_194 := z_195
                                refine W.widen (k := ((cp2_193 - cp) + (2 + (300 * Int.toNat pq) + 152 + (4 * Int.toNat aq) + 3))) (n := ((12 * (cp2_193 - cp)) + (6 * (2 + (300 * Int.toNat pq) + 152 + (4 * Int.toNat aq) + 3)))) (by omega) (by omega) ?_
                                refine lv_istore (lv' := [(11, .int (iI (txZ T v ((whZ T v pq aq) / 1000) ((whZ T v pq aq) % 1000)))), (10, .int (iI (whZ T v pq aq))), (9, .int (iI aq)), (3, .int (iI 1)), (7, .long (lI (byZ T v (dgN T v) pq))), (6, .int (iI eb)), (5, .int (iI (LCz T v (dgN T v) pq))), (4, .int (iI pq)), (0, .ref qa), (1, .int (iI v)), (2, .int (iI xx))]) hx hb dL_isTold_323 hl (by decide) rfl (fun ls hl => ?_)
                                refine lv_iload hx hb dL_isTold_325 (lv_at hl 1 rfl) ?_
                                refine lv_if_ge (tgt := 344) hx hb dL_isTold_327 (by decide) (fun c_203 => ?_) (fun c_203 => ?_)
                                · have zc_203 : 0 ≤ (whZ T v pq aq) := jle (a := 0) (b := (whZ T v pq aq)) (by omega) (by omega) c_203
                                  refine lv_iload hx hb dL_isTold_344 (lv_at hl 0 rfl) ?_
                                  refine lv_sipush (v := iI 1000) hx hb dL_isTold_346 (by decide) ?_
                                  refine y_div hx hb (a := (txZ T v ((whZ T v pq aq) / 1000) ((whZ T v pq aq) % 1000))) (b := 1000) (by omega) (by omega) dL_isTold_349 ?_
                                  refine lv_iload hx hb dL_isTold_350 (lv_at hl 7 rfl) ?_
                                  refine lv_icmp_ne (tgt := 383) hx hb dL_isTold_352 (by decide) (fun c_204 => ?_) (fun c_204 => ?_)
                                  · have zc_204 : ((txZ T v ((whZ T v pq aq) / 1000) ((whZ T v pq aq) % 1000)) / 1000) ≠ pq := jne (a := ((txZ T v ((whZ T v pq aq) / 1000) ((whZ T v pq aq) % 1000)) / 1000)) (b := pq) (by omega) (by omega) c_204
                                    exfalso; omega
                                  · have zc_204 : ((txZ T v ((whZ T v pq aq) / 1000) ((whZ T v pq aq) % 1000)) / 1000) = pq := jeq (a := ((txZ T v ((whZ T v pq aq) / 1000) ((whZ T v pq aq) % 1000)) / 1000)) (b := pq) (by omega) (by omega) c_204
                                    refine lv_iload hx hb dL_isTold_355 (lv_at hl 1 rfl) ?_
                                    refine lv_sipush (v := iI 1000) hx hb dL_isTold_357 (by decide) ?_
                                    refine y_div hx hb (a := (whZ T v pq aq)) (b := 1000) (by omega) (by omega) dL_isTold_360 ?_
                                    refine lv_iconst (v := iI 1) hx hb dL_isTold_361 (by decide) ?_
                                    refine lv_icmp_lt (tgt := 383) hx hb dL_isTold_362 (by decide) (fun c_205 => ?_) (fun c_205 => ?_)
                                    · have zc_205 : ((whZ T v pq aq) / 1000) < 1 := jlt (a := ((whZ T v pq aq) / 1000)) (b := 1) (by omega) (by omega) c_205
                                      exfalso; omega
                                    · have zc_205 : 1 ≤ ((whZ T v pq aq) / 1000) := jnlt (a := ((whZ T v pq aq) / 1000)) (b := 1) (by omega) (by omega) c_205
                                      refine lv_iload hx hb dL_isTold_365 (lv_at hl 1 rfl) ?_
                                      refine lv_sipush (v := iI 1000) hx hb dL_isTold_367 (by decide) ?_
                                      refine y_div hx hb (a := (whZ T v pq aq)) (b := 1000) (by omega) (by omega) dL_isTold_370 ?_
                                      refine lv_aload_n hx hb dL_isTold_371 rfl (lv_at hl 8 rfl) ?_
                                      refine lv_iload_n hx hb dL_isTold_372 rfl (lv_at hl 9 rfl) ?_
                                      have B := bd_swap (a := []) (b := []) (d := tl2_194) (bd_to rfl B)
                                      refine k_W (rest := [.int (iI ((whZ T v pq aq) / 1000))]) (wc := ([] ++ tl2_194)) (wr := []) (w_pages l dC dI k hl0 T K qa cp2_193 tl2_194 v z_195 hQ (by omega)) B mW_L_pages mw_1721 hl ⟨Nat.le_of_ble_eq_true rfl, Nat.le_of_ble_eq_true rfl⟩ (Nat.le_of_ble_eq_true rfl) rfl dL_isTold_373 ⟨by dsimp only; omega, by dsimp only; omega⟩ (fun r w gc gs H locs hp B => ?_)
                                      rcases hp with ⟨cp2_206, tl2_207, z_208, z_209, z_210, rfl, hw9, rfl, rfl⟩ | ⟨cp2_211, tl2_212, z_213, z_214, z_215, rfl, hw9, rfl, rfl⟩
                                      · skip
                                        rw [hw9] at B; clear hw9
                                        have B := bd_to (ws' := ([] ++ tl2_207)) rfl B
                                        have hPS : PS dI k T K qa cp2_206 tl2_207 := z_208
                                        refine W.widen (k := ((cp2_206 - cp) + (2 + (300 * Int.toNat pq) + 152 + (4 * Int.toNat aq) + 4))) (n := ((12 * (cp2_206 - cp)) + (6 * (2 + (300 * Int.toNat pq) + 152 + (4 * Int.toNat aq) + 4)))) (by omega) (by omega) ?_
                                        refine lv_icmp_gt (tgt := 383) hx hb dL_isTold_376 (by decide) (fun c_216 => ?_) (fun c_216 => ?_)
                                        · have zc_216 : ((mkZ T (moC T v (dgN T v))) 0 0) < ((whZ T v pq aq) / 1000) := jlt (a := ((mkZ T (moC T v (dgN T v))) 0 0)) (b := ((whZ T v pq aq) / 1000)) (by omega) (by omega) c_216
                                          exfalso; omega
                                        · have zc_216 : ((whZ T v pq aq) / 1000) ≤ ((mkZ T (moC T v (dgN T v))) 0 0) := jnlt (a := ((mkZ T (moC T v (dgN T v))) 0 0)) (b := ((whZ T v pq aq) / 1000)) (by omega) (by omega) c_216
                                          refine lv_iconst (v := iI 1) hx hb dL_isTold_379 (by decide) ?_
                                          refine lv_goto (tgt := 384) hx hb dL_isTold_380 (by decide) ?_
                                          refine lv_istore_n (lv' := [(3, .int (iI 1)), (11, .int (iI (txZ T v ((whZ T v pq aq) / 1000) ((whZ T v pq aq) % 1000)))), (10, .int (iI (whZ T v pq aq))), (9, .int (iI aq)), (7, .long (lI (byZ T v (dgN T v) pq))), (6, .int (iI eb)), (5, .int (iI (LCz T v (dgN T v) pq))), (4, .int (iI pq)), (0, .ref qa), (1, .int (iI v)), (2, .int (iI xx))]) hx hb dL_isTold_384 rfl hl (by decide) rfl (fun ls hl => ?_)
                                          refine lv_iinc (v := iI (aq + 1)) (lv' := [(9, .int (iI (aq + 1))), (3, .int (iI 1)), (11, .int (iI (txZ T v ((whZ T v pq aq) / 1000) ((whZ T v pq aq) % 1000)))), (10, .int (iI (whZ T v pq aq))), (7, .long (lI (byZ T v (dgN T v) pq))), (6, .int (iI eb)), (5, .int (iI (LCz T v (dgN T v) pq))), (4, .int (iI pq)), (0, .ref qa), (1, .int (iI v)), (2, .int (iI xx))]) hx hb dL_isTold_385 hl (k := 3) rfl (iI_add _ _) (by decide) rfl (fun ls hl => ?_)
                                          refine lv_goto (tgt := 271) hx hb dL_isTold_388 (by decide) ?_
                                          refine W.widen (k := ((cp2_206 - cp) + (2 + (300 * Int.toNat pq) + 152 + (4 * Int.toNat (aq + 1))))) (n := ((12 * (cp2_206 - cp)) + (6 * (2 + (300 * Int.toNat pq) + 152 + (4 * Int.toNat (aq + 1)))))) (by omega) (by omega) ?_
                                          exact ih_169 ((aq + 1), cp2_206, tl2_207) ⟨(show 0 ≤ (aq + 1) ∧ (aq + 1) ≤ T 3 pq 0 0 from (by omega)), (show PS dI k T K qa cp2_206 tl2_207 from hPS), (show cp ≤ cp2_206 ∧ cp2_206 ≤ 131072 from (by omega))⟩ (by first | omega | (dsimp only; omega)) _ _ _ (lv_sub hl [0, 1, 4, 5, 6, 7, 8, 9, 10] rfl) (bd_to rfl B)
                                      · skip
                                        rw [hw9] at B; clear hw9
                                        have B := bd_to (ws' := ([] ++ tl2_212)) rfl B
                                        have hPS : PS dI k T K qa cp2_211 tl2_212 := z_213
                                        exfalso; omega
                                · have zc_203 : (whZ T v pq aq) < 0 := jnle (a := 0) (b := (whZ T v pq aq)) (by omega) (by omega) c_203
                                  exfalso; omega
                              · skip
                                rw [hw9] at B; clear hw9
                                have B := bd_to (ws' := ([] ++ tl2_199)) rfl B
                                have hPS : PS dI k T K qa cp2_198 tl2_199 := z_200
                                exfalso; omega
                            · have zc_192 : (whZ T v pq aq) < 0 := jnle (a := 0) (b := (whZ T v pq aq)) (by omega) (by omega) c_192
                              refine lv_iconst (v := iI 0) hx hb dL_isTold_302 (by decide) ?_
                              refine lv_goto (tgt := 323) hx hb dL_isTold_303 (by decide) ?_
                              refine lv_istore (lv' := [(11, .int (iI 0)), (10, .int (iI (whZ T v pq aq))), (9, .int (iI aq)), (3, .int (iI 1)), (7, .long (lI (byZ T v (dgN T v) pq))), (6, .int (iI eb)), (5, .int (iI (LCz T v (dgN T v) pq))), (4, .int (iI pq)), (0, .ref qa), (1, .int (iI v)), (2, .int (iI xx))]) hx hb dL_isTold_323 hl (by decide) rfl (fun ls hl => ?_)
                              refine lv_iload hx hb dL_isTold_325 (lv_at hl 1 rfl) ?_
                              refine lv_if_ge (tgt := 344) hx hb dL_isTold_327 (by decide) (fun c_217 => ?_) (fun c_217 => ?_)
                              · have zc_217 : 0 ≤ (whZ T v pq aq) := jle (a := 0) (b := (whZ T v pq aq)) (by omega) (by omega) c_217
                                exfalso; omega
                              · have zc_217 : (whZ T v pq aq) < 0 := jnle (a := 0) (b := (whZ T v pq aq)) (by omega) (by omega) c_217
                                refine lv_iload hx hb dL_isTold_330 (lv_at hl 1 rfl) ?_
                                refine lv_iconst (v := iI (-1)) hx hb dL_isTold_332 (by decide) ?_
                                refine lv_icmp_ne (tgt := 340) hx hb dL_isTold_333 (by decide) (fun c_218 => ?_) (fun c_218 => ?_)
                                · have zc_218 : (whZ T v pq aq) ≠ (-1) := jne (a := (whZ T v pq aq)) (b := (-1)) (by omega) (by omega) c_218
                                  exfalso; omega
                                · have zc_218 : (whZ T v pq aq) = (-1) := jeq (a := (whZ T v pq aq)) (b := (-1)) (by omega) (by omega) c_218
                                  refine lv_iconst (v := iI 1) hx hb dL_isTold_336 (by decide) ?_
                                  refine lv_goto (tgt := 384) hx hb dL_isTold_337 (by decide) ?_
                                  refine lv_istore_n (lv' := [(3, .int (iI 1)), (11, .int (iI 0)), (10, .int (iI (whZ T v pq aq))), (9, .int (iI aq)), (7, .long (lI (byZ T v (dgN T v) pq))), (6, .int (iI eb)), (5, .int (iI (LCz T v (dgN T v) pq))), (4, .int (iI pq)), (0, .ref qa), (1, .int (iI v)), (2, .int (iI xx))]) hx hb dL_isTold_384 rfl hl (by decide) rfl (fun ls hl => ?_)
                                  refine lv_iinc (v := iI (aq + 1)) (lv' := [(9, .int (iI (aq + 1))), (3, .int (iI 1)), (11, .int (iI 0)), (10, .int (iI (whZ T v pq aq))), (7, .long (lI (byZ T v (dgN T v) pq))), (6, .int (iI eb)), (5, .int (iI (LCz T v (dgN T v) pq))), (4, .int (iI pq)), (0, .ref qa), (1, .int (iI v)), (2, .int (iI xx))]) hx hb dL_isTold_385 hl (k := 3) rfl (iI_add _ _) (by decide) rfl (fun ls hl => ?_)
                                  refine lv_goto (tgt := 271) hx hb dL_isTold_388 (by decide) ?_
                                  refine W.widen (k := ((cp2_182 - cp) + (2 + (300 * Int.toNat pq) + 152 + (4 * Int.toNat (aq + 1))))) (n := ((12 * (cp2_182 - cp)) + (6 * (2 + (300 * Int.toNat pq) + 152 + (4 * Int.toNat (aq + 1)))))) (by omega) (by omega) ?_
                                  exact ih_169 ((aq + 1), cp2_182, tl2_183) ⟨(show 0 ≤ (aq + 1) ∧ (aq + 1) ≤ T 3 pq 0 0 from (by omega)), (show PS dI k T K qa cp2_182 tl2_183 from hPS), (show cp ≤ cp2_182 ∧ cp2_182 ≤ 131072 from (by omega))⟩ (by first | omega | (dsimp only; omega)) _ _ _ (lv_sub hl [0, 1, 4, 5, 6, 7, 8, 9, 10] rfl) (bd_to rfl B)
                          · skip
                            rw [hw9] at B; clear hw9
                            have B := bd_to (ws' := ([] ++ tl2_188)) rfl B
                            have hPS : PS dI k T K qa cp2_187 tl2_188 := z_189
                            exfalso; omega
                      · skip
                        rw [hw9] at B; clear hw9
                        have B := bd_to (ws' := ([] ++ tl2_177)) rfl B
                        have hPS : PS dI k T K qa cp2_176 tl2_177 := z_178
                        exfalso; omega
                    · refine lv_seti (y := iI 1) (congrArg iI (show cmpZ (LDz T v (dgN T v) pq) 0 = 1 from (if_neg (by omega)).trans (if_neg (by omega)))) ?_
                      refine lv_if_ne (tgt := 258) hx hb dL_isTold_251 (by decide) (fun _ => ?_) (fun c9 => absurd c9 (by decide))
                      refine lv_iconst (v := iI 0) hx hb dL_isTold_258 (by decide) ?_
                      exfalso; omega
                  · skip
                    rw [hw9] at B; clear hw9
                    have B := bd_to (ws' := ([] ++ tl2_163)) rfl B
                    have hPS : PS dI k T K qa cp2_162 tl2_163 := z_164
                    exfalso; omega
              · refine lv_seti (y := iI 1) (congrArg iI (show cmpZ (byZ T v (dgN T v) pq) (LDz T v (dgN T v) pq) = 1 from (if_neg (by omega)).trans (if_neg (by omega)))) ?_
                refine lv_if_eq (tgt := 232) hx hb dL_isTold_215 (by decide) (fun c9 => absurd c9 (by decide)) (fun _ => ?_)
                refine lv_lload hx hb dL_isTold_218 (lv_at hl 0 rfl) ?_
                refine lv_ldc2 (v := (-1)) hx hb B.1.2.2.2.1 (B.1.2.2.2.2.1 _ mw_1883) dL_isTold_220 ?_
                refine lv_setl (y := lI (-1)) (by decide) ?_
                refine y_lcmp B (a := (byZ T v (dgN T v) pq)) (b := (-1)) (by omega) (by omega) dL_isTold_223 ?_
                rcases (show (byZ T v (dgN T v) pq) < (-1) ∨ (byZ T v (dgN T v) pq) = (-1) ∨ (-1) < (byZ T v (dgN T v) pq) by omega) with zc_219 | zc_219 | zc_219
                · refine lv_seti (y := iI (-1)) (congrArg iI (show cmpZ (byZ T v (dgN T v) pq) (-1) = (-1) from if_pos zc_219)) ?_
                  exfalso; omega
                · refine lv_seti (y := iI 0) (congrArg iI (show cmpZ (byZ T v (dgN T v) pq) (-1) = 0 from (if_neg (by omega)).trans (if_pos zc_219))) ?_
                  refine lv_if_ne (tgt := 266) hx hb dL_isTold_224 (by decide) (fun c9 => absurd c9 (by decide)) (fun _ => ?_)
                  refine lv_iload hx hb dL_isTold_227 (lv_at hl 2 rfl) ?_
                  refine lv_if_le (tgt := 266) hx hb dL_isTold_229 (by decide) (fun c_220 => ?_) (fun c_220 => ?_)
                  · have zc_220 : (LCz T v (dgN T v) pq) ≤ 0 := jle (a := (LCz T v (dgN T v) pq)) (b := 0) (by omega) (by omega) c_220
                    exfalso; omega
                  · have zc_220 : 0 < (LCz T v (dgN T v) pq) := jnle (a := (LCz T v (dgN T v) pq)) (b := 0) (by omega) (by omega) c_220
                    exfalso; omega
                · refine lv_seti (y := iI 1) (congrArg iI (show cmpZ (byZ T v (dgN T v) pq) (-1) = 1 from (if_neg (by omega)).trans (if_neg (by omega)))) ?_
                  exfalso; omega
            · skip
              rw [hw9] at B; clear hw9
              have B := bd_to (ws' := ([] ++ tl2_149)) rfl B
              have hPS : PS dI k T K qa cp2_148 tl2_149 := z_150
              exfalso; omega
          · have zc_142 : (LCz T v (dgN T v) pq) ≠ 0 := jne (a := (LCz T v (dgN T v) pq)) (b := 0) (by omega) (by omega) c_142
            refine lv_iload hx hb dL_isTold_197 (lv_at hl 1 rfl) ?_
            refine lv_bipush (v := iI 10) hx hb dL_isTold_199 (by decide) ?_
            refine y_rem hx hb (a := eb) (b := 10) (by omega) (by omega) dL_isTold_201 ?_
            refine lv_if_ne (tgt := 266) hx hb dL_isTold_202 (by decide) (fun c_221 => ?_) (fun c_221 => ?_)
            · have zc_221 : (eb % 10) ≠ 0 := jne (a := (eb % 10)) (b := 0) (by omega) (by omega) c_221
              exfalso; omega
            · have zc_221 : (eb % 10) = 0 := jeq (a := (eb % 10)) (b := 0) (by omega) (by omega) c_221
              refine lv_lload hx hb dL_isTold_205 (lv_at hl 0 rfl) ?_
              refine lv_aload_n hx hb dL_isTold_207 rfl (lv_at hl 5 rfl) ?_
              refine lv_iload_n hx hb dL_isTold_208 rfl (lv_at hl 6 rfl) ?_
              refine lv_iload hx hb dL_isTold_209 (lv_at hl 3 rfl) ?_
              have B := bd_swap (a := []) (b := []) (d := tl2_133) (bd_to rfl B)
              refine k_W (rest := [.long (lI (byZ T v (dgN T v) pq))]) (wc := ([] ++ tl2_133)) (wr := []) (w_demerits l dC dI k hl0 T K qa cp2_132 tl2_133 v pq z_134 hQ (by omega) (by omega)) B mW_L_demerits mw_1694 hl ⟨Nat.le_of_ble_eq_true rfl, Nat.le_of_ble_eq_true rfl⟩ (Nat.le_of_ble_eq_true rfl) rfl dL_isTold_211 ⟨by dsimp only; omega, by dsimp only; omega⟩ (fun r w gc gs H locs hp B => ?_)
              rcases hp with ⟨cp2_222, tl2_223, z_224, z_225, z_226, rfl, hw9, rfl, rfl⟩ | ⟨cp2_227, tl2_228, z_229, z_230, z_231, rfl, hw9, rfl, rfl⟩
              · skip
                rw [hw9] at B; clear hw9
                have B := bd_to (ws' := ([] ++ tl2_223)) rfl B
                have hPS : PS dI k T K qa cp2_222 tl2_223 := z_224
                refine W.widen (k := ((cp2_222 - cp) + (2 + (300 * Int.toNat pq) + 148 + 2))) (n := ((12 * (cp2_222 - cp)) + (6 * (2 + (300 * Int.toNat pq) + 148 + 2)))) (by omega) (by omega) ?_
                refine y_lcmp B (a := (byZ T v (dgN T v) pq)) (b := (LDz T v (dgN T v) pq)) (by omega) (by omega) dL_isTold_214 ?_
                rcases (show (byZ T v (dgN T v) pq) < (LDz T v (dgN T v) pq) ∨ (byZ T v (dgN T v) pq) = (LDz T v (dgN T v) pq) ∨ (LDz T v (dgN T v) pq) < (byZ T v (dgN T v) pq) by omega) with zc_232 | zc_232 | zc_232
                · refine lv_seti (y := iI (-1)) (congrArg iI (show cmpZ (byZ T v (dgN T v) pq) (LDz T v (dgN T v) pq) = (-1) from if_pos zc_232)) ?_
                  refine lv_if_eq (tgt := 232) hx hb dL_isTold_215 (by decide) (fun c9 => absurd c9 (by decide)) (fun _ => ?_)
                  refine lv_lload hx hb dL_isTold_218 (lv_at hl 0 rfl) ?_
                  refine lv_ldc2 (v := (-1)) hx hb B.1.2.2.2.1 (B.1.2.2.2.2.1 _ mw_1883) dL_isTold_220 ?_
                  refine lv_setl (y := lI (-1)) (by decide) ?_
                  refine y_lcmp B (a := (byZ T v (dgN T v) pq)) (b := (-1)) (by omega) (by omega) dL_isTold_223 ?_
                  rcases (show (byZ T v (dgN T v) pq) < (-1) ∨ (byZ T v (dgN T v) pq) = (-1) ∨ (-1) < (byZ T v (dgN T v) pq) by omega) with zc_233 | zc_233 | zc_233
                  · refine lv_seti (y := iI (-1)) (congrArg iI (show cmpZ (byZ T v (dgN T v) pq) (-1) = (-1) from if_pos zc_233)) ?_
                    exfalso; omega
                  · refine lv_seti (y := iI 0) (congrArg iI (show cmpZ (byZ T v (dgN T v) pq) (-1) = 0 from (if_neg (by omega)).trans (if_pos zc_233))) ?_
                    refine lv_if_ne (tgt := 266) hx hb dL_isTold_224 (by decide) (fun c9 => absurd c9 (by decide)) (fun _ => ?_)
                    refine lv_iload hx hb dL_isTold_227 (lv_at hl 2 rfl) ?_
                    refine lv_if_le (tgt := 266) hx hb dL_isTold_229 (by decide) (fun c_234 => ?_) (fun c_234 => ?_)
                    · have zc_234 : (LCz T v (dgN T v) pq) ≤ 0 := jle (a := (LCz T v (dgN T v) pq)) (b := 0) (by omega) (by omega) c_234
                      exfalso; omega
                    · have zc_234 : 0 < (LCz T v (dgN T v) pq) := jnle (a := (LCz T v (dgN T v) pq)) (b := 0) (by omega) (by omega) c_234
                      refine lv_iload hx hb dL_isTold_232 (lv_at hl 2 rfl) ?_
                      refine lv_if_ne (tgt := 241) hx hb dL_isTold_234 (by decide) (fun c_235 => ?_) (fun c_235 => ?_)
                      · have zc_235 : (LCz T v (dgN T v) pq) ≠ 0 := jne (a := (LCz T v (dgN T v) pq)) (b := 0) (by omega) (by omega) c_235
                        refine lv_iconst (v := iI 0) hx hb dL_isTold_241 (by decide) ?_
                        refine lv_aload_n hx hb dL_isTold_242 rfl (lv_at hl 5 rfl) ?_
                        refine lv_iload_n hx hb dL_isTold_243 rfl (lv_at hl 6 rfl) ?_
                        refine lv_iload hx hb dL_isTold_244 (lv_at hl 3 rfl) ?_
                        have B := bd_swap (a := []) (b := []) (d := tl2_223) (bd_to rfl B)
                        refine k_W (rest := [.int (iI 0)]) (wc := ([] ++ tl2_223)) (wr := []) (w_demerits l dC dI k hl0 T K qa cp2_222 tl2_223 v pq z_224 hQ (by omega) (by omega)) B mW_L_demerits mw_1694 hl ⟨Nat.le_of_ble_eq_true rfl, Nat.le_of_ble_eq_true rfl⟩ (Nat.le_of_ble_eq_true rfl) rfl dL_isTold_246 ⟨by dsimp only; omega, by dsimp only; omega⟩ (fun r w gc gs H locs hp B => ?_)
                        rcases hp with ⟨cp2_236, tl2_237, z_238, z_239, z_240, rfl, hw9, rfl, rfl⟩ | ⟨cp2_241, tl2_242, z_243, z_244, z_245, rfl, hw9, rfl, rfl⟩
                        · skip
                          rw [hw9] at B; clear hw9
                          have B := bd_to (ws' := ([] ++ tl2_237)) rfl B
                          have hPS : PS dI k T K qa cp2_236 tl2_237 := z_238
                          refine W.widen (k := ((cp2_236 - cp) + (2 + (300 * Int.toNat pq) + 148 + 3))) (n := ((12 * (cp2_236 - cp)) + (6 * (2 + (300 * Int.toNat pq) + 148 + 3)))) (by omega) (by omega) ?_
                          refine lv_lconst (v := lI 0) hx hb dL_isTold_249 (by decide) ?_
                          refine y_lcmp B (a := (LDz T v (dgN T v) pq)) (b := 0) (by omega) (by omega) dL_isTold_250 ?_
                          rcases (show (LDz T v (dgN T v) pq) < 0 ∨ (LDz T v (dgN T v) pq) = 0 ∨ 0 < (LDz T v (dgN T v) pq) by omega) with zc_246 | zc_246 | zc_246
                          · refine lv_seti (y := iI (-1)) (congrArg iI (show cmpZ (LDz T v (dgN T v) pq) 0 = (-1) from if_pos zc_246)) ?_
                            exfalso; omega
                          · refine lv_seti (y := iI 0) (congrArg iI (show cmpZ (LDz T v (dgN T v) pq) 0 = 0 from (if_neg (by omega)).trans (if_pos zc_246))) ?_
                            refine lv_if_ne (tgt := 258) hx hb dL_isTold_251 (by decide) (fun c9 => absurd c9 (by decide)) (fun _ => ?_)
                            refine lv_iconst (v := iI 1) hx hb dL_isTold_254 (by decide) ?_
                            refine lv_goto (tgt := 259) hx hb dL_isTold_255 (by decide) ?_
                            exfalso; omega
                          · refine lv_seti (y := iI 1) (congrArg iI (show cmpZ (LDz T v (dgN T v) pq) 0 = 1 from (if_neg (by omega)).trans (if_neg (by omega)))) ?_
                            refine lv_if_ne (tgt := 258) hx hb dL_isTold_251 (by decide) (fun _ => ?_) (fun c9 => absurd c9 (by decide))
                            refine lv_iconst (v := iI 0) hx hb dL_isTold_258 (by decide) ?_
                            refine lv_icmp_ne (tgt := 266) hx hb dL_isTold_259 (by decide) (fun c9 => absurd c9 (by decide)) (fun _ => ?_)
                            refine lv_iconst (v := iI 1) hx hb dL_isTold_262 (by decide) ?_
                            refine lv_goto (tgt := 267) hx hb dL_isTold_263 (by decide) ?_
                            refine lv_istore_n (lv' := [(3, .int (iI 1)), (7, .long (lI (byZ T v (dgN T v) pq))), (6, .int (iI eb)), (5, .int (iI (LCz T v (dgN T v) pq))), (4, .int (iI pq)), (0, .ref qa), (1, .int (iI v)), (2, .int (iI xx))]) hx hb dL_isTold_267 rfl hl (by decide) rfl (fun ls hl => ?_)
                            have z_247 : 0 ≤ T 3 pq 0 0 ∧ T 3 pq 0 0 ≤ 12 := TK_nw hQ.1 _
                            refine lv_iconst (v := iI 0) hx hb dL_isTold_268 (by decide) ?_
                            refine lv_istore (lv' := [(9, .int (iI 0)), (3, .int (iI 1)), (7, .long (lI (byZ T v (dgN T v) pq))), (6, .int (iI eb)), (5, .int (iI (LCz T v (dgN T v) pq))), (4, .int (iI pq)), (0, .ref qa), (1, .int (iI v)), (2, .int (iI xx))]) hx hb dL_isTold_269 hl (by decide) rfl (fun ls hl => ?_)
                            refine W.widen (k := ((cp2_236 - cp) + (2 + (300 * Int.toNat pq) + 152 + (4 * Int.toNat 0)))) (n := ((12 * (cp2_236 - cp)) + (6 * (2 + (300 * Int.toNat pq) + 152 + (4 * Int.toNat 0))))) (by omega) (by omega) ?_
                            refine k_loopG (σ := Int × Nat × va_W) B (fun g9 : Int × Nat × va_W => (0 ≤ g9.1 ∧ g9.1 ≤ T 3 pq 0 0) ∧ (PS dI k T K qa g9.2.1 g9.2.2) ∧ (cp ≤ g9.2.1 ∧ g9.2.1 ≤ 131072)) (fun g9 : Int × Nat × va_W => (T 3 pq 0 0 - g9.1).toNat) (fun g9 : Int × Nat × va_W => [(9, .int (iI g9.1)), (3, .int (iI 1)), (7, .long (lI (byZ T v (dgN T v) pq))), (6, .int (iI eb)), (5, .int (iI (LCz T v (dgN T v) pq))), (4, .int (iI pq)), (0, .ref qa), (1, .int (iI v)), (2, .int (iI xx))]) (fun g9 : Int × Nat × va_W => ([] ++ g9.2.2)) (fun g9 : Int × Nat × va_W => ((g9.2.1 - cp) + (2 + (300 * Int.toNat pq) + 152 + (4 * Int.toNat g9.1)))) (fun g9 : Int × Nat × va_W => ((12 * (g9.2.1 - cp)) + (6 * (2 + (300 * Int.toNat pq) + 152 + (4 * Int.toNat g9.1))))) ?_ (0, cp2_236, tl2_237) ⟨(show 0 ≤ 0 ∧ 0 ≤ T 3 pq 0 0 from (by omega)), (show PS dI k T K qa cp2_236 tl2_237 from hPS), (show cp ≤ cp2_236 ∧ cp2_236 ≤ 131072 from (by omega))⟩ ls H locs (lv_sub hl [0, 1, 2, 3, 4, 5, 6, 7, 8] rfl) (bd_to rfl B)
                            clear hl B
                            rintro ⟨aq, cp6, tl6⟩ ⟨hk3, hPS, hc6⟩ ih_248 ls H locs hl B
                            have hk3 : 0 ≤ aq ∧ aq ≤ T 3 pq 0 0 := hk3
                            have hPS : PS dI k T K qa cp6 tl6 := hPS
                            have hc6 : cp ≤ cp6 ∧ cp6 ≤ 131072 := hc6
                            show W p l e _ s m args below meth c H locs ((cp6 - cp) + (2 + (300 * Int.toNat pq) + 152 + (4 * Int.toNat aq))) ((12 * (cp6 - cp)) + (6 * (2 + (300 * Int.toNat pq) + 152 + (4 * Int.toNat aq)))) _ _
                            have hl : lv_has ls 12 [(9, .int (iI aq)), (3, .int (iI 1)), (7, .long (lI (byZ T v (dgN T v) pq))), (6, .int (iI eb)), (5, .int (iI (LCz T v (dgN T v) pq))), (4, .int (iI pq)), (0, .ref qa), (1, .int (iI v)), (2, .int (iI xx))] := hl
                            have B := bd_to (ws' := ([] ++ tl6)) rfl B
                            have hnw : 0 ≤ T 3 pq 0 0 ∧ T 3 pq 0 0 ≤ 12 := TK_nw hQ.1 _
                            refine lv_iload hx hb dL_isTold_271 (lv_at hl 0 rfl) ?_
                            refine lv_aload_n hx hb dL_isTold_273 rfl (lv_at hl 6 rfl) ?_
                            refine lv_iload hx hb dL_isTold_274 (lv_at hl 5 rfl) ?_
                            have z_249 : 0 ≤ T 3 pq 0 0 ∧ T 3 pq 0 0 ≤ 12 := TK_nw hQ.1 _
                            have B := bd_swap (a := []) (b := []) (d := tl6) (bd_to rfl B)
                            refine k_W (rest := [.int (iI aq)]) (wc := ([] ++ tl6)) (wr := []) (w_count l dC dI k hl0 T K qa cp6 tl6 pq hPS hQ (by omega)) B mW_L_count mw_1266 hl ⟨Nat.le_of_ble_eq_true rfl, Nat.le_of_ble_eq_true rfl⟩ (Nat.le_of_ble_eq_true rfl) rfl dL_isTold_276 ⟨by dsimp only; omega, by dsimp only; omega⟩ (fun r w gc gs H locs hp B => ?_)
                            rcases hp with ⟨cp2_250, tl2_251, z_252, z_253, z_254, rfl, hw9, rfl, rfl⟩ | ⟨cp2_255, tl2_256, z_257, z_258, z_259, rfl, hw9, rfl, rfl⟩
                            · skip
                              rw [hw9] at B; clear hw9
                              have B := bd_to (ws' := ([] ++ tl2_251)) rfl B
                              have hPS : PS dI k T K qa cp2_250 tl2_251 := z_252
                              refine W.widen (k := ((cp2_250 - cp) + (2 + (300 * Int.toNat pq) + 152 + (4 * Int.toNat aq) + 1))) (n := ((12 * (cp2_250 - cp)) + (6 * (2 + (300 * Int.toNat pq) + 152 + (4 * Int.toNat aq) + 1)))) (by omega) (by omega) ?_
                              refine lv_icmp_ge (tgt := 391) hx hb dL_isTold_279 (by decide) (fun c_260 => ?_) (fun c_260 => ?_)
                              · have zc_260 : (T 3 pq 0 0) ≤ aq := jle (a := (T 3 pq 0 0)) (b := aq) (by omega) (by omega) c_260
                                refine lv_iinc (v := iI (pq + 1)) (lv' := [(4, .int (iI (pq + 1))), (9, .int (iI aq)), (3, .int (iI 1)), (7, .long (lI (byZ T v (dgN T v) pq))), (6, .int (iI eb)), (5, .int (iI (LCz T v (dgN T v) pq))), (0, .ref qa), (1, .int (iI v)), (2, .int (iI xx))]) hx hb dL_isTold_391 hl (k := 5) rfl (iI_add _ _) (by decide) rfl (fun ls hl => ?_)
                                refine lv_goto (tgt := 5) hx hb dL_isTold_394 (by decide) ?_
                                refine W.widen (k := ((cp2_250 - cp) + (2 + (300 * Int.toNat (pq + 1))))) (n := ((12 * (cp2_250 - cp)) + (6 * (2 + (300 * Int.toNat (pq + 1)))))) (by omega) (by omega) ?_
                                exact ih_1 ((pq + 1), cp2_250, tl2_251) ⟨(show 0 ≤ (pq + 1) ∧ (pq + 1) ≤ T 0 0 0 0 from (by omega)), (show PS dI k T K qa cp2_250 tl2_251 from hPS), (show cp ≤ cp2_250 ∧ cp2_250 ≤ 131072 from (by omega))⟩ (by first | omega | (dsimp only; omega)) _ _ _ (lv_sub hl [0, 2, 6, 7, 8] rfl) (bd_to rfl B)
                              · have zc_260 : aq < (T 3 pq 0 0) := jnle (a := (T 3 pq 0 0)) (b := aq) (by omega) (by omega) c_260
                                refine lv_iload_n hx hb dL_isTold_282 rfl (lv_at hl 1 rfl) ?_
                                refine lv_if_eq (tgt := 391) hx hb dL_isTold_283 (by decide) (fun c9 => absurd c9 (by decide)) (fun _ => ?_)
                                refine lv_aload_n hx hb dL_isTold_286 rfl (lv_at hl 6 rfl) ?_
                                refine lv_iload_n hx hb dL_isTold_287 rfl (lv_at hl 7 rfl) ?_
                                refine lv_iload hx hb dL_isTold_288 (lv_at hl 5 rfl) ?_
                                refine lv_iload hx hb dL_isTold_290 (lv_at hl 0 rfl) ?_
                                have hwh := hTo.2.1 pq aq (by omega) (by omega) (by omega) (by omega)
                                have B := bd_swap (a := []) (b := []) (d := tl2_251) (bd_to rfl B)
                                refine k_W (rest := []) (wc := ([] ++ tl2_251)) (wr := []) (w_whereIs l dC dI k hl0 T K qa cp2_250 tl2_251 v pq aq z_252 hQ (by omega) (by omega) (by omega)) B mW_L_whereIs mw_1791 hl ⟨Nat.le_of_ble_eq_true rfl, Nat.le_of_ble_eq_true rfl⟩ (Nat.le_of_ble_eq_true rfl) rfl dL_isTold_292 ⟨by dsimp only; omega, by dsimp only; omega⟩ (fun r w gc gs H locs hp B => ?_)
                                rcases hp with ⟨cp2_261, tl2_262, z_263, z_264, z_265, rfl, hw9, rfl, rfl⟩ | ⟨cp2_266, tl2_267, z_268, z_269, z_270, rfl, hw9, rfl, rfl⟩
                                · skip
                                  rw [hw9] at B; clear hw9
                                  have B := bd_to (ws' := ([] ++ tl2_262)) rfl B
                                  have hPS : PS dI k T K qa cp2_261 tl2_262 := z_263
                                  refine W.widen (k := ((cp2_261 - cp) + (2 + (300 * Int.toNat pq) + 152 + (4 * Int.toNat aq) + 2))) (n := ((12 * (cp2_261 - cp)) + (6 * (2 + (300 * Int.toNat pq) + 152 + (4 * Int.toNat aq) + 2)))) (by omega) (by omega) ?_
                                  refine lv_istore (lv' := [(10, .int (iI (whZ T v pq aq))), (9, .int (iI aq)), (3, .int (iI 1)), (7, .long (lI (byZ T v (dgN T v) pq))), (6, .int (iI eb)), (5, .int (iI (LCz T v (dgN T v) pq))), (4, .int (iI pq)), (0, .ref qa), (1, .int (iI v)), (2, .int (iI xx))]) hx hb dL_isTold_295 hl (by decide) rfl (fun ls hl => ?_)
                                  refine lv_iload hx hb dL_isTold_297 (lv_at hl 0 rfl) ?_
                                  refine lv_if_ge (tgt := 306) hx hb dL_isTold_299 (by decide) (fun c_271 => ?_) (fun c_271 => ?_)
                                  · have zc_271 : 0 ≤ (whZ T v pq aq) := jle (a := 0) (b := (whZ T v pq aq)) (by omega) (by omega) c_271
                                    refine lv_aload_n hx hb dL_isTold_306 rfl (lv_at hl 7 rfl) ?_
                                    refine lv_iload_n hx hb dL_isTold_307 rfl (lv_at hl 8 rfl) ?_
                                    refine lv_iload hx hb dL_isTold_308 (lv_at hl 0 rfl) ?_
                                    refine lv_sipush (v := iI 1000) hx hb dL_isTold_310 (by decide) ?_
                                    refine y_div hx hb (a := (whZ T v pq aq)) (b := 1000) (by omega) (by omega) dL_isTold_313 ?_
                                    refine lv_iload hx hb dL_isTold_314 (lv_at hl 0 rfl) ?_
                                    refine lv_sipush (v := iI 1000) hx hb dL_isTold_316 (by decide) ?_
                                    refine y_rem hx hb (a := (whZ T v pq aq)) (b := 1000) (by omega) (by omega) dL_isTold_319 ?_
                                    have B := bd_swap (a := []) (b := []) (d := tl2_262) (bd_to rfl B)
                                    refine k_W (rest := []) (wc := ([] ++ tl2_262)) (wr := []) (w_textAt l dC dI k hl0 T K qa cp2_261 tl2_262 v ((whZ T v pq aq) / 1000) ((whZ T v pq aq) % 1000) z_263 hQ (by omega) (by omega) (by omega)) B mW_L_textAt mw_1784 hl ⟨Nat.le_of_ble_eq_true rfl, Nat.le_of_ble_eq_true rfl⟩ (Nat.le_of_ble_eq_true rfl) rfl dL_isTold_320 ⟨by dsimp only; omega, by dsimp only; omega⟩ (fun r w gc gs H locs hp B => ?_)
                                    rcases hp with ⟨cp2_272, tl2_273, z_274, z_275, z_276, rfl, hw9, rfl, rfl⟩ | ⟨cp2_277, tl2_278, z_279, z_280, z_281, rfl, hw9, rfl, rfl⟩
                                    · skip
                                      rw [hw9] at B; clear hw9
                                      have B := bd_to (ws' := ([] ++ tl2_273)) rfl B
                                      have hPS : PS dI k T K qa cp2_272 tl2_273 := z_274
                                      refine W.widen (k := ((cp2_272 - cp) + (2 + (300 * Int.toNat pq) + 152 + (4 * Int.toNat aq) + 3))) (n := ((12 * (cp2_272 - cp)) + (6 * (2 + (300 * Int.toNat pq) + 152 + (4 * Int.toNat aq) + 3)))) (by omega) (by omega) ?_
                                      refine lv_istore (lv' := [(11, .int (iI (txZ T v ((whZ T v pq aq) / 1000) ((whZ T v pq aq) % 1000)))), (10, .int (iI (whZ T v pq aq))), (9, .int (iI aq)), (3, .int (iI 1)), (7, .long (lI (byZ T v (dgN T v) pq))), (6, .int (iI eb)), (5, .int (iI (LCz T v (dgN T v) pq))), (4, .int (iI pq)), (0, .ref qa), (1, .int (iI v)), (2, .int (iI xx))]) hx hb dL_isTold_323 hl (by decide) rfl (fun ls hl => ?_)
                                      refine lv_iload hx hb dL_isTold_325 (lv_at hl 1 rfl) ?_
                                      refine lv_if_ge (tgt := 344) hx hb dL_isTold_327 (by decide) (fun c_282 => ?_) (fun c_282 => ?_)
                                      · have zc_282 : 0 ≤ (whZ T v pq aq) := jle (a := 0) (b := (whZ T v pq aq)) (by omega) (by omega) c_282
                                        refine lv_iload hx hb dL_isTold_344 (lv_at hl 0 rfl) ?_
                                        refine lv_sipush (v := iI 1000) hx hb dL_isTold_346 (by decide) ?_
                                        refine y_div hx hb (a := (txZ T v ((whZ T v pq aq) / 1000) ((whZ T v pq aq) % 1000))) (b := 1000) (by omega) (by omega) dL_isTold_349 ?_
                                        refine lv_iload hx hb dL_isTold_350 (lv_at hl 7 rfl) ?_
                                        refine lv_icmp_ne (tgt := 383) hx hb dL_isTold_352 (by decide) (fun c_283 => ?_) (fun c_283 => ?_)
                                        · have zc_283 : ((txZ T v ((whZ T v pq aq) / 1000) ((whZ T v pq aq) % 1000)) / 1000) ≠ pq := jne (a := ((txZ T v ((whZ T v pq aq) / 1000) ((whZ T v pq aq) % 1000)) / 1000)) (b := pq) (by omega) (by omega) c_283
                                          exfalso; omega
                                        · have zc_283 : ((txZ T v ((whZ T v pq aq) / 1000) ((whZ T v pq aq) % 1000)) / 1000) = pq := jeq (a := ((txZ T v ((whZ T v pq aq) / 1000) ((whZ T v pq aq) % 1000)) / 1000)) (b := pq) (by omega) (by omega) c_283
                                          refine lv_iload hx hb dL_isTold_355 (lv_at hl 1 rfl) ?_
                                          refine lv_sipush (v := iI 1000) hx hb dL_isTold_357 (by decide) ?_
                                          refine y_div hx hb (a := (whZ T v pq aq)) (b := 1000) (by omega) (by omega) dL_isTold_360 ?_
                                          refine lv_iconst (v := iI 1) hx hb dL_isTold_361 (by decide) ?_
                                          refine lv_icmp_lt (tgt := 383) hx hb dL_isTold_362 (by decide) (fun c_284 => ?_) (fun c_284 => ?_)
                                          · have zc_284 : ((whZ T v pq aq) / 1000) < 1 := jlt (a := ((whZ T v pq aq) / 1000)) (b := 1) (by omega) (by omega) c_284
                                            exfalso; omega
                                          · have zc_284 : 1 ≤ ((whZ T v pq aq) / 1000) := jnlt (a := ((whZ T v pq aq) / 1000)) (b := 1) (by omega) (by omega) c_284
                                            refine lv_iload hx hb dL_isTold_365 (lv_at hl 1 rfl) ?_
                                            refine lv_sipush (v := iI 1000) hx hb dL_isTold_367 (by decide) ?_
                                            refine y_div hx hb (a := (whZ T v pq aq)) (b := 1000) (by omega) (by omega) dL_isTold_370 ?_
                                            refine lv_aload_n hx hb dL_isTold_371 rfl (lv_at hl 8 rfl) ?_
                                            refine lv_iload_n hx hb dL_isTold_372 rfl (lv_at hl 9 rfl) ?_
                                            have B := bd_swap (a := []) (b := []) (d := tl2_273) (bd_to rfl B)
                                            refine k_W (rest := [.int (iI ((whZ T v pq aq) / 1000))]) (wc := ([] ++ tl2_273)) (wr := []) (w_pages l dC dI k hl0 T K qa cp2_272 tl2_273 v z_274 hQ (by omega)) B mW_L_pages mw_1721 hl ⟨Nat.le_of_ble_eq_true rfl, Nat.le_of_ble_eq_true rfl⟩ (Nat.le_of_ble_eq_true rfl) rfl dL_isTold_373 ⟨by dsimp only; omega, by dsimp only; omega⟩ (fun r w gc gs H locs hp B => ?_)
                                            rcases hp with ⟨cp2_285, tl2_286, z_287, z_288, z_289, rfl, hw9, rfl, rfl⟩ | ⟨cp2_290, tl2_291, z_292, z_293, z_294, rfl, hw9, rfl, rfl⟩
                                            · skip
                                              rw [hw9] at B; clear hw9
                                              have B := bd_to (ws' := ([] ++ tl2_286)) rfl B
                                              have hPS : PS dI k T K qa cp2_285 tl2_286 := z_287
                                              refine W.widen (k := ((cp2_285 - cp) + (2 + (300 * Int.toNat pq) + 152 + (4 * Int.toNat aq) + 4))) (n := ((12 * (cp2_285 - cp)) + (6 * (2 + (300 * Int.toNat pq) + 152 + (4 * Int.toNat aq) + 4)))) (by omega) (by omega) ?_
                                              refine lv_icmp_gt (tgt := 383) hx hb dL_isTold_376 (by decide) (fun c_295 => ?_) (fun c_295 => ?_)
                                              · have zc_295 : ((mkZ T (moC T v (dgN T v))) 0 0) < ((whZ T v pq aq) / 1000) := jlt (a := ((mkZ T (moC T v (dgN T v))) 0 0)) (b := ((whZ T v pq aq) / 1000)) (by omega) (by omega) c_295
                                                exfalso; omega
                                              · have zc_295 : ((whZ T v pq aq) / 1000) ≤ ((mkZ T (moC T v (dgN T v))) 0 0) := jnlt (a := ((mkZ T (moC T v (dgN T v))) 0 0)) (b := ((whZ T v pq aq) / 1000)) (by omega) (by omega) c_295
                                                refine lv_iconst (v := iI 1) hx hb dL_isTold_379 (by decide) ?_
                                                refine lv_goto (tgt := 384) hx hb dL_isTold_380 (by decide) ?_
                                                refine lv_istore_n (lv' := [(3, .int (iI 1)), (11, .int (iI (txZ T v ((whZ T v pq aq) / 1000) ((whZ T v pq aq) % 1000)))), (10, .int (iI (whZ T v pq aq))), (9, .int (iI aq)), (7, .long (lI (byZ T v (dgN T v) pq))), (6, .int (iI eb)), (5, .int (iI (LCz T v (dgN T v) pq))), (4, .int (iI pq)), (0, .ref qa), (1, .int (iI v)), (2, .int (iI xx))]) hx hb dL_isTold_384 rfl hl (by decide) rfl (fun ls hl => ?_)
                                                refine lv_iinc (v := iI (aq + 1)) (lv' := [(9, .int (iI (aq + 1))), (3, .int (iI 1)), (11, .int (iI (txZ T v ((whZ T v pq aq) / 1000) ((whZ T v pq aq) % 1000)))), (10, .int (iI (whZ T v pq aq))), (7, .long (lI (byZ T v (dgN T v) pq))), (6, .int (iI eb)), (5, .int (iI (LCz T v (dgN T v) pq))), (4, .int (iI pq)), (0, .ref qa), (1, .int (iI v)), (2, .int (iI xx))]) hx hb dL_isTold_385 hl (k := 3) rfl (iI_add _ _) (by decide) rfl (fun ls hl => ?_)
                                                refine lv_goto (tgt := 271) hx hb dL_isTold_388 (by decide) ?_
                                                refine W.widen (k := ((cp2_285 - cp) + (2 + (300 * Int.toNat pq) + 152 + (4 * Int.toNat (aq + 1))))) (n := ((12 * (cp2_285 - cp)) + (6 * (2 + (300 * Int.toNat pq) + 152 + (4 * Int.toNat (aq + 1)))))) (by omega) (by omega) ?_
                                                exact ih_248 ((aq + 1), cp2_285, tl2_286) ⟨(show 0 ≤ (aq + 1) ∧ (aq + 1) ≤ T 3 pq 0 0 from (by omega)), (show PS dI k T K qa cp2_285 tl2_286 from hPS), (show cp ≤ cp2_285 ∧ cp2_285 ≤ 131072 from (by omega))⟩ (by first | omega | (dsimp only; omega)) _ _ _ (lv_sub hl [0, 1, 4, 5, 6, 7, 8, 9, 10] rfl) (bd_to rfl B)
                                            · skip
                                              rw [hw9] at B; clear hw9
                                              have B := bd_to (ws' := ([] ++ tl2_291)) rfl B
                                              have hPS : PS dI k T K qa cp2_290 tl2_291 := z_292
                                              exfalso; omega
                                      · have zc_282 : (whZ T v pq aq) < 0 := jnle (a := 0) (b := (whZ T v pq aq)) (by omega) (by omega) c_282
                                        exfalso; omega
                                    · skip
                                      rw [hw9] at B; clear hw9
                                      have B := bd_to (ws' := ([] ++ tl2_278)) rfl B
                                      have hPS : PS dI k T K qa cp2_277 tl2_278 := z_279
                                      exfalso; omega
                                  · have zc_271 : (whZ T v pq aq) < 0 := jnle (a := 0) (b := (whZ T v pq aq)) (by omega) (by omega) c_271
                                    refine lv_iconst (v := iI 0) hx hb dL_isTold_302 (by decide) ?_
                                    refine lv_goto (tgt := 323) hx hb dL_isTold_303 (by decide) ?_
                                    refine lv_istore (lv' := [(11, .int (iI 0)), (10, .int (iI (whZ T v pq aq))), (9, .int (iI aq)), (3, .int (iI 1)), (7, .long (lI (byZ T v (dgN T v) pq))), (6, .int (iI eb)), (5, .int (iI (LCz T v (dgN T v) pq))), (4, .int (iI pq)), (0, .ref qa), (1, .int (iI v)), (2, .int (iI xx))]) hx hb dL_isTold_323 hl (by decide) rfl (fun ls hl => ?_)
                                    refine lv_iload hx hb dL_isTold_325 (lv_at hl 1 rfl) ?_
                                    refine lv_if_ge (tgt := 344) hx hb dL_isTold_327 (by decide) (fun c_296 => ?_) (fun c_296 => ?_)
                                    · have zc_296 : 0 ≤ (whZ T v pq aq) := jle (a := 0) (b := (whZ T v pq aq)) (by omega) (by omega) c_296
                                      exfalso; omega
                                    · have zc_296 : (whZ T v pq aq) < 0 := jnle (a := 0) (b := (whZ T v pq aq)) (by omega) (by omega) c_296
                                      refine lv_iload hx hb dL_isTold_330 (lv_at hl 1 rfl) ?_
                                      refine lv_iconst (v := iI (-1)) hx hb dL_isTold_332 (by decide) ?_
                                      refine lv_icmp_ne (tgt := 340) hx hb dL_isTold_333 (by decide) (fun c_297 => ?_) (fun c_297 => ?_)
                                      · have zc_297 : (whZ T v pq aq) ≠ (-1) := jne (a := (whZ T v pq aq)) (b := (-1)) (by omega) (by omega) c_297
                                        exfalso; omega
                                      · have zc_297 : (whZ T v pq aq) = (-1) := jeq (a := (whZ T v pq aq)) (b := (-1)) (by omega) (by omega) c_297
                                        refine lv_iconst (v := iI 1) hx hb dL_isTold_336 (by decide) ?_
                                        refine lv_goto (tgt := 384) hx hb dL_isTold_337 (by decide) ?_
                                        refine lv_istore_n (lv' := [(3, .int (iI 1)), (11, .int (iI 0)), (10, .int (iI (whZ T v pq aq))), (9, .int (iI aq)), (7, .long (lI (byZ T v (dgN T v) pq))), (6, .int (iI eb)), (5, .int (iI (LCz T v (dgN T v) pq))), (4, .int (iI pq)), (0, .ref qa), (1, .int (iI v)), (2, .int (iI xx))]) hx hb dL_isTold_384 rfl hl (by decide) rfl (fun ls hl => ?_)
                                        refine lv_iinc (v := iI (aq + 1)) (lv' := [(9, .int (iI (aq + 1))), (3, .int (iI 1)), (11, .int (iI 0)), (10, .int (iI (whZ T v pq aq))), (7, .long (lI (byZ T v (dgN T v) pq))), (6, .int (iI eb)), (5, .int (iI (LCz T v (dgN T v) pq))), (4, .int (iI pq)), (0, .ref qa), (1, .int (iI v)), (2, .int (iI xx))]) hx hb dL_isTold_385 hl (k := 3) rfl (iI_add _ _) (by decide) rfl (fun ls hl => ?_)
                                        refine lv_goto (tgt := 271) hx hb dL_isTold_388 (by decide) ?_
                                        refine W.widen (k := ((cp2_261 - cp) + (2 + (300 * Int.toNat pq) + 152 + (4 * Int.toNat (aq + 1))))) (n := ((12 * (cp2_261 - cp)) + (6 * (2 + (300 * Int.toNat pq) + 152 + (4 * Int.toNat (aq + 1)))))) (by omega) (by omega) ?_
                                        exact ih_248 ((aq + 1), cp2_261, tl2_262) ⟨(show 0 ≤ (aq + 1) ∧ (aq + 1) ≤ T 3 pq 0 0 from (by omega)), (show PS dI k T K qa cp2_261 tl2_262 from hPS), (show cp ≤ cp2_261 ∧ cp2_261 ≤ 131072 from (by omega))⟩ (by first | omega | (dsimp only; omega)) _ _ _ (lv_sub hl [0, 1, 4, 5, 6, 7, 8, 9, 10] rfl) (bd_to rfl B)
                                · skip
                                  rw [hw9] at B; clear hw9
                                  have B := bd_to (ws' := ([] ++ tl2_267)) rfl B
                                  have hPS : PS dI k T K qa cp2_266 tl2_267 := z_268
                                  exfalso; omega
                            · skip
                              rw [hw9] at B; clear hw9
                              have B := bd_to (ws' := ([] ++ tl2_256)) rfl B
                              have hPS : PS dI k T K qa cp2_255 tl2_256 := z_257
                              exfalso; omega
                        · skip
                          rw [hw9] at B; clear hw9
                          have B := bd_to (ws' := ([] ++ tl2_242)) rfl B
                          have hPS : PS dI k T K qa cp2_241 tl2_242 := z_243
                          exfalso; omega
                      · have zc_235 : (LCz T v (dgN T v) pq) = 0 := jeq (a := (LCz T v (dgN T v) pq)) (b := 0) (by omega) (by omega) c_235
                        exfalso; omega
                  · refine lv_seti (y := iI 1) (congrArg iI (show cmpZ (byZ T v (dgN T v) pq) (-1) = 1 from (if_neg (by omega)).trans (if_neg (by omega)))) ?_
                    exfalso; omega
                · refine lv_seti (y := iI 0) (congrArg iI (show cmpZ (byZ T v (dgN T v) pq) (LDz T v (dgN T v) pq) = 0 from (if_neg (by omega)).trans (if_pos zc_232))) ?_
                  refine lv_if_eq (tgt := 232) hx hb dL_isTold_215 (by decide) (fun _ => ?_) (fun c9 => absurd (by decide) c9)
                  refine lv_iload hx hb dL_isTold_232 (lv_at hl 2 rfl) ?_
                  refine lv_if_ne (tgt := 241) hx hb dL_isTold_234 (by decide) (fun c_298 => ?_) (fun c_298 => ?_)
                  · have zc_298 : (LCz T v (dgN T v) pq) ≠ 0 := jne (a := (LCz T v (dgN T v) pq)) (b := 0) (by omega) (by omega) c_298
                    refine lv_iconst (v := iI 0) hx hb dL_isTold_241 (by decide) ?_
                    refine lv_aload_n hx hb dL_isTold_242 rfl (lv_at hl 5 rfl) ?_
                    refine lv_iload_n hx hb dL_isTold_243 rfl (lv_at hl 6 rfl) ?_
                    refine lv_iload hx hb dL_isTold_244 (lv_at hl 3 rfl) ?_
                    have B := bd_swap (a := []) (b := []) (d := tl2_223) (bd_to rfl B)
                    refine k_W (rest := [.int (iI 0)]) (wc := ([] ++ tl2_223)) (wr := []) (w_demerits l dC dI k hl0 T K qa cp2_222 tl2_223 v pq z_224 hQ (by omega) (by omega)) B mW_L_demerits mw_1694 hl ⟨Nat.le_of_ble_eq_true rfl, Nat.le_of_ble_eq_true rfl⟩ (Nat.le_of_ble_eq_true rfl) rfl dL_isTold_246 ⟨by dsimp only; omega, by dsimp only; omega⟩ (fun r w gc gs H locs hp B => ?_)
                    rcases hp with ⟨cp2_299, tl2_300, z_301, z_302, z_303, rfl, hw9, rfl, rfl⟩ | ⟨cp2_304, tl2_305, z_306, z_307, z_308, rfl, hw9, rfl, rfl⟩
                    · skip
                      rw [hw9] at B; clear hw9
                      have B := bd_to (ws' := ([] ++ tl2_300)) rfl B
                      have hPS : PS dI k T K qa cp2_299 tl2_300 := z_301
                      refine W.widen (k := ((cp2_299 - cp) + (2 + (300 * Int.toNat pq) + 148 + 3))) (n := ((12 * (cp2_299 - cp)) + (6 * (2 + (300 * Int.toNat pq) + 148 + 3)))) (by omega) (by omega) ?_
                      refine lv_lconst (v := lI 0) hx hb dL_isTold_249 (by decide) ?_
                      refine y_lcmp B (a := (LDz T v (dgN T v) pq)) (b := 0) (by omega) (by omega) dL_isTold_250 ?_
                      rcases (show (LDz T v (dgN T v) pq) < 0 ∨ (LDz T v (dgN T v) pq) = 0 ∨ 0 < (LDz T v (dgN T v) pq) by omega) with zc_309 | zc_309 | zc_309
                      · refine lv_seti (y := iI (-1)) (congrArg iI (show cmpZ (LDz T v (dgN T v) pq) 0 = (-1) from if_pos zc_309)) ?_
                        exfalso; omega
                      · refine lv_seti (y := iI 0) (congrArg iI (show cmpZ (LDz T v (dgN T v) pq) 0 = 0 from (if_neg (by omega)).trans (if_pos zc_309))) ?_
                        refine lv_if_ne (tgt := 258) hx hb dL_isTold_251 (by decide) (fun c9 => absurd c9 (by decide)) (fun _ => ?_)
                        refine lv_iconst (v := iI 1) hx hb dL_isTold_254 (by decide) ?_
                        refine lv_goto (tgt := 259) hx hb dL_isTold_255 (by decide) ?_
                        exfalso; omega
                      · refine lv_seti (y := iI 1) (congrArg iI (show cmpZ (LDz T v (dgN T v) pq) 0 = 1 from (if_neg (by omega)).trans (if_neg (by omega)))) ?_
                        refine lv_if_ne (tgt := 258) hx hb dL_isTold_251 (by decide) (fun _ => ?_) (fun c9 => absurd c9 (by decide))
                        refine lv_iconst (v := iI 0) hx hb dL_isTold_258 (by decide) ?_
                        refine lv_icmp_ne (tgt := 266) hx hb dL_isTold_259 (by decide) (fun c9 => absurd c9 (by decide)) (fun _ => ?_)
                        refine lv_iconst (v := iI 1) hx hb dL_isTold_262 (by decide) ?_
                        refine lv_goto (tgt := 267) hx hb dL_isTold_263 (by decide) ?_
                        refine lv_istore_n (lv' := [(3, .int (iI 1)), (7, .long (lI (byZ T v (dgN T v) pq))), (6, .int (iI eb)), (5, .int (iI (LCz T v (dgN T v) pq))), (4, .int (iI pq)), (0, .ref qa), (1, .int (iI v)), (2, .int (iI xx))]) hx hb dL_isTold_267 rfl hl (by decide) rfl (fun ls hl => ?_)
                        have z_310 : 0 ≤ T 3 pq 0 0 ∧ T 3 pq 0 0 ≤ 12 := TK_nw hQ.1 _
                        refine lv_iconst (v := iI 0) hx hb dL_isTold_268 (by decide) ?_
                        refine lv_istore (lv' := [(9, .int (iI 0)), (3, .int (iI 1)), (7, .long (lI (byZ T v (dgN T v) pq))), (6, .int (iI eb)), (5, .int (iI (LCz T v (dgN T v) pq))), (4, .int (iI pq)), (0, .ref qa), (1, .int (iI v)), (2, .int (iI xx))]) hx hb dL_isTold_269 hl (by decide) rfl (fun ls hl => ?_)
                        refine W.widen (k := ((cp2_299 - cp) + (2 + (300 * Int.toNat pq) + 152 + (4 * Int.toNat 0)))) (n := ((12 * (cp2_299 - cp)) + (6 * (2 + (300 * Int.toNat pq) + 152 + (4 * Int.toNat 0))))) (by omega) (by omega) ?_
                        refine k_loopG (σ := Int × Nat × va_W) B (fun g9 : Int × Nat × va_W => (0 ≤ g9.1 ∧ g9.1 ≤ T 3 pq 0 0) ∧ (PS dI k T K qa g9.2.1 g9.2.2) ∧ (cp ≤ g9.2.1 ∧ g9.2.1 ≤ 131072)) (fun g9 : Int × Nat × va_W => (T 3 pq 0 0 - g9.1).toNat) (fun g9 : Int × Nat × va_W => [(9, .int (iI g9.1)), (3, .int (iI 1)), (7, .long (lI (byZ T v (dgN T v) pq))), (6, .int (iI eb)), (5, .int (iI (LCz T v (dgN T v) pq))), (4, .int (iI pq)), (0, .ref qa), (1, .int (iI v)), (2, .int (iI xx))]) (fun g9 : Int × Nat × va_W => ([] ++ g9.2.2)) (fun g9 : Int × Nat × va_W => ((g9.2.1 - cp) + (2 + (300 * Int.toNat pq) + 152 + (4 * Int.toNat g9.1)))) (fun g9 : Int × Nat × va_W => ((12 * (g9.2.1 - cp)) + (6 * (2 + (300 * Int.toNat pq) + 152 + (4 * Int.toNat g9.1))))) ?_ (0, cp2_299, tl2_300) ⟨(show 0 ≤ 0 ∧ 0 ≤ T 3 pq 0 0 from (by omega)), (show PS dI k T K qa cp2_299 tl2_300 from hPS), (show cp ≤ cp2_299 ∧ cp2_299 ≤ 131072 from (by omega))⟩ ls H locs (lv_sub hl [0, 1, 2, 3, 4, 5, 6, 7, 8] rfl) (bd_to rfl B)
                        clear hl B
                        rintro ⟨aq, cp6, tl6⟩ ⟨hk3, hPS, hc6⟩ ih_311 ls H locs hl B
                        have hk3 : 0 ≤ aq ∧ aq ≤ T 3 pq 0 0 := hk3
                        have hPS : PS dI k T K qa cp6 tl6 := hPS
                        have hc6 : cp ≤ cp6 ∧ cp6 ≤ 131072 := hc6
                        show W p l e _ s m args below meth c H locs ((cp6 - cp) + (2 + (300 * Int.toNat pq) + 152 + (4 * Int.toNat aq))) ((12 * (cp6 - cp)) + (6 * (2 + (300 * Int.toNat pq) + 152 + (4 * Int.toNat aq)))) _ _
                        have hl : lv_has ls 12 [(9, .int (iI aq)), (3, .int (iI 1)), (7, .long (lI (byZ T v (dgN T v) pq))), (6, .int (iI eb)), (5, .int (iI (LCz T v (dgN T v) pq))), (4, .int (iI pq)), (0, .ref qa), (1, .int (iI v)), (2, .int (iI xx))] := hl
                        have B := bd_to (ws' := ([] ++ tl6)) rfl B
                        have hnw : 0 ≤ T 3 pq 0 0 ∧ T 3 pq 0 0 ≤ 12 := TK_nw hQ.1 _
                        refine lv_iload hx hb dL_isTold_271 (lv_at hl 0 rfl) ?_
                        refine lv_aload_n hx hb dL_isTold_273 rfl (lv_at hl 6 rfl) ?_
                        refine lv_iload hx hb dL_isTold_274 (lv_at hl 5 rfl) ?_
                        have z_312 : 0 ≤ T 3 pq 0 0 ∧ T 3 pq 0 0 ≤ 12 := TK_nw hQ.1 _
                        have B := bd_swap (a := []) (b := []) (d := tl6) (bd_to rfl B)
                        refine k_W (rest := [.int (iI aq)]) (wc := ([] ++ tl6)) (wr := []) (w_count l dC dI k hl0 T K qa cp6 tl6 pq hPS hQ (by omega)) B mW_L_count mw_1266 hl ⟨Nat.le_of_ble_eq_true rfl, Nat.le_of_ble_eq_true rfl⟩ (Nat.le_of_ble_eq_true rfl) rfl dL_isTold_276 ⟨by dsimp only; omega, by dsimp only; omega⟩ (fun r w gc gs H locs hp B => ?_)
                        rcases hp with ⟨cp2_313, tl2_314, z_315, z_316, z_317, rfl, hw9, rfl, rfl⟩ | ⟨cp2_318, tl2_319, z_320, z_321, z_322, rfl, hw9, rfl, rfl⟩
                        · skip
                          rw [hw9] at B; clear hw9
                          have B := bd_to (ws' := ([] ++ tl2_314)) rfl B
                          have hPS : PS dI k T K qa cp2_313 tl2_314 := z_315
                          refine W.widen (k := ((cp2_313 - cp) + (2 + (300 * Int.toNat pq) + 152 + (4 * Int.toNat aq) + 1))) (n := ((12 * (cp2_313 - cp)) + (6 * (2 + (300 * Int.toNat pq) + 152 + (4 * Int.toNat aq) + 1)))) (by omega) (by omega) ?_
                          refine lv_icmp_ge (tgt := 391) hx hb dL_isTold_279 (by decide) (fun c_323 => ?_) (fun c_323 => ?_)
                          · have zc_323 : (T 3 pq 0 0) ≤ aq := jle (a := (T 3 pq 0 0)) (b := aq) (by omega) (by omega) c_323
                            refine lv_iinc (v := iI (pq + 1)) (lv' := [(4, .int (iI (pq + 1))), (9, .int (iI aq)), (3, .int (iI 1)), (7, .long (lI (byZ T v (dgN T v) pq))), (6, .int (iI eb)), (5, .int (iI (LCz T v (dgN T v) pq))), (0, .ref qa), (1, .int (iI v)), (2, .int (iI xx))]) hx hb dL_isTold_391 hl (k := 5) rfl (iI_add _ _) (by decide) rfl (fun ls hl => ?_)
                            refine lv_goto (tgt := 5) hx hb dL_isTold_394 (by decide) ?_
                            refine W.widen (k := ((cp2_313 - cp) + (2 + (300 * Int.toNat (pq + 1))))) (n := ((12 * (cp2_313 - cp)) + (6 * (2 + (300 * Int.toNat (pq + 1)))))) (by omega) (by omega) ?_
                            exact ih_1 ((pq + 1), cp2_313, tl2_314) ⟨(show 0 ≤ (pq + 1) ∧ (pq + 1) ≤ T 0 0 0 0 from (by omega)), (show PS dI k T K qa cp2_313 tl2_314 from hPS), (show cp ≤ cp2_313 ∧ cp2_313 ≤ 131072 from (by omega))⟩ (by first | omega | (dsimp only; omega)) _ _ _ (lv_sub hl [0, 2, 6, 7, 8] rfl) (bd_to rfl B)
                          · have zc_323 : aq < (T 3 pq 0 0) := jnle (a := (T 3 pq 0 0)) (b := aq) (by omega) (by omega) c_323
                            refine lv_iload_n hx hb dL_isTold_282 rfl (lv_at hl 1 rfl) ?_
                            refine lv_if_eq (tgt := 391) hx hb dL_isTold_283 (by decide) (fun c9 => absurd c9 (by decide)) (fun _ => ?_)
                            refine lv_aload_n hx hb dL_isTold_286 rfl (lv_at hl 6 rfl) ?_
                            refine lv_iload_n hx hb dL_isTold_287 rfl (lv_at hl 7 rfl) ?_
                            refine lv_iload hx hb dL_isTold_288 (lv_at hl 5 rfl) ?_
                            refine lv_iload hx hb dL_isTold_290 (lv_at hl 0 rfl) ?_
                            have hwh := hTo.2.1 pq aq (by omega) (by omega) (by omega) (by omega)
                            have B := bd_swap (a := []) (b := []) (d := tl2_314) (bd_to rfl B)
                            refine k_W (rest := []) (wc := ([] ++ tl2_314)) (wr := []) (w_whereIs l dC dI k hl0 T K qa cp2_313 tl2_314 v pq aq z_315 hQ (by omega) (by omega) (by omega)) B mW_L_whereIs mw_1791 hl ⟨Nat.le_of_ble_eq_true rfl, Nat.le_of_ble_eq_true rfl⟩ (Nat.le_of_ble_eq_true rfl) rfl dL_isTold_292 ⟨by dsimp only; omega, by dsimp only; omega⟩ (fun r w gc gs H locs hp B => ?_)
                            rcases hp with ⟨cp2_324, tl2_325, z_326, z_327, z_328, rfl, hw9, rfl, rfl⟩ | ⟨cp2_329, tl2_330, z_331, z_332, z_333, rfl, hw9, rfl, rfl⟩
                            · skip
                              rw [hw9] at B; clear hw9
                              have B := bd_to (ws' := ([] ++ tl2_325)) rfl B
                              have hPS : PS dI k T K qa cp2_324 tl2_325 := z_326
                              refine W.widen (k := ((cp2_324 - cp) + (2 + (300 * Int.toNat pq) + 152 + (4 * Int.toNat aq) + 2))) (n := ((12 * (cp2_324 - cp)) + (6 * (2 + (300 * Int.toNat pq) + 152 + (4 * Int.toNat aq) + 2)))) (by omega) (by omega) ?_
                              refine lv_istore (lv' := [(10, .int (iI (whZ T v pq aq))), (9, .int (iI aq)), (3, .int (iI 1)), (7, .long (lI (byZ T v (dgN T v) pq))), (6, .int (iI eb)), (5, .int (iI (LCz T v (dgN T v) pq))), (4, .int (iI pq)), (0, .ref qa), (1, .int (iI v)), (2, .int (iI xx))]) hx hb dL_isTold_295 hl (by decide) rfl (fun ls hl => ?_)
                              refine lv_iload hx hb dL_isTold_297 (lv_at hl 0 rfl) ?_
                              refine lv_if_ge (tgt := 306) hx hb dL_isTold_299 (by decide) (fun c_334 => ?_) (fun c_334 => ?_)
                              · have zc_334 : 0 ≤ (whZ T v pq aq) := jle (a := 0) (b := (whZ T v pq aq)) (by omega) (by omega) c_334
                                refine lv_aload_n hx hb dL_isTold_306 rfl (lv_at hl 7 rfl) ?_
                                refine lv_iload_n hx hb dL_isTold_307 rfl (lv_at hl 8 rfl) ?_
                                refine lv_iload hx hb dL_isTold_308 (lv_at hl 0 rfl) ?_
                                refine lv_sipush (v := iI 1000) hx hb dL_isTold_310 (by decide) ?_
                                refine y_div hx hb (a := (whZ T v pq aq)) (b := 1000) (by omega) (by omega) dL_isTold_313 ?_
                                refine lv_iload hx hb dL_isTold_314 (lv_at hl 0 rfl) ?_
                                refine lv_sipush (v := iI 1000) hx hb dL_isTold_316 (by decide) ?_
                                refine y_rem hx hb (a := (whZ T v pq aq)) (b := 1000) (by omega) (by omega) dL_isTold_319 ?_
                                have B := bd_swap (a := []) (b := []) (d := tl2_325) (bd_to rfl B)
                                refine k_W (rest := []) (wc := ([] ++ tl2_325)) (wr := []) (w_textAt l dC dI k hl0 T K qa cp2_324 tl2_325 v ((whZ T v pq aq) / 1000) ((whZ T v pq aq) % 1000) z_326 hQ (by omega) (by omega) (by omega)) B mW_L_textAt mw_1784 hl ⟨Nat.le_of_ble_eq_true rfl, Nat.le_of_ble_eq_true rfl⟩ (Nat.le_of_ble_eq_true rfl) rfl dL_isTold_320 ⟨by dsimp only; omega, by dsimp only; omega⟩ (fun r w gc gs H locs hp B => ?_)
                                rcases hp with ⟨cp2_335, tl2_336, z_337, z_338, z_339, rfl, hw9, rfl, rfl⟩ | ⟨cp2_340, tl2_341, z_342, z_343, z_344, rfl, hw9, rfl, rfl⟩
                                · skip
                                  rw [hw9] at B; clear hw9
                                  have B := bd_to (ws' := ([] ++ tl2_336)) rfl B
                                  have hPS : PS dI k T K qa cp2_335 tl2_336 := z_337
                                  refine W.widen (k := ((cp2_335 - cp) + (2 + (300 * Int.toNat pq) + 152 + (4 * Int.toNat aq) + 3))) (n := ((12 * (cp2_335 - cp)) + (6 * (2 + (300 * Int.toNat pq) + 152 + (4 * Int.toNat aq) + 3)))) (by omega) (by omega) ?_
                                  refine lv_istore (lv' := [(11, .int (iI (txZ T v ((whZ T v pq aq) / 1000) ((whZ T v pq aq) % 1000)))), (10, .int (iI (whZ T v pq aq))), (9, .int (iI aq)), (3, .int (iI 1)), (7, .long (lI (byZ T v (dgN T v) pq))), (6, .int (iI eb)), (5, .int (iI (LCz T v (dgN T v) pq))), (4, .int (iI pq)), (0, .ref qa), (1, .int (iI v)), (2, .int (iI xx))]) hx hb dL_isTold_323 hl (by decide) rfl (fun ls hl => ?_)
                                  refine lv_iload hx hb dL_isTold_325 (lv_at hl 1 rfl) ?_
                                  refine lv_if_ge (tgt := 344) hx hb dL_isTold_327 (by decide) (fun c_345 => ?_) (fun c_345 => ?_)
                                  · have zc_345 : 0 ≤ (whZ T v pq aq) := jle (a := 0) (b := (whZ T v pq aq)) (by omega) (by omega) c_345
                                    refine lv_iload hx hb dL_isTold_344 (lv_at hl 0 rfl) ?_
                                    refine lv_sipush (v := iI 1000) hx hb dL_isTold_346 (by decide) ?_
                                    refine y_div hx hb (a := (txZ T v ((whZ T v pq aq) / 1000) ((whZ T v pq aq) % 1000))) (b := 1000) (by omega) (by omega) dL_isTold_349 ?_
                                    refine lv_iload hx hb dL_isTold_350 (lv_at hl 7 rfl) ?_
                                    refine lv_icmp_ne (tgt := 383) hx hb dL_isTold_352 (by decide) (fun c_346 => ?_) (fun c_346 => ?_)
                                    · have zc_346 : ((txZ T v ((whZ T v pq aq) / 1000) ((whZ T v pq aq) % 1000)) / 1000) ≠ pq := jne (a := ((txZ T v ((whZ T v pq aq) / 1000) ((whZ T v pq aq) % 1000)) / 1000)) (b := pq) (by omega) (by omega) c_346
                                      exfalso; omega
                                    · have zc_346 : ((txZ T v ((whZ T v pq aq) / 1000) ((whZ T v pq aq) % 1000)) / 1000) = pq := jeq (a := ((txZ T v ((whZ T v pq aq) / 1000) ((whZ T v pq aq) % 1000)) / 1000)) (b := pq) (by omega) (by omega) c_346
                                      refine lv_iload hx hb dL_isTold_355 (lv_at hl 1 rfl) ?_
                                      refine lv_sipush (v := iI 1000) hx hb dL_isTold_357 (by decide) ?_
                                      refine y_div hx hb (a := (whZ T v pq aq)) (b := 1000) (by omega) (by omega) dL_isTold_360 ?_
                                      refine lv_iconst (v := iI 1) hx hb dL_isTold_361 (by decide) ?_
                                      refine lv_icmp_lt (tgt := 383) hx hb dL_isTold_362 (by decide) (fun c_347 => ?_) (fun c_347 => ?_)
                                      · have zc_347 : ((whZ T v pq aq) / 1000) < 1 := jlt (a := ((whZ T v pq aq) / 1000)) (b := 1) (by omega) (by omega) c_347
                                        exfalso; omega
                                      · have zc_347 : 1 ≤ ((whZ T v pq aq) / 1000) := jnlt (a := ((whZ T v pq aq) / 1000)) (b := 1) (by omega) (by omega) c_347
                                        refine lv_iload hx hb dL_isTold_365 (lv_at hl 1 rfl) ?_
                                        refine lv_sipush (v := iI 1000) hx hb dL_isTold_367 (by decide) ?_
                                        refine y_div hx hb (a := (whZ T v pq aq)) (b := 1000) (by omega) (by omega) dL_isTold_370 ?_
                                        refine lv_aload_n hx hb dL_isTold_371 rfl (lv_at hl 8 rfl) ?_
                                        refine lv_iload_n hx hb dL_isTold_372 rfl (lv_at hl 9 rfl) ?_
                                        have B := bd_swap (a := []) (b := []) (d := tl2_336) (bd_to rfl B)
                                        refine k_W (rest := [.int (iI ((whZ T v pq aq) / 1000))]) (wc := ([] ++ tl2_336)) (wr := []) (w_pages l dC dI k hl0 T K qa cp2_335 tl2_336 v z_337 hQ (by omega)) B mW_L_pages mw_1721 hl ⟨Nat.le_of_ble_eq_true rfl, Nat.le_of_ble_eq_true rfl⟩ (Nat.le_of_ble_eq_true rfl) rfl dL_isTold_373 ⟨by dsimp only; omega, by dsimp only; omega⟩ (fun r w gc gs H locs hp B => ?_)
                                        rcases hp with ⟨cp2_348, tl2_349, z_350, z_351, z_352, rfl, hw9, rfl, rfl⟩ | ⟨cp2_353, tl2_354, z_355, z_356, z_357, rfl, hw9, rfl, rfl⟩
                                        · skip
                                          rw [hw9] at B; clear hw9
                                          have B := bd_to (ws' := ([] ++ tl2_349)) rfl B
                                          have hPS : PS dI k T K qa cp2_348 tl2_349 := z_350
                                          refine W.widen (k := ((cp2_348 - cp) + (2 + (300 * Int.toNat pq) + 152 + (4 * Int.toNat aq) + 4))) (n := ((12 * (cp2_348 - cp)) + (6 * (2 + (300 * Int.toNat pq) + 152 + (4 * Int.toNat aq) + 4)))) (by omega) (by omega) ?_
                                          refine lv_icmp_gt (tgt := 383) hx hb dL_isTold_376 (by decide) (fun c_358 => ?_) (fun c_358 => ?_)
                                          · have zc_358 : ((mkZ T (moC T v (dgN T v))) 0 0) < ((whZ T v pq aq) / 1000) := jlt (a := ((mkZ T (moC T v (dgN T v))) 0 0)) (b := ((whZ T v pq aq) / 1000)) (by omega) (by omega) c_358
                                            exfalso; omega
                                          · have zc_358 : ((whZ T v pq aq) / 1000) ≤ ((mkZ T (moC T v (dgN T v))) 0 0) := jnlt (a := ((mkZ T (moC T v (dgN T v))) 0 0)) (b := ((whZ T v pq aq) / 1000)) (by omega) (by omega) c_358
                                            refine lv_iconst (v := iI 1) hx hb dL_isTold_379 (by decide) ?_
                                            refine lv_goto (tgt := 384) hx hb dL_isTold_380 (by decide) ?_
                                            refine lv_istore_n (lv' := [(3, .int (iI 1)), (11, .int (iI (txZ T v ((whZ T v pq aq) / 1000) ((whZ T v pq aq) % 1000)))), (10, .int (iI (whZ T v pq aq))), (9, .int (iI aq)), (7, .long (lI (byZ T v (dgN T v) pq))), (6, .int (iI eb)), (5, .int (iI (LCz T v (dgN T v) pq))), (4, .int (iI pq)), (0, .ref qa), (1, .int (iI v)), (2, .int (iI xx))]) hx hb dL_isTold_384 rfl hl (by decide) rfl (fun ls hl => ?_)
                                            refine lv_iinc (v := iI (aq + 1)) (lv' := [(9, .int (iI (aq + 1))), (3, .int (iI 1)), (11, .int (iI (txZ T v ((whZ T v pq aq) / 1000) ((whZ T v pq aq) % 1000)))), (10, .int (iI (whZ T v pq aq))), (7, .long (lI (byZ T v (dgN T v) pq))), (6, .int (iI eb)), (5, .int (iI (LCz T v (dgN T v) pq))), (4, .int (iI pq)), (0, .ref qa), (1, .int (iI v)), (2, .int (iI xx))]) hx hb dL_isTold_385 hl (k := 3) rfl (iI_add _ _) (by decide) rfl (fun ls hl => ?_)
                                            refine lv_goto (tgt := 271) hx hb dL_isTold_388 (by decide) ?_
                                            refine W.widen (k := ((cp2_348 - cp) + (2 + (300 * Int.toNat pq) + 152 + (4 * Int.toNat (aq + 1))))) (n := ((12 * (cp2_348 - cp)) + (6 * (2 + (300 * Int.toNat pq) + 152 + (4 * Int.toNat (aq + 1)))))) (by omega) (by omega) ?_
                                            exact ih_311 ((aq + 1), cp2_348, tl2_349) ⟨(show 0 ≤ (aq + 1) ∧ (aq + 1) ≤ T 3 pq 0 0 from (by omega)), (show PS dI k T K qa cp2_348 tl2_349 from hPS), (show cp ≤ cp2_348 ∧ cp2_348 ≤ 131072 from (by omega))⟩ (by first | omega | (dsimp only; omega)) _ _ _ (lv_sub hl [0, 1, 4, 5, 6, 7, 8, 9, 10] rfl) (bd_to rfl B)
                                        · skip
                                          rw [hw9] at B; clear hw9
                                          have B := bd_to (ws' := ([] ++ tl2_354)) rfl B
                                          have hPS : PS dI k T K qa cp2_353 tl2_354 := z_355
                                          exfalso; omega
                                  · have zc_345 : (whZ T v pq aq) < 0 := jnle (a := 0) (b := (whZ T v pq aq)) (by omega) (by omega) c_345
                                    exfalso; omega
                                · skip
                                  rw [hw9] at B; clear hw9
                                  have B := bd_to (ws' := ([] ++ tl2_341)) rfl B
                                  have hPS : PS dI k T K qa cp2_340 tl2_341 := z_342
                                  exfalso; omega
                              · have zc_334 : (whZ T v pq aq) < 0 := jnle (a := 0) (b := (whZ T v pq aq)) (by omega) (by omega) c_334
                                refine lv_iconst (v := iI 0) hx hb dL_isTold_302 (by decide) ?_
                                refine lv_goto (tgt := 323) hx hb dL_isTold_303 (by decide) ?_
                                refine lv_istore (lv' := [(11, .int (iI 0)), (10, .int (iI (whZ T v pq aq))), (9, .int (iI aq)), (3, .int (iI 1)), (7, .long (lI (byZ T v (dgN T v) pq))), (6, .int (iI eb)), (5, .int (iI (LCz T v (dgN T v) pq))), (4, .int (iI pq)), (0, .ref qa), (1, .int (iI v)), (2, .int (iI xx))]) hx hb dL_isTold_323 hl (by decide) rfl (fun ls hl => ?_)
                                refine lv_iload hx hb dL_isTold_325 (lv_at hl 1 rfl) ?_
                                refine lv_if_ge (tgt := 344) hx hb dL_isTold_327 (by decide) (fun c_359 => ?_) (fun c_359 => ?_)
                                · have zc_359 : 0 ≤ (whZ T v pq aq) := jle (a := 0) (b := (whZ T v pq aq)) (by omega) (by omega) c_359
                                  exfalso; omega
                                · have zc_359 : (whZ T v pq aq) < 0 := jnle (a := 0) (b := (whZ T v pq aq)) (by omega) (by omega) c_359
                                  refine lv_iload hx hb dL_isTold_330 (lv_at hl 1 rfl) ?_
                                  refine lv_iconst (v := iI (-1)) hx hb dL_isTold_332 (by decide) ?_
                                  refine lv_icmp_ne (tgt := 340) hx hb dL_isTold_333 (by decide) (fun c_360 => ?_) (fun c_360 => ?_)
                                  · have zc_360 : (whZ T v pq aq) ≠ (-1) := jne (a := (whZ T v pq aq)) (b := (-1)) (by omega) (by omega) c_360
                                    exfalso; omega
                                  · have zc_360 : (whZ T v pq aq) = (-1) := jeq (a := (whZ T v pq aq)) (b := (-1)) (by omega) (by omega) c_360
                                    refine lv_iconst (v := iI 1) hx hb dL_isTold_336 (by decide) ?_
                                    refine lv_goto (tgt := 384) hx hb dL_isTold_337 (by decide) ?_
                                    refine lv_istore_n (lv' := [(3, .int (iI 1)), (11, .int (iI 0)), (10, .int (iI (whZ T v pq aq))), (9, .int (iI aq)), (7, .long (lI (byZ T v (dgN T v) pq))), (6, .int (iI eb)), (5, .int (iI (LCz T v (dgN T v) pq))), (4, .int (iI pq)), (0, .ref qa), (1, .int (iI v)), (2, .int (iI xx))]) hx hb dL_isTold_384 rfl hl (by decide) rfl (fun ls hl => ?_)
                                    refine lv_iinc (v := iI (aq + 1)) (lv' := [(9, .int (iI (aq + 1))), (3, .int (iI 1)), (11, .int (iI 0)), (10, .int (iI (whZ T v pq aq))), (7, .long (lI (byZ T v (dgN T v) pq))), (6, .int (iI eb)), (5, .int (iI (LCz T v (dgN T v) pq))), (4, .int (iI pq)), (0, .ref qa), (1, .int (iI v)), (2, .int (iI xx))]) hx hb dL_isTold_385 hl (k := 3) rfl (iI_add _ _) (by decide) rfl (fun ls hl => ?_)
                                    refine lv_goto (tgt := 271) hx hb dL_isTold_388 (by decide) ?_
                                    refine W.widen (k := ((cp2_324 - cp) + (2 + (300 * Int.toNat pq) + 152 + (4 * Int.toNat (aq + 1))))) (n := ((12 * (cp2_324 - cp)) + (6 * (2 + (300 * Int.toNat pq) + 152 + (4 * Int.toNat (aq + 1)))))) (by omega) (by omega) ?_
                                    exact ih_311 ((aq + 1), cp2_324, tl2_325) ⟨(show 0 ≤ (aq + 1) ∧ (aq + 1) ≤ T 3 pq 0 0 from (by omega)), (show PS dI k T K qa cp2_324 tl2_325 from hPS), (show cp ≤ cp2_324 ∧ cp2_324 ≤ 131072 from (by omega))⟩ (by first | omega | (dsimp only; omega)) _ _ _ (lv_sub hl [0, 1, 4, 5, 6, 7, 8, 9, 10] rfl) (bd_to rfl B)
                            · skip
                              rw [hw9] at B; clear hw9
                              have B := bd_to (ws' := ([] ++ tl2_330)) rfl B
                              have hPS : PS dI k T K qa cp2_329 tl2_330 := z_331
                              exfalso; omega
                        · skip
                          rw [hw9] at B; clear hw9
                          have B := bd_to (ws' := ([] ++ tl2_319)) rfl B
                          have hPS : PS dI k T K qa cp2_318 tl2_319 := z_320
                          exfalso; omega
                    · skip
                      rw [hw9] at B; clear hw9
                      have B := bd_to (ws' := ([] ++ tl2_305)) rfl B
                      have hPS : PS dI k T K qa cp2_304 tl2_305 := z_306
                      exfalso; omega
                  · have zc_298 : (LCz T v (dgN T v) pq) = 0 := jeq (a := (LCz T v (dgN T v) pq)) (b := 0) (by omega) (by omega) c_298
                    exfalso; omega
                · refine lv_seti (y := iI 1) (congrArg iI (show cmpZ (byZ T v (dgN T v) pq) (LDz T v (dgN T v) pq) = 1 from (if_neg (by omega)).trans (if_neg (by omega)))) ?_
                  refine lv_if_eq (tgt := 232) hx hb dL_isTold_215 (by decide) (fun c9 => absurd c9 (by decide)) (fun _ => ?_)
                  refine lv_lload hx hb dL_isTold_218 (lv_at hl 0 rfl) ?_
                  refine lv_ldc2 (v := (-1)) hx hb B.1.2.2.2.1 (B.1.2.2.2.2.1 _ mw_1883) dL_isTold_220 ?_
                  refine lv_setl (y := lI (-1)) (by decide) ?_
                  refine y_lcmp B (a := (byZ T v (dgN T v) pq)) (b := (-1)) (by omega) (by omega) dL_isTold_223 ?_
                  rcases (show (byZ T v (dgN T v) pq) < (-1) ∨ (byZ T v (dgN T v) pq) = (-1) ∨ (-1) < (byZ T v (dgN T v) pq) by omega) with zc_361 | zc_361 | zc_361
                  · refine lv_seti (y := iI (-1)) (congrArg iI (show cmpZ (byZ T v (dgN T v) pq) (-1) = (-1) from if_pos zc_361)) ?_
                    exfalso; omega
                  · refine lv_seti (y := iI 0) (congrArg iI (show cmpZ (byZ T v (dgN T v) pq) (-1) = 0 from (if_neg (by omega)).trans (if_pos zc_361))) ?_
                    refine lv_if_ne (tgt := 266) hx hb dL_isTold_224 (by decide) (fun c9 => absurd c9 (by decide)) (fun _ => ?_)
                    refine lv_iload hx hb dL_isTold_227 (lv_at hl 2 rfl) ?_
                    refine lv_if_le (tgt := 266) hx hb dL_isTold_229 (by decide) (fun c_362 => ?_) (fun c_362 => ?_)
                    · have zc_362 : (LCz T v (dgN T v) pq) ≤ 0 := jle (a := (LCz T v (dgN T v) pq)) (b := 0) (by omega) (by omega) c_362
                      exfalso; omega
                    · have zc_362 : 0 < (LCz T v (dgN T v) pq) := jnle (a := (LCz T v (dgN T v) pq)) (b := 0) (by omega) (by omega) c_362
                      refine lv_iload hx hb dL_isTold_232 (lv_at hl 2 rfl) ?_
                      refine lv_if_ne (tgt := 241) hx hb dL_isTold_234 (by decide) (fun c_363 => ?_) (fun c_363 => ?_)
                      · have zc_363 : (LCz T v (dgN T v) pq) ≠ 0 := jne (a := (LCz T v (dgN T v) pq)) (b := 0) (by omega) (by omega) c_363
                        refine lv_iconst (v := iI 0) hx hb dL_isTold_241 (by decide) ?_
                        refine lv_aload_n hx hb dL_isTold_242 rfl (lv_at hl 5 rfl) ?_
                        refine lv_iload_n hx hb dL_isTold_243 rfl (lv_at hl 6 rfl) ?_
                        refine lv_iload hx hb dL_isTold_244 (lv_at hl 3 rfl) ?_
                        have B := bd_swap (a := []) (b := []) (d := tl2_223) (bd_to rfl B)
                        refine k_W (rest := [.int (iI 0)]) (wc := ([] ++ tl2_223)) (wr := []) (w_demerits l dC dI k hl0 T K qa cp2_222 tl2_223 v pq z_224 hQ (by omega) (by omega)) B mW_L_demerits mw_1694 hl ⟨Nat.le_of_ble_eq_true rfl, Nat.le_of_ble_eq_true rfl⟩ (Nat.le_of_ble_eq_true rfl) rfl dL_isTold_246 ⟨by dsimp only; omega, by dsimp only; omega⟩ (fun r w gc gs H locs hp B => ?_)
                        rcases hp with ⟨cp2_364, tl2_365, z_366, z_367, z_368, rfl, hw9, rfl, rfl⟩ | ⟨cp2_369, tl2_370, z_371, z_372, z_373, rfl, hw9, rfl, rfl⟩
                        · skip
                          rw [hw9] at B; clear hw9
                          have B := bd_to (ws' := ([] ++ tl2_365)) rfl B
                          have hPS : PS dI k T K qa cp2_364 tl2_365 := z_366
                          refine W.widen (k := ((cp2_364 - cp) + (2 + (300 * Int.toNat pq) + 148 + 3))) (n := ((12 * (cp2_364 - cp)) + (6 * (2 + (300 * Int.toNat pq) + 148 + 3)))) (by omega) (by omega) ?_
                          refine lv_lconst (v := lI 0) hx hb dL_isTold_249 (by decide) ?_
                          refine y_lcmp B (a := (LDz T v (dgN T v) pq)) (b := 0) (by omega) (by omega) dL_isTold_250 ?_
                          rcases (show (LDz T v (dgN T v) pq) < 0 ∨ (LDz T v (dgN T v) pq) = 0 ∨ 0 < (LDz T v (dgN T v) pq) by omega) with zc_374 | zc_374 | zc_374
                          · refine lv_seti (y := iI (-1)) (congrArg iI (show cmpZ (LDz T v (dgN T v) pq) 0 = (-1) from if_pos zc_374)) ?_
                            exfalso; omega
                          · refine lv_seti (y := iI 0) (congrArg iI (show cmpZ (LDz T v (dgN T v) pq) 0 = 0 from (if_neg (by omega)).trans (if_pos zc_374))) ?_
                            refine lv_if_ne (tgt := 258) hx hb dL_isTold_251 (by decide) (fun c9 => absurd c9 (by decide)) (fun _ => ?_)
                            refine lv_iconst (v := iI 1) hx hb dL_isTold_254 (by decide) ?_
                            refine lv_goto (tgt := 259) hx hb dL_isTold_255 (by decide) ?_
                            exfalso; omega
                          · refine lv_seti (y := iI 1) (congrArg iI (show cmpZ (LDz T v (dgN T v) pq) 0 = 1 from (if_neg (by omega)).trans (if_neg (by omega)))) ?_
                            refine lv_if_ne (tgt := 258) hx hb dL_isTold_251 (by decide) (fun _ => ?_) (fun c9 => absurd c9 (by decide))
                            refine lv_iconst (v := iI 0) hx hb dL_isTold_258 (by decide) ?_
                            refine lv_icmp_ne (tgt := 266) hx hb dL_isTold_259 (by decide) (fun c9 => absurd c9 (by decide)) (fun _ => ?_)
                            refine lv_iconst (v := iI 1) hx hb dL_isTold_262 (by decide) ?_
                            refine lv_goto (tgt := 267) hx hb dL_isTold_263 (by decide) ?_
                            refine lv_istore_n (lv' := [(3, .int (iI 1)), (7, .long (lI (byZ T v (dgN T v) pq))), (6, .int (iI eb)), (5, .int (iI (LCz T v (dgN T v) pq))), (4, .int (iI pq)), (0, .ref qa), (1, .int (iI v)), (2, .int (iI xx))]) hx hb dL_isTold_267 rfl hl (by decide) rfl (fun ls hl => ?_)
                            have z_375 : 0 ≤ T 3 pq 0 0 ∧ T 3 pq 0 0 ≤ 12 := TK_nw hQ.1 _
                            refine lv_iconst (v := iI 0) hx hb dL_isTold_268 (by decide) ?_
                            refine lv_istore (lv' := [(9, .int (iI 0)), (3, .int (iI 1)), (7, .long (lI (byZ T v (dgN T v) pq))), (6, .int (iI eb)), (5, .int (iI (LCz T v (dgN T v) pq))), (4, .int (iI pq)), (0, .ref qa), (1, .int (iI v)), (2, .int (iI xx))]) hx hb dL_isTold_269 hl (by decide) rfl (fun ls hl => ?_)
                            refine W.widen (k := ((cp2_364 - cp) + (2 + (300 * Int.toNat pq) + 152 + (4 * Int.toNat 0)))) (n := ((12 * (cp2_364 - cp)) + (6 * (2 + (300 * Int.toNat pq) + 152 + (4 * Int.toNat 0))))) (by omega) (by omega) ?_
                            refine k_loopG (σ := Int × Nat × va_W) B (fun g9 : Int × Nat × va_W => (0 ≤ g9.1 ∧ g9.1 ≤ T 3 pq 0 0) ∧ (PS dI k T K qa g9.2.1 g9.2.2) ∧ (cp ≤ g9.2.1 ∧ g9.2.1 ≤ 131072)) (fun g9 : Int × Nat × va_W => (T 3 pq 0 0 - g9.1).toNat) (fun g9 : Int × Nat × va_W => [(9, .int (iI g9.1)), (3, .int (iI 1)), (7, .long (lI (byZ T v (dgN T v) pq))), (6, .int (iI eb)), (5, .int (iI (LCz T v (dgN T v) pq))), (4, .int (iI pq)), (0, .ref qa), (1, .int (iI v)), (2, .int (iI xx))]) (fun g9 : Int × Nat × va_W => ([] ++ g9.2.2)) (fun g9 : Int × Nat × va_W => ((g9.2.1 - cp) + (2 + (300 * Int.toNat pq) + 152 + (4 * Int.toNat g9.1)))) (fun g9 : Int × Nat × va_W => ((12 * (g9.2.1 - cp)) + (6 * (2 + (300 * Int.toNat pq) + 152 + (4 * Int.toNat g9.1))))) ?_ (0, cp2_364, tl2_365) ⟨(show 0 ≤ 0 ∧ 0 ≤ T 3 pq 0 0 from (by omega)), (show PS dI k T K qa cp2_364 tl2_365 from hPS), (show cp ≤ cp2_364 ∧ cp2_364 ≤ 131072 from (by omega))⟩ ls H locs (lv_sub hl [0, 1, 2, 3, 4, 5, 6, 7, 8] rfl) (bd_to rfl B)
                            clear hl B
                            rintro ⟨aq, cp6, tl6⟩ ⟨hk3, hPS, hc6⟩ ih_376 ls H locs hl B
                            have hk3 : 0 ≤ aq ∧ aq ≤ T 3 pq 0 0 := hk3
                            have hPS : PS dI k T K qa cp6 tl6 := hPS
                            have hc6 : cp ≤ cp6 ∧ cp6 ≤ 131072 := hc6
                            show W p l e _ s m args below meth c H locs ((cp6 - cp) + (2 + (300 * Int.toNat pq) + 152 + (4 * Int.toNat aq))) ((12 * (cp6 - cp)) + (6 * (2 + (300 * Int.toNat pq) + 152 + (4 * Int.toNat aq)))) _ _
                            have hl : lv_has ls 12 [(9, .int (iI aq)), (3, .int (iI 1)), (7, .long (lI (byZ T v (dgN T v) pq))), (6, .int (iI eb)), (5, .int (iI (LCz T v (dgN T v) pq))), (4, .int (iI pq)), (0, .ref qa), (1, .int (iI v)), (2, .int (iI xx))] := hl
                            have B := bd_to (ws' := ([] ++ tl6)) rfl B
                            have hnw : 0 ≤ T 3 pq 0 0 ∧ T 3 pq 0 0 ≤ 12 := TK_nw hQ.1 _
                            refine lv_iload hx hb dL_isTold_271 (lv_at hl 0 rfl) ?_
                            refine lv_aload_n hx hb dL_isTold_273 rfl (lv_at hl 6 rfl) ?_
                            refine lv_iload hx hb dL_isTold_274 (lv_at hl 5 rfl) ?_
                            have z_377 : 0 ≤ T 3 pq 0 0 ∧ T 3 pq 0 0 ≤ 12 := TK_nw hQ.1 _
                            have B := bd_swap (a := []) (b := []) (d := tl6) (bd_to rfl B)
                            refine k_W (rest := [.int (iI aq)]) (wc := ([] ++ tl6)) (wr := []) (w_count l dC dI k hl0 T K qa cp6 tl6 pq hPS hQ (by omega)) B mW_L_count mw_1266 hl ⟨Nat.le_of_ble_eq_true rfl, Nat.le_of_ble_eq_true rfl⟩ (Nat.le_of_ble_eq_true rfl) rfl dL_isTold_276 ⟨by dsimp only; omega, by dsimp only; omega⟩ (fun r w gc gs H locs hp B => ?_)
                            rcases hp with ⟨cp2_378, tl2_379, z_380, z_381, z_382, rfl, hw9, rfl, rfl⟩ | ⟨cp2_383, tl2_384, z_385, z_386, z_387, rfl, hw9, rfl, rfl⟩
                            · skip
                              rw [hw9] at B; clear hw9
                              have B := bd_to (ws' := ([] ++ tl2_379)) rfl B
                              have hPS : PS dI k T K qa cp2_378 tl2_379 := z_380
                              refine W.widen (k := ((cp2_378 - cp) + (2 + (300 * Int.toNat pq) + 152 + (4 * Int.toNat aq) + 1))) (n := ((12 * (cp2_378 - cp)) + (6 * (2 + (300 * Int.toNat pq) + 152 + (4 * Int.toNat aq) + 1)))) (by omega) (by omega) ?_
                              refine lv_icmp_ge (tgt := 391) hx hb dL_isTold_279 (by decide) (fun c_388 => ?_) (fun c_388 => ?_)
                              · have zc_388 : (T 3 pq 0 0) ≤ aq := jle (a := (T 3 pq 0 0)) (b := aq) (by omega) (by omega) c_388
                                refine lv_iinc (v := iI (pq + 1)) (lv' := [(4, .int (iI (pq + 1))), (9, .int (iI aq)), (3, .int (iI 1)), (7, .long (lI (byZ T v (dgN T v) pq))), (6, .int (iI eb)), (5, .int (iI (LCz T v (dgN T v) pq))), (0, .ref qa), (1, .int (iI v)), (2, .int (iI xx))]) hx hb dL_isTold_391 hl (k := 5) rfl (iI_add _ _) (by decide) rfl (fun ls hl => ?_)
                                refine lv_goto (tgt := 5) hx hb dL_isTold_394 (by decide) ?_
                                refine W.widen (k := ((cp2_378 - cp) + (2 + (300 * Int.toNat (pq + 1))))) (n := ((12 * (cp2_378 - cp)) + (6 * (2 + (300 * Int.toNat (pq + 1)))))) (by omega) (by omega) ?_
                                exact ih_1 ((pq + 1), cp2_378, tl2_379) ⟨(show 0 ≤ (pq + 1) ∧ (pq + 1) ≤ T 0 0 0 0 from (by omega)), (show PS dI k T K qa cp2_378 tl2_379 from hPS), (show cp ≤ cp2_378 ∧ cp2_378 ≤ 131072 from (by omega))⟩ (by first | omega | (dsimp only; omega)) _ _ _ (lv_sub hl [0, 2, 6, 7, 8] rfl) (bd_to rfl B)
                              · have zc_388 : aq < (T 3 pq 0 0) := jnle (a := (T 3 pq 0 0)) (b := aq) (by omega) (by omega) c_388
                                refine lv_iload_n hx hb dL_isTold_282 rfl (lv_at hl 1 rfl) ?_
                                refine lv_if_eq (tgt := 391) hx hb dL_isTold_283 (by decide) (fun c9 => absurd c9 (by decide)) (fun _ => ?_)
                                refine lv_aload_n hx hb dL_isTold_286 rfl (lv_at hl 6 rfl) ?_
                                refine lv_iload_n hx hb dL_isTold_287 rfl (lv_at hl 7 rfl) ?_
                                refine lv_iload hx hb dL_isTold_288 (lv_at hl 5 rfl) ?_
                                refine lv_iload hx hb dL_isTold_290 (lv_at hl 0 rfl) ?_
                                have hwh := hTo.2.1 pq aq (by omega) (by omega) (by omega) (by omega)
                                have B := bd_swap (a := []) (b := []) (d := tl2_379) (bd_to rfl B)
                                refine k_W (rest := []) (wc := ([] ++ tl2_379)) (wr := []) (w_whereIs l dC dI k hl0 T K qa cp2_378 tl2_379 v pq aq z_380 hQ (by omega) (by omega) (by omega)) B mW_L_whereIs mw_1791 hl ⟨Nat.le_of_ble_eq_true rfl, Nat.le_of_ble_eq_true rfl⟩ (Nat.le_of_ble_eq_true rfl) rfl dL_isTold_292 ⟨by dsimp only; omega, by dsimp only; omega⟩ (fun r w gc gs H locs hp B => ?_)
                                rcases hp with ⟨cp2_389, tl2_390, z_391, z_392, z_393, rfl, hw9, rfl, rfl⟩ | ⟨cp2_394, tl2_395, z_396, z_397, z_398, rfl, hw9, rfl, rfl⟩
                                · skip
                                  rw [hw9] at B; clear hw9
                                  have B := bd_to (ws' := ([] ++ tl2_390)) rfl B
                                  have hPS : PS dI k T K qa cp2_389 tl2_390 := z_391
                                  refine W.widen (k := ((cp2_389 - cp) + (2 + (300 * Int.toNat pq) + 152 + (4 * Int.toNat aq) + 2))) (n := ((12 * (cp2_389 - cp)) + (6 * (2 + (300 * Int.toNat pq) + 152 + (4 * Int.toNat aq) + 2)))) (by omega) (by omega) ?_
                                  refine lv_istore (lv' := [(10, .int (iI (whZ T v pq aq))), (9, .int (iI aq)), (3, .int (iI 1)), (7, .long (lI (byZ T v (dgN T v) pq))), (6, .int (iI eb)), (5, .int (iI (LCz T v (dgN T v) pq))), (4, .int (iI pq)), (0, .ref qa), (1, .int (iI v)), (2, .int (iI xx))]) hx hb dL_isTold_295 hl (by decide) rfl (fun ls hl => ?_)
                                  refine lv_iload hx hb dL_isTold_297 (lv_at hl 0 rfl) ?_
                                  refine lv_if_ge (tgt := 306) hx hb dL_isTold_299 (by decide) (fun c_399 => ?_) (fun c_399 => ?_)
                                  · have zc_399 : 0 ≤ (whZ T v pq aq) := jle (a := 0) (b := (whZ T v pq aq)) (by omega) (by omega) c_399
                                    refine lv_aload_n hx hb dL_isTold_306 rfl (lv_at hl 7 rfl) ?_
                                    refine lv_iload_n hx hb dL_isTold_307 rfl (lv_at hl 8 rfl) ?_
                                    refine lv_iload hx hb dL_isTold_308 (lv_at hl 0 rfl) ?_
                                    refine lv_sipush (v := iI 1000) hx hb dL_isTold_310 (by decide) ?_
                                    refine y_div hx hb (a := (whZ T v pq aq)) (b := 1000) (by omega) (by omega) dL_isTold_313 ?_
                                    refine lv_iload hx hb dL_isTold_314 (lv_at hl 0 rfl) ?_
                                    refine lv_sipush (v := iI 1000) hx hb dL_isTold_316 (by decide) ?_
                                    refine y_rem hx hb (a := (whZ T v pq aq)) (b := 1000) (by omega) (by omega) dL_isTold_319 ?_
                                    have B := bd_swap (a := []) (b := []) (d := tl2_390) (bd_to rfl B)
                                    refine k_W (rest := []) (wc := ([] ++ tl2_390)) (wr := []) (w_textAt l dC dI k hl0 T K qa cp2_389 tl2_390 v ((whZ T v pq aq) / 1000) ((whZ T v pq aq) % 1000) z_391 hQ (by omega) (by omega) (by omega)) B mW_L_textAt mw_1784 hl ⟨Nat.le_of_ble_eq_true rfl, Nat.le_of_ble_eq_true rfl⟩ (Nat.le_of_ble_eq_true rfl) rfl dL_isTold_320 ⟨by dsimp only; omega, by dsimp only; omega⟩ (fun r w gc gs H locs hp B => ?_)
                                    rcases hp with ⟨cp2_400, tl2_401, z_402, z_403, z_404, rfl, hw9, rfl, rfl⟩ | ⟨cp2_405, tl2_406, z_407, z_408, z_409, rfl, hw9, rfl, rfl⟩
                                    · skip
                                      rw [hw9] at B; clear hw9
                                      have B := bd_to (ws' := ([] ++ tl2_401)) rfl B
                                      have hPS : PS dI k T K qa cp2_400 tl2_401 := z_402
                                      refine W.widen (k := ((cp2_400 - cp) + (2 + (300 * Int.toNat pq) + 152 + (4 * Int.toNat aq) + 3))) (n := ((12 * (cp2_400 - cp)) + (6 * (2 + (300 * Int.toNat pq) + 152 + (4 * Int.toNat aq) + 3)))) (by omega) (by omega) ?_
                                      refine lv_istore (lv' := [(11, .int (iI (txZ T v ((whZ T v pq aq) / 1000) ((whZ T v pq aq) % 1000)))), (10, .int (iI (whZ T v pq aq))), (9, .int (iI aq)), (3, .int (iI 1)), (7, .long (lI (byZ T v (dgN T v) pq))), (6, .int (iI eb)), (5, .int (iI (LCz T v (dgN T v) pq))), (4, .int (iI pq)), (0, .ref qa), (1, .int (iI v)), (2, .int (iI xx))]) hx hb dL_isTold_323 hl (by decide) rfl (fun ls hl => ?_)
                                      refine lv_iload hx hb dL_isTold_325 (lv_at hl 1 rfl) ?_
                                      refine lv_if_ge (tgt := 344) hx hb dL_isTold_327 (by decide) (fun c_410 => ?_) (fun c_410 => ?_)
                                      · have zc_410 : 0 ≤ (whZ T v pq aq) := jle (a := 0) (b := (whZ T v pq aq)) (by omega) (by omega) c_410
                                        refine lv_iload hx hb dL_isTold_344 (lv_at hl 0 rfl) ?_
                                        refine lv_sipush (v := iI 1000) hx hb dL_isTold_346 (by decide) ?_
                                        refine y_div hx hb (a := (txZ T v ((whZ T v pq aq) / 1000) ((whZ T v pq aq) % 1000))) (b := 1000) (by omega) (by omega) dL_isTold_349 ?_
                                        refine lv_iload hx hb dL_isTold_350 (lv_at hl 7 rfl) ?_
                                        refine lv_icmp_ne (tgt := 383) hx hb dL_isTold_352 (by decide) (fun c_411 => ?_) (fun c_411 => ?_)
                                        · have zc_411 : ((txZ T v ((whZ T v pq aq) / 1000) ((whZ T v pq aq) % 1000)) / 1000) ≠ pq := jne (a := ((txZ T v ((whZ T v pq aq) / 1000) ((whZ T v pq aq) % 1000)) / 1000)) (b := pq) (by omega) (by omega) c_411
                                          exfalso; omega
                                        · have zc_411 : ((txZ T v ((whZ T v pq aq) / 1000) ((whZ T v pq aq) % 1000)) / 1000) = pq := jeq (a := ((txZ T v ((whZ T v pq aq) / 1000) ((whZ T v pq aq) % 1000)) / 1000)) (b := pq) (by omega) (by omega) c_411
                                          refine lv_iload hx hb dL_isTold_355 (lv_at hl 1 rfl) ?_
                                          refine lv_sipush (v := iI 1000) hx hb dL_isTold_357 (by decide) ?_
                                          refine y_div hx hb (a := (whZ T v pq aq)) (b := 1000) (by omega) (by omega) dL_isTold_360 ?_
                                          refine lv_iconst (v := iI 1) hx hb dL_isTold_361 (by decide) ?_
                                          refine lv_icmp_lt (tgt := 383) hx hb dL_isTold_362 (by decide) (fun c_412 => ?_) (fun c_412 => ?_)
                                          · have zc_412 : ((whZ T v pq aq) / 1000) < 1 := jlt (a := ((whZ T v pq aq) / 1000)) (b := 1) (by omega) (by omega) c_412
                                            exfalso; omega
                                          · have zc_412 : 1 ≤ ((whZ T v pq aq) / 1000) := jnlt (a := ((whZ T v pq aq) / 1000)) (b := 1) (by omega) (by omega) c_412
                                            refine lv_iload hx hb dL_isTold_365 (lv_at hl 1 rfl) ?_
                                            refine lv_sipush (v := iI 1000) hx hb dL_isTold_367 (by decide) ?_
                                            refine y_div hx hb (a := (whZ T v pq aq)) (b := 1000) (by omega) (by omega) dL_isTold_370 ?_
                                            refine lv_aload_n hx hb dL_isTold_371 rfl (lv_at hl 8 rfl) ?_
                                            refine lv_iload_n hx hb dL_isTold_372 rfl (lv_at hl 9 rfl) ?_
                                            have B := bd_swap (a := []) (b := []) (d := tl2_401) (bd_to rfl B)
                                            refine k_W (rest := [.int (iI ((whZ T v pq aq) / 1000))]) (wc := ([] ++ tl2_401)) (wr := []) (w_pages l dC dI k hl0 T K qa cp2_400 tl2_401 v z_402 hQ (by omega)) B mW_L_pages mw_1721 hl ⟨Nat.le_of_ble_eq_true rfl, Nat.le_of_ble_eq_true rfl⟩ (Nat.le_of_ble_eq_true rfl) rfl dL_isTold_373 ⟨by dsimp only; omega, by dsimp only; omega⟩ (fun r w gc gs H locs hp B => ?_)
                                            rcases hp with ⟨cp2_413, tl2_414, z_415, z_416, z_417, rfl, hw9, rfl, rfl⟩ | ⟨cp2_418, tl2_419, z_420, z_421, z_422, rfl, hw9, rfl, rfl⟩
                                            · skip
                                              rw [hw9] at B; clear hw9
                                              have B := bd_to (ws' := ([] ++ tl2_414)) rfl B
                                              have hPS : PS dI k T K qa cp2_413 tl2_414 := z_415
                                              refine W.widen (k := ((cp2_413 - cp) + (2 + (300 * Int.toNat pq) + 152 + (4 * Int.toNat aq) + 4))) (n := ((12 * (cp2_413 - cp)) + (6 * (2 + (300 * Int.toNat pq) + 152 + (4 * Int.toNat aq) + 4)))) (by omega) (by omega) ?_
                                              refine lv_icmp_gt (tgt := 383) hx hb dL_isTold_376 (by decide) (fun c_423 => ?_) (fun c_423 => ?_)
                                              · have zc_423 : ((mkZ T (moC T v (dgN T v))) 0 0) < ((whZ T v pq aq) / 1000) := jlt (a := ((mkZ T (moC T v (dgN T v))) 0 0)) (b := ((whZ T v pq aq) / 1000)) (by omega) (by omega) c_423
                                                exfalso; omega
                                              · have zc_423 : ((whZ T v pq aq) / 1000) ≤ ((mkZ T (moC T v (dgN T v))) 0 0) := jnlt (a := ((mkZ T (moC T v (dgN T v))) 0 0)) (b := ((whZ T v pq aq) / 1000)) (by omega) (by omega) c_423
                                                refine lv_iconst (v := iI 1) hx hb dL_isTold_379 (by decide) ?_
                                                refine lv_goto (tgt := 384) hx hb dL_isTold_380 (by decide) ?_
                                                refine lv_istore_n (lv' := [(3, .int (iI 1)), (11, .int (iI (txZ T v ((whZ T v pq aq) / 1000) ((whZ T v pq aq) % 1000)))), (10, .int (iI (whZ T v pq aq))), (9, .int (iI aq)), (7, .long (lI (byZ T v (dgN T v) pq))), (6, .int (iI eb)), (5, .int (iI (LCz T v (dgN T v) pq))), (4, .int (iI pq)), (0, .ref qa), (1, .int (iI v)), (2, .int (iI xx))]) hx hb dL_isTold_384 rfl hl (by decide) rfl (fun ls hl => ?_)
                                                refine lv_iinc (v := iI (aq + 1)) (lv' := [(9, .int (iI (aq + 1))), (3, .int (iI 1)), (11, .int (iI (txZ T v ((whZ T v pq aq) / 1000) ((whZ T v pq aq) % 1000)))), (10, .int (iI (whZ T v pq aq))), (7, .long (lI (byZ T v (dgN T v) pq))), (6, .int (iI eb)), (5, .int (iI (LCz T v (dgN T v) pq))), (4, .int (iI pq)), (0, .ref qa), (1, .int (iI v)), (2, .int (iI xx))]) hx hb dL_isTold_385 hl (k := 3) rfl (iI_add _ _) (by decide) rfl (fun ls hl => ?_)
                                                refine lv_goto (tgt := 271) hx hb dL_isTold_388 (by decide) ?_
                                                refine W.widen (k := ((cp2_413 - cp) + (2 + (300 * Int.toNat pq) + 152 + (4 * Int.toNat (aq + 1))))) (n := ((12 * (cp2_413 - cp)) + (6 * (2 + (300 * Int.toNat pq) + 152 + (4 * Int.toNat (aq + 1)))))) (by omega) (by omega) ?_
                                                exact ih_376 ((aq + 1), cp2_413, tl2_414) ⟨(show 0 ≤ (aq + 1) ∧ (aq + 1) ≤ T 3 pq 0 0 from (by omega)), (show PS dI k T K qa cp2_413 tl2_414 from hPS), (show cp ≤ cp2_413 ∧ cp2_413 ≤ 131072 from (by omega))⟩ (by first | omega | (dsimp only; omega)) _ _ _ (lv_sub hl [0, 1, 4, 5, 6, 7, 8, 9, 10] rfl) (bd_to rfl B)
                                            · skip
                                              rw [hw9] at B; clear hw9
                                              have B := bd_to (ws' := ([] ++ tl2_419)) rfl B
                                              have hPS : PS dI k T K qa cp2_418 tl2_419 := z_420
                                              exfalso; omega
                                      · have zc_410 : (whZ T v pq aq) < 0 := jnle (a := 0) (b := (whZ T v pq aq)) (by omega) (by omega) c_410
                                        exfalso; omega
                                    · skip
                                      rw [hw9] at B; clear hw9
                                      have B := bd_to (ws' := ([] ++ tl2_406)) rfl B
                                      have hPS : PS dI k T K qa cp2_405 tl2_406 := z_407
                                      exfalso; omega
                                  · have zc_399 : (whZ T v pq aq) < 0 := jnle (a := 0) (b := (whZ T v pq aq)) (by omega) (by omega) c_399
                                    refine lv_iconst (v := iI 0) hx hb dL_isTold_302 (by decide) ?_
                                    refine lv_goto (tgt := 323) hx hb dL_isTold_303 (by decide) ?_
                                    refine lv_istore (lv' := [(11, .int (iI 0)), (10, .int (iI (whZ T v pq aq))), (9, .int (iI aq)), (3, .int (iI 1)), (7, .long (lI (byZ T v (dgN T v) pq))), (6, .int (iI eb)), (5, .int (iI (LCz T v (dgN T v) pq))), (4, .int (iI pq)), (0, .ref qa), (1, .int (iI v)), (2, .int (iI xx))]) hx hb dL_isTold_323 hl (by decide) rfl (fun ls hl => ?_)
                                    refine lv_iload hx hb dL_isTold_325 (lv_at hl 1 rfl) ?_
                                    refine lv_if_ge (tgt := 344) hx hb dL_isTold_327 (by decide) (fun c_424 => ?_) (fun c_424 => ?_)
                                    · have zc_424 : 0 ≤ (whZ T v pq aq) := jle (a := 0) (b := (whZ T v pq aq)) (by omega) (by omega) c_424
                                      exfalso; omega
                                    · have zc_424 : (whZ T v pq aq) < 0 := jnle (a := 0) (b := (whZ T v pq aq)) (by omega) (by omega) c_424
                                      refine lv_iload hx hb dL_isTold_330 (lv_at hl 1 rfl) ?_
                                      refine lv_iconst (v := iI (-1)) hx hb dL_isTold_332 (by decide) ?_
                                      refine lv_icmp_ne (tgt := 340) hx hb dL_isTold_333 (by decide) (fun c_425 => ?_) (fun c_425 => ?_)
                                      · have zc_425 : (whZ T v pq aq) ≠ (-1) := jne (a := (whZ T v pq aq)) (b := (-1)) (by omega) (by omega) c_425
                                        exfalso; omega
                                      · have zc_425 : (whZ T v pq aq) = (-1) := jeq (a := (whZ T v pq aq)) (b := (-1)) (by omega) (by omega) c_425
                                        refine lv_iconst (v := iI 1) hx hb dL_isTold_336 (by decide) ?_
                                        refine lv_goto (tgt := 384) hx hb dL_isTold_337 (by decide) ?_
                                        refine lv_istore_n (lv' := [(3, .int (iI 1)), (11, .int (iI 0)), (10, .int (iI (whZ T v pq aq))), (9, .int (iI aq)), (7, .long (lI (byZ T v (dgN T v) pq))), (6, .int (iI eb)), (5, .int (iI (LCz T v (dgN T v) pq))), (4, .int (iI pq)), (0, .ref qa), (1, .int (iI v)), (2, .int (iI xx))]) hx hb dL_isTold_384 rfl hl (by decide) rfl (fun ls hl => ?_)
                                        refine lv_iinc (v := iI (aq + 1)) (lv' := [(9, .int (iI (aq + 1))), (3, .int (iI 1)), (11, .int (iI 0)), (10, .int (iI (whZ T v pq aq))), (7, .long (lI (byZ T v (dgN T v) pq))), (6, .int (iI eb)), (5, .int (iI (LCz T v (dgN T v) pq))), (4, .int (iI pq)), (0, .ref qa), (1, .int (iI v)), (2, .int (iI xx))]) hx hb dL_isTold_385 hl (k := 3) rfl (iI_add _ _) (by decide) rfl (fun ls hl => ?_)
                                        refine lv_goto (tgt := 271) hx hb dL_isTold_388 (by decide) ?_
                                        refine W.widen (k := ((cp2_389 - cp) + (2 + (300 * Int.toNat pq) + 152 + (4 * Int.toNat (aq + 1))))) (n := ((12 * (cp2_389 - cp)) + (6 * (2 + (300 * Int.toNat pq) + 152 + (4 * Int.toNat (aq + 1)))))) (by omega) (by omega) ?_
                                        exact ih_376 ((aq + 1), cp2_389, tl2_390) ⟨(show 0 ≤ (aq + 1) ∧ (aq + 1) ≤ T 3 pq 0 0 from (by omega)), (show PS dI k T K qa cp2_389 tl2_390 from hPS), (show cp ≤ cp2_389 ∧ cp2_389 ≤ 131072 from (by omega))⟩ (by first | omega | (dsimp only; omega)) _ _ _ (lv_sub hl [0, 1, 4, 5, 6, 7, 8, 9, 10] rfl) (bd_to rfl B)
                                · skip
                                  rw [hw9] at B; clear hw9
                                  have B := bd_to (ws' := ([] ++ tl2_395)) rfl B
                                  have hPS : PS dI k T K qa cp2_394 tl2_395 := z_396
                                  exfalso; omega
                            · skip
                              rw [hw9] at B; clear hw9
                              have B := bd_to (ws' := ([] ++ tl2_384)) rfl B
                              have hPS : PS dI k T K qa cp2_383 tl2_384 := z_385
                              exfalso; omega
                        · skip
                          rw [hw9] at B; clear hw9
                          have B := bd_to (ws' := ([] ++ tl2_370)) rfl B
                          have hPS : PS dI k T K qa cp2_369 tl2_370 := z_371
                          exfalso; omega
                      · have zc_363 : (LCz T v (dgN T v) pq) = 0 := jeq (a := (LCz T v (dgN T v) pq)) (b := 0) (by omega) (by omega) c_363
                        exfalso; omega
                  · refine lv_seti (y := iI 1) (congrArg iI (show cmpZ (byZ T v (dgN T v) pq) (-1) = 1 from (if_neg (by omega)).trans (if_neg (by omega)))) ?_
                    exfalso; omega
              · skip
                rw [hw9] at B; clear hw9
                have B := bd_to (ws' := ([] ++ tl2_228)) rfl B
                have hPS : PS dI k T K qa cp2_227 tl2_228 := z_229
                exfalso; omega
        · skip
          rw [hw9] at B; clear hw9
          have B := bd_to (ws' := ([] ++ tl2_138)) rfl B
          have hPS : PS dI k T K qa cp2_137 tl2_138 := z_139
          exfalso; omega
      · have zc_131 : kq < (LCz T v (dgN T v) pq) := jnle (a := (LCz T v (dgN T v) pq)) (b := kq) (by omega) (by omega) c_131
        refine lv_iload_n hx hb dL_isTold_40 rfl (lv_at hl 4 rfl) ?_
        refine lv_if_eq (tgt := 179) hx hb dL_isTold_41 (by decide) (fun c9 => absurd c9 (by decide)) (fun _ => ?_)
        refine lv_aload_n hx hb dL_isTold_44 rfl (lv_at hl 5 rfl) ?_
        refine lv_iload_n hx hb dL_isTold_45 rfl (lv_at hl 6 rfl) ?_
        refine lv_iload hx hb dL_isTold_46 (lv_at hl 3 rfl) ?_
        refine lv_iload hx hb dL_isTold_48 (lv_at hl 0 rfl) ?_
        obtain ⟨he1, he2, he3, he4⟩ := hle kq (by omega) (by omega)
        have htd := tdv_f (a := eb) (b := 10)
        have B := bd_swap (a := []) (b := []) (d := tl4) (bd_to rfl B)
        refine k_W (rest := []) (wc := ([] ++ tl4)) (wr := []) (w_lineEnd l dC dI k hl0 T K qa cp4 tl4 v pq kq hPS hQ (by omega) (by omega) (by omega)) B mW_L_lineEnd mw_1675 hl ⟨Nat.le_of_ble_eq_true rfl, Nat.le_of_ble_eq_true rfl⟩ (Nat.le_of_ble_eq_true rfl) rfl dL_isTold_50 ⟨by dsimp only; omega, by dsimp only; omega⟩ (fun r w gc gs H locs hp B => ?_)
        rcases hp with ⟨cp2_426, tl2_427, z_428, z_429, z_430, rfl, hw9, rfl, rfl⟩ | ⟨cp2_431, tl2_432, z_433, z_434, z_435, rfl, hw9, rfl, rfl⟩
        · skip
          rw [hw9] at B; clear hw9
          have B := bd_to (ws' := ([] ++ tl2_427)) rfl B
          have hPS : PS dI k T K qa cp2_426 tl2_427 := z_428
          refine W.widen (k := ((cp2_426 - cp) + (2 + (300 * Int.toNat pq) + 2 + (3 * Int.toNat kq) + 1))) (n := ((12 * (cp2_426 - cp)) + (6 * (2 + (300 * Int.toNat pq) + 2 + (3 * Int.toNat kq) + 1)))) (by omega) (by omega) ?_
          refine lv_istore (lv' := [(8, .int (iI (LEz T v (dgN T v) pq kq))), (7, .int (iI kq)), (6, .int (iI eb)), (5, .int (iI (LCz T v (dgN T v) pq))), (4, .int (iI pq)), (3, .int (iI 1)), (0, .ref qa), (1, .int (iI v)), (2, .int (iI xx))]) hx hb dL_isTold_53 hl (by decide) rfl (fun ls hl => ?_)
          refine lv_iload hx hb dL_isTold_55 (lv_at hl 0 rfl) ?_
          refine lv_bipush (v := iI 10) hx hb dL_isTold_57 (by decide) ?_
          refine y_rem hx hb (a := (LEz T v (dgN T v) pq kq)) (b := 10) (by omega) (by omega) dL_isTold_59 ?_
          refine lv_istore (lv' := [(9, .int (iI ((LEz T v (dgN T v) pq kq) % 10))), (8, .int (iI (LEz T v (dgN T v) pq kq))), (7, .int (iI kq)), (6, .int (iI eb)), (5, .int (iI (LCz T v (dgN T v) pq))), (4, .int (iI pq)), (3, .int (iI 1)), (0, .ref qa), (1, .int (iI v)), (2, .int (iI xx))]) hx hb dL_isTold_60 hl (by decide) rfl (fun ls hl => ?_)
          refine lv_aload_n hx hb dL_isTold_62 rfl (lv_at hl 7 rfl) ?_
          refine lv_iload_n hx hb dL_isTold_63 rfl (lv_at hl 8 rfl) ?_
          refine lv_iload hx hb dL_isTold_64 (lv_at hl 5 rfl) ?_
          refine lv_iload hx hb dL_isTold_66 (lv_at hl 2 rfl) ?_
          have B := bd_swap (a := []) (b := []) (d := tl2_427) (bd_to rfl B)
          refine k_W (rest := []) (wc := ([] ++ tl2_427)) (wr := []) (w_tight l dC dI k hl0 T K qa cp2_426 tl2_427 v pq kq z_428 hQ (by omega) (by omega) (by omega)) B mW_L_tight mw_1687 hl ⟨Nat.le_of_ble_eq_true rfl, Nat.le_of_ble_eq_true rfl⟩ (Nat.le_of_ble_eq_true rfl) rfl dL_isTold_68 ⟨by dsimp only; omega, by dsimp only; omega⟩ (fun r w gc gs H locs hp B => ?_)
          rcases hp with ⟨cp2_436, tl2_437, z_438, z_439, z_440, rfl, hw9, rfl, rfl⟩ | ⟨cp2_441, tl2_442, z_443, z_444, z_445, rfl, hw9, rfl, rfl⟩
          · skip
            rw [hw9] at B; clear hw9
            have B := bd_to (ws' := ([] ++ tl2_437)) rfl B
            have hPS : PS dI k T K qa cp2_436 tl2_437 := z_438
            refine W.widen (k := ((cp2_436 - cp) + (2 + (300 * Int.toNat pq) + 2 + (3 * Int.toNat kq) + 2))) (n := ((12 * (cp2_436 - cp)) + (6 * (2 + (300 * Int.toNat pq) + 2 + (3 * Int.toNat kq) + 2)))) (by omega) (by omega) ?_
            refine lv_istore (lv' := [(10, .int (iI (LKz T v (dgN T v) pq kq))), (9, .int (iI ((LEz T v (dgN T v) pq kq) % 10))), (8, .int (iI (LEz T v (dgN T v) pq kq))), (7, .int (iI kq)), (6, .int (iI eb)), (5, .int (iI (LCz T v (dgN T v) pq))), (4, .int (iI pq)), (3, .int (iI 1)), (0, .ref qa), (1, .int (iI v)), (2, .int (iI xx))]) hx hb dL_isTold_71 hl (by decide) rfl (fun ls hl => ?_)
            refine k_joinG (σ := Nat × va_W) B 163 (fun g9 : Nat × va_W => (PS dI k T K qa g9.1 g9.2) ∧ (cp ≤ g9.1 ∧ g9.1 ≤ 131072)) (fun g9 : Nat × va_W => [(10, .int (iI (LKz T v (dgN T v) pq kq))), (9, .int (iI ((LEz T v (dgN T v) pq kq) % 10))), (8, .int (iI (LEz T v (dgN T v) pq kq))), (7, .int (iI kq)), (6, .int (iI eb)), (5, .int (iI (LCz T v (dgN T v) pq))), (4, .int (iI pq)), (3, .int (iI 1)), (0, .ref qa), (1, .int (iI v)), (2, .int (iI xx))]) (fun g9 : Nat × va_W => ([] ++ g9.2)) (fun g9 : Nat × va_W => ((g9.1 - cp) + (2 + (300 * Int.toNat pq) + 2 + (3 * Int.toNat kq) + 3))) (fun g9 : Nat × va_W => ((12 * (g9.1 - cp)) + (6 * (2 + (300 * Int.toNat pq) + 2 + (3 * Int.toNat kq) + 3)))) (fun g9 : Nat × va_W => []) ?_ (fun J_446 => ?_)
            · clear hl B
              rintro ⟨cp5, tl5⟩ ⟨hPS, hc5⟩ ls H locs hl B
              have hPS : PS dI k T K qa cp5 tl5 := hPS
              have hc5 : cp ≤ cp5 ∧ cp5 ≤ 131072 := hc5
              show W p l e _ s m args below meth c H locs (((cp5 - cp) + (2 + (300 * Int.toNat pq) + 2 + (3 * Int.toNat kq) + 3))) (((12 * (cp5 - cp)) + (6 * (2 + (300 * Int.toNat pq) + 2 + (3 * Int.toNat kq) + 3)))) _ _
              have hl : lv_has ls 12 [(10, .int (iI (LKz T v (dgN T v) pq kq))), (9, .int (iI ((LEz T v (dgN T v) pq kq) % 10))), (8, .int (iI (LEz T v (dgN T v) pq kq))), (7, .int (iI kq)), (6, .int (iI eb)), (5, .int (iI (LCz T v (dgN T v) pq))), (4, .int (iI pq)), (3, .int (iI 1)), (0, .ref qa), (1, .int (iI v)), (2, .int (iI xx))] := hl
              have B := bd_to (ws' := ([] ++ tl5)) rfl B
              refine lv_iconst (v := iI 1) hx hb dL_isTold_163 (by decide) ?_
              refine lv_goto (tgt := 168) hx hb dL_isTold_164 (by decide) ?_
              refine lv_istore_n (lv' := [(3, .int (iI 1)), (10, .int (iI (LKz T v (dgN T v) pq kq))), (9, .int (iI ((LEz T v (dgN T v) pq kq) % 10))), (8, .int (iI (LEz T v (dgN T v) pq kq))), (7, .int (iI kq)), (6, .int (iI eb)), (5, .int (iI (LCz T v (dgN T v) pq))), (4, .int (iI pq)), (0, .ref qa), (1, .int (iI v)), (2, .int (iI xx))]) hx hb dL_isTold_168 rfl hl (by decide) rfl (fun ls hl => ?_)
              refine lv_iload hx hb dL_isTold_169 (lv_at hl 3 rfl) ?_
              refine lv_istore (lv' := [(6, .int (iI (LEz T v (dgN T v) pq kq))), (3, .int (iI 1)), (10, .int (iI (LKz T v (dgN T v) pq kq))), (9, .int (iI ((LEz T v (dgN T v) pq kq) % 10))), (8, .int (iI (LEz T v (dgN T v) pq kq))), (7, .int (iI kq)), (5, .int (iI (LCz T v (dgN T v) pq))), (4, .int (iI pq)), (0, .ref qa), (1, .int (iI v)), (2, .int (iI xx))]) hx hb dL_isTold_171 hl (by decide) rfl (fun ls hl => ?_)
              refine lv_iinc (v := iI (kq + 1)) (lv' := [(7, .int (iI (kq + 1))), (6, .int (iI (LEz T v (dgN T v) pq kq))), (3, .int (iI 1)), (10, .int (iI (LKz T v (dgN T v) pq kq))), (9, .int (iI ((LEz T v (dgN T v) pq kq) % 10))), (8, .int (iI (LEz T v (dgN T v) pq kq))), (5, .int (iI (LCz T v (dgN T v) pq))), (4, .int (iI pq)), (0, .ref qa), (1, .int (iI v)), (2, .int (iI xx))]) hx hb dL_isTold_173 hl (k := 5) rfl (iI_add _ _) (by decide) rfl (fun ls hl => ?_)
              refine lv_goto (tgt := 33) hx hb dL_isTold_176 (by decide) ?_
              refine W.widen (k := ((cp5 - cp) + (2 + (300 * Int.toNat pq) + 2 + (3 * Int.toNat (kq + 1))))) (n := ((12 * (cp5 - cp)) + (6 * (2 + (300 * Int.toNat pq) + 2 + (3 * Int.toNat (kq + 1)))))) (by omega) (by omega) ?_
              exact ih_130 ((kq + 1), (LEz T v (dgN T v) pq kq), cp5, tl5) ⟨(show 0 ≤ (kq + 1) ∧ (kq + 1) ≤ LCz T v (dgN T v) pq from (by omega)), (show PS dI k T K qa cp5 tl5 from hPS), (show cp ≤ cp5 ∧ cp5 ≤ 131072 from hc5), (show ((kq + 1) = 0 ∧ (LEz T v (dgN T v) pq kq) = -1) ∨ (0 < (kq + 1) ∧ (LEz T v (dgN T v) pq kq) = LEz T v (dgN T v) pq ((kq + 1) - 1)) from (Or.inr ⟨by omega, by rw [show kq + 1 - 1 = kq by omega]⟩))⟩ (by first | omega | (dsimp only; omega)) _ _ _ (lv_sub hl [0, 1, 6, 7, 2, 8, 9, 10] rfl) (bd_to rfl B)
            refine k_joinG (σ := Nat × va_W) B 127 (fun g9 : Nat × va_W => (PS dI k T K qa g9.1 g9.2) ∧ (cp ≤ g9.1 ∧ g9.1 ≤ 131072)) (fun g9 : Nat × va_W => [(10, .int (iI (LKz T v (dgN T v) pq kq))), (9, .int (iI ((LEz T v (dgN T v) pq kq) % 10))), (8, .int (iI (LEz T v (dgN T v) pq kq))), (7, .int (iI kq)), (6, .int (iI eb)), (5, .int (iI (LCz T v (dgN T v) pq))), (4, .int (iI pq)), (3, .int (iI 1)), (0, .ref qa), (1, .int (iI v)), (2, .int (iI xx))]) (fun g9 : Nat × va_W => ([] ++ g9.2)) (fun g9 : Nat × va_W => ((g9.1 - cp) + (2 + (300 * Int.toNat pq) + 2 + (3 * Int.toNat kq) + 2))) (fun g9 : Nat × va_W => ((12 * (g9.1 - cp)) + (6 * (2 + (300 * Int.toNat pq) + 2 + (3 * Int.toNat kq) + 2)))) (fun g9 : Nat × va_W => []) ?_ (fun J_447 => ?_)
            · clear hl B
              rintro ⟨cp7, tl7⟩ ⟨hPS, hc7⟩ ls H locs hl B
              have hPS : PS dI k T K qa cp7 tl7 := hPS
              have hc7 : cp ≤ cp7 ∧ cp7 ≤ 131072 := hc7
              show W p l e _ s m args below meth c H locs (((cp7 - cp) + (2 + (300 * Int.toNat pq) + 2 + (3 * Int.toNat kq) + 2))) (((12 * (cp7 - cp)) + (6 * (2 + (300 * Int.toNat pq) + 2 + (3 * Int.toNat kq) + 2)))) _ _
              have hl : lv_has ls 12 [(10, .int (iI (LKz T v (dgN T v) pq kq))), (9, .int (iI ((LEz T v (dgN T v) pq kq) % 10))), (8, .int (iI (LEz T v (dgN T v) pq kq))), (7, .int (iI kq)), (6, .int (iI eb)), (5, .int (iI (LCz T v (dgN T v) pq))), (4, .int (iI pq)), (3, .int (iI 1)), (0, .ref qa), (1, .int (iI v)), (2, .int (iI xx))] := hl
              have B := bd_to (ws' := ([] ++ tl7)) rfl B
              refine lv_iload hx hb dL_isTold_127 (lv_at hl 0 rfl) ?_
              refine lv_if_lt (tgt := 167) hx hb dL_isTold_129 (by decide) (fun c_448 => ?_) (fun c_448 => ?_)
              · have zc_448 : (LKz T v (dgN T v) pq kq) < 0 := jlt (a := (LKz T v (dgN T v) pq kq)) (b := 0) (by omega) (by omega) c_448
                exfalso; omega
              · have zc_448 : 0 ≤ (LKz T v (dgN T v) pq kq) := jnlt (a := (LKz T v (dgN T v) pq kq)) (b := 0) (by omega) (by omega) c_448
                refine lv_iload hx hb dL_isTold_132 (lv_at hl 0 rfl) ?_
                refine lv_iconst (v := iI 3) hx hb dL_isTold_134 (by decide) ?_
                refine lv_icmp_gt (tgt := 167) hx hb dL_isTold_135 (by decide) (fun c_449 => ?_) (fun c_449 => ?_)
                · have zc_449 : 3 < (LKz T v (dgN T v) pq kq) := jlt (a := 3) (b := (LKz T v (dgN T v) pq kq)) (by omega) (by omega) c_449
                  exfalso; omega
                · have zc_449 : (LKz T v (dgN T v) pq kq) ≤ 3 := jnlt (a := 3) (b := (LKz T v (dgN T v) pq kq)) (by omega) (by omega) c_449
                  refine lv_iload hx hb dL_isTold_138 (lv_at hl 1 rfl) ?_
                  refine lv_if_eq (tgt := 163) hx hb dL_isTold_140 (by decide) (fun c_450 => ?_) (fun c_450 => ?_)
                  · have zc_450 : ((LEz T v (dgN T v) pq kq) % 10) = 0 := jeq (a := ((LEz T v (dgN T v) pq kq) % 10)) (b := 0) (by omega) (by omega) c_450
                    refine W.widen (k := ((cp7 - cp) + (2 + (300 * Int.toNat pq) + 2 + (3 * Int.toNat kq) + 3))) (n := ((12 * (cp7 - cp)) + (6 * (2 + (300 * Int.toNat pq) + 2 + (3 * Int.toNat kq) + 3)))) (by omega) (by omega) ?_
                    exact J_446 (cp7, tl7) ⟨(show PS dI k T K qa cp7 tl7 from hPS), (show cp ≤ cp7 ∧ cp7 ≤ 131072 from hc7)⟩ _ _ _ (lv_sub hl [0, 1, 2, 3, 4, 5, 6, 7, 8, 9, 10] rfl) (bd_to rfl B)
                  · have zc_450 : ((LEz T v (dgN T v) pq kq) % 10) ≠ 0 := jne (a := ((LEz T v (dgN T v) pq kq) % 10)) (b := 0) (by omega) (by omega) c_450
                    refine lv_aload_n hx hb dL_isTold_143 rfl (lv_at hl 8 rfl) ?_
                    refine lv_iload hx hb dL_isTold_144 (lv_at hl 6 rfl) ?_
                    refine lv_iload hx hb dL_isTold_146 (lv_at hl 2 rfl) ?_
                    refine lv_bipush (v := iI 10) hx hb dL_isTold_148 (by decide) ?_
                    refine y_div hx hb (a := (LEz T v (dgN T v) pq kq)) (b := 10) (by omega) (by omega) dL_isTold_150 ?_
                    have he5 := he3 (by omega)
                    have z_451 : 0 ≤ T 8 pq ((LEz T v (dgN T v) pq kq) / 10) 0 ∧ T 8 pq ((LEz T v (dgN T v) pq kq) / 10) 0 < 64 := TK_gap hQ.1 _ _
                    have B := bd_swap (a := []) (b := []) (d := tl7) (bd_to rfl B)
                    refine k_W (rest := []) (wc := ([] ++ tl7)) (wr := []) (w_gaps l dC dI k hl0 T K qa cp7 tl7 pq ((LEz T v (dgN T v) pq kq) / 10) hPS hQ (by omega) (by omega)) B mW_L_gaps mw_1273 hl ⟨Nat.le_of_ble_eq_true rfl, Nat.le_of_ble_eq_true rfl⟩ (Nat.le_of_ble_eq_true rfl) rfl dL_isTold_151 ⟨by dsimp only; omega, by dsimp only; omega⟩ (fun r w gc gs H locs hp B => ?_)
                    rcases hp with ⟨cp2_452, tl2_453, z_454, z_455, z_456, rfl, hw9, rfl, rfl⟩ | ⟨cp2_457, tl2_458, z_459, z_460, z_461, rfl, hw9, rfl, rfl⟩
                    · skip
                      rw [hw9] at B; clear hw9
                      have B := bd_to (ws' := ([] ++ tl2_453)) rfl B
                      have hPS : PS dI k T K qa cp2_452 tl2_453 := z_454
                      refine W.widen (k := ((cp2_452 - cp) + (2 + (300 * Int.toNat pq) + 2 + (3 * Int.toNat kq) + 3))) (n := ((12 * (cp2_452 - cp)) + (6 * (2 + (300 * Int.toNat pq) + 2 + (3 * Int.toNat kq) + 3)))) (by omega) (by omega) ?_
                      refine lv_iload hx hb dL_isTold_154 (lv_at hl 1 rfl) ?_
                      refine y_shr hx hb (a := (T 8 pq ((LEz T v (dgN T v) pq kq) / 10) 0)) (b := ((LEz T v (dgN T v) pq kq) % 10)) (by omega) (by omega) dL_isTold_156 ?_
                      have z_462 : 0 ≤ (bShr (T 8 pq ((LEz T v (dgN T v) pq kq) / 10) 0) ((LEz T v (dgN T v) pq kq) % 10)) ∧ (bShr (T 8 pq ((LEz T v (dgN T v) pq kq) / 10) 0) ((LEz T v (dgN T v) pq kq) % 10)) ≤ (T 8 pq ((LEz T v (dgN T v) pq kq) / 10) 0) := bShr_le (by omega)
                      refine lv_iconst (v := iI 1) hx hb dL_isTold_157 (by decide) ?_
                      refine y_and hx hb (a := (bShr (T 8 pq ((LEz T v (dgN T v) pq kq) / 10) 0) ((LEz T v (dgN T v) pq kq) % 10))) (b := 1) (by omega) (by omega) dL_isTold_158 ?_
                      have z_463 : 0 ≤ (bAnd (bShr (T 8 pq ((LEz T v (dgN T v) pq kq) / 10) 0) ((LEz T v (dgN T v) pq kq) % 10)) 1) ∧ (bAnd (bShr (T 8 pq ((LEz T v (dgN T v) pq kq) / 10) 0) ((LEz T v (dgN T v) pq kq) % 10)) 1) ≤ (bShr (T 8 pq ((LEz T v (dgN T v) pq kq) / 10) 0) ((LEz T v (dgN T v) pq kq) % 10)) := bAnd_le (by omega)
                      have z_464 : 0 ≤ (bAnd (bShr (T 8 pq ((LEz T v (dgN T v) pq kq) / 10) 0) ((LEz T v (dgN T v) pq kq) % 10)) 1) ∧ (bAnd (bShr (T 8 pq ((LEz T v (dgN T v) pq kq) / 10) 0) ((LEz T v (dgN T v) pq kq) % 10)) 1) ≤ 1 := bAnd_le' (by omega)
                      refine lv_iconst (v := iI 1) hx hb dL_isTold_159 (by decide) ?_
                      refine lv_icmp_ne (tgt := 167) hx hb dL_isTold_160 (by decide) (fun c_465 => ?_) (fun c_465 => ?_)
                      · have zc_465 : (bAnd (bShr (T 8 pq ((LEz T v (dgN T v) pq kq) / 10) 0) ((LEz T v (dgN T v) pq kq) % 10)) 1) ≠ 1 := jne (a := (bAnd (bShr (T 8 pq ((LEz T v (dgN T v) pq kq) / 10) 0) ((LEz T v (dgN T v) pq kq) % 10)) 1)) (b := 1) (by omega) (by omega) c_465
                        exfalso; omega
                      · have zc_465 : (bAnd (bShr (T 8 pq ((LEz T v (dgN T v) pq kq) / 10) 0) ((LEz T v (dgN T v) pq kq) % 10)) 1) = 1 := jeq (a := (bAnd (bShr (T 8 pq ((LEz T v (dgN T v) pq kq) / 10) 0) ((LEz T v (dgN T v) pq kq) % 10)) 1)) (b := 1) (by omega) (by omega) c_465
                        refine W.widen (k := ((cp2_452 - cp) + (2 + (300 * Int.toNat pq) + 2 + (3 * Int.toNat kq) + 3))) (n := ((12 * (cp2_452 - cp)) + (6 * (2 + (300 * Int.toNat pq) + 2 + (3 * Int.toNat kq) + 3)))) (by omega) (by omega) ?_
                        exact J_446 (cp2_452, tl2_453) ⟨(show PS dI k T K qa cp2_452 tl2_453 from hPS), (show cp ≤ cp2_452 ∧ cp2_452 ≤ 131072 from (by omega))⟩ _ _ _ (lv_sub hl [0, 1, 2, 3, 4, 5, 6, 7, 8, 9, 10] rfl) (bd_to rfl B)
                    · skip
                      rw [hw9] at B; clear hw9
                      have B := bd_to (ws' := ([] ++ tl2_458)) rfl B
                      have hPS : PS dI k T K qa cp2_457 tl2_458 := z_459
                      exfalso; omega
            refine lv_iload hx hb dL_isTold_73 (lv_at hl 2 rfl) ?_
            refine lv_bipush (v := iI 10) hx hb dL_isTold_75 (by decide) ?_
            refine y_div hx hb (a := (LEz T v (dgN T v) pq kq)) (b := 10) (by omega) (by omega) dL_isTold_77 ?_
            refine lv_iload hx hb dL_isTold_78 (lv_at hl 4 rfl) ?_
            refine lv_bipush (v := iI 10) hx hb dL_isTold_80 (by decide) ?_
            refine y_tdv hx hb (a := eb) (b := 10) (by omega) (by omega) dL_isTold_82 ?_
            refine lv_icmp_gt (tgt := 127) hx hb dL_isTold_83 (by decide) (fun c_466 => ?_) (fun c_466 => ?_)
            · have zc_466 : (tdv eb 10) < ((LEz T v (dgN T v) pq kq) / 10) := jlt (a := (tdv eb 10)) (b := ((LEz T v (dgN T v) pq kq) / 10)) (by omega) (by omega) c_466
              refine W.widen (k := ((cp2_436 - cp) + (2 + (300 * Int.toNat pq) + 2 + (3 * Int.toNat kq) + 2))) (n := ((12 * (cp2_436 - cp)) + (6 * (2 + (300 * Int.toNat pq) + 2 + (3 * Int.toNat kq) + 2)))) (by omega) (by omega) ?_
              exact J_447 (cp2_436, tl2_437) ⟨(show PS dI k T K qa cp2_436 tl2_437 from hPS), (show cp ≤ cp2_436 ∧ cp2_436 ≤ 131072 from (by omega))⟩ _ _ _ (lv_sub hl [0, 1, 2, 3, 4, 5, 6, 7, 8, 9, 10] rfl) (bd_to rfl B)
            · have zc_466 : ((LEz T v (dgN T v) pq kq) / 10) ≤ (tdv eb 10) := jnlt (a := (tdv eb 10)) (b := ((LEz T v (dgN T v) pq kq) / 10)) (by omega) (by omega) c_466
              refine lv_iload hx hb dL_isTold_86 (lv_at hl 4 rfl) ?_
              refine lv_if_lt (tgt := 127) hx hb dL_isTold_88 (by decide) (fun c_467 => ?_) (fun c_467 => ?_)
              · have zc_467 : eb < 0 := jlt (a := eb) (b := 0) (by omega) (by omega) c_467
                refine W.widen (k := ((cp2_436 - cp) + (2 + (300 * Int.toNat pq) + 2 + (3 * Int.toNat kq) + 2))) (n := ((12 * (cp2_436 - cp)) + (6 * (2 + (300 * Int.toNat pq) + 2 + (3 * Int.toNat kq) + 2)))) (by omega) (by omega) ?_
                exact J_447 (cp2_436, tl2_437) ⟨(show PS dI k T K qa cp2_436 tl2_437 from hPS), (show cp ≤ cp2_436 ∧ cp2_436 ≤ 131072 from (by omega))⟩ _ _ _ (lv_sub hl [0, 1, 2, 3, 4, 5, 6, 7, 8, 9, 10] rfl) (bd_to rfl B)
              · have zc_467 : 0 ≤ eb := jnlt (a := eb) (b := 0) (by omega) (by omega) c_467
                refine lv_iload hx hb dL_isTold_91 (lv_at hl 2 rfl) ?_
                refine lv_bipush (v := iI 10) hx hb dL_isTold_93 (by decide) ?_
                refine y_div hx hb (a := (LEz T v (dgN T v) pq kq)) (b := 10) (by omega) (by omega) dL_isTold_95 ?_
                refine lv_iload hx hb dL_isTold_96 (lv_at hl 4 rfl) ?_
                refine lv_bipush (v := iI 10) hx hb dL_isTold_98 (by decide) ?_
                refine y_div hx hb (a := eb) (b := 10) (by omega) (by omega) dL_isTold_100 ?_
                refine lv_icmp_ne (tgt := 167) hx hb dL_isTold_101 (by decide) (fun c_468 => ?_) (fun c_468 => ?_)
                · have zc_468 : ((LEz T v (dgN T v) pq kq) / 10) ≠ (eb / 10) := jne (a := ((LEz T v (dgN T v) pq kq) / 10)) (b := (eb / 10)) (by omega) (by omega) c_468
                  exfalso; omega
                · have zc_468 : ((LEz T v (dgN T v) pq kq) / 10) = (eb / 10) := jeq (a := ((LEz T v (dgN T v) pq kq) / 10)) (b := (eb / 10)) (by omega) (by omega) c_468
                  refine lv_iload hx hb dL_isTold_104 (lv_at hl 4 rfl) ?_
                  refine lv_bipush (v := iI 10) hx hb dL_isTold_106 (by decide) ?_
                  refine y_rem hx hb (a := eb) (b := 10) (by omega) (by omega) dL_isTold_108 ?_
                  refine lv_if_le (tgt := 167) hx hb dL_isTold_109 (by decide) (fun c_469 => ?_) (fun c_469 => ?_)
                  · have zc_469 : (eb % 10) ≤ 0 := jle (a := (eb % 10)) (b := 0) (by omega) (by omega) c_469
                    exfalso; omega
                  · have zc_469 : 0 < (eb % 10) := jnle (a := (eb % 10)) (b := 0) (by omega) (by omega) c_469
                    refine lv_iload hx hb dL_isTold_112 (lv_at hl 1 rfl) ?_
                    refine lv_if_eq (tgt := 127) hx hb dL_isTold_114 (by decide) (fun c_470 => ?_) (fun c_470 => ?_)
                    · have zc_470 : ((LEz T v (dgN T v) pq kq) % 10) = 0 := jeq (a := ((LEz T v (dgN T v) pq kq) % 10)) (b := 0) (by omega) (by omega) c_470
                      refine W.widen (k := ((cp2_436 - cp) + (2 + (300 * Int.toNat pq) + 2 + (3 * Int.toNat kq) + 2))) (n := ((12 * (cp2_436 - cp)) + (6 * (2 + (300 * Int.toNat pq) + 2 + (3 * Int.toNat kq) + 2)))) (by omega) (by omega) ?_
                      exact J_447 (cp2_436, tl2_437) ⟨(show PS dI k T K qa cp2_436 tl2_437 from hPS), (show cp ≤ cp2_436 ∧ cp2_436 ≤ 131072 from (by omega))⟩ _ _ _ (lv_sub hl [0, 1, 2, 3, 4, 5, 6, 7, 8, 9, 10] rfl) (bd_to rfl B)
                    · have zc_470 : ((LEz T v (dgN T v) pq kq) % 10) ≠ 0 := jne (a := ((LEz T v (dgN T v) pq kq) % 10)) (b := 0) (by omega) (by omega) c_470
                      refine lv_iload hx hb dL_isTold_117 (lv_at hl 1 rfl) ?_
                      refine lv_iload hx hb dL_isTold_119 (lv_at hl 4 rfl) ?_
                      refine lv_bipush (v := iI 10) hx hb dL_isTold_121 (by decide) ?_
                      refine y_rem hx hb (a := eb) (b := 10) (by omega) (by omega) dL_isTold_123 ?_
                      refine lv_icmp_le (tgt := 167) hx hb dL_isTold_124 (by decide) (fun c_471 => ?_) (fun c_471 => ?_)
                      · have zc_471 : ((LEz T v (dgN T v) pq kq) % 10) ≤ (eb % 10) := jle (a := ((LEz T v (dgN T v) pq kq) % 10)) (b := (eb % 10)) (by omega) (by omega) c_471
                        exfalso; omega
                      · have zc_471 : (eb % 10) < ((LEz T v (dgN T v) pq kq) % 10) := jnle (a := ((LEz T v (dgN T v) pq kq) % 10)) (b := (eb % 10)) (by omega) (by omega) c_471
                        refine W.widen (k := ((cp2_436 - cp) + (2 + (300 * Int.toNat pq) + 2 + (3 * Int.toNat kq) + 2))) (n := ((12 * (cp2_436 - cp)) + (6 * (2 + (300 * Int.toNat pq) + 2 + (3 * Int.toNat kq) + 2)))) (by omega) (by omega) ?_
                        exact J_447 (cp2_436, tl2_437) ⟨(show PS dI k T K qa cp2_436 tl2_437 from hPS), (show cp ≤ cp2_436 ∧ cp2_436 ≤ 131072 from (by omega))⟩ _ _ _ (lv_sub hl [0, 1, 2, 3, 4, 5, 6, 7, 8, 9, 10] rfl) (bd_to rfl B)
          · skip
            rw [hw9] at B; clear hw9
            have B := bd_to (ws' := ([] ++ tl2_442)) rfl B
            have hPS : PS dI k T K qa cp2_441 tl2_442 := z_443
            exfalso; omega
        · skip
          rw [hw9] at B; clear hw9
          have B := bd_to (ws' := ([] ++ tl2_432)) rfl B
          have hPS : PS dI k T K qa cp2_431 tl2_432 := z_433
          exfalso; omega
    · skip
      rw [hw9] at B; clear hw9
      have B := bd_to (ws' := ([] ++ tl2_126)) rfl B
      have hPS : PS dI k T K qa cp2_125 tl2_126 := z_127
      exfalso; omega

end
